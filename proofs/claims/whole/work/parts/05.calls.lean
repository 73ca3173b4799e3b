/-! Own rows: contracts over numbered cells, entry, returns, calls. -/
def ow_Y0 : ow_Yt := fun _ _ ad0 ad _ => ad = ad0
def ow_Qc (ad : Nat → Nat) (D : va_G) (cs : ow_CS) (A : Nat → Prop) (n0 : Nat) (Q : Option Value → ow_H → Prop) : Array Value → State → Outcome → State → Prop := fun _ st oc t =>
  (∃ (r : Option Value) (h' : ow_H), oc = .returned (r.map (ow_tv ad)) ∧ Q r h' ∧ h'.1 = n0 ∧ va_P D ow_cl (ow_W ad cs h') t.heap ∧ va_K D ow_cl (ow_tys cs) t ∧ va_D A (ow_W ad cs h')) ∧ va_F A st t
def ow_Z (Q : Option Value → ow_H → Prop) : ow_Zt := fun _ _ _ _ s _ args below ad0 n0 D cs A => MQ below (ow_Qc ad0 D cs A n0 Q) args s 0 0 A
def ow_Pre (ad : Nat → Nat) (D : va_G) (cs : ow_CS) (h : ow_H) (sz : Nat) (U : State) : Prop :=
  U.heap.size = sz ∧ va_P D ow_cl (ow_W ad cs h) U.heap ∧ va_K D ow_cl (ow_tys cs) U ∧ va_D (fun _ => True) (ow_W ad cs h) ∧ ow_S ad (va_A (ow_W ad cs h) sz) U
def ow_room (d : Nat) : Room := { frames := d, cells := 0, slots := 0, locals := 41 * d }
def ow_ws (M : ow_M) : List Cond := Cond.code M.1 M.2.1 M.2.2.1 M.2.2.2 :: ow_tb
/-- the contract: from the cells h the method M, called with av, comes back, and Q holds of its answer and of the cells then -/
def ow_AM (M : ow_M) (d : Nat) (av : List Value) (h : ow_H) (Q : Option Value → ow_H → Prop) : Prop :=
  ∀ (l : Launch) (ad : Nat → Nat) (D : va_G) (cs : ow_CS) (sz : Nat), h.1 ≤ 900 →
    Met l M.1 (ow_ws M) (ow_room d) (va_Pc (av.map (ow_tv ad)) (ow_Pre ad D cs h sz)) (ow_Qc ad D cs (va_A (ow_W ad cs h) sz) h.1 Q) 0 0 (va_A (ow_W ad cs h) sz)
theorem ow_lvargs (ad : Nat → Nat) : ∀ (vs : List Value) (i : Nat), lv_args i (vs.map (ow_tv ad)) = (lv_args i vs).map (ow_tp ad) := by
  intro vs
  induction vs with
  | nil => intro i; rfl
  | cons v vs ih =>
    intro i
    show (i, ow_tv ad v) :: lv_args (if (ow_tv ad v).category = 2 then i + 2 else i + 1) (vs.map (ow_tv ad)) = ow_tp ad (i, v) :: (lv_args (if v.category = 2 then i + 2 else i + 1) vs).map (ow_tp ad)
    rw [ow_tv_cat, ih]
    rfl
theorem ow_lgsl (ad : Nat → Nat) : ∀ vs : List Value, (lg_sl (vs.map (ow_tv ad))).length = (lg_sl vs).length := by
  intro vs
  induction vs with
  | nil => rfl
  | cons v vs ih =>
    unfold lg_sl at ih ⊢
    rw [List.map_cons, List.flatMap_cons, List.flatMap_cons, List.length_append, List.length_append, ih, ow_tv_cat]
    congr 1
    by_cases hv : v.category = 2
    · rw [if_pos hv, if_pos hv]; rfl
    · rw [if_neg hv, if_neg hv]; rfl
theorem ow_enter {M : ow_M} {d : Nat} {av : List Value} {h : ow_H} {Q : Option Value → ow_H → Prop} (hp : plainName M.1.cls = true) (hlen : (lg_sl av).length ≤ M.2.2.1) (kk : ow_AW ow_Y0 (ow_Z Q) M d 0 0 0 (lv_args 0 av) [] h 0 0) : ow_AM M d av h Q := by
  intro l ad D cs sz h9
  refine Met.ofW (cc := M.2.1) (maxL := M.2.2.1) (ret := M.2.2.2) hp rfl ?_
  intro p e s m args below meth c s₁ B hml hv
  obtain ⟨rfl, hsz, hP, hK, hD0, hSt⟩ := hv
  subst hsz
  have hD := hD0.self (sz := s.heap.size)
  have hts := atoms_spec (ws := ow_ws M) B.pre
  have hown : s.vm.findClass M.1.cls = some m.cls := findClass_of_methodNamed B.named
  have hin : meth.name = M.1.name := (name_of_methodNamed B.named B.method).1
  have hl := lv_entry (av.map (ow_tv ad)) (n := M.2.2.1) (by rw [ow_lgsl]; exact hlen)
  rw [ow_lvargs] at hl
  rw [lg_entry_eq]
  exact kk p l e _ s m _ below meth c ad ad h.1 D cs _ s.heap [] _ ⟨B.exec, B.bytes, B.returns, hml, hown, fun w hw => hts w (List.mem_cons_of_mem _ hw), B.notSynchronized, hin⟩ rfl ⟨Nat.le_refl _, Nat.le_refl _, Nat.le_refl _, Nat.le_refl _⟩ hSt ⟨hK, hP, hD, va_S.rf, fun q hq => Or.inr hq, fun _ _ => rfl, Nat.le_refl _, h9, Nat.le_refl _⟩ hl
section OWRET
variable {M : ow_M} {d pc : Nat} {ls : List (Nat × Value)} {h : ow_H} {Q : Option Value → ow_H → Prop}
theorem ow_iret {x : Int32} (hd : decode M.2.1 pc = .ok (.ireturn, 1)) (hr : M.2.2.2 = some .int) (hq : Q (some (.int x)) h) : ow_AW ow_Y0 (ow_Z Q) M d 0 0 pc ls [.int x] h 0 0 := by
  intro p l e R s m args below meth c ad0 ad n0 D cs A H locs lsA C hY hR hSt hX hl
  obtain ⟨hx, hb, hrt, hml, hown, hts, hlk, hnm⟩ := C
  obtain ⟨hK, hP, hD, hS, hA, had, hn0, hn9, hnk⟩ := hX
  have hY : ad = ad0 := hY
  subst hY
  exact W.iret hx hb (hrt.trans hr) (fun t ht hW => ⟨⟨some (.int x), h, rfl, hq, by omega, by rw [ht]; exact hP, va_K.moved hW.alike hK, hD⟩, hS.F ht⟩) hS.2.2 hd hlk
theorem ow_zret {x : Int32} (hd : decode M.2.1 pc = .ok (.ireturn, 1)) (hr : M.2.2.2 = some .boolean) (hz : x = 0 ∨ x = 1) (hq : Q (some (.int x)) h) : ow_AW ow_Y0 (ow_Z Q) M d 0 0 pc ls [.int x] h 0 0 := by
  intro p l e R s m args below meth c ad0 ad n0 D cs A H locs lsA C hY hR hSt hX hl
  obtain ⟨hx, hb, hrt, hml, hown, hts, hlk, hnm⟩ := C
  obtain ⟨hK, hP, hD, hS, hA, had, hn0, hn9, hnk⟩ := hX
  have hY : ad = ad0 := hY
  subst hY
  exact W.zret (ty := .boolean) hx hb (hrt.trans hr) (by rcases hz with rfl | rfl <;> rfl) (fun t ht hW => ⟨⟨some (.int x), h, rfl, hq, by omega, by rw [ht]; exact hP, va_K.moved hW.alike hK, hD⟩, hS.F ht⟩) hS.2.2 hd hlk
theorem ow_cret {x : Int32} (hd : decode M.2.1 pc = .ok (.ireturn, 1)) (hr : M.2.2.2 = some .char) (hz : narrow .char (.int x) = .int x) (hq : Q (some (.int x)) h) : ow_AW ow_Y0 (ow_Z Q) M d 0 0 pc ls [.int x] h 0 0 := by
  intro p l e R s m args below meth c ad0 ad n0 D cs A H locs lsA C hY hR hSt hX hl
  obtain ⟨hx, hb, hrt, hml, hown, hts, hlk, hnm⟩ := C
  obtain ⟨hK, hP, hD, hS, hA, had, hn0, hn9, hnk⟩ := hX
  have hY : ad = ad0 := hY
  subst hY
  exact W.zret (ty := .char) hx hb (hrt.trans hr) hz (fun t ht hW => ⟨⟨some (.int x), h, rfl, hq, by omega, by rw [ht]; exact hP, va_K.moved hW.alike hK, hD⟩, hS.F ht⟩) hS.2.2 hd hlk
theorem ow_lret {x : Int64} (hd : decode M.2.1 pc = .ok (.lreturn, 1)) (hr : M.2.2.2 = some .long) (hq : Q (some (.long x)) h) : ow_AW ow_Y0 (ow_Z Q) M d 0 0 pc ls [.long x] h 0 0 := by
  intro p l e R s m args below meth c ad0 ad n0 D cs A H locs lsA C hY hR hSt hX hl
  obtain ⟨hx, hb, hrt, hml, hown, hts, hlk, hnm⟩ := C
  obtain ⟨hK, hP, hD, hS, hA, had, hn0, hn9, hnk⟩ := hX
  have hY : ad = ad0 := hY
  subst hY
  exact W.lret hx hb (hrt.trans hr) (fun t ht hW => ⟨⟨some (.long x), h, rfl, hq, by omega, by rw [ht]; exact hP, va_K.moved hW.alike hK, hD⟩, hS.F ht⟩) hS.2.2 hd hlk
theorem ow_vret (hd : decode M.2.1 pc = .ok (.return_, 1)) (hr : M.2.2.2 = none) (hq : Q none h) : ow_AW ow_Y0 (ow_Z Q) M d 0 0 pc ls [] h 0 0 := by
  intro p l e R s m args below meth c ad0 ad n0 D cs A H locs lsA C hY hR hSt hX hl
  obtain ⟨hx, hb, hrt, hml, hown, hts, hlk, hnm⟩ := C
  obtain ⟨hK, hP, hD, hS, hA, had, hn0, hn9, hnk⟩ := hX
  have hY : ad = ad0 := hY
  subst hY
  exact W.vret hx hb (hrt.trans hr) (fun t ht hW => ⟨⟨none, h, rfl, hq, by omega, by rw [ht]; exact hP, va_K.moved hW.alike hK, hD⟩, hS.F ht⟩) hS.2.2 hd hlk
end OWRET
theorem ow_S_move {ad0 ad : Nat → Nat} {A Ac : Nat → Prop} {s U : State} {H : Heap} {locs : List Loc} (h : ow_S ad0 A s) (had : ∀ i : Nat, 950 ≤ i → ad i = ad0 i) (hS : va_S A s.heap H locs) (hAc : ∀ q, Ac q → A q) (hU : U.heap = H) (hW : s.WarmedH U.vm) : ow_S ad Ac U := by
  obtain ⟨h1, h2, h3, h4⟩ := h
  refine ⟨fun i hi => ?_, fun q hq => ?_, ?_, ?_⟩
  · obtain ⟨a1, a2, a3, a4⟩ := h1 i hi
    rw [had (1000 + i) (by omega), had (1100 + i) (by omega), hU]
    exact ⟨((a1.kept hS.2.1).moved hW.alike).narrow hAc, ((a2.kept hS.2.1).moved hW.alike).narrow hAc, ((a3.kept hS.2.1).moved hW.alike).narrow hAc, ((a4.kept hS.2.1).moved hW.alike).narrow hAc⟩
  · rw [had (1000 + q.2.2.2) (by omega)]
    exact vk_R.warm hW (h2 q hq)
  · rw [hU]
    exact ((h3.kept hS.2.1).moved hW.alike).narrow hAc
  · rw [hU, had 970 (by omega)]
    exact h4.elim (fun z => Or.inl (((z.kept hS.2.1).moved hW.alike).narrow hAc)) (fun z => Or.inr (((z.kept hS.2.1).moved hW.alike).narrow hAc))
theorem ow_blind {av : List Value} {ad : Nat → Nat} {D : va_G} {cs : ow_CS} {h : ow_H} {sz : Nat} : FrameBlind (va_Pc av (ow_Pre ad D cs h sz)) := by
  intro a U g mk q
  obtain ⟨q0, q1, qP, qK, qD, qS⟩ := q
  refine ⟨q0, q1, qP, va_K.moved (u := U) (U := U.calling g mk a) (Vm.Alike.refl U.vm) qK, qD, fun i hi => ?_, fun z hz => vk_R.same (u := U) rfl (qS.2.1 z hz), qS.2.2.1.moved (u := U) (U := U.calling g mk a) (Vm.Alike.refl U.vm), qS.2.2.2.elim (fun z => Or.inl (z.moved (u := U) (U := U.calling g mk a) (Vm.Alike.refl U.vm))) (fun z => Or.inr (z.moved (u := U) (U := U.calling g mk a) (Vm.Alike.refl U.vm)))⟩
  obtain ⟨a1, a2, a3, a4⟩ := qS.1 i hi
  exact ⟨a1.moved (u := U) (U := U.calling g mk a) (Vm.Alike.refl U.vm), a2.moved (u := U) (U := U.calling g mk a) (Vm.Alike.refl U.vm), a3.moved (u := U) (U := U.calling g mk a) (Vm.Alike.refl U.vm), a4.moved (u := U) (U := U.calling g mk a) (Vm.Alike.refl U.vm)⟩
section OWC
variable {Y : ow_Yt} {Z : ow_Zt} {M M2 : ow_M} {d d2 mc ms pc k n : Nat} {ls : List (Nat × Value)} {rest As : List Value} {h : ow_H}
/-- behind a call: the caller goes on where the callee's contract says -/
theorem ow_cont {p : Program} {l : Launch} {e : Env} {R : Room} {s : State} {m : MethodId} {args : Array Value} {below : List Frame} {meth : Method} {c : Code} {ad0 ad : Nat → Nat} {n0 : Nat} {D : va_G} {cs : ow_CS} {A : Nat → Prop} {H : Heap} {locs : List Loc} {lsA : Array Slot} {a : Array Value} {st0 : List Value}
    (C : ow_C M p s m args meth c) (hY : Y s args ad0 ad A) (hR : ow_Rm d mc ms R) (hSt : ow_S ad0 A s) (hX : ow_R s ad0 ad n0 D cs A h H locs k) (hl : lv_has lsA M.2.2.1 (ls.map (ow_tp ad)))
    (hr : va_Run p l e R s m args below meth c H locs k n 0 0 (F0 m pc lsA st0) (rest.map (ow_tv ad)) (ow_Qc ad D cs (va_A (ow_W ad cs h) H.size) h.1 (fun r h' => ow_AW Y Z M d mc ms (pc + 3) ls (r.toList ++ rest) h' k n) a) (va_A (ow_W ad cs h) H.size)) :
    W p l e R s m args below meth c H locs k n (Z p l e R s m args below ad0 n0 D cs A) (F0 m pc lsA st0) := by
  obtain ⟨hK, hP, hD, hS, hA, had, hn0, hn9, hnk⟩ := hX
  have hFc : ∀ q, va_A (ow_W ad cs h) H.size q → A q := by
    intro q hq
    rcases hq with ⟨i, e', hi⟩ | hq
    · exact hD.2 i _ hi
    · exact hA q (Nat.le_trans hS.1 hq)
  intro T hT X
  obtain ⟨v, st₀, t, T', L, h0, X', hL, e1, e2, ⟨⟨r, h', hv, hq, hn', hP1, hK1, hD1⟩, hz, hk⟩, st⟩ := hr T hT X
  cases hv
  rw [h0] at hz hk
  have hS' : va_S A s.heap T'.heap (locs ++ L) := by
    refine ⟨Nat.le_trans hS.1 (by rw [e1]; exact hz), fun q h1 h2 => ?_, fun q hq => ?_⟩
    · rw [e1, hk q (Nat.lt_of_lt_of_le h1 hS.1) (fun z => h2 (hFc q z))]
      exact hS.2.1 q h1 h2
    · rcases List.mem_append.mp hq with h | h
      · exact hS.2.2 q h
      · exact hFc _ (hL q h)
  have K := hq p l e R s m args below meth c ad0 ad n0 D cs A T'.heap (locs ++ L) lsA C hY hR hSt ⟨hK, by rw [e1]; exact hP1, hD1.weaken (fun _ q _ hq => hFc q.1 hq), hS', hA, had, by omega, by omega, by omega⟩ hl
  obtain ⟨t2, a1, b1⟩ := K T' rfl X'
  refine ⟨t2, st t2 ?_, b1⟩
  have e3 : (r.map (ow_tv ad)).toList ++ rest.map (ow_tv ad) = (r.toList ++ rest).map (ow_tv ad) := by
    cases r <;> simp
  show Steps p.tables e below (T'.setTop { F0 m pc lsA st0 with pc := pc + 3, stack := (r.map (ow_tv ad)).toList ++ rest.map (ow_tv ad) }) t2
  rw [e3]
  exact a1
/-- what a callee must be -/
def ow_okB (M : ow_M) (n : Nat) : Prop := Cond.code M.1 M.2.1 M.2.2.1 M.2.2.2 ∈ ow_tb ∧ Cond.initialized M.1.cls ∈ ow_tb ∧ (M.1.cls ≠ "java/lang/invoke/MethodHandle" ∧ M.1.cls ≠ "java/lang/invoke/VarHandle" ∧ (parseMethodDescriptor M.1.desc).map (fun d => d.parameters.length) = some n) ∧ M.2.2.1 ≤ 22
def ow_okV (M : ow_M) (n : Nat) : Prop := ow_okB M n ∧ Cond.instanceMethod M.1 ∈ ow_tb ∧ Cond.selects M.1.cls M.1 M.1 ∈ ow_tb
def ow_okS (M : ow_M) (n : Nat) : Prop := ow_okB M n ∧ Cond.static M.1 ∈ ow_tb
theorem ow_callB {R : Room} {s : State} {args : Array Value} {own : String} {idx : Nat} (hts : ∀ w ∈ ow_tb, w.before args s = true) (hm : ow_okB M2 As.length) (hl : Cond.methodLink own idx M2.1 ∈ ow_tb) (hR : ow_Rm d mc ms R) (hd2 : d2 + 1 ≤ d) : CallB R s args own idx M2.1 M2.2.1 M2.2.2.1 M2.2.2.2 (ow_ws M2) (ow_room d2) 0 0 As.length := by
  obtain ⟨h1, h2, h3, h4⟩ := hm
  obtain ⟨r1, r2, r3, r4⟩ := hR
  refine callB_of As.length hts (ow_good (fun w hw => ?_) (fun w hw => hw)) rfl rfl rfl (hts _ h2) (hts _ hl) h3 ⟨?_, ?_⟩
  · rcases List.mem_cons.mp hw with rfl | hw
    · exact h1
    · exact hw
  · show d2 + 1 ≤ R.frames
    omega
  · show 8 + (M2.2.2.1 + 11) + 41 * d2 ≤ R.locals
    omega
theorem ow_cats {ad : Nat → Nat} : ∀ st : List Value, ((st.map (ow_tv ad)).map fun v => v.category).sum = (st.map fun v => v.category).sum := by
  intro st
  rw [List.map_map]
  congr 1
  apply List.map_congr_left
  intro v _
  exact ow_tv_cat v
theorem ow_callV {idx b cq : Nat} (hd : decode M.2.1 pc = .ok (.invokevirtual idx, 3)) (hl2 : Cond.methodLink M.1.cls idx M2.1 ∈ ow_tb) (hm : ow_okV M2 As.length) (hn : b < h.1) (hk : ow_kd b = cq) (hc : cq < 13) (hcn : M2.1.cls = ow_cn cq) (hcat : (rest.map fun v => v.category).sum ≤ 8) (hd2 : d2 + 1 ≤ d) (hkn : k ≤ mc ∧ n ≤ ms)
    (kk : ow_AM M2 d2 (.ref b :: As) h (fun r h' => ow_AW Y Z M d mc ms (pc + 3) ls (r.toList ++ rest) h' k n)) : ow_AW Y Z M d mc ms pc ls (As.reverse ++ .ref b :: rest) h k n := by
  intro p l e R s m args below meth c ad0 ad n0 D cs A H locs lsA C hY hR hSt hX hl
  obtain ⟨hx, hb, hrt, hml, hown, hts, hlk, hnm⟩ := id C
  obtain ⟨hK, hP, hD, hS, hA, had, hn0, hn9, hnk⟩ := id hX
  have hFc : ∀ q, va_A (ow_W ad cs h) H.size q → A q := by
    intro q hq
    rcases hq with ⟨i, e', hi⟩ | hq
    · exact hD.2 i _ hi
    · exact hA q (Nat.le_trans hS.1 hq)
  subst hk
  refine ow_cont (rest := rest) (a := (Value.ref (ad b) :: As.map (ow_tv ad)).toArray) C hY hR hSt hX hl ?_
  refine va_runV (As := As.map (ow_tv ad)) (b := ad b) (rest := rest.map (ow_tv ad)) (C := M2.1.cls) (Ts := ow_tb) (nL := M.2.2.1) (n := As.length) ⟨hx, hb, hml, hown, hts⟩ (kk l ad D cs H.size hn9) ⟨ow_callB hts hm.1 hl2 hR hd2, hts _ hm.2.1, hts _ hm.2.2⟩ ⟨ow_blind, ?_, ?_⟩ rfl (by rw [List.length_map]) hl.1 (by show (As.reverse ++ Value.ref b :: rest).map (ow_tv ad) = _; rw [List.map_append, List.map_reverse, List.map_cons]; rfl) (lv_room (by rw [ow_cats]; exact hcat)) hd ⟨by have := hR.2.2.1; omega, by have := hR.2.2.2; omega⟩
  · have := va_recv hK hP (ci := ow_kd b) (q0 := b) (a := ad b) (fs := ow_fl ad h b) (ow_cl_at hc) ((ow_W_at hn).trans (by rw [ow_E_obj hc]))
    rw [hcn]
    exact this
  · intro U hU hW
    exact ⟨rfl, by rw [hU], by rw [hU]; exact hP, va_K.moved hW.alike hK, hD.weaken (fun _ _ _ _ => trivial), ow_S_move hSt (fun i hi => had i (Or.inr hi)) hS hFc hU hW⟩
theorem ow_callS {idx : Nat} (hd : decode M.2.1 pc = .ok (.invokestatic idx, 3)) (hl2 : Cond.methodLink M.1.cls idx M2.1 ∈ ow_tb) (hm : ow_okS M2 As.length) (hcat : (rest.map fun v => v.category).sum ≤ 8) (hd2 : d2 + 1 ≤ d) (hkn : k ≤ mc ∧ n ≤ ms)
    (kk : ow_AM M2 d2 As h (fun r h' => ow_AW Y Z M d mc ms (pc + 3) ls (r.toList ++ rest) h' k n)) : ow_AW Y Z M d mc ms pc ls (As.reverse ++ rest) h k n := by
  intro p l e R s m args below meth c ad0 ad n0 D cs A H locs lsA C hY hR hSt hX hl
  obtain ⟨hx, hb, hrt, hml, hown, hts, hlk, hnm⟩ := id C
  obtain ⟨hK, hP, hD, hS, hA, had, hn0, hn9, hnk⟩ := id hX
  have hFc : ∀ q, va_A (ow_W ad cs h) H.size q → A q := by
    intro q hq
    rcases hq with ⟨i, e', hi⟩ | hq
    · exact hD.2 i _ hi
    · exact hA q (Nat.le_trans hS.1 hq)
  refine ow_cont (rest := rest) (a := (As.map (ow_tv ad)).toArray) C hY hR hSt hX hl ?_
  refine va_runS (As := As.map (ow_tv ad)) (rest := rest.map (ow_tv ad)) (Ts := ow_tb) (nL := M.2.2.1) (n := As.length) ⟨hx, hb, hml, hown, hts⟩ (kk l ad D cs H.size hn9) ⟨ow_callB hts hm.1 hl2 hR hd2, hts _ hm.2⟩ ⟨ow_blind, ?_⟩ rfl (by rw [List.length_map]) hl.1 (by show (As.reverse ++ rest).map (ow_tv ad) = _; rw [List.map_append, List.map_reverse]) (lv_room (by rw [ow_cats]; exact hcat)) hd ⟨by have := hR.2.2.1; omega, by have := hR.2.2.2; omega⟩
  intro U hU hW
  exact ⟨rfl, by rw [hU], by rw [hU]; exact hP, va_K.moved hW.alike hK, hD.weaken (fun _ _ _ _ => trivial), ow_S_move hSt (fun i hi => had i (Or.inr hi)) hS hFc hU hW⟩
end OWC
