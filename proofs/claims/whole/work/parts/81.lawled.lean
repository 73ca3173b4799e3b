/-! Own rows: the law's own led, which catches: its contract. -/
theorem d_Law_led_0 : decode M_Law_led.2.1 0 = .ok (.aload_n 2, 1) := by decide +kernel
theorem d_Law_led_1 : decode M_Law_led.2.1 1 = .ok (.iconst 0, 1) := by decide +kernel
theorem d_Law_led_2 : decode M_Law_led.2.1 2 = .ok (.aload_n 0, 1) := by decide +kernel
theorem d_Law_led_3 : decode M_Law_led.2.1 3 = .ok (.iload_n 1, 1) := by decide +kernel
theorem d_Law_led_4 : decode M_Law_led.2.1 4 = .ok (.invokevirtual 7, 3) := by decide +kernel
theorem d_Law_led_7 : decode M_Law_led.2.1 7 = .ok (.i2l, 1) := by decide +kernel
theorem d_Law_led_8 : decode M_Law_led.2.1 8 = .ok (.lastore, 1) := by decide +kernel
theorem d_Law_led_9 : decode M_Law_led.2.1 9 = .ok (.goto 6, 3) := by decide +kernel
theorem d_Law_led_12 : decode M_Law_led.2.1 12 = .ok (.astore_n 3, 1) := by decide +kernel
theorem d_Law_led_13 : decode M_Law_led.2.1 13 = .ok (.iconst 1, 1) := by decide +kernel
theorem d_Law_led_14 : decode M_Law_led.2.1 14 = .ok (.ireturn, 1) := by decide +kernel
theorem d_Law_led_15 : decode M_Law_led.2.1 15 = .ok (.iconst 0, 1) := by decide +kernel
theorem d_Law_led_16 : decode M_Law_led.2.1 16 = .ok (.ireturn, 1) := by decide +kernel
theorem ow_callBN {M2 : ow_M} {d d2 mc ms mc2 ms2 n : Nat} {R : Room} {s : State} {args : Array Value} {own : String} {idx : Nat} (hts : ∀ w ∈ ow_tb, w.before args s = true) (hm : ow_okB M2 n) (hl : Cond.methodLink own idx M2.1 ∈ ow_tb) (hR : ow_Rm d mc ms R) (hd2 : d2 + 1 ≤ d) : CallB R s args own idx M2.1 M2.2.1 M2.2.2.1 M2.2.2.2 (ow_ws M2) (ow_roomN d2 mc2 ms2) mc2 ms2 n := by
  obtain ⟨h1, h2, h3, h4⟩ := hm
  obtain ⟨r1, r2, r3, r4⟩ := hR
  refine callB_of n hts (ow_good (fun w hw => ?_) (fun w hw => hw)) rfl rfl rfl (hts _ h2) (hts _ hl) h3 ⟨?_, ?_⟩
  · rcases List.mem_cons.mp hw with rfl | hw
    · exact h1
    · exact hw
  · show d2 + 1 ≤ R.frames
    omega
  · show 8 + (M2.2.2.1 + 11) + 41 * d2 ≤ R.locals
    omega
theorem ow_ofWH {l : Launch} {y : MethodName} {ws ws' : List Cond} {rm : Room} {Pc : Array Value → State → Prop} {Qc : Array Value → State → Outcome → State → Prop} {mc ms : Nat} {free : Addr → Prop} {cc : ByteArray} {maxL : Nat} {ret : Option FieldType} {hh : List (Nat × Nat × Nat × Nat)}
    (hy : plainName y.cls = true) (hw : ws = Cond.codeWith y cc maxL ret hh :: ws')
    (body : ∀ p e s m args below meth c s₁, BodyLoose p l y (headSpec ws rm) cc maxL ret e s m args below meth c s₁ → c.maxLocals = maxL → Pc args s →
      W p l e (headSpec ws rm).room s m args below meth c s.heap [] 0 0 (MQ below Qc args s mc ms free) (entryFrame m args maxL)) : Met l y ws rm Pc Qc mc ms free := by
  refine MetFree.of_bodyS (code := cc) (maxLocals := maxL) (ret := ret) hy ?_ ?_
  · intro args s m h hn
    obtain ⟨m9, meth, c, hn9, h1, h2, h3, h4, -, h5, h6, -⟩ := Cond.codeWith_spec (atoms_spec (ws := ws) h _ (by rw [hw]; exact List.mem_cons_self))
    cases hn.symm.trans hn9
    exact ⟨meth, c, h1, h2, h3, h4, h5, h6⟩
  · intro p e s m args below meth c s₁ B hml hP _
    have hh0 : s₁.heap = s.heap := by rw [B.state]; rfl
    obtain ⟨t, a1, o, b1, b2, b3, b4⟩ := body p e s m args below meth c s₁ B hml hP s₁ hh0 (Stand.of_body B)
    exact ⟨t, o, a1, b1, b2, b3, b4⟩
theorem ow_Xs_move {A Ac : Nat → Prop} {s U : State} {H : Heap} {locs : List Loc} (h : ow_Xs A s) (hS : va_S A s.heap H locs) (hAc : ∀ q, Ac q → A q) (hU : U.heap = H) (hW : s.WarmedH U.vm) : ow_Xs Ac U := by
  refine ⟨⟨?_, ?_⟩, ow_xB_warm hW h.2⟩
  · rw [hU]
    exact vx_Zq.moved hW.alike ((h.1.1.kept hS.2.1).narrow hAc)
  · rw [hU]
    exact vx_Zq.moved hW.alike ((h.1.2.kept hS.2.1).narrow hAc)
theorem ow_Xs_blind {av : List Value} {ad : Nat → Nat} {D : va_G} {cs : ow_CS} {h : ow_H} {sz : Nat} {A : Nat → Prop} : FrameBlind (va_Pc av (fun U => ow_Pre ad D cs h sz U ∧ ow_Xs A U)) := by
  intro a U g mk q
  obtain ⟨q0, q1, ⟨q2, q3⟩, q4⟩ := q
  have := ow_blind (av := av) a U g mk ⟨q0, q1⟩
  exact ⟨this.1, this.2, ⟨vx_Zq.moved (u := U) (U := U.calling g mk a) (Vm.Alike.refl U.vm) q2, vx_Zq.moved (u := U) (U := U.calling g mk a) (Vm.Alike.refl U.vm) q3⟩, fun w hw => va_Nw.same (u := U) (U := U.calling g mk a) (ow_xB_t w hw) rfl (q4 w hw)⟩
def ow_Fl (l : Launch) (s : State) (m : MethodId) (A : Nat → Prop) (n0 : Nat) : Prop := n0 = 85 ∧ l.stackTraces = false ∧ ow_Xs A s ∧ ∀ (meth : Method) (c : Code), s.vm.method? m = some meth → meth.code = some c → c.exceptionTable.toList = tableOf [(0, 9, 12, 13)]
def ow_Zl (Q : Option Value → ow_H → Prop) : ow_Zt := fun _ l _ _ s m args below ad0 n0 D cs A t => ow_Fl l s m A n0 → MQ below (ow_Qc ad0 D cs A n0 Q) args s 1 6 A t
def ow_wsL : List Cond := Cond.codeWith M_Law_led.1 M_Law_led.2.1 4 (some .int) [(0, 9, 12, 13)] :: ow_tb
def ow_AL (d : Nat) (av : List Value) (h : ow_H) (Q : Option Value → ow_H → Prop) : Prop :=
  ∀ (l : Launch) (ad : Nat → Nat) (D : va_G) (cs : ow_CS) (sz : Nat), l.stackTraces = false → h.1 ≤ 900 →
    Met l M_Law_led.1 ow_wsL (ow_roomN d 1 6) (va_Pc (av.map (ow_tv ad)) (fun U => ow_Pre ad D cs h sz U ∧ ow_Xs (va_A (ow_W ad cs h) sz) U)) (ow_Qc ad D cs (va_A (ow_W ad cs h) sz) h.1 Q) 1 6 (va_A (ow_W ad cs h) sz)
theorem ow_enterL {d : Nat} {av : List Value} {h : ow_H} {Q : Option Value → ow_H → Prop} (hlen : (lg_sl av).length ≤ 4) (h86 : h.1 = 85) (kk : ow_AW ow_Y0 (ow_Zl Q) M_Law_led d 1 6 0 (lv_args 0 av) [] h 0 0) : ow_AL d av h Q := by
  intro l ad D cs sz hst h9
  refine ow_ofWH (cc := M_Law_led.2.1) (maxL := 4) (ret := some .int) (hh := [(0, 9, 12, 13)]) (by decide) rfl ?_
  intro p e s m args below meth c s₁ B hml hv
  obtain ⟨rfl, ⟨hsz, hP, hK, hD0, hSt⟩, hXs⟩ := hv
  subst hsz
  have hD := hD0.self (sz := s.heap.size)
  have hts := atoms_spec (ws := ow_wsL) B.pre
  have htab : c.exceptionTable.toList = tableOf [(0, 9, 12, 13)] := vx_table (x := M_Law_led.1) B (hts _ List.mem_cons_self)
  have hown : s.vm.findClass M_Law_led.1.cls = some m.cls := findClass_of_methodNamed B.named
  have hin : meth.name = M_Law_led.1.name := (name_of_methodNamed B.named B.method).1
  have hl := lv_entry (av.map (ow_tv ad)) (n := 4) (by rw [ow_lgsl]; exact hlen)
  rw [ow_lvargs] at hl
  rw [lg_entry_eq]
  have K := kk p l e (headSpec ow_wsL (ow_roomN d 1 6)).room s m _ below meth c ad ad h.1 D cs _ s.heap [] _ ⟨B.exec, B.bytes, B.returns, hml, hown, fun w hw => hts w (List.mem_cons_of_mem _ hw), B.notSynchronized, hin⟩ rfl ⟨Nat.le_refl _, Nat.le_refl _, Nat.le_refl _, Nat.le_refl _⟩ hSt ⟨hK, hP, hD, va_S.rf, fun q hq => Or.inr hq, fun _ _ => rfl, Nat.le_refl _, h9, Nat.le_refl _⟩ hl
  intro T hT X
  obtain ⟨t, a1, b1⟩ := K T hT X
  refine ⟨t, a1, b1 ⟨h86, hst, hXs, fun meth2 c2 h1 h2 => ?_⟩⟩
  have e1 : meth2 = meth := Option.some.inj (h1.symm.trans X.method)
  subst e1
  have e2 : c2 = c := Option.some.inj (h2.symm.trans X.code)
  subst e2
  exact htab
theorem ow_xl : Cond.classLink "FollyShireLaw" 13 "java/util/NoSuchElementException" ∈ ow_tb := List.mem_filter.mpr ⟨by decide +kernel, by decide⟩
theorem ow_callX {d : Nat} {Q : Option Value → ow_H → Prop} {p1 : Int32} {h : ow_H} (h86 : h.1 = 85) (kk : ow_AX M_Fs_led (d + 12) [.ref 0, .int p1] h (fun r h' => ow_AW ow_Y0 (ow_Zl Q) M_Law_led (d + 13) 1 6 7 [] (r.toList ++ [.int 0, .ref 84]) h' 1 6) (fun h' => Q (some (.int 1)) h')) : ow_AW ow_Y0 (ow_Zl Q) M_Law_led (d + 13) 1 6 4 [] [.int p1, .ref 0, .int 0, .ref 84] h 0 0 := by
  intro p l e R s m args below meth c ad0 ad n0 D cs A H locs lsA C hY hR hSt hX hl
  obtain ⟨hx, hb, hrt, hml, hown, hts, hlk, hnm⟩ := id C
  obtain ⟨hK, hP, hD, hS, hA, had, hn0, hn9, hnk⟩ := id hX
  obtain ⟨r1, r2, r3, r4⟩ := id hR
  have hY : ad = ad0 := hY
  subst hY
  intro T hT X
  by_cases hF : ow_Fl l s m A n0
  case neg => exact ⟨_, Steps.refl _, fun hf => absurd hf hF⟩
  obtain ⟨f0, f1, f2, f3⟩ := id hF
  have hFc : ∀ q, va_A (ow_W ad cs h) H.size q → A q := by
    intro q hq
    rcases hq with ⟨i, e', hi⟩ | hq
    · exact hD.2 i _ hi
    · exact hA q (Nat.le_trans hS.1 hq)
  have hrecv : ∃ cell, H[ad 0]? = some cell ∧ cell.vm.isStatics = false ∧ s.vm.findClass "FollyShire" = some cell.cls := va_recv hK hP (ci := ow_kd 0) (q0 := 0) (a := ad 0) (fs := ow_fl ad h 0) (ow_cl_at (by decide)) ((ow_W_at (by omega)).trans (by rw [ow_E_obj (by decide)]))
  have hr := vx_runV (As := [.int p1]) (b := ad 0) (rest := [.int 0, .ref (ad 84)]) (C := "FollyShire") (Ts := ow_tb) (nL := M_Law_led.2.2.1) (n := 1) (g := F0 m 4 lsA [.int p1, .ref (ad 0), .int 0, .ref (ad 84)]) (mc := 1) (ms := 6) (cells := 0) (slots := 0) (locs := locs) (H := H) (e := e) (below := below) (meth := meth) (R := R) ⟨hx, hb, hml, hown, hts⟩ (kk l ad D cs H.size f1 hn9) ⟨ow_callBN hts v_Fs_led.1 l_Law_7 hR (Nat.le_refl _), hts _ v_Fs_led.2.1, hts _ v_Fs_led.2.2⟩
    ⟨ow_Xs_blind, hrecv, fun U hU hW => ⟨rfl, ⟨by rw [hU], by rw [hU]; exact hP, va_K.moved hW.alike hK, hD.weaken (fun _ _ _ _ => trivial), ow_S_move hSt (fun _ _ => rfl) hS hFc hU hW⟩, ow_Xs_move f2 hS hFc hU hW⟩⟩ rfl rfl hl.1 rfl (lv_room (Nat.le_of_ble_eq_true rfl)) d_Law_led_4 ⟨by omega, by omega⟩
  rcases hr T hT X with ⟨v, st₀, t, T', L, h0, X', hL, e1, e2, ⟨⟨r, h', hv, hq, hn', hP1, hK1, hD1⟩, hz, hk⟩, st⟩ | ⟨q, st₀, t, T', L, E, ce, h0, X', hL, e1, e2, ⟨h', hq, ⟨hE, hn', hP1, hK1, hD1⟩, hz, hk⟩, hce, hcv, hcl, st⟩
  · cases hv
    rw [h0] at hz hk
    have hS' : va_S A s.heap T'.heap (locs ++ L) := by
      refine ⟨Nat.le_trans hS.1 (by rw [e1]; exact hz), fun q h1 h2 => ?_, fun q hq => ?_⟩
      · rw [e1, hk q (Nat.lt_of_lt_of_le h1 hS.1) (fun z => h2 (hFc q z))]
        exact hS.2.1 q h1 h2
      · rcases List.mem_append.mp hq with h | h
        · exact hS.2.2 q h
        · exact hFc _ (hL q h)
    have K := hq p l e R s m args below meth c ad ad n0 D cs A T'.heap (locs ++ L) lsA C rfl hR hSt ⟨hK, by rw [e1]; exact hP1, hD1.weaken (fun _ q _ hq => hFc q.1 hq), hS', hA, had, by omega, by omega, by omega⟩ hl
    obtain ⟨t2, a1, b1⟩ := K T' rfl X'
    refine ⟨t2, st t2 ?_, b1⟩
    cases r <;> exact a1
  · rw [h0] at hz hk
    have hS' : va_S A s.heap T'.heap (locs ++ L) := by
      refine ⟨Nat.le_trans hS.1 (by rw [e1]; exact hz), fun q h1 h2 => ?_, fun q hq => ?_⟩
      · rw [e1, hk q (Nat.lt_of_lt_of_le h1 hS.1) (fun z => h2 (hFc q z))]
        exact hS.2.1 q h1 h2
      · rcases List.mem_append.mp hq with h | h
        · exact hS.2.2 q h
        · exact hFc _ (hL q h)
    subst hE
    have K12 : W p l e R s m args below meth c T'.heap (locs ++ L) 1 6 (MQ below (ow_Qc ad D cs A n0 Q) args s 1 6 A) (F0 m 12 lsA [.ref q]) := by
      refine lv_astore_n (i := 3) (k := 3) (x := q) (rest := []) (lv := []) hx hb d_Law_led_12 rfl hl (by decide) rfl (fun ls2 hl2 => ?_)
      refine lv_iconst (v := 1) hx hb d_Law_led_13 (by decide) ?_
      exact W.iret hx hb (hrt.trans rfl) (fun t ht hW => ⟨⟨some (.int 1), h', rfl, hq, by omega, by rw [ht, e1]; exact hP1, va_K.moved hW.alike hK, hD1.weaken (fun _ q _ hq => hFc q.1 hq)⟩, hS'.F ht⟩) hS'.2.2 d_Law_led_14 hlk
    have K := vx_catch (own := "FollyShireLaw") (name := "java/util/NoSuchElementException") (E := "java/util/NoSuchElementException") (pc := 4) (rest := [.int 0, .ref (ad 84)]) hown [] ⟨0, 9, 12, 13⟩ [] (f3 meth c X.method X.code) (fun z hz => absurd hz List.not_mem_nil) (by decide) (by decide) (hts _ ow_xl) (ow_xB_use f2.2 _ (by simp [ow_xB])) (by rw [e1]; exact hce) hcv hcl K12
    obtain ⟨t2, a1, b1⟩ := K T' rfl X'
    exact ⟨t2, st.trans a1, fun _ => b1⟩
theorem ow_AX_mono {M : ow_M} {d : Nat} {av : List Value} {h : ow_H} {Q Q2 : Option Value → ow_H → Prop} {QX : ow_H → Prop} (x : ow_AX M d av h Q QX) (hq : ∀ r h', Q r h' → Q2 r h') : ow_AX M d av h Q2 QX := by
  intro l ad D cs sz hst h9 p e ha hc hk s m args below hf happ hP hT
  obtain ⟨t, o, a1, a2, a3, a4⟩ := x l ad D cs sz hst h9 p e ha hc hk s m args below hf happ hP hT
  refine ⟨t, o, a1, a2, a3, ?_⟩
  rcases a4 with ⟨⟨⟨r, h', b1, b2, b3⟩, b4⟩, b5⟩ | b
  · exact Or.inl ⟨⟨⟨r, h', b1, hq r h' b2, b3⟩, b4⟩, b5⟩
  · exact Or.inr b
theorem ow_iretL {d pc : Nat} {ls : List (Nat × Value)} {h : ow_H} {Q : Option Value → ow_H → Prop} {x : Int32} (hd : decode M_Law_led.2.1 pc = .ok (.ireturn, 1)) (h86 : h.1 = 85) (hq : Q (some (.int x)) h) : ow_AW ow_Y0 (ow_Zl Q) M_Law_led d 1 6 pc ls [.int x] h 1 6 := by
  intro p l e R s m args below meth c ad0 ad n0 D cs A H locs lsA C hY hR hSt hX hl
  obtain ⟨hx, hb, hrt, hml, hown, hts, hlk, hnm⟩ := C
  obtain ⟨hK, hP, hD, hS, hA, had, hn0, hn9, hnk⟩ := hX
  have hY : ad = ad0 := hY
  subst hY
  intro T hT X
  by_cases hF : ow_Fl l s m A n0
  case neg => exact ⟨_, Steps.refl _, fun hf => absurd hf hF⟩
  have hn : n0 = 85 := hF.1
  have K : W p l e R s m args below meth c H locs 1 6 (MQ below (ow_Qc ad D cs A n0 Q) args s 1 6 A) (F0 m pc lsA [.int x]) := W.iret hx hb (hrt.trans rfl) (fun t ht hW => ⟨⟨some (.int x), h, rfl, hq, by omega, by rw [ht]; exact hP, va_K.moved hW.alike hK, hD⟩, hS.F ht⟩) hS.2.2 hd hlk
  obtain ⟨t, a1, b1⟩ := K T hT X
  exact ⟨t, a1, fun _ => b1⟩
/-- the law's led: 0, and what is told goes to the cell, or 1 -/
theorem c_Law_led {d : Nat} {Q : Option Value → ow_H → Prop} {p1 : Int32} {I : Nat → Nat → Int32} {J : Nat → Nat → Int64} {R : Nat → Nat → Option Nat} (kk : ow_AX M_Fs_led (d + 12) [.ref 0, .int p1] (85, I, J, R) (fun r h' => ∃ (x : Int32) (I2 : Nat → Nat → Int32) (J2 : Nat → Nat → Int64) (R2 : Nat → Nat → Option Nat), r = some (.int x) ∧ h' = (85, I2, J2, R2) ∧ Q (some (.int 0)) (85, I2, ow_u J2 84 0 x.toInt64, R2)) (fun h' => Q (some (.int 1)) h')) : ow_AL (d + 13) [.ref 0, .int p1, .ref 84] (85, I, J, R) Q := by
  refine ow_enterL (Nat.le_of_ble_eq_true rfl) rfl ?_
  refine ow_aload_n 2 rfl d_Law_led_0 ?_
  refine ow_iconst (v := 0) (by decide) d_Law_led_1 ?_
  refine ow_aload_n 0 rfl d_Law_led_2 ?_
  refine ow_iload_n 1 rfl d_Law_led_3 ?_
  refine ow_sub [] rfl ?_
  refine ow_callX rfl ?_
  refine ow_AX_mono kk ?_
  rintro r h' ⟨x, I2, J2, R2, rfl, rfl, hq⟩
  show ow_AW ow_Y0 (ow_Zl Q) M_Law_led (d + 13) 1 6 7 [] [.int x, .int 0, .ref 84] (85, I2, J2, R2) 1 6
  refine ow_i2l d_Law_led_7 ?_
  refine ow_hlastore (z := 1) d_Law_led_8 (by decide) (by decide) (by decide) (by unfold vp_in; decide) ?_
  refine ow_goto (tgt := 15) d_Law_led_9 (by decide) ?_
  refine ow_iconst (v := 0) (by decide) d_Law_led_15 ?_
  exact ow_iretL d_Law_led_16 rfl hq
