/-! Own rows: cells that are made. -/
def ow_nst : List (String × Nat × MethodName × String) := [("FollyShire", 15, ⟨"FollyShire$Told", "<init>", "()V"⟩, "FollyShire"), ("FollyShire$Told", 11, ⟨"FollyShire$Scene", "<init>", "()V"⟩, "FollyShire"), ("FollyShire", 22, ⟨"FollyShire$Reade\x72", "<init>", "()V"⟩, "FollyShire"), ("FollyShire$Reade\x72", 11, ⟨"FollyShire$Told", "<init>", "()V"⟩, "FollyShire"), ("FollyShire$Reade\x72", 20, ⟨"FollyShire$Tokens", "<init>", "()V"⟩, "FollyShire"), ("FollyShire", 29, ⟨"FollyShire$Scene", "<init>", "()V"⟩, "FollyShire"), ("FollyShire", 39, ⟨"FollyShire$Course", "<init>", "()V"⟩, "FollyShire"), ("FollyShire$Serving", 11, ⟨"FollyShire$Course", "<init>", "()V"⟩, "FollyShire"), ("FollyShire$Serving", 20, ⟨"FollyShire$Scene", "<init>", "()V"⟩, "FollyShire"), ("FollyShire$Planne\x72", 11, ⟨"FollyShire$Scene", "<init>", "()V"⟩, "FollyShire"), ("FollyShire$Fits", 11, ⟨"FollyShire$Course", "<init>", "()V"⟩, "FollyShire"), ("FollyShire$Fits", 20, ⟨"FollyShire$Scene", "<init>", "()V"⟩, "FollyShire"), ("FollyShire$Winds", 11, ⟨"FollyShire$Course", "<init>", "()V"⟩, "FollyShire")]
theorem ow_nst_ok : ∀ q ∈ ow_nst, Cond.methodLinkNest q.1 q.2.1 q.2.2.1 q.2.2.2 ∈ lw_tbl := by
  intro q hq
  have K : ∀ j, j < 13 → ∀ z, ow_nst[j]? = some z → lw_tbl[([138, 144, 255, 260, 263, 324, 327, 366, 368, 402, 440, 442, 486] : List Nat).getD j 0]? = some (Cond.methodLinkNest z.1 z.2.1 z.2.2.1 z.2.2.2) := by
    intro j hj z hz
    have e : ow_nst[j]? = some z := hz
    have K2 : ∀ j, j < 13 → (ow_nst[j]?).map (fun z => Cond.methodLinkNest z.1 z.2.1 z.2.2.1 z.2.2.2) = lw_tbl[([138, 144, 255, 260, 263, 324, 327, 366, 368, 402, 440, 442, 486] : List Nat).getD j 0]? := by decide +kernel
    rw [← K2 j hj, e]
    rfl
  obtain ⟨j, hj⟩ := List.getElem?_of_mem hq
  exact List.mem_of_getElem? (K j (List.getElem?_eq_some_iff.mp hj).1 q hj)
def ow_Ns (U : State) : Prop := ∀ q ∈ ow_nst, va_Nw (.methodLinkNest q.1 q.2.1 q.2.2.1 q.2.2.2) U
def ow_Y1 : ow_Yt := fun s _ _ _ _ => ow_Ns s
def ow_Qn (ad : Nat → Nat) (D : va_G) (cs : ow_CS) (A : Nat → Prop) (n0 : Nat) (Q : ow_H → Prop) : Array Value → State → Outcome → State → Prop := fun _ st oc t =>
  (∃ (h' : ow_H) (ad2 : Nat → Nat), oc = .returned none ∧ Q h' ∧ n0 ≤ h'.1 ∧ h'.1 ≤ 900 ∧ (∀ i : Nat, (i < n0 ∨ 950 ≤ i) → ad2 i = ad i) ∧ va_P D ow_cl (ow_W ad2 cs h') t.heap ∧ va_K D ow_cl (ow_tys cs) t ∧ va_D A (ow_W ad2 cs h')) ∧ va_F A st t
def ow_Zn (Q : ow_H → Prop) (mc ms : Nat) : ow_Zt := fun _ _ _ _ s _ args below ad0 n0 D cs A => MQ below (ow_Qn ad0 D cs A n0 Q) args s mc ms A
def ow_roomN (d mc ms : Nat) : Room := { frames := d, cells := mc, slots := ms, locals := 41 * d }
/-- the contract of a method that makes mc cells of ms slots -/
def ow_AN (M : ow_M) (d mc ms : Nat) (av : List Value) (h : ow_H) (Q : ow_H → Prop) : Prop :=
  ∀ (l : Launch) (ad : Nat → Nat) (D : va_G) (cs : ow_CS) (sz : Nat), h.1 ≤ 900 →
    Met l M.1 (ow_ws M) (ow_roomN d mc ms) (va_Pc (av.map (ow_tv ad)) (fun U => ow_Pre ad D cs h sz U ∧ ow_Ns U)) (ow_Qn ad D cs (va_A (ow_W ad cs h) sz) h.1 Q) mc ms (va_A (ow_W ad cs h) sz)
theorem ow_enterN {M : ow_M} {d mc ms : Nat} {av : List Value} {h : ow_H} {Q : ow_H → Prop} (hp : plainName M.1.cls = true) (hlen : (lg_sl av).length ≤ M.2.2.1) (kk : ow_AW ow_Y1 (ow_Zn Q mc ms) M d mc ms 0 (lv_args 0 av) [] h 0 0) : ow_AN M d mc ms av h Q := by
  intro l ad D cs sz h9
  refine Met.ofW (cc := M.2.1) (maxL := M.2.2.1) (ret := M.2.2.2) hp rfl ?_
  intro p e s m args below meth c s₁ B hml hv
  obtain ⟨rfl, ⟨hsz, hP, hK, hD0, hSt⟩, hNs⟩ := hv
  subst hsz
  have hD := hD0.self (sz := s.heap.size)
  have hts := atoms_spec (ws := ow_ws M) B.pre
  have hown : s.vm.findClass M.1.cls = some m.cls := findClass_of_methodNamed B.named
  have hin : meth.name = M.1.name := (name_of_methodNamed B.named B.method).1
  have hl := lv_entry (av.map (ow_tv ad)) (n := M.2.2.1) (by rw [ow_lgsl]; exact hlen)
  rw [ow_lvargs] at hl
  rw [lg_entry_eq]
  exact kk p l e _ s m _ below meth c ad ad h.1 D cs _ s.heap [] _ ⟨B.exec, B.bytes, B.returns, hml, hown, fun w hw => hts w (List.mem_cons_of_mem _ hw), B.notSynchronized, hin⟩ hNs ⟨Nat.le_refl _, Nat.le_refl _, Nat.le_refl _, Nat.le_refl _⟩ hSt ⟨hK, hP, hD, va_S.rf, fun q hq => Or.inr hq, fun _ _ => rfl, Nat.le_refl _, h9, Nat.le_refl _⟩ hl
theorem ow_vretN {M : ow_M} {d mc ms pc k n : Nat} {ls : List (Nat × Value)} {h : ow_H} {Q : ow_H → Prop} (hd : decode M.2.1 pc = .ok (.return_, 1)) (hr : M.2.2.2 = none) (hk : k ≤ mc) (hn : n ≤ ms) (hq : Q h) : ow_AW ow_Y1 (ow_Zn Q mc ms) M d mc ms pc ls [] h k n := by
  intro p l e R s m args below meth c ad0 ad n0 D cs A H locs lsA C hY hR hSt hX hl
  obtain ⟨hx, hb, hrt, hml, hown, hts, hlk, hnm⟩ := C
  obtain ⟨hK, hP, hD, hS, hA, had, hn0, hn9, hnk⟩ := hX
  refine W.widen hk hn ?_
  exact W.vret hx hb (hrt.trans hr) (fun t ht hW => ⟨⟨h, ad, rfl, hq, hn0, hn9, had, by rw [ht]; exact hP, va_K.moved hW.alike hK, hD⟩, hS.F ht⟩) hS.2.2 hd hlk
/-- the values' references are of cells that there are -/
def ow_vb (n : Nat) : Value → Bool
  | .ref r => decide (r < n ∨ 950 ≤ r)
  | _ => true
theorem ow_tv_ag {n : Nat} {ad ad2 : Nat → Nat} (h : ∀ i : Nat, (i < n ∨ 950 ≤ i) → ad2 i = ad i) {v : Value} (hv : ow_vb n v = true) : ow_tv ad2 v = ow_tv ad v := by
  cases v <;> first | rfl | (simp only [ow_tv]; rw [h _ (of_decide_eq_true hv)])
theorem ow_st_ag {n : Nat} {ad ad2 : Nat → Nat} (h : ∀ i : Nat, (i < n ∨ 950 ≤ i) → ad2 i = ad i) {st : List Value} (hv : st.all (ow_vb n) = true) : st.map (ow_tv ad2) = st.map (ow_tv ad) := by
  apply List.map_congr_left
  intro v hm
  exact ow_tv_ag h (List.all_eq_true.mp hv v hm)
theorem ow_ls_ag {n : Nat} {ad ad2 : Nat → Nat} (h : ∀ i : Nat, (i < n ∨ 950 ≤ i) → ad2 i = ad i) {ls : List (Nat × Value)} (hv : ls.all (fun q => ow_vb n q.2) = true) : ls.map (ow_tp ad2) = ls.map (ow_tp ad) := by
  apply List.map_congr_left
  intro v hm
  unfold ow_tp
  rw [ow_tv_ag h (List.all_eq_true.mp hv v hm)]
/-- what isn't made yet holds nothing; references are of cells that there are -/
def ow_zz (n : Nat) (I : Nat → Nat → Int32) (J : Nat → Nat → Int64) (R : Nat → Nat → Option Nat) : Prop := (∀ a, n ≤ a → I a = (fun _ => 0) ∧ J a = (fun _ => 0) ∧ R a = (fun _ => none)) ∧ ∀ o k r, R o k = some r → r < n
section OWZ
variable {n : Nat} {I : Nat → Nat → Int32} {J : Nat → Nat → Int64} {R : Nat → Nat → Option Nat}
theorem ow_zz_n (h : ow_zz n I J R) : ow_zz (n + 1) I J R := ⟨fun a ha => h.1 a (by omega), fun o k r hr => Nat.lt_succ_of_lt (h.2 o k r hr)⟩
theorem ow_zz_I (h : ow_zz n I J R) {o k : Nat} {v : Int32} (ho : o < n) : ow_zz n (ow_u I o k v) J R := ⟨fun a ha => ⟨by rw [ow_u_ne (by omega)]; exact (h.1 a ha).1, (h.1 a ha).2⟩, h.2⟩
theorem ow_zz_R (h : ow_zz n I J R) {o k r : Nat} (ho : o < n) (hr : r < n) : ow_zz n I J (ow_u R o k (some r)) := by
  refine ⟨fun a ha => ⟨(h.1 a ha).1, (h.1 a ha).2.1, by rw [ow_u_ne (by omega)]; exact (h.1 a ha).2.2⟩, fun a b c hc => ?_⟩
  unfold ow_u at hc
  by_cases hab : a = o ∧ b = k
  · rw [if_pos hab] at hc
    injection hc with hc
    omega
  · rw [if_neg hab] at hc
    exact h.2 a b c hc
theorem ow_W_new {ad : Nat → Nat} {cs : ow_CS} {q : Nat} (hb : ∀ o k r, R o k = some r → r < n) : ow_W (fun i => if i = n then q else ad i) cs (n + 1, I, J, R) = ow_W ad cs (n, I, J, R) ++ [(q, ow_E (fun i => if i = n then q else ad i) cs (n + 1, I, J, R) n)] := by
  unfold ow_W
  dsimp only
  rw [List.range_succ, List.map_append]
  congr 1
  · apply List.map_congr_left
    intro o ho
    have ho := List.mem_range.mp ho
    rw [if_neg (by omega)]
    congr 1
    unfold ow_E ow_fl ow_fv
    dsimp only
    have e : ∀ k, Option.map (fun i => if i = n then q else ad i) (R o k) = Option.map ad (R o k) := by
      intro k
      cases hr : R o k with
      | none => rfl
      | some r =>
        have := hb o k r hr
        rw [Option.map_some, Option.map_some, if_neg (by omega)]
    simp only [e]
  · show [((if n = n then q else ad n), _)] = _
    rw [if_pos rfl]
end OWZ
theorem ow_ft_null : ∀ c, c < 13 → ∀ k, k < ow_nf c → ow_ft c k = 2 → defaultValue (ow_ty c k) = .null := by decide +kernel
section OWN
variable {Z : ow_Zt} {M : ow_M} {d mc ms pc k nn n : Nat} {ls : List (Nat × Value)} {rest : List Value} {I : Nat → Nat → Int32} {J : Nat → Nat → Int64} {R : Nat → Nat → Option Nat}
theorem ow_new {idx ci : Nat} (hd : decode M.2.1 pc = .ok (.new idx, 3)) (hw1 : Cond.classLink M.1.cls idx (ow_cn ci) ∈ ow_tb) (hw2 : Cond.instantiable (ow_cn ci) (ow_nf ci) ∈ ow_tb) (hw3 : Cond.initialized (ow_cn ci) ∈ ow_tb) (hk : ow_kd n = ci) (hc : ci < 13) (hz : ow_zz n I J R) (hls : ls.all (fun q => ow_vb n q.2) = true) (hst : rest.all (ow_vb n) = true) (hb1 : k + 1 ≤ mc) (hb2 : nn + ow_nf ci ≤ ms) (h9 : n < 900)
    (kk : ow_AW ow_Y1 Z M d mc ms (pc + 3) ls (.ref n :: rest) (n + 1, I, J, R) (k + 1) (nn + ow_nf ci)) : ow_AW ow_Y1 Z M d mc ms pc ls rest (n, I, J, R) k nn := by
  intro p l e Rm s m args below meth c ad0 ad n0 D cs A H locs lsA C hY hR hSt hX hl
  obtain ⟨hx, hb, hr, hml, hown, hts, hlk, hnm⟩ := id C
  obtain ⟨hK, hP, hD, hS, hA, had, hnn, hn9, hnk⟩ := id hX
  obtain ⟨r1, r2, r3, r4⟩ := id hR
  subst hk
  dsimp only at hnn hnk
  have z := hz.1 n (Nat.le_refl _)
  refine va_new (C := ow_cn (ow_kd n)) (T := ow_T (ow_kd n)) (N := ow_nf (ow_kd n)) (ci := ow_kd n) (fs := (List.range (ow_nf (ow_kd n))).map (fun j => defaultValue (ow_ty (ow_kd n) j))) hx hb hts (ow_in hc) (ow_ty (ow_kd n)) (ow_ty_ok _ hc) hown (hts _ hw1) (hts _ hw2) (hts _ hw3) hK hP hD hS hA (ow_cl_at hc) (fun j hj => by
    unfold vp_V
    rw [List.getD_eq_getElem?_getD, List.getElem?_map, List.getElem?_range hj]
    rfl) (by omega) (by omega) hd (fun q H1 hP1 hD1 hS1 => ?_)
  have e0 : ow_E (fun i => if i = n then q else ad i) cs (n + 1, I, J, R) n = .inr (ow_kd n, (List.range (ow_nf (ow_kd n))).map (fun j => defaultValue (ow_ty (ow_kd n) j))) := by
    rw [ow_E_obj hc]
    congr 2
    unfold ow_fl
    apply List.map_congr_left
    intro j hj
    have hj := List.mem_range.mp hj
    obtain ⟨t0, t1, t3, t4⟩ := ow_ft_ok _ hc j hj
    have t2 := ow_ft_null _ hc j hj
    unfold ow_fv
    dsimp only
    rw [z.1, z.2.1, z.2.2]
    rcases (show ow_ft (ow_kd n) j = 0 ∨ ow_ft (ow_kd n) j = 1 ∨ ow_ft (ow_kd n) j = 2 ∨ ow_ft (ow_kd n) j = 3 by omega) with h | h | h | h
    · rw [t0 h, h]; rfl
    · rw [t1 h, h]; rfl
    · rw [t2 h, h]; rfl
    · rw [t3 h, h]; rfl
  have e1 := ow_W_new (ad := ad) (cs := cs) (q := q) (I := I) (J := J) hz.2
  rw [e0] at e1
  rw [← e1] at hP1 hD1
  have hag : ∀ i : Nat, (i < n ∨ 950 ≤ i) → (fun i => if i = n then q else ad i) i = ad i := fun i hi => by dsimp only; rw [if_neg (by omega)]
  have K := kk p l e Rm s m args below meth c ad0 (fun i => if i = n then q else ad i) n0 D cs A H1 locs lsA C hY hR hSt ⟨hK, hP1, hD1, hS1, hA, fun i hi => (hag i (by omega)).trans (had i hi), by show n0 ≤ n + 1; omega, by show n + 1 ≤ 900; omega, by show n + 1 ≤ n0 + (k + 1); omega⟩ (by rw [ow_ls_ag hag hls]; exact hl)
  rw [List.map_cons, ow_st_ag hag hst] at K
  have e2 : ow_tv (fun i => if i = n then q else ad i) (.ref n) = .ref q := by show Value.ref (if n = n then q else ad n) = _; rw [if_pos rfl]
  rw [e2] at K
  exact K
theorem ow_newaI {z : Int32} {N : Nat} (hd : decode M.2.1 pc = .ok (.newarray .int, 2)) (hw : Cond.arrayClass .int ∈ ow_tb) (hk : ow_kd n = 14) (hl2 : ow_ln n = N) (hzn : z = nI N) (hN : N < 1000) (hz : ow_zz n I J R) (hls : ls.all (fun q => ow_vb n q.2) = true) (hst : rest.all (ow_vb n) = true) (hb1 : k + 1 ≤ mc) (hb2 : nn + N ≤ ms) (h9 : n < 900)
    (kk : ow_AW ow_Y1 Z M d mc ms (pc + 2) ls (.ref n :: rest) (n + 1, I, J, R) (k + 1) (nn + N)) : ow_AW ow_Y1 Z M d mc ms pc ls (.int z :: rest) (n, I, J, R) k nn := by
  intro p l e Rm s m args below meth c ad0 ad n0 D cs A H locs lsA C hY hR hSt hX hl
  obtain ⟨hx, hb, hr, hml, hown, hts, hlk, hnm⟩ := id C
  obtain ⟨hK, hP, hD, hS, hA, had, hnn, hn9, hnk⟩ := id hX
  obtain ⟨r1, r2, r3, r4⟩ := id hR
  dsimp only at hnn hnk
  have z0 := hz.1 n (Nat.le_refl _)
  refine va_newa (atype := .int) (n := z) (N' := N) (a0 := (N, .inl (fun _ => 0))) (rest := rest.map (ow_tv ad)) hx hb (hts _ hw) rfl hK hP hD hS hA (fun cA => rfl) (by rw [hzn]; exact nI_pos (by omega)) (by rw [hzn]; exact nI_clamp (by omega)) (by
    have h8 : componentBytes (newarray.typeOf .int) ≤ 8 := by decide
    have := Nat.mul_le_mul (Nat.le_of_lt hN) h8
    show N * componentBytes (newarray.typeOf .int) ≤ _
    omega) (by omega) (by omega) hd (fun q cA H1 hK1 hP1 hD1 hS1 => ?_)
  have ec : cA = cs.2.1 := by
    have a1 : s.vm.findClass ("[" ++ FieldType.toString .int) = some cA := (hK1.2 3 (cA, .int) rfl).2
    have a2 : s.vm.findClass ("[" ++ FieldType.toString .int) = some (cs.2.1) := (hK.2 1 (cs.2.1, .int) rfl).2
    rw [a1] at a2
    exact Option.some.inj a2
  subst ec
  have e0 : ow_E (fun i => if i = n then q else ad i) cs (n + 1, I, J, R) n = .inl (cs.2.1, N, .inl (fun _ => 0)) := by
    rw [ow_E_i hk, hl2]
    dsimp only
    rw [z0.1]
  have e1 := ow_W_new (ad := ad) (cs := cs) (q := q) (I := I) (J := J) hz.2
  rw [e0] at e1
  rw [← e1] at hP1 hD1
  have hag : ∀ i : Nat, (i < n ∨ 950 ≤ i) → (fun i => if i = n then q else ad i) i = ad i := fun i hi => by dsimp only; rw [if_neg (by omega)]
  have K := kk p l e Rm s m args below meth c ad0 (fun i => if i = n then q else ad i) n0 D cs A H1 locs lsA C hY hR hSt ⟨hK, hP1, hD1, hS1, hA, fun i hi => (hag i (by omega)).trans (had i hi), by show n0 ≤ n + 1; omega, by show n + 1 ≤ 900; omega, by show n + 1 ≤ n0 + (k + 1); omega⟩ (by rw [ow_ls_ag hag hls]; exact hl)
  rw [List.map_cons, ow_st_ag hag hst] at K
  have e2 : ow_tv (fun i => if i = n then q else ad i) (.ref n) = .ref q := by show Value.ref (if n = n then q else ad n) = _; rw [if_pos rfl]
  rw [e2] at K
  exact K
theorem ow_newaB {z : Int32} {N : Nat} (hd : decode M.2.1 pc = .ok (.newarray .byte, 2)) (hw : Cond.arrayClass .byte ∈ ow_tb) (hk : ow_kd n = 13) (hl2 : ow_ln n = N) (hzn : z = nI N) (hN : N < 1000) (hz : ow_zz n I J R) (hls : ls.all (fun q => ow_vb n q.2) = true) (hst : rest.all (ow_vb n) = true) (hb1 : k + 1 ≤ mc) (hb2 : nn + N ≤ ms) (h9 : n < 900)
    (kk : ow_AW ow_Y1 Z M d mc ms (pc + 2) ls (.ref n :: rest) (n + 1, I, J, R) (k + 1) (nn + N)) : ow_AW ow_Y1 Z M d mc ms pc ls (.int z :: rest) (n, I, J, R) k nn := by
  intro p l e Rm s m args below meth c ad0 ad n0 D cs A H locs lsA C hY hR hSt hX hl
  obtain ⟨hx, hb, hr, hml, hown, hts, hlk, hnm⟩ := id C
  obtain ⟨hK, hP, hD, hS, hA, had, hnn, hn9, hnk⟩ := id hX
  obtain ⟨r1, r2, r3, r4⟩ := id hR
  dsimp only at hnn hnk
  have z0 := hz.1 n (Nat.le_refl _)
  refine va_newa (atype := .byte) (n := z) (N' := N) (a0 := (N, .inl (fun _ => 0))) (rest := rest.map (ow_tv ad)) hx hb (hts _ hw) rfl hK hP hD hS hA (fun cA => rfl) (by rw [hzn]; exact nI_pos (by omega)) (by rw [hzn]; exact nI_clamp (by omega)) (by
    have h8 : componentBytes (newarray.typeOf .byte) ≤ 8 := by decide
    have := Nat.mul_le_mul (Nat.le_of_lt hN) h8
    show N * componentBytes (newarray.typeOf .byte) ≤ _
    omega) (by omega) (by omega) hd (fun q cA H1 hK1 hP1 hD1 hS1 => ?_)
  have ec : cA = cs.1 := by
    have a1 : s.vm.findClass ("[" ++ FieldType.toString .byte) = some cA := (hK1.2 3 (cA, .byte) rfl).2
    have a2 : s.vm.findClass ("[" ++ FieldType.toString .byte) = some (cs.1) := (hK.2 0 (cs.1, .byte) rfl).2
    rw [a1] at a2
    exact Option.some.inj a2
  subst ec
  have e0 : ow_E (fun i => if i = n then q else ad i) cs (n + 1, I, J, R) n = .inl (cs.1, N, .inl (fun _ => 0)) := by
    rw [ow_E_b hk, hl2]
    dsimp only
    rw [z0.1]
  have e1 := ow_W_new (ad := ad) (cs := cs) (q := q) (I := I) (J := J) hz.2
  rw [e0] at e1
  rw [← e1] at hP1 hD1
  have hag : ∀ i : Nat, (i < n ∨ 950 ≤ i) → (fun i => if i = n then q else ad i) i = ad i := fun i hi => by dsimp only; rw [if_neg (by omega)]
  have K := kk p l e Rm s m args below meth c ad0 (fun i => if i = n then q else ad i) n0 D cs A H1 locs lsA C hY hR hSt ⟨hK, hP1, hD1, hS1, hA, fun i hi => (hag i (by omega)).trans (had i hi), by show n0 ≤ n + 1; omega, by show n + 1 ≤ 900; omega, by show n + 1 ≤ n0 + (k + 1); omega⟩ (by rw [ow_ls_ag hag hls]; exact hl)
  rw [List.map_cons, ow_st_ag hag hst] at K
  have e2 : ow_tv (fun i => if i = n then q else ad i) (.ref n) = .ref q := by show Value.ref (if n = n then q else ad n) = _; rw [if_pos rfl]
  rw [e2] at K
  exact K
theorem ow_newaJ {z : Int32} {N : Nat} (hd : decode M.2.1 pc = .ok (.newarray .long, 2)) (hw : Cond.arrayClass .long ∈ ow_tb) (hk : ow_kd n = 15) (hl2 : ow_ln n = N) (hzn : z = nI N) (hN : N < 1000) (hz : ow_zz n I J R) (hls : ls.all (fun q => ow_vb n q.2) = true) (hst : rest.all (ow_vb n) = true) (hb1 : k + 1 ≤ mc) (hb2 : nn + N ≤ ms) (h9 : n < 900)
    (kk : ow_AW ow_Y1 Z M d mc ms (pc + 2) ls (.ref n :: rest) (n + 1, I, J, R) (k + 1) (nn + N)) : ow_AW ow_Y1 Z M d mc ms pc ls (.int z :: rest) (n, I, J, R) k nn := by
  intro p l e Rm s m args below meth c ad0 ad n0 D cs A H locs lsA C hY hR hSt hX hl
  obtain ⟨hx, hb, hr, hml, hown, hts, hlk, hnm⟩ := id C
  obtain ⟨hK, hP, hD, hS, hA, had, hnn, hn9, hnk⟩ := id hX
  obtain ⟨r1, r2, r3, r4⟩ := id hR
  dsimp only at hnn hnk
  have z0 := hz.1 n (Nat.le_refl _)
  refine va_newa (atype := .long) (n := z) (N' := N) (a0 := (N, .inr (.inl (fun _ => 0)))) (rest := rest.map (ow_tv ad)) hx hb (hts _ hw) rfl hK hP hD hS hA (fun cA => rfl) (by rw [hzn]; exact nI_pos (by omega)) (by rw [hzn]; exact nI_clamp (by omega)) (by
    have h8 : componentBytes (newarray.typeOf .long) ≤ 8 := by decide
    have := Nat.mul_le_mul (Nat.le_of_lt hN) h8
    show N * componentBytes (newarray.typeOf .long) ≤ _
    omega) (by omega) (by omega) hd (fun q cA H1 hK1 hP1 hD1 hS1 => ?_)
  have ec : cA = cs.2.2 := by
    have a1 : s.vm.findClass ("[" ++ FieldType.toString .long) = some cA := (hK1.2 3 (cA, .long) rfl).2
    have a2 : s.vm.findClass ("[" ++ FieldType.toString .long) = some (cs.2.2) := (hK.2 2 (cs.2.2, .long) rfl).2
    rw [a1] at a2
    exact Option.some.inj a2
  subst ec
  have e0 : ow_E (fun i => if i = n then q else ad i) cs (n + 1, I, J, R) n = .inl (cs.2.2, N, .inr (.inl (fun _ => 0))) := by
    rw [ow_E_j hk, hl2]
    dsimp only
    rw [z0.2.1]
  have e1 := ow_W_new (ad := ad) (cs := cs) (q := q) (I := I) (J := J) hz.2
  rw [e0] at e1
  rw [← e1] at hP1 hD1
  have hag : ∀ i : Nat, (i < n ∨ 950 ≤ i) → (fun i => if i = n then q else ad i) i = ad i := fun i hi => by dsimp only; rw [if_neg (by omega)]
  have K := kk p l e Rm s m args below meth c ad0 (fun i => if i = n then q else ad i) n0 D cs A H1 locs lsA C hY hR hSt ⟨hK, hP1, hD1, hS1, hA, fun i hi => (hag i (by omega)).trans (had i hi), by show n0 ≤ n + 1; omega, by show n + 1 ≤ 900; omega, by show n + 1 ≤ n0 + (k + 1); omega⟩ (by rw [ow_ls_ag hag hls]; exact hl)
  rw [List.map_cons, ow_st_ag hag hst] at K
  have e2 : ow_tv (fun i => if i = n then q else ad i) (.ref n) = .ref q := by show Value.ref (if n = n then q else ad n) = _; rw [if_pos rfl]
  rw [e2] at K
  exact K
/-- a final reference, put where it is made -/
theorem ow_pF {own idx cq kq pq o a : Nat} (jF : Nat) (hd : decode M.2.1 pc = .ok (.putfield idx, 3)) (hF : ow_FL[jF]? = some (own, idx, cq, kq, pq)) (ho : M.1.cls = ow_cn own) (hoc : own = cq) (hin : M.1.name = "<init>") (hn : o < n) (hk : ow_kd o = cq) (ht : ow_ft cq kq = 2) (hty : ∀ x : Nat, narrow (ow_ty cq kq) (.ref x) = .ref x ∧ fits (ow_ty cq kq) (.ref x) = true) (hfin : (ow_T cq kq).2.2.2 = true)
    (kk : ow_AW ow_Y1 Z M d mc ms (pc + 3) ls rest (n, I, J, ow_u R o kq (some a)) k nn) : ow_AW ow_Y1 Z M d mc ms pc ls (.ref a :: .ref o :: rest) (n, I, J, R) k nn := by
  intro p l e Rm s m args below meth c ad0 ad n0 D cs A H locs lsA C hY hR hSt hX hl
  obtain ⟨hx, hb, hr, hml, hown, hts, hlk, hnm⟩ := id C
  obtain ⟨f1, f2, f3, f4⟩ := ow_FL_ok _ (List.mem_of_getElem? hF)
  dsimp only at f1 f2 f3 f4
  subst hk
  obtain ⟨hK, hP, hD, hS, hA, had, hn0, hn9⟩ := id hX
  refine va_putF (D := D) (T := ow_T (ow_kd o)) (C := ow_cn (ow_kd o)) (N := ow_nf (ow_kd o)) (ref := ow_cn (ow_kd o)) (ci := ow_kd o) (v := ow_tv ad (.ref a)) (ty := ow_ty (ow_kd o) kq) (fs := ow_fl ad (n, I, J, R) o) (rest := rest.map (ow_tv ad)) hx hb hts (ow_in f2) (ow_ty (ow_kd o)) (ow_ty_ok _ f2) (ow_nm_ok _ f2) (by rw [← ho]; exact hown) hK hP hD hS o ((ow_W_at hn).trans (by rw [ow_E_obj f2])) (ow_cl_at f2) kq f3 (hts _ (ow_mem _ f1 rfl)) (by rw [f4]; exact fun _ q => q) hfin (hnm.trans hin) (by rw [f4, hoc]) (ow_ty_ok _ f2 kq f3) (hty _).1 (hty _).2 (by rw [ow_fl_len]; exact f3) hd (fun H1 locs1 hP1 hD1 hS1 => ?_)
  have e0 : (ow_fl ad (n, I, J, R) o).set kq (ow_tv ad (.ref a)) = ow_fl ad (n, I, J, ow_u R o kq (some a)) o := by
    refine ow_fl_set ?_ (fun b hb => ow_fv_r (h := (n, I, J, R)) (ow_u_nk hb))
    unfold ow_fv
    rw [if_neg (by omega), if_pos ht]
    dsimp only
    rw [ow_u_at]
    rfl
  have e1 := ow_W_set (ad := ad) (cs := cs) (h := (n, I, J, R)) (h' := (n, I, J, ow_u R o kq (some a))) (o := o) (E' := .inr (ow_kd o, (ow_fl ad (n, I, J, R) o).set kq (ow_tv ad (.ref a)))) rfl (by rw [ow_E_obj f2, e0]) (fun b hb => ow_E_ext rfl rfl (ow_u_ne hb))
  rw [e1] at hP1 hD1
  exact kk p l e Rm s m args below meth c ad0 ad n0 D cs A H1 locs1 lsA C hY hR hSt ⟨hK, hP1, hD1, hS1, hA, had, hn0, hn9⟩ hl
/-- a reference put into a field that may be put again, and a final int -/
theorem ow_pR1 {own idx cq kq pq o a : Nat} {ty : FieldType} (jF : Nat) (hd : decode M.2.1 pc = .ok (.putfield idx, 3)) (hF : ow_FL[jF]? = some (own, idx, cq, kq, pq)) (ho : M.1.cls = ow_cn own) (hn : o < n) (hk : ow_kd o = cq) (ht : ow_ft cq kq = 2) (hty : ow_ty cq kq = .array ty) (hfin : (ow_T cq kq).2.2.2 = false) (kk : ow_AW ow_Y1 Z M d mc ms (pc + 3) ls rest (n, I, J, ow_u R o kq (some a)) k nn) : ow_AW ow_Y1 Z M d mc ms pc ls (.ref a :: .ref o :: rest) (n, I, J, R) k nn := by
  intro p l e Rm s m args below meth c ad0 ad n0 D cs A H locs lsA C hY hR hSt hX hl
  obtain ⟨hx, hb, hr, hml, hown, hts, hlk, hnm⟩ := id C
  obtain ⟨f1, f2, f3, f4⟩ := ow_FL_ok _ (List.mem_of_getElem? hF)
  dsimp only at f1 f2 f3 f4
  subst hk
  obtain ⟨hK, hP, hD, hS, hA, had, hn0, hn9⟩ := id hX
  refine va_put (D := D) (T := ow_T (ow_kd o)) (C := ow_cn (ow_kd o)) (N := ow_nf (ow_kd o)) (ref := ow_cn (ow_kd o)) (ci := ow_kd o) (v := ow_tv ad (.ref a)) (ty := ow_ty (ow_kd o) kq) (fs := ow_fl ad (n, I, J, R) o) (rest := rest.map (ow_tv ad)) hx hb hts (ow_in f2) (ow_ty (ow_kd o)) (ow_ty_ok _ f2) (ow_nm_ok _ f2) (by rw [← ho]; exact hown) hK hP hD hS o ((ow_W_at hn).trans (by rw [ow_E_obj f2])) (ow_cl_at f2) kq f3 (hts _ (ow_mem _ f1 rfl)) (by rw [f4]; exact fun _ q => q) hfin (ow_ty_ok _ f2 kq f3) (by rw [hty]; rfl) (by rw [hty]; rfl) (by rw [ow_fl_len]; exact f3) hd (fun H1 locs1 hP1 hD1 hS1 => ?_)
  have e0 : (ow_fl ad (n, I, J, R) o).set kq (ow_tv ad (.ref a)) = ow_fl ad (n, I, J, ow_u R o kq (some a)) o := by
    refine ow_fl_set ?_ (fun b hb => ow_fv_r (h := (n, I, J, R)) (ow_u_nk hb))
    unfold ow_fv
    rw [if_neg (by omega), if_pos ht]
    dsimp only
    rw [ow_u_at]
    rfl
  have e1 := ow_W_set (ad := ad) (cs := cs) (h := (n, I, J, R)) (h' := (n, I, J, ow_u R o kq (some a))) (o := o) (E' := .inr (ow_kd o, (ow_fl ad (n, I, J, R) o).set kq (ow_tv ad (.ref a)))) rfl (by rw [ow_E_obj f2, e0]) (fun b hb => ow_E_ext rfl rfl (ow_u_ne hb))
  rw [e1] at hP1 hD1
  exact kk p l e Rm s m args below meth c ad0 ad n0 D cs A H1 locs1 lsA C hY hR hSt ⟨hK, hP1, hD1, hS1, hA, had, hn0, hn9⟩ hl
theorem ow_pIF {own idx cq kq pq o : Nat} {v : Int32} (jF : Nat) (hd : decode M.2.1 pc = .ok (.putfield idx, 3)) (hF : ow_FL[jF]? = some (own, idx, cq, kq, pq)) (ho : M.1.cls = ow_cn own) (hoc : own = cq) (hin : M.1.name = "<init>") (hn : o < n) (hk : ow_kd o = cq) (ht : ow_ft cq kq = 0) (hfin : (ow_T cq kq).2.2.2 = true)
    (kk : ow_AW ow_Y1 Z M d mc ms (pc + 3) ls rest (n, ow_u I o kq v, J, R) k nn) : ow_AW ow_Y1 Z M d mc ms pc ls (.int v :: .ref o :: rest) (n, I, J, R) k nn := by
  intro p l e Rm s m args below meth c ad0 ad n0 D cs A H locs lsA C hY hR hSt hX hl
  obtain ⟨hx, hb, hr, hml, hown, hts, hlk, hnm⟩ := id C
  obtain ⟨f1, f2, f3, f4⟩ := ow_FL_ok _ (List.mem_of_getElem? hF)
  dsimp only at f1 f2 f3 f4
  subst hk
  obtain ⟨hK, hP, hD, hS, hA, had, hn0, hn9⟩ := id hX
  refine va_putF (D := D) (T := ow_T (ow_kd o)) (C := ow_cn (ow_kd o)) (N := ow_nf (ow_kd o)) (ref := ow_cn (ow_kd o)) (ci := ow_kd o) (v := ow_tv ad (.int v)) (ty := ow_ty (ow_kd o) kq) (fs := ow_fl ad (n, I, J, R) o) (rest := rest.map (ow_tv ad)) hx hb hts (ow_in f2) (ow_ty (ow_kd o)) (ow_ty_ok _ f2) (ow_nm_ok _ f2) (by rw [← ho]; exact hown) hK hP hD hS o ((ow_W_at hn).trans (by rw [ow_E_obj f2])) (ow_cl_at f2) kq f3 (hts _ (ow_mem _ f1 rfl)) (by rw [f4]; exact fun _ q => q) hfin (hnm.trans hin) (by rw [f4, hoc]) (ow_ty_ok _ f2 kq f3) (by rw [(ow_ft_ok _ f2 kq f3).1 ht]; rfl) (by rw [(ow_ft_ok _ f2 kq f3).1 ht]; rfl) (by rw [ow_fl_len]; exact f3) hd (fun H1 locs1 hP1 hD1 hS1 => ?_)
  have e0 : (ow_fl ad (n, I, J, R) o).set kq (ow_tv ad (.int v)) = ow_fl ad (n, ow_u I o kq v, J, R) o := by
    refine ow_fl_set ?_ (fun b hb => ow_fv_i (h := (n, I, J, R)) (ow_u_nk hb))
    unfold ow_fv
    rw [if_neg (by omega), if_neg (by omega)]
    dsimp only
    rw [ow_u_at]
    rfl
  have e1 := ow_W_set (ad := ad) (cs := cs) (h := (n, I, J, R)) (h' := (n, ow_u I o kq v, J, R)) (o := o) (E' := .inr (ow_kd o, (ow_fl ad (n, I, J, R) o).set kq (ow_tv ad (.int v)))) rfl (by rw [ow_E_obj f2, e0]) (fun b hb => ow_E_ext (ow_u_ne hb) rfl rfl)
  rw [e1] at hP1 hD1
  exact kk p l e Rm s m args below meth c ad0 ad n0 D cs A H1 locs1 lsA C hY hR hSt ⟨hK, hP1, hD1, hS1, hA, had, hn0, hn9⟩ hl
theorem ow_obj {Y : ow_Yt} {h : ow_H} {idx o : Nat} (hd : decode M.2.1 pc = .ok (.invokespecial idx, 3)) (hw1 : Cond.methodLink M.1.cls idx Lib.objectInit ∈ ow_tb) (hw2 : Cond.instanceMethod Lib.objectInit ∈ ow_tb) (hw3 : Cond.code Lib.objectInit ⟨#[0xb1]⟩ 1 none ∈ ow_tb) (hd1 : 1 ≤ d) (hcat : (rest.map fun v => v.category).sum ≤ 8)
    (kk : ow_AW Y Z M d mc ms (pc + 3) ls rest h k nn) : ow_AW Y Z M d mc ms pc ls (.ref o :: rest) h k nn := by
  intro p l e Rm s m args below meth c ad0 ad n0 D cs A H locs lsA C hY hR hSt hX hl
  obtain ⟨hx, hb, hr, hml, hown, hts, hlk, hnm⟩ := id C
  obtain ⟨r1, r2, r3, r4⟩ := id hR
  refine W.objInit (g := F0 m pc lsA (.ref (ad o) :: rest.map (ow_tv ad))) hx hb hown (hts _ hw1) (hts _ hw2) (hts _ hw3) rfl (by rw [hml]; exact hl.1) (a := ad o) (rest := rest.map (ow_tv ad)) rfl hd (by omega) (by show 2 * 0 + _ + 12 ≤ _; rw [ow_cats]; omega) ?_
  exact kk p l e Rm s m args below meth c ad0 ad n0 D cs A H locs lsA C hY hR hSt hX hl
end OWN
theorem ow_callI {Z : ow_Zt} {M M2 : ow_M} {d d2 mc ms mc2 ms2 pc k nn idx b : Nat} {ls : List (Nat × Value)} {rest As : List Value} {h : ow_H} (hd : decode M.2.1 pc = .ok (.invokespecial idx, 3)) (hl2 : Cond.methodLink M.1.cls idx M2.1 ∈ ow_tb) (hm : ow_okB M2 As.length) (hm2 : Cond.instanceMethod M2.1 ∈ ow_tb) (hnm2 : M2.1.name = "<init>") (hret : M2.2.2.2 = none) (hcat : (rest.map fun v => v.category).sum ≤ 8) (hd2 : d2 + 1 ≤ d) (hb1 : k + mc2 ≤ mc) (hb2 : nn + ms2 ≤ ms) (hls : ls.all (fun q => ow_vb h.1 q.2) = true) (hst : rest.all (ow_vb h.1) = true)
    (kk : ow_AN M2 d2 mc2 ms2 (.ref b :: As) h (fun h' => h'.1 ≤ h.1 + mc2 ∧ ow_AW ow_Y1 Z M d mc ms (pc + 3) ls rest h' (k + mc2) (nn + ms2))) : ow_AW ow_Y1 Z M d mc ms pc ls (As.reverse ++ .ref b :: rest) h k nn := by
  intro p l e R s m args below meth c ad0 ad n0 D cs A H locs lsA C hY hR hSt hX hl
  obtain ⟨hx, hb, hrt, hml, hown, hts, hlk, hnm⟩ := id C
  obtain ⟨hK, hP, hD, hS, hA, had, hn0, hn9, hnk⟩ := id hX
  obtain ⟨r1, r2, r3, r4⟩ := id hR
  obtain ⟨o1, o2, o3, o4⟩ := hm
  have hFc : ∀ q, va_A (ow_W ad cs h) H.size q → A q := by
    intro q hq
    rcases hq with ⟨i, e', hi⟩ | hq
    · exact hD.2 i _ hi
    · exact hA q (Nat.le_trans hS.1 hq)
  have hgood : GoodIn ow_tb (ow_ws M2) := ow_good (fun w hw => by
    rcases List.mem_cons.mp hw with rfl | hw
    · exact o1
    · exact hw) (fun w hw => hw)
  have hblind : FrameBlind (va_Pc ((.ref b :: As).map (ow_tv ad)) (fun U => ow_Pre ad D cs h H.size U ∧ ow_Ns U)) := by
    intro a U g mk q
    obtain ⟨q0, q1, q2⟩ := q
    have := ow_blind (av := (.ref b :: As).map (ow_tv ad)) a U g mk ⟨q0, q1⟩
    exact ⟨this.1, this.2, fun z hz => va_Nw.same rfl rfl (q2 z hz)⟩
  have hrun := va_runI (As := As.map (ow_tv ad)) (b := ad b) (rest := rest.map (ow_tv ad)) (Ts := ow_tb) (nL := M.2.2.1) (n := As.length) (g := F0 m pc lsA ((As.reverse ++ .ref b :: rest).map (ow_tv ad))) (mc := mc2) (ms := ms2) (cells := k) (slots := nn) (locs := locs) (H := H) (e := e) (below := below) (meth := meth) (R := R) ⟨hx, hb, hml, hown, hts⟩ (kk l ad D cs H.size hn9) ⟨hret ▸ callB_of As.length hts hgood rfl rfl rfl (hts _ o2) (hts _ hl2) o3 ⟨by show d2 + 1 ≤ R.frames; omega, by show 8 + (M2.2.2.1 + 11) + 41 * d2 ≤ R.locals; omega⟩, hnm2, hts _ hm2⟩ ⟨hblind, ?_⟩ rfl (by rw [List.length_map]) hl.1 (by show (As.reverse ++ Value.ref b :: rest).map (ow_tv ad) = _; rw [List.map_append, List.map_reverse, List.map_cons]; rfl) (lv_room (by rw [ow_cats]; exact hcat)) hd ⟨by omega, by omega⟩
  · intro T hT X
    obtain ⟨v, st₀, t, T', L, h0, X', hL, e1, e2, ⟨⟨h', ad2, hv, ⟨hq1, hq⟩, hn1, hn2, hag, hP1, hK1, hD1⟩, hz, hk⟩, st⟩ := hrun T hT X
    cases hv
    rw [h0] at hz hk
    have hS' : va_S A s.heap T'.heap (locs ++ L) := by
      refine ⟨Nat.le_trans hS.1 (by rw [e1]; exact hz), fun q h1 h2 => ?_, fun q hq => ?_⟩
      · rw [e1, hk q (Nat.lt_of_lt_of_le h1 hS.1) (fun z => h2 (hFc q z))]
        exact hS.2.1 q h1 h2
      · rcases List.mem_append.mp hq with h | h
        · exact hS.2.2 q h
        · exact hFc _ (hL q h)
    have K := hq p l e R s m args below meth c ad0 ad2 n0 D cs A T'.heap (locs ++ L) lsA C hY hR hSt ⟨hK, by rw [e1]; exact hP1, hD1.weaken (fun _ q _ hq => hFc q.1 hq), hS', hA, fun i hi => (hag i (by omega)).trans (had i hi), by omega, by omega, by omega⟩ (by rw [ow_ls_ag hag hls]; exact hl)
    rw [ow_st_ag hag hst] at K
    obtain ⟨t2, a1, b1⟩ := K T' rfl X'
    exact ⟨t2, st t2 a1, b1⟩
  · intro U hU hW
    exact ⟨rfl, ⟨by rw [hU], by rw [hU]; exact hP, va_K.moved hW.alike hK, hD.weaken (fun _ _ _ _ => trivial), ow_S_move hSt (fun i hi => had i (Or.inr hi)) hS hFc hU hW⟩, fun z hz => va_Nw.warmM hW (hY z hz)⟩
theorem ow_callN {Z : ow_Zt} {M M2 : ow_M} {d d2 mc ms mc2 ms2 pc k nn idx b : Nat} {ls : List (Nat × Value)} {rest As : List Value} {h : ow_H} (hd : decode M.2.1 pc = .ok (.invokespecial idx, 3)) (jN : Nat) (hl2 : ow_nst[jN]? = some (M.1.cls, idx, M2.1, "FollyShire")) (hm : ow_okB M2 As.length) (hm2 : Cond.instanceMethod M2.1 ∈ ow_tb) (hnm2 : M2.1.name = "<init>") (hret : M2.2.2.2 = none) (hcat : (rest.map fun v => v.category).sum ≤ 8) (hd2 : d2 + 1 ≤ d) (hb1 : k + mc2 ≤ mc) (hb2 : nn + ms2 ≤ ms) (hls : ls.all (fun q => ow_vb h.1 q.2) = true) (hst : rest.all (ow_vb h.1) = true)
    (kk : ow_AN M2 d2 mc2 ms2 (.ref b :: As) h (fun h' => h'.1 ≤ h.1 + mc2 ∧ ow_AW ow_Y1 Z M d mc ms (pc + 3) ls rest h' (k + mc2) (nn + ms2))) : ow_AW ow_Y1 Z M d mc ms pc ls (As.reverse ++ .ref b :: rest) h k nn := by
  intro p l e R s m args below meth c ad0 ad n0 D cs A H locs lsA C hY hR hSt hX hl
  obtain ⟨hx, hb, hrt, hml, hown, hts, hlk, hnm⟩ := id C
  obtain ⟨hK, hP, hD, hS, hA, had, hn0, hn9, hnk⟩ := id hX
  obtain ⟨r1, r2, r3, r4⟩ := id hR
  obtain ⟨o1, o2, o3, o4⟩ := hm
  have hFc : ∀ q, va_A (ow_W ad cs h) H.size q → A q := by
    intro q hq
    rcases hq with ⟨i, e', hi⟩ | hq
    · exact hD.2 i _ hi
    · exact hA q (Nat.le_trans hS.1 hq)
  have hgood : GoodIn ow_tb (ow_ws M2) := ow_good (fun w hw => by
    rcases List.mem_cons.mp hw with rfl | hw
    · exact o1
    · exact hw) (fun w hw => hw)
  have hblind : FrameBlind (va_Pc ((.ref b :: As).map (ow_tv ad)) (fun U => ow_Pre ad D cs h H.size U ∧ ow_Ns U)) := by
    intro a U g mk q
    obtain ⟨q0, q1, q2⟩ := q
    have := ow_blind (av := (.ref b :: As).map (ow_tv ad)) a U g mk ⟨q0, q1⟩
    exact ⟨this.1, this.2, fun z hz => va_Nw.same rfl rfl (q2 z hz)⟩
  have hrun := va_runIN (As := As.map (ow_tv ad)) (b := ad b) (rest := rest.map (ow_tv ad)) (Ts := ow_tb) (nL := M.2.2.1) (n := As.length) (g := F0 m pc lsA ((As.reverse ++ .ref b :: rest).map (ow_tv ad))) (mc := mc2) (ms := ms2) (cells := k) (slots := nn) (locs := locs) (H := H) (e := e) (below := below) (meth := meth) (R := R) ⟨hx, hb, hml, hown, hts⟩ (kk l ad D cs H.size hn9) ⟨hret ▸ va_cnB (host := "FollyShire") As.length hts hgood rfl rfl rfl (hY _ (List.mem_of_getElem? hl2)) (hts _ o2) o3 ⟨by show d2 + 1 ≤ R.frames; omega, by show 8 + (M2.2.2.1 + 11) + 41 * d2 ≤ R.locals; omega⟩, hnm2, hts _ hm2⟩ ⟨hblind, ?_⟩ rfl (by rw [List.length_map]) hl.1 (by show (As.reverse ++ Value.ref b :: rest).map (ow_tv ad) = _; rw [List.map_append, List.map_reverse, List.map_cons]; rfl) (lv_room (by rw [ow_cats]; exact hcat)) hd ⟨by omega, by omega⟩
  · intro T hT X
    obtain ⟨v, st₀, t, T', L, h0, X', hL, e1, e2, ⟨⟨h', ad2, hv, ⟨hq1, hq⟩, hn1, hn2, hag, hP1, hK1, hD1⟩, hz, hk⟩, st⟩ := hrun T hT X
    cases hv
    rw [h0] at hz hk
    have hS' : va_S A s.heap T'.heap (locs ++ L) := by
      refine ⟨Nat.le_trans hS.1 (by rw [e1]; exact hz), fun q h1 h2 => ?_, fun q hq => ?_⟩
      · rw [e1, hk q (Nat.lt_of_lt_of_le h1 hS.1) (fun z => h2 (hFc q z))]
        exact hS.2.1 q h1 h2
      · rcases List.mem_append.mp hq with h | h
        · exact hS.2.2 q h
        · exact hFc _ (hL q h)
    have K := hq p l e R s m args below meth c ad0 ad2 n0 D cs A T'.heap (locs ++ L) lsA C hY hR hSt ⟨hK, by rw [e1]; exact hP1, hD1.weaken (fun _ q _ hq => hFc q.1 hq), hS', hA, fun i hi => (hag i (by omega)).trans (had i hi), by omega, by omega, by omega⟩ (by rw [ow_ls_ag hag hls]; exact hl)
    rw [ow_st_ag hag hst] at K
    obtain ⟨t2, a1, b1⟩ := K T' rfl X'
    exact ⟨t2, st t2 a1, b1⟩
  · intro U hU hW
    exact ⟨rfl, ⟨by rw [hU], by rw [hU]; exact hP, va_K.moved hW.alike hK, hD.weaken (fun _ _ _ _ => trivial), ow_S_move hSt (fun i hi => had i (Or.inr hi)) hS hFc hU hW⟩, fun z hz => va_Nw.warmM hW (hY z hz)⟩
