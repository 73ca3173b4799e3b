/-! Own rows: over the 85 cells of the law. -/
def ow_R0 (o k : Nat) : Option Nat := (([[some 1, none, some 2, some 13, some 29, some 33, some 37, some 39, some 46, some 54, some 62, some 63, some 66, some 68, none, none, none, none], [], [none, none, some 3, none, some 7, some 8, some 9, none, some 10, none, some 11, some 12], [none, none, none, some 4, some 5, some 6], [], [], [], [], [], [], [], [], [], [some 14, some 25, some 27, some 28, none, none, none, none, none, none, none], [none, none, some 15, none, some 19, some 20, some 21, none, some 22, none, some 23, some 24], [none, none, none, some 16, some 17, some 18], [], [], [], [], [], [], [], [], [], [none, none, none, none, none], [], [], [], [none, none, none, some 30, some 31, some 32], [], [], [], [none, none, none, some 34, some 35, some 36], [], [], [], [some 38, none, none, none, none], [], [some 2, some 40, some 42, none, none, none, none], [some 41, none, none, none, none], [], [none, none, none, some 43, some 44, some 45], [], [], [], [some 2, some 39, some 47, some 51, some 52, some 53, none, none, none], [none, none, none, some 48, some 49, some 50], [], [], [], [], [], [], [some 2, some 55, some 57, some 61, none, none, none], [some 56, none, none, none, none], [], [none, none, none, some 58, some 59, some 60], [], [], [], [], [some 2], [some 2, some 64, none, none, none, none], [some 65, none, none, none, none], [], [none, some 67, none], [], [none, some 69, none], [], [none, some 71, none, none, none, none, none, none, none, none, none, none, some 72, none, none, some 73, some 74, some 75, some 76, some 77, some 78, some 79, none, none, some 80, some 81, none, none, none, none, none, some 82, none, none, some 83, none, none, none, none, none, none], [], [], [], [], [], [], [], [], [], [], [], [], [], []] : List (List (Option Nat))).getD o []).getD k none
def ow_RF (R : Nat → Nat → Option Nat) : Prop := ∀ o k : Nat, ¬ (o = 25 ∧ k = 0) → R o k = ow_R0 o k
theorem ow_sc_ok : ∀ o ∈ [3, 15, 29, 33, 42, 47, 57], (o + 3 < 85 ∧ ow_kd o = 4 ∧ ow_R0 o 3 = some (o + 1) ∧ ow_R0 o 4 = some (o + 2) ∧ ow_R0 o 5 = some (o + 3) ∧ ow_kd (o + 1) = 14 ∧ ow_kd (o + 2) = 14 ∧ ow_kd (o + 3) = 14 ∧ ow_ln (o + 1) = 6 ∧ ow_ln (o + 2) = 6 ∧ ow_ln (o + 3) = 6) := by decide
theorem ow_co_ok : ∀ o ∈ [37, 40, 55, 64], (o + 1 < 85 ∧ ow_kd o = 0 ∧ ow_R0 o 0 = some (o + 1) ∧ ow_kd (o + 1) = 14 ∧ ow_ln (o + 1) = 6) := by decide
theorem ow_sn_ok : ∀ o ∈ [66, 68], (o + 1 < 85 ∧ ow_kd o = 6 ∧ ow_R0 o 1 = some (o + 1) ∧ ow_kd (o + 1) = 14) := by decide
theorem ow_rw_ok : ∀ o ∈ [75, 76, 77, 82], (o < 85 ∧ ow_kd o = 14 ∧ ow_ln o = 14) := by decide
theorem ow_mono {M : ow_M} {d : Nat} {av : List Value} {h : ow_H} {Q Q2 : Option Value → ow_H → Prop} (T : ow_AM M d av h Q) (hq : ∀ r h', Q r h' → Q2 r h') : ow_AM M d av h Q2 := by
  intro l ad D cs sz h9
  have K := T l ad D cs sz h9
  intro p e a1 a2 a3 s m args below a4 a5 a6 a7
  obtain ⟨n, o, b1, b2, b3, ⟨⟨⟨r, h', c1, c2, c3⟩, c4⟩, c5⟩⟩ := K p e a1 a2 a3 s m args below a4 a5 a6 a7
  exact ⟨n, o, b1, b2, b3, ⟨⟨⟨r, h', c1, hq r h' c2, c3⟩, c4⟩, c5⟩⟩
section OWH
variable {Y : ow_Yt} {Z : ow_Zt} {M : ow_M} {d mc ms pc k n : Nat} {ls ls2 : List (Nat × Value)} {rest : List Value} {h : ow_H} {I : Nat → Nat → Int32} {J : Nat → Nat → Int64} {R : Nat → Nat → Option Nat}
/-- fewer of the values -/
theorem ow_sub (ks : List Nat) (hl2 : lv_pick ls ks = ls2) (kk : ow_AW Y Z M d mc ms pc ls2 rest h k n) : ow_AW Y Z M d mc ms pc ls rest h k n := by
  intro p l e R s m args below meth c ad0 ad n0 D cs A H locs lsA C hY hR hSt hX hl
  refine kk p l e R s m args below meth c ad0 ad n0 D cs A H locs lsA C hY hR hSt hX ?_
  refine lv_sub hl ks ?_
  rw [← hl2]
  unfold lv_pick
  rw [List.map_filterMap]
  congr 1
  funext i
  rw [List.getElem?_map]
theorem ow_gI {own idx cq kq pq o : Nat}  (jF : Nat) (hd : decode M.2.1 pc = .ok (.getfield idx, 3)) (hF : ow_FL[jF]? = some (own, idx, cq, kq, pq)) (ho : M.1.cls = ow_cn own) (hn : o < 85) (hk : ow_kd o = cq) (ht : ow_ft cq kq = 0 ∨ ow_ft cq kq = 3) (kk : ow_AW Y Z M d mc ms (pc + 3) ls (.int (I o kq) :: rest) (85, I, J, R) k n) : ow_AW Y Z M d mc ms (pc) ls (.ref o :: rest) (85, I, J, R) k n := ow_getI jF hd hF ho hn hk ht kk
theorem ow_gJ {own idx cq kq pq o : Nat}  (jF : Nat) (hd : decode M.2.1 pc = .ok (.getfield idx, 3)) (hF : ow_FL[jF]? = some (own, idx, cq, kq, pq)) (ho : M.1.cls = ow_cn own) (hn : o < 85) (hk : ow_kd o = cq) (ht : ow_ft cq kq = 1) (kk : ow_AW Y Z M d mc ms (pc + 3) ls (.long (J o kq) :: rest) (85, I, J, R) k n) : ow_AW Y Z M d mc ms (pc) ls (.ref o :: rest) (85, I, J, R) k n := ow_getJ jF hd hF ho hn hk ht kk
theorem ow_gR {own idx cq kq pq o : Nat} {a : Nat} (jF : Nat) (hd : decode M.2.1 pc = .ok (.getfield idx, 3)) (hF : ow_FL[jF]? = some (own, idx, cq, kq, pq)) (ho : M.1.cls = ow_cn own) (hn : o < 85) (hk : ow_kd o = cq) (ht : ow_ft cq kq = 2 ∧ R o kq = some a) (kk : ow_AW Y Z M d mc ms (pc + 3) ls (.ref a :: rest) (85, I, J, R) k n) : ow_AW Y Z M d mc ms (pc) ls (.ref o :: rest) (85, I, J, R) k n := ow_getR jF hd hF ho hn hk ht kk
theorem ow_pI {own idx cq kq pq o : Nat} {v : Int32} (jF : Nat) (hd : decode M.2.1 pc = .ok (.putfield idx, 3)) (hF : ow_FL[jF]? = some (own, idx, cq, kq, pq)) (ho : M.1.cls = ow_cn own) (hn : o < 85) (hk : ow_kd o = cq) (ht : ow_ft cq kq = 0) (hfin : (ow_T cq kq).2.2.2 = false) (kk : ow_AW Y Z M d mc ms (pc + 3) ls (rest) (85, ow_u I o kq v, J, R) k n) : ow_AW Y Z M d mc ms (pc) ls (.int v :: .ref o :: rest) (85, I, J, R) k n := ow_putI jF hd hF ho hn hk ht hfin kk
theorem ow_pZ {own idx cq kq pq o : Nat} {v : Int32} (jF : Nat) (hd : decode M.2.1 pc = .ok (.putfield idx, 3)) (hF : ow_FL[jF]? = some (own, idx, cq, kq, pq)) (ho : M.1.cls = ow_cn own) (hn : o < 85) (hk : ow_kd o = cq) (ht : ow_ft cq kq = 3 ∧ (v = 0 ∨ v = 1)) (hfin : (ow_T cq kq).2.2.2 = false) (kk : ow_AW Y Z M d mc ms (pc + 3) ls (rest) (85, ow_u I o kq v, J, R) k n) : ow_AW Y Z M d mc ms (pc) ls (.int v :: .ref o :: rest) (85, I, J, R) k n := ow_putZ jF hd hF ho hn hk ht hfin kk
theorem ow_pJ {own idx cq kq pq o : Nat} {v : Int64} (jF : Nat) (hd : decode M.2.1 pc = .ok (.putfield idx, 3)) (hF : ow_FL[jF]? = some (own, idx, cq, kq, pq)) (ho : M.1.cls = ow_cn own) (hn : o < 85) (hk : ow_kd o = cq) (ht : ow_ft cq kq = 1) (hfin : (ow_T cq kq).2.2.2 = false) (kk : ow_AW Y Z M d mc ms (pc + 3) ls (rest) (85, I, ow_u J o kq v, R) k n) : ow_AW Y Z M d mc ms (pc) ls (.long v :: .ref o :: rest) (85, I, J, R) k n := ow_putJ jF hd hF ho hn hk ht hfin kk
theorem ow_hiaload {o z : Nat} {i : Int32} (hd : decode M.2.1 pc = .ok (.iaload, 1)) (hn : o < 85) (hk : ow_kd o = 14) (hz : ow_ln o = z) (hi : vp_in i z) (kk : ow_AW Y Z M d mc ms (pc + 1) ls (.int (I o i.toNatClampNeg) :: rest) (85, I, J, R) k n) : ow_AW Y Z M d mc ms (pc) ls (.int i :: .ref o :: rest) (85, I, J, R) k n := ow_iaload hd hn hk (by rw [hz]; exact hi) kk
theorem ow_hbaload {o z : Nat} {i : Int32} (hd : decode M.2.1 pc = .ok (.baload, 1)) (hn : o < 85) (hk : ow_kd o = 13) (hz : ow_ln o = z) (hi : vp_in i z) (kk : ow_AW Y Z M d mc ms (pc + 1) ls (.int (I o i.toNatClampNeg) :: rest) (85, I, J, R) k n) : ow_AW Y Z M d mc ms (pc) ls (.int i :: .ref o :: rest) (85, I, J, R) k n := ow_baload hd hn hk (by rw [hz]; exact hi) kk
theorem ow_hlaload {o z : Nat} {i : Int32} (hd : decode M.2.1 pc = .ok (.laload, 1)) (hn : o < 85) (hk : ow_kd o = 15) (hz : ow_ln o = z) (hi : vp_in i z) (kk : ow_AW Y Z M d mc ms (pc + 1) ls (.long (J o i.toNatClampNeg) :: rest) (85, I, J, R) k n) : ow_AW Y Z M d mc ms (pc) ls (.int i :: .ref o :: rest) (85, I, J, R) k n := ow_laload hd hn hk (by rw [hz]; exact hi) kk
theorem ow_hiastore {o z : Nat} {i : Int32} {v : Int32} (hd : decode M.2.1 pc = .ok (.iastore, 1)) (hn : o < 85) (hk : ow_kd o = 14) (hz : ow_ln o = z) (hi : vp_in i z) (kk : ow_AW Y Z M d mc ms (pc + 1) ls (rest) (85, ow_u I o i.toNatClampNeg v, J, R) k n) : ow_AW Y Z M d mc ms (pc) ls (.int v :: .int i :: .ref o :: rest) (85, I, J, R) k n := ow_iastore hd hn hk (by rw [hz]; exact hi) kk
theorem ow_hbastore {o z : Nat} {i : Int32} {v : Int32} (hd : decode M.2.1 pc = .ok (.bastore, 1)) (hn : o < 85) (hk : ow_kd o = 13) (hz : ow_ln o = z) (hi : vp_in i z) (kk : ow_AW Y Z M d mc ms (pc + 1) ls (rest) (85, ow_u I o i.toNatClampNeg (vp_nar .byte v), J, R) k n) : ow_AW Y Z M d mc ms (pc) ls (.int v :: .int i :: .ref o :: rest) (85, I, J, R) k n := ow_bastore hd hn hk (by rw [hz]; exact hi) kk
theorem ow_hlastore {o z : Nat} {i : Int32} {v : Int64} (hd : decode M.2.1 pc = .ok (.lastore, 1)) (hn : o < 85) (hk : ow_kd o = 15) (hz : ow_ln o = z) (hi : vp_in i z) (kk : ow_AW Y Z M d mc ms (pc + 1) ls (rest) (85, I, ow_u J o i.toNatClampNeg v, R) k n) : ow_AW Y Z M d mc ms (pc) ls (.long v :: .int i :: .ref o :: rest) (85, I, J, R) k n := ow_lastore hd hn hk (by rw [hz]; exact hi) kk
theorem ow_ldS {idx i : Nat} {tx : String} (jS : Nat) (hd : decode M.2.1 pc = .ok (.ldc idx, 2)) (hs : ow_strs[jS]? = some (M.1.cls, idx, tx, i)) (kk : ow_AW Y Z M d mc ms (pc + 2) ls (.ref (1000 + i) :: rest) h k n) : ow_AW Y Z M d mc ms pc ls rest h k n := by
  intro p l e R s m args below meth c ad0 ad n0 D cs A H locs lsA C hY hR hSt hX hl
  obtain ⟨hx, hb, hr, hml, hown, hts, hlk, hnm⟩ := id C
  have h1 := hSt.2.1 _ (List.mem_of_getElem? hs)
  have h2 : ad (1000 + i) = ad0 (1000 + i) := hX.2.2.2.2.2.1 _ (Or.inr (by omega))
  refine va_ldcS (tx := tx) (q := ad (1000 + i)) hx hb hown (by rw [h2]; exact h1) hd ?_
  exact kk p l e R s m args below meth c ad0 ad n0 D cs A H locs lsA C hY hR hSt hX hl
theorem ow_nfw {a b : Nat} (h : a + 31 ≤ b) : a + (nativeFrameWords "java/lang/System" "arraycopy" 5 + 11) ≤ b := by
  have : nativeFrameWords "java/lang/System" "arraycopy" 5 ≤ 20 := by decide
  omega
theorem ow_w1 : Cond.native arraycopyName ∈ ow_tb := ow_mem 812 (by decide +kernel) (by decide +kernel)
theorem ow_w2 : Cond.static arraycopyName ∈ ow_tb := ow_mem 811 (by decide +kernel) (by decide +kernel)
theorem ow_w3 : Cond.initialized "java/lang/System" ∈ ow_tb := ow_mem 122 (by decide +kernel) (by decide +kernel)
theorem ow_acopy {idx o0 o1 z0 z1 : Nat} {sp dp z : Int32} (hd : decode M.2.1 pc = .ok (.invokestatic idx, 3)) (hl2 : Cond.methodLink M.1.cls idx arraycopyName ∈ ow_tb) (hn0 : o0 < 85) (hk0 : ow_kd o0 = 14) (hn1 : o1 < 85) (hk1 : ow_kd o1 = 14) (hz0 : ow_ln o0 = z0) (hz1 : ow_ln o1 = z1) (h1 : ¬ sp < 0) (h2 : ¬ dp < 0) (h3 : ¬ z < 0) (h4 : sp.toNatClampNeg + z.toNatClampNeg ≤ z0) (h5 : dp.toNatClampNeg + z.toNatClampNeg ≤ z1) (hd1 : 1 ≤ d) (hcat : (rest.map fun v => v.category).sum ≤ 8)
    (kk : ow_AW Y Z M d mc ms (pc + 3) ls rest (85, ow_r I o1 (va_cpy (I o0) (I o1) sp.toNatClampNeg dp.toNatClampNeg z.toNatClampNeg), J, R) k n) : ow_AW Y Z M d mc ms pc ls (.int z :: .int dp :: .ref o1 :: .int sp :: .ref o0 :: rest) (85, I, J, R) k n := by
  intro p l e Rm s m args below meth c ad0 ad n0 D cs A H locs lsA C hY hR hSt hX hl
  obtain ⟨hx, hb, hr, hml, hown, hts, hlk, hnm⟩ := id C
  obtain ⟨hK, hP, hD, hS, hA, had, hnn, hn9⟩ := id hX
  obtain ⟨r1, r2, r3, r4⟩ := hR
  subst hz0; subst hz1
  refine va_copyi (ty := .int) (rest := rest.map (ow_tv ad)) (a := ad o1) (a0 := ad o0) hx hb (by rw [hml]; exact hl.1.symm) hown (hts _ hl2) (hts _ ow_w1) (hts _ ow_w2) (hts _ ow_w3) hK hP hD hS o0 o1 1 1 ((ow_W_at hn0).trans (by rw [ow_E_i hk0])) ((ow_W_at hn1).trans (by rw [ow_E_i hk1])) rfl rfl rfl h1 h2 h3 h4 h5 (fun _ _ => rfl) (by omega) (by rw [ow_cats]; exact ow_nfw (by omega)) hd (fun H1 locs1 hP1 hD1 hS1 => ?_)
  have e1 := ow_W_set (ad := ad) (cs := cs) (h := (85, I, J, R)) (h' := (85, ow_r I o1 (va_cpy (I o0) (I o1) sp.toNatClampNeg dp.toNatClampNeg z.toNatClampNeg), J, R)) (o := o1) (E' := .inl (cs.2.1, ow_ln o1, .inl (va_cpy (I o0) (I o1) sp.toNatClampNeg dp.toNatClampNeg z.toNatClampNeg))) rfl (by rw [ow_E_i hk1]; dsimp only; unfold ow_r; rw [if_pos rfl]) (fun a ha => ow_E_ext (by dsimp only; unfold ow_r; rw [if_neg ha]) rfl rfl)
  rw [e1] at hP1 hD1
  exact kk p l e Rm s m args below meth c ad0 ad n0 D cs A H1 locs1 lsA C hY ⟨r1, r2, r3, r4⟩ hSt ⟨hK, hP1, hD1, hS1, hA, had, hnn, hn9⟩ hl
/-- a reference put into a field that may be put again -/
theorem ow_pR {own idx cq kq pq o a : Nat} {ty : FieldType} (jF : Nat) (hd : decode M.2.1 pc = .ok (.putfield idx, 3)) (hF : ow_FL[jF]? = some (own, idx, cq, kq, pq)) (ho : M.1.cls = ow_cn own) (hn : o < 85) (hk : ow_kd o = cq) (ht : ow_ft cq kq = 2) (hty : ow_ty cq kq = .array ty) (hfin : (ow_T cq kq).2.2.2 = false) (kk : ow_AW Y Z M d mc ms (pc + 3) ls rest (85, I, J, ow_u R o kq (some a)) k n) : ow_AW Y Z M d mc ms pc ls (.ref a :: .ref o :: rest) (85, I, J, R) k n := by
  intro p l e Rm s m args below meth c ad0 ad n0 D cs A H locs lsA C hY hR hSt hX hl
  obtain ⟨hx, hb, hr, hml, hown, hts, hlk, hnm⟩ := id C
  obtain ⟨f1, f2, f3, f4⟩ := ow_FL_ok _ (List.mem_of_getElem? hF)
  dsimp only at f1 f2 f3 f4
  subst hk
  obtain ⟨hK, hP, hD, hS, hA, had, hn0, hn9⟩ := id hX
  refine va_put (D := D) (T := ow_T (ow_kd o)) (C := ow_cn (ow_kd o)) (N := ow_nf (ow_kd o)) (ref := ow_cn (ow_kd o)) (ci := ow_kd o) (v := ow_tv ad (.ref a)) (ty := ow_ty (ow_kd o) kq) (fs := ow_fl ad (85, I, J, R) o) (rest := rest.map (ow_tv ad)) hx hb hts (ow_in f2) (ow_ty (ow_kd o)) (ow_ty_ok _ f2) (ow_nm_ok _ f2) (by rw [← ho]; exact hown) hK hP hD hS o ((ow_W_at hn).trans (by rw [ow_E_obj f2])) (ow_cl_at f2) kq f3 (hts _ (ow_mem _ f1 rfl)) (by rw [f4]; exact fun _ q => q) hfin (ow_ty_ok _ f2 kq f3) (by rw [hty]; rfl) (by rw [hty]; rfl) (by rw [ow_fl_len]; exact f3) hd (fun H1 locs1 hP1 hD1 hS1 => ?_)
  have e0 : (ow_fl ad (85, I, J, R) o).set kq (ow_tv ad (.ref a)) = ow_fl ad (85, I, J, ow_u R o kq (some a)) o := by
    refine ow_fl_set ?_ (fun b hb => ow_fv_r (h := (85, I, J, R)) (ow_u_nk hb))
    unfold ow_fv
    rw [if_neg (by omega), if_pos ht]
    dsimp only
    rw [ow_u_at]
    rfl
  have e1 := ow_W_set (ad := ad) (cs := cs) (h := (85, I, J, R)) (h' := (85, I, J, ow_u R o kq (some a))) (o := o) (E' := .inr (ow_kd o, (ow_fl ad (85, I, J, R) o).set kq (ow_tv ad (.ref a)))) rfl (by rw [ow_E_obj f2, e0]) (fun b hb => ow_E_ext rfl rfl (ow_u_ne hb))
  rw [e1] at hP1 hD1
  exact kk p l e Rm s m args below meth c ad0 ad n0 D cs A H1 locs1 lsA C hY hR hSt ⟨hK, hP1, hD1, hS1, hA, had, hn0, hn9⟩ hl
/-- a text's method -/
theorem ow_callT {M2 : ow_M} {d2 idx i : Nat} {As : List Value} (hd : decode M.2.1 pc = .ok (.invokevirtual idx, 3)) (hl2 : Cond.methodLink M.1.cls idx M2.1 ∈ ow_tb) (hm : ow_okV M2 As.length) (hi : i < ow_ns) (hcn : M2.1.cls = "java/lang/String") (hcat : (rest.map fun v => v.category).sum ≤ 8) (hd2 : d2 + 1 ≤ d) (hkn : k ≤ mc ∧ n ≤ ms)
    (kk : ow_AM M2 d2 (.ref (1000 + i) :: As) h (fun r h' => ow_AW Y Z M d mc ms (pc + 3) ls (r.toList ++ rest) h' k n)) : ow_AW Y Z M d mc ms pc ls (As.reverse ++ .ref (1000 + i) :: rest) h k n := by
  intro p l e R s m args below meth c ad0 ad n0 D cs A H locs lsA C hY hR hSt hX hl
  obtain ⟨hx, hb, hrt, hml, hown, hts, hlk, hnm⟩ := id C
  obtain ⟨hK, hP, hD, hS, hA, had, hn0, hn9, hnk⟩ := id hX
  have hFc : ∀ q, va_A (ow_W ad cs h) H.size q → A q := by
    intro q hq
    rcases hq with ⟨i, e', hi⟩ | hq
    · exact hD.2 i _ hi
    · exact hA q (Nat.le_trans hS.1 hq)
  refine ow_cont (rest := rest) (a := (Value.ref (ad (1000 + i)) :: As.map (ow_tv ad)).toArray) C hY hR hSt hX hl ?_
  refine va_runV (As := As.map (ow_tv ad)) (b := ad (1000 + i)) (rest := rest.map (ow_tv ad)) (C := M2.1.cls) (Ts := ow_tb) (nL := M.2.2.1) (n := As.length) ⟨hx, hb, hml, hown, hts⟩ (kk l ad D cs H.size hn9) ⟨ow_callB hts hm.1 hl2 hR hd2, hts _ hm.2.1, hts _ hm.2.2⟩ ⟨ow_blind, ?_, ?_⟩ rfl (by rw [List.length_map]) hl.1 (by show (As.reverse ++ Value.ref (1000 + i) :: rest).map (ow_tv ad) = _; rw [List.map_append, List.map_reverse, List.map_cons]; rfl) (lv_room (by rw [ow_cats]; exact hcat)) hd ⟨by have := hR.2.2.1; omega, by have := hR.2.2.2; omega⟩
  · obtain ⟨cell, g1, g2, g3, -⟩ := (hSt.1 i hi).1.kept hS.2.1
    rw [had _ (Or.inr (by omega)), hcn]
    exact ⟨cell, g1, g2, g3⟩
  · intro U hU hW
    exact ⟨rfl, by rw [hU], by rw [hU]; exact hP, va_K.moved hW.alike hK, hD.weaken (fun _ _ _ _ => trivial), ow_S_move hSt (fun i hi => had i (Or.inr hi)) hS hFc hU hW⟩
end OWH
theorem ow_u_ne2 {α : Type} {f : Nat → Nat → α} {v : α} {o k a b : Nat} (h : ¬ (a = o ∧ b = k)) : ow_u f o k v a b = f a b := by unfold ow_u; rw [if_neg h]
theorem ow_ne {x v : Int32} {z : Int} (h : ¬ x = v) (hz : v.toInt = z) : x.toInt ≠ z := by
  intro e
  exact h (Int32.toInt_inj.mp (by rw [e, hz]))
