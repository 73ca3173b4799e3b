/-! Own rows: lines, as the reference reads them. -/
/-- the reference's draft holds it -/
def dN (I : Nat → Nat → Int32) (D : sp_D) : Prop := (I 74 0 = nI (st_wd (dd_T D)) ∧ I 74 1 = nI (st_rt (dd_T D)) ∧ I 74 2 = nI (st_n (dd_T D)) ∧ I 74 3 = nI (st_ne (dd_T D)) ∧ I 74 4 = nI (st_nv (dd_T D)) ∧ I 74 5 = nI (st_ns (dd_T D)) ∧ I 74 6 = sp_jb (dd_o D)) ∧ (∀ f, f < st_n (dd_T D) → I 74 (7 + 2 * f) = nI (sp_sh (dd_T D).1 f) ∧ I 74 (8 + 2 * f) = nI (sp_so (dd_T D).1 f) ∧ I 76 f = nI (sp_so (dd_T D).1 f) ∧ I 76 (6 + f) = nI (sp_to (dd_T D).1 f)) ∧ (∀ f, st_n (dd_T D) ≤ f → f < 6 → I 76 (6 + f) = 0) ∧ (I 76 12 = nI (sp_h (dd_T D).1) ∧ I 76 13 = 0) ∧ (∀ e, e < st_ne (dd_T D) → I 74 (19 + 2 * e) = nI (st_ef (dd_T D) e) ∧ I 74 (20 + 2 * e) = nI (st_de (dd_T D) e)) ∧ (∀ k, k < st_nv (dd_T D) → I 74 (29 + k) = nI (st_vf (dd_T D) k)) ∧ ∀ k, k < st_ns (dd_T D) → I 74 (32 + 3 * k) = nI (st_sl (dd_T D) k / 2) ∧ I 74 (33 + 3 * k) = nI (st_sl (dd_T D) k % 2) ∧ I 74 (34 + 3 * k) = sp_jo (st_sa (dd_T D) k)
def dM (I : Nat → Nat → Int32) (D : sp_D) : Prop := dN I D ∧ nM I (dd_m D)
theorem dN_r {I I2 : Nat → Nat → Int32} {D : sp_D} (h : dN I D) (hk : dk D) (h5 : ∀ j, j < 47 → I2 74 j = I 74 j) (h7 : I2 76 = I 76) : dN I2 D := by
  obtain ⟨k1, k2, k3, k4, k5⟩ := hk
  obtain ⟨⟨a1, a2, a3, a4, a5, a6, a7⟩, b, c, e, f, g, i⟩ := h
  refine ⟨⟨?_, ?_, ?_, ?_, ?_, ?_, ?_⟩, fun t ht => ?_, ?_, ?_, fun t ht => ?_, fun t ht => ?_, fun t ht => ?_⟩
  · rw [h5 0 (by decide)]; exact a1
  · rw [h5 1 (by decide)]; exact a2
  · rw [h5 2 (by decide)]; exact a3
  · rw [h5 3 (by decide)]; exact a4
  · rw [h5 4 (by decide)]; exact a5
  · rw [h5 5 (by decide)]; exact a6
  · rw [h5 6 (by decide)]; exact a7
  · rw [h5 _ (by omega), h5 _ (by omega), h7]; exact b t ht
  · rw [h7]; exact c
  · rw [h7]; exact e
  · rw [h5 _ (by omega), h5 _ (by omega)]; exact f t ht
  · rw [h5 _ (by omega)]; exact g t ht
  · rw [h5 _ (by omega), h5 _ (by omega), h5 _ (by omega)]; exact i t ht
theorem dM_k {I I2 : Nat → Nat → Int32} {D : sp_D} (h : dM I D) (hk : dk D) (hf : sp_fr [72] sp_fE I I2) : dM I2 D := ⟨dN_r h.1 hk (fun j _ => by rw [sp_fr_row hf (by decide) (by simp [sp_fE])]) (sp_fr_row hf (by decide) (by simp [sp_fE])), nM_k h.2 (fun j _ => by rw [sp_fr_row hf (by decide) (by simp [sp_fE])])⟩
theorem tM_w {I I2 : Nat → Nat → Int32} {X : sp_Tx} {p a k : Nat} {v : Int32} (h : tM I X p) (e : I2 = ow_u I a k v) (ha : a = 74 ∨ a = 76) : tM I2 X p := by
  have r : ∀ o, o ≠ 74 → o ≠ 76 → I2 o = I o := fun o h1 h2 => by
    rw [e]
    rcases ha with q | q
    · rw [q, ow_u_ne h1]
    · rw [q, ow_u_ne h2]
  exact tM_k h (fun k _ _ => by rw [r 70 (by decide) (by decide)]) (r 72 (by decide) (by decide)) (r 71 (by decide) (by decide))
section MLINES
variable {d : Nat} {I : Nat → Nat → Int32} {J : Nat → Nat → Int64} {R : Nat → Nat → Option Nat} {Q : Option Value → ow_H → Prop} {X : sp_Tx} {p : Nat} {D : sp_D}
def mf (Q : Option Value → ow_H → Prop) (I : Nat → Nat → Int32) (J : Nat → Nat → Int64) (R : Nat → Nat → Option Nat) (e : Nat × Nat) : Prop := ∀ I2 : Nat → Nat → Int32, sp_fr sp_fS sp_fE I I2 → md e I2 → Q none (85, I2, J, R)
theorem c_Mo_shireLine (hR : ow_RF R) (hX : tk_ok X) (hp : p ≤ X.1) (hf : I 70 13 = 0) (hM : tM I X p) (hD : dM I D) (hk : dk D)  (hF : ∀ q, pr_shire X D p = .inl q → mf Q I J R q) (hO : ∀ q, pr_shire X D p = .inr q → ∀ I2 : Nat → Nat → Int32, sp_fr sp_fS sp_fE I I2 → I2 70 13 = 0 → tM I2 X q.2 → dM I2 q.1 → Q none (85, I2, J, R)) : ow_AM M_Mo_shireLine (d + 9) [.ref 70] (85, I, J, R) Q := by
  apply t_Mo_shireLine hR
  unfold pr_shire at hF hO
  obtain ⟨⟨a1, a2, a3, a4, a5, a6, a7⟩, b1, b2, b3, b4, b5, b6⟩ := hD.1
  have o6 : I 74 6 ≤ 0 ↔ dd_o D = false := by
    rw [a7]
    cases dd_o D with
    | false => exact ⟨fun _ => rfl, fun _ => by decide⟩
    | true => exact ⟨fun c => absurd c (by decide), fun c => by cases c⟩
  rw [o6, hf]
  refine ⟨fun ho => ⟨fun _ => ?_, fun c => absurd rfl c⟩, fun ho => ?_⟩
  · rw [ho, if_neg (by decide)] at hF hO
    have hn := tk_n_le hp
    refine c_nxt hR hX hp hM ?_
    intro I1 g1 hM1
    refine ⟨I1, J, R, rfl, rfl, hR, ?_⟩
    have l1 : I1 70 13 = 0 := by rw [g1 70 (by decide) 13 (by decide)]; exact hf
    have f1 : sp_fr [72] sp_fE I I1 := sp_fEt g1
    refine c_Mo_after (i := 7) (m := 100) hR hX (by decide) (by decide) hn l1 hM1 ?_ ?_
    · intro q hq I2 f2 h2
      refine ⟨_, I2, J, R, rfl, rfl, hR, ?_⟩
      intro I3 e3
      have h3 : md q I3 := md_k h2 (by rw [e3, ow_u_ne (by decide)])
      refine c_Mo_after_d (i := 8) hR (by decide) h3.1 ⟨_, I3, J, R, rfl, rfl, hR, ?_⟩
      intro I4 e4
      have h4 : md q I4 := md_k h3 (by rw [e4, ow_u_ne (by decide)])
      rw [h4.1]
      refine ⟨fun _ => hF q ?_ I4 (sp_fr_tr (sp_fr_tr (sp_fE2 (sp_fr_tr f1 f2)) (sp_fr_ue e3 (Or.inl (by decide)))) (sp_fr_ue e4 (Or.inl (by decide)))) h4, fun c => absurd c (by decide)⟩
      cases hw : pr_word X 7 (tk_n X p) with
      | inl z => rw [bd_l hw] at hq; exact congrArg Sum.inl (Sum.inl.inj hq)
      | inr p1 =>
        rw [bd_r hw] at hq
        show bd (pr_whole X _ _) _ = _
        rw [bd_l hq]
    · intro p1 q2 hw hq2 I2 f2 l2 hM2
      refine ⟨_, I2, J, R, rfl, rfl, hR, ?_⟩
      intro I3 e3
      have l3 : I3 70 13 = 0 := by rw [e3, ow_u_ne (by decide)]; exact l2
      have hM3 := tM_w hM2 e3 (Or.inl rfl)
      have lp := (pr_whole_le (pr_word_le hn hw).2 hq2).2.2
      refine c_Mo_after (i := 8) (m := 9) hR hX (by decide) (by decide) lp l3 hM3 ?_ ?_
      · intro q hq I4 f4 h4
        refine ⟨_, I4, J, R, rfl, rfl, hR, ?_⟩
        intro I5 e5
        have h5 : md q I5 := md_k h4 (by rw [e5, ow_u_ne (by decide)])
        rw [h5.1]
        refine ⟨fun _ => hF q ?_ I5 (sp_fr_tr (sp_fr_tr (sp_fr_tr (sp_fE2 (sp_fr_tr f1 f2)) (sp_fr_ue e3 (Or.inl (by decide)))) (sp_fE2 f4)) (sp_fr_ue e5 (Or.inl (by decide)))) h5, fun c => absurd c (by decide)⟩
        rw [bd_r hw, bd_r hq2]
        cases hw8 : pr_word X 8 q2.2 with
        | inl z => rw [bd_l hw8] at hq; exact congrArg Sum.inl (Sum.inl.inj hq)
        | inr p3 =>
          rw [bd_r hw8] at hq
          show bd (pr_whole X _ _) _ = _
          rw [bd_l hq]
      · intro p3 q4 hw8 hq4 I4 f4 l4 hM4
        refine ⟨_, I4, J, R, rfl, rfl, hR, ?_⟩
        intro I5 e5
        have l5 : I5 70 13 = 0 := by rw [e5, ow_u_ne (by decide)]; exact l4
        have hM5 := tM_w hM4 e5 (Or.inl rfl)
        rw [l5]
        refine ⟨fun c => absurd rfl c, fun _ I6 e6 => ?_⟩
        have r75 : ∀ j, j ≠ 0 → j ≠ 1 → j ≠ 6 → I6 74 j = I 74 j := fun j h0 h1 h6 => by rw [e6, ow_u_nk h6, e5, ow_u_nk h1, sp_fr_row f4 (by decide) (by simp [sp_fE]), e3, ow_u_nk h0, sp_fr_row f2 (by decide) (by simp [sp_fE]), sp_fr_row f1 (by decide) (by simp [sp_fE])]
        have r77 : I6 76 = I 76 := by rw [e6, ow_u_ne (by decide), e5, ow_u_ne (by decide), sp_fr_row f4 (by decide) (by simp [sp_fE]), e3, ow_u_ne (by decide), sp_fr_row f2 (by decide) (by simp [sp_fE]), sp_fr_row f1 (by decide) (by simp [sp_fE])]
        refine hO _ (by rw [bd_r hw, bd_r hq2, bd_r hw8, bd_r hq4]) I6 (sp_fr_tr (sp_fr_tr (sp_fr_tr (sp_fr_tr (sp_fE2 (sp_fr_tr f1 f2)) (sp_fr_ue e3 (Or.inl (by decide)))) (sp_fE2 f4)) (sp_fr_ue e5 (Or.inl (by decide)))) (sp_fr_ue e6 (Or.inl (by decide)))) (by rw [e6, ow_u_ne (by decide)]; exact l5) (tM_w hM5 e6 (Or.inl rfl)) ⟨⟨⟨?_, ?_, ?_, ?_, ?_, ?_, ?_⟩, fun t ht => ?_, ?_, ?_, fun t ht => ?_, fun t ht => ?_, fun t ht => ?_⟩, nM_k hD.2 (fun j hj => r75 j (by omega) (by omega) (by omega))⟩
        · rw [e6, ow_u_nk (by decide), e5, ow_u_nk (by decide), sp_fr_row f4 (by decide) (by simp [sp_fE]), e3, ow_u_at]; rfl
        · rw [e6, ow_u_nk (by decide), e5, ow_u_at]; rfl
        · rw [r75 2 (by decide) (by decide) (by decide)]; exact a3
        · rw [r75 3 (by decide) (by decide) (by decide)]; exact a4
        · rw [r75 4 (by decide) (by decide) (by decide)]; exact a5
        · rw [r75 5 (by decide) (by decide) (by decide)]; exact a6
        · rw [e6, ow_u_at]; rfl
        · rw [r75 _ (by omega) (by omega) (by omega), r75 _ (by omega) (by omega) (by omega), r77]; exact b1 t ht
        · rw [r77]; exact b2
        · rw [r77]; exact b3
        · rw [r75 _ (by omega) (by omega) (by omega), r75 _ (by omega) (by omega) (by omega)]; exact b4 t ht
        · rw [r75 _ (by omega) (by omega) (by omega)]; exact b5 t ht
        · rw [r75 _ (by omega) (by omega) (by omega), r75 _ (by omega) (by omega) (by omega), r75 _ (by omega) (by omega) (by omega)]; exact b6 t ht
  · have ho2 : dd_o D = true := by cases h : dd_o D with | false => exact absurd h ho | true => rfl
    rw [ho2, if_pos rfl] at hF
    refine c_Mo_wrong (k := 3) hR hf hM ?_
    intro I2 f2 h2 _ _
    refine ⟨I2, J, R, rfl, rfl, hR, ?_⟩
    rw [h2.1]
    exact ⟨fun c => absurd c (by decide), fun _ => hF _ rfl I2 (sp_fE2 f2) h2⟩
theorem c_fl100_d {n : Nat} {v : Int32} {q : Nat × Nat} (hR : ow_RF R) (hn : n < 6) (h1 : md q I) (hQ : ∀ I2 : Nat → Nat → Int32, sp_fr sp_fS sp_fE I I2 → md q I2 → Q none (85, I2, J, R)) : ow_AW ow_Y0 (ow_Z Q) M_Mo_follyLine (d + 9) 0 0 100 [(0, .ref 70), (1, .int (nI n)), (2, .int v)] [] (85, I, J, R) 0 0 := by
  apply t_Mo_follyLine_100 hR
  refine c_Mo_pass_d hR h1.1 ⟨I, J, R, rfl, rfl, hR, ?_⟩
  rw [show (7 : Int32) + 2 * nI n = nI (7 + 2 * n) from sp_ix, nI_1, sp_cl (by omega), sp_cl (by omega)]
  refine ⟨vp_in_nI (by omega) (by decide), fun I2 e2 => ?_⟩
  have h2 : md q I2 := md_k h1 (by rw [e2, ow_u_ne (by decide)])
  refine c_Mo_after_d (i := 14) hR (by decide) h2.1 ⟨_, I2, J, R, rfl, rfl, hR, vp_in_nI (by omega) (by decide), fun I3 e3 => ?_⟩
  have h3 : md q I3 := md_k h2 (by rw [e3, ow_u_ne (by decide)])
  rw [h3.1]
  exact ⟨fun c => absurd c (by decide), fun _ => hQ I3 (sp_fr_tr (sp_fr_ue e2 (Or.inl (by decide))) (sp_fr_ue e3 (Or.inl (by decide)))) h3⟩
theorem c_fl100 {n s : Nat} (hR : ow_RF R) (hX : tk_ok X) (hp : p ≤ X.1) (hn : n < 6) (hf : I 70 13 = 0) (hM : tM I X p) (hF : ∀ q, bd (pr_word X 14 (tk_n X p)) (fun p3 => pr_whole X 99 p3) = .inl q → mf Q I J R q) (hO : ∀ p3 q, pr_word X 14 (tk_n X p) = .inr p3 → pr_whole X 99 p3 = .inr q → ∀ I2 : Nat → Nat → Int32, sp_fr sp_fS sp_fE I I2 → I2 70 13 = 0 → tM I2 X q.2 → I2 74 (7 + 2 * n) = nI s → I2 74 (8 + 2 * n) = nI q.1 → I2 74 2 = I 74 2 + 1 → (∀ j, j ≠ 7 + 2 * n → j ≠ 8 + 2 * n → j ≠ 2 → I2 74 j = I 74 j) → I2 76 n = nI q.1 → (∀ j, j ≠ n → I2 76 j = I 76 j) → Q none (85, I2, J, R)) : ow_AW ow_Y0 (ow_Z Q) M_Mo_follyLine (d + 9) 0 0 100 [(0, .ref 70), (1, .int (nI n)), (2, .int (nI s))] [] (85, I, J, R) 0 0 := by
  apply t_Mo_follyLine_100 hR
  refine c_Mo_pass hR hX hp hf hM ?_
  intro I1 f1 l1 hM1
  refine ⟨I1, J, R, rfl, rfl, hR, ?_⟩
  rw [show (7 : Int32) + 2 * nI n = nI (7 + 2 * n) from sp_ix, nI_1, sp_cl (by omega), sp_cl (by omega)]
  refine ⟨vp_in_nI (by omega) (by decide), fun I2 e2 => ?_⟩
  have l2 : I2 70 13 = 0 := by rw [e2, ow_u_ne (by decide)]; exact l1
  have hM2 := tM_w hM1 e2 (Or.inl rfl)
  refine c_Mo_after (i := 14) (m := 99) hR hX (by decide) (by decide) (tk_n_le hp) l2 hM2 ?_ ?_
  · intro q hq I3 f3 h3
    refine ⟨_, I3, J, R, rfl, rfl, hR, vp_in_nI (by omega) (by decide), fun I4 e4 => ?_⟩
    have h4 : md q I4 := md_k h3 (by rw [e4, ow_u_ne (by decide)])
    rw [h4.1]
    exact ⟨fun c => absurd c (by decide), fun _ => hF q hq I4 (sp_fr_tr (sp_fr_tr (sp_fr_tr (sp_fE2 f1) (sp_fr_ue e2 (Or.inl (by decide)))) (sp_fE2 f3)) (sp_fr_ue e4 (Or.inl (by decide)))) h4⟩
  · intro p3 q hp3 hq I3 f3 l3 hM3
    refine ⟨_, I3, J, R, rfl, rfl, hR, vp_in_nI (by omega) (by decide), fun I4 e4 => ?_⟩
    have l4 : I4 70 13 = 0 := by rw [e4, ow_u_ne (by decide)]; exact l3
    have v4 : I4 74 (7 + 2 * n + 1) = nI q.1 := by rw [e4, ow_u_at]
    rw [l4, v4]
    refine ⟨fun _ => ⟨vp_in_nI (by omega) (by decide), vp_in_nI (by omega) (by decide), fun I5 e5 I6 e6 => ?_⟩, fun c => absurd rfl c⟩
    rw [sp_cl (by omega)] at e5
    have r4 : ∀ j, j ≠ 7 + 2 * n → j ≠ 8 + 2 * n → I4 74 j = I 74 j := fun j h1 h2 => by rw [e4, ow_u_nk (by omega), sp_fr_row f3 (by decide) (by simp [sp_fE]), e2, ow_u_nk h1, sp_fr_row f1 (by decide) (by simp [sp_fE])]
    have r5 : ∀ j, I5 74 j = I4 74 j := fun j => by rw [e5, ow_u_ne (by decide)]
    have r77 : I4 76 = I 76 := by rw [e4, ow_u_ne (by decide), sp_fr_row f3 (by decide) (by simp [sp_fE]), e2, ow_u_ne (by decide), sp_fr_row f1 (by decide) (by simp [sp_fE])]
    refine hO p3 q hp3 hq I6 (sp_fr_tr (sp_fr_tr (sp_fr_tr (sp_fr_tr (sp_fr_tr (sp_fE2 f1) (sp_fr_ue e2 (Or.inl (by decide)))) (sp_fE2 f3)) (sp_fr_ue e4 (Or.inl (by decide)))) (sp_fr_ue e5 (Or.inl (by decide)))) (sp_fr_ue e6 (Or.inl (by decide)))) ?_ (tM_w (tM_w (tM_w hM3 e4 (Or.inl rfl)) e5 (Or.inr rfl)) e6 (Or.inl rfl)) ?_ ?_ ?_ (fun j h1 h2 h3 => ?_) ?_ (fun j hj => ?_)
    · rw [e6, ow_u_ne (by decide), e5, ow_u_ne (by decide)]; exact l4
    · rw [e6, ow_u_nk (by omega), r5, e4, ow_u_nk (by omega), sp_fr_row f3 (by decide) (by simp [sp_fE]), e2, ow_u_at]
    · rw [e6, ow_u_nk (by omega), r5, show 8 + 2 * n = 7 + 2 * n + 1 by omega]; exact v4
    · rw [e6, ow_u_at, r5, r4 2 (by omega) (by omega)]
    · rw [e6, ow_u_nk h3, r5, r4 j h1 h2]
    · rw [e6, ow_u_ne (by decide), e5, ow_u_at]
    · rw [e6, ow_u_ne (by decide), e5, ow_u_nk hj, r77]
theorem c_Mo_follyLine (hR : ow_RF R) (hX : tk_ok X) (hp : p ≤ X.1) (hf : I 70 13 = 0) (hM : tM I X p) (hD : dM I D) (hk : dk D) (hrm : st_n (dd_T D) < 6) (hF : ∀ q, pr_folly X D p = .inl q → mf Q I J R q) (hO : ∀ q, pr_folly X D p = .inr q → ∀ I2 : Nat → Nat → Int32, sp_fr sp_fS sp_fE I I2 → I2 70 13 = 0 → tM I2 X q.2 → dM I2 q.1 → Q none (85, I2, J, R)) : ow_AM M_Mo_follyLine (d + 9) [.ref 70] (85, I, J, R) Q := by
  apply t_Mo_follyLine hR
  unfold pr_folly at hF hO
  have n6 := hrm
  obtain ⟨⟨a1, a2, a3, a4, a5, a6, a7⟩, b1, b2, b3, b4, b5, b6⟩ := hD.1
  rw [hf, a3]
  refine ⟨fun _ => ?_, fun c => absurd rfl c⟩
  refine c_Mo_newName (i0 := st_n (dd_T D)) hR hX hp (by omega) hf hM hD.2 hk ?_ ?_
  · intro q hq I2 f2 h2
    refine ⟨I2, J, R, rfl, rfl, hR, ?_⟩
    have fin := c_fl100_d (d := d) (J := J) (Q := Q) (n := st_n (dd_T D)) (v := -1) hR hrm h2 (fun I3 f3 h3 => hF q (bd_l hq) I3 (sp_fr_tr (sp_fE2 f2) f3) h3)
    refine c_Mo_isWord_d (i := 9) hR (by decide) h2.1 ⟨_, I2, J, R, rfl, rfl, hR, fun _ => ?_, fun c => absurd rfl c⟩
    refine c_Mo_isWord_d (i := 10) hR (by decide) h2.1 ⟨_, I2, J, R, rfl, rfl, hR, fun _ => ?_, fun c => absurd rfl c⟩
    refine c_Mo_isWord_d (i := 11) hR (by decide) h2.1 ⟨_, I2, J, R, rfl, rfl, hR, fun _ => ?_, fun c => absurd rfl c⟩
    refine c_Mo_isWord_d (i := 12) hR (by decide) h2.1 ⟨_, I2, J, R, rfl, rfl, hR, fun _ => ?_, fun c => absurd rfl c⟩
    refine c_Mo_isWord_d (i := 13) hR (by decide) h2.1 ⟨_, I2, J, R, rfl, rfl, hR, fun _ => ?_, fun c => absurd rfl c⟩
    exact c_Mo_wrong_d hR h2.1 ⟨I2, J, R, rfl, rfl, hR, fin⟩
  · intro q1 hq1 I2 f2 l2 hM2 r77 r47 hN2
    refine ⟨I2, J, R, rfl, rfl, hR, ?_⟩
    have lp := (pr_new_le hp hq1).2.2
    have go : ∀ s, s < 5 → pr_shape X q1.2 = .inr (s, tk_n X q1.2) → ow_AW ow_Y0 (ow_Z Q) M_Mo_follyLine (d + 9) 0 0 100 [(0, .ref 70), (1, .int (nI (st_n (dd_T D)))), (2, .int (nI s))] [] (85, I2, J, R) 0 0 := by
      intro s hs hsh
      refine c_fl100 hR hX lp hrm l2 hM2 ?_ ?_
      · intro q hq I3 f3 h3
        refine hF q ?_ I3 (sp_fr_tr f2 f3) h3
        rw [bd_r hq1, bd_r hsh]
        cases hw : pr_word X 14 (tk_n X q1.2) with
        | inl z => rw [bd_l hw] at hq; exact congrArg Sum.inl (Sum.inl.inj hq)
        | inr p3 =>
          rw [bd_r hw] at hq
          show bd (pr_whole X _ _) _ = _
          rw [bd_l hq]
      · intro p3 q4 hp3 hq4 I3 f3 l3 hM3 v1 v2 v3 v4 v5 v6
        refine hO _ (by rw [bd_r hq1, bd_r hsh, bd_r hp3, bd_r hq4]) I3 (sp_fr_tr f2 f3) l3 hM3 ⟨⟨⟨?_, ?_, ?_, ?_, ?_, ?_, ?_⟩, fun f hfn => ?_, fun f h1 h2 => ?_, ⟨?_, ?_⟩, fun t ht => ?_, fun t ht => ?_, fun t ht => ?_⟩, nM_k hN2 (fun j hj => v4 j (by omega) (by omega) (by omega))⟩
        · rw [v4 0 (by omega) (by omega) (by decide), r47 0 (by decide)]; exact a1
        · rw [v4 1 (by omega) (by omega) (by decide), r47 1 (by decide)]; exact a2
        · rw [v3, r47 2 (by decide), a3, nI_1]; rfl
        · rw [v4 3 (by omega) (by omega) (by decide), r47 3 (by decide)]; exact a4
        · rw [v4 4 (by omega) (by omega) (by decide), r47 4 (by decide)]; exact a5
        · rw [v4 5 (by omega) (by omega) (by decide), r47 5 (by decide)]; exact a6
        · rw [v4 6 (by omega) (by omega) (by decide), r47 6 (by decide)]; exact a7
        · have hfn : f < st_n (dd_T D) + 1 := hfn
          show _ = nI (fu (sp_sh (dd_T D).1) (st_n (dd_T D)) s f) ∧ _ = nI (fu (sp_so (dd_T D).1) (st_n (dd_T D)) q4.1 f) ∧ _ = nI (fu (sp_so (dd_T D).1) (st_n (dd_T D)) q4.1 f) ∧ _ = nI (fu (sp_to (dd_T D).1) (st_n (dd_T D)) 0 f)
          by_cases hfe : f = st_n (dd_T D)
          · subst hfe
            rw [fu_at, fu_at, fu_at]
            refine ⟨v1, v2, v5, ?_⟩
            rw [v6 _ (by omega), r77]
            exact b2 _ (Nat.le_refl _) hrm
          · rw [fu_ne hfe, fu_ne hfe, fu_ne hfe, v4 _ (by omega) (by omega) (by omega), v4 _ (by omega) (by omega) (by omega), v6 _ hfe, v6 _ (by omega), r47 _ (by omega), r47 _ (by omega), r77]
            exact b1 f (by omega)
        · have h1 : st_n (dd_T D) + 1 ≤ f := h1
          rw [v6 _ (by omega), r77]
          exact b2 f (by omega) h2
        · rw [v6 _ (by omega), r77]; exact b3.1
        · rw [v6 _ (by omega), r77]; exact b3.2
        · have ht : t < st_ne (dd_T D) := ht
          have e5 := hk.2.1
          rw [v4 _ (by omega) (by omega) (by omega), v4 _ (by omega) (by omega) (by omega), r47 _ (by omega), r47 _ (by omega)]; exact b4 t ht
        · have ht : t < st_nv (dd_T D) := ht
          have e5 := hk.2.2.1
          rw [v4 _ (by omega) (by omega) (by omega), r47 _ (by omega)]; exact b5 t ht
        · have ht : t < st_ns (dd_T D) := ht
          have e5 := hk.2.2.2.1
          rw [v4 _ (by omega) (by omega) (by omega), v4 _ (by omega) (by omega) (by omega), v4 _ (by omega) (by omega) (by omega), r47 _ (by omega), r47 _ (by omega), r47 _ (by omega)]; exact b6 t ht
    have no : pr_shape X q1.2 = er X 1 q1.2 → ow_AM M_Mo_wrong (d + 8) [.ref 70, .int 1, .int (I2 70 4)] (85, I2, J, R) (fun r h' => ∃ (I20 : Nat → Nat → Int32) (J20 : Nat → Nat → Int64) (R20 : Nat → Nat → Option Nat), r = none ∧ h' = (85, I20, J20, R20) ∧ ow_RF R20 ∧ ow_AW ow_Y0 (ow_Z Q) M_Mo_follyLine (d + 8 + 1) 0 0 100 [(0, .ref 70), (1, .int (nI (st_n (dd_T D)))), (2, .int (-1))] [] (85, I20, J20, R20) 0 0) := by
      intro hsh
      refine c_Mo_wrong (k := 1) hR l2 hM2 ?_
      intro I3 f3 h3 _ _
      exact ⟨I3, J, R, rfl, rfl, hR, c_fl100_d hR hrm h3 (fun I4 f4 h4 => hF _ (by rw [bd_r hq1, hsh]; rfl) I4 (sp_fr_tr (sp_fr_tr f2 (sp_fE2 f3)) f4) h4)⟩
    unfold pr_shape at go no
    refine c_Mo_isWord (i := 9) hR (by decide) l2 hM2 ⟨_, I2, J, R, rfl, rfl, hR, ?_⟩
    cases b109 : tk_is X q1.2 9 with
    | true =>
      rw [b109] at go
      exact ⟨fun c => absurd c (by decide), fun _ => go 0 (by decide) (if_pos rfl)⟩
    | false =>
      rw [b109, if_neg (by decide)] at go no
      refine ⟨fun _ => ?_, fun c => absurd rfl c⟩
      refine c_Mo_isWord (i := 10) hR (by decide) l2 hM2 ⟨_, I2, J, R, rfl, rfl, hR, ?_⟩
      cases b110 : tk_is X q1.2 10 with
      | true =>
        rw [b110] at go
        exact ⟨fun c => absurd c (by decide), fun _ => go 1 (by decide) (if_pos rfl)⟩
      | false =>
        rw [b110, if_neg (by decide)] at go no
        refine ⟨fun _ => ?_, fun c => absurd rfl c⟩
        refine c_Mo_isWord (i := 11) hR (by decide) l2 hM2 ⟨_, I2, J, R, rfl, rfl, hR, ?_⟩
        cases b111 : tk_is X q1.2 11 with
        | true =>
          rw [b111] at go
          exact ⟨fun c => absurd c (by decide), fun _ => go 2 (by decide) (if_pos rfl)⟩
        | false =>
          rw [b111, if_neg (by decide)] at go no
          refine ⟨fun _ => ?_, fun c => absurd rfl c⟩
          refine c_Mo_isWord (i := 12) hR (by decide) l2 hM2 ⟨_, I2, J, R, rfl, rfl, hR, ?_⟩
          cases b112 : tk_is X q1.2 12 with
          | true =>
            rw [b112] at go
            exact ⟨fun c => absurd c (by decide), fun _ => go 3 (by decide) (if_pos rfl)⟩
          | false =>
            rw [b112, if_neg (by decide)] at go no
            refine ⟨fun _ => ?_, fun c => absurd rfl c⟩
            refine c_Mo_isWord (i := 13) hR (by decide) l2 hM2 ⟨_, I2, J, R, rfl, rfl, hR, ?_⟩
            cases b113 : tk_is X q1.2 13 with
            | true =>
              rw [b113] at go
              exact ⟨fun c => absurd c (by decide), fun _ => go 4 (by decide) (if_pos rfl)⟩
            | false =>
              rw [b113, if_neg (by decide)] at go no
              refine ⟨fun _ => ?_, fun c => absurd rfl c⟩
              exact no rfl
theorem c_sl63_d {v v2 : Int32} (hR : ow_RF R) (h1 : I 70 13 = 1) (hQ : Q none (85, I, J, R)) : ow_AW ow_Y0 (ow_Z Q) M_Mo_sendsLine (d + 9) 0 0 63 [(0, .ref 70), (1, .int v), (2, .int v2)] [] (85, I, J, R) 0 0 := by
  apply t_Mo_sendsLine_63 hR
  refine c_Mo_pass_d hR h1 ⟨I, J, R, rfl, rfl, hR, ?_⟩
  rw [h1]
  exact ⟨fun _ => hQ, fun c => absurd c (by decide)⟩
theorem c_sl33_d {v : Int32} (hR : ow_RF R) (h1 : I 70 13 = 1) (hQ : Q none (85, I, J, R)) : ow_AW ow_Y0 (ow_Z Q) M_Mo_sendsLine (d + 9) 0 0 33 [(0, .ref 70), (1, .int v)] [] (85, I, J, R) 0 0 := by
  apply t_Mo_sendsLine_33 hR
  refine c_Mo_pass_d hR h1 ⟨I, J, R, rfl, rfl, hR, ?_⟩
  refine c_Mo_follyHere_d hR h1 ⟨_, I, J, R, rfl, rfl, hR, ?_⟩
  rw [h1]
  exact ⟨fun _ => c_sl63_d hR h1 hQ, fun c => absurd c (by decide)⟩
theorem sp_p2t : ∀ f, f < 6 → ∀ t, t < 6 → (2 ^ f).testBit t = decide (t = f) := by decide +kernel
theorem c_Mo_sendsLine (hR : ow_RF R) (hX : tk_ok X) (hp : p ≤ X.1) (hf : I 70 13 = 0) (hM : tM I X p) (hD : dM I D) (hk : dk D)  (hF : ∀ q, pr_sends X D p = .inl q → mf Q I J R q) (hO : ∀ q, pr_sends X D p = .inr q → ∀ I2 : Nat → Nat → Int32, sp_fr sp_fS sp_fE I I2 → I2 70 13 = 0 → tM I2 X q.2 → dM I2 q.1 → Q none (85, I2, J, R)) : ow_AM M_Mo_sendsLine (d + 9) [.ref 70] (85, I, J, R) Q := by
  apply t_Mo_sendsLine hR
  unfold pr_sends at hF hO
  have n6 := hk.1
  obtain ⟨⟨a1, a2, a3, a4, a5, a6, a7⟩, b1, b2, b3, b4, b5, b6⟩ := hD.1
  have kto := hk.2.2.2.2.2.2.2.2.2.2.2.2.2.2.2.1
  have kt6 := hk.2.2.2.2.2.2.2.2.2.2.1
  refine c_Mo_follyHere (m := dd_m D) hR hX hp hf hM hD.2 hk (fun _ _ => rfl) ?_ ?_
  · intro q hq I2 f2 h2
    refine ⟨_, I2, J, R, rfl, rfl, hR, ?_⟩
    rw [h2.1]
    refine ⟨fun _ => c_sl33_d hR h2.1 (hF q ?_ I2 (sp_fE2 f2) h2), fun c => absurd c (by decide)⟩
    rw [pr_fol_fh, bd_l (bd_l hq)]
  · intro f hfh hfn
    refine ⟨_, I, J, R, rfl, rfl, hR, ?_⟩
    have hto := (b1 f hfn).2.2.2
    have tle := (kt6 f hfn).2.2
    rw [hf, show (6 : Int32) + nI f = nI (6 + f) from nI_add 6 f, sp_cl (by omega), hto]
    refine ⟨fun c => absurd rfl c, fun _ => ⟨vp_in_nI (by omega) (by decide), fun c => ?_, fun c => ?_⟩⟩
    · have t0 : sp_to (dd_T D).1 f = 0 := by
        rcases Nat.eq_zero_or_pos (sp_to (dd_T D).1 f) with h | h
        · exact h
        · exact absurd c (nI_nle h (by omega))
      have hb : (dd_s D).testBit f = false := by rw [kto f (by omega)]; exact decide_eq_false (fun z => z.2 t0)
      have e1 : pr_fol X D (dd_s D) p = .inr (f, tk_n X p) := by rw [pr_fol_fh, bd_r hfh, hb]; rfl
      rw [bd_r e1] at hF hO
      dsimp only at hF hO
      apply t_Mo_sendsLine_33 hR
      refine c_Mo_pass hR hX hp hf hM ?_
      intro I1 f1 l1 hM1
      refine ⟨I1, J, R, rfl, rfl, hR, ?_⟩
      have hD1 := dM_k hD hk f1
      refine c_Mo_follyHere (m := dd_m D) hR hX (tk_n_le hp) l1 hM1 hD1.2 hk (fun _ _ => rfl) ?_ ?_
      · intro q hq I2 f2 h2
        refine ⟨_, I2, J, R, rfl, rfl, hR, ?_⟩
        rw [h2.1]
        refine ⟨fun _ => c_sl63_d hR h2.1 (hF q ?_ I2 (sp_fE2 (sp_fr_tr f1 f2)) h2), fun c => absurd c (by decide)⟩
        rw [pr_fol_fh, bd_l (bd_l hq)]
      · intro t hth htn
        refine ⟨_, I1, J, R, rfl, rfl, hR, ?_⟩
        rw [l1, nI_eq (by omega) (by omega)]
        refine ⟨fun c => absurd rfl c, fun _ => ⟨fun c2 => ?_, fun c2 => ?_⟩⟩
        · have e2 : pr_fol X D (2 ^ f) (tk_n X p) = .inr (t, tk_n X (tk_n X p)) := by rw [pr_fol_fh, bd_r hth, sp_p2t f (by omega) t (by omega), decide_eq_false c2]; rfl
          apply t_Mo_sendsLine_63 hR
          refine c_Mo_pass hR hX (tk_n_le hp) l1 hM1 ?_
          intro I2 f2 l2 hM2
          refine ⟨I2, J, R, rfl, rfl, hR, ?_⟩
          rw [l2, show (6 : Int32) + nI f = nI (6 + f) from nI_add 6 f, sp_cl (by omega), nI_1]
          refine ⟨fun c => absurd rfl c, fun _ => ⟨vp_in_nI (by omega) (by decide), fun I3 e3 => ?_⟩⟩
          have hD2 := dM_k hD1 hk f2
          obtain ⟨⟨x1, x2, x3, x4, x5, x6, x7⟩, y1, y2, y3, y4, y5, y6⟩ := hD2.1
          have r75 : I3 74 = I2 74 := by rw [e3, ow_u_ne (by decide)]
          refine hO ((dd_o D, up_se (dd_T D) f t, (dd_s D ||| 2 ^ f, dd_v D), dd_m D), tk_n X (tk_n X p)) (by rw [bd_r e2]) I3 (sp_fr_tr (sp_fE2 (sp_fr_tr f1 f2)) (sp_fr_ue e3 (Or.inl (by decide)))) (by rw [e3, ow_u_ne (by decide)]; exact l2) (tM_w hM2 e3 (Or.inr rfl)) ⟨⟨?_, fun g hg => ?_, fun g h1 h2 => ?_, ⟨?_, ?_⟩, ?_, ?_, ?_⟩, nM_k hD2.2 (fun j _ => by rw [r75])⟩
          · rw [r75]; exact ⟨x1, x2, x3, x4, x5, x6, x7⟩
          · have hg : g < st_n (dd_T D) := hg
            rw [r75, e3, ow_u_nk (b := g) (by omega)]
            refine ⟨(y1 g hg).1, (y1 g hg).2.1, (y1 g hg).2.2.1, ?_⟩
            show _ = nI (fu (sp_to (dd_T D).1) f (t + 1) g)
            by_cases hgf : g = f
            · rw [hgf, fu_at, ow_u_at]
            · rw [fu_ne hgf, ow_u_nk (by omega)]; exact (y1 g hg).2.2.2
          · have h1 : st_n (dd_T D) ≤ g := h1
            rw [e3, ow_u_nk (by omega)]; exact y2 g h1 h2
          · rw [e3, ow_u_nk (by omega)]; exact y3.1
          · rw [e3, ow_u_nk (by omega)]; exact y3.2
          · rw [r75]; exact y4
          · rw [r75]; exact y5
          · rw [r75]; exact y6
        · have e2 : pr_fol X D (2 ^ f) (tk_n X p) = er X 3 (tk_n X p) := by rw [pr_fol_fh, bd_r hth, sp_p2t f (by omega) t (by omega), decide_eq_true c2]; rfl
          refine c_Mo_wrong (k := 3) hR l1 hM1 ?_
          intro I2 f2 h2 _ _
          exact ⟨I2, J, R, rfl, rfl, hR, c_sl63_d hR h2.1 (hF (3, tk_a X (tk_n X p)) (by rw [e2]; rfl) I2 (sp_fE2 (sp_fr_tr f1 f2)) h2)⟩
    · have t0 : sp_to (dd_T D).1 f ≠ 0 := fun z => c (by rw [z]; decide)
      have hb : (dd_s D).testBit f = true := by rw [kto f (by omega)]; exact decide_eq_true ⟨hfn, t0⟩
      have e1 : pr_fol X D (dd_s D) p = er X 3 p := by rw [pr_fol_fh, bd_r hfh, hb]; rfl
      rw [e1] at hF
      refine c_Mo_wrong (k := 3) hR hf hM ?_
      intro I2 f2 h2 _ _
      exact ⟨I2, J, R, rfl, rfl, hR, c_sl33_d hR h2.1 (hF _ rfl I2 (sp_fE2 f2) h2)⟩
theorem c_Mo_hermitLine (hR : ow_RF R) (hX : tk_ok X) (hp : p ≤ X.1) (hf : I 70 13 = 0) (hM : tM I X p) (hD : dM I D) (hk : dk D)  (hF : ∀ q, pr_hermit X D p = .inl q → mf Q I J R q) (hO : ∀ q, pr_hermit X D p = .inr q → ∀ I2 : Nat → Nat → Int32, sp_fr sp_fS sp_fE I I2 → I2 70 13 = 0 → tM I2 X q.2 → dM I2 q.1 → Q none (85, I2, J, R)) : ow_AM M_Mo_hermitLine (d + 9) [.ref 70] (85, I, J, R) Q := by
  apply t_Mo_hermitLine hR
  unfold pr_hermit at hF hO
  have n6 := hk.1
  have h64 := hk.2.2.2.2.2.2.1
  obtain ⟨⟨a1, a2, a3, a4, a5, a6, a7⟩, b1, b2, b3, b4, b5, b6⟩ := hD.1
  refine c_Mo_follyHere (m := dd_m D) hR hX hp hf hM hD.2 hk (fun _ _ => rfl) ?_ ?_
  · intro q hq I2 f2 h2
    refine ⟨_, I2, J, R, rfl, rfl, hR, ?_⟩
    rw [h2.1]
    refine ⟨fun _ => ?_, fun c => absurd c (by decide)⟩
    refine c_Mo_pass_d hR h2.1 ⟨I2, J, R, rfl, rfl, hR, ?_⟩
    rw [h2.1]
    exact ⟨fun _ => hF q (by rw [pr_fol_fh, bd_l (bd_l hq)]) I2 (sp_fE2 f2) h2, fun c => absurd c (by decide)⟩
  · intro f hfh hfn
    refine ⟨_, I, J, R, rfl, rfl, hR, ?_⟩
    rw [hf, b3.1]
    refine ⟨fun c => absurd rfl c, fun _ => ?_⟩
    refine c_Mo_hasBit hR h64 (by omega) ⟨_, I, J, R, rfl, rfl, hR, ?_⟩
    cases hb : (sp_h (dd_T D).1).testBit f with
    | false =>
      have e1 : pr_fol X D (sp_h (dd_T D).1) p = .inr (f, tk_n X p) := by rw [pr_fol_fh, bd_r hfh, hb]; rfl
      rw [bd_r e1] at hO
      refine ⟨fun _ => ?_, fun c => absurd rfl c⟩
      refine c_Mo_pass hR hX hp hf hM ?_
      intro I2 f2 l2 hM2
      refine ⟨I2, J, R, rfl, rfl, hR, ?_⟩
      have hD2 := dM_k hD hk f2
      obtain ⟨⟨x1, x2, x3, x4, x5, x6, x7⟩, y1, y2, y3, y4, y5, y6⟩ := hD2.1
      rw [l2, y3.1, (sp_or _ h64 f (by omega)).1]
      refine ⟨fun c => absurd rfl c, fun _ I3 e3 => ?_⟩
      have r75 : I3 74 = I2 74 := by rw [e3, ow_u_ne (by decide)]
      refine hO _ rfl I3 (sp_fr_tr (sp_fE2 f2) (sp_fr_ue e3 (Or.inl (by decide)))) (by rw [e3, ow_u_ne (by decide)]; exact l2) (tM_w hM2 e3 (Or.inr rfl)) ⟨⟨?_, fun g hg => ?_, fun g h1 h2 => ?_, ⟨?_, ?_⟩, ?_, ?_, ?_⟩, nM_k hD2.2 (fun j _ => by rw [r75])⟩
      · rw [r75]; exact ⟨x1, x2, x3, x4, x5, x6, x7⟩
      · have hg : g < st_n (dd_T D) := hg
        rw [r75, e3, ow_u_nk (b := g) (by omega), ow_u_nk (b := 6 + g) (by omega)]; exact y1 g hg
      · rw [e3, ow_u_nk (by omega)]; exact y2 g h1 h2
      · rw [e3, ow_u_at]; rfl
      · rw [e3, ow_u_nk (by decide)]; exact y3.2
      · rw [r75]; exact y4
      · rw [r75]; exact y5
      · rw [r75]; exact y6
    | true =>
      have e1 : pr_fol X D (sp_h (dd_T D).1) p = er X 3 p := by rw [pr_fol_fh, bd_r hfh, hb]; rfl
      rw [e1] at hF
      refine ⟨fun c => absurd c (by decide), fun _ => ?_⟩
      refine c_Mo_wrong (k := 3) hR hf hM ?_
      intro I2 f2 h2 _ _
      refine ⟨I2, J, R, rfl, rfl, hR, ?_⟩
      refine c_Mo_pass_d hR h2.1 ⟨I2, J, R, rfl, rfl, hR, ?_⟩
      rw [h2.1]
      exact ⟨fun _ => hF _ rfl I2 (sp_fE2 f2) h2, fun c => absurd c (by decide)⟩
theorem c_Mo_estateLine (hR : ow_RF R) (hX : tk_ok X) (hp : p ≤ X.1) (hf : I 70 13 = 0) (hM : tM I X p) (hD : dM I D) (hk : dk D) (hrm : st_ne (dd_T D) < 5) (hF : ∀ q, pr_estate X D p = .inl q → mf Q I J R q) (hO : ∀ q, pr_estate X D p = .inr q → ∀ I2 : Nat → Nat → Int32, sp_fr sp_fS sp_fE I I2 → I2 70 13 = 0 → tM I2 X q.2 → dM I2 q.1 → Q none (85, I2, J, R)) : ow_AM M_Mo_estateLine (d + 9) [.ref 70] (85, I, J, R) Q := by
  apply t_Mo_estateLine hR
  unfold pr_estate at hF hO
  have n6 := hk.1
  obtain ⟨⟨a1, a2, a3, a4, a5, a6, a7⟩, b1, b2, b3, b4, b5, b6⟩ := hD.1
  rw [hf, a4, show (6 : Int32) + nI (st_ne (dd_T D)) = nI (6 + st_ne (dd_T D)) from nI_add 6 _, show (19 : Int32) + 2 * nI (st_ne (dd_T D)) = nI (19 + 2 * st_ne (dd_T D)) from sp_ix, nI_1, sp_cl (by omega), sp_cl (by omega)]
  refine ⟨fun _ => ?_, fun c => absurd rfl c⟩
  refine c_Mo_newName (i0 := 6 + st_ne (dd_T D)) hR hX hp (by omega) hf hM hD.2 hk ?_ ?_
  · intro q hq I2 f2 h2
    refine ⟨I2, J, R, rfl, rfl, hR, ?_⟩
    refine c_Mo_follyHere_d hR h2.1 ⟨_, I2, J, R, rfl, rfl, hR, vp_in_nI (by omega) (by decide), fun I3 e3 => ?_⟩
    have h3 : md q I3 := md_k h2 (by rw [e3, ow_u_ne (by decide)])
    refine c_Mo_pass_d hR h3.1 ⟨I3, J, R, rfl, rfl, hR, ?_⟩
    refine c_Mo_after_d (i := 15) hR (by decide) h3.1 ⟨_, I3, J, R, rfl, rfl, hR, vp_in_nI (by omega) (by decide), fun I4 e4 => ?_⟩
    have h4 : md q I4 := md_k h3 (by rw [e4, ow_u_ne (by decide)])
    rw [h4.1]
    exact ⟨fun _ => hF q (bd_l hq) I4 (sp_fr_tr (sp_fr_tr (sp_fE2 f2) (sp_fr_ue e3 (Or.inl (by decide)))) (sp_fr_ue e4 (Or.inl (by decide)))) h4, fun c => absurd c (by decide)⟩
  · intro q1 hq1 I2 f2 l2 hM2 r77 r47 hN2
    refine ⟨I2, J, R, rfl, rfl, hR, ?_⟩
    rw [bd_r hq1] at hF hO
    have lp := (pr_new_le hp hq1).2.2
    refine c_Mo_follyHere (D := D) hR hX lp l2 hM2 hN2 hk (fun f hf6 => fu_ne (by omega)) ?_ ?_
    · intro q hq I3 f3 h3
      refine ⟨_, I3, J, R, rfl, rfl, hR, vp_in_nI (by omega) (by decide), fun I4 e4 => ?_⟩
      have h4 : md q I4 := md_k h3 (by rw [e4, ow_u_ne (by decide)])
      refine c_Mo_pass_d hR h4.1 ⟨I4, J, R, rfl, rfl, hR, ?_⟩
      refine c_Mo_after_d (i := 15) hR (by decide) h4.1 ⟨_, I4, J, R, rfl, rfl, hR, vp_in_nI (by omega) (by decide), fun I5 e5 => ?_⟩
      have h5 : md q I5 := md_k h4 (by rw [e5, ow_u_ne (by decide)])
      rw [h5.1]
      exact ⟨fun _ => hF q (by rw [pr_fol_fh, bd_l (bd_l hq)]) I5 (sp_fr_tr (sp_fr_tr (sp_fr_tr f2 (sp_fE2 f3)) (sp_fr_ue e4 (Or.inl (by decide)))) (sp_fr_ue e5 (Or.inl (by decide)))) h5, fun c => absurd c (by decide)⟩
    · intro f hfh hfn
      have e1 : pr_fol X D 0 q1.2 = .inr (f, tk_n X q1.2) := by rw [pr_fol_fh, bd_r hfh, Nat.zero_testBit]; rfl
      rw [bd_r e1] at hF hO
      dsimp only at hF hO
      refine ⟨_, I2, J, R, rfl, rfl, hR, vp_in_nI (by omega) (by decide), fun I3 e3 => ?_⟩
      have l3 : I3 70 13 = 0 := by rw [e3, ow_u_ne (by decide)]; exact l2
      refine c_Mo_pass hR hX lp l3 (tM_w hM2 e3 (Or.inl rfl)) ?_
      intro I4 f4 l4 hM4
      refine ⟨I4, J, R, rfl, rfl, hR, ?_⟩
      refine c_Mo_after (i := 15) (m := 99) hR hX (by decide) (by decide) (tk_n_le lp) l4 hM4 ?_ ?_
      · intro q hq I5 f5 h5
        refine ⟨_, I5, J, R, rfl, rfl, hR, vp_in_nI (by omega) (by decide), fun I6 e6 => ?_⟩
        have h6 : md q I6 := md_k h5 (by rw [e6, ow_u_ne (by decide)])
        rw [h6.1]
        refine ⟨fun _ => hF q ?_ I6 (sp_fr_tr (sp_fr_tr (sp_fr_tr f2 (sp_fr_ue e3 (Or.inl (by decide)))) (sp_fE2 (sp_fr_tr f4 f5))) (sp_fr_ue e6 (Or.inl (by decide)))) h6, fun c => absurd c (by decide)⟩
        cases hw : pr_word X 15 (tk_n X q1.2) with
        | inl z => rw [bd_l hw] at hq; exact congrArg Sum.inl (Sum.inl.inj hq)
        | inr p3 =>
          rw [bd_r hw] at hq
          show bd (pr_whole X _ _) _ = _
          rw [bd_l hq]
      · intro p3 q4 hp3 hq4 I5 f5 l5 hM5
        refine ⟨_, I5, J, R, rfl, rfl, hR, vp_in_nI (by omega) (by decide), fun I6 e6 => ?_⟩
        have l6 : I6 70 13 = 0 := by rw [e6, ow_u_ne (by decide)]; exact l5
        have s5 : ∀ j, I5 74 j = I3 74 j := fun j => by rw [sp_fr_row f5 (by decide) (by simp [sp_fE]), sp_fr_row f4 (by decide) (by simp [sp_fE])]
        have v3 : I6 74 3 = nI (st_ne (dd_T D)) := by rw [e6, ow_u_nk (by omega), s5, e3, ow_u_nk (by omega), r47 3 (by decide)]; exact a4
        rw [l6, v3, nI_1]
        refine ⟨fun c => absurd rfl c, fun _ I7 e7 => ?_⟩
        have r75 : ∀ j, j ≠ 3 → j ≠ 19 + 2 * st_ne (dd_T D) → j ≠ 20 + 2 * st_ne (dd_T D) → I7 74 j = I2 74 j := fun j h1 h2 h3 => by rw [e7, ow_u_nk h1, e6, ow_u_nk (by omega), s5, e3, ow_u_nk h2]
        have q77 : I7 76 = I 76 := by rw [e7, ow_u_ne (by decide), e6, ow_u_ne (by decide), sp_fr_row f5 (by decide) (by simp [sp_fE]), sp_fr_row f4 (by decide) (by simp [sp_fE]), e3, ow_u_ne (by decide), r77]
        refine hO _ (by rw [bd_r hp3, bd_r hq4]) I7 (sp_fr_tr (sp_fr_tr (sp_fr_tr (sp_fr_tr f2 (sp_fr_ue e3 (Or.inl (by decide)))) (sp_fE2 (sp_fr_tr f4 f5))) (sp_fr_ue e6 (Or.inl (by decide)))) (sp_fr_ue e7 (Or.inl (by decide)))) (by rw [e7, ow_u_ne (by decide)]; exact l6) (tM_w (tM_w hM5 e6 (Or.inl rfl)) e7 (Or.inl rfl)) ⟨⟨⟨?_, ?_, ?_, ?_, ?_, ?_, ?_⟩, fun t ht => ?_, ?_, ?_, fun t ht => ?_, fun t ht => ?_, fun t ht => ?_⟩, nM_k hN2 (fun j hj => r75 j (by omega) (by omega) (by omega))⟩
        · rw [r75 0 (by decide) (by omega) (by omega), r47 0 (by decide)]; exact a1
        · rw [r75 1 (by decide) (by omega) (by omega), r47 1 (by decide)]; exact a2
        · rw [r75 2 (by decide) (by omega) (by omega), r47 2 (by decide)]; exact a3
        · rw [e7, ow_u_at]; rfl
        · rw [r75 4 (by decide) (by omega) (by omega), r47 4 (by decide)]; exact a5
        · rw [r75 5 (by decide) (by omega) (by omega), r47 5 (by decide)]; exact a6
        · rw [r75 6 (by decide) (by omega) (by omega), r47 6 (by decide)]; exact a7
        · have ht : t < st_n (dd_T D) := ht
          rw [r75 _ (by omega) (by omega) (by omega), r75 _ (by omega) (by omega) (by omega), r47 _ (by omega), r47 _ (by omega), q77]; exact b1 t ht
        · rw [q77]; exact b2
        · rw [q77]; exact b3
        · have ht : t < st_ne (dd_T D) + 1 := ht
          show _ = nI (fu (st_ef (dd_T D)) (st_ne (dd_T D)) f t) ∧ _ = nI (fu (st_de (dd_T D)) (st_ne (dd_T D)) q4.1 t)
          by_cases hte : t = st_ne (dd_T D)
          · subst hte
            rw [fu_at, fu_at]
            refine ⟨?_, ?_⟩
            · rw [e7, ow_u_nk (by omega), e6, ow_u_nk (by omega), s5, e3, ow_u_at]
            · rw [e7, ow_u_nk (by omega), e6, show 20 + 2 * st_ne (dd_T D) = 19 + 2 * st_ne (dd_T D) + 1 by omega, ow_u_at]
          · rw [fu_ne hte, fu_ne hte, r75 _ (by omega) (by omega) (by omega), r75 _ (by omega) (by omega) (by omega), r47 _ (by omega), r47 _ (by omega)]
            exact b4 t (by omega)
        · have ht : t < st_nv (dd_T D) := ht
          have e5 := hk.2.2.1
          rw [r75 _ (by omega) (by omega) (by omega), r47 _ (by omega)]; exact b5 t ht
        · have ht : t < st_ns (dd_T D) := ht
          have e5 := hk.2.2.2.1
          rw [r75 _ (by omega) (by omega) (by omega), r75 _ (by omega) (by omega) (by omega), r75 _ (by omega) (by omega) (by omega), r47 _ (by omega), r47 _ (by omega), r47 _ (by omega)]; exact b6 t ht
theorem c_vl15_d {v : Int32} {n : Nat} (hR : ow_RF R) (hn : n ≤ 3) (h4 : I 74 4 = nI n) (h1 : I 70 13 = 1) (hQ : Q none (85, I, J, R)) : ∀ i, i ≤ n → ow_AW ow_Y0 (ow_Z Q) M_Mo_veiledLine (d + 9) 0 0 15 [(0, .ref 70), (1, .int v), (2, .int (nI i))] [] (85, I, J, R) 0 0 := by
  intro i hi
  refine sp_up (σ := Unit) (N := n) (G := fun i _ => ow_AW ow_Y0 (ow_Z Q) M_Mo_veiledLine (d + 9) 0 0 15 [(0, .ref 70), (1, .int v), (2, .int (nI i))] [] (85, I, J, R) 0 0) (Inv := fun _ _ => True) ?_ ?_ i () hi trivial
  · intro _ _
    apply t_Mo_veiledLine_15 hR
    rw [h4]
    refine ⟨fun _ => ?_, fun c => absurd (Int32.le_refl _) c⟩
    refine c_Mo_pass_d hR h1 ⟨I, J, R, rfl, rfl, hR, ?_⟩
    rw [h1]
    exact ⟨fun c => absurd c (by decide), fun _ => hQ⟩
  · intro i _ hi _ ih
    apply t_Mo_veiledLine_15 hR
    rw [h4, h1, nI_1]
    exact ⟨fun c => absurd c (nI_ge hi (by omega)), fun _ => ⟨fun _ => ih () trivial, fun c => absurd c (by decide)⟩⟩
theorem c_Mo_veiledLine (hR : ow_RF R) (hX : tk_ok X) (hp : p ≤ X.1) (hf : I 70 13 = 0) (hM : tM I X p) (hD : dM I D) (hk : dk D) (hrm : st_nv (dd_T D) < 3) (hF : ∀ q, pr_veiled X D p = .inl q → mf Q I J R q) (hO : ∀ q, pr_veiled X D p = .inr q → ∀ I2 : Nat → Nat → Int32, sp_fr sp_fS sp_fE I I2 → I2 70 13 = 0 → tM I2 X q.2 → dM I2 q.1 → Q none (85, I2, J, R)) : ow_AM M_Mo_veiledLine (d + 9) [.ref 70] (85, I, J, R) Q := by
  apply t_Mo_veiledLine hR
  unfold pr_veiled at hF hO
  have n6 := hk.1
  have kv := hk.2.2.2.2.2.2.2.2.2.2.2.2.2.2.2.2.1
  have kvn := hk.2.2.2.2.2.2.2.2.2.2.2.2.1
  obtain ⟨⟨a1, a2, a3, a4, a5, a6, a7⟩, b1, b2, b3, b4, b5, b6⟩ := hD.1
  rw [hf]
  refine ⟨fun _ => ?_, fun c => absurd rfl c⟩
  refine c_Mo_follyHere (m := dd_m D) hR hX hp hf hM hD.2 hk (fun _ _ => rfl) ?_ ?_
  · intro q hq I2 f2 h2
    refine ⟨_, I2, J, R, rfl, rfl, hR, ?_⟩
    exact c_vl15_d (n := st_nv (dd_T D)) hR (by omega) (by rw [sp_fr_row f2 (by decide) (by simp [sp_fE])]; exact a5) h2.1 (hF q (by rw [pr_fol_fh, bd_l (bd_l hq)]) I2 (sp_fE2 f2) h2) 0 (Nat.zero_le _)
  · intro f hfh hfn
    refine ⟨_, I, J, R, rfl, rfl, hR, ?_⟩
    refine sp_up (σ := Unit) (N := st_nv (dd_T D)) (G := fun i _ => ow_AW ow_Y0 (ow_Z Q) M_Mo_veiledLine (d + 9) 0 0 15 [(0, .ref 70), (1, .int (nI f)), (2, .int (nI i))] [] (85, I, J, R) 0 0) (Inv := fun i _ => ∀ k, k < i → st_vf (dd_T D) k ≠ f) ?_ ?_ 0 () (Nat.zero_le _) (fun k hk2 => absurd hk2 (Nat.not_lt_zero _))
    · intro _ hall
      have hb : (dd_v D).testBit f = false := by
        cases h : (dd_v D).testBit f with
        | false => rfl
        | true =>
          obtain ⟨k, hk2, e⟩ := (kv f (by omega)).mp h
          exact absurd e (hall k hk2)
      have e1 : pr_fol X D (dd_v D) p = .inr (f, tk_n X p) := by rw [pr_fol_fh, bd_r hfh, hb]; rfl
      rw [bd_r e1] at hO
      apply t_Mo_veiledLine_15 hR
      rw [a5]
      refine ⟨fun _ => ?_, fun c => absurd (Int32.le_refl _) c⟩
      refine c_Mo_pass hR hX hp hf hM ?_
      intro I2 f2 l2 hM2
      refine ⟨I2, J, R, rfl, rfl, hR, ?_⟩
      have s2 : ∀ j, I2 74 j = I 74 j := fun j => by rw [sp_fr_row f2 (by decide) (by simp [sp_fE])]
      rw [l2, s2, a5, show (29 : Int32) + nI (st_nv (dd_T D)) = nI (29 + st_nv (dd_T D)) from nI_add 29 _, sp_cl (by omega)]
      refine ⟨fun _ => ⟨vp_in_nI (by omega) (by decide), fun I3 e3 I4 e4 => ?_⟩, fun c => absurd rfl c⟩
      rw [show I3 74 4 = nI (st_nv (dd_T D)) from by rw [e3, ow_u_nk (by omega), s2]; exact a5, nI_1] at e4
      have r75 : ∀ j, j ≠ 4 → j ≠ 29 + st_nv (dd_T D) → I4 74 j = I 74 j := fun j h1 h2 => by rw [e4, ow_u_nk h1, e3, ow_u_nk h2, s2]
      have q77 : I4 76 = I 76 := by rw [e4, ow_u_ne (by decide), e3, ow_u_ne (by decide), sp_fr_row f2 (by decide) (by simp [sp_fE])]
      refine hO _ rfl I4 (sp_fr_tr (sp_fr_tr (sp_fE2 f2) (sp_fr_ue e3 (Or.inl (by decide)))) (sp_fr_ue e4 (Or.inl (by decide)))) (by rw [e4, ow_u_ne (by decide), e3, ow_u_ne (by decide)]; exact l2) (tM_w (tM_w hM2 e3 (Or.inl rfl)) e4 (Or.inl rfl)) ⟨⟨⟨?_, ?_, ?_, ?_, ?_, ?_, ?_⟩, fun t ht => ?_, ?_, ?_, fun t ht => ?_, fun t ht => ?_, fun t ht => ?_⟩, nM_k hD.2 (fun j hj => r75 j (by omega) (by omega))⟩
      · rw [r75 0 (by decide) (by omega)]; exact a1
      · rw [r75 1 (by decide) (by omega)]; exact a2
      · rw [r75 2 (by decide) (by omega)]; exact a3
      · rw [r75 3 (by decide) (by omega)]; exact a4
      · rw [e4, ow_u_at]; rfl
      · rw [r75 5 (by decide) (by omega)]; exact a6
      · rw [r75 6 (by decide) (by omega)]; exact a7
      · have ht : t < st_n (dd_T D) := ht
        rw [r75 _ (by omega) (by omega), r75 _ (by omega) (by omega), q77]; exact b1 t ht
      · rw [q77]; exact b2
      · rw [q77]; exact b3
      · have ht : t < st_ne (dd_T D) := ht
        have e5 := hk.2.1
        rw [r75 _ (by omega) (by omega), r75 _ (by omega) (by omega)]; exact b4 t ht
      · have ht : t < st_nv (dd_T D) + 1 := ht
        show _ = nI (fu (st_vf (dd_T D)) (st_nv (dd_T D)) f t)
        by_cases hte : t = st_nv (dd_T D)
        · rw [hte, fu_at, e4, ow_u_nk (by omega), e3, ow_u_at]
        · rw [fu_ne hte, r75 _ (by omega) (by omega)]; exact b5 t (by omega)
      · have ht : t < st_ns (dd_T D) := ht
        rw [r75 _ (by omega) (by omega), r75 _ (by omega) (by omega), r75 _ (by omega) (by omega)]; exact b6 t ht
    · intro i _ hi hall ih
      apply t_Mo_veiledLine_15 hR
      have hvi := kvn i hi
      rw [a5, hf, show (29 : Int32) + nI i = nI (29 + i) from nI_add 29 i, sp_cl (by omega), b5 i hi, nI_1, nI_eq (by omega) (by omega)]
      refine ⟨fun c => absurd c (nI_ge hi (by omega)), fun _ => ⟨fun c => absurd rfl c, fun _ => ⟨vp_in_nI (by omega) (by decide), fun c => ih () (fun k hk2 => ?_), fun c => ?_⟩⟩⟩
      · by_cases hki : k = i
        · rw [hki]; exact c
        · exact hall k (by omega)
      · have hb : (dd_v D).testBit f = true := (kv f (by omega)).mpr ⟨i, hi, c⟩
        have e1 : pr_fol X D (dd_v D) p = er X 3 p := by rw [pr_fol_fh, bd_r hfh, hb]; rfl
        rw [e1] at hF
        refine c_Mo_wrong (k := 3) hR hf hM ?_
        intro I2 f2 h2 s75 _
        refine ⟨I2, J, R, rfl, rfl, hR, ?_⟩
        exact c_vl15_d (n := st_nv (dd_T D)) hR (by omega) (by rw [s75]; exact a5) h2.1 (hF _ rfl I2 (sp_fE2 f2) h2) (i + 1) (by omega)
theorem c_Mo_signedLine (hR : ow_RF R) (hX : tk_ok X) (hp : p ≤ X.1) (hf : I 70 13 = 0) (hM : tM I X p) (hD : dM I D) (hk : dk D) (hrm : st_ns (dd_T D) < 5) (hF : ∀ q, pr_signed X D p = .inl q → mf Q I J R q) (hO : ∀ q, pr_signed X D p = .inr q → ∀ I2 : Nat → Nat → Int32, sp_fr sp_fS sp_fE I I2 → I2 70 13 = 0 → tM I2 X q.2 → dM I2 q.1 → Q none (85, I2, J, R)) : ow_AM M_Mo_signedLine (d + 9) [.ref 70] (85, I, J, R) Q := by
  apply t_Mo_signedLine hR
  unfold pr_signed at hF hO
  have n6 := hk.1
  obtain ⟨⟨a1, a2, a3, a4, a5, a6, a7⟩, b1, b2, b3, b4, b5, b6⟩ := hD.1
  rw [hf, a6, show (32 : Int32) + 3 * nI (st_ns (dd_T D)) = nI (32 + 3 * st_ns (dd_T D)) from sp_ix, nI_1, show nI (32 + 3 * st_ns (dd_T D)) + 2 = nI (32 + 3 * st_ns (dd_T D) + 2) from nI_add _ 2, sp_cl (n := 32 + 3 * st_ns (dd_T D)) (by omega), sp_cl (n := 32 + 3 * st_ns (dd_T D) + 1) (by omega), sp_cl (n := 32 + 3 * st_ns (dd_T D) + 2) (by omega)]
  refine ⟨fun _ => ?_, fun c => absurd rfl c⟩
  refine c_Mo_follyHere (m := dd_m D) hR hX hp hf hM hD.2 hk (fun _ _ => rfl) ?_ ?_
  · intro q hq I2 f2 h2
    refine ⟨_, I2, J, R, rfl, rfl, hR, vp_in_nI (by omega) (by decide), fun I3 e3 => ?_⟩
    have h3 : md q I3 := md_k h2 (by rw [e3, ow_u_ne (by decide)])
    refine c_Mo_pass_d hR h3.1 ⟨I3, J, R, rfl, rfl, hR, ?_⟩
    refine c_Mo_say_d hR h3.1 ⟨_, I3, J, R, rfl, rfl, hR, vp_in_nI (by omega) (by decide), fun I4 e4 => ?_⟩
    have h4 : md q I4 := md_k h3 (by rw [e4, ow_u_ne (by decide)])
    refine c_Mo_takesWord_d (i := 18) hR (by decide) h4.1 ⟨_, I4, J, R, rfl, rfl, hR, fun _ => ?_, fun c => absurd rfl c⟩
    refine c_Mo_say_d hR h4.1 ⟨_, I4, J, R, rfl, rfl, hR, vp_in_nI (by omega) (by decide), fun I8 e8 => ?_⟩
    have h8 : md q I8 := md_k h4 (by rw [e8, ow_u_ne (by decide)])
    rw [h8.1]
    exact ⟨fun _ => hF q (by rw [pr_fol_fh, bd_l (bd_l hq)]) I8 (sp_fr_tr (sp_fr_tr (sp_fr_tr (sp_fE2 f2) (sp_fr_ue e3 (Or.inl (by decide)))) (sp_fr_ue e4 (Or.inl (by decide)))) (sp_fr_ue e8 (Or.inl (by decide)))) h8, fun c => absurd c (by decide)⟩
  · intro f hfh hfn
    have e1 : pr_fol X D 0 p = .inr (f, tk_n X p) := by rw [pr_fol_fh, bd_r hfh, Nat.zero_testBit]; rfl
    rw [bd_r e1] at hF hO
    dsimp only at hF hO
    refine ⟨_, I, J, R, rfl, rfl, hR, vp_in_nI (by omega) (by decide), fun I3 e3 => ?_⟩
    have l3 : I3 70 13 = 0 := by rw [e3, ow_u_ne (by decide)]; exact hf
    refine c_Mo_pass hR hX hp l3 (tM_w hM e3 (Or.inl rfl)) ?_
    intro I4 f4 l4 hM4
    refine ⟨I4, J, R, rfl, rfl, hR, ?_⟩
    have lp := tk_n_le hp
    refine c_Mo_say hR hX lp l4 hM4 ?_ ?_
    · intro q hq I5 f5 h5
      refine ⟨_, I5, J, R, rfl, rfl, hR, vp_in_nI (by omega) (by decide), fun I6 e6 => ?_⟩
      have h6 : md q I6 := md_k h5 (by rw [e6, ow_u_ne (by decide)])
      refine c_Mo_takesWord_d (i := 18) hR (by decide) h6.1 ⟨_, I6, J, R, rfl, rfl, hR, fun _ => ?_, fun c => absurd rfl c⟩
      refine c_Mo_say_d hR h6.1 ⟨_, I6, J, R, rfl, rfl, hR, vp_in_nI (by omega) (by decide), fun I8 e8 => ?_⟩
      have h8 : md q I8 := md_k h6 (by rw [e8, ow_u_ne (by decide)])
      rw [h8.1]
      exact ⟨fun _ => hF q (by rw [bd_l hq]) I8 (sp_fr_tr (sp_fr_tr (sp_fr_tr (sp_fr_ue e3 (Or.inl (by decide))) (sp_fE2 (sp_fr_tr f4 f5))) (sp_fr_ue e6 (Or.inl (by decide)))) (sp_fr_ue e8 (Or.inl (by decide)))) h8, fun c => absurd c (by decide)⟩
    · intro q2 hq2 I5 f5 l5 hM5
      refine ⟨_, I5, J, R, rfl, rfl, hR, vp_in_nI (by omega) (by decide), fun I6 e6 => ?_⟩
      rw [bd_r hq2] at hF hO
      have lp2 := (pr_ans_le lp hq2).2.2
      have ha2 := (pr_ans_le lp hq2).1 rfl
      have l6 : I6 70 13 = 0 := by rw [e6, ow_u_ne (by decide)]; exact l5
      have hM6 := tM_w hM5 e6 (Or.inl rfl)
      have f6 : sp_fr sp_fS sp_fE I I6 := sp_fr_tr (sp_fr_tr (sp_fr_ue e3 (Or.inl (by decide))) (sp_fE2 (sp_fr_tr f4 f5))) (sp_fr_ue e6 (Or.inl (by decide)))
      have s6 : ∀ j, j ≠ 32 + 3 * st_ns (dd_T D) → j ≠ 33 + 3 * st_ns (dd_T D) → I6 74 j = I 74 j := fun j h1 h2 => by rw [e6, ow_u_nk (by omega), sp_fr_row f5 (by decide) (by simp [sp_fE]), sp_fr_row f4 (by decide) (by simp [sp_fE]), e3, ow_u_nk h1]
      have v32 : I6 74 (32 + 3 * st_ns (dd_T D)) = nI f := by rw [e6, ow_u_nk (by omega), sp_fr_row f5 (by decide) (by simp [sp_fE]), sp_fr_row f4 (by decide) (by simp [sp_fE]), e3, ow_u_at]
      have v33 : I6 74 (33 + 3 * st_ns (dd_T D)) = sp_jo q2.1 := by rw [show 33 + 3 * st_ns (dd_T D) = 32 + 3 * st_ns (dd_T D) + 1 by omega, e6, ow_u_at]
      have q6 : I6 76 = I 76 := by rw [e6, ow_u_ne (by decide), sp_fr_row f5 (by decide) (by simp [sp_fE]), sp_fr_row f4 (by decide) (by simp [sp_fE]), e3, ow_u_ne (by decide)]
      have hjq : sp_jo q2.1 = nI ((q2.1.getD false).toNat) := by
        cases hq : q2.1 with
        | none => exact absurd hq ha2
        | some b => cases b <;> rfl
      have hb1 : (q2.1.getD false).toNat ≤ 1 := by cases q2.1.getD false <;> decide
      have fin : ∀ (q3 : Option Bool × Nat) (I8 I9 : Nat → Nat → Int32), pr_ans X true q2.2 = .inr q3 → sp_fr [72] sp_fE I6 I8 → I8 70 13 = 0 → tM I8 X q3.2 → I9 = ow_u I8 74 (32 + 3 * st_ns (dd_T D) + 2) (sp_jo q3.1) → ((¬ I9 70 13 = 0 → Q none (85, I9, J, R)) ∧ (I9 70 13 = 0 → ∀ I10 : Nat → Nat → Int32, I10 = ow_u I9 74 5 (I9 74 5 + 1) → Q none (85, I10, J, R))) := by
        intro q3 I8 I9 hq3 f8 l8 hM8 e9
        have l9 : I9 70 13 = 0 := by rw [e9, ow_u_ne (by decide)]; exact l8
        have s8 : ∀ j, I8 74 j = I6 74 j := fun j => by rw [sp_fr_row f8 (by decide) (by simp [sp_fE])]
        have v5 : I9 74 5 = nI (st_ns (dd_T D)) := by rw [e9, ow_u_nk (by omega), s8, s6 5 (by omega) (by omega)]; exact a6
        rw [l9, v5, nI_1]
        refine ⟨fun c => absurd rfl c, fun _ I10 e10 => ?_⟩
        have r75 : ∀ j, j ≠ 5 → j ≠ 32 + 3 * st_ns (dd_T D) → j ≠ 33 + 3 * st_ns (dd_T D) → j ≠ 34 + 3 * st_ns (dd_T D) → I10 74 j = I 74 j := fun j h1 h2 h3 h4 => by rw [e10, ow_u_nk h1, e9, ow_u_nk (by omega), s8, s6 j h2 h3]
        have q77 : I10 76 = I 76 := by rw [e10, ow_u_ne (by decide), e9, ow_u_ne (by decide), sp_fr_row f8 (by decide) (by simp [sp_fE]), q6]
        refine hO _ (by rw [bd_r hq3]) I10 (sp_fr_tr (sp_fr_tr (sp_fr_tr f6 (sp_fE2 f8)) (sp_fr_ue e9 (Or.inl (by decide)))) (sp_fr_ue e10 (Or.inl (by decide)))) (by rw [e10, ow_u_ne (by decide)]; exact l9) (tM_w (tM_w hM8 e9 (Or.inl rfl)) e10 (Or.inl rfl)) ⟨⟨⟨?_, ?_, ?_, ?_, ?_, ?_, ?_⟩, fun t ht => ?_, ?_, ?_, fun t ht => ?_, fun t ht => ?_, fun t ht => ?_⟩, nM_k hD.2 (fun j hj => r75 j (by omega) (by omega) (by omega) (by omega))⟩
        · rw [r75 0 (by decide) (by omega) (by omega) (by omega)]; exact a1
        · rw [r75 1 (by decide) (by omega) (by omega) (by omega)]; exact a2
        · rw [r75 2 (by decide) (by omega) (by omega) (by omega)]; exact a3
        · rw [r75 3 (by decide) (by omega) (by omega) (by omega)]; exact a4
        · rw [r75 4 (by decide) (by omega) (by omega) (by omega)]; exact a5
        · rw [e10, ow_u_at]; rfl
        · rw [r75 6 (by decide) (by omega) (by omega) (by omega)]; exact a7
        · have ht : t < st_n (dd_T D) := ht
          rw [r75 _ (by omega) (by omega) (by omega) (by omega), r75 _ (by omega) (by omega) (by omega) (by omega), q77]; exact b1 t ht
        · rw [q77]; exact b2
        · rw [q77]; exact b3
        · have ht : t < st_ne (dd_T D) := ht
          have e5 := hk.2.1
          rw [r75 _ (by omega) (by omega) (by omega) (by omega), r75 _ (by omega) (by omega) (by omega) (by omega)]; exact b4 t ht
        · have ht : t < st_nv (dd_T D) := ht
          have e5 := hk.2.2.1
          rw [r75 _ (by omega) (by omega) (by omega) (by omega)]; exact b5 t ht
        · have ht : t < st_ns (dd_T D) + 1 := ht
          show _ = nI (fu (st_sl (dd_T D)) (st_ns (dd_T D)) (2 * f + (q2.1.getD false).toNat) t / 2) ∧ _ = nI (fu (st_sl (dd_T D)) (st_ns (dd_T D)) (2 * f + (q2.1.getD false).toNat) t % 2) ∧ _ = sp_jo (fu (st_sa (dd_T D)) (st_ns (dd_T D)) q3.1 t)
          by_cases hte : t = st_ns (dd_T D)
          · subst hte
            rw [fu_at, fu_at, show (2 * f + (q2.1.getD false).toNat) / 2 = f by omega, show (2 * f + (q2.1.getD false).toNat) % 2 = (q2.1.getD false).toNat by omega]
            refine ⟨?_, ?_, ?_⟩
            · rw [e10, ow_u_nk (by omega), e9, ow_u_nk (by omega), s8]; exact v32
            · rw [e10, ow_u_nk (by omega), e9, ow_u_nk (by omega), s8, v33, hjq]
            · rw [e10, ow_u_nk (by omega), show 34 + 3 * st_ns (dd_T D) = 32 + 3 * st_ns (dd_T D) + 2 by omega, e9, ow_u_at]
          · rw [fu_ne hte, fu_ne hte, r75 _ (by omega) (by omega) (by omega) (by omega), r75 _ (by omega) (by omega) (by omega) (by omega), r75 _ (by omega) (by omega) (by omega) (by omega)]
            exact b6 t (by omega)
      refine c_Mo_takesWord (i := 18) hR hX (by decide) lp2 l6 hM6 ?_ ?_
      · intro hb
        refine ⟨_, I6, J, R, rfl, rfl, hR, fun _ => ?_, fun c => absurd rfl c⟩
        have same : pr_ans X true q2.2 = pr_ans X false q2.2 := by
          unfold pr_ans
          rw [hb]
          simp
        refine c_Mo_say hR hX lp2 l6 hM6 ?_ ?_
        · intro q hq I7 f7 h7
          refine ⟨_, I7, J, R, rfl, rfl, hR, vp_in_nI (by omega) (by decide), fun I8 e8 => ?_⟩
          have h8 : md q I8 := md_k h7 (by rw [e8, ow_u_ne (by decide)])
          rw [h8.1]
          exact ⟨fun _ => hF q (by rw [same, bd_l hq]) I8 (sp_fr_tr (sp_fr_tr f6 (sp_fE2 f7)) (sp_fr_ue e8 (Or.inl (by decide)))) h8, fun c => absurd c (by decide)⟩
        · intro q3 hq3 I7 f7 l7 hM7
          refine ⟨_, I7, J, R, rfl, rfl, hR, vp_in_nI (by omega) (by decide), fun I8 e8 => ?_⟩
          exact fin q3 I7 I8 (by rw [same]; exact hq3) f7 l7 hM7 e8
      · intro hb I7 f7 l7 hM7
        refine ⟨_, I7, J, R, rfl, rfl, hR, fun c => absurd c (by decide), fun _ => ⟨vp_in_nI (by omega) (by decide), fun I8 e8 => ?_⟩⟩
        have hw := (of_decide_eq_true hb).2
        have h16 : tk_is X q2.2 16 = false := decide_eq_false (fun z => absurd (z.2.symm.trans hw) (by decide))
        have h17 : tk_is X q2.2 17 = false := decide_eq_false (fun z => absurd (z.2.symm.trans hw) (by decide))
        have hq3 : pr_ans X true q2.2 = .inr (none, tk_n X q2.2) := by
          unfold pr_ans
          rw [h16, h17, hb]
          rfl
        exact fin (none, tk_n X q2.2) I7 I8 hq3 f7 l7 hM7 e8
end MLINES
