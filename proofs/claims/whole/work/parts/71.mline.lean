/-! Own rows, by program: shire, on both sides. -/
theorem sp_wn_ne : ∀ i, i < 7 → ∀ j, j < 7 → i ≠ j → sp_wn i ≠ sp_wn j := by decide +kernel
theorem pr_line_k {X : sp_Tx} {p i : Nat} (hi : i < 7) (h : tk_is X p i = true) : pr_line X p = i + 1 := by
  have hw := (of_decide_eq_true h).2
  have no : ∀ j, j < 7 → j ≠ i → tk_is X p j = false := fun j hj hne => decide_eq_false (fun z => sp_wn_ne j hj i hi hne (z.2.symm.trans hw))
  have h7 : i = 0 ∨ i = 1 ∨ i = 2 ∨ i = 3 ∨ i = 4 ∨ i = 5 ∨ i = 6 := by omega
  unfold pr_line
  rcases h7 with rfl | rfl | rfl | rfl | rfl | rfl | rfl
  · rw [h]; rfl
  · rw [no 0 (by decide) (by decide), h]; rfl
  · rw [no 0 (by decide) (by decide), no 1 (by decide) (by decide), h]; rfl
  · rw [no 0 (by decide) (by decide), no 1 (by decide) (by decide), no 2 (by decide) (by decide), h]; rfl
  · rw [no 0 (by decide) (by decide), no 1 (by decide) (by decide), no 2 (by decide) (by decide), no 3 (by decide) (by decide), h]; rfl
  · rw [no 0 (by decide) (by decide), no 1 (by decide) (by decide), no 2 (by decide) (by decide), no 3 (by decide) (by decide), no 4 (by decide) (by decide), h]; rfl
  · rw [no 0 (by decide) (by decide), no 1 (by decide) (by decide), no 2 (by decide) (by decide), no 3 (by decide) (by decide), no 4 (by decide) (by decide), no 5 (by decide) (by decide), h]; rfl
theorem rl_5 {X : sp_Tx} {D : sp_D} {p k : Nat} (h : pr_line X p = k) (h2 : 2 ≤ k) (hf : pr_full D k = true) : pr_rl X D p = .inl (5, tk_a X p) := by
  unfold pr_rl
  rw [h, if_neg (by omega), if_neg (by omega), if_pos hf]
  rfl
theorem rl_6 {X : sp_Tx} {D : sp_D} {p k : Nat} (h : pr_line X p = k) (h2 : 2 ≤ k) (hf : pr_full D k = false) (ho : dd_o D = false) : pr_rl X D p = .inl (6, tk_a X p) := by
  unfold pr_rl
  rw [h, if_neg (by omega), if_neg (by omega), hf, if_neg (by decide), if_pos ho]
  rfl
theorem rl_k {X : sp_Tx} {D : sp_D} {p k : Nat} (h : pr_line X p = k) (h2 : 2 ≤ k) (hf : pr_full D k = false) (ho : dd_o D = true) : pr_rl X D p = pr_kind X D (tk_n X p) k := by
  unfold pr_rl
  rw [h, if_neg (by omega), if_neg (by omega), hf, if_neg (by decide), ho, if_neg (by decide)]
section MSHIRE
variable {d : Nat} {I : Nat → Nat → Int32} {J : Nat → Nat → Int64} {R : Nat → Nat → Option Nat} {Q : Option Value → ow_H → Prop} {X : sp_Tx} {p : Nat} {D : sp_D}
theorem c_Mo_begins {i : Nat} {can : Bool} (hR : ow_RF R) (hX : tk_ok X) (hi : i < 19) (hp : p ≤ X.1) (hf : I 70 13 = 0) (hM : tM I X p) (h6 : I 74 6 = sp_jb (dd_o D)) (hN : tk_is X p i = false → Q (some (.int 0)) (85, I, J, R)) (hF : ∀ k, tk_is X p i = true → ((can = false ∧ k = 5) ∨ (can = true ∧ dd_o D = false ∧ k = 6)) → ∀ I2 : Nat → Nat → Int32, sp_fr [72] sp_fE I I2 → md (k, tk_a X p) I2 → Q (some (.int 1)) (85, I2, J, R)) (hO : tk_is X p i = true → can = true → dd_o D = true → ∀ I2 : Nat → Nat → Int32, sp_fr [72] sp_fE I I2 → I2 70 13 = 0 → tM I2 X (tk_n X p) → Q (some (.int 1)) (85, I2, J, R)) : ow_AM M_Mo_begins (d + 6) [.ref 70, .ref (1000 + i), .int (sp_jb can)] (85, I, J, R) Q := by
  apply t_Mo_begins hi hR
  refine c_Mo_isWord hR hi hf hM ⟨_, I, J, R, rfl, rfl, hR, ?_⟩
  cases hb : tk_is X p i with
  | false => exact ⟨fun c => absurd rfl c, fun _ => hN hb⟩
  | true =>
    refine ⟨fun _ => ?_, fun c => absurd c (by decide)⟩
    cases can with
    | true =>
      refine ⟨fun _ => ?_, fun c => absurd c (by decide)⟩
      rw [h6]
      cases ho : dd_o D with
      | true =>
        refine ⟨fun _ => ?_, fun c => absurd c (by decide)⟩
        refine c_Mo_pass hR hX hp hf hM ?_
        intro I2 f2 l2 hM2
        exact ⟨I2, J, R, rfl, rfl, hR, hO hb rfl ho I2 f2 l2 hM2⟩
      | false =>
        refine ⟨fun c => absurd rfl c, fun _ => ?_⟩
        refine c_Mo_wrong (k := 6) hR hf hM ?_
        intro I2 f2 h2 _ _
        refine ⟨I2, J, R, rfl, rfl, hR, ?_⟩
        exact c_Mo_pass_d hR h2.1 ⟨I2, J, R, rfl, rfl, hR, hF 6 hb (Or.inr ⟨rfl, ho, rfl⟩) I2 f2 h2⟩
    | false =>
      refine ⟨fun c => absurd rfl c, fun _ => ?_⟩
      refine c_Mo_wrong (k := 5) hR hf hM ?_
      intro I2 f2 h2 s75 _
      refine ⟨I2, J, R, rfl, rfl, hR, ?_⟩
      have fin := hF 5 hb (Or.inl ⟨rfl, rfl⟩) I2 f2 h2
      refine ⟨fun _ => ?_, fun _ => ?_⟩
      · exact c_Mo_pass_d hR h2.1 ⟨I2, J, R, rfl, rfl, hR, fin⟩
      · refine c_Mo_wrong_d hR h2.1 ⟨I2, J, R, rfl, rfl, hR, ?_⟩
        exact c_Mo_pass_d hR h2.1 ⟨I2, J, R, rfl, rfl, hR, fin⟩
theorem c_Mo_follyLine_d (hR : ow_RF R) (h1 : I 70 13 = 1) (hQ : Q none (85, I, J, R)) : ow_AM M_Mo_follyLine (d + 9) [.ref 70] (85, I, J, R) Q := by
  apply t_Mo_follyLine hR
  rw [h1]
  exact ⟨fun c => absurd c (by decide), fun _ => hQ⟩
theorem c_Mo_sendsLine_d (hR : ow_RF R) (h1 : I 70 13 = 1) (hQ : Q none (85, I, J, R)) : ow_AM M_Mo_sendsLine (d + 9) [.ref 70] (85, I, J, R) Q := by
  apply t_Mo_sendsLine hR
  refine c_Mo_follyHere_d hR h1 ⟨_, I, J, R, rfl, rfl, hR, ?_⟩
  rw [h1]
  exact ⟨fun _ => c_sl33_d hR h1 hQ, fun c => absurd c (by decide)⟩
theorem c_Mo_hermitLine_d (hR : ow_RF R) (h1 : I 70 13 = 1) (hQ : Q none (85, I, J, R)) : ow_AM M_Mo_hermitLine (d + 9) [.ref 70] (85, I, J, R) Q := by
  apply t_Mo_hermitLine hR
  refine c_Mo_follyHere_d hR h1 ⟨_, I, J, R, rfl, rfl, hR, ?_⟩
  rw [h1]
  refine ⟨fun _ => ?_, fun c => absurd c (by decide)⟩
  refine c_Mo_pass_d hR h1 ⟨I, J, R, rfl, rfl, hR, ?_⟩
  rw [h1]
  exact ⟨fun _ => hQ, fun c => absurd c (by decide)⟩
theorem c_Mo_estateLine_d (hR : ow_RF R) (h1 : I 70 13 = 1) (hQ : Q none (85, I, J, R)) : ow_AM M_Mo_estateLine (d + 9) [.ref 70] (85, I, J, R) Q := by
  apply t_Mo_estateLine hR
  rw [h1]
  exact ⟨fun c => absurd c (by decide), fun _ => hQ⟩
theorem c_Mo_veiledLine_d (hR : ow_RF R) (h1 : I 70 13 = 1) (hQ : Q none (85, I, J, R)) : ow_AM M_Mo_veiledLine (d + 9) [.ref 70] (85, I, J, R) Q := by
  apply t_Mo_veiledLine hR
  rw [h1]
  exact ⟨fun c => absurd c (by decide), fun _ => hQ⟩
theorem c_Mo_signedLine_d (hR : ow_RF R) (h1 : I 70 13 = 1) (hQ : Q none (85, I, J, R)) : ow_AM M_Mo_signedLine (d + 9) [.ref 70] (85, I, J, R) Q := by
  apply t_Mo_signedLine hR
  rw [h1]
  exact ⟨fun c => absurd c (by decide), fun _ => hQ⟩
theorem c_Mo_readLine (hR : ow_RF R) (hX : tk_ok X) (hp : p ≤ X.1) (hf : I 70 13 = 0) (hM : tM I X p) (hD : dM I D) (hk : dk D) (hF : ∀ q, pr_rl X D p = .inl q → mf Q I J R q) (hO : ∀ q, pr_rl X D p = .inr q → ∀ I2 : Nat → Nat → Int32, sp_fr sp_fS sp_fE I I2 → I2 70 13 = 0 → tM I2 X q.2 → dM I2 q.1 → Q none (85, I2, J, R)) : ow_AM M_Mo_readLine (d + 10) [.ref 70] (85, I, J, R) Q := by
  have hn := tk_n_le hp
  obtain ⟨⟨a1, a2, a3, a4, a5, a6, a7⟩, b1, b2, b3, b4, b5, b6⟩ := hD.1
  have n6 := hk.1
  have e5 := hk.2.1
  have v3 := hk.2.2.1
  have s5 := hk.2.2.2.1
  have F1 : ∀ (can : Bool), pr_full D 2 = !can → ∀ k, tk_is X p 1 = true → ((can = false ∧ k = 5) ∨ (can = true ∧ dd_o D = false ∧ k = 6)) → ∀ I2 : Nat → Nat → Int32, sp_fr [72] sp_fE I I2 → md (k, tk_a X p) I2 → ow_AM M_Mo_follyLine (d + 9) [.ref 70] (85, I2, J, R) (fun r h' => ∃ (I9 : Nat → Nat → Int32) (J9 : Nat → Nat → Int64) (R9 : Nat → Nat → Option Nat), r = none ∧ h' = (85, I9, J9, R9) ∧ ow_RF R9 ∧ Q none (85, I9, J9, R9)) := by
    intro can hcan k hb hk2 I2 f2 h2
    refine c_Mo_follyLine_d hR h2.1 ⟨I2, J, R, rfl, rfl, hR, ?_⟩
    rcases hk2 with ⟨hc, e⟩ | ⟨hc, ho, e⟩
    · subst e
      exact hF _ (rl_5 (pr_line_k (by decide) hb) (by decide) (by rw [show 1 + 1 = 2 from rfl, hcan, hc]; rfl)) I2 (sp_fE2 f2) h2
    · subst e
      exact hF _ (rl_6 (pr_line_k (by decide) hb) (by decide) (by rw [show 1 + 1 = 2 from rfl, hcan, hc]; rfl) ho) I2 (sp_fE2 f2) h2
  have O1 : pr_full D 2 = false → tk_is X p 1 = true → dd_o D = true → ∀ I2 : Nat → Nat → Int32, sp_fr [72] sp_fE I I2 → I2 70 13 = 0 → tM I2 X (tk_n X p) → ow_AM M_Mo_follyLine (d + 9) [.ref 70] (85, I2, J, R) (fun r h' => ∃ (I9 : Nat → Nat → Int32) (J9 : Nat → Nat → Int64) (R9 : Nat → Nat → Option Nat), r = none ∧ h' = (85, I9, J9, R9) ∧ ow_RF R9 ∧ Q none (85, I9, J9, R9)) := by
    intro hfull hb ho I2 f2 l2 hM2
    have hrl : pr_rl X D p = pr_folly X D (tk_n X p) := rl_k (pr_line_k (by decide) hb) (by decide) hfull ho
    refine c_Mo_follyLine hR hX hn l2 hM2 (dM_k hD hk f2) hk ((pr_full_f hfull).1 rfl) ?_ ?_
    · intro q hq I3 f3 h3
      exact ⟨I3, J, R, rfl, rfl, hR, hF q (by rw [hrl]; exact hq) I3 (sp_fr_tr (sp_fE2 f2) f3) h3⟩
    · intro q hq I3 f3 l3 hM3 hD3
      exact ⟨I3, J, R, rfl, rfl, hR, hO q (by rw [hrl]; exact hq) I3 (sp_fr_tr (sp_fE2 f2) f3) l3 hM3 hD3⟩
  have F2 : ∀ (can : Bool), pr_full D 3 = !can → ∀ k, tk_is X p 2 = true → ((can = false ∧ k = 5) ∨ (can = true ∧ dd_o D = false ∧ k = 6)) → ∀ I2 : Nat → Nat → Int32, sp_fr [72] sp_fE I I2 → md (k, tk_a X p) I2 → ow_AM M_Mo_sendsLine (d + 9) [.ref 70] (85, I2, J, R) (fun r h' => ∃ (I9 : Nat → Nat → Int32) (J9 : Nat → Nat → Int64) (R9 : Nat → Nat → Option Nat), r = none ∧ h' = (85, I9, J9, R9) ∧ ow_RF R9 ∧ Q none (85, I9, J9, R9)) := by
    intro can hcan k hb hk2 I2 f2 h2
    refine c_Mo_sendsLine_d hR h2.1 ⟨I2, J, R, rfl, rfl, hR, ?_⟩
    rcases hk2 with ⟨hc, e⟩ | ⟨hc, ho, e⟩
    · subst e
      exact hF _ (rl_5 (pr_line_k (by decide) hb) (by decide) (by rw [show 2 + 1 = 3 from rfl, hcan, hc]; rfl)) I2 (sp_fE2 f2) h2
    · subst e
      exact hF _ (rl_6 (pr_line_k (by decide) hb) (by decide) (by rw [show 2 + 1 = 3 from rfl, hcan, hc]; rfl) ho) I2 (sp_fE2 f2) h2
  have O2 : pr_full D 3 = false → tk_is X p 2 = true → dd_o D = true → ∀ I2 : Nat → Nat → Int32, sp_fr [72] sp_fE I I2 → I2 70 13 = 0 → tM I2 X (tk_n X p) → ow_AM M_Mo_sendsLine (d + 9) [.ref 70] (85, I2, J, R) (fun r h' => ∃ (I9 : Nat → Nat → Int32) (J9 : Nat → Nat → Int64) (R9 : Nat → Nat → Option Nat), r = none ∧ h' = (85, I9, J9, R9) ∧ ow_RF R9 ∧ Q none (85, I9, J9, R9)) := by
    intro hfull hb ho I2 f2 l2 hM2
    have hrl : pr_rl X D p = pr_sends X D (tk_n X p) := rl_k (pr_line_k (by decide) hb) (by decide) hfull ho
    refine c_Mo_sendsLine hR hX hn l2 hM2 (dM_k hD hk f2) hk  ?_ ?_
    · intro q hq I3 f3 h3
      exact ⟨I3, J, R, rfl, rfl, hR, hF q (by rw [hrl]; exact hq) I3 (sp_fr_tr (sp_fE2 f2) f3) h3⟩
    · intro q hq I3 f3 l3 hM3 hD3
      exact ⟨I3, J, R, rfl, rfl, hR, hO q (by rw [hrl]; exact hq) I3 (sp_fr_tr (sp_fE2 f2) f3) l3 hM3 hD3⟩
  have F3 : ∀ (can : Bool), pr_full D 4 = !can → ∀ k, tk_is X p 3 = true → ((can = false ∧ k = 5) ∨ (can = true ∧ dd_o D = false ∧ k = 6)) → ∀ I2 : Nat → Nat → Int32, sp_fr [72] sp_fE I I2 → md (k, tk_a X p) I2 → ow_AM M_Mo_hermitLine (d + 9) [.ref 70] (85, I2, J, R) (fun r h' => ∃ (I9 : Nat → Nat → Int32) (J9 : Nat → Nat → Int64) (R9 : Nat → Nat → Option Nat), r = none ∧ h' = (85, I9, J9, R9) ∧ ow_RF R9 ∧ Q none (85, I9, J9, R9)) := by
    intro can hcan k hb hk2 I2 f2 h2
    refine c_Mo_hermitLine_d hR h2.1 ⟨I2, J, R, rfl, rfl, hR, ?_⟩
    rcases hk2 with ⟨hc, e⟩ | ⟨hc, ho, e⟩
    · subst e
      exact hF _ (rl_5 (pr_line_k (by decide) hb) (by decide) (by rw [show 3 + 1 = 4 from rfl, hcan, hc]; rfl)) I2 (sp_fE2 f2) h2
    · subst e
      exact hF _ (rl_6 (pr_line_k (by decide) hb) (by decide) (by rw [show 3 + 1 = 4 from rfl, hcan, hc]; rfl) ho) I2 (sp_fE2 f2) h2
  have O3 : pr_full D 4 = false → tk_is X p 3 = true → dd_o D = true → ∀ I2 : Nat → Nat → Int32, sp_fr [72] sp_fE I I2 → I2 70 13 = 0 → tM I2 X (tk_n X p) → ow_AM M_Mo_hermitLine (d + 9) [.ref 70] (85, I2, J, R) (fun r h' => ∃ (I9 : Nat → Nat → Int32) (J9 : Nat → Nat → Int64) (R9 : Nat → Nat → Option Nat), r = none ∧ h' = (85, I9, J9, R9) ∧ ow_RF R9 ∧ Q none (85, I9, J9, R9)) := by
    intro hfull hb ho I2 f2 l2 hM2
    have hrl : pr_rl X D p = pr_hermit X D (tk_n X p) := rl_k (pr_line_k (by decide) hb) (by decide) hfull ho
    refine c_Mo_hermitLine hR hX hn l2 hM2 (dM_k hD hk f2) hk  ?_ ?_
    · intro q hq I3 f3 h3
      exact ⟨I3, J, R, rfl, rfl, hR, hF q (by rw [hrl]; exact hq) I3 (sp_fr_tr (sp_fE2 f2) f3) h3⟩
    · intro q hq I3 f3 l3 hM3 hD3
      exact ⟨I3, J, R, rfl, rfl, hR, hO q (by rw [hrl]; exact hq) I3 (sp_fr_tr (sp_fE2 f2) f3) l3 hM3 hD3⟩
  have F4 : ∀ (can : Bool), pr_full D 5 = !can → ∀ k, tk_is X p 4 = true → ((can = false ∧ k = 5) ∨ (can = true ∧ dd_o D = false ∧ k = 6)) → ∀ I2 : Nat → Nat → Int32, sp_fr [72] sp_fE I I2 → md (k, tk_a X p) I2 → ow_AM M_Mo_estateLine (d + 9) [.ref 70] (85, I2, J, R) (fun r h' => ∃ (I9 : Nat → Nat → Int32) (J9 : Nat → Nat → Int64) (R9 : Nat → Nat → Option Nat), r = none ∧ h' = (85, I9, J9, R9) ∧ ow_RF R9 ∧ Q none (85, I9, J9, R9)) := by
    intro can hcan k hb hk2 I2 f2 h2
    refine c_Mo_estateLine_d hR h2.1 ⟨I2, J, R, rfl, rfl, hR, ?_⟩
    rcases hk2 with ⟨hc, e⟩ | ⟨hc, ho, e⟩
    · subst e
      exact hF _ (rl_5 (pr_line_k (by decide) hb) (by decide) (by rw [show 4 + 1 = 5 from rfl, hcan, hc]; rfl)) I2 (sp_fE2 f2) h2
    · subst e
      exact hF _ (rl_6 (pr_line_k (by decide) hb) (by decide) (by rw [show 4 + 1 = 5 from rfl, hcan, hc]; rfl) ho) I2 (sp_fE2 f2) h2
  have O4 : pr_full D 5 = false → tk_is X p 4 = true → dd_o D = true → ∀ I2 : Nat → Nat → Int32, sp_fr [72] sp_fE I I2 → I2 70 13 = 0 → tM I2 X (tk_n X p) → ow_AM M_Mo_estateLine (d + 9) [.ref 70] (85, I2, J, R) (fun r h' => ∃ (I9 : Nat → Nat → Int32) (J9 : Nat → Nat → Int64) (R9 : Nat → Nat → Option Nat), r = none ∧ h' = (85, I9, J9, R9) ∧ ow_RF R9 ∧ Q none (85, I9, J9, R9)) := by
    intro hfull hb ho I2 f2 l2 hM2
    have hrl : pr_rl X D p = pr_estate X D (tk_n X p) := rl_k (pr_line_k (by decide) hb) (by decide) hfull ho
    refine c_Mo_estateLine hR hX hn l2 hM2 (dM_k hD hk f2) hk ((pr_full_f hfull).2.1 rfl) ?_ ?_
    · intro q hq I3 f3 h3
      exact ⟨I3, J, R, rfl, rfl, hR, hF q (by rw [hrl]; exact hq) I3 (sp_fr_tr (sp_fE2 f2) f3) h3⟩
    · intro q hq I3 f3 l3 hM3 hD3
      exact ⟨I3, J, R, rfl, rfl, hR, hO q (by rw [hrl]; exact hq) I3 (sp_fr_tr (sp_fE2 f2) f3) l3 hM3 hD3⟩
  have F5 : ∀ (can : Bool), pr_full D 6 = !can → ∀ k, tk_is X p 5 = true → ((can = false ∧ k = 5) ∨ (can = true ∧ dd_o D = false ∧ k = 6)) → ∀ I2 : Nat → Nat → Int32, sp_fr [72] sp_fE I I2 → md (k, tk_a X p) I2 → ow_AM M_Mo_veiledLine (d + 9) [.ref 70] (85, I2, J, R) (fun r h' => ∃ (I9 : Nat → Nat → Int32) (J9 : Nat → Nat → Int64) (R9 : Nat → Nat → Option Nat), r = none ∧ h' = (85, I9, J9, R9) ∧ ow_RF R9 ∧ Q none (85, I9, J9, R9)) := by
    intro can hcan k hb hk2 I2 f2 h2
    refine c_Mo_veiledLine_d hR h2.1 ⟨I2, J, R, rfl, rfl, hR, ?_⟩
    rcases hk2 with ⟨hc, e⟩ | ⟨hc, ho, e⟩
    · subst e
      exact hF _ (rl_5 (pr_line_k (by decide) hb) (by decide) (by rw [show 5 + 1 = 6 from rfl, hcan, hc]; rfl)) I2 (sp_fE2 f2) h2
    · subst e
      exact hF _ (rl_6 (pr_line_k (by decide) hb) (by decide) (by rw [show 5 + 1 = 6 from rfl, hcan, hc]; rfl) ho) I2 (sp_fE2 f2) h2
  have O5 : pr_full D 6 = false → tk_is X p 5 = true → dd_o D = true → ∀ I2 : Nat → Nat → Int32, sp_fr [72] sp_fE I I2 → I2 70 13 = 0 → tM I2 X (tk_n X p) → ow_AM M_Mo_veiledLine (d + 9) [.ref 70] (85, I2, J, R) (fun r h' => ∃ (I9 : Nat → Nat → Int32) (J9 : Nat → Nat → Int64) (R9 : Nat → Nat → Option Nat), r = none ∧ h' = (85, I9, J9, R9) ∧ ow_RF R9 ∧ Q none (85, I9, J9, R9)) := by
    intro hfull hb ho I2 f2 l2 hM2
    have hrl : pr_rl X D p = pr_veiled X D (tk_n X p) := rl_k (pr_line_k (by decide) hb) (by decide) hfull ho
    refine c_Mo_veiledLine hR hX hn l2 hM2 (dM_k hD hk f2) hk ((pr_full_f hfull).2.2.1 rfl) ?_ ?_
    · intro q hq I3 f3 h3
      exact ⟨I3, J, R, rfl, rfl, hR, hF q (by rw [hrl]; exact hq) I3 (sp_fr_tr (sp_fE2 f2) f3) h3⟩
    · intro q hq I3 f3 l3 hM3 hD3
      exact ⟨I3, J, R, rfl, rfl, hR, hO q (by rw [hrl]; exact hq) I3 (sp_fr_tr (sp_fE2 f2) f3) l3 hM3 hD3⟩
  have F6 : ∀ (can : Bool), pr_full D 7 = !can → ∀ k, tk_is X p 6 = true → ((can = false ∧ k = 5) ∨ (can = true ∧ dd_o D = false ∧ k = 6)) → ∀ I2 : Nat → Nat → Int32, sp_fr [72] sp_fE I I2 → md (k, tk_a X p) I2 → ow_AM M_Mo_signedLine (d + 9) [.ref 70] (85, I2, J, R) (fun r h' => ∃ (I9 : Nat → Nat → Int32) (J9 : Nat → Nat → Int64) (R9 : Nat → Nat → Option Nat), r = none ∧ h' = (85, I9, J9, R9) ∧ ow_RF R9 ∧ Q none (85, I9, J9, R9)) := by
    intro can hcan k hb hk2 I2 f2 h2
    refine c_Mo_signedLine_d hR h2.1 ⟨I2, J, R, rfl, rfl, hR, ?_⟩
    rcases hk2 with ⟨hc, e⟩ | ⟨hc, ho, e⟩
    · subst e
      exact hF _ (rl_5 (pr_line_k (by decide) hb) (by decide) (by rw [show 6 + 1 = 7 from rfl, hcan, hc]; rfl)) I2 (sp_fE2 f2) h2
    · subst e
      exact hF _ (rl_6 (pr_line_k (by decide) hb) (by decide) (by rw [show 6 + 1 = 7 from rfl, hcan, hc]; rfl) ho) I2 (sp_fE2 f2) h2
  have O6 : pr_full D 7 = false → tk_is X p 6 = true → dd_o D = true → ∀ I2 : Nat → Nat → Int32, sp_fr [72] sp_fE I I2 → I2 70 13 = 0 → tM I2 X (tk_n X p) → ow_AM M_Mo_signedLine (d + 9) [.ref 70] (85, I2, J, R) (fun r h' => ∃ (I9 : Nat → Nat → Int32) (J9 : Nat → Nat → Int64) (R9 : Nat → Nat → Option Nat), r = none ∧ h' = (85, I9, J9, R9) ∧ ow_RF R9 ∧ Q none (85, I9, J9, R9)) := by
    intro hfull hb ho I2 f2 l2 hM2
    have hrl : pr_rl X D p = pr_signed X D (tk_n X p) := rl_k (pr_line_k (by decide) hb) (by decide) hfull ho
    refine c_Mo_signedLine hR hX hn l2 hM2 (dM_k hD hk f2) hk ((pr_full_f hfull).2.2.2 rfl) ?_ ?_
    · intro q hq I3 f3 h3
      exact ⟨I3, J, R, rfl, rfl, hR, hF q (by rw [hrl]; exact hq) I3 (sp_fr_tr (sp_fE2 f2) f3) h3⟩
    · intro q hq I3 f3 l3 hM3 hD3
      exact ⟨I3, J, R, rfl, rfl, hR, hO q (by rw [hrl]; exact hq) I3 (sp_fr_tr (sp_fE2 f2) f3) l3 hM3 hD3⟩
  apply t_Mo_readLine hR
  refine c_Mo_isWord (i := 0) hR (by decide) hf hM ⟨_, I, J, R, rfl, rfl, hR, ?_⟩
  cases hb0 : tk_is X p 0 with
  | true =>
    have hrl : pr_rl X D p = pr_shire X D p := by
      unfold pr_rl
      rw [pr_line_k (by decide) hb0]
      rfl
    refine ⟨fun c => absurd c (by decide), fun _ => ?_⟩
    refine c_Mo_shireLine hR hX hp hf hM hD hk ?_ ?_
    · intro q hq I3 f3 h3
      exact ⟨I3, J, R, rfl, rfl, hR, hF q (by rw [hrl]; exact hq) I3 f3 h3⟩
    · intro q hq I3 f3 l3 hM3 hD3
      exact ⟨I3, J, R, rfl, rfl, hR, hO q (by rw [hrl]; exact hq) I3 f3 l3 hM3 hD3⟩
  | false =>
    refine ⟨fun _ => ?_, fun c => absurd rfl c⟩
    rw [a3, show (6 ≤ nI (st_n (dd_T D))) = (nI 6 ≤ nI (st_n (dd_T D))) from rfl, nI_leI (by decide) (by omega)]
    have z5 : (5 : Int32) ≤ nI (st_ne (dd_T D)) ↔ 5 ≤ st_ne (dd_T D) := nI_leI (a := 5) (by decide) (by omega)
    have z3 : (3 : Int32) ≤ nI (st_nv (dd_T D)) ↔ 3 ≤ st_nv (dd_T D) := nI_leI (a := 3) (by decide) (by omega)
    have zs : (5 : Int32) ≤ nI (st_ns (dd_T D)) ↔ 5 ≤ st_ns (dd_T D) := nI_leI (a := 5) (by decide) (by omega)
    refine ⟨fun c1 => ?_, fun c1 => ?_⟩
    · have hfl1 : pr_full D 2 = true := by unfold pr_full; rw [if_pos rfl]; exact decide_eq_true c1
      refine c_Mo_begins (i := 1) (can := false) hR hX (by decide) hp hf hM a7 ?_ (fun k hb hk2 I2 f2 h2 => ⟨_, I2, J, R, rfl, rfl, hR, fun c => absurd c (by decide), fun _ => F1 false hfl1 k hb hk2 I2 f2 h2⟩) (fun hb hc ho I2 f2 l2 hM2 => ?_)
      · intro hb1
        refine ⟨_, I, J, R, rfl, rfl, hR, fun _ => ?_, fun c => absurd rfl c⟩
        have hfl2 : pr_full D 3 = false := rfl
        refine c_Mo_begins (i := 2) (can := true) hR hX (by decide) hp hf hM a7 ?_ (fun k hb hk2 I2 f2 h2 => ⟨_, I2, J, R, rfl, rfl, hR, fun c => absurd c (by decide), fun _ => F2 true hfl2 k hb hk2 I2 f2 h2⟩) (fun hb hc ho I2 f2 l2 hM2 => ?_)
        · intro hb2
          refine ⟨_, I, J, R, rfl, rfl, hR, fun _ => ?_, fun c => absurd rfl c⟩
          have hfl3 : pr_full D 4 = false := rfl
          refine c_Mo_begins (i := 3) (can := true) hR hX (by decide) hp hf hM a7 ?_ (fun k hb hk2 I2 f2 h2 => ⟨_, I2, J, R, rfl, rfl, hR, fun c => absurd c (by decide), fun _ => F3 true hfl3 k hb hk2 I2 f2 h2⟩) (fun hb hc ho I2 f2 l2 hM2 => ?_)
          · intro hb3
            refine ⟨_, I, J, R, rfl, rfl, hR, fun _ => ?_, fun c => absurd rfl c⟩
            rw [a4, z5]
            refine ⟨fun c4 => ?_, fun c4 => ?_⟩
            · have hfl4 : pr_full D 5 = true := by unfold pr_full; rw [if_neg (by decide), if_pos rfl]; exact decide_eq_true c4
              refine c_Mo_begins (i := 4) (can := false) hR hX (by decide) hp hf hM a7 ?_ (fun k hb hk2 I2 f2 h2 => ⟨_, I2, J, R, rfl, rfl, hR, fun c => absurd c (by decide), fun _ => F4 false hfl4 k hb hk2 I2 f2 h2⟩) (fun hb hc ho I2 f2 l2 hM2 => ?_)
              · intro hb4
                refine ⟨_, I, J, R, rfl, rfl, hR, fun _ => ?_, fun c => absurd rfl c⟩
                rw [a5, z3]
                refine ⟨fun c5 => ?_, fun c5 => ?_⟩
                · have hfl5 : pr_full D 6 = true := by unfold pr_full; rw [if_neg (by decide), if_neg (by decide), if_pos rfl]; exact decide_eq_true c5
                  refine c_Mo_begins (i := 5) (can := false) hR hX (by decide) hp hf hM a7 ?_ (fun k hb hk2 I2 f2 h2 => ⟨_, I2, J, R, rfl, rfl, hR, fun c => absurd c (by decide), fun _ => F5 false hfl5 k hb hk2 I2 f2 h2⟩) (fun hb hc ho I2 f2 l2 hM2 => ?_)
                  · intro hb5
                    refine ⟨_, I, J, R, rfl, rfl, hR, fun _ => ?_, fun c => absurd rfl c⟩
                    rw [a6, zs]
                    refine ⟨fun c6 => ?_, fun c6 => ?_⟩
                    · have hfl6 : pr_full D 7 = true := by unfold pr_full; rw [if_neg (by decide), if_neg (by decide), if_neg (by decide), if_pos rfl]; exact decide_eq_true c6
                      refine c_Mo_begins (i := 6) (can := false) hR hX (by decide) hp hf hM a7 ?_ (fun k hb hk2 I2 f2 h2 => ⟨_, I2, J, R, rfl, rfl, hR, fun c => absurd c (by decide), fun _ => F6 false hfl6 k hb hk2 I2 f2 h2⟩) (fun hb hc ho I2 f2 l2 hM2 => ?_)
                      · intro hb6
                        refine ⟨_, I, J, R, rfl, rfl, hR, fun _ => ?_, fun c => absurd rfl c⟩
                        refine c_Mo_wrong (k := 1) hR hf hM ?_
                        intro I2 f2 h2 _ _
                        exact ⟨I2, J, R, rfl, rfl, hR, hF _ (by
                          unfold pr_rl pr_line
                          rw [hb0, hb1, hb2, hb3, hb4, hb5, hb6]
                          rfl) I2 (sp_fE2 f2) h2⟩
                      · cases hc
                    · have hfl6 : pr_full D 7 = false := by unfold pr_full; rw [if_neg (by decide), if_neg (by decide), if_neg (by decide), if_pos rfl]; exact decide_eq_false c6
                      refine c_Mo_begins (i := 6) (can := true) hR hX (by decide) hp hf hM a7 ?_ (fun k hb hk2 I2 f2 h2 => ⟨_, I2, J, R, rfl, rfl, hR, fun c => absurd c (by decide), fun _ => F6 true hfl6 k hb hk2 I2 f2 h2⟩) (fun hb hc ho I2 f2 l2 hM2 => ?_)
                      · intro hb6
                        refine ⟨_, I, J, R, rfl, rfl, hR, fun _ => ?_, fun c => absurd rfl c⟩
                        refine c_Mo_wrong (k := 1) hR hf hM ?_
                        intro I2 f2 h2 _ _
                        exact ⟨I2, J, R, rfl, rfl, hR, hF _ (by
                          unfold pr_rl pr_line
                          rw [hb0, hb1, hb2, hb3, hb4, hb5, hb6]
                          rfl) I2 (sp_fE2 f2) h2⟩
                      · exact ⟨_, I2, J, R, rfl, rfl, hR, fun c => absurd c (by decide), fun _ => O6 hfl6 hb ho I2 f2 l2 hM2⟩
                  · cases hc
                · have hfl5 : pr_full D 6 = false := by unfold pr_full; rw [if_neg (by decide), if_neg (by decide), if_pos rfl]; exact decide_eq_false c5
                  refine c_Mo_begins (i := 5) (can := true) hR hX (by decide) hp hf hM a7 ?_ (fun k hb hk2 I2 f2 h2 => ⟨_, I2, J, R, rfl, rfl, hR, fun c => absurd c (by decide), fun _ => F5 true hfl5 k hb hk2 I2 f2 h2⟩) (fun hb hc ho I2 f2 l2 hM2 => ?_)
                  · intro hb5
                    refine ⟨_, I, J, R, rfl, rfl, hR, fun _ => ?_, fun c => absurd rfl c⟩
                    rw [a6, zs]
                    refine ⟨fun c6 => ?_, fun c6 => ?_⟩
                    · have hfl6 : pr_full D 7 = true := by unfold pr_full; rw [if_neg (by decide), if_neg (by decide), if_neg (by decide), if_pos rfl]; exact decide_eq_true c6
                      refine c_Mo_begins (i := 6) (can := false) hR hX (by decide) hp hf hM a7 ?_ (fun k hb hk2 I2 f2 h2 => ⟨_, I2, J, R, rfl, rfl, hR, fun c => absurd c (by decide), fun _ => F6 false hfl6 k hb hk2 I2 f2 h2⟩) (fun hb hc ho I2 f2 l2 hM2 => ?_)
                      · intro hb6
                        refine ⟨_, I, J, R, rfl, rfl, hR, fun _ => ?_, fun c => absurd rfl c⟩
                        refine c_Mo_wrong (k := 1) hR hf hM ?_
                        intro I2 f2 h2 _ _
                        exact ⟨I2, J, R, rfl, rfl, hR, hF _ (by
                          unfold pr_rl pr_line
                          rw [hb0, hb1, hb2, hb3, hb4, hb5, hb6]
                          rfl) I2 (sp_fE2 f2) h2⟩
                      · cases hc
                    · have hfl6 : pr_full D 7 = false := by unfold pr_full; rw [if_neg (by decide), if_neg (by decide), if_neg (by decide), if_pos rfl]; exact decide_eq_false c6
                      refine c_Mo_begins (i := 6) (can := true) hR hX (by decide) hp hf hM a7 ?_ (fun k hb hk2 I2 f2 h2 => ⟨_, I2, J, R, rfl, rfl, hR, fun c => absurd c (by decide), fun _ => F6 true hfl6 k hb hk2 I2 f2 h2⟩) (fun hb hc ho I2 f2 l2 hM2 => ?_)
                      · intro hb6
                        refine ⟨_, I, J, R, rfl, rfl, hR, fun _ => ?_, fun c => absurd rfl c⟩
                        refine c_Mo_wrong (k := 1) hR hf hM ?_
                        intro I2 f2 h2 _ _
                        exact ⟨I2, J, R, rfl, rfl, hR, hF _ (by
                          unfold pr_rl pr_line
                          rw [hb0, hb1, hb2, hb3, hb4, hb5, hb6]
                          rfl) I2 (sp_fE2 f2) h2⟩
                      · exact ⟨_, I2, J, R, rfl, rfl, hR, fun c => absurd c (by decide), fun _ => O6 hfl6 hb ho I2 f2 l2 hM2⟩
                  · exact ⟨_, I2, J, R, rfl, rfl, hR, fun c => absurd c (by decide), fun _ => O5 hfl5 hb ho I2 f2 l2 hM2⟩
              · cases hc
            · have hfl4 : pr_full D 5 = false := by unfold pr_full; rw [if_neg (by decide), if_pos rfl]; exact decide_eq_false c4
              refine c_Mo_begins (i := 4) (can := true) hR hX (by decide) hp hf hM a7 ?_ (fun k hb hk2 I2 f2 h2 => ⟨_, I2, J, R, rfl, rfl, hR, fun c => absurd c (by decide), fun _ => F4 true hfl4 k hb hk2 I2 f2 h2⟩) (fun hb hc ho I2 f2 l2 hM2 => ?_)
              · intro hb4
                refine ⟨_, I, J, R, rfl, rfl, hR, fun _ => ?_, fun c => absurd rfl c⟩
                rw [a5, z3]
                refine ⟨fun c5 => ?_, fun c5 => ?_⟩
                · have hfl5 : pr_full D 6 = true := by unfold pr_full; rw [if_neg (by decide), if_neg (by decide), if_pos rfl]; exact decide_eq_true c5
                  refine c_Mo_begins (i := 5) (can := false) hR hX (by decide) hp hf hM a7 ?_ (fun k hb hk2 I2 f2 h2 => ⟨_, I2, J, R, rfl, rfl, hR, fun c => absurd c (by decide), fun _ => F5 false hfl5 k hb hk2 I2 f2 h2⟩) (fun hb hc ho I2 f2 l2 hM2 => ?_)
                  · intro hb5
                    refine ⟨_, I, J, R, rfl, rfl, hR, fun _ => ?_, fun c => absurd rfl c⟩
                    rw [a6, zs]
                    refine ⟨fun c6 => ?_, fun c6 => ?_⟩
                    · have hfl6 : pr_full D 7 = true := by unfold pr_full; rw [if_neg (by decide), if_neg (by decide), if_neg (by decide), if_pos rfl]; exact decide_eq_true c6
                      refine c_Mo_begins (i := 6) (can := false) hR hX (by decide) hp hf hM a7 ?_ (fun k hb hk2 I2 f2 h2 => ⟨_, I2, J, R, rfl, rfl, hR, fun c => absurd c (by decide), fun _ => F6 false hfl6 k hb hk2 I2 f2 h2⟩) (fun hb hc ho I2 f2 l2 hM2 => ?_)
                      · intro hb6
                        refine ⟨_, I, J, R, rfl, rfl, hR, fun _ => ?_, fun c => absurd rfl c⟩
                        refine c_Mo_wrong (k := 1) hR hf hM ?_
                        intro I2 f2 h2 _ _
                        exact ⟨I2, J, R, rfl, rfl, hR, hF _ (by
                          unfold pr_rl pr_line
                          rw [hb0, hb1, hb2, hb3, hb4, hb5, hb6]
                          rfl) I2 (sp_fE2 f2) h2⟩
                      · cases hc
                    · have hfl6 : pr_full D 7 = false := by unfold pr_full; rw [if_neg (by decide), if_neg (by decide), if_neg (by decide), if_pos rfl]; exact decide_eq_false c6
                      refine c_Mo_begins (i := 6) (can := true) hR hX (by decide) hp hf hM a7 ?_ (fun k hb hk2 I2 f2 h2 => ⟨_, I2, J, R, rfl, rfl, hR, fun c => absurd c (by decide), fun _ => F6 true hfl6 k hb hk2 I2 f2 h2⟩) (fun hb hc ho I2 f2 l2 hM2 => ?_)
                      · intro hb6
                        refine ⟨_, I, J, R, rfl, rfl, hR, fun _ => ?_, fun c => absurd rfl c⟩
                        refine c_Mo_wrong (k := 1) hR hf hM ?_
                        intro I2 f2 h2 _ _
                        exact ⟨I2, J, R, rfl, rfl, hR, hF _ (by
                          unfold pr_rl pr_line
                          rw [hb0, hb1, hb2, hb3, hb4, hb5, hb6]
                          rfl) I2 (sp_fE2 f2) h2⟩
                      · exact ⟨_, I2, J, R, rfl, rfl, hR, fun c => absurd c (by decide), fun _ => O6 hfl6 hb ho I2 f2 l2 hM2⟩
                  · cases hc
                · have hfl5 : pr_full D 6 = false := by unfold pr_full; rw [if_neg (by decide), if_neg (by decide), if_pos rfl]; exact decide_eq_false c5
                  refine c_Mo_begins (i := 5) (can := true) hR hX (by decide) hp hf hM a7 ?_ (fun k hb hk2 I2 f2 h2 => ⟨_, I2, J, R, rfl, rfl, hR, fun c => absurd c (by decide), fun _ => F5 true hfl5 k hb hk2 I2 f2 h2⟩) (fun hb hc ho I2 f2 l2 hM2 => ?_)
                  · intro hb5
                    refine ⟨_, I, J, R, rfl, rfl, hR, fun _ => ?_, fun c => absurd rfl c⟩
                    rw [a6, zs]
                    refine ⟨fun c6 => ?_, fun c6 => ?_⟩
                    · have hfl6 : pr_full D 7 = true := by unfold pr_full; rw [if_neg (by decide), if_neg (by decide), if_neg (by decide), if_pos rfl]; exact decide_eq_true c6
                      refine c_Mo_begins (i := 6) (can := false) hR hX (by decide) hp hf hM a7 ?_ (fun k hb hk2 I2 f2 h2 => ⟨_, I2, J, R, rfl, rfl, hR, fun c => absurd c (by decide), fun _ => F6 false hfl6 k hb hk2 I2 f2 h2⟩) (fun hb hc ho I2 f2 l2 hM2 => ?_)
                      · intro hb6
                        refine ⟨_, I, J, R, rfl, rfl, hR, fun _ => ?_, fun c => absurd rfl c⟩
                        refine c_Mo_wrong (k := 1) hR hf hM ?_
                        intro I2 f2 h2 _ _
                        exact ⟨I2, J, R, rfl, rfl, hR, hF _ (by
                          unfold pr_rl pr_line
                          rw [hb0, hb1, hb2, hb3, hb4, hb5, hb6]
                          rfl) I2 (sp_fE2 f2) h2⟩
                      · cases hc
                    · have hfl6 : pr_full D 7 = false := by unfold pr_full; rw [if_neg (by decide), if_neg (by decide), if_neg (by decide), if_pos rfl]; exact decide_eq_false c6
                      refine c_Mo_begins (i := 6) (can := true) hR hX (by decide) hp hf hM a7 ?_ (fun k hb hk2 I2 f2 h2 => ⟨_, I2, J, R, rfl, rfl, hR, fun c => absurd c (by decide), fun _ => F6 true hfl6 k hb hk2 I2 f2 h2⟩) (fun hb hc ho I2 f2 l2 hM2 => ?_)
                      · intro hb6
                        refine ⟨_, I, J, R, rfl, rfl, hR, fun _ => ?_, fun c => absurd rfl c⟩
                        refine c_Mo_wrong (k := 1) hR hf hM ?_
                        intro I2 f2 h2 _ _
                        exact ⟨I2, J, R, rfl, rfl, hR, hF _ (by
                          unfold pr_rl pr_line
                          rw [hb0, hb1, hb2, hb3, hb4, hb5, hb6]
                          rfl) I2 (sp_fE2 f2) h2⟩
                      · exact ⟨_, I2, J, R, rfl, rfl, hR, fun c => absurd c (by decide), fun _ => O6 hfl6 hb ho I2 f2 l2 hM2⟩
                  · exact ⟨_, I2, J, R, rfl, rfl, hR, fun c => absurd c (by decide), fun _ => O5 hfl5 hb ho I2 f2 l2 hM2⟩
              · exact ⟨_, I2, J, R, rfl, rfl, hR, fun c => absurd c (by decide), fun _ => O4 hfl4 hb ho I2 f2 l2 hM2⟩
          · exact ⟨_, I2, J, R, rfl, rfl, hR, fun c => absurd c (by decide), fun _ => O3 hfl3 hb ho I2 f2 l2 hM2⟩
        · exact ⟨_, I2, J, R, rfl, rfl, hR, fun c => absurd c (by decide), fun _ => O2 hfl2 hb ho I2 f2 l2 hM2⟩
      · cases hc
    · have hfl1 : pr_full D 2 = false := by unfold pr_full; rw [if_pos rfl]; exact decide_eq_false c1
      refine c_Mo_begins (i := 1) (can := true) hR hX (by decide) hp hf hM a7 ?_ (fun k hb hk2 I2 f2 h2 => ⟨_, I2, J, R, rfl, rfl, hR, fun c => absurd c (by decide), fun _ => F1 true hfl1 k hb hk2 I2 f2 h2⟩) (fun hb hc ho I2 f2 l2 hM2 => ?_)
      · intro hb1
        refine ⟨_, I, J, R, rfl, rfl, hR, fun _ => ?_, fun c => absurd rfl c⟩
        have hfl2 : pr_full D 3 = false := rfl
        refine c_Mo_begins (i := 2) (can := true) hR hX (by decide) hp hf hM a7 ?_ (fun k hb hk2 I2 f2 h2 => ⟨_, I2, J, R, rfl, rfl, hR, fun c => absurd c (by decide), fun _ => F2 true hfl2 k hb hk2 I2 f2 h2⟩) (fun hb hc ho I2 f2 l2 hM2 => ?_)
        · intro hb2
          refine ⟨_, I, J, R, rfl, rfl, hR, fun _ => ?_, fun c => absurd rfl c⟩
          have hfl3 : pr_full D 4 = false := rfl
          refine c_Mo_begins (i := 3) (can := true) hR hX (by decide) hp hf hM a7 ?_ (fun k hb hk2 I2 f2 h2 => ⟨_, I2, J, R, rfl, rfl, hR, fun c => absurd c (by decide), fun _ => F3 true hfl3 k hb hk2 I2 f2 h2⟩) (fun hb hc ho I2 f2 l2 hM2 => ?_)
          · intro hb3
            refine ⟨_, I, J, R, rfl, rfl, hR, fun _ => ?_, fun c => absurd rfl c⟩
            rw [a4, z5]
            refine ⟨fun c4 => ?_, fun c4 => ?_⟩
            · have hfl4 : pr_full D 5 = true := by unfold pr_full; rw [if_neg (by decide), if_pos rfl]; exact decide_eq_true c4
              refine c_Mo_begins (i := 4) (can := false) hR hX (by decide) hp hf hM a7 ?_ (fun k hb hk2 I2 f2 h2 => ⟨_, I2, J, R, rfl, rfl, hR, fun c => absurd c (by decide), fun _ => F4 false hfl4 k hb hk2 I2 f2 h2⟩) (fun hb hc ho I2 f2 l2 hM2 => ?_)
              · intro hb4
                refine ⟨_, I, J, R, rfl, rfl, hR, fun _ => ?_, fun c => absurd rfl c⟩
                rw [a5, z3]
                refine ⟨fun c5 => ?_, fun c5 => ?_⟩
                · have hfl5 : pr_full D 6 = true := by unfold pr_full; rw [if_neg (by decide), if_neg (by decide), if_pos rfl]; exact decide_eq_true c5
                  refine c_Mo_begins (i := 5) (can := false) hR hX (by decide) hp hf hM a7 ?_ (fun k hb hk2 I2 f2 h2 => ⟨_, I2, J, R, rfl, rfl, hR, fun c => absurd c (by decide), fun _ => F5 false hfl5 k hb hk2 I2 f2 h2⟩) (fun hb hc ho I2 f2 l2 hM2 => ?_)
                  · intro hb5
                    refine ⟨_, I, J, R, rfl, rfl, hR, fun _ => ?_, fun c => absurd rfl c⟩
                    rw [a6, zs]
                    refine ⟨fun c6 => ?_, fun c6 => ?_⟩
                    · have hfl6 : pr_full D 7 = true := by unfold pr_full; rw [if_neg (by decide), if_neg (by decide), if_neg (by decide), if_pos rfl]; exact decide_eq_true c6
                      refine c_Mo_begins (i := 6) (can := false) hR hX (by decide) hp hf hM a7 ?_ (fun k hb hk2 I2 f2 h2 => ⟨_, I2, J, R, rfl, rfl, hR, fun c => absurd c (by decide), fun _ => F6 false hfl6 k hb hk2 I2 f2 h2⟩) (fun hb hc ho I2 f2 l2 hM2 => ?_)
                      · intro hb6
                        refine ⟨_, I, J, R, rfl, rfl, hR, fun _ => ?_, fun c => absurd rfl c⟩
                        refine c_Mo_wrong (k := 1) hR hf hM ?_
                        intro I2 f2 h2 _ _
                        exact ⟨I2, J, R, rfl, rfl, hR, hF _ (by
                          unfold pr_rl pr_line
                          rw [hb0, hb1, hb2, hb3, hb4, hb5, hb6]
                          rfl) I2 (sp_fE2 f2) h2⟩
                      · cases hc
                    · have hfl6 : pr_full D 7 = false := by unfold pr_full; rw [if_neg (by decide), if_neg (by decide), if_neg (by decide), if_pos rfl]; exact decide_eq_false c6
                      refine c_Mo_begins (i := 6) (can := true) hR hX (by decide) hp hf hM a7 ?_ (fun k hb hk2 I2 f2 h2 => ⟨_, I2, J, R, rfl, rfl, hR, fun c => absurd c (by decide), fun _ => F6 true hfl6 k hb hk2 I2 f2 h2⟩) (fun hb hc ho I2 f2 l2 hM2 => ?_)
                      · intro hb6
                        refine ⟨_, I, J, R, rfl, rfl, hR, fun _ => ?_, fun c => absurd rfl c⟩
                        refine c_Mo_wrong (k := 1) hR hf hM ?_
                        intro I2 f2 h2 _ _
                        exact ⟨I2, J, R, rfl, rfl, hR, hF _ (by
                          unfold pr_rl pr_line
                          rw [hb0, hb1, hb2, hb3, hb4, hb5, hb6]
                          rfl) I2 (sp_fE2 f2) h2⟩
                      · exact ⟨_, I2, J, R, rfl, rfl, hR, fun c => absurd c (by decide), fun _ => O6 hfl6 hb ho I2 f2 l2 hM2⟩
                  · cases hc
                · have hfl5 : pr_full D 6 = false := by unfold pr_full; rw [if_neg (by decide), if_neg (by decide), if_pos rfl]; exact decide_eq_false c5
                  refine c_Mo_begins (i := 5) (can := true) hR hX (by decide) hp hf hM a7 ?_ (fun k hb hk2 I2 f2 h2 => ⟨_, I2, J, R, rfl, rfl, hR, fun c => absurd c (by decide), fun _ => F5 true hfl5 k hb hk2 I2 f2 h2⟩) (fun hb hc ho I2 f2 l2 hM2 => ?_)
                  · intro hb5
                    refine ⟨_, I, J, R, rfl, rfl, hR, fun _ => ?_, fun c => absurd rfl c⟩
                    rw [a6, zs]
                    refine ⟨fun c6 => ?_, fun c6 => ?_⟩
                    · have hfl6 : pr_full D 7 = true := by unfold pr_full; rw [if_neg (by decide), if_neg (by decide), if_neg (by decide), if_pos rfl]; exact decide_eq_true c6
                      refine c_Mo_begins (i := 6) (can := false) hR hX (by decide) hp hf hM a7 ?_ (fun k hb hk2 I2 f2 h2 => ⟨_, I2, J, R, rfl, rfl, hR, fun c => absurd c (by decide), fun _ => F6 false hfl6 k hb hk2 I2 f2 h2⟩) (fun hb hc ho I2 f2 l2 hM2 => ?_)
                      · intro hb6
                        refine ⟨_, I, J, R, rfl, rfl, hR, fun _ => ?_, fun c => absurd rfl c⟩
                        refine c_Mo_wrong (k := 1) hR hf hM ?_
                        intro I2 f2 h2 _ _
                        exact ⟨I2, J, R, rfl, rfl, hR, hF _ (by
                          unfold pr_rl pr_line
                          rw [hb0, hb1, hb2, hb3, hb4, hb5, hb6]
                          rfl) I2 (sp_fE2 f2) h2⟩
                      · cases hc
                    · have hfl6 : pr_full D 7 = false := by unfold pr_full; rw [if_neg (by decide), if_neg (by decide), if_neg (by decide), if_pos rfl]; exact decide_eq_false c6
                      refine c_Mo_begins (i := 6) (can := true) hR hX (by decide) hp hf hM a7 ?_ (fun k hb hk2 I2 f2 h2 => ⟨_, I2, J, R, rfl, rfl, hR, fun c => absurd c (by decide), fun _ => F6 true hfl6 k hb hk2 I2 f2 h2⟩) (fun hb hc ho I2 f2 l2 hM2 => ?_)
                      · intro hb6
                        refine ⟨_, I, J, R, rfl, rfl, hR, fun _ => ?_, fun c => absurd rfl c⟩
                        refine c_Mo_wrong (k := 1) hR hf hM ?_
                        intro I2 f2 h2 _ _
                        exact ⟨I2, J, R, rfl, rfl, hR, hF _ (by
                          unfold pr_rl pr_line
                          rw [hb0, hb1, hb2, hb3, hb4, hb5, hb6]
                          rfl) I2 (sp_fE2 f2) h2⟩
                      · exact ⟨_, I2, J, R, rfl, rfl, hR, fun c => absurd c (by decide), fun _ => O6 hfl6 hb ho I2 f2 l2 hM2⟩
                  · exact ⟨_, I2, J, R, rfl, rfl, hR, fun c => absurd c (by decide), fun _ => O5 hfl5 hb ho I2 f2 l2 hM2⟩
              · cases hc
            · have hfl4 : pr_full D 5 = false := by unfold pr_full; rw [if_neg (by decide), if_pos rfl]; exact decide_eq_false c4
              refine c_Mo_begins (i := 4) (can := true) hR hX (by decide) hp hf hM a7 ?_ (fun k hb hk2 I2 f2 h2 => ⟨_, I2, J, R, rfl, rfl, hR, fun c => absurd c (by decide), fun _ => F4 true hfl4 k hb hk2 I2 f2 h2⟩) (fun hb hc ho I2 f2 l2 hM2 => ?_)
              · intro hb4
                refine ⟨_, I, J, R, rfl, rfl, hR, fun _ => ?_, fun c => absurd rfl c⟩
                rw [a5, z3]
                refine ⟨fun c5 => ?_, fun c5 => ?_⟩
                · have hfl5 : pr_full D 6 = true := by unfold pr_full; rw [if_neg (by decide), if_neg (by decide), if_pos rfl]; exact decide_eq_true c5
                  refine c_Mo_begins (i := 5) (can := false) hR hX (by decide) hp hf hM a7 ?_ (fun k hb hk2 I2 f2 h2 => ⟨_, I2, J, R, rfl, rfl, hR, fun c => absurd c (by decide), fun _ => F5 false hfl5 k hb hk2 I2 f2 h2⟩) (fun hb hc ho I2 f2 l2 hM2 => ?_)
                  · intro hb5
                    refine ⟨_, I, J, R, rfl, rfl, hR, fun _ => ?_, fun c => absurd rfl c⟩
                    rw [a6, zs]
                    refine ⟨fun c6 => ?_, fun c6 => ?_⟩
                    · have hfl6 : pr_full D 7 = true := by unfold pr_full; rw [if_neg (by decide), if_neg (by decide), if_neg (by decide), if_pos rfl]; exact decide_eq_true c6
                      refine c_Mo_begins (i := 6) (can := false) hR hX (by decide) hp hf hM a7 ?_ (fun k hb hk2 I2 f2 h2 => ⟨_, I2, J, R, rfl, rfl, hR, fun c => absurd c (by decide), fun _ => F6 false hfl6 k hb hk2 I2 f2 h2⟩) (fun hb hc ho I2 f2 l2 hM2 => ?_)
                      · intro hb6
                        refine ⟨_, I, J, R, rfl, rfl, hR, fun _ => ?_, fun c => absurd rfl c⟩
                        refine c_Mo_wrong (k := 1) hR hf hM ?_
                        intro I2 f2 h2 _ _
                        exact ⟨I2, J, R, rfl, rfl, hR, hF _ (by
                          unfold pr_rl pr_line
                          rw [hb0, hb1, hb2, hb3, hb4, hb5, hb6]
                          rfl) I2 (sp_fE2 f2) h2⟩
                      · cases hc
                    · have hfl6 : pr_full D 7 = false := by unfold pr_full; rw [if_neg (by decide), if_neg (by decide), if_neg (by decide), if_pos rfl]; exact decide_eq_false c6
                      refine c_Mo_begins (i := 6) (can := true) hR hX (by decide) hp hf hM a7 ?_ (fun k hb hk2 I2 f2 h2 => ⟨_, I2, J, R, rfl, rfl, hR, fun c => absurd c (by decide), fun _ => F6 true hfl6 k hb hk2 I2 f2 h2⟩) (fun hb hc ho I2 f2 l2 hM2 => ?_)
                      · intro hb6
                        refine ⟨_, I, J, R, rfl, rfl, hR, fun _ => ?_, fun c => absurd rfl c⟩
                        refine c_Mo_wrong (k := 1) hR hf hM ?_
                        intro I2 f2 h2 _ _
                        exact ⟨I2, J, R, rfl, rfl, hR, hF _ (by
                          unfold pr_rl pr_line
                          rw [hb0, hb1, hb2, hb3, hb4, hb5, hb6]
                          rfl) I2 (sp_fE2 f2) h2⟩
                      · exact ⟨_, I2, J, R, rfl, rfl, hR, fun c => absurd c (by decide), fun _ => O6 hfl6 hb ho I2 f2 l2 hM2⟩
                  · cases hc
                · have hfl5 : pr_full D 6 = false := by unfold pr_full; rw [if_neg (by decide), if_neg (by decide), if_pos rfl]; exact decide_eq_false c5
                  refine c_Mo_begins (i := 5) (can := true) hR hX (by decide) hp hf hM a7 ?_ (fun k hb hk2 I2 f2 h2 => ⟨_, I2, J, R, rfl, rfl, hR, fun c => absurd c (by decide), fun _ => F5 true hfl5 k hb hk2 I2 f2 h2⟩) (fun hb hc ho I2 f2 l2 hM2 => ?_)
                  · intro hb5
                    refine ⟨_, I, J, R, rfl, rfl, hR, fun _ => ?_, fun c => absurd rfl c⟩
                    rw [a6, zs]
                    refine ⟨fun c6 => ?_, fun c6 => ?_⟩
                    · have hfl6 : pr_full D 7 = true := by unfold pr_full; rw [if_neg (by decide), if_neg (by decide), if_neg (by decide), if_pos rfl]; exact decide_eq_true c6
                      refine c_Mo_begins (i := 6) (can := false) hR hX (by decide) hp hf hM a7 ?_ (fun k hb hk2 I2 f2 h2 => ⟨_, I2, J, R, rfl, rfl, hR, fun c => absurd c (by decide), fun _ => F6 false hfl6 k hb hk2 I2 f2 h2⟩) (fun hb hc ho I2 f2 l2 hM2 => ?_)
                      · intro hb6
                        refine ⟨_, I, J, R, rfl, rfl, hR, fun _ => ?_, fun c => absurd rfl c⟩
                        refine c_Mo_wrong (k := 1) hR hf hM ?_
                        intro I2 f2 h2 _ _
                        exact ⟨I2, J, R, rfl, rfl, hR, hF _ (by
                          unfold pr_rl pr_line
                          rw [hb0, hb1, hb2, hb3, hb4, hb5, hb6]
                          rfl) I2 (sp_fE2 f2) h2⟩
                      · cases hc
                    · have hfl6 : pr_full D 7 = false := by unfold pr_full; rw [if_neg (by decide), if_neg (by decide), if_neg (by decide), if_pos rfl]; exact decide_eq_false c6
                      refine c_Mo_begins (i := 6) (can := true) hR hX (by decide) hp hf hM a7 ?_ (fun k hb hk2 I2 f2 h2 => ⟨_, I2, J, R, rfl, rfl, hR, fun c => absurd c (by decide), fun _ => F6 true hfl6 k hb hk2 I2 f2 h2⟩) (fun hb hc ho I2 f2 l2 hM2 => ?_)
                      · intro hb6
                        refine ⟨_, I, J, R, rfl, rfl, hR, fun _ => ?_, fun c => absurd rfl c⟩
                        refine c_Mo_wrong (k := 1) hR hf hM ?_
                        intro I2 f2 h2 _ _
                        exact ⟨I2, J, R, rfl, rfl, hR, hF _ (by
                          unfold pr_rl pr_line
                          rw [hb0, hb1, hb2, hb3, hb4, hb5, hb6]
                          rfl) I2 (sp_fE2 f2) h2⟩
                      · exact ⟨_, I2, J, R, rfl, rfl, hR, fun c => absurd c (by decide), fun _ => O6 hfl6 hb ho I2 f2 l2 hM2⟩
                  · exact ⟨_, I2, J, R, rfl, rfl, hR, fun c => absurd c (by decide), fun _ => O5 hfl5 hb ho I2 f2 l2 hM2⟩
              · exact ⟨_, I2, J, R, rfl, rfl, hR, fun c => absurd c (by decide), fun _ => O4 hfl4 hb ho I2 f2 l2 hM2⟩
          · exact ⟨_, I2, J, R, rfl, rfl, hR, fun c => absurd c (by decide), fun _ => O3 hfl3 hb ho I2 f2 l2 hM2⟩
        · exact ⟨_, I2, J, R, rfl, rfl, hR, fun c => absurd c (by decide), fun _ => O2 hfl2 hb ho I2 f2 l2 hM2⟩
      · exact ⟨_, I2, J, R, rfl, rfl, hR, fun c => absurd c (by decide), fun _ => O1 hfl1 hb ho I2 f2 l2 hM2⟩
end MSHIRE
