/-! Own rows, by program: no shire is told. -/
def sp_V0 : sp_V := (0, 0, 0, fun _ => 0, fun _ => 0, fun _ => 0)
section NONE
variable {d : Nat} {I : Nat → Nat → Int32} {J : Nat → Nat → Int64} {R : Nat → Nat → Option Nat} {Q : Option Value → ow_H → Prop}
theorem z_S {n : Nat} (hR : ow_RF R) (h1 : I 0 14 = 0) (hQ : ∀ I2 : Nat → Nat → Int32, sp_fr [] [(0, 15)] I I2 → I2 0 15 = 1 → Q (some (.int 1)) (85, I2, J, R)) : ow_AM M_Fs_lacksShire (d + 1) [.ref 0] (85, I, J, R) Q := by
  apply t_Fs_lacksShire hR
  refine ⟨fun _ I3 e3 => ⟨fun c => absurd (by rw [e3, ow_u_nk (by decide)]; exact h1) c, fun _ => hQ I3 (sp_fr_ue e3 (by simp)) (by rw [e3, ow_u_at])⟩, fun c => absurd h1 c⟩
theorem z_F {x : Int32} (hR : ow_RF R) (h1 : I 0 14 = 0) (hQ : ∀ I2 : Nat → Nat → Int32, sp_fr [] [(0, 15)] I I2 → I2 0 15 = 1 → Q (some (.int 1)) (85, I2, J, R)) : ow_AM M_Fs_lacksFolly (d + 1) [.ref 0, .int x] (85, I, J, R) Q := by
  apply t_Fs_lacksFolly hR
  exact ⟨fun _ I3 e3 => hQ I3 (sp_fr_ue e3 (by simp)) (by rw [e3, ow_u_at]), fun c => absurd h1 c⟩
theorem z_E {x : Int32} (hR : ow_RF R) (h1 : I 0 14 = 0) (hQ : ∀ I2 : Nat → Nat → Int32, sp_fr [] [(0, 15)] I I2 → I2 0 15 = 1 → Q (some (.int 1)) (85, I2, J, R)) : ow_AM M_Fs_lacksEstate (d + 1) [.ref 0, .int x] (85, I, J, R) Q := by
  apply t_Fs_lacksEstate hR
  exact ⟨fun _ I3 e3 => hQ I3 (sp_fr_ue e3 (by simp)) (by rw [e3, ow_u_at]), fun c => absurd h1 c⟩
theorem z_why {b : Bool} (hR : ow_RF R) (hQ : Q (some (.int 1)) (85, I, J, R)) : ow_AM M_Mo_why (d + 1) [.ref 70, .int 0, .int (sp_jb b)] (85, I, J, R) Q := c_Mo_why (a := false) hR hQ
theorem z_mF {x : Int32} (hR : ow_RF R) (h1 : I 70 14 = 0) (hQ : Q (some (.int 0)) (85, I, J, R)) : ow_AM M_Mo_isFolly (d + 1) [.ref 70, .int x] (85, I, J, R) Q := by
  apply t_Mo_isFolly hR
  exact ⟨fun _ => hQ, fun c => absurd h1 c⟩
theorem z_mE {x : Int32} (hR : ow_RF R) (h1 : I 70 14 = 0) (hQ : Q (some (.int 0)) (85, I, J, R)) : ow_AM M_Mo_isEstate (d + 1) [.ref 70, .int x] (85, I, J, R) Q := by
  apply t_Mo_isEstate hR
  exact ⟨fun _ => hQ, fun c => absurd h1 c⟩
theorem z_mV {x : Int32} (hR : ow_RF R) (h1 : I 70 14 = 0) (hQ : Q (some (.int 0)) (85, I, J, R)) : ow_AM M_Mo_isVeiled (d + 1) [.ref 70, .int x] (85, I, J, R) Q := by
  apply t_Mo_isVeiled hR
  exact ⟨fun _ => hQ, fun c => absurd h1 c⟩
theorem zc_answers {x : Int32} {y : Int32} (hR : ow_RF R) (h1 : I 0 14 = 0) : sp_rc M_Fs_answers (d + 12) [.ref 0, .int x, .int y] I R (some (.int (-1))) 1 := by
  intro J Q hQ
  apply t_Fs_answers hR
  refine z_F hR h1 ?_
  intro I2 g2 v2
  refine ⟨_, I2, J, R, rfl, rfl, hR, ?_⟩
  first | refine ⟨fun c => absurd c (by decide), fun _ => ?_⟩ | refine ⟨fun _ => ?_, fun c => absurd c (by decide)⟩
  exact hQ I2 J (sp_cm g2) v2
theorem zm_answers {x : Int32} {y : Int32} (hR : ow_RF R) (h1 : I 70 14 = 0) : sp_rm M_Mo_answers (d + 12) [.ref 70, .int x, .int y] I R (some (.int (-1))) 1 := by
  intro J Q hQ
  apply t_Mo_answers hR
  refine c_Mo_good hR ?_
  intro I2 g0 g1 g2
  refine ⟨I2, J, R, rfl, rfl, hR, ?_⟩
  have h2 : I2 70 14 = 0 := by rw [g0 70 (by decide) 14 (by decide)]; exact h1
  refine z_mF hR h2 ?_
  refine ⟨_, I2, J, R, rfl, rfl, hR, ?_⟩
  first | refine ⟨fun c => absurd rfl c, fun _ => ?_⟩ | refine ⟨fun _ => ?_, fun c => absurd rfl c⟩
  refine c_Mo_no hR ?_
  intro I3 g3 g4
  exact ⟨_, I3, J, R, rfl, rfl, hR, hQ I3 J (sp_fr_tr (sp_mm g0) (sp_mm1 g3)) g4⟩
theorem zc_signs {x : Int32} {y : Int32} (hR : ow_RF R) (h1 : I 0 14 = 0) : sp_rc M_Fs_signs (d + 12) [.ref 0, .int x, .int y] I R (some (.int (-1))) 1 := by
  intro J Q hQ
  apply t_Fs_signs hR
  refine z_F hR h1 ?_
  intro I2 g2 v2
  refine ⟨_, I2, J, R, rfl, rfl, hR, ?_⟩
  first | refine ⟨fun c => absurd c (by decide), fun _ => ?_⟩ | refine ⟨fun _ => ?_, fun c => absurd c (by decide)⟩
  exact hQ I2 J (sp_cm g2) v2
theorem zm_signs {x : Int32} {y : Int32} (hR : ow_RF R) (h1 : I 70 14 = 0) : sp_rm M_Mo_signs (d + 12) [.ref 70, .int x, .int y] I R (some (.int (-1))) 1 := by
  intro J Q hQ
  apply t_Mo_signs hR
  refine c_Mo_good hR ?_
  intro I2 g0 g1 g2
  refine ⟨I2, J, R, rfl, rfl, hR, ?_⟩
  have h2 : I2 70 14 = 0 := by rw [g0 70 (by decide) 14 (by decide)]; exact h1
  refine z_mF hR h2 ?_
  refine ⟨_, I2, J, R, rfl, rfl, hR, ?_⟩
  first | refine ⟨fun c => absurd rfl c, fun _ => ?_⟩ | refine ⟨fun _ => ?_, fun c => absurd rfl c⟩
  refine c_Mo_no hR ?_
  intro I3 g3 g4
  exact ⟨_, I3, J, R, rfl, rfl, hR, hQ I3 J (sp_fr_tr (sp_mm g0) (sp_mm1 g3)) g4⟩
theorem zc_signer {x : Int32} {y : Int32} (hR : ow_RF R) (h1 : I 0 14 = 0) : sp_rc M_Fs_signer (d + 12) [.ref 0, .int x, .int y] I R (some (.int (-1))) 1 := by
  intro J Q hQ
  apply t_Fs_signer hR
  refine z_F hR h1 ?_
  intro I2 g2 v2
  refine ⟨_, I2, J, R, rfl, rfl, hR, ?_⟩
  first | refine ⟨fun c => absurd c (by decide), fun _ => ?_⟩ | refine ⟨fun _ => ?_, fun c => absurd c (by decide)⟩
  exact hQ I2 J (sp_cm g2) v2
theorem zm_signer {x : Int32} {y : Int32} (hR : ow_RF R) (h1 : I 70 14 = 0) : sp_rm M_Mo_signer (d + 12) [.ref 70, .int x, .int y] I R (some (.int (-1))) 1 := by
  intro J Q hQ
  apply t_Mo_signer hR
  refine c_Mo_good hR ?_
  intro I2 g0 g1 g2
  refine ⟨I2, J, R, rfl, rfl, hR, ?_⟩
  have h2 : I2 70 14 = 0 := by rw [g0 70 (by decide) 14 (by decide)]; exact h1
  refine z_mF hR h2 ?_
  refine ⟨_, I2, J, R, rfl, rfl, hR, ?_⟩
  first | refine ⟨fun c => absurd rfl c, fun _ => ?_⟩ | refine ⟨fun _ => ?_, fun c => absurd rfl c⟩
  refine c_Mo_no hR ?_
  intro I3 g3 g4
  exact ⟨_, I3, J, R, rfl, rfl, hR, hQ I3 J (sp_fr_tr (sp_mm g0) (sp_mm1 g3)) g4⟩
theorem zc_course {x : Int32} {y : Int32} (hR : ow_RF R) (h1 : I 0 14 = 0) : sp_rc M_Fs_course (d + 12) [.ref 0, .int x, .int y] I R (some (.int (-1))) 1 := by
  intro J Q hQ
  apply t_Fs_course hR
  refine z_F hR h1 ?_
  intro I2 g2 v2
  refine ⟨_, I2, J, R, rfl, rfl, hR, ?_⟩
  first | refine ⟨fun c => absurd c (by decide), fun _ => ?_⟩ | refine ⟨fun _ => ?_, fun c => absurd c (by decide)⟩
  exact hQ I2 J (sp_cm g2) v2
theorem zm_course {x : Int32} {y : Int32} (hR : ow_RF R) (h1 : I 70 14 = 0) : sp_rm M_Mo_course (d + 12) [.ref 70, .int x, .int y] I R (some (.int (-1))) 1 := by
  intro J Q hQ
  apply t_Mo_course hR
  refine c_Mo_good hR ?_
  intro I2 g0 g1 g2
  refine ⟨I2, J, R, rfl, rfl, hR, ?_⟩
  have h2 : I2 70 14 = 0 := by rw [g0 70 (by decide) 14 (by decide)]; exact h1
  refine z_mF hR h2 ?_
  refine ⟨_, I2, J, R, rfl, rfl, hR, ?_⟩
  first | refine ⟨fun c => absurd rfl c, fun _ => ?_⟩ | refine ⟨fun _ => ?_, fun c => absurd rfl c⟩
  refine c_Mo_no hR ?_
  intro I3 g3 g4
  exact ⟨_, I3, J, R, rfl, rfl, hR, hQ I3 J (sp_fr_tr (sp_mm g0) (sp_mm1 g3)) g4⟩
theorem zc_folly {x : Int32} {y : Int32} (hR : ow_RF R) (h1 : I 0 14 = 0) : sp_rc M_Fs_folly (d + 12) [.ref 0, .int x, .int y] I R (some (.int (-1))) 1 := by
  intro J Q hQ
  apply t_Fs_folly hR
  refine z_F hR h1 ?_
  intro I2 g2 v2
  refine ⟨_, I2, J, R, rfl, rfl, hR, ?_⟩
  first | refine ⟨fun c => absurd c (by decide), fun _ => ?_⟩ | refine ⟨fun _ => ?_, fun c => absurd c (by decide)⟩
  exact hQ I2 J (sp_cm g2) v2
theorem zm_folly {x : Int32} {y : Int32} (hR : ow_RF R) (h1 : I 70 14 = 0) : sp_rm M_Mo_folly (d + 12) [.ref 70, .int x, .int y] I R (some (.int (-1))) 1 := by
  intro J Q hQ
  apply t_Mo_folly hR
  refine c_Mo_good hR ?_
  intro I2 g0 g1 g2
  refine ⟨I2, J, R, rfl, rfl, hR, ?_⟩
  have h2 : I2 70 14 = 0 := by rw [g0 70 (by decide) 14 (by decide)]; exact h1
  refine z_mF hR h2 ?_
  refine ⟨_, I2, J, R, rfl, rfl, hR, ?_⟩
  first | refine ⟨fun c => absurd rfl c, fun _ => ?_⟩ | refine ⟨fun _ => ?_, fun c => absurd rfl c⟩
  refine c_Mo_no hR ?_
  intro I3 g3 g4
  exact ⟨_, I3, J, R, rfl, rfl, hR, hQ I3 J (sp_fr_tr (sp_mm g0) (sp_mm1 g3)) g4⟩
theorem zc_estate {x : Int32} {y : Int32} (hR : ow_RF R) (h1 : I 0 14 = 0) : sp_rc M_Fs_estate (d + 12) [.ref 0, .int x, .int y] I R (some (.int (-1))) 1 := by
  intro J Q hQ
  apply t_Fs_estate hR
  refine z_E hR h1 ?_
  intro I2 g2 v2
  refine ⟨_, I2, J, R, rfl, rfl, hR, ?_⟩
  first | refine ⟨fun c => absurd c (by decide), fun _ => ?_⟩ | refine ⟨fun _ => ?_, fun c => absurd c (by decide)⟩
  exact hQ I2 J (sp_cm g2) v2
theorem zm_estate {x : Int32} {y : Int32} (hR : ow_RF R) (h1 : I 70 14 = 0) : sp_rm M_Mo_estate (d + 12) [.ref 70, .int x, .int y] I R (some (.int (-1))) 1 := by
  intro J Q hQ
  apply t_Mo_estate hR
  refine c_Mo_good hR ?_
  intro I2 g0 g1 g2
  refine ⟨I2, J, R, rfl, rfl, hR, ?_⟩
  have h2 : I2 70 14 = 0 := by rw [g0 70 (by decide) 14 (by decide)]; exact h1
  refine z_mE hR h2 ?_
  refine ⟨_, I2, J, R, rfl, rfl, hR, ?_⟩
  first | refine ⟨fun c => absurd rfl c, fun _ => ?_⟩ | refine ⟨fun _ => ?_, fun c => absurd rfl c⟩
  refine c_Mo_no hR ?_
  intro I3 g3 g4
  exact ⟨_, I3, J, R, rfl, rfl, hR, hQ I3 J (sp_fr_tr (sp_mm g0) (sp_mm1 g3)) g4⟩
theorem zc_courseAt {x : Int32} {y : Int32} {z : Int32} (hR : ow_RF R) (h1 : I 0 14 = 0) : sp_rc M_Fs_courseAt (d + 12) [.ref 0, .int x, .int y, .int z] I R (some (.int (-1))) 1 := by
  intro J Q hQ
  apply t_Fs_courseAt hR
  refine z_F hR h1 ?_
  intro I2 g2 v2
  refine ⟨_, I2, J, R, rfl, rfl, hR, ?_⟩
  first | refine ⟨fun c => absurd c (by decide), fun _ => ?_⟩ | refine ⟨fun _ => ?_, fun c => absurd c (by decide)⟩
  exact hQ I2 J (sp_cm g2) v2
theorem zm_courseAt {x : Int32} {y : Int32} {z : Int32} (hR : ow_RF R) (h1 : I 70 14 = 0) : sp_rm M_Mo_courseAt (d + 12) [.ref 70, .int x, .int y, .int z] I R (some (.int (-1))) 1 := by
  intro J Q hQ
  apply t_Mo_courseAt hR
  refine c_Mo_good hR ?_
  intro I2 g0 g1 g2
  refine ⟨I2, J, R, rfl, rfl, hR, ?_⟩
  have h2 : I2 70 14 = 0 := by rw [g0 70 (by decide) 14 (by decide)]; exact h1
  refine z_mF hR h2 ?_
  refine ⟨_, I2, J, R, rfl, rfl, hR, ?_⟩
  first | refine ⟨fun c => absurd rfl c, fun _ => ?_⟩ | refine ⟨fun _ => ?_, fun c => absurd rfl c⟩
  refine c_Mo_no hR ?_
  intro I3 g3 g4
  exact ⟨_, I3, J, R, rfl, rfl, hR, hQ I3 J (sp_fr_tr (sp_mm g0) (sp_mm1 g3)) g4⟩
theorem zc_served (hR : ow_RF R) (h1 : I 0 14 = 0) : sp_rc M_Fs_served (d + 12) [.ref 0] I R (some (.int (-1))) 1 := by
  intro J Q hQ
  apply t_Fs_served hR
  refine z_S (n := 0) hR h1 ?_
  intro I2 g2 v2
  refine ⟨_, I2, J, R, rfl, rfl, hR, ?_⟩
  first | refine ⟨fun c => absurd c (by decide), fun _ => ?_⟩ | refine ⟨fun _ => ?_, fun c => absurd c (by decide)⟩
  exact hQ I2 J (sp_cm g2) v2
theorem zm_served (hR : ow_RF R) (h1 : I 70 14 = 0) : sp_rm M_Mo_served (d + 12) [.ref 70] I R (some (.int (-1))) 1 := by
  intro J Q hQ
  apply t_Mo_served hR
  refine c_Mo_good hR ?_
  intro I2 g0 g1 g2
  refine ⟨I2, J, R, rfl, rfl, hR, ?_⟩
  have h2 : I2 70 14 = 0 := by rw [g0 70 (by decide) 14 (by decide)]; exact h1
  first | refine ⟨fun c => absurd h2 c, fun _ => ?_⟩ | refine ⟨fun _ => ?_, fun c => absurd h2 c⟩
  refine c_Mo_no hR ?_
  intro I3 g3 g4
  exact ⟨_, I3, J, R, rfl, rfl, hR, hQ I3 J (sp_fr_tr (sp_mm g0) (sp_mm1 g3)) g4⟩
theorem zc_rounds (hR : ow_RF R) (h1 : I 0 14 = 0) : sp_rc M_Fs_rounds (d + 12) [.ref 0] I R (some (.int (-1))) 1 := by
  intro J Q hQ
  apply t_Fs_rounds hR
  refine z_S (n := 0) hR h1 ?_
  intro I2 g2 v2
  refine ⟨_, I2, J, R, rfl, rfl, hR, ?_⟩
  first | refine ⟨fun c => absurd c (by decide), fun _ => ?_⟩ | refine ⟨fun _ => ?_, fun c => absurd c (by decide)⟩
  exact hQ I2 J (sp_cm g2) v2
theorem zm_rounds (hR : ow_RF R) (h1 : I 70 14 = 0) : sp_rm M_Mo_rounds (d + 12) [.ref 70] I R (some (.int (-1))) 1 := by
  intro J Q hQ
  apply t_Mo_rounds hR
  refine c_Mo_good hR ?_
  intro I2 g0 g1 g2
  refine ⟨I2, J, R, rfl, rfl, hR, ?_⟩
  have h2 : I2 70 14 = 0 := by rw [g0 70 (by decide) 14 (by decide)]; exact h1
  first | refine ⟨fun c => absurd h2 c, fun _ => ?_⟩ | refine ⟨fun _ => ?_, fun c => absurd h2 c⟩
  refine c_Mo_no hR ?_
  intro I3 g3 g4
  exact ⟨_, I3, J, R, rfl, rfl, hR, hQ I3 J (sp_fr_tr (sp_mm g0) (sp_mm1 g3)) g4⟩
theorem zc_idle (hR : ow_RF R) (h1 : I 0 14 = 0) : sp_rc M_Fs_idle (d + 12) [.ref 0] I R (some (.int (-1))) 1 := by
  intro J Q hQ
  apply t_Fs_idle hR
  refine z_S (n := 0) hR h1 ?_
  intro I2 g2 v2
  refine ⟨_, I2, J, R, rfl, rfl, hR, ?_⟩
  first | refine ⟨fun c => absurd c (by decide), fun _ => ?_⟩ | refine ⟨fun _ => ?_, fun c => absurd c (by decide)⟩
  exact hQ I2 J (sp_cm g2) v2
theorem zm_idle (hR : ow_RF R) (h1 : I 70 14 = 0) : sp_rm M_Mo_idle (d + 12) [.ref 70] I R (some (.int (-1))) 1 := by
  intro J Q hQ
  apply t_Mo_idle hR
  refine c_Mo_good hR ?_
  intro I2 g0 g1 g2
  refine ⟨I2, J, R, rfl, rfl, hR, ?_⟩
  have h2 : I2 70 14 = 0 := by rw [g0 70 (by decide) 14 (by decide)]; exact h1
  first | refine ⟨fun c => absurd h2 c, fun _ => ?_⟩ | refine ⟨fun _ => ?_, fun c => absurd h2 c⟩
  refine c_Mo_no hR ?_
  intro I3 g3 g4
  exact ⟨_, I3, J, R, rfl, rfl, hR, hQ I3 J (sp_fr_tr (sp_mm g0) (sp_mm1 g3)) g4⟩
theorem zc_widest (hR : ow_RF R) (h1 : I 0 14 = 0) : sp_rc M_Fs_widest (d + 12) [.ref 0] I R (some (.int (-1))) 1 := by
  intro J Q hQ
  apply t_Fs_widest hR
  refine z_S (n := 0) hR h1 ?_
  intro I2 g2 v2
  refine ⟨_, I2, J, R, rfl, rfl, hR, ?_⟩
  first | refine ⟨fun c => absurd c (by decide), fun _ => ?_⟩ | refine ⟨fun _ => ?_, fun c => absurd c (by decide)⟩
  exact hQ I2 J (sp_cm g2) v2
theorem zm_widest (hR : ow_RF R) (h1 : I 70 14 = 0) : sp_rm M_Mo_widest (d + 12) [.ref 70] I R (some (.int (-1))) 1 := by
  intro J Q hQ
  apply t_Mo_widest hR
  refine c_Mo_good hR ?_
  intro I2 g0 g1 g2
  refine ⟨I2, J, R, rfl, rfl, hR, ?_⟩
  have h2 : I2 70 14 = 0 := by rw [g0 70 (by decide) 14 (by decide)]; exact h1
  first | refine ⟨fun c => absurd h2 c, fun _ => ?_⟩ | refine ⟨fun _ => ?_, fun c => absurd h2 c⟩
  refine c_Mo_no hR ?_
  intro I3 g3 g4
  exact ⟨_, I3, J, R, rfl, rfl, hR, hQ I3 J (sp_fr_tr (sp_mm g0) (sp_mm1 g3)) g4⟩
theorem zc_change (hR : ow_RF R) (h1 : I 0 14 = 0) : sp_rc M_Fs_change (d + 12) [.ref 0] I R (some (.int (-1))) 1 := by
  intro J Q hQ
  apply t_Fs_change hR
  refine z_S (n := 0) hR h1 ?_
  intro I2 g2 v2
  refine ⟨_, I2, J, R, rfl, rfl, hR, ?_⟩
  first | refine ⟨fun c => absurd c (by decide), fun _ => ?_⟩ | refine ⟨fun _ => ?_, fun c => absurd c (by decide)⟩
  exact hQ I2 J (sp_cm g2) v2
theorem zm_change (hR : ow_RF R) (h1 : I 70 14 = 0) : sp_rm M_Mo_change (d + 12) [.ref 70] I R (some (.int (-1))) 1 := by
  intro J Q hQ
  apply t_Mo_change hR
  refine c_Mo_good hR ?_
  intro I2 g0 g1 g2
  refine ⟨I2, J, R, rfl, rfl, hR, ?_⟩
  have h2 : I2 70 14 = 0 := by rw [g0 70 (by decide) 14 (by decide)]; exact h1
  first | refine ⟨fun c => absurd h2 c, fun _ => ?_⟩ | refine ⟨fun _ => ?_, fun c => absurd h2 c⟩
  refine c_Mo_no hR ?_
  intro I3 g3 g4
  exact ⟨_, I3, J, R, rfl, rfl, hR, hQ I3 J (sp_fr_tr (sp_mm g0) (sp_mm1 g3)) g4⟩
theorem zc_changeServes (hR : ow_RF R) (h1 : I 0 14 = 0) : sp_rc M_Fs_changeServes (d + 12) [.ref 0] I R (some (.int (-1))) 1 := by
  intro J Q hQ
  apply t_Fs_changeServes hR
  refine z_S (n := 0) hR h1 ?_
  intro I2 g2 v2
  refine ⟨_, I2, J, R, rfl, rfl, hR, ?_⟩
  first | refine ⟨fun c => absurd c (by decide), fun _ => ?_⟩ | refine ⟨fun _ => ?_, fun c => absurd c (by decide)⟩
  exact hQ I2 J (sp_cm g2) v2
theorem zm_changeServes (hR : ow_RF R) (h1 : I 70 14 = 0) : sp_rm M_Mo_changeServes (d + 12) [.ref 70] I R (some (.int (-1))) 1 := by
  intro J Q hQ
  apply t_Mo_changeServes hR
  refine c_Mo_good hR ?_
  intro I2 g0 g1 g2
  refine ⟨I2, J, R, rfl, rfl, hR, ?_⟩
  have h2 : I2 70 14 = 0 := by rw [g0 70 (by decide) 14 (by decide)]; exact h1
  first | refine ⟨fun c => absurd h2 c, fun _ => ?_⟩ | refine ⟨fun _ => ?_, fun c => absurd h2 c⟩
  refine c_Mo_no hR ?_
  intro I3 g3 g4
  exact ⟨_, I3, J, R, rfl, rfl, hR, hQ I3 J (sp_fr_tr (sp_mm g0) (sp_mm1 g3)) g4⟩
theorem zc_keep (hR : ow_RF R) (h1 : I 0 14 = 0) : sp_rc M_Fs_keep (d + 12) [.ref 0] I R (some (.int (-1))) 1 := by
  intro J Q hQ
  apply t_Fs_keep hR
  refine z_S (n := 0) hR h1 ?_
  intro I2 g2 v2
  refine ⟨_, I2, J, R, rfl, rfl, hR, ?_⟩
  first | refine ⟨fun c => absurd c (by decide), fun _ => ?_⟩ | refine ⟨fun _ => ?_, fun c => absurd c (by decide)⟩
  exact hQ I2 J (sp_cm g2) v2
theorem zm_keep (hR : ow_RF R) (h1 : I 70 14 = 0) : sp_rm M_Mo_keep (d + 12) [.ref 70] I R (some (.int (-1))) 1 := by
  intro J Q hQ
  apply t_Mo_keep hR
  refine c_Mo_good hR ?_
  intro I2 g0 g1 g2
  refine ⟨I2, J, R, rfl, rfl, hR, ?_⟩
  have h2 : I2 70 14 = 0 := by rw [g0 70 (by decide) 14 (by decide)]; exact h1
  first | refine ⟨fun c => absurd h2 c, fun _ => ?_⟩ | refine ⟨fun _ => ?_, fun c => absurd h2 c⟩
  refine c_Mo_no hR ?_
  intro I3 g3 g4
  exact ⟨_, I3, J, R, rfl, rfl, hR, hQ I3 J (sp_fr_tr (sp_mm g0) (sp_mm1 g3)) g4⟩
theorem zc_pillar (hR : ow_RF R) (h1 : I 0 14 = 0) : sp_rc M_Fs_pillar (d + 12) [.ref 0] I R (some (.int (-1))) 1 := by
  intro J Q hQ
  apply t_Fs_pillar hR
  refine z_S (n := 0) hR h1 ?_
  intro I2 g2 v2
  refine ⟨_, I2, J, R, rfl, rfl, hR, ?_⟩
  first | refine ⟨fun c => absurd c (by decide), fun _ => ?_⟩ | refine ⟨fun _ => ?_, fun c => absurd c (by decide)⟩
  exact hQ I2 J (sp_cm g2) v2
theorem zm_pillar (hR : ow_RF R) (h1 : I 70 14 = 0) : sp_rm M_Mo_pillar (d + 12) [.ref 70] I R (some (.int (-1))) 1 := by
  intro J Q hQ
  apply t_Mo_pillar hR
  refine c_Mo_good hR ?_
  intro I2 g0 g1 g2
  refine ⟨I2, J, R, rfl, rfl, hR, ?_⟩
  have h2 : I2 70 14 = 0 := by rw [g0 70 (by decide) 14 (by decide)]; exact h1
  first | refine ⟨fun c => absurd h2 c, fun _ => ?_⟩ | refine ⟨fun _ => ?_, fun c => absurd h2 c⟩
  refine c_Mo_no hR ?_
  intro I3 g3 g4
  exact ⟨_, I3, J, R, rfl, rfl, hR, hQ I3 J (sp_fr_tr (sp_mm g0) (sp_mm1 g3)) g4⟩
theorem zc_fits (hR : ow_RF R) (h1 : I 0 14 = 0) : sp_rc M_Fs_fits (d + 12) [.ref 0] I R (some (.int (-1))) 1 := by
  intro J Q hQ
  apply t_Fs_fits hR
  refine z_S (n := 0) hR h1 ?_
  intro I2 g2 v2
  refine ⟨_, I2, J, R, rfl, rfl, hR, ?_⟩
  first | refine ⟨fun c => absurd c (by decide), fun _ => ?_⟩ | refine ⟨fun _ => ?_, fun c => absurd c (by decide)⟩
  exact hQ I2 J (sp_cm g2) v2
theorem zm_fits (hR : ow_RF R) (h1 : I 70 14 = 0) : sp_rm M_Mo_fits (d + 12) [.ref 70] I R (some (.int (-1))) 1 := by
  intro J Q hQ
  apply t_Mo_fits hR
  refine c_Mo_good hR ?_
  intro I2 g0 g1 g2
  refine ⟨I2, J, R, rfl, rfl, hR, ?_⟩
  have h2 : I2 70 14 = 0 := by rw [g0 70 (by decide) 14 (by decide)]; exact h1
  first | refine ⟨fun c => absurd h2 c, fun _ => ?_⟩ | refine ⟨fun _ => ?_, fun c => absurd h2 c⟩
  refine c_Mo_no hR ?_
  intro I3 g3 g4
  exact ⟨_, I3, J, R, rfl, rfl, hR, hQ I3 J (sp_fr_tr (sp_mm g0) (sp_mm1 g3)) g4⟩
theorem zc_tryLetter (hR : ow_RF R) (h1 : I 0 14 = 0) : sp_rc M_Fs_tryLetter (d + 12) [.ref 0] I R (some (.int (-1))) 1 := by
  intro J Q hQ
  apply t_Fs_tryLetter hR
  refine z_S (n := 0) hR h1 ?_
  intro I2 g2 v2
  refine ⟨_, I2, J, R, rfl, rfl, hR, ?_⟩
  first | refine ⟨fun c => absurd c (by decide), fun _ => ?_⟩ | refine ⟨fun _ => ?_, fun c => absurd c (by decide)⟩
  exact hQ I2 J (sp_cm g2) v2
theorem zm_tryLetter (hR : ow_RF R) (h1 : I 70 14 = 0) : sp_rm M_Mo_tryLetter (d + 12) [.ref 70] I R (some (.int (-1))) 1 := by
  intro J Q hQ
  apply t_Mo_tryLetter hR
  refine c_Mo_good hR ?_
  intro I2 g0 g1 g2
  refine ⟨I2, J, R, rfl, rfl, hR, ?_⟩
  have h2 : I2 70 14 = 0 := by rw [g0 70 (by decide) 14 (by decide)]; exact h1
  first | refine ⟨fun c => absurd h2 c, fun _ => ?_⟩ | refine ⟨fun _ => ?_, fun c => absurd h2 c⟩
  refine c_Mo_no hR ?_
  intro I3 g3 g4
  exact ⟨_, I3, J, R, rfl, rfl, hR, hQ I3 J (sp_fr_tr (sp_mm g0) (sp_mm1 g3)) g4⟩
theorem zc_tryLeaves (hR : ow_RF R) (h1 : I 0 14 = 0) : sp_rc M_Fs_tryLeaves (d + 12) [.ref 0] I R (some (.int (-1))) 1 := by
  intro J Q hQ
  apply t_Fs_tryLeaves hR
  refine z_S (n := 0) hR h1 ?_
  intro I2 g2 v2
  refine ⟨_, I2, J, R, rfl, rfl, hR, ?_⟩
  first | refine ⟨fun c => absurd c (by decide), fun _ => ?_⟩ | refine ⟨fun _ => ?_, fun c => absurd c (by decide)⟩
  exact hQ I2 J (sp_cm g2) v2
theorem zm_tryLeaves (hR : ow_RF R) (h1 : I 70 14 = 0) : sp_rm M_Mo_tryLeaves (d + 12) [.ref 70] I R (some (.int (-1))) 1 := by
  intro J Q hQ
  apply t_Mo_tryLeaves hR
  refine c_Mo_good hR ?_
  intro I2 g0 g1 g2
  refine ⟨I2, J, R, rfl, rfl, hR, ?_⟩
  have h2 : I2 70 14 = 0 := by rw [g0 70 (by decide) 14 (by decide)]; exact h1
  first | refine ⟨fun c => absurd h2 c, fun _ => ?_⟩ | refine ⟨fun _ => ?_, fun c => absurd h2 c⟩
  refine c_Mo_no hR ?_
  intro I3 g3 g4
  exact ⟨_, I3, J, R, rfl, rfl, hR, hQ I3 J (sp_fr_tr (sp_mm g0) (sp_mm1 g3)) g4⟩
theorem zc_judge (hR : ow_RF R) (h1 : I 0 14 = 0) : sp_rc M_Fs_judge (d + 12) [.ref 0] I R (some (.int (-1))) 1 := by
  intro J Q hQ
  apply t_Fs_judge hR
  refine z_S (n := 0) hR h1 ?_
  intro I2 g2 v2
  refine ⟨_, I2, J, R, rfl, rfl, hR, ?_⟩
  first | refine ⟨fun c => absurd c (by decide), fun _ => ?_⟩ | refine ⟨fun _ => ?_, fun c => absurd c (by decide)⟩
  exact hQ I2 J (sp_cm g2) v2
theorem zm_judge (hR : ow_RF R) (h1 : I 70 14 = 0) : sp_rm M_Mo_judge (d + 12) [.ref 70] I R (some (.int (-1))) 1 := by
  intro J Q hQ
  apply t_Mo_judge hR
  refine c_Mo_good hR ?_
  intro I2 g0 g1 g2
  refine ⟨I2, J, R, rfl, rfl, hR, ?_⟩
  have h2 : I2 70 14 = 0 := by rw [g0 70 (by decide) 14 (by decide)]; exact h1
  first | refine ⟨fun c => absurd h2 c, fun _ => ?_⟩ | refine ⟨fun _ => ?_, fun c => absurd h2 c⟩
  refine c_Mo_no hR ?_
  intro I3 g3 g4
  exact ⟨_, I3, J, R, rfl, rfl, hR, hQ I3 J (sp_fr_tr (sp_mm g0) (sp_mm1 g3)) g4⟩
theorem zc_rule (hR : ow_RF R) (h1 : I 0 14 = 0) : sp_rc M_Fs_rule (d + 12) [.ref 0] I R (some (.int (-1))) 1 := by
  intro J Q hQ
  apply t_Fs_rule hR
  refine z_S (n := 0) hR h1 ?_
  intro I2 g2 v2
  refine ⟨_, I2, J, R, rfl, rfl, hR, ?_⟩
  first | refine ⟨fun c => absurd c (by decide), fun _ => ?_⟩ | refine ⟨fun _ => ?_, fun c => absurd c (by decide)⟩
  exact hQ I2 J (sp_cm g2) v2
theorem zm_rule (hR : ow_RF R) (h1 : I 70 14 = 0) : sp_rm M_Mo_rule (d + 12) [.ref 70] I R (some (.int (-1))) 1 := by
  intro J Q hQ
  apply t_Mo_rule hR
  refine c_Mo_good hR ?_
  intro I2 g0 g1 g2
  refine ⟨I2, J, R, rfl, rfl, hR, ?_⟩
  have h2 : I2 70 14 = 0 := by rw [g0 70 (by decide) 14 (by decide)]; exact h1
  first | refine ⟨fun c => absurd h2 c, fun _ => ?_⟩ | refine ⟨fun _ => ?_, fun c => absurd h2 c⟩
  refine c_Mo_no hR ?_
  intro I3 g3 g4
  exact ⟨_, I3, J, R, rfl, rfl, hR, hQ I3 J (sp_fr_tr (sp_mm g0) (sp_mm1 g3)) g4⟩
theorem zc_year (hR : ow_RF R) (h1 : I 0 14 = 0) : sp_rc M_Fs_year (d + 12) [.ref 0] I R (some (.int (-1))) 1 := by
  intro J Q hQ
  apply t_Fs_year hR
  refine z_S (n := 0) hR h1 ?_
  intro I2 g2 v2
  refine ⟨_, I2, J, R, rfl, rfl, hR, ?_⟩
  first | refine ⟨fun c => absurd c (by decide), fun _ => ?_⟩ | refine ⟨fun _ => ?_, fun c => absurd c (by decide)⟩
  exact hQ I2 J (sp_cm g2) v2
theorem zm_year (hR : ow_RF R) (h1 : I 70 14 = 0) : sp_rm M_Mo_year (d + 12) [.ref 70] I R (some (.int (-1))) 1 := by
  intro J Q hQ
  apply t_Mo_year hR
  refine c_Mo_good hR ?_
  intro I2 g0 g1 g2
  refine ⟨I2, J, R, rfl, rfl, hR, ?_⟩
  have h2 : I2 70 14 = 0 := by rw [g0 70 (by decide) 14 (by decide)]; exact h1
  first | refine ⟨fun c => absurd h2 c, fun _ => ?_⟩ | refine ⟨fun _ => ?_, fun c => absurd h2 c⟩
  refine c_Mo_no hR ?_
  intro I3 g3 g4
  exact ⟨_, I3, J, R, rfl, rfl, hR, hQ I3 J (sp_fr_tr (sp_mm g0) (sp_mm1 g3)) g4⟩
theorem zc_image (hR : ow_RF R) (h1 : I 0 14 = 0) : sp_rc M_Fs_image (d + 12) [.ref 0] I R (some (.int (-1))) 1 := by
  intro J Q hQ
  apply t_Fs_image hR
  refine z_S (n := 0) hR h1 ?_
  intro I2 g2 v2
  refine ⟨_, I2, J, R, rfl, rfl, hR, ?_⟩
  first | refine ⟨fun c => absurd c (by decide), fun _ => ?_⟩ | refine ⟨fun _ => ?_, fun c => absurd c (by decide)⟩
  exact hQ I2 J (sp_cm g2) v2
theorem zm_image (hR : ow_RF R) (h1 : I 70 14 = 0) : sp_rm M_Mo_image (d + 12) [.ref 70] I R (some (.int (-1))) 1 := by
  intro J Q hQ
  apply t_Mo_image hR
  refine c_Mo_good hR ?_
  intro I2 g0 g1 g2
  refine ⟨I2, J, R, rfl, rfl, hR, ?_⟩
  have h2 : I2 70 14 = 0 := by rw [g0 70 (by decide) 14 (by decide)]; exact h1
  first | refine ⟨fun c => absurd h2 c, fun _ => ?_⟩ | refine ⟨fun _ => ?_, fun c => absurd h2 c⟩
  refine c_Mo_no hR ?_
  intro I3 g3 g4
  exact ⟨_, I3, J, R, rfl, rfl, hR, hQ I3 J (sp_fr_tr (sp_mm g0) (sp_mm1 g3)) g4⟩
theorem zc_serves {x : Int32} (hR : ow_RF R) (h1 : I 0 14 = 0) : sp_rc M_Fs_serves (d + 12) [.ref 0, .int x] I R (some (.int (-1))) 1 := by
  intro J Q hQ
  apply t_Fs_serves hR
  refine z_E hR h1 ?_
  intro I2 g2 v2
  refine ⟨_, I2, J, R, rfl, rfl, hR, ?_⟩
  first | refine ⟨fun c => absurd c (by decide), fun _ => ?_⟩ | refine ⟨fun _ => ?_, fun c => absurd c (by decide)⟩
  exact hQ I2 J (sp_cm g2) v2
theorem zm_serves {x : Int32} (hR : ow_RF R) (h1 : I 70 14 = 0) : sp_rm M_Mo_serves (d + 12) [.ref 70, .int x] I R (some (.int (-1))) 1 := by
  intro J Q hQ
  apply t_Mo_serves hR
  refine c_Mo_good hR ?_
  intro I2 g0 g1 g2
  refine ⟨I2, J, R, rfl, rfl, hR, ?_⟩
  have h2 : I2 70 14 = 0 := by rw [g0 70 (by decide) 14 (by decide)]; exact h1
  refine z_mE hR h2 ?_
  refine ⟨_, I2, J, R, rfl, rfl, hR, ?_⟩
  first | refine ⟨fun c => absurd rfl c, fun _ => ?_⟩ | refine ⟨fun _ => ?_, fun c => absurd rfl c⟩
  refine c_Mo_no hR ?_
  intro I3 g3 g4
  exact ⟨_, I3, J, R, rfl, rfl, hR, hQ I3 J (sp_fr_tr (sp_mm g0) (sp_mm1 g3)) g4⟩
theorem zc_best {x : Int32} (hR : ow_RF R) (h1 : I 0 14 = 0) : sp_rc M_Fs_best (d + 12) [.ref 0, .int x] I R (some (.int (-1))) 1 := by
  intro J Q hQ
  apply t_Fs_best hR
  refine z_E hR h1 ?_
  intro I2 g2 v2
  refine ⟨_, I2, J, R, rfl, rfl, hR, ?_⟩
  first | refine ⟨fun c => absurd c (by decide), fun _ => ?_⟩ | refine ⟨fun _ => ?_, fun c => absurd c (by decide)⟩
  exact hQ I2 J (sp_cm g2) v2
theorem zm_best {x : Int32} (hR : ow_RF R) (h1 : I 70 14 = 0) : sp_rm M_Mo_best (d + 12) [.ref 70, .int x] I R (some (.int (-1))) 1 := by
  intro J Q hQ
  apply t_Mo_best hR
  refine c_Mo_good hR ?_
  intro I2 g0 g1 g2
  refine ⟨I2, J, R, rfl, rfl, hR, ?_⟩
  have h2 : I2 70 14 = 0 := by rw [g0 70 (by decide) 14 (by decide)]; exact h1
  refine z_mE hR h2 ?_
  refine ⟨_, I2, J, R, rfl, rfl, hR, ?_⟩
  first | refine ⟨fun c => absurd rfl c, fun _ => ?_⟩ | refine ⟨fun _ => ?_, fun c => absurd rfl c⟩
  refine c_Mo_no hR ?_
  intro I3 g3 g4
  exact ⟨_, I3, J, R, rfl, rfl, hR, hQ I3 J (sp_fr_tr (sp_mm g0) (sp_mm1 g3)) g4⟩
theorem zc_shortest {x : Int32} (hR : ow_RF R) (h1 : I 0 14 = 0) : sp_rc M_Fs_shortest (d + 12) [.ref 0, .int x] I R (some (.int (-1))) 1 := by
  intro J Q hQ
  apply t_Fs_shortest hR
  refine z_E hR h1 ?_
  intro I2 g2 v2
  refine ⟨_, I2, J, R, rfl, rfl, hR, ?_⟩
  first | refine ⟨fun c => absurd c (by decide), fun _ => ?_⟩ | refine ⟨fun _ => ?_, fun c => absurd c (by decide)⟩
  exact hQ I2 J (sp_cm g2) v2
theorem zm_shortest {x : Int32} (hR : ow_RF R) (h1 : I 70 14 = 0) : sp_rm M_Mo_shortest (d + 12) [.ref 70, .int x] I R (some (.int (-1))) 1 := by
  intro J Q hQ
  apply t_Mo_shortest hR
  refine c_Mo_good hR ?_
  intro I2 g0 g1 g2
  refine ⟨I2, J, R, rfl, rfl, hR, ?_⟩
  have h2 : I2 70 14 = 0 := by rw [g0 70 (by decide) 14 (by decide)]; exact h1
  refine z_mE hR h2 ?_
  refine ⟨_, I2, J, R, rfl, rfl, hR, ?_⟩
  first | refine ⟨fun c => absurd rfl c, fun _ => ?_⟩ | refine ⟨fun _ => ?_, fun c => absurd rfl c⟩
  refine c_Mo_no hR ?_
  intro I3 g3 g4
  exact ⟨_, I3, J, R, rfl, rfl, hR, hQ I3 J (sp_fr_tr (sp_mm g0) (sp_mm1 g3)) g4⟩
theorem zc_firstServed {x : Int32} (hR : ow_RF R) (h1 : I 0 14 = 0) : sp_rc M_Fs_firstServed (d + 12) [.ref 0, .int x] I R (some (.int (-1))) 1 := by
  intro J Q hQ
  apply t_Fs_firstServed hR
  refine z_E hR h1 ?_
  intro I2 g2 v2
  refine ⟨_, I2, J, R, rfl, rfl, hR, ?_⟩
  first | refine ⟨fun c => absurd c (by decide), fun _ => ?_⟩ | refine ⟨fun _ => ?_, fun c => absurd c (by decide)⟩
  exact hQ I2 J (sp_cm g2) v2
theorem zm_firstServed {x : Int32} (hR : ow_RF R) (h1 : I 70 14 = 0) : sp_rm M_Mo_firstServed (d + 12) [.ref 70, .int x] I R (some (.int (-1))) 1 := by
  intro J Q hQ
  apply t_Mo_firstServed hR
  refine c_Mo_good hR ?_
  intro I2 g0 g1 g2
  refine ⟨I2, J, R, rfl, rfl, hR, ?_⟩
  have h2 : I2 70 14 = 0 := by rw [g0 70 (by decide) 14 (by decide)]; exact h1
  refine z_mE hR h2 ?_
  refine ⟨_, I2, J, R, rfl, rfl, hR, ?_⟩
  first | refine ⟨fun c => absurd rfl c, fun _ => ?_⟩ | refine ⟨fun _ => ?_, fun c => absurd rfl c⟩
  refine c_Mo_no hR ?_
  intro I3 g3 g4
  exact ⟨_, I3, J, R, rfl, rfl, hR, hQ I3 J (sp_fr_tr (sp_mm g0) (sp_mm1 g3)) g4⟩
theorem zc_lastServed {x : Int32} (hR : ow_RF R) (h1 : I 0 14 = 0) : sp_rc M_Fs_lastServed (d + 12) [.ref 0, .int x] I R (some (.int (-1))) 1 := by
  intro J Q hQ
  apply t_Fs_lastServed hR
  refine z_E hR h1 ?_
  intro I2 g2 v2
  refine ⟨_, I2, J, R, rfl, rfl, hR, ?_⟩
  first | refine ⟨fun c => absurd c (by decide), fun _ => ?_⟩ | refine ⟨fun _ => ?_, fun c => absurd c (by decide)⟩
  exact hQ I2 J (sp_cm g2) v2
theorem zm_lastServed {x : Int32} (hR : ow_RF R) (h1 : I 70 14 = 0) : sp_rm M_Mo_lastServed (d + 12) [.ref 70, .int x] I R (some (.int (-1))) 1 := by
  intro J Q hQ
  apply t_Mo_lastServed hR
  refine c_Mo_good hR ?_
  intro I2 g0 g1 g2
  refine ⟨I2, J, R, rfl, rfl, hR, ?_⟩
  have h2 : I2 70 14 = 0 := by rw [g0 70 (by decide) 14 (by decide)]; exact h1
  refine z_mE hR h2 ?_
  refine ⟨_, I2, J, R, rfl, rfl, hR, ?_⟩
  first | refine ⟨fun c => absurd rfl c, fun _ => ?_⟩ | refine ⟨fun _ => ?_, fun c => absurd rfl c⟩
  refine c_Mo_no hR ?_
  intro I3 g3 g4
  exact ⟨_, I3, J, R, rfl, rfl, hR, hQ I3 J (sp_fr_tr (sp_mm g0) (sp_mm1 g3)) g4⟩
theorem zc_servedIf {x : Int32} {y : Int32} (hR : ow_RF R) (h1 : I 0 14 = 0) : sp_rc M_Fs_servedIf (d + 12) [.ref 0, .int x, .int y] I R (some (.int (-1))) 1 := by
  intro J Q hQ
  apply t_Fs_servedIf hR
  refine z_F hR h1 ?_
  intro I2 g2 v2
  refine ⟨_, I2, J, R, rfl, rfl, hR, ?_⟩
  first | refine ⟨fun c => absurd c (by decide), fun _ => ?_⟩ | refine ⟨fun _ => ?_, fun c => absurd c (by decide)⟩
  exact hQ I2 J (sp_cm g2) v2
theorem zm_servedIf {x : Int32} {y : Int32} (hR : ow_RF R) (h1 : I 70 14 = 0) : sp_rm M_Mo_servedIf (d + 12) [.ref 70, .int x, .int y] I R (some (.int (-1))) 1 := by
  intro J Q hQ
  apply t_Mo_servedIf hR
  refine c_Mo_good hR ?_
  intro I2 g0 g1 g2
  refine ⟨I2, J, R, rfl, rfl, hR, ?_⟩
  have h2 : I2 70 14 = 0 := by rw [g0 70 (by decide) 14 (by decide)]; exact h1
  refine z_mF hR h2 ?_
  refine ⟨_, I2, J, R, rfl, rfl, hR, ?_⟩
  first | refine ⟨fun c => absurd rfl c, fun _ => ?_⟩ | refine ⟨fun _ => ?_, fun c => absurd rfl c⟩
  refine c_Mo_no hR ?_
  intro I3 g3 g4
  exact ⟨_, I3, J, R, rfl, rfl, hR, hQ I3 J (sp_fr_tr (sp_mm g0) (sp_mm1 g3)) g4⟩
theorem zc_signsIn {x : Int32} {y : Int32} {z : Int32} (hR : ow_RF R) (h1 : I 0 14 = 0) : sp_rc M_Fs_signsIn (d + 12) [.ref 0, .int x, .int y, .int z] I R (some (.int (-1))) 1 := by
  intro J Q hQ
  apply t_Fs_signsIn hR
  refine z_F hR h1 ?_
  intro I2 g2 v2
  refine ⟨_, I2, J, R, rfl, rfl, hR, ?_⟩
  first | refine ⟨fun c => absurd c (by decide), fun _ => ?_⟩ | refine ⟨fun _ => ?_, fun c => absurd c (by decide)⟩
  exact hQ I2 J (sp_cm g2) v2
theorem zm_signsIn {x : Int32} {y : Int32} {z : Int32} (hR : ow_RF R) (h1 : I 70 14 = 0) : sp_rm M_Mo_signsIn (d + 12) [.ref 70, .int x, .int y, .int z] I R (some (.int (-1))) 1 := by
  intro J Q hQ
  apply t_Mo_signsIn hR
  refine c_Mo_good hR ?_
  intro I2 g0 g1 g2
  refine ⟨I2, J, R, rfl, rfl, hR, ?_⟩
  have h2 : I2 70 14 = 0 := by rw [g0 70 (by decide) 14 (by decide)]; exact h1
  refine z_mF hR h2 ?_
  refine ⟨_, I2, J, R, rfl, rfl, hR, ?_⟩
  refine c_Mo_inG (a := 0) (b := 60) hR (by decide) (by decide) ⟨_, I2, J, R, rfl, rfl, hR, ?_⟩
  refine z_why hR ⟨_, I2, J, R, rfl, rfl, hR, ?_⟩
  first | refine ⟨fun c => absurd c (by decide), fun _ => ?_⟩ | refine ⟨fun _ => ?_, fun c => absurd c (by decide)⟩
  refine c_Mo_no hR ?_
  intro I3 g3 g4
  exact ⟨_, I3, J, R, rfl, rfl, hR, hQ I3 J (sp_fr_tr (sp_mm g0) (sp_mm1 g3)) g4⟩
theorem zc_servedIn {x : Int32} (hR : ow_RF R) (h1 : I 0 14 = 0) : sp_rc M_Fs_servedIn (d + 12) [.ref 0, .int x] I R (some (.int (-1))) 1 := by
  intro J Q hQ
  apply t_Fs_servedIn hR
  refine z_S (n := 0) hR h1 ?_
  intro I2 g2 v2
  refine ⟨_, I2, J, R, rfl, rfl, hR, ?_⟩
  first | refine ⟨fun c => absurd c (by decide), fun _ => ?_⟩ | refine ⟨fun _ => ?_, fun c => absurd c (by decide)⟩
  exact hQ I2 J (sp_cm g2) v2
theorem zm_servedIn {x : Int32} (hR : ow_RF R) (h1 : I 70 14 = 0) : sp_rm M_Mo_servedIn (d + 12) [.ref 70, .int x] I R (some (.int (-1))) 1 := by
  intro J Q hQ
  apply t_Mo_servedIn hR
  refine c_Mo_good hR ?_
  intro I2 g0 g1 g2
  refine ⟨I2, J, R, rfl, rfl, hR, ?_⟩
  have h2 : I2 70 14 = 0 := by rw [g0 70 (by decide) 14 (by decide)]; exact h1
  refine c_Mo_inG (a := 0) (b := 60) hR (by decide) (by decide) ⟨_, I2, J, R, rfl, rfl, hR, ?_⟩
  rw [h2]
  refine z_why hR ⟨_, I2, J, R, rfl, rfl, hR, ?_⟩
  first | refine ⟨fun c => absurd c (by decide), fun _ => ?_⟩ | refine ⟨fun _ => ?_, fun c => absurd c (by decide)⟩
  refine c_Mo_no hR ?_
  intro I3 g3 g4
  exact ⟨_, I3, J, R, rfl, rfl, hR, hQ I3 J (sp_fr_tr (sp_mm g0) (sp_mm1 g3)) g4⟩
theorem zc_plan {x : Int32} (hR : ow_RF R) (h1 : I 0 14 = 0) : sp_rc M_Fs_plan (d + 12) [.ref 0, .int x] I R (some (.int (-1))) 1 := by
  intro J Q hQ
  apply t_Fs_plan hR
  refine z_S (n := 0) hR h1 ?_
  intro I2 g2 v2
  refine ⟨_, I2, J, R, rfl, rfl, hR, ?_⟩
  first | refine ⟨fun c => absurd c (by decide), fun _ => ?_⟩ | refine ⟨fun _ => ?_, fun c => absurd c (by decide)⟩
  exact hQ I2 J (sp_cm g2) v2
theorem zm_plan {x : Int32} (hR : ow_RF R) (h1 : I 70 14 = 0) : sp_rm M_Mo_plan (d + 12) [.ref 70, .int x] I R (some (.int (-1))) 1 := by
  intro J Q hQ
  apply t_Mo_plan hR
  refine c_Mo_good hR ?_
  intro I2 g0 g1 g2
  refine ⟨I2, J, R, rfl, rfl, hR, ?_⟩
  have h2 : I2 70 14 = 0 := by rw [g0 70 (by decide) 14 (by decide)]; exact h1
  refine c_Mo_inG (a := 1) (b := 4) hR (by decide) (by decide) ⟨_, I2, J, R, rfl, rfl, hR, ?_⟩
  rw [h2]
  refine z_why hR ⟨_, I2, J, R, rfl, rfl, hR, ?_⟩
  first | refine ⟨fun c => absurd c (by decide), fun _ => ?_⟩ | refine ⟨fun _ => ?_, fun c => absurd c (by decide)⟩
  refine c_Mo_no hR ?_
  intro I3 g3 g4
  exact ⟨_, I3, J, R, rfl, rfl, hR, hQ I3 J (sp_fr_tr (sp_mm g0) (sp_mm1 g3)) g4⟩
theorem zc_planServes {x : Int32} (hR : ow_RF R) (h1 : I 0 14 = 0) : sp_rc M_Fs_planServes (d + 12) [.ref 0, .int x] I R (some (.int (-1))) 1 := by
  intro J Q hQ
  apply t_Fs_planServes hR
  refine z_S (n := 0) hR h1 ?_
  intro I2 g2 v2
  refine ⟨_, I2, J, R, rfl, rfl, hR, ?_⟩
  first | refine ⟨fun c => absurd c (by decide), fun _ => ?_⟩ | refine ⟨fun _ => ?_, fun c => absurd c (by decide)⟩
  exact hQ I2 J (sp_cm g2) v2
theorem zm_planServes {x : Int32} (hR : ow_RF R) (h1 : I 70 14 = 0) : sp_rm M_Mo_planServes (d + 12) [.ref 70, .int x] I R (some (.int (-1))) 1 := by
  intro J Q hQ
  apply t_Mo_planServes hR
  refine c_Mo_good hR ?_
  intro I2 g0 g1 g2
  refine ⟨I2, J, R, rfl, rfl, hR, ?_⟩
  have h2 : I2 70 14 = 0 := by rw [g0 70 (by decide) 14 (by decide)]; exact h1
  refine c_Mo_inG (a := 1) (b := 4) hR (by decide) (by decide) ⟨_, I2, J, R, rfl, rfl, hR, ?_⟩
  rw [h2]
  refine z_why hR ⟨_, I2, J, R, rfl, rfl, hR, ?_⟩
  first | refine ⟨fun c => absurd c (by decide), fun _ => ?_⟩ | refine ⟨fun _ => ?_, fun c => absurd c (by decide)⟩
  refine c_Mo_no hR ?_
  intro I3 g3 g4
  exact ⟨_, I3, J, R, rfl, rfl, hR, hQ I3 J (sp_fr_tr (sp_mm g0) (sp_mm1 g3)) g4⟩
theorem zc_fitAt {x : Int32} {y : Int32} (hR : ow_RF R) (h1 : I 0 14 = 0) : sp_rc M_Fs_fitAt (d + 12) [.ref 0, .int x, .int y] I R (some (.int (-1))) 1 := by
  intro J Q hQ
  apply t_Fs_fitAt hR
  refine z_S (n := 0) hR h1 ?_
  intro I2 g2 v2
  refine ⟨_, I2, J, R, rfl, rfl, hR, ?_⟩
  first | refine ⟨fun c => absurd c (by decide), fun _ => ?_⟩ | refine ⟨fun _ => ?_, fun c => absurd c (by decide)⟩
  exact hQ I2 J (sp_cm g2) v2
theorem zm_fitAt {x : Int32} {y : Int32} (hR : ow_RF R) (h1 : I 70 14 = 0) : sp_rm M_Mo_fitAt (d + 12) [.ref 70, .int x, .int y] I R (some (.int (-1))) 1 := by
  intro J Q hQ
  apply t_Mo_fitAt hR
  refine c_Mo_good hR ?_
  intro I2 g0 g1 g2
  refine ⟨I2, J, R, rfl, rfl, hR, ?_⟩
  have h2 : I2 70 14 = 0 := by rw [g0 70 (by decide) 14 (by decide)]; exact h1
  refine z_mV hR h2 ?_
  refine ⟨_, I2, J, R, rfl, rfl, hR, ?_⟩
  first | refine ⟨fun c => absurd rfl c, fun _ => ?_⟩ | refine ⟨fun _ => ?_, fun c => absurd rfl c⟩
  refine c_Mo_no hR ?_
  intro I3 g3 g4
  exact ⟨_, I3, J, R, rfl, rfl, hR, hQ I3 J (sp_fr_tr (sp_mm g0) (sp_mm1 g3)) g4⟩
theorem zc_shapedBy {x : Int32} {y : Int32} (hR : ow_RF R) (h1 : I 0 14 = 0) : sp_rc M_Fs_shapedBy (d + 12) [.ref 0, .int x, .int y] I R (some (.int (-1))) 1 := by
  intro J Q hQ
  apply t_Fs_shapedBy hR
  refine z_S (n := 0) hR h1 ?_
  intro I2 g2 v2
  refine ⟨_, I2, J, R, rfl, rfl, hR, ?_⟩
  first | refine ⟨fun c => absurd c (by decide), fun _ => ?_⟩ | refine ⟨fun _ => ?_, fun c => absurd c (by decide)⟩
  exact hQ I2 J (sp_cm g2) v2
theorem zm_shapedBy {x : Int32} {y : Int32} (hR : ow_RF R) (h1 : I 70 14 = 0) : sp_rm M_Mo_shapedBy (d + 12) [.ref 70, .int x, .int y] I R (some (.int (-1))) 1 := by
  intro J Q hQ
  apply t_Mo_shapedBy hR
  refine c_Mo_good hR ?_
  intro I2 g0 g1 g2
  refine ⟨I2, J, R, rfl, rfl, hR, ?_⟩
  have h2 : I2 70 14 = 0 := by rw [g0 70 (by decide) 14 (by decide)]; exact h1
  refine z_mV hR h2 ?_
  refine ⟨_, I2, J, R, rfl, rfl, hR, ?_⟩
  refine c_Mo_inG (a := 0) (b := 4) hR (by decide) (by decide) ⟨_, I2, J, R, rfl, rfl, hR, ?_⟩
  refine z_why hR ⟨_, I2, J, R, rfl, rfl, hR, ?_⟩
  first | refine ⟨fun c => absurd c (by decide), fun _ => ?_⟩ | refine ⟨fun _ => ?_, fun c => absurd c (by decide)⟩
  refine c_Mo_no hR ?_
  intro I3 g3 g4
  exact ⟨_, I3, J, R, rfl, rfl, hR, hQ I3 J (sp_fr_tr (sp_mm g0) (sp_mm1 g3)) g4⟩
theorem zc_power {x : Int32} {y : Int32} (hR : ow_RF R) (h1 : I 0 14 = 0) : sp_rc M_Fs_power (d + 12) [.ref 0, .int x, .int y] I R (some (.long (-1))) 1 := by
  intro J Q hQ
  apply t_Fs_power hR
  refine z_E hR h1 ?_
  intro I2 g2 v2
  refine ⟨_, I2, J, R, rfl, rfl, hR, ?_⟩
  first | refine ⟨fun c => absurd c (by decide), fun _ => ?_⟩ | refine ⟨fun _ => ?_, fun c => absurd c (by decide)⟩
  exact hQ I2 J (sp_cm g2) v2
theorem zm_power {x : Int32} {y : Int32} (hR : ow_RF R) (h1 : I 70 14 = 0) : sp_rm M_Mo_power (d + 12) [.ref 70, .int x, .int y] I R (some (.long (-1))) 1 := by
  intro J Q hQ
  apply t_Mo_power hR
  refine c_Mo_good hR ?_
  intro I2 g0 g1 g2
  refine ⟨I2, J, R, rfl, rfl, hR, ?_⟩
  have h2 : I2 70 14 = 0 := by rw [g0 70 (by decide) 14 (by decide)]; exact h1
  refine z_mE hR h2 ?_
  refine ⟨_, I2, J, R, rfl, rfl, hR, ?_⟩
  first | refine ⟨fun c => absurd rfl c, fun _ => ?_⟩ | refine ⟨fun _ => ?_, fun c => absurd rfl c⟩
  refine c_Mo_no hR ?_
  intro I3 g3 g4
  exact ⟨_, I3, J, R, rfl, rfl, hR, hQ I3 J (sp_fr_tr (sp_mm g0) (sp_mm1 g3)) g4⟩
theorem zc_sues {x : Int32} {y : Int32} {z : Int32} {u : Int32} (hR : ow_RF R) (h1 : I 0 14 = 0) : sp_rc M_Fs_sues (d + 12) [.ref 0, .int x, .int y, .int z, .int u] I R (some (.int (-100))) 1 := by
  intro J Q hQ
  apply t_Fs_sues hR
  refine z_S (n := 0) hR h1 ?_
  intro I2 g2 v2
  refine ⟨_, I2, J, R, rfl, rfl, hR, ?_⟩
  first | refine ⟨fun c => absurd c (by decide), fun _ => ?_⟩ | refine ⟨fun _ => ?_, fun c => absurd c (by decide)⟩
  exact hQ I2 J (sp_cm g2) v2
theorem zm_sues {x : Int32} {y : Int32} {z : Int32} {u : Int32} (hR : ow_RF R) (h1 : I 70 14 = 0) : sp_rm M_Mo_sues (d + 12) [.ref 70, .int x, .int y, .int z, .int u] I R (some (.int (-100))) 1 := by
  intro J Q hQ
  apply t_Mo_sues hR
  refine c_Mo_good hR ?_
  intro I2 g0 g1 g2
  refine ⟨I2, J, R, rfl, rfl, hR, ?_⟩
  have h2 : I2 70 14 = 0 := by rw [g0 70 (by decide) 14 (by decide)]; exact h1
  refine c_Mo_inG (a := 0) (b := 9) hR (by decide) (by decide) ⟨_, I2, J, R, rfl, rfl, hR, ?_⟩
  rw [h2]
  refine z_why hR ⟨_, I2, J, R, rfl, rfl, hR, ?_⟩
  first | refine ⟨fun c => absurd c (by decide), fun _ => ?_⟩ | refine ⟨fun _ => ?_, fun c => absurd c (by decide)⟩
  intro I3 e3
  exact hQ I3 J (sp_fr_tr (sp_mm g0) (sp_mm1 (sp_fr_ue e3 (by simp)))) (by rw [e3, ow_u_at])
theorem zc_rests {x : Int32} (hR : ow_RF R) (h1 : I 0 14 = 0) : sp_rc M_Fs_rests (d + 12) [.ref 0, .int x] I R (some (.int (-1))) 1 := by
  intro J Q hQ
  apply t_Fs_rests hR
  refine z_S (n := 0) hR h1 ?_
  intro I2 g2 v2
  refine ⟨_, I2, J, R, rfl, rfl, hR, ?_⟩
  first | refine ⟨fun c => absurd c (by decide), fun _ => ?_⟩ | refine ⟨fun _ => ?_, fun c => absurd c (by decide)⟩
  exact hQ I2 J (sp_cm g2) v2
theorem zm_rests {x : Int32} (hR : ow_RF R) (h1 : I 70 14 = 0) : sp_rm M_Mo_rests (d + 12) [.ref 70, .int x] I R (some (.int (-1))) 1 := by
  intro J Q hQ
  apply t_Mo_rests hR
  refine c_Mo_good hR ?_
  intro I2 g0 g1 g2
  refine ⟨I2, J, R, rfl, rfl, hR, ?_⟩
  have h2 : I2 70 14 = 0 := by rw [g0 70 (by decide) 14 (by decide)]; exact h1
  refine c_Mo_inG (a := 0) (b := 9) hR (by decide) (by decide) ⟨_, I2, J, R, rfl, rfl, hR, ?_⟩
  rw [h2]
  refine z_why hR ⟨_, I2, J, R, rfl, rfl, hR, ?_⟩
  first | refine ⟨fun c => absurd c (by decide), fun _ => ?_⟩ | refine ⟨fun _ => ?_, fun c => absurd c (by decide)⟩
  refine c_Mo_no hR ?_
  intro I3 g3 g4
  exact ⟨_, I3, J, R, rfl, rfl, hR, hQ I3 J (sp_fr_tr (sp_mm g0) (sp_mm1 g3)) g4⟩
theorem zc_rest {x : Int32} (hR : ow_RF R) (h1 : I 0 14 = 0) : sp_rc M_Fs_rest (d + 12) [.ref 0, .int x] I R (some (.int (-1))) 1 := by
  intro J Q hQ
  apply t_Fs_rest hR
  refine z_S (n := 0) hR h1 ?_
  intro I2 g2 v2
  refine ⟨_, I2, J, R, rfl, rfl, hR, ?_⟩
  first | refine ⟨fun c => absurd c (by decide), fun _ => ?_⟩ | refine ⟨fun _ => ?_, fun c => absurd c (by decide)⟩
  exact hQ I2 J (sp_cm g2) v2
theorem zm_rest {x : Int32} (hR : ow_RF R) (h1 : I 70 14 = 0) : sp_rm M_Mo_rest (d + 12) [.ref 70, .int x] I R (some (.int (-1))) 1 := by
  intro J Q hQ
  apply t_Mo_rest hR
  refine c_Mo_good hR ?_
  intro I2 g0 g1 g2
  refine ⟨I2, J, R, rfl, rfl, hR, ?_⟩
  have h2 : I2 70 14 = 0 := by rw [g0 70 (by decide) 14 (by decide)]; exact h1
  refine c_Mo_inG (a := 0) (b := 9) hR (by decide) (by decide) ⟨_, I2, J, R, rfl, rfl, hR, ?_⟩
  rw [h2]
  refine z_why hR ⟨_, I2, J, R, rfl, rfl, hR, ?_⟩
  first | refine ⟨fun c => absurd c (by decide), fun _ => ?_⟩ | refine ⟨fun _ => ?_, fun c => absurd c (by decide)⟩
  refine c_Mo_no hR ?_
  intro I3 g3 g4
  exact ⟨_, I3, J, R, rfl, rfl, hR, hQ I3 J (sp_fr_tr (sp_mm g0) (sp_mm1 g3)) g4⟩
theorem zc_odds {x : Int32} {y : Int32} {z : Int32} {u : Int32} (hR : ow_RF R) (h1 : I 0 14 = 0) : sp_rc M_Fs_odds (d + 12) [.ref 0, .int x, .int y, .int z, .int u] I R (some (.long (-1))) 1 := by
  intro J Q hQ
  apply t_Fs_odds hR
  refine z_F hR h1 ?_
  intro I2 g2 v2
  refine ⟨_, I2, J, R, rfl, rfl, hR, ?_⟩
  first | refine ⟨fun c => absurd c (by decide), fun _ => ?_⟩ | refine ⟨fun _ => ?_, fun c => absurd c (by decide)⟩
  exact hQ I2 J (sp_cm g2) v2
theorem zm_odds {x : Int32} {y : Int32} {z : Int32} {u : Int32} (hR : ow_RF R) (h1 : I 70 14 = 0) : sp_rm M_Mo_odds (d + 12) [.ref 70, .int x, .int y, .int z, .int u] I R (some (.long (-1))) 1 := by
  intro J Q hQ
  apply t_Mo_odds hR
  refine c_Mo_good hR ?_
  intro I2 g0 g1 g2
  refine ⟨I2, J, R, rfl, rfl, hR, ?_⟩
  have h2 : I2 70 14 = 0 := by rw [g0 70 (by decide) 14 (by decide)]; exact h1
  refine z_mF hR h2 ?_
  refine ⟨_, I2, J, R, rfl, rfl, hR, ?_⟩
  first | refine ⟨fun c => absurd rfl c, fun _ => ?_⟩ | refine ⟨fun _ => ?_, fun c => absurd rfl c⟩
  refine c_Mo_no hR ?_
  intro I3 g3 g4
  exact ⟨_, I3, J, R, rfl, rfl, hR, hQ I3 J (sp_fr_tr (sp_mm g0) (sp_mm1 g3)) g4⟩
theorem zc_lostOdds {x : Int32} {y : Int32} {z : Int32} (hR : ow_RF R) (h1 : I 0 14 = 0) : sp_rc M_Fs_lostOdds (d + 12) [.ref 0, .int x, .int y, .int z] I R (some (.long (-1))) 1 := by
  intro J Q hQ
  apply t_Fs_lostOdds hR
  refine z_F hR h1 ?_
  intro I2 g2 v2
  refine ⟨_, I2, J, R, rfl, rfl, hR, ?_⟩
  first | refine ⟨fun c => absurd c (by decide), fun _ => ?_⟩ | refine ⟨fun _ => ?_, fun c => absurd c (by decide)⟩
  exact hQ I2 J (sp_cm g2) v2
theorem zm_lostOdds {x : Int32} {y : Int32} {z : Int32} (hR : ow_RF R) (h1 : I 70 14 = 0) : sp_rm M_Mo_lostOdds (d + 12) [.ref 70, .int x, .int y, .int z] I R (some (.long (-1))) 1 := by
  intro J Q hQ
  apply t_Mo_lostOdds hR
  refine c_Mo_good hR ?_
  intro I2 g0 g1 g2
  refine ⟨I2, J, R, rfl, rfl, hR, ?_⟩
  have h2 : I2 70 14 = 0 := by rw [g0 70 (by decide) 14 (by decide)]; exact h1
  refine z_mF hR h2 ?_
  refine ⟨_, I2, J, R, rfl, rfl, hR, ?_⟩
  first | refine ⟨fun c => absurd rfl c, fun _ => ?_⟩ | refine ⟨fun _ => ?_, fun c => absurd rfl c⟩
  refine c_Mo_no hR ?_
  intro I3 g3 g4
  exact ⟨_, I3, J, R, rfl, rfl, hR, hQ I3 J (sp_fr_tr (sp_mm g0) (sp_mm1 g3)) g4⟩
theorem zc_blown {x : Int32} {y : Int32} {z : Int32} (hR : ow_RF R) (h1 : I 0 14 = 0) : sp_rc M_Fs_blown (d + 12) [.ref 0, .int x, .int y, .int z] I R (some (.int (-1))) 1 := by
  intro J Q hQ
  apply t_Fs_blown hR
  refine z_F hR h1 ?_
  intro I2 g2 v2
  refine ⟨_, I2, J, R, rfl, rfl, hR, ?_⟩
  first | refine ⟨fun c => absurd c (by decide), fun _ => ?_⟩ | refine ⟨fun _ => ?_, fun c => absurd c (by decide)⟩
  exact hQ I2 J (sp_cm g2) v2
theorem zm_blown {x : Int32} {y : Int32} {z : Int32} (hR : ow_RF R) (h1 : I 70 14 = 0) : sp_rm M_Mo_blown (d + 12) [.ref 70, .int x, .int y, .int z] I R (some (.int (-1))) 1 := by
  intro J Q hQ
  apply t_Mo_blown hR
  refine c_Mo_good hR ?_
  intro I2 g0 g1 g2
  refine ⟨I2, J, R, rfl, rfl, hR, ?_⟩
  have h2 : I2 70 14 = 0 := by rw [g0 70 (by decide) 14 (by decide)]; exact h1
  refine z_mF hR h2 ?_
  refine ⟨_, I2, J, R, rfl, rfl, hR, ?_⟩
  refine c_Mo_inG (a := 0) (b := 65536) hR (by decide) (by decide) ⟨_, I2, J, R, rfl, rfl, hR, ?_⟩
  refine z_why hR ⟨_, I2, J, R, rfl, rfl, hR, ?_⟩
  first | refine ⟨fun c => absurd c (by decide), fun _ => ?_⟩ | refine ⟨fun _ => ?_, fun c => absurd c (by decide)⟩
  refine c_Mo_no hR ?_
  intro I3 g3 g4
  exact ⟨_, I3, J, R, rfl, rfl, hR, hQ I3 J (sp_fr_tr (sp_mm g0) (sp_mm1 g3)) g4⟩
theorem zc_mend {x : Int32} (hR : ow_RF R) (h1 : I 0 14 = 0) : sp_rc M_Fs_mend (d + 12) [.ref 0, .int x] I R (some (.int (-1))) 1 := by
  intro J Q hQ
  apply t_Fs_mend hR
  refine z_F hR h1 ?_
  intro I2 g2 v2
  refine ⟨_, I2, J, R, rfl, rfl, hR, ?_⟩
  first | refine ⟨fun c => absurd c (by decide), fun _ => ?_⟩ | refine ⟨fun _ => ?_, fun c => absurd c (by decide)⟩
  exact hQ I2 J (sp_cm g2) v2
theorem zm_mend {x : Int32} (hR : ow_RF R) (h1 : I 70 14 = 0) : sp_rm M_Mo_mend (d + 12) [.ref 70, .int x] I R (some (.int (-1))) 1 := by
  intro J Q hQ
  apply t_Mo_mend hR
  refine c_Mo_good hR ?_
  intro I2 g0 g1 g2
  refine ⟨I2, J, R, rfl, rfl, hR, ?_⟩
  have h2 : I2 70 14 = 0 := by rw [g0 70 (by decide) 14 (by decide)]; exact h1
  refine z_mF hR h2 ?_
  refine ⟨_, I2, J, R, rfl, rfl, hR, ?_⟩
  first | refine ⟨fun c => absurd rfl c, fun _ => ?_⟩ | refine ⟨fun _ => ?_, fun c => absurd rfl c⟩
  refine c_Mo_no hR ?_
  intro I3 g3 g4
  exact ⟨_, I3, J, R, rfl, rfl, hR, hQ I3 J (sp_fr_tr (sp_mm g0) (sp_mm1 g3)) g4⟩
theorem zc_hire {x : Int32} (hR : ow_RF R) (h1 : I 0 14 = 0) : sp_rc M_Fs_hire (d + 12) [.ref 0, .int x] I R (some (.int (-1))) 1 := by
  intro J Q hQ
  apply t_Fs_hire hR
  refine z_F hR h1 ?_
  intro I2 g2 v2
  refine ⟨_, I2, J, R, rfl, rfl, hR, ?_⟩
  first | refine ⟨fun c => absurd c (by decide), fun _ => ?_⟩ | refine ⟨fun _ => ?_, fun c => absurd c (by decide)⟩
  exact hQ I2 J (sp_cm g2) v2
theorem zm_hire {x : Int32} (hR : ow_RF R) (h1 : I 70 14 = 0) : sp_rm M_Mo_hire (d + 12) [.ref 70, .int x] I R (some (.int (-1))) 1 := by
  intro J Q hQ
  apply t_Mo_hire hR
  refine c_Mo_good hR ?_
  intro I2 g0 g1 g2
  refine ⟨I2, J, R, rfl, rfl, hR, ?_⟩
  have h2 : I2 70 14 = 0 := by rw [g0 70 (by decide) 14 (by decide)]; exact h1
  refine z_mF hR h2 ?_
  refine ⟨_, I2, J, R, rfl, rfl, hR, ?_⟩
  first | refine ⟨fun c => absurd rfl c, fun _ => ?_⟩ | refine ⟨fun _ => ?_, fun c => absurd rfl c⟩
  refine c_Mo_no hR ?_
  intro I3 g3 g4
  exact ⟨_, I3, J, R, rfl, rfl, hR, hQ I3 J (sp_fr_tr (sp_mm g0) (sp_mm1 g3)) g4⟩
theorem zc_send {x : Int32} {y : Int32} (hR : ow_RF R) (h1 : I 0 14 = 0) : sp_rc M_Fs_send (d + 12) [.ref 0, .int x, .int y] I R (some (.int 0)) 1 := by
  intro J Q hQ
  apply t_Fs_send hR
  refine z_F hR h1 ?_
  intro I2 g2 v2
  refine ⟨_, I2, J, R, rfl, rfl, hR, ?_⟩
  first | refine ⟨fun c => absurd c (by decide), fun _ => ?_⟩ | refine ⟨fun _ => ?_, fun c => absurd c (by decide)⟩
  exact hQ I2 J (sp_cm g2) v2
theorem zm_send {x : Int32} {y : Int32} (hR : ow_RF R) (h1 : I 70 14 = 0) : sp_rm M_Mo_send (d + 12) [.ref 70, .int x, .int y] I R (some (.int 0)) 1 := by
  intro J Q hQ
  apply t_Mo_send hR
  refine c_Mo_good hR ?_
  intro I2 g0 g1 g2
  refine ⟨I2, J, R, rfl, rfl, hR, ?_⟩
  have h2 : I2 70 14 = 0 := by rw [g0 70 (by decide) 14 (by decide)]; exact h1
  refine z_mF hR h2 ?_
  refine ⟨_, I2, J, R, rfl, rfl, hR, ?_⟩
  first | refine ⟨fun c => absurd rfl c, fun _ => ?_⟩ | refine ⟨fun _ => ?_, fun c => absurd rfl c⟩
  refine c_Mo_isNot hR ?_
  intro I3 g3 g4
  exact ⟨_, I3, J, R, rfl, rfl, hR, Or.inl rfl, hQ I3 J (sp_fr_tr (sp_mm g0) (sp_mm1 g3)) g4⟩
theorem zc_yeses {x y z u : Int32} (hR : ow_RF R) (h1 : I 0 14 = 0) : sp_rc M_Fs_yeses (d + 12) [.ref 0, .int x, .int y, .int z, .int u] I R (some (.int (-1))) 1 := by
  intro J Q hQ
  apply t_Fs_yeses hR
  refine z_F hR h1 ?_
  intro I2 g2 v2
  refine ⟨_, I2, J, R, rfl, rfl, hR, ?_⟩
  first | refine ⟨fun c => absurd c (by decide), fun _ => ?_⟩ | refine ⟨fun _ => ?_, fun c => absurd c (by decide)⟩
  exact hQ I2 J (sp_cm g2) v2
theorem zm_yeses {x y z u : Int32} (hR : ow_RF R) (h1 : I 70 14 = 0) : sp_rm M_Mo_yeses (d + 12) [.ref 70, .int x, .int y, .int z, .int u] I R (some (.int (-1))) 1 := by
  intro J Q hQ
  apply t_Mo_yeses hR
  refine c_Mo_good hR ?_
  intro I2 g0 g1 g2
  refine ⟨I2, J, R, rfl, rfl, hR, ?_⟩
  have h2 : I2 70 14 = 0 := by rw [g0 70 (by decide) 14 (by decide)]; exact h1
  refine z_mF hR h2 ⟨_, I2, J, R, rfl, rfl, hR, ?_⟩
  refine c_Mo_inG (a := 0) (b := 65536) hR (by decide) (by decide) ⟨_, I2, J, R, rfl, rfl, hR, ?_⟩
  refine ⟨fun _ => ?_, fun _ => ?_⟩
  · refine z_why (b := false) hR ⟨_, I2, J, R, rfl, rfl, hR, fun c => absurd c (by decide), fun _ => ?_⟩
    refine c_Mo_no hR ?_
    intro I3 g3 g4
    exact ⟨_, I3, J, R, rfl, rfl, hR, hQ I3 J (sp_fr_tr (sp_mm g0) (sp_mm1 g3)) g4⟩
  refine c_Mo_inG (a := 0) (b := 60) hR (by decide) (by decide) ⟨_, I2, J, R, rfl, rfl, hR, ?_⟩
  refine ⟨fun _ => ?_, fun _ => ?_⟩
  · refine z_why (b := false) hR ⟨_, I2, J, R, rfl, rfl, hR, fun c => absurd c (by decide), fun _ => ?_⟩
    refine c_Mo_no hR ?_
    intro I3 g3 g4
    exact ⟨_, I3, J, R, rfl, rfl, hR, hQ I3 J (sp_fr_tr (sp_mm g0) (sp_mm1 g3)) g4⟩
  · refine z_why (b := true) hR ⟨_, I2, J, R, rfl, rfl, hR, fun c => absurd c (by decide), fun _ => ?_⟩
    refine c_Mo_no hR ?_
    intro I3 g3 g4
    exact ⟨_, I3, J, R, rfl, rfl, hR, hQ I3 J (sp_fr_tr (sp_mm g0) (sp_mm1 g3)) g4⟩
theorem zc_undo (hR : ow_RF R) (h1 : I 66 2 = 0) : sp_rc M_Fs_undo (d + 12) [.ref 0] I R (some (.int 0)) 6 := by
  intro J Q hQ
  apply t_Fs_undo hR
  exact ⟨fun c => absurd h1 c, fun _ I6 e6 => hQ I6 J (sp_cm (sp_fr_ue e6 (by simp))) (by rw [e6, ow_u_at])⟩
theorem zm_undo (hR : ow_RF R) (h1 : I 70 22 = 0) : sp_rm M_Mo_undo (d + 12) [.ref 70] I R (some (.int 0)) 6 := by
  intro J Q hQ
  apply t_Mo_undo hR
  refine c_Mo_good hR ?_
  intro I2 g0 g1 g2
  refine ⟨I2, J, R, rfl, rfl, hR, fun c => absurd (by rw [g0 70 (by decide) 22 (by decide)]; exact h1) c, fun _ => ?_⟩
  refine c_Mo_isNot hR ?_
  intro I3 g3 g4
  exact ⟨_, I3, J, R, rfl, rfl, hR, Or.inl rfl, hQ I3 J (sp_fr_tr (sp_mm g0) (sp_mm1 g3)) g4⟩
theorem zc_back {x : Int32} (hR : ow_RF R) (h1 : I 68 2 = 0) : sp_rc M_Fs_back (d + 12) [.ref 0, .int x] I R (some (.int 0)) 1 := by
  intro J Q hQ
  apply t_Fs_back hR
  rw [h1]
  exact ⟨fun _ I6 e6 => hQ I6 J (sp_cm (sp_fr_ue e6 (by simp))) (by rw [e6, ow_u_at]), fun hn => ⟨fun c => absurd c hn, fun _ I6 e6 => hQ I6 J (sp_cm (sp_fr_ue e6 (by simp))) (by rw [e6, ow_u_at])⟩⟩
theorem z_is0 (x : Int32) : sp_is x 0 = false := by
  cases h : sp_is x 0 with
  | false => rfl
  | true => obtain ⟨k, hk, _⟩ := sp_is_nI h; exact absurd hk (Nat.not_lt_zero _)
theorem zm_back {x : Int32} (hR : ow_RF R) (h1 : I 70 23 = 0) : sp_rm M_Mo_back (d + 12) [.ref 70, .int x] I R (some (.int 0)) 1 := by
  intro J Q hQ
  apply t_Mo_back hR
  refine c_Mo_good hR ?_
  intro I2 g0 g1 g2
  refine ⟨I2, J, R, rfl, rfl, hR, ?_⟩
  rw [show I2 70 23 = nI 0 from by rw [g0 70 (by decide) 23 (by decide)]; exact h1]
  refine c_Mo_in (n := 0) hR (by decide) ⟨_, I2, J, R, rfl, rfl, hR, ?_⟩
  rw [z_is0 x]
  refine ⟨fun c => absurd rfl c, fun _ => ?_⟩
  refine c_Mo_isNot hR ?_
  intro I3 g3 g4
  exact ⟨_, I3, J, R, rfl, rfl, hR, Or.inl rfl, hQ I3 J (sp_fr_tr (sp_mm g0) (sp_mm1 g3)) g4⟩
end NONE
