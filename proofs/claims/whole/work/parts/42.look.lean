/-! Own rows, by program: methods that only look. -/
theorem st_n6 {T : sp_T} {V : sp_V} (hV : st_now T V) : sp_n V ≤ 6 := hV.1.1
theorem sp_cm {I I2 : Nat → Nat → Int32} (h : sp_fr [] [(0, 15)] I I2) : sp_fr sp_cS sp_cE I I2 := sp_fr_mono h (by simp) (by simp [sp_cE])
theorem sp_mm {I I2 : Nat → Nat → Int32} (h : sp_fr [] [(70, 0), (70, 11)] I I2) : sp_fr sp_mS sp_mE I I2 := sp_fr_mono h (by simp) (by simp [sp_mE])
theorem sp_mm1 {I I2 : Nat → Nat → Int32} (h : sp_fr [] [(70, 11)] I I2) : sp_fr sp_mS sp_mE I I2 := sp_fr_mono h (by simp) (by simp [sp_mE])
theorem sp_mh {I I2 : Nat → Nat → Int32} (h : sp_eq [80] I I2) : sp_fr sp_mS sp_mE I I2 := sp_fr_mono (E := []) (sp_frq h) (by simp [sp_mS]) (by simp)
theorem sp_mg {I I2 : Nat → Nat → Int32} (h : sp_fr [81] [(70, 26), (70, 27), (70, 28), (70, 29)] I I2) : sp_fr sp_mS sp_mE I I2 := sp_fr_mono h (by simp [sp_mS]) (by simp [sp_mE])
theorem sp_mg2 {I I2 : Nat → Nat → Int32} (h : sp_fr [81, 82] [(70, 26), (70, 27), (70, 28), (70, 29)] I I2) : sp_fr sp_mS sp_mE I I2 := sp_fr_mono h (by simp [sp_mS]) (by simp [sp_mE])
theorem sp_cw {I I2 : Nat → Nat → Int32} {S : List Nat} (h : sp_eq S I I2) (hs : ∀ a ∈ S, a ∈ sp_cS) : sp_fr sp_cS sp_cE I I2 := sp_fr_mono (E := []) (sp_frq h) hs (by simp)
section PUB
variable {d : Nat} {I : Nat → Nat → Int32} {R : Nat → Nat → Option Nat} {T : sp_T} {V : sp_V}
theorem rc_answers_no {x : Int32} {y : Int32} (hR : ow_RF R) (hC : sp_CN I T V) (hT : st_ok T) (hV : st_now T V) (hx : sp_is x (sp_n V) = false) : sp_rc M_Fs_answers (d + 12) [.ref 0, .int x, .int y] I R (some (.int (-1))) 1 := by
  intro J Q hQ
  apply t_Fs_answers hR
  refine c_Fs_lacksFolly hR hC.1 (show I 29 0 = nI (sp_n V) from hC.2.2.1) (by have := st_n6 hV; omega) ?_
  intro I2 g0 g1
  rw [hx] at g1 ⊢
  refine ⟨_, I2, J, R, rfl, rfl, hR, ?_⟩
  exact ⟨fun c => absurd c (by decide), fun _ => hQ I2 J (sp_cm g0) g1⟩
theorem rm_answers_no {x : Int32} {y : Int32} (hR : ow_RF R) (hM : sp_MN I T V) (hT : st_ok T) (hV : st_now T V) (hx : sp_is x (sp_n V) = false) : sp_rm M_Mo_answers (d + 12) [.ref 70, .int x, .int y] I R (some (.int (-1))) 1 := by
  intro J Q hQ
  apply t_Mo_answers hR
  refine c_Mo_good hR ?_
  intro I2 g0 g1 g2
  refine ⟨I2, J, R, rfl, rfl, hR, ?_⟩
  have h2 := sp_MN_k hM (sp_mm g0)
  refine c_Mo_isFolly hR h2.1 (sp_MN_n h2 hV) (by have := st_n6 hV; omega) ?_
  rw [hx]
  refine ⟨_, I2, J, R, rfl, rfl, hR, ?_⟩
  refine ⟨fun c => absurd rfl c, fun _ => ?_⟩
  refine c_Mo_no hR ?_
  intro I3 g3 g4
  exact ⟨_, I3, J, R, rfl, rfl, hR, hQ I3 J (sp_fr_tr (sp_mm g0) (sp_mm1 g3)) g4⟩
theorem rc_signs_no {x : Int32} {y : Int32} (hR : ow_RF R) (hC : sp_CN I T V) (hT : st_ok T) (hV : st_now T V) (hx : sp_is x (sp_n V) = false) : sp_rc M_Fs_signs (d + 12) [.ref 0, .int x, .int y] I R (some (.int (-1))) 1 := by
  intro J Q hQ
  apply t_Fs_signs hR
  refine c_Fs_lacksFolly hR hC.1 (show I 29 0 = nI (sp_n V) from hC.2.2.1) (by have := st_n6 hV; omega) ?_
  intro I2 g0 g1
  rw [hx] at g1 ⊢
  refine ⟨_, I2, J, R, rfl, rfl, hR, ?_⟩
  exact ⟨fun c => absurd c (by decide), fun _ => hQ I2 J (sp_cm g0) g1⟩
theorem rm_signs_no {x : Int32} {y : Int32} (hR : ow_RF R) (hM : sp_MN I T V) (hT : st_ok T) (hV : st_now T V) (hx : sp_is x (sp_n V) = false) : sp_rm M_Mo_signs (d + 12) [.ref 70, .int x, .int y] I R (some (.int (-1))) 1 := by
  intro J Q hQ
  apply t_Mo_signs hR
  refine c_Mo_good hR ?_
  intro I2 g0 g1 g2
  refine ⟨I2, J, R, rfl, rfl, hR, ?_⟩
  have h2 := sp_MN_k hM (sp_mm g0)
  refine c_Mo_isFolly hR h2.1 (sp_MN_n h2 hV) (by have := st_n6 hV; omega) ?_
  rw [hx]
  refine ⟨_, I2, J, R, rfl, rfl, hR, ?_⟩
  refine ⟨fun c => absurd rfl c, fun _ => ?_⟩
  refine c_Mo_no hR ?_
  intro I3 g3 g4
  exact ⟨_, I3, J, R, rfl, rfl, hR, hQ I3 J (sp_fr_tr (sp_mm g0) (sp_mm1 g3)) g4⟩
theorem rc_signer_no {x : Int32} {y : Int32} (hR : ow_RF R) (hC : sp_CN I T V) (hT : st_ok T) (hV : st_now T V) (hx : sp_is x (sp_n V) = false) : sp_rc M_Fs_signer (d + 12) [.ref 0, .int x, .int y] I R (some (.int (-1))) 1 := by
  intro J Q hQ
  apply t_Fs_signer hR
  refine c_Fs_lacksFolly hR hC.1 (show I 29 0 = nI (sp_n V) from hC.2.2.1) (by have := st_n6 hV; omega) ?_
  intro I2 g0 g1
  rw [hx] at g1 ⊢
  refine ⟨_, I2, J, R, rfl, rfl, hR, ?_⟩
  exact ⟨fun c => absurd c (by decide), fun _ => hQ I2 J (sp_cm g0) g1⟩
theorem rm_signer_no {x : Int32} {y : Int32} (hR : ow_RF R) (hM : sp_MN I T V) (hT : st_ok T) (hV : st_now T V) (hx : sp_is x (sp_n V) = false) : sp_rm M_Mo_signer (d + 12) [.ref 70, .int x, .int y] I R (some (.int (-1))) 1 := by
  intro J Q hQ
  apply t_Mo_signer hR
  refine c_Mo_good hR ?_
  intro I2 g0 g1 g2
  refine ⟨I2, J, R, rfl, rfl, hR, ?_⟩
  have h2 := sp_MN_k hM (sp_mm g0)
  refine c_Mo_isFolly hR h2.1 (sp_MN_n h2 hV) (by have := st_n6 hV; omega) ?_
  rw [hx]
  refine ⟨_, I2, J, R, rfl, rfl, hR, ?_⟩
  refine ⟨fun c => absurd rfl c, fun _ => ?_⟩
  refine c_Mo_no hR ?_
  intro I3 g3 g4
  exact ⟨_, I3, J, R, rfl, rfl, hR, hQ I3 J (sp_fr_tr (sp_mm g0) (sp_mm1 g3)) g4⟩
theorem rc_course_no {x : Int32} {y : Int32} (hR : ow_RF R) (hC : sp_CN I T V) (hT : st_ok T) (hV : st_now T V) (hx : sp_is x (sp_n V) = false) : sp_rc M_Fs_course (d + 12) [.ref 0, .int x, .int y] I R (some (.int (-1))) 1 := by
  intro J Q hQ
  apply t_Fs_course hR
  refine c_Fs_lacksFolly hR hC.1 (show I 29 0 = nI (sp_n V) from hC.2.2.1) (by have := st_n6 hV; omega) ?_
  intro I2 g0 g1
  rw [hx] at g1 ⊢
  refine ⟨_, I2, J, R, rfl, rfl, hR, ?_⟩
  exact ⟨fun c => absurd c (by decide), fun _ => hQ I2 J (sp_cm g0) g1⟩
theorem rm_course_no {x : Int32} {y : Int32} (hR : ow_RF R) (hM : sp_MN I T V) (hT : st_ok T) (hV : st_now T V) (hx : sp_is x (sp_n V) = false) : sp_rm M_Mo_course (d + 12) [.ref 70, .int x, .int y] I R (some (.int (-1))) 1 := by
  intro J Q hQ
  apply t_Mo_course hR
  refine c_Mo_good hR ?_
  intro I2 g0 g1 g2
  refine ⟨I2, J, R, rfl, rfl, hR, ?_⟩
  have h2 := sp_MN_k hM (sp_mm g0)
  refine c_Mo_isFolly hR h2.1 (sp_MN_n h2 hV) (by have := st_n6 hV; omega) ?_
  rw [hx]
  refine ⟨_, I2, J, R, rfl, rfl, hR, ?_⟩
  refine ⟨fun c => absurd rfl c, fun _ => ?_⟩
  refine c_Mo_no hR ?_
  intro I3 g3 g4
  exact ⟨_, I3, J, R, rfl, rfl, hR, hQ I3 J (sp_fr_tr (sp_mm g0) (sp_mm1 g3)) g4⟩
theorem rc_courseAt_no {x : Int32} {y : Int32} {z : Int32} (hR : ow_RF R) (hC : sp_CN I T V) (hT : st_ok T) (hV : st_now T V) (hx : sp_is x (sp_n V) = false) : sp_rc M_Fs_courseAt (d + 12) [.ref 0, .int x, .int y, .int z] I R (some (.int (-1))) 1 := by
  intro J Q hQ
  apply t_Fs_courseAt hR
  refine c_Fs_lacksFolly hR hC.1 (show I 29 0 = nI (sp_n V) from hC.2.2.1) (by have := st_n6 hV; omega) ?_
  intro I2 g0 g1
  rw [hx] at g1 ⊢
  refine ⟨_, I2, J, R, rfl, rfl, hR, ?_⟩
  exact ⟨fun c => absurd c (by decide), fun _ => hQ I2 J (sp_cm g0) g1⟩
theorem rm_courseAt_no {x : Int32} {y : Int32} {z : Int32} (hR : ow_RF R) (hM : sp_MN I T V) (hT : st_ok T) (hV : st_now T V) (hx : sp_is x (sp_n V) = false) : sp_rm M_Mo_courseAt (d + 12) [.ref 70, .int x, .int y, .int z] I R (some (.int (-1))) 1 := by
  intro J Q hQ
  apply t_Mo_courseAt hR
  refine c_Mo_good hR ?_
  intro I2 g0 g1 g2
  refine ⟨I2, J, R, rfl, rfl, hR, ?_⟩
  have h2 := sp_MN_k hM (sp_mm g0)
  refine c_Mo_isFolly hR h2.1 (sp_MN_n h2 hV) (by have := st_n6 hV; omega) ?_
  rw [hx]
  refine ⟨_, I2, J, R, rfl, rfl, hR, ?_⟩
  refine ⟨fun c => absurd rfl c, fun _ => ?_⟩
  refine c_Mo_no hR ?_
  intro I3 g3 g4
  exact ⟨_, I3, J, R, rfl, rfl, hR, hQ I3 J (sp_fr_tr (sp_mm g0) (sp_mm1 g3)) g4⟩
theorem rc_serves_no {x : Int32} (hR : ow_RF R) (hC : sp_CN I T V) (hT : st_ok T) (hV : st_now T V) (hx : sp_is x (st_ne T) = false) : sp_rc M_Fs_serves (d + 12) [.ref 0, .int x] I R (some (.int (-1))) 1 := by
  intro J Q hQ
  apply t_Fs_serves hR
  refine c_Fs_lacksEstate hR hC.1 hC.2.1.2.2.1 (by have := hT.2.2.2.2.2.1; omega) ?_
  intro I2 g0 g1
  rw [hx] at g1 ⊢
  refine ⟨_, I2, J, R, rfl, rfl, hR, ?_⟩
  exact ⟨fun c => absurd c (by decide), fun _ => hQ I2 J (sp_cm g0) g1⟩
theorem rm_serves_no {x : Int32} (hR : ow_RF R) (hM : sp_MN I T V) (hT : st_ok T) (hV : st_now T V) (hx : sp_is x (st_ne T) = false) : sp_rm M_Mo_serves (d + 12) [.ref 70, .int x] I R (some (.int (-1))) 1 := by
  intro J Q hQ
  apply t_Mo_serves hR
  refine c_Mo_good hR ?_
  intro I2 g0 g1 g2
  refine ⟨I2, J, R, rfl, rfl, hR, ?_⟩
  have h2 := sp_MN_k hM (sp_mm g0)
  refine c_Mo_isEstate hR h2.1 h2.2.1.2.2.2.1 (by have := hT.2.2.2.2.2.1; omega) ?_
  rw [hx]
  refine ⟨_, I2, J, R, rfl, rfl, hR, ?_⟩
  refine ⟨fun c => absurd rfl c, fun _ => ?_⟩
  refine c_Mo_no hR ?_
  intro I3 g3 g4
  exact ⟨_, I3, J, R, rfl, rfl, hR, hQ I3 J (sp_fr_tr (sp_mm g0) (sp_mm1 g3)) g4⟩
theorem rc_best_no {x : Int32} (hR : ow_RF R) (hC : sp_CN I T V) (hT : st_ok T) (hV : st_now T V) (hx : sp_is x (st_ne T) = false) : sp_rc M_Fs_best (d + 12) [.ref 0, .int x] I R (some (.int (-1))) 1 := by
  intro J Q hQ
  apply t_Fs_best hR
  refine c_Fs_lacksEstate hR hC.1 hC.2.1.2.2.1 (by have := hT.2.2.2.2.2.1; omega) ?_
  intro I2 g0 g1
  rw [hx] at g1 ⊢
  refine ⟨_, I2, J, R, rfl, rfl, hR, ?_⟩
  exact ⟨fun c => absurd c (by decide), fun _ => hQ I2 J (sp_cm g0) g1⟩
theorem rm_best_no {x : Int32} (hR : ow_RF R) (hM : sp_MN I T V) (hT : st_ok T) (hV : st_now T V) (hx : sp_is x (st_ne T) = false) : sp_rm M_Mo_best (d + 12) [.ref 70, .int x] I R (some (.int (-1))) 1 := by
  intro J Q hQ
  apply t_Mo_best hR
  refine c_Mo_good hR ?_
  intro I2 g0 g1 g2
  refine ⟨I2, J, R, rfl, rfl, hR, ?_⟩
  have h2 := sp_MN_k hM (sp_mm g0)
  refine c_Mo_isEstate hR h2.1 h2.2.1.2.2.2.1 (by have := hT.2.2.2.2.2.1; omega) ?_
  rw [hx]
  refine ⟨_, I2, J, R, rfl, rfl, hR, ?_⟩
  refine ⟨fun c => absurd rfl c, fun _ => ?_⟩
  refine c_Mo_no hR ?_
  intro I3 g3 g4
  exact ⟨_, I3, J, R, rfl, rfl, hR, hQ I3 J (sp_fr_tr (sp_mm g0) (sp_mm1 g3)) g4⟩
theorem rc_shortest_no {x : Int32} (hR : ow_RF R) (hC : sp_CN I T V) (hT : st_ok T) (hV : st_now T V) (hx : sp_is x (st_ne T) = false) : sp_rc M_Fs_shortest (d + 12) [.ref 0, .int x] I R (some (.int (-1))) 1 := by
  intro J Q hQ
  apply t_Fs_shortest hR
  refine c_Fs_lacksEstate hR hC.1 hC.2.1.2.2.1 (by have := hT.2.2.2.2.2.1; omega) ?_
  intro I2 g0 g1
  rw [hx] at g1 ⊢
  refine ⟨_, I2, J, R, rfl, rfl, hR, ?_⟩
  exact ⟨fun c => absurd c (by decide), fun _ => hQ I2 J (sp_cm g0) g1⟩
theorem rm_shortest_no {x : Int32} (hR : ow_RF R) (hM : sp_MN I T V) (hT : st_ok T) (hV : st_now T V) (hx : sp_is x (st_ne T) = false) : sp_rm M_Mo_shortest (d + 12) [.ref 70, .int x] I R (some (.int (-1))) 1 := by
  intro J Q hQ
  apply t_Mo_shortest hR
  refine c_Mo_good hR ?_
  intro I2 g0 g1 g2
  refine ⟨I2, J, R, rfl, rfl, hR, ?_⟩
  have h2 := sp_MN_k hM (sp_mm g0)
  refine c_Mo_isEstate hR h2.1 h2.2.1.2.2.2.1 (by have := hT.2.2.2.2.2.1; omega) ?_
  rw [hx]
  refine ⟨_, I2, J, R, rfl, rfl, hR, ?_⟩
  refine ⟨fun c => absurd rfl c, fun _ => ?_⟩
  refine c_Mo_no hR ?_
  intro I3 g3 g4
  exact ⟨_, I3, J, R, rfl, rfl, hR, hQ I3 J (sp_fr_tr (sp_mm g0) (sp_mm1 g3)) g4⟩
theorem rc_answers {f : Nat} {b : Bool} (hR : ow_RF R) (hC : sp_CN I T V) (hT : st_ok T) (hV : st_now T V) (hf : f < sp_n V) : sp_rc M_Fs_answers (d + 12) [.ref 0, .int (nI f), .int (sp_jb b)] I R (some (.int (sp_jo (sp_rep V f b)))) 0 := by
  intro J Q hQ
  apply t_Fs_answers hR
  refine c_Fs_lacksFolly hR hC.1 (show I 29 0 = nI (sp_n V) from hC.2.2.1) (by have := st_n6 hV; omega) ?_
  intro I2 g0 g1
  have hx : sp_is (nI f) (sp_n V) = true := decide_eq_true (by have := st_n6 hV; rw [nI_toInt (by omega)]; omega)
  rw [hx] at g1 ⊢
  have hC2 := sp_CN_k hC (sp_cm g0)
  refine ⟨_, I2, J, R, rfl, rfl, hR, ?_⟩
  refine ⟨fun _ => ?_, fun c => absurd rfl c⟩
  have K : ow_AM M_Scene_reply (d + 11) [.ref 29, .int (nI f), .int (sp_jb b)] (85, I2, J, R) (fun r h' => ∃ (r5 : Int32) (I5 : Nat → Nat → Int32) (J5 : Nat → Nat → Int64) (R5 : Nat → Nat → Option Nat), r = some (.int r5) ∧ h' = (85, I5, J5, R5) ∧ ow_RF R5 ∧ Q (some (.int r5)) (85, I5, J5, R5)) := c_Scene_reply hR (by decide) hC2.2.2 hV.1 hf ⟨_, I2, J, R, rfl, rfl, hR, hQ I2 J (sp_cm g0) g1⟩
  cases b with
  | false => exact ⟨fun _ => K, fun c => absurd rfl c⟩
  | true => exact ⟨fun c => absurd c (by decide), fun _ => K⟩
theorem rm_answers {f : Nat} {b : Bool} (hR : ow_RF R) (hM : sp_MN I T V) (hT : st_ok T) (hV : st_now T V) (hf : f < sp_n V) : sp_rm M_Mo_answers (d + 12) [.ref 70, .int (nI f), .int (sp_jb b)] I R (some (.int (sp_jo (sp_rep V f b)))) 0 := by
  intro J Q hQ
  apply t_Mo_answers hR
  refine c_Mo_good hR ?_
  intro I2 g0 g1 g2
  refine ⟨I2, J, R, rfl, rfl, hR, ?_⟩
  have h2 := sp_MN_k hM (sp_mm g0)
  have hx : sp_is (nI f) (sp_n V) = true := decide_eq_true (by have := st_n6 hV; rw [nI_toInt (by omega)]; omega)
  refine c_Mo_isFolly hR h2.1 (sp_MN_n h2 hV) (by have := st_n6 hV; omega) ?_
  rw [hx]
  refine ⟨_, I2, J, R, rfl, rfl, hR, ?_⟩
  refine ⟨fun _ => ?_, fun c => absurd c (by decide)⟩
  refine c_Mo_asToldShapes hR (sp_MN_n h2 hV) (st_n6 hV) (sp_MN_q h2 hV) ?_
  intro I3 g3 g4
  refine ⟨I3, J, R, rfl, rfl, hR, ?_⟩
  have f3 : sp_fr sp_mS sp_mE I I3 := sp_fr_tr (sp_mm g0) (sp_mh g3)
  have h3 := sp_MN_k hM f3
  have r3 : sp_Mr I3 77 V := sp_Mr_of h3.2.2 g4
  have t3 : I3 70 11 = 0 := by rw [g3 70 (by decide)]; exact g2
  have K : ow_AM M_Mo_answerOf (d + 11) [.ref 70, .ref 77, .int (nI f), .int (sp_jb b)] (85, I3, J, R) (fun r h' => ∃ (r5 : Int32) (I5 : Nat → Nat → Int32) (J5 : Nat → Nat → Int64) (R5 : Nat → Nat → Option Nat), r = some (.int r5) ∧ h' = (85, I5, J5, R5) ∧ ow_RF R5 ∧ Q (some (.int r5)) (85, I5, J5, R5)) := c_Mo_answerOf hR (by decide) r3 hV.1 hf ⟨_, I3, J, R, rfl, rfl, hR, hQ I3 J f3 t3⟩
  cases b with
  | false => exact ⟨fun _ => K, fun c => absurd rfl c⟩
  | true => exact ⟨fun c => absurd c (by decide), fun _ => K⟩
theorem rc_signs {f : Nat} {b : Bool} (hR : ow_RF R) (hC : sp_CN I T V) (hT : st_ok T) (hV : st_now T V) (hf : f < sp_n V) : sp_rc M_Fs_signs (d + 12) [.ref 0, .int (nI f), .int (sp_jb b)] I R (some (.int (sp_out (sp_go V 6 0 f b).2.2))) 0 := by
  intro J Q hQ
  apply t_Fs_signs hR
  refine c_Fs_lacksFolly hR hC.1 (show I 29 0 = nI (sp_n V) from hC.2.2.1) (by have := st_n6 hV; omega) ?_
  intro I2 g0 g1
  have hx : sp_is (nI f) (sp_n V) = true := decide_eq_true (by have := st_n6 hV; rw [nI_toInt (by omega)]; omega)
  rw [hx] at g1 ⊢
  have hC2 := sp_CN_k hC (sp_cm g0)
  refine ⟨_, I2, J, R, rfl, rfl, hR, ?_⟩
  refine ⟨fun _ => ?_, fun c => absurd rfl c⟩
  refine c_Course_run hR (by decide) (by decide) hC2.2.2 hV.1 hf rfl ?_
  intro I3 k0 k1 k2 k3 k4 k5
  refine ⟨I3, J, R, rfl, rfl, hR, ?_⟩
  have f3 : sp_fr sp_cS sp_cE I I3 := sp_fr_tr (sp_cm g0) (sp_cw k0 (by decide))
  have t3 : I3 0 15 = 0 := by rw [k0 0 (by decide)]; exact g1
  rw [k4]
  exact hQ I3 J f3 t3
theorem rc_signer {f : Nat} {b : Bool} (hR : ow_RF R) (hC : sp_CN I T V) (hT : st_ok T) (hV : st_now T V) (hf : f < sp_n V) : sp_rc M_Fs_signer (d + 12) [.ref 0, .int (nI f), .int (sp_jb b)] I R (some (.int (sp_last (sp_go V 6 0 f b).2.2))) 0 := by
  intro J Q hQ
  apply t_Fs_signer hR
  refine c_Fs_lacksFolly hR hC.1 (show I 29 0 = nI (sp_n V) from hC.2.2.1) (by have := st_n6 hV; omega) ?_
  intro I2 g0 g1
  have hx : sp_is (nI f) (sp_n V) = true := decide_eq_true (by have := st_n6 hV; rw [nI_toInt (by omega)]; omega)
  rw [hx] at g1 ⊢
  have hC2 := sp_CN_k hC (sp_cm g0)
  refine ⟨_, I2, J, R, rfl, rfl, hR, ?_⟩
  refine ⟨fun _ => ?_, fun c => absurd rfl c⟩
  refine c_Course_run hR (by decide) (by decide) hC2.2.2 hV.1 hf rfl ?_
  intro I3 k0 k1 k2 k3 k4 k5
  refine ⟨I3, J, R, rfl, rfl, hR, ?_⟩
  have f3 : sp_fr sp_cS sp_cE I I3 := sp_fr_tr (sp_cm g0) (sp_cw k0 (by decide))
  have t3 : I3 0 15 = 0 := by rw [k0 0 (by decide)]; exact g1
  rw [k3]
  exact hQ I3 J f3 t3
theorem rc_course {f : Nat} {b : Bool} (hR : ow_RF R) (hC : sp_CN I T V) (hT : st_ok T) (hV : st_now T V) (hf : f < sp_n V) : sp_rc M_Fs_course (d + 12) [.ref 0, .int (nI f), .int (sp_jb b)] I R (some (.int (nI (sp_go V 6 0 f b).2.1))) 0 := by
  intro J Q hQ
  apply t_Fs_course hR
  refine c_Fs_lacksFolly hR hC.1 (show I 29 0 = nI (sp_n V) from hC.2.2.1) (by have := st_n6 hV; omega) ?_
  intro I2 g0 g1
  have hx : sp_is (nI f) (sp_n V) = true := decide_eq_true (by have := st_n6 hV; rw [nI_toInt (by omega)]; omega)
  rw [hx] at g1 ⊢
  have hC2 := sp_CN_k hC (sp_cm g0)
  refine ⟨_, I2, J, R, rfl, rfl, hR, ?_⟩
  refine ⟨fun _ => ?_, fun c => absurd rfl c⟩
  refine c_Course_run hR (by decide) (by decide) hC2.2.2 hV.1 hf rfl ?_
  intro I3 k0 k1 k2 k3 k4 k5
  refine ⟨I3, J, R, rfl, rfl, hR, ?_⟩
  have f3 : sp_fr sp_cS sp_cE I I3 := sp_fr_tr (sp_cm g0) (sp_cw k0 (by decide))
  have t3 : I3 0 15 = 0 := by rw [k0 0 (by decide)]; exact g1
  rw [k2]
  exact hQ I3 J f3 t3
theorem rm_signs {f : Nat} {b : Bool} (hR : ow_RF R) (hM : sp_MN I T V) (hT : st_ok T) (hV : st_now T V) (hf : f < sp_n V) : sp_rm M_Mo_signs (d + 12) [.ref 70, .int (nI f), .int (sp_jb b)] I R (some (.int (sp_out (sp_go V 6 0 f b).2.2))) 0 := by
  intro J Q hQ
  apply t_Mo_signs hR
  refine c_Mo_good hR ?_
  intro I2 g0 g1 g2
  refine ⟨I2, J, R, rfl, rfl, hR, ?_⟩
  have h2 := sp_MN_k hM (sp_mm g0)
  have hx : sp_is (nI f) (sp_n V) = true := decide_eq_true (by have := st_n6 hV; rw [nI_toInt (by omega)]; omega)
  refine c_Mo_isFolly hR h2.1 (sp_MN_n h2 hV) (by have := st_n6 hV; omega) ?_
  rw [hx]
  refine ⟨_, I2, J, R, rfl, rfl, hR, ?_⟩
  refine ⟨fun _ => ?_, fun c => absurd c (by decide)⟩
  refine c_Mo_asToldShapes hR (sp_MN_n h2 hV) (st_n6 hV) (sp_MN_q h2 hV) ?_
  intro I3 g3 g4
  refine ⟨I3, J, R, rfl, rfl, hR, ?_⟩
  have f3 : sp_fr sp_mS sp_mE I I3 := sp_fr_tr (sp_mm g0) (sp_mh g3)
  have h3 := sp_MN_k hM f3
  have r3 : sp_Mr I3 77 V := sp_Mr_of h3.2.2 g4
  have t3 : I3 70 11 = 0 := by rw [g3 70 (by decide)]; exact g2
  refine c_Mo_letterOf hR ⟨_, I3, J, R, rfl, rfl, hR, ?_⟩
  have hb : decide (¬ sp_jb b = 0) = b := by cases b <;> decide
  rw [hb]
  refine t_Mo_signsOf (by decide) hR ?_
  refine c_Mo_goOver hR (by decide) r3 hV.1 hf rfl ?_
  intro I4 k0 k1 k2 k3 k4 k5
  refine ⟨I4, J, R, rfl, rfl, hR, ?_⟩
  have f4 : sp_fr sp_mS sp_mE I I4 := sp_fr_tr f3 (sp_mg k0)
  have t4 : I4 70 11 = 0 := by rw [k0 70 (by decide) 11 (by decide)]; exact t3
  rw [k4]
  exact ⟨_, I4, J, R, rfl, rfl, hR, hQ I4 J f4 t4⟩
theorem rm_signer {f : Nat} {b : Bool} (hR : ow_RF R) (hM : sp_MN I T V) (hT : st_ok T) (hV : st_now T V) (hf : f < sp_n V) : sp_rm M_Mo_signer (d + 12) [.ref 70, .int (nI f), .int (sp_jb b)] I R (some (.int (sp_last (sp_go V 6 0 f b).2.2))) 0 := by
  intro J Q hQ
  apply t_Mo_signer hR
  refine c_Mo_good hR ?_
  intro I2 g0 g1 g2
  refine ⟨I2, J, R, rfl, rfl, hR, ?_⟩
  have h2 := sp_MN_k hM (sp_mm g0)
  have hx : sp_is (nI f) (sp_n V) = true := decide_eq_true (by have := st_n6 hV; rw [nI_toInt (by omega)]; omega)
  refine c_Mo_isFolly hR h2.1 (sp_MN_n h2 hV) (by have := st_n6 hV; omega) ?_
  rw [hx]
  refine ⟨_, I2, J, R, rfl, rfl, hR, ?_⟩
  refine ⟨fun _ => ?_, fun c => absurd c (by decide)⟩
  refine c_Mo_asToldShapes hR (sp_MN_n h2 hV) (st_n6 hV) (sp_MN_q h2 hV) ?_
  intro I3 g3 g4
  refine ⟨I3, J, R, rfl, rfl, hR, ?_⟩
  have f3 : sp_fr sp_mS sp_mE I I3 := sp_fr_tr (sp_mm g0) (sp_mh g3)
  have h3 := sp_MN_k hM f3
  have r3 : sp_Mr I3 77 V := sp_Mr_of h3.2.2 g4
  have t3 : I3 70 11 = 0 := by rw [g3 70 (by decide)]; exact g2
  refine c_Mo_letterOf hR ⟨_, I3, J, R, rfl, rfl, hR, ?_⟩
  have hb : decide (¬ sp_jb b = 0) = b := by cases b <;> decide
  rw [hb]
  refine c_Mo_goOver hR (by decide) r3 hV.1 hf rfl ?_
  intro I4 k0 k1 k2 k3 k4 k5
  refine ⟨I4, J, R, rfl, rfl, hR, ?_⟩
  have f4 : sp_fr sp_mS sp_mE I I4 := sp_fr_tr f3 (sp_mg k0)
  have t4 : I4 70 11 = 0 := by rw [k0 70 (by decide) 11 (by decide)]; exact t3
  rw [k3]
  exact hQ I4 J f4 t4
theorem rm_course {f : Nat} {b : Bool} (hR : ow_RF R) (hM : sp_MN I T V) (hT : st_ok T) (hV : st_now T V) (hf : f < sp_n V) : sp_rm M_Mo_course (d + 12) [.ref 70, .int (nI f), .int (sp_jb b)] I R (some (.int (nI (sp_go V 6 0 f b).2.1))) 0 := by
  intro J Q hQ
  apply t_Mo_course hR
  refine c_Mo_good hR ?_
  intro I2 g0 g1 g2
  refine ⟨I2, J, R, rfl, rfl, hR, ?_⟩
  have h2 := sp_MN_k hM (sp_mm g0)
  have hx : sp_is (nI f) (sp_n V) = true := decide_eq_true (by have := st_n6 hV; rw [nI_toInt (by omega)]; omega)
  refine c_Mo_isFolly hR h2.1 (sp_MN_n h2 hV) (by have := st_n6 hV; omega) ?_
  rw [hx]
  refine ⟨_, I2, J, R, rfl, rfl, hR, ?_⟩
  refine ⟨fun _ => ?_, fun c => absurd c (by decide)⟩
  refine c_Mo_asToldShapes hR (sp_MN_n h2 hV) (st_n6 hV) (sp_MN_q h2 hV) ?_
  intro I3 g3 g4
  refine ⟨I3, J, R, rfl, rfl, hR, ?_⟩
  have f3 : sp_fr sp_mS sp_mE I I3 := sp_fr_tr (sp_mm g0) (sp_mh g3)
  have h3 := sp_MN_k hM f3
  have r3 : sp_Mr I3 77 V := sp_Mr_of h3.2.2 g4
  have t3 : I3 70 11 = 0 := by rw [g3 70 (by decide)]; exact g2
  refine c_Mo_letterOf hR ⟨_, I3, J, R, rfl, rfl, hR, ?_⟩
  have hb : decide (¬ sp_jb b = 0) = b := by cases b <;> decide
  rw [hb]
  refine c_Mo_goOver hR (by decide) r3 hV.1 hf rfl ?_
  intro I4 k0 k1 k2 k3 k4 k5
  refine ⟨I4, J, R, rfl, rfl, hR, ?_⟩
  have f4 : sp_fr sp_mS sp_mE I I4 := sp_fr_tr f3 (sp_mg k0)
  have t4 : I4 70 11 = 0 := by rw [k0 70 (by decide) 11 (by decide)]; exact t3
  rw [k2]
  exact hQ I4 J f4 t4
theorem rc_courseAt {f : Nat} {b : Bool} {i : Nat} (hR : ow_RF R) (hC : sp_CN I T V) (hT : st_ok T) (hV : st_now T V) (hf : f < sp_n V) (hi : i < (sp_go V 6 0 f b).1.length) : sp_rc M_Fs_courseAt (d + 12) [.ref 0, .int (nI f), .int (sp_jb b), .int (nI i)] I R (some (.int (nI ((sp_go V 6 0 f b).1.getD i 0)))) 0 := by
  intro J Q hQ
  apply t_Fs_courseAt hR
  refine c_Fs_lacksFolly hR hC.1 (show I 29 0 = nI (sp_n V) from hC.2.2.1) (by have := st_n6 hV; omega) ?_
  intro I2 g0 g1
  have hx : sp_is (nI f) (sp_n V) = true := decide_eq_true (by have := st_n6 hV; rw [nI_toInt (by omega)]; omega)
  rw [hx] at g1 ⊢
  have hC2 := sp_CN_k hC (sp_cm g0)
  refine ⟨_, I2, J, R, rfl, rfl, hR, ?_⟩
  refine ⟨fun _ => ?_, fun c => absurd rfl c⟩
  refine c_Course_run hR (by decide) (by decide) hC2.2.2 hV.1 hf rfl ?_
  intro I3 k0 k1 k2 k3 k4 k5
  refine ⟨I3, J, R, rfl, rfl, hR, ?_⟩
  have f3 : sp_fr sp_cS sp_cE I I3 := sp_fr_tr (sp_cm g0) (sp_cw k0 (by decide))
  have t3 : I3 0 15 = 0 := by rw [k0 0 (by decide)]; exact g1
  have hl := (sp_go_in hV.1 6 0 f b hf).2.2.1
  rw [k1]
  refine ⟨fun c => absurd c (nI_pos (by omega)), fun _ => ⟨fun _ => ⟨vp_in_nI (by omega) (by decide), ?_⟩, fun c => absurd (nI_lt hi (by omega)) c⟩⟩
  rw [sp_cl (by omega), k5 i hi]
  exact hQ I3 J f3 t3
theorem rm_courseAt {f : Nat} {b : Bool} {i : Nat} (hR : ow_RF R) (hM : sp_MN I T V) (hT : st_ok T) (hV : st_now T V) (hf : f < sp_n V) (hi : i < (sp_go V 6 0 f b).1.length) : sp_rm M_Mo_courseAt (d + 12) [.ref 70, .int (nI f), .int (sp_jb b), .int (nI i)] I R (some (.int (nI ((sp_go V 6 0 f b).1.getD i 0)))) 0 := by
  intro J Q hQ
  apply t_Mo_courseAt hR
  refine c_Mo_good hR ?_
  intro I2 g0 g1 g2
  refine ⟨I2, J, R, rfl, rfl, hR, ?_⟩
  have h2 := sp_MN_k hM (sp_mm g0)
  have hx : sp_is (nI f) (sp_n V) = true := decide_eq_true (by have := st_n6 hV; rw [nI_toInt (by omega)]; omega)
  refine c_Mo_isFolly hR h2.1 (sp_MN_n h2 hV) (by have := st_n6 hV; omega) ?_
  rw [hx]
  refine ⟨_, I2, J, R, rfl, rfl, hR, ?_⟩
  refine ⟨fun _ => ?_, fun c => absurd c (by decide)⟩
  refine c_Mo_asToldShapes hR (sp_MN_n h2 hV) (st_n6 hV) (sp_MN_q h2 hV) ?_
  intro I3 g3 g4
  refine ⟨I3, J, R, rfl, rfl, hR, ?_⟩
  have f3 : sp_fr sp_mS sp_mE I I3 := sp_fr_tr (sp_mm g0) (sp_mh g3)
  have h3 := sp_MN_k hM f3
  have r3 : sp_Mr I3 77 V := sp_Mr_of h3.2.2 g4
  have t3 : I3 70 11 = 0 := by rw [g3 70 (by decide)]; exact g2
  refine c_Mo_letterOf hR ⟨_, I3, J, R, rfl, rfl, hR, ?_⟩
  have hb : decide (¬ sp_jb b = 0) = b := by cases b <;> decide
  rw [hb]
  have hl := (sp_go_in hV.1 6 0 f b hf).2.2.1
  refine c_Mo_goOver hR (by decide) r3 hV.1 hf rfl ?_
  intro I4 k0 k1 k2 k3 k4 k5
  refine ⟨I4, J, R, rfl, rfl, hR, ?_⟩
  have f4 : sp_fr sp_mS sp_mE I I4 := sp_fr_tr f3 (sp_mg k0)
  have t4 : I4 70 11 = 0 := by rw [k0 70 (by decide) 11 (by decide)]; exact t3
  rw [k1]
  refine c_Mo_in hR (by omega) ?_
  have hy : sp_is (nI i) (sp_go V 6 0 f b).1.length = true := decide_eq_true (by rw [nI_toInt (by omega)]; omega)
  rw [hy]
  refine ⟨_, I4, J, R, rfl, rfl, hR, ?_⟩
  refine ⟨fun c => absurd c (by decide), fun _ => ⟨vp_in_nI (by omega) (by decide), ?_⟩⟩
  rw [sp_cl (by omega), k5 i hi]
  exact hQ I4 J f4 t4
theorem rc_courseAt_i {f : Nat} {b : Bool} {z : Int32} (hR : ow_RF R) (hC : sp_CN I T V) (hT : st_ok T) (hV : st_now T V) (hf : f < sp_n V) (hz : sp_is z (sp_go V 6 0 f b).1.length = false) : sp_rc M_Fs_courseAt (d + 12) [.ref 0, .int (nI f), .int (sp_jb b), .int z] I R (some (.int (-1))) 1 := by
  intro J Q hQ
  apply t_Fs_courseAt hR
  refine c_Fs_lacksFolly hR hC.1 (show I 29 0 = nI (sp_n V) from hC.2.2.1) (by have := st_n6 hV; omega) ?_
  intro I2 g0 g1
  have hx : sp_is (nI f) (sp_n V) = true := decide_eq_true (by have := st_n6 hV; rw [nI_toInt (by omega)]; omega)
  rw [hx] at g1 ⊢
  have hC2 := sp_CN_k hC (sp_cm g0)
  refine ⟨_, I2, J, R, rfl, rfl, hR, ?_⟩
  refine ⟨fun _ => ?_, fun c => absurd rfl c⟩
  refine c_Course_run hR (by decide) (by decide) hC2.2.2 hV.1 hf rfl ?_
  intro I3 k0 k1 k2 k3 k4 k5
  refine ⟨I3, J, R, rfl, rfl, hR, ?_⟩
  have f3 : sp_fr sp_cS sp_cE I I3 := sp_fr_tr (sp_cm g0) (sp_cw k0 (by decide))
  have t3 : I3 0 15 = 0 := by rw [k0 0 (by decide)]; exact g1
  have hl := (sp_go_in hV.1 6 0 f b hf).2.2.1
  rw [k1]
  rw [sp_is_lt (by omega)] at hz
  have K : ow_AM M_Fs_refused (d + 11) [.ref 0, .int 1] (85, I3, J, R) (fun r h' => ∃ (r5 : Int32) (I5 : Nat → Nat → Int32) (J5 : Nat → Nat → Int64) (R5 : Nat → Nat → Option Nat), r = some (.int r5) ∧ h' = (85, I5, J5, R5) ∧ ow_RF R5 ∧ Q (some (.int r5)) (85, I5, J5, R5)) := by
    refine c_Fs_refused hR ?_
    intro I4 m0 m1
    exact ⟨_, I4, J, R, rfl, rfl, hR, hQ I4 J (sp_fr_tr f3 (sp_cm m0)) m1⟩
  exact ⟨fun _ => K, fun c => ⟨fun c2 => absurd (And.intro c c2) (of_decide_eq_false hz), fun _ => K⟩⟩
theorem rm_courseAt_i {f : Nat} {b : Bool} {z : Int32} (hR : ow_RF R) (hM : sp_MN I T V) (hT : st_ok T) (hV : st_now T V) (hf : f < sp_n V) (hz : sp_is z (sp_go V 6 0 f b).1.length = false) : sp_rm M_Mo_courseAt (d + 12) [.ref 70, .int (nI f), .int (sp_jb b), .int z] I R (some (.int (-1))) 1 := by
  intro J Q hQ
  apply t_Mo_courseAt hR
  refine c_Mo_good hR ?_
  intro I2 g0 g1 g2
  refine ⟨I2, J, R, rfl, rfl, hR, ?_⟩
  have h2 := sp_MN_k hM (sp_mm g0)
  have hx : sp_is (nI f) (sp_n V) = true := decide_eq_true (by have := st_n6 hV; rw [nI_toInt (by omega)]; omega)
  refine c_Mo_isFolly hR h2.1 (sp_MN_n h2 hV) (by have := st_n6 hV; omega) ?_
  rw [hx]
  refine ⟨_, I2, J, R, rfl, rfl, hR, ?_⟩
  refine ⟨fun _ => ?_, fun c => absurd c (by decide)⟩
  refine c_Mo_asToldShapes hR (sp_MN_n h2 hV) (st_n6 hV) (sp_MN_q h2 hV) ?_
  intro I3 g3 g4
  refine ⟨I3, J, R, rfl, rfl, hR, ?_⟩
  have f3 : sp_fr sp_mS sp_mE I I3 := sp_fr_tr (sp_mm g0) (sp_mh g3)
  have h3 := sp_MN_k hM f3
  have r3 : sp_Mr I3 77 V := sp_Mr_of h3.2.2 g4
  have t3 : I3 70 11 = 0 := by rw [g3 70 (by decide)]; exact g2
  refine c_Mo_letterOf hR ⟨_, I3, J, R, rfl, rfl, hR, ?_⟩
  have hb : decide (¬ sp_jb b = 0) = b := by cases b <;> decide
  rw [hb]
  have hl := (sp_go_in hV.1 6 0 f b hf).2.2.1
  refine c_Mo_goOver hR (by decide) r3 hV.1 hf rfl ?_
  intro I4 k0 k1 k2 k3 k4 k5
  refine ⟨I4, J, R, rfl, rfl, hR, ?_⟩
  have f4 : sp_fr sp_mS sp_mE I I4 := sp_fr_tr f3 (sp_mg k0)
  have t4 : I4 70 11 = 0 := by rw [k0 70 (by decide) 11 (by decide)]; exact t3
  rw [k1]
  refine c_Mo_in hR (by omega) ?_
  rw [hz]
  refine ⟨_, I4, J, R, rfl, rfl, hR, ?_⟩
  refine ⟨fun _ => ?_, fun c => absurd rfl c⟩
  refine c_Mo_no hR ?_
  intro I5 m0 m1
  exact ⟨_, I5, J, R, rfl, rfl, hR, hQ I5 J (sp_fr_tr f4 (sp_mm1 m0)) m1⟩
theorem rc_served  (hR : ow_RF R) (hC : sp_CN I T V) (hT : st_ok T) (hV : st_now T V)  : sp_rc M_Fs_served (d + 12) [.ref 0] I R (some (.int (nI (sp_bits V (st_eo T))))) 0 := by
  intro J Q hQ
  apply t_Fs_served hR
  refine c_Fs_lacksShire hR hC.1 ?_
  intro I2 g0 g1
  have hC2 := sp_CN_k hC (sp_cm g0)
  refine ⟨_, I2, J, R, rfl, rfl, hR, ?_⟩
  refine ⟨fun _ => ?_, fun c => absurd rfl c⟩
  refine c_Serving_bitsServed hR (by decide) hC2.2.2 hV.1 (sp_CN_E hC2 hV) (st_eok hT) ?_
  intro I3 k0
  exact ⟨_, I3, J, R, rfl, rfl, hR, hQ I3 J (sp_fr_tr (sp_cm g0) (sp_cw k0 (by decide))) (by rw [k0 0 (by decide)]; exact g1)⟩
theorem rm_served  (hR : ow_RF R) (hM : sp_MN I T V) (hT : st_ok T) (hV : st_now T V)  : sp_rm M_Mo_served (d + 12) [.ref 70] I R (some (.int (nI (sp_bits V (st_eo T))))) 0 := by
  intro J Q hQ
  apply t_Mo_served hR
  refine c_Mo_good hR ?_
  intro I2 g0 g1 g2
  refine ⟨I2, J, R, rfl, rfl, hR, ?_⟩
  have h2 := sp_MN_k hM (sp_mm g0)
  rw [h2.1]
  refine ⟨fun _ => ?_, fun c => absurd c (by decide)⟩
  refine c_Mo_asToldShapes hR (sp_MN_n h2 hV) (st_n6 hV) (sp_MN_q h2 hV) ?_
  intro I3 g3 g4
  refine ⟨I3, J, R, rfl, rfl, hR, ?_⟩
  have f3 : sp_fr sp_mS sp_mE I I3 := sp_fr_tr (sp_mm g0) (sp_mh g3)
  have h3 := sp_MN_k hM f3
  have r3 : sp_Mr I3 77 V := sp_Mr_of h3.2.2 g4
  have t3 : I3 70 11 = 0 := by rw [g3 70 (by decide)]; exact g2
  refine c_Mo_servedOn hR (by decide) r3 (sp_MN_T h3 hT hV) hV.1 ?_
  intro I4 k0
  exact ⟨_, I4, J, R, rfl, rfl, hR, hQ I4 J (sp_fr_tr f3 (sp_mg k0)) (by rw [k0 70 (by decide) 11 (by decide)]; exact t3)⟩
theorem rc_serves {e : Nat} (hR : ow_RF R) (hC : sp_CN I T V) (hT : st_ok T) (hV : st_now T V) (he : e < st_ne T) : sp_rc M_Fs_serves (d + 12) [.ref 0, .int (nI e)] I R (some (.int (sp_lt V (st_eo T) e (2 * sp_n V)))) 0 := by
  intro J Q hQ
  apply t_Fs_serves hR
  refine c_Fs_lacksEstate hR hC.1 hC.2.1.2.2.1 (by have := hT.2.2.2.2.2.1; omega) ?_
  intro I2 g0 g1
  have hx : sp_is (nI e) (st_ne T) = true := decide_eq_true (by have := hT.2.2.2.2.2.1; rw [nI_toInt (by omega)]; omega)
  rw [hx] at g1 ⊢
  have hC2 := sp_CN_k hC (sp_cm g0)
  refine ⟨_, I2, J, R, rfl, rfl, hR, ?_⟩
  refine ⟨fun _ => ?_, fun c => absurd rfl c⟩
  refine c_Serving_lettersFor hR (by decide) hC2.2.2 hV.1 (sp_CN_E hC2 hV) (st_eok hT) (by have := hT.2.2.2.2.2.1; omega) ?_
  intro I3 k0
  exact ⟨_, I3, J, R, rfl, rfl, hR, hQ I3 J (sp_fr_tr (sp_cm g0) (sp_cw k0 (by decide))) (by rw [k0 0 (by decide)]; exact g1)⟩
theorem rm_serves {e : Nat} (hR : ow_RF R) (hM : sp_MN I T V) (hT : st_ok T) (hV : st_now T V) (he : e < st_ne T) : sp_rm M_Mo_serves (d + 12) [.ref 70, .int (nI e)] I R (some (.int (sp_lt V (st_eo T) e (2 * sp_n V)))) 0 := by
  intro J Q hQ
  apply t_Mo_serves hR
  refine c_Mo_good hR ?_
  intro I2 g0 g1 g2
  refine ⟨I2, J, R, rfl, rfl, hR, ?_⟩
  have h2 := sp_MN_k hM (sp_mm g0)
  have hx : sp_is (nI e) (st_ne T) = true := decide_eq_true (by have := hT.2.2.2.2.2.1; rw [nI_toInt (by omega)]; omega)
  refine c_Mo_isEstate hR h2.1 h2.2.1.2.2.2.1 (by have := hT.2.2.2.2.2.1; omega) ?_
  rw [hx]
  refine ⟨_, I2, J, R, rfl, rfl, hR, ?_⟩
  refine ⟨fun _ => ?_, fun c => absurd c (by decide)⟩
  refine c_Mo_asToldShapes hR (sp_MN_n h2 hV) (st_n6 hV) (sp_MN_q h2 hV) ?_
  intro I3 g3 g4
  refine ⟨I3, J, R, rfl, rfl, hR, ?_⟩
  have f3 : sp_fr sp_mS sp_mE I I3 := sp_fr_tr (sp_mm g0) (sp_mh g3)
  have h3 := sp_MN_k hM f3
  have r3 : sp_Mr I3 77 V := sp_Mr_of h3.2.2 g4
  have t3 : I3 70 11 = 0 := by rw [g3 70 (by decide)]; exact g2
  refine c_Mo_lettersFor hR r3 (sp_MN_T h3 hT hV) hV.1 (by have := hT.2.2.2.2.2.1; omega) ?_
  intro I4 k0
  exact ⟨_, I4, J, R, rfl, rfl, hR, hQ I4 J (sp_fr_tr f3 (sp_mg k0)) (by rw [k0 70 (by decide) 11 (by decide)]; exact t3)⟩
theorem rc_best {e : Nat} (hR : ow_RF R) (hC : sp_CN I T V) (hT : st_ok T) (hV : st_now T V) (he : e < st_ne T) : sp_rc M_Fs_best (d + 12) [.ref 0, .int (nI e)] I R (some (.int (sp_o1 (sp_be V (st_eo T) e (2 * sp_n V))))) 0 := by
  intro J Q hQ
  apply t_Fs_best hR
  refine c_Fs_lacksEstate hR hC.1 hC.2.1.2.2.1 (by have := hT.2.2.2.2.2.1; omega) ?_
  intro I2 g0 g1
  have hx : sp_is (nI e) (st_ne T) = true := decide_eq_true (by have := hT.2.2.2.2.2.1; rw [nI_toInt (by omega)]; omega)
  rw [hx] at g1 ⊢
  have hC2 := sp_CN_k hC (sp_cm g0)
  refine ⟨_, I2, J, R, rfl, rfl, hR, ?_⟩
  refine ⟨fun _ => ?_, fun c => absurd rfl c⟩
  refine c_Serving_findShortest hR (by decide) hC2.2.2 hV.1 (sp_CN_E hC2 hV) (st_eok hT) (by have := hT.2.2.2.2.2.1; omega) ?_
  intro I3 k0 m1 m2
  refine ⟨I3, J, R, rfl, rfl, hR, ?_⟩
  rw [m1]
  exact hQ I3 J (sp_fr_tr (sp_cm g0) (sp_fr_mono k0 (by decide) (by decide))) (by rw [k0 0 (by decide) 15 (by decide)]; exact g1)
theorem rc_shortest {e : Nat} (hR : ow_RF R) (hC : sp_CN I T V) (hT : st_ok T) (hV : st_now T V) (he : e < st_ne T) : sp_rc M_Fs_shortest (d + 12) [.ref 0, .int (nI e)] I R (some (.int (sp_o2 (sp_be V (st_eo T) e (2 * sp_n V))))) 0 := by
  intro J Q hQ
  apply t_Fs_shortest hR
  refine c_Fs_lacksEstate hR hC.1 hC.2.1.2.2.1 (by have := hT.2.2.2.2.2.1; omega) ?_
  intro I2 g0 g1
  have hx : sp_is (nI e) (st_ne T) = true := decide_eq_true (by have := hT.2.2.2.2.2.1; rw [nI_toInt (by omega)]; omega)
  rw [hx] at g1 ⊢
  have hC2 := sp_CN_k hC (sp_cm g0)
  refine ⟨_, I2, J, R, rfl, rfl, hR, ?_⟩
  refine ⟨fun _ => ?_, fun c => absurd rfl c⟩
  refine c_Serving_findShortest hR (by decide) hC2.2.2 hV.1 (sp_CN_E hC2 hV) (st_eok hT) (by have := hT.2.2.2.2.2.1; omega) ?_
  intro I3 k0 m1 m2
  refine ⟨I3, J, R, rfl, rfl, hR, ?_⟩
  rw [m2]
  exact hQ I3 J (sp_fr_tr (sp_cm g0) (sp_fr_mono k0 (by decide) (by decide))) (by rw [k0 0 (by decide) 15 (by decide)]; exact g1)
theorem rc_widest  (hR : ow_RF R) (hC : sp_CN I T V) (hT : st_ok T) (hV : st_now T V)  : sp_rc M_Fs_widest (d + 12) [.ref 0] I R (some (.int (sp_on (sp_wd V (st_eo T) (2 * sp_n V)).1))) 0 := by
  intro J Q hQ
  apply t_Fs_widest hR
  refine c_Fs_lacksShire hR hC.1 ?_
  intro I2 g0 g1
  have hC2 := sp_CN_k hC (sp_cm g0)
  refine ⟨_, I2, J, R, rfl, rfl, hR, ?_⟩
  refine ⟨fun _ => ?_, fun c => absurd rfl c⟩
  refine c_Serving_findWidest hR (by decide) hC2.2.2 hV.1 (sp_CN_E hC2 hV) (st_eok hT) ?_
  intro I3 k0
  exact ⟨_, I3, J, R, rfl, rfl, hR, hQ I3 J (sp_fr_tr (sp_cm g0) (sp_cw k0 (by decide))) (by rw [k0 0 (by decide)]; exact g1)⟩
theorem rc_pillar  (hR : ow_RF R) (hC : sp_CN I T V) (hT : st_ok T) (hV : st_now T V)  : sp_rc M_Fs_pillar (d + 12) [.ref 0] I R (some (.int (nI (sp_pl V (st_eo T) (sp_n V)).1))) 0 := by
  intro J Q hQ
  apply t_Fs_pillar hR
  refine c_Fs_lacksShire hR hC.1 ?_
  intro I2 g0 g1
  have hC2 := sp_CN_k hC (sp_cm g0)
  refine ⟨_, I2, J, R, rfl, rfl, hR, ?_⟩
  refine ⟨fun _ => ?_, fun c => absurd rfl c⟩
  refine c_Serving_mostNeeded hR (by decide) hC2.2.2 hV.1 (sp_CN_E hC2 hV) (st_eok hT) ?_
  intro I3 k0
  exact ⟨_, I3, J, R, rfl, rfl, hR, hQ I3 J (sp_fr_tr (sp_cm g0) (sp_cw k0 (by decide))) (by rw [k0 0 (by decide)]; exact g1)⟩
theorem rc_change  (hR : ow_RF R) (hC : sp_CN I T V) (hT : st_ok T) (hV : st_now T V)  : sp_rc M_Fs_change (d + 12) [.ref 0] I R (some (.int (sp_on (sp_co V (st_eo T) (sp_n V)).2))) 0 := by
  intro J Q hQ
  apply t_Fs_change hR
  refine c_Fs_lacksShire hR hC.1 ?_
  intro I2 g0 g1
  have hC2 := sp_CN_k hC (sp_cm g0)
  refine ⟨_, I2, J, R, rfl, rfl, hR, ?_⟩
  refine ⟨fun _ => ?_, fun c => absurd rfl c⟩
  refine c_Serving_findChange hR (by decide) hC2.2.2 hV.1 (sp_CN_E hC2 hV) (st_eok hT) ?_
  intro I3 k0 m0
  refine ⟨I3, J, R, rfl, rfl, hR, ?_⟩
  rw [m0.1]
  exact hQ I3 J (sp_fr_tr (sp_cm g0) (sp_fr_mono k0 (by decide) (by decide))) (by rw [k0 0 (by decide) 15 (by decide)]; exact g1)
end PUB
