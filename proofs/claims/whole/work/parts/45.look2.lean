/-! Own rows, by program: more methods that only look. -/
section PUB2
variable {d : Nat} {I : Nat → Nat → Int32} {R : Nat → Nat → Option Nat} {T : sp_T} {V : sp_V}
theorem rm_best {e : Nat} (hR : ow_RF R) (hM : sp_MN I T V) (hT : st_ok T) (hV : st_now T V) (he : e < st_ne T) : sp_rm M_Mo_best (d + 12) [.ref 70, .int (nI e)] I R (some (.int (sp_o1 (sp_be V (st_eo T) e (2 * sp_n V))))) 0 := by
  intro J Q hQ
  apply t_Mo_best hR
  refine c_Mo_good hR ?_
  intro I2 g0 g1 g2
  refine ⟨I2, J, R, rfl, rfl, hR, ?_⟩
  have h2 := sp_MN_k hM (sp_mm g0)
  have hx : sp_is (nI e) (st_ne T) = true := decide_eq_true (by have := hT.2.2.2.2.2.1; rw [nI_toInt (by omega)]; omega)
  refine c_Mo_isEstate hR h2.1 h2.2.1.2.2.2.1 (by have := hT.2.2.2.2.2.1; omega) ?_
  rw [hx]
  refine ⟨_, I2, J, R, rfl, rfl, hR, ?_⟩
  first | refine ⟨fun _ => ?_, fun c => absurd c (by decide)⟩ | refine ⟨fun c => absurd c (by decide), fun _ => ?_⟩
  refine c_Mo_asToldShapes hR (sp_MN_n h2 hV) (st_n6 hV) (sp_MN_q h2 hV) ?_
  intro I3 g3 g4
  refine ⟨I3, J, R, rfl, rfl, hR, ?_⟩
  have f3 : sp_fr sp_mS sp_mE I I3 := sp_fr_tr (sp_mm g0) (sp_mh g3)
  have h3 := sp_MN_k hM f3
  have r3 : sp_Mr I3 77 V := sp_Mr_of h3.2.2 g4
  have t3 : I3 70 11 = 0 := by rw [g3 70 (by decide)]; exact g2
  have hB : sp_MB I3 V (st_ne T) (st_ef T) := ⟨h3.2.2, g4, sp_MN_T h3 hT hV⟩
  refine c_Mo_bestFor hR hB hV.1 (by have := hT.2.2.2.2.2.1; omega) ?_
  intro I4 k0 k1
  refine ⟨_, I4, J, R, rfl, rfl, hR, ?_⟩
  exact hQ I4 J (sp_fr_tr f3 (sp_gm k0)) (by rw [k0 70 (by decide) 11 (by decide)]; exact t3)
theorem rm_shortest {e : Nat} (hR : ow_RF R) (hM : sp_MN I T V) (hT : st_ok T) (hV : st_now T V) (he : e < st_ne T) : sp_rm M_Mo_shortest (d + 12) [.ref 70, .int (nI e)] I R (some (.int (sp_o2 (sp_be V (st_eo T) e (2 * sp_n V))))) 0 := by
  intro J Q hQ
  apply t_Mo_shortest hR
  refine c_Mo_good hR ?_
  intro I2 g0 g1 g2
  refine ⟨I2, J, R, rfl, rfl, hR, ?_⟩
  have h2 := sp_MN_k hM (sp_mm g0)
  have hx : sp_is (nI e) (st_ne T) = true := decide_eq_true (by have := hT.2.2.2.2.2.1; rw [nI_toInt (by omega)]; omega)
  refine c_Mo_isEstate hR h2.1 h2.2.1.2.2.2.1 (by have := hT.2.2.2.2.2.1; omega) ?_
  rw [hx]
  refine ⟨_, I2, J, R, rfl, rfl, hR, ?_⟩
  first | refine ⟨fun _ => ?_, fun c => absurd c (by decide)⟩ | refine ⟨fun c => absurd c (by decide), fun _ => ?_⟩
  refine c_Mo_asToldShapes hR (sp_MN_n h2 hV) (st_n6 hV) (sp_MN_q h2 hV) ?_
  intro I3 g3 g4
  refine ⟨I3, J, R, rfl, rfl, hR, ?_⟩
  have f3 : sp_fr sp_mS sp_mE I I3 := sp_fr_tr (sp_mm g0) (sp_mh g3)
  have h3 := sp_MN_k hM f3
  have r3 : sp_Mr I3 77 V := sp_Mr_of h3.2.2 g4
  have t3 : I3 70 11 = 0 := by rw [g3 70 (by decide)]; exact g2
  have hB : sp_MB I3 V (st_ne T) (st_ef T) := ⟨h3.2.2, g4, sp_MN_T h3 hT hV⟩
  refine c_Mo_bestFor hR hB hV.1 (by have := hT.2.2.2.2.2.1; omega) ?_
  intro I4 k0 k1
  refine ⟨_, I4, J, R, rfl, rfl, hR, ?_⟩
  rw [k1]
  exact hQ I4 J (sp_fr_tr f3 (sp_gm k0)) (by rw [k0 70 (by decide) 11 (by decide)]; exact t3)
theorem rm_widest  (hR : ow_RF R) (hM : sp_MN I T V) (hT : st_ok T) (hV : st_now T V)  : sp_rm M_Mo_widest (d + 12) [.ref 70] I R (some (.int (sp_on (sp_wd V (st_eo T) (2 * sp_n V)).1))) 0 := by
  intro J Q hQ
  apply t_Mo_widest hR
  refine c_Mo_good hR ?_
  intro I2 g0 g1 g2
  refine ⟨I2, J, R, rfl, rfl, hR, ?_⟩
  have h2 := sp_MN_k hM (sp_mm g0)
  rw [h2.1]
  first | refine ⟨fun _ => ?_, fun c => absurd c (by decide)⟩ | refine ⟨fun c => absurd c (by decide), fun _ => ?_⟩
  refine c_Mo_asToldShapes hR (sp_MN_n h2 hV) (st_n6 hV) (sp_MN_q h2 hV) ?_
  intro I3 g3 g4
  refine ⟨I3, J, R, rfl, rfl, hR, ?_⟩
  have f3 : sp_fr sp_mS sp_mE I I3 := sp_fr_tr (sp_mm g0) (sp_mh g3)
  have h3 := sp_MN_k hM f3
  have r3 : sp_Mr I3 77 V := sp_Mr_of h3.2.2 g4
  have t3 : I3 70 11 = 0 := by rw [g3 70 (by decide)]; exact g2
  have hB : sp_MB I3 V (st_ne T) (st_ef T) := ⟨h3.2.2, g4, sp_MN_T h3 hT hV⟩
  refine c_Mo_widestL hR hB hV.1 ?_
  intro I4 k0
  exact hQ I4 J (sp_fr_tr f3 (sp_gm k0)) (by rw [k0 70 (by decide) 11 (by decide)]; exact t3)
theorem rm_pillar  (hR : ow_RF R) (hM : sp_MN I T V) (hT : st_ok T) (hV : st_now T V)  : sp_rm M_Mo_pillar (d + 12) [.ref 70] I R (some (.int (nI (sp_pl V (st_eo T) (sp_n V)).1))) 0 := by
  intro J Q hQ
  apply t_Mo_pillar hR
  refine c_Mo_good hR ?_
  intro I2 g0 g1 g2
  refine ⟨I2, J, R, rfl, rfl, hR, ?_⟩
  have h2 := sp_MN_k hM (sp_mm g0)
  rw [h2.1]
  first | refine ⟨fun _ => ?_, fun c => absurd c (by decide)⟩ | refine ⟨fun c => absurd c (by decide), fun _ => ?_⟩
  refine c_Mo_asToldShapes hR (sp_MN_n h2 hV) (st_n6 hV) (sp_MN_q h2 hV) ?_
  intro I3 g3 g4
  refine ⟨I3, J, R, rfl, rfl, hR, ?_⟩
  have f3 : sp_fr sp_mS sp_mE I I3 := sp_fr_tr (sp_mm g0) (sp_mh g3)
  have h3 := sp_MN_k hM f3
  have r3 : sp_Mr I3 77 V := sp_Mr_of h3.2.2 g4
  have t3 : I3 70 11 = 0 := by rw [g3 70 (by decide)]; exact g2
  have hB : sp_MB I3 V (st_ne T) (st_ef T) := ⟨h3.2.2, g4, sp_MN_T h3 hT hV⟩
  refine c_Mo_pillarL hR hB hV.1 (by rw [hV.2.1]; exact hT.2.1) ?_
  intro I4 k0
  exact hQ I4 J (sp_fr_tr f3 (sp_gm k0)) (by rw [k0 70 (by decide) 11 (by decide)]; exact t3)
theorem rm_change  (hR : ow_RF R) (hM : sp_MN I T V) (hT : st_ok T) (hV : st_now T V)  : sp_rm M_Mo_change (d + 12) [.ref 70] I R (some (.int (sp_on (sp_co V (st_eo T) (sp_n V)).2))) 0 := by
  intro J Q hQ
  apply t_Mo_change hR
  refine c_Mo_good hR ?_
  intro I2 g0 g1 g2
  refine ⟨I2, J, R, rfl, rfl, hR, ?_⟩
  have h2 := sp_MN_k hM (sp_mm g0)
  rw [h2.1]
  first | refine ⟨fun _ => ?_, fun c => absurd c (by decide)⟩ | refine ⟨fun c => absurd c (by decide), fun _ => ?_⟩
  refine c_Mo_changeOf hR h2.2.2 (sp_MN_q h2 hV) (sp_MN_T h2 hT hV) hV.1 ?_
  intro I4 k0 k1
  refine ⟨_, I4, J, R, rfl, rfl, hR, ?_⟩
  exact hQ I4 J (sp_fr_tr (sp_mm g0) (sp_fr_mono k0 (by decide) (by decide))) (by rw [k0 70 (by decide) 11 (by decide)]; exact g2)
theorem rm_changeServes  (hR : ow_RF R) (hM : sp_MN I T V) (hT : st_ok T) (hV : st_now T V)  : sp_rm M_Mo_changeServes (d + 12) [.ref 70] I R (some (.int (sp_ts (sp_co V (st_eo T) (sp_n V))))) 0 := by
  intro J Q hQ
  apply t_Mo_changeServes hR
  refine c_Mo_good hR ?_
  intro I2 g0 g1 g2
  refine ⟨I2, J, R, rfl, rfl, hR, ?_⟩
  have h2 := sp_MN_k hM (sp_mm g0)
  rw [h2.1]
  first | refine ⟨fun _ => ?_, fun c => absurd c (by decide)⟩ | refine ⟨fun c => absurd c (by decide), fun _ => ?_⟩
  refine c_Mo_changeOf hR h2.2.2 (sp_MN_q h2 hV) (sp_MN_T h2 hT hV) hV.1 ?_
  intro I4 k0 k1
  refine ⟨_, I4, J, R, rfl, rfl, hR, ?_⟩
  rw [k1]
  exact hQ I4 J (sp_fr_tr (sp_mm g0) (sp_fr_mono k0 (by decide) (by decide))) (by rw [k0 70 (by decide) 11 (by decide)]; exact g2)
theorem rc_changeServes  (hR : ow_RF R) (hC : sp_CN I T V) (hT : st_ok T) (hV : st_now T V)  : sp_rc M_Fs_changeServes (d + 12) [.ref 0] I R (some (.int (sp_ts (sp_co V (st_eo T) (sp_n V))))) 0 := by
  intro J Q hQ
  apply t_Fs_changeServes hR
  refine c_Fs_lacksShire hR hC.1 ?_
  intro I2 g0 g1
  have hC2 := sp_CN_k hC (sp_cm g0)
  refine ⟨_, I2, J, R, rfl, rfl, hR, ?_⟩
  first | refine ⟨fun _ => ?_, fun c => absurd rfl c⟩ | refine ⟨fun c => absurd rfl c, fun _ => ?_⟩
  refine c_Serving_findChange hR (by decide) hC2.2.2 hV.1 (sp_CN_E hC2 hV) (st_eok hT) ?_
  intro I3 k0 m0
  refine ⟨I3, J, R, rfl, rfl, hR, ?_⟩
  rw [m0.2]
  exact hQ I3 J (sp_fr_tr (sp_cm g0) (sp_fr_mono k0 (by decide) (by decide))) (by rw [k0 0 (by decide) 15 (by decide)]; exact g1)
theorem rc_servedIf {f t : Nat} (hR : ow_RF R) (hC : sp_CN I T V) (hT : st_ok T) (hV : st_now T V) (hf : f < sp_n V) (ht : t < sp_n V) : sp_rc M_Fs_servedIf (d + 12) [.ref 0, .int (nI f), .int (nI t)] I R (some (.int (nI (sp_pc (sp_bits (sp_send V f (sp_swt f t)) (st_eo T)))))) 0 := by
  intro J Q hQ
  apply t_Fs_servedIf hR
  refine c_Fs_lacksFolly hR hC.1 (show I 29 0 = nI (sp_n V) from hC.2.2.1) (by have := st_n6 hV; omega) ?_
  intro I2 g0 g1
  have hx : sp_is (nI f) (sp_n V) = true := decide_eq_true (by have := st_n6 hV; rw [nI_toInt (by omega)]; omega)
  rw [hx] at g1 ⊢
  have hC2 := sp_CN_k hC (sp_cm g0)
  refine ⟨_, I2, J, R, rfl, rfl, hR, ?_⟩
  first | refine ⟨fun _ => ?_, fun c => absurd rfl c⟩ | refine ⟨fun c => absurd rfl c, fun _ => ?_⟩
  refine c_Fs_lacksFolly hR hC2.1 (show I2 29 0 = nI (sp_n V) from hC2.2.2.1) (by have := st_n6 hV; omega) ?_
  intro I3 k0 k1
  have hx2 : sp_is (nI t) (sp_n V) = true := decide_eq_true (by have := st_n6 hV; rw [nI_toInt (by omega)]; omega)
  rw [hx2] at k1 ⊢
  have f3 : sp_fr sp_cS sp_cE I I3 := sp_fr_tr (sp_cm g0) (sp_cm k0)
  have hC3 := sp_CN_k hC f3
  have hn6 := st_n6 hV
  refine ⟨_, I3, J, R, rfl, rfl, hR, ?_⟩
  first | refine ⟨fun _ => ?_, fun c => absurd rfl c⟩ | refine ⟨fun c => absurd rfl c, fun _ => ?_⟩
  refine c_Scene_take hR (by decide) (by decide) (by decide) hC3.2.2 hn6 ?_
  intro I4 m0 m1
  refine ⟨I4, J, R, rfl, rfl, hR, ?_⟩
  have f4 : sp_fr sp_cS sp_cE I I4 := sp_fr_tr f3 (sp_cw m0 (by decide))
  have t4 : I4 0 15 = 0 := by rw [m0 0 (by decide)]; exact k1
  have K : ∀ I5 : Nat → Nat → Int32, I5 = ow_u I4 36 f (sp_tg (sp_swt f t)) → ow_AM M_Serving_countServed (d + 11) [.ref 39, .ref 33] (85, I5, J, R) (fun r h' => ∃ (r5 : Int32) (I5 : Nat → Nat → Int32) (J5 : Nat → Nat → Int64) (R5 : Nat → Nat → Option Nat), r = some (.int r5) ∧ h' = (85, I5, J5, R5) ∧ ow_RF R5 ∧ Q (some (.int r5)) (85, I5, J5, R5)) := by
    intro I5 e5
    have f5 : sp_fr sp_cS sp_cE I I5 := sp_fr_tr f4 (sp_fr_ue e5 (Or.inl (by decide)))
    have s5 : sp_S I5 33 (sp_send V f (sp_swt f t)) := sp_S_to m1 e5
    refine c_Serving_countServed hR (by decide) s5 (sp_send_ok hV.1 ?_) (fun g hg => sp_CN_E (sp_CN_k hC f5) hV g hg) (st_eok hT) ?_
    · unfold sp_swt
      by_cases h : t = f
      · rw [if_pos h]; omega
      · rw [if_neg h]; omega
    · intro I6 n0
      exact ⟨_, I6, J, R, rfl, rfl, hR, hQ I6 J (sp_fr_tr f5 (sp_cw n0 (by decide))) (by rw [n0 0 (by decide), e5, ow_u_ne (by decide)]; exact t4)⟩
  refine c_Scene_aim (n := sp_n V) hR (by decide) (show 33 + 3 = 36 from rfl) m1.1 hn6 hf ?_
  intro I5 e5
  refine ⟨I5, J, R, rfl, rfl, hR, K I5 ?_⟩
  have hx3 : (if nI t = nI f then (-2 : Int32) else nI t) = sp_tg (sp_swt f t) := by
    unfold sp_swt
    by_cases h : t = f
    · rw [if_pos (show nI t = nI f by rw [h]), if_pos h]
      rfl
    · rw [if_neg (fun c => h ((nI_eq (by omega) (by omega)).mp c)), if_neg h]
      rfl
  rw [← hx3]
  exact e5
theorem rc_servedIf_no {x : Int32} {y : Int32} (hR : ow_RF R) (hC : sp_CN I T V) (hT : st_ok T) (hV : st_now T V) (hx : sp_is x (sp_n V) = false) : sp_rc M_Fs_servedIf (d + 12) [.ref 0, .int x, .int y] I R (some (.int (-1))) 1 := by
  intro J Q hQ
  apply t_Fs_servedIf hR
  refine c_Fs_lacksFolly hR hC.1 (show I 29 0 = nI (sp_n V) from hC.2.2.1) (by have := st_n6 hV; omega) ?_
  intro I2 g0 g1
  rw [hx] at g1 ⊢
  refine ⟨_, I2, J, R, rfl, rfl, hR, ?_⟩
  first | exact ⟨fun c => absurd c (by decide), fun _ => hQ I2 J (sp_cm g0) g1⟩ | exact ⟨fun _ => hQ I2 J (sp_cm g0) g1, fun c => absurd c (by decide)⟩
theorem rc_servedIf_no2 {f : Nat} {x : Int32} (hR : ow_RF R) (hC : sp_CN I T V) (hT : st_ok T) (hV : st_now T V) (hf : f < sp_n V) (hy : sp_is x (sp_n V) = false) : sp_rc M_Fs_servedIf (d + 12) [.ref 0, .int (nI f), .int x] I R (some (.int (-1))) 1 := by
  intro J Q hQ
  apply t_Fs_servedIf hR
  refine c_Fs_lacksFolly hR hC.1 (show I 29 0 = nI (sp_n V) from hC.2.2.1) (by have := st_n6 hV; omega) ?_
  intro I2 g0 g1
  have hx : sp_is (nI f) (sp_n V) = true := decide_eq_true (by have := st_n6 hV; rw [nI_toInt (by omega)]; omega)
  rw [hx] at g1 ⊢
  have hC2 := sp_CN_k hC (sp_cm g0)
  refine ⟨_, I2, J, R, rfl, rfl, hR, ?_⟩
  first | refine ⟨fun _ => ?_, fun c => absurd rfl c⟩ | refine ⟨fun c => absurd rfl c, fun _ => ?_⟩
  refine c_Fs_lacksFolly hR hC2.1 (show I2 29 0 = nI (sp_n V) from hC2.2.2.1) (by have := st_n6 hV; omega) ?_
  intro I3 k0 k1
  rw [hy] at k1 ⊢
  refine ⟨_, I3, J, R, rfl, rfl, hR, ?_⟩
  first | refine ⟨fun _ => ?_, fun c => absurd c (by decide)⟩ | refine ⟨fun c => absurd c (by decide), fun _ => ?_⟩
  exact hQ I3 J (sp_fr_tr (sp_cm g0) (sp_cm k0)) k1
theorem rm_servedIf_no (hR : ow_RF R) (hM : sp_MN I T V) (hT : st_ok T) (hV : st_now T V) {x y : Int32} (hx : sp_is x (sp_n V) = false) : sp_rm M_Mo_servedIf (d + 12) [.ref 70, .int x, .int y] I R (some (.int (-1))) 1 := by
  intro J Q hQ
  apply t_Mo_servedIf hR
  refine c_Mo_good hR ?_
  intro I2 g0 g1 g2
  refine ⟨I2, J, R, rfl, rfl, hR, ?_⟩
  have h2 := sp_MN_k hM (sp_mm g0)
  refine c_Mo_isFolly hR h2.1 (sp_MN_n h2 hV) (by have := st_n6 hV; omega) ?_
  rw [hx]
  refine ⟨_, I2, J, R, rfl, rfl, hR, ?_⟩
  first | refine ⟨fun _ => ?_, fun c => absurd rfl c⟩ | refine ⟨fun c => absurd rfl c, fun _ => ?_⟩
  refine c_Mo_no hR ?_
  intro I9 n3 n4
  exact ⟨_, I9, J, R, rfl, rfl, hR, hQ I9 J (sp_fr_tr (sp_mm g0) (sp_mm1 n3)) n4⟩
theorem rm_servedIf_no2 {f : Nat} {x : Int32} (hR : ow_RF R) (hM : sp_MN I T V) (hT : st_ok T) (hV : st_now T V) (hf : f < sp_n V) (hy : sp_is x (sp_n V) = false) : sp_rm M_Mo_servedIf (d + 12) [.ref 70, .int (nI f), .int x] I R (some (.int (-1))) 1 := by
  intro J Q hQ
  apply t_Mo_servedIf hR
  refine c_Mo_good hR ?_
  intro I2 g0 g1 g2
  refine ⟨I2, J, R, rfl, rfl, hR, ?_⟩
  have h2 := sp_MN_k hM (sp_mm g0)
  have hx : sp_is (nI f) (sp_n V) = true := decide_eq_true (by have := st_n6 hV; rw [nI_toInt (by omega)]; omega)
  refine c_Mo_isFolly hR h2.1 (sp_MN_n h2 hV) (by have := st_n6 hV; omega) ?_
  rw [hx]
  refine ⟨_, I2, J, R, rfl, rfl, hR, ?_⟩
  first | refine ⟨fun _ => ?_, fun c => absurd c (by decide)⟩ | refine ⟨fun c => absurd c (by decide), fun _ => ?_⟩
  refine c_Mo_isFolly hR h2.1 (sp_MN_n h2 hV) (by have := st_n6 hV; omega) ?_
  rw [hy]
  refine ⟨_, I2, J, R, rfl, rfl, hR, ?_⟩
  first | refine ⟨fun _ => ?_, fun c => absurd rfl c⟩ | refine ⟨fun c => absurd rfl c, fun _ => ?_⟩
  refine c_Mo_no hR ?_
  intro I9 n3 n4
  exact ⟨_, I9, J, R, rfl, rfl, hR, hQ I9 J (sp_fr_tr (sp_mm g0) (sp_mm1 n3)) n4⟩
theorem rm_servedIf {f t : Nat} (hR : ow_RF R) (hM : sp_MN I T V) (hT : st_ok T) (hV : st_now T V) (hf : f < sp_n V) (ht : t < sp_n V) : sp_rm M_Mo_servedIf (d + 12) [.ref 70, .int (nI f), .int (nI t)] I R (some (.int (nI (sp_pc (sp_bits (sp_send V f (sp_swt f t)) (st_eo T)))))) 0 := by
  intro J Q hQ
  apply t_Mo_servedIf hR
  refine c_Mo_good hR ?_
  intro I2 g0 g1 g2
  refine ⟨I2, J, R, rfl, rfl, hR, ?_⟩
  have h2 := sp_MN_k hM (sp_mm g0)
  have hx : sp_is (nI f) (sp_n V) = true := decide_eq_true (by have := st_n6 hV; rw [nI_toInt (by omega)]; omega)
  refine c_Mo_isFolly hR h2.1 (sp_MN_n h2 hV) (by have := st_n6 hV; omega) ?_
  rw [hx]
  refine ⟨_, I2, J, R, rfl, rfl, hR, ?_⟩
  first | refine ⟨fun _ => ?_, fun c => absurd c (by decide)⟩ | refine ⟨fun c => absurd c (by decide), fun _ => ?_⟩
  refine c_Mo_isFolly hR h2.1 (sp_MN_n h2 hV) (by have := st_n6 hV; omega) ?_
  have hx2 : sp_is (nI t) (sp_n V) = true := decide_eq_true (by have := st_n6 hV; rw [nI_toInt (by omega)]; omega)
  rw [hx2]
  refine ⟨_, I2, J, R, rfl, rfl, hR, ?_⟩
  first | refine ⟨fun _ => ?_, fun c => absurd c (by decide)⟩ | refine ⟨fun c => absurd c (by decide), fun _ => ?_⟩
  refine c_Mo_asToldShapes hR (sp_MN_n h2 hV) (st_n6 hV) (sp_MN_q h2 hV) ?_
  intro I3 g3 g4
  refine ⟨I3, J, R, rfl, rfl, hR, ?_⟩
  have f3 : sp_fr sp_mS sp_mE I I3 := sp_fr_tr (sp_mm g0) (sp_mh g3)
  have h3 := sp_MN_k hM f3
  have r3 : sp_Mr I3 77 V := sp_Mr_of h3.2.2 g4
  have t3 : I3 70 11 = 0 := by rw [g3 70 (by decide)]; exact g2
  have hB : sp_MB I3 V (st_ne T) (st_ef T) := ⟨h3.2.2, g4, sp_MN_T h3 hT hV⟩
  refine c_Mo_servedWith hR hB.1 hB.2.1 hB.2.2 hV.1 hf ht ?_
  intro I4 k0
  exact ⟨_, I4, J, R, rfl, rfl, hR, hQ I4 J (sp_fr_tr f3 (sp_mg2 k0)) (by rw [k0 70 (by decide) 11 (by decide)]; exact t3)⟩
end PUB2
