/-! Own rows, by program: methods of the veiled ones. -/
theorem sp_FT_c {I I2 : Nat → Nat → Int32} {T : sp_T} (h : sp_FT I T) (hf : sp_fr sp_cS sp_cE I I2) : sp_FT I2 T := sp_FT_k h (hf 54 (by decide) 4 (by decide)) (sp_fr_row hf (by decide) (by simp [sp_cE]))
section PUB5
variable {d : Nat} {I : Nat → Nat → Int32} {R : Nat → Nat → Option Nat} {T : sp_T} {V : sp_V}
theorem rc_fits  (hR : ow_RF R) (hC : sp_CN I T V) (hT : st_ok T) (hV : st_now T V) (hF : sp_FT I T)  : sp_rc M_Fs_fits (d + 12) [.ref 0] I R (some (.int (nI (sp_flk T (sp_nf T)).length))) 0 := by
  intro J Q hQ
  apply t_Fs_fits hR
  refine c_Fs_lacksShire hR hC.1 ?_
  intro I2 g0 g1
  have hC2 := sp_CN_k hC (sp_cm g0)
  refine ⟨_, I2, J, R, rfl, rfl, hR, ?_⟩
  first | refine ⟨fun _ => ?_, fun c => absurd rfl c⟩ | refine ⟨fun c => absurd rfl c, fun _ => ?_⟩
  have hF2 := sp_FT_c hF (sp_cm g0)
  have hlen := sp_flk_len (T := T) (sp_nf T)
  have hnf := sp_nf_le hT
  rw [hF2.1]
  exact hQ I2 J (sp_cm g0) g1
theorem rm_fits  (hR : ow_RF R) (hM : sp_MN I T V) (hT : st_ok T) (hV : st_now T V)  : sp_rm M_Mo_fits (d + 12) [.ref 70] I R (some (.int (nI (sp_flk T (sp_nf T)).length))) 0 := by
  intro J Q hQ
  apply t_Mo_fits hR
  refine c_Mo_good hR ?_
  intro I2 g0 g1 g2
  refine ⟨I2, J, R, rfl, rfl, hR, ?_⟩
  have h2 := sp_MN_k hM (sp_mm g0)
  rw [h2.1]
  first | refine ⟨fun _ => ?_, fun c => absurd c (by decide)⟩ | refine ⟨fun c => absurd c (by decide), fun _ => ?_⟩
  refine c_Mo_fitsL hR h2.2.1 hT ?_
  intro I4 k0
  exact hQ I4 J (sp_fr_tr (sp_mm g0) (sp_mg3 k0)) (by rw [k0 70 (by decide) 11 (by decide)]; exact g2)
theorem rc_tryLetter  (hR : ow_RF R) (hC : sp_CN I T V) (hT : st_ok T) (hV : st_now T V) (hF : sp_FT I T)  : sp_rc M_Fs_tryLetter (d + 12) [.ref 0] I R (some (.int (sp_o1 (sp_try T)))) 0 := by
  intro J Q hQ
  apply t_Fs_tryLetter hR
  refine c_Fs_lacksShire hR hC.1 ?_
  intro I2 g0 g1
  have hC2 := sp_CN_k hC (sp_cm g0)
  refine ⟨_, I2, J, R, rfl, rfl, hR, ?_⟩
  first | refine ⟨fun _ => ?_, fun c => absurd rfl c⟩ | refine ⟨fun c => absurd rfl c, fun _ => ?_⟩
  have hF2 := sp_FT_c hF (sp_cm g0)
  have hlen := sp_flk_len (T := T) (sp_nf T)
  have hnf := sp_nf_le hT
  refine c_Fits_findTry hR hC2.2.1 hF2 hT ?_
  intro I4 m0 m1 m2
  refine ⟨I4, J, R, rfl, rfl, hR, ?_⟩
  rw [m1]
  exact hQ I4 J (sp_fr_tr (sp_cm g0) (sp_fr_mono m0 (by decide) (by decide))) (by rw [m0 0 (by decide) 15 (by decide)]; exact g1)
theorem rm_tryLetter  (hR : ow_RF R) (hM : sp_MN I T V) (hT : st_ok T) (hV : st_now T V)  : sp_rm M_Mo_tryLetter (d + 12) [.ref 70] I R (some (.int (sp_o1 (sp_try T)))) 0 := by
  intro J Q hQ
  apply t_Mo_tryLetter hR
  refine c_Mo_good hR ?_
  intro I2 g0 g1 g2
  refine ⟨I2, J, R, rfl, rfl, hR, ?_⟩
  have h2 := sp_MN_k hM (sp_mm g0)
  rw [h2.1]
  first | refine ⟨fun _ => ?_, fun c => absurd c (by decide)⟩ | refine ⟨fun c => absurd c (by decide), fun _ => ?_⟩
  refine c_Mo_tryOf hR h2.2.1 hT ?_
  intro I4 k0 k1
  refine ⟨_, I4, J, R, rfl, rfl, hR, ?_⟩
  exact hQ I4 J (sp_fr_tr (sp_mm g0) (sp_mg3 k0)) (by rw [k0 70 (by decide) 11 (by decide)]; exact g2)
theorem rc_tryLeaves  (hR : ow_RF R) (hC : sp_CN I T V) (hT : st_ok T) (hV : st_now T V) (hF : sp_FT I T)  : sp_rc M_Fs_tryLeaves (d + 12) [.ref 0] I R (some (.int (sp_o2 (sp_try T)))) 0 := by
  intro J Q hQ
  apply t_Fs_tryLeaves hR
  refine c_Fs_lacksShire hR hC.1 ?_
  intro I2 g0 g1
  have hC2 := sp_CN_k hC (sp_cm g0)
  refine ⟨_, I2, J, R, rfl, rfl, hR, ?_⟩
  first | refine ⟨fun _ => ?_, fun c => absurd rfl c⟩ | refine ⟨fun c => absurd rfl c, fun _ => ?_⟩
  have hF2 := sp_FT_c hF (sp_cm g0)
  have hlen := sp_flk_len (T := T) (sp_nf T)
  have hnf := sp_nf_le hT
  refine c_Fits_findTry hR hC2.2.1 hF2 hT ?_
  intro I4 m0 m1 m2
  refine ⟨I4, J, R, rfl, rfl, hR, ?_⟩
  rw [m2]
  exact hQ I4 J (sp_fr_tr (sp_cm g0) (sp_fr_mono m0 (by decide) (by decide))) (by rw [m0 0 (by decide) 15 (by decide)]; exact g1)
theorem rm_tryLeaves  (hR : ow_RF R) (hM : sp_MN I T V) (hT : st_ok T) (hV : st_now T V)  : sp_rm M_Mo_tryLeaves (d + 12) [.ref 70] I R (some (.int (sp_o2 (sp_try T)))) 0 := by
  intro J Q hQ
  apply t_Mo_tryLeaves hR
  refine c_Mo_good hR ?_
  intro I2 g0 g1 g2
  refine ⟨I2, J, R, rfl, rfl, hR, ?_⟩
  have h2 := sp_MN_k hM (sp_mm g0)
  rw [h2.1]
  first | refine ⟨fun _ => ?_, fun c => absurd c (by decide)⟩ | refine ⟨fun c => absurd c (by decide), fun _ => ?_⟩
  refine c_Mo_tryOf hR h2.2.1 hT ?_
  intro I4 k0 k1
  refine ⟨_, I4, J, R, rfl, rfl, hR, ?_⟩
  rw [k1]
  exact hQ I4 J (sp_fr_tr (sp_mm g0) (sp_mg3 k0)) (by rw [k0 70 (by decide) 11 (by decide)]; exact g2)
theorem rc_judge  (hR : ow_RF R) (hC : sp_CN I T V) (hT : st_ok T) (hV : st_now T V) (hF : sp_FT I T)  : sp_rc M_Fs_judge (d + 12) [.ref 0] I R (some (.int (sp_fuw T (st_v T) (st_ns T) 0))) 0 := by
  intro J Q hQ
  apply t_Fs_judge hR
  refine c_Fs_lacksShire hR hC.1 ?_
  intro I2 g0 g1
  have hC2 := sp_CN_k hC (sp_cm g0)
  refine ⟨_, I2, J, R, rfl, rfl, hR, ?_⟩
  first | refine ⟨fun _ => ?_, fun c => absurd rfl c⟩ | refine ⟨fun c => absurd rfl c, fun _ => ?_⟩
  have hF2 := sp_FT_c hF (sp_cm g0)
  have hlen := sp_flk_len (T := T) (sp_nf T)
  have hnf := sp_nf_le hT
  refine t_Fits_firstUntrue hR ?_
  refine c_Fits_firstUntrueOf hR (by decide) hC2.2.1 hT hC2.2.1.2.2.2.2.2.1 hT.1 rfl ?_
  intro I4 m0
  refine ⟨_, I4, J, R, rfl, rfl, hR, ?_⟩
  exact ⟨_, I4, J, R, rfl, rfl, hR, hQ I4 J (sp_fr_tr (sp_cm g0) (sp_cw m0 (by decide))) (by rw [m0 0 (by decide)]; exact g1)⟩
theorem rm_judge  (hR : ow_RF R) (hM : sp_MN I T V) (hT : st_ok T) (hV : st_now T V)  : sp_rm M_Mo_judge (d + 12) [.ref 70] I R (some (.int (sp_fuw T (st_v T) (st_ns T) 0))) 0 := by
  intro J Q hQ
  apply t_Mo_judge hR
  refine c_Mo_good hR ?_
  intro I2 g0 g1 g2
  refine ⟨I2, J, R, rfl, rfl, hR, ?_⟩
  have h2 := sp_MN_k hM (sp_mm g0)
  rw [h2.1]
  first | refine ⟨fun _ => ?_, fun c => absurd c (by decide)⟩ | refine ⟨fun c => absurd c (by decide), fun _ => ?_⟩
  refine c_Mo_wrongByT hR h2.2.1 hT ?_
  intro I4 k0
  exact ⟨_, I4, J, R, rfl, rfl, hR, hQ I4 J (sp_fr_tr (sp_mm g0) (sp_mg3 k0)) (by rw [k0 70 (by decide) 11 (by decide)]; exact g2)⟩
theorem rc_fitAt {i k : Nat} (hR : ow_RF R) (hC : sp_CN I T V) (hT : st_ok T) (hV : st_now T V) (hF : sp_FT I T) (hi : i < (sp_flk T (sp_nf T)).length) (hk : k < st_nv T) : sp_rc M_Fs_fitAt (d + 12) [.ref 0, .int (nI i), .int (nI k)] I R (some (.int (nI (sp_shp (st_nv T) ((sp_flk T (sp_nf T)).getD i 0) k)))) 0 := by
  intro J Q hQ
  apply t_Fs_fitAt hR
  refine c_Fs_lacksShire hR hC.1 ?_
  intro I2 g0 g1
  have hC2 := sp_CN_k hC (sp_cm g0)
  refine ⟨_, I2, J, R, rfl, rfl, hR, ?_⟩
  first | refine ⟨fun _ => ?_, fun c => absurd rfl c⟩ | refine ⟨fun c => absurd rfl c, fun _ => ?_⟩
  have hF2 := sp_FT_c hF (sp_cm g0)
  have hlen := sp_flk_len (T := T) (sp_nf T)
  have hnf := sp_nf_le hT
  have hnv := hT.2.2.2.2.2.2.2.1
  rw [hF2.1, hC2.2.1.2.2.2.1]
  refine ⟨fun c => absurd c (nI_pos (by omega)), fun _ => ⟨fun c => absurd c (nI_ge hi (by omega)), fun _ => ⟨fun c => absurd c (nI_pos (by omega)), fun _ => ⟨fun _ => ⟨vp_in_nI (by omega) (by decide), ?_⟩, fun c => absurd (nI_lt hk (by omega)) c⟩⟩⟩⟩
  rw [sp_cl (by omega), hF2.2 i hi]
  exact c_Fits_shapeBy hR hC2.2.1.2.2.2.1 hT (sp_flk_in (sp_gd_mem hi)) hk ⟨_, I2, J, R, rfl, rfl, hR, hQ I2 J (sp_cm g0) g1⟩
theorem rc_fitAt_no {x y : Int32} (hR : ow_RF R) (hC : sp_CN I T V) (hT : st_ok T) (hV : st_now T V) (hF : sp_FT I T) (hx : (sp_is x (sp_flk T (sp_nf T)).length && sp_is y (st_nv T)) = false) : sp_rc M_Fs_fitAt (d + 12) [.ref 0, .int x, .int y] I R (some (.int (-1))) 1 := by
  intro J Q hQ
  apply t_Fs_fitAt hR
  refine c_Fs_lacksShire hR hC.1 ?_
  intro I2 g0 g1
  have hC2 := sp_CN_k hC (sp_cm g0)
  refine ⟨_, I2, J, R, rfl, rfl, hR, ?_⟩
  first | refine ⟨fun _ => ?_, fun c => absurd rfl c⟩ | refine ⟨fun c => absurd rfl c, fun _ => ?_⟩
  have hF2 := sp_FT_c hF (sp_cm g0)
  have hlen := sp_flk_len (T := T) (sp_nf T)
  have hnf := sp_nf_le hT
  have hnv := hT.2.2.2.2.2.2.2.1
  have KR : ow_AM M_Fs_refused (d + 11) [.ref 0, .int 1] (85, I2, J, R) (fun r h' => ∃ (r5 : Int32) (I5 : Nat → Nat → Int32) (J5 : Nat → Nat → Int64) (R5 : Nat → Nat → Option Nat), r = some (.int r5) ∧ h' = (85, I5, J5, R5) ∧ ow_RF R5 ∧ Q (some (.int r5)) (85, I5, J5, R5)) := by
    refine c_Fs_refused hR ?_
    intro I9 n0 n1
    exact ⟨_, I9, J, R, rfl, rfl, hR, hQ I9 J (sp_fr_tr (sp_cm g0) (sp_cm n0)) n1⟩
  rw [hF2.1, hC2.2.1.2.2.2.1]
  refine ⟨fun _ => KR, fun c1 => ⟨fun _ => KR, fun c2 => ⟨fun _ => KR, fun c3 => ⟨fun c4 => ?_, fun _ => KR⟩⟩⟩⟩
  have q1 : sp_is y (st_nv T) = true := by rw [sp_is_lt (by omega)]; exact decide_eq_true ⟨c3, c4⟩
  have q2 : sp_is x (sp_flk T (sp_nf T)).length = true := by
    unfold sp_is
    apply decide_eq_true
    have e0 : ¬ x.toInt < 0 := fun z => c1 (Int32.lt_iff_toInt_lt.mpr (by rw [Int32.toInt_zero]; exact z))
    have e1 : ¬ ((sp_flk T (sp_nf T)).length : Int) ≤ x.toInt := fun z => c2 (Int32.le_iff_toInt_le.mpr (by rw [nI_toInt (by omega)]; exact z))
    omega
  rw [q1, q2] at hx
  cases hx
theorem rm_fitAt {i k : Nat} (hR : ow_RF R) (hM : sp_MN I T V) (hT : st_ok T) (hV : st_now T V) (hi : i < (sp_flk T (sp_nf T)).length) (hk : k < st_nv T) : sp_rm M_Mo_fitAt (d + 12) [.ref 70, .int (nI i), .int (nI k)] I R (some (.int (nI (sp_shp (st_nv T) ((sp_flk T (sp_nf T)).getD i 0) k)))) 0 := by
  intro J Q hQ
  apply t_Mo_fitAt hR
  have hnv := hT.2.2.2.2.2.2.2.1
  have hlen := sp_flk_len (T := T) (sp_nf T)
  have hnf := sp_nf_le hT
  refine c_Mo_good hR ?_
  intro I2 g0 g1 g2
  refine ⟨I2, J, R, rfl, rfl, hR, ?_⟩
  have h2 := sp_MN_k hM (sp_mm g0)
  refine c_Mo_isVeiled hR h2.1 h2.2.1.2.2.2.2.1 (by omega) ?_
  have hy : sp_is (nI k) (st_nv T) = true := decide_eq_true (by rw [nI_toInt (by omega)]; omega)
  rw [hy]
  refine ⟨_, I2, J, R, rfl, rfl, hR, ?_⟩
  first | refine ⟨fun _ => ?_, fun c => absurd c (by decide)⟩ | refine ⟨fun c => absurd c (by decide), fun _ => ?_⟩
  refine c_Mo_fitAtL hR h2.2.1 hT hk ?_ ?_
  · intro I4 k0 j hj hx
    have : i = j := (nI_eq (by omega) (by omega)).mp hx
    subst this
    exact hQ I4 J (sp_fr_tr (sp_mm g0) (sp_mg3 k0)) (by rw [k0 70 (by decide) 11 (by decide)]; exact g2)
  · intro I4 _ hx
    unfold sp_is at hx
    rw [nI_toInt (by omega)] at hx
    exact absurd (of_decide_eq_false hx) (by omega)
theorem rm_fitAt_no {x y : Int32} (hR : ow_RF R) (hM : sp_MN I T V) (hT : st_ok T) (hV : st_now T V) (hx : (sp_is x (sp_flk T (sp_nf T)).length && sp_is y (st_nv T)) = false) : sp_rm M_Mo_fitAt (d + 12) [.ref 70, .int x, .int y] I R (some (.int (-1))) 1 := by
  intro J Q hQ
  apply t_Mo_fitAt hR
  have hnv := hT.2.2.2.2.2.2.2.1
  have hlen := sp_flk_len (T := T) (sp_nf T)
  have hnf := sp_nf_le hT
  refine c_Mo_good hR ?_
  intro I2 g0 g1 g2
  refine ⟨I2, J, R, rfl, rfl, hR, ?_⟩
  have h2 := sp_MN_k hM (sp_mm g0)
  refine c_Mo_isVeiled hR h2.1 h2.2.1.2.2.2.2.1 (by omega) ?_
  refine ⟨_, I2, J, R, rfl, rfl, hR, ?_⟩
  cases hy : sp_is y (st_nv T) with
  | false =>
    first | refine ⟨fun _ => ?_, fun c => absurd rfl c⟩ | refine ⟨fun c => absurd rfl c, fun _ => ?_⟩
    refine c_Mo_no hR ?_
    intro I9 n3 n4
    exact ⟨_, I9, J, R, rfl, rfl, hR, hQ I9 J (sp_fr_tr (sp_mm g0) (sp_mm1 n3)) n4⟩
  | true =>
    rw [hy, Bool.and_true] at hx
    obtain ⟨k, hk, he⟩ := sp_is_nI hy
    subst he
    first | refine ⟨fun _ => ?_, fun c => absurd c (by decide)⟩ | refine ⟨fun c => absurd c (by decide), fun _ => ?_⟩
    refine c_Mo_fitAtL hR h2.2.1 hT hk ?_ ?_
    · intro I4 k0 j hj he
      subst he
      unfold sp_is at hx
      rw [nI_toInt (by omega)] at hx
      exact absurd (of_decide_eq_false hx) (by omega)
    · intro I4 k0 _ k1 k2
      refine hQ I4 J (sp_fr_tr (sp_mm g0) (fun a ha j hj => ?_)) k2
      by_cases h71 : a = 70
      · subst h71
        by_cases h11 : j = 11
        · exact absurd (by rw [h11]; decide) hj
        · exact k1 j h11 (fun q => hj ((by decide : ∀ z ∈ sp_gE, z ∈ sp_mE) _ q))
      · refine k0 a ?_ j (by simp)
        intro q
        rcases List.mem_cons.mp q with q | q
        · exact h71 q
        · exact ha ((by decide : ∀ z ∈ (80 :: sp_gS), z ∈ sp_mS) _ q)
theorem rc_shapedBy {k s : Nat} (hR : ow_RF R) (hC : sp_CN I T V) (hT : st_ok T) (hV : st_now T V) (hF : sp_FT I T) (hk : k < st_nv T) (hs : s < 5) : sp_rc M_Fs_shapedBy (d + 12) [.ref 0, .int (nI k), .int (nI s)] I R (some (.int (nI (sp_ck T (fun c => decide (sp_shp (st_nv T) c k = s)) (sp_nf T))))) 0 := by
  intro J Q hQ
  apply t_Fs_shapedBy hR
  refine c_Fs_lacksShire hR hC.1 ?_
  intro I2 g0 g1
  have hC2 := sp_CN_k hC (sp_cm g0)
  refine ⟨_, I2, J, R, rfl, rfl, hR, ?_⟩
  first | refine ⟨fun _ => ?_, fun c => absurd rfl c⟩ | refine ⟨fun c => absurd rfl c, fun _ => ?_⟩
  have hF2 := sp_FT_c hF (sp_cm g0)
  have hlen := sp_flk_len (T := T) (sp_nf T)
  have hnf := sp_nf_le hT
  have hnv := hT.2.2.2.2.2.2.2.1
  rw [hC2.2.1.2.2.2.1]
  refine ⟨fun c => absurd c (nI_pos (by omega)), fun _ => ⟨fun _ => ?_, fun c => absurd (nI_lt hk (by omega)) c⟩⟩
  refine c_Fs_isOutsideG (a := 0) (b := 4) hR (by decide) (by decide) ?_
  intro I3 k0 k1
  have hbt : sp_bt (nI s) 0 4 = true := sp_bt_of (Nat.zero_le _) (by omega) (by decide)
  rw [hbt] at k1 ⊢
  rw [if_pos rfl] at k1
  have f3 : sp_fr sp_cS sp_cE I I3 := sp_fr_tr (sp_cm g0) (sp_cm k0)
  have hC3 := sp_CN_k hC f3
  refine ⟨_, I3, J, R, rfl, rfl, hR, ?_⟩
  first | refine ⟨fun _ => ?_, fun c => absurd rfl c⟩ | refine ⟨fun c => absurd rfl c, fun _ => ?_⟩
  exact c_Fits_countShaped hR hC3.2.1.2.2.2.1 (sp_FT_c hF f3) hT hk hs ⟨_, I3, J, R, rfl, rfl, hR, hQ I3 J f3 k1⟩
theorem rc_shapedBy_z {k : Nat} {z : Int32} (hR : ow_RF R) (hC : sp_CN I T V) (hT : st_ok T) (hV : st_now T V) (hF : sp_FT I T) (hk : k < st_nv T) (hz : sp_bt z 0 4 = false) : sp_rc M_Fs_shapedBy (d + 12) [.ref 0, .int (nI k), .int z] I R (some (.int (-1))) 2 := by
  intro J Q hQ
  apply t_Fs_shapedBy hR
  refine c_Fs_lacksShire hR hC.1 ?_
  intro I2 g0 g1
  have hC2 := sp_CN_k hC (sp_cm g0)
  refine ⟨_, I2, J, R, rfl, rfl, hR, ?_⟩
  first | refine ⟨fun _ => ?_, fun c => absurd rfl c⟩ | refine ⟨fun c => absurd rfl c, fun _ => ?_⟩
  have hF2 := sp_FT_c hF (sp_cm g0)
  have hlen := sp_flk_len (T := T) (sp_nf T)
  have hnf := sp_nf_le hT
  have hnv := hT.2.2.2.2.2.2.2.1
  rw [hC2.2.1.2.2.2.1]
  refine ⟨fun c => absurd c (nI_pos (by omega)), fun _ => ⟨fun _ => ?_, fun c => absurd (nI_lt hk (by omega)) c⟩⟩
  refine c_Fs_isOutsideG (a := 0) (b := 4) hR (by decide) (by decide) ?_
  intro I3 k0 k1
  rw [hz] at k1 ⊢
  rw [if_neg (by decide)] at k1
  refine ⟨_, I3, J, R, rfl, rfl, hR, ?_⟩
  first | refine ⟨fun _ => ?_, fun c => absurd c (by decide)⟩ | refine ⟨fun c => absurd c (by decide), fun _ => ?_⟩
  exact hQ I3 J (sp_fr_tr (sp_cm g0) (sp_cm k0)) k1
theorem rc_shapedBy_no {x y : Int32} (hR : ow_RF R) (hC : sp_CN I T V) (hT : st_ok T) (hV : st_now T V) (hF : sp_FT I T) (hx : sp_is x (st_nv T) = false) : sp_rc M_Fs_shapedBy (d + 12) [.ref 0, .int x, .int y] I R (some (.int (-1))) 1 := by
  intro J Q hQ
  apply t_Fs_shapedBy hR
  refine c_Fs_lacksShire hR hC.1 ?_
  intro I2 g0 g1
  have hC2 := sp_CN_k hC (sp_cm g0)
  refine ⟨_, I2, J, R, rfl, rfl, hR, ?_⟩
  first | refine ⟨fun _ => ?_, fun c => absurd rfl c⟩ | refine ⟨fun c => absurd rfl c, fun _ => ?_⟩
  have hF2 := sp_FT_c hF (sp_cm g0)
  have hlen := sp_flk_len (T := T) (sp_nf T)
  have hnf := sp_nf_le hT
  have hnv := hT.2.2.2.2.2.2.2.1
  have KR : ow_AM M_Fs_refused (d + 11) [.ref 0, .int 1] (85, I2, J, R) (fun r h' => ∃ (r5 : Int32) (I5 : Nat → Nat → Int32) (J5 : Nat → Nat → Int64) (R5 : Nat → Nat → Option Nat), r = some (.int r5) ∧ h' = (85, I5, J5, R5) ∧ ow_RF R5 ∧ Q (some (.int r5)) (85, I5, J5, R5)) := by
    refine c_Fs_refused hR ?_
    intro I9 n0 n1
    exact ⟨_, I9, J, R, rfl, rfl, hR, hQ I9 J (sp_fr_tr (sp_cm g0) (sp_cm n0)) n1⟩
  rw [hC2.2.1.2.2.2.1]
  rw [sp_is_lt (by omega)] at hx
  exact ⟨fun _ => KR, fun c => ⟨fun c2 => absurd (And.intro c c2) (of_decide_eq_false hx), fun _ => KR⟩⟩
theorem rm_shapedBy {k s : Nat} (hR : ow_RF R) (hM : sp_MN I T V) (hT : st_ok T) (hV : st_now T V) (hk : k < st_nv T) (hs : s < 5) : sp_rm M_Mo_shapedBy (d + 12) [.ref 70, .int (nI k), .int (nI s)] I R (some (.int (nI (sp_ck T (fun c => decide (sp_shp (st_nv T) c k = s)) (sp_nf T))))) 0 := by
  intro J Q hQ
  apply t_Mo_shapedBy hR
  have hnv := hT.2.2.2.2.2.2.2.1
  refine c_Mo_good hR ?_
  intro I2 g0 g1 g2
  refine ⟨I2, J, R, rfl, rfl, hR, ?_⟩
  have h2 := sp_MN_k hM (sp_mm g0)
  refine c_Mo_isVeiled hR h2.1 h2.2.1.2.2.2.2.1 (by omega) ?_
  have hy : sp_is (nI k) (st_nv T) = true := decide_eq_true (by rw [nI_toInt (by omega)]; omega)
  rw [hy]
  refine ⟨_, I2, J, R, rfl, rfl, hR, ?_⟩
  refine c_Mo_inG (a := 0) (b := 4) hR (by decide) (by decide) ?_
  refine ⟨_, I2, J, R, rfl, rfl, hR, ?_⟩
  refine c_Mo_why hR ?_
  refine ⟨_, I2, J, R, rfl, rfl, hR, ?_⟩
  have hbt : sp_bt (nI s) 0 4 = true := sp_bt_of (Nat.zero_le _) (by omega) (by decide)
  rw [hbt, if_pos rfl, if_pos rfl]
  first | refine ⟨fun _ => ?_, fun c => absurd rfl c⟩ | refine ⟨fun c => absurd rfl c, fun _ => ?_⟩
  refine c_Mo_shapedL hR h2.2.1 hT hk hs ?_
  intro I4 k0
  exact hQ I4 J (sp_fr_tr (sp_mm g0) (sp_mg3 k0)) (by rw [k0 70 (by decide) 11 (by decide)]; exact g2)
theorem rm_shapedBy_z {k : Nat} {z : Int32} (hR : ow_RF R) (hM : sp_MN I T V) (hT : st_ok T) (hV : st_now T V) (hk : k < st_nv T) (hz : sp_bt z 0 4 = false) : sp_rm M_Mo_shapedBy (d + 12) [.ref 70, .int (nI k), .int z] I R (some (.int (-1))) 2 := by
  intro J Q hQ
  apply t_Mo_shapedBy hR
  have hnv := hT.2.2.2.2.2.2.2.1
  refine c_Mo_good hR ?_
  intro I2 g0 g1 g2
  refine ⟨I2, J, R, rfl, rfl, hR, ?_⟩
  have h2 := sp_MN_k hM (sp_mm g0)
  refine c_Mo_isVeiled hR h2.1 h2.2.1.2.2.2.2.1 (by omega) ?_
  have hy : sp_is (nI k) (st_nv T) = true := decide_eq_true (by rw [nI_toInt (by omega)]; omega)
  rw [hy]
  refine ⟨_, I2, J, R, rfl, rfl, hR, ?_⟩
  refine c_Mo_inG (a := 0) (b := 4) hR (by decide) (by decide) ?_
  refine ⟨_, I2, J, R, rfl, rfl, hR, ?_⟩
  refine c_Mo_why hR ?_
  refine ⟨_, I2, J, R, rfl, rfl, hR, ?_⟩
  rw [hz, if_pos rfl, if_neg (by decide)]
  first | refine ⟨fun _ => ?_, fun c => absurd c (by decide)⟩ | refine ⟨fun c => absurd c (by decide), fun _ => ?_⟩
  refine c_Mo_no hR ?_
  intro I9 n3 n4
  exact ⟨_, I9, J, R, rfl, rfl, hR, hQ I9 J (sp_fr_tr (sp_mm g0) (sp_mm1 n3)) n4⟩
theorem rm_shapedBy_no {x y : Int32} (hR : ow_RF R) (hM : sp_MN I T V) (hT : st_ok T) (hV : st_now T V) (hx : sp_is x (st_nv T) = false) : sp_rm M_Mo_shapedBy (d + 12) [.ref 70, .int x, .int y] I R (some (.int (-1))) 1 := by
  intro J Q hQ
  apply t_Mo_shapedBy hR
  have hnv := hT.2.2.2.2.2.2.2.1
  refine c_Mo_good hR ?_
  intro I2 g0 g1 g2
  refine ⟨I2, J, R, rfl, rfl, hR, ?_⟩
  have h2 := sp_MN_k hM (sp_mm g0)
  refine c_Mo_isVeiled hR h2.1 h2.2.1.2.2.2.2.1 (by omega) ?_
  rw [hx]
  refine ⟨_, I2, J, R, rfl, rfl, hR, ?_⟩
  refine c_Mo_inG (a := 0) (b := 4) hR (by decide) (by decide) ?_
  refine ⟨_, I2, J, R, rfl, rfl, hR, ?_⟩
  refine c_Mo_why hR ?_
  refine ⟨_, I2, J, R, rfl, rfl, hR, ?_⟩
  rw [if_neg (by decide)]
  first | refine ⟨fun _ => ?_, fun c => absurd c (by decide)⟩ | refine ⟨fun c => absurd c (by decide), fun _ => ?_⟩
  refine c_Mo_no hR ?_
  intro I9 n3 n4
  exact ⟨_, I9, J, R, rfl, rfl, hR, hQ I9 J (sp_fr_tr (sp_mm g0) (sp_mm1 n3)) n4⟩
end PUB5
