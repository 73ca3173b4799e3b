/-! Own rows: the search of plans. -/
def sp_cW (T : sp_T) (V : sp_V) (y k : Nat) : Nat := sp_pc (sp_bits (sp_only (sp_age V (st_rt T) y) k) (st_eo T))
def sp_PI (T : sp_T) (V : sp_V) (y : Nat) (I1 : Nat → Nat → Int32) (f : Nat → Nat) : Prop := (∃ so, sp_ok (sp_wso (sp_age V (st_rt T) y) so) ∧ sp_S I1 47 (sp_wso (sp_age V (st_rt T) y) so)) ∧ I1 46 6 = nI (sp_m0 T V y) ∧ (∀ j, j < y → I1 51 j = nI (f j) ∧ f j ≤ sp_n V ∧ I1 52 j = nI (sp_sm T y j)) ∧ ∀ k, k < 64 → I1 53 k = -1 ∨ I1 53 k = nI (sp_cW T V y k)
section PLAN2
variable {d : Nat} {I : Nat → Nat → Int32} {J : Nat → Nat → Int64} {R : Nat → Nat → Option Nat} {Q : Option Value → ow_H → Prop} {T : sp_T} {V : sp_V}
theorem c_Planner_countBehind {y m : Nat} {f : Nat → Nat} (hR : ow_RF R) (hE : sp_EO I V (st_eo T)) (hT : st_ok T) (hV : st_now T V) (hy : y ≤ 4) (hm : m < 64) (hP : sp_PI T V y I f)
    (hQ : ∀ I2 : Nat → Nat → Int32, sp_eq [40, 41, 49, 53] I I2 → sp_PI T V y I2 f → Q (some (.int (nI (sp_cW T V y m)))) (85, I2, J, R)) : ow_AM M_Planner_countBehind (d + 6) [.ref 46, .int (nI m)] (85, I, J, R) Q := by
  obtain ⟨⟨so, p0, p1⟩, p2, p3, p4⟩ := id hP
  have hn6 := st_n6 hV
  have hW : sp_ok (sp_age V (st_rt T) y) := sp_age_ok hV.1 (by have := hV.2.2.1; omega)
  have hin : vp_in (nI m) 64 := vp_in_nI hm (by decide)
  have hc : sp_cW T V y m ≤ 5 := sp_pc_le5 _ (sp_bits_lt (sp_only_ok hW) (st_eok hT))
  apply t_Planner_countBehind hR
  refine ⟨fun c => absurd c (nI_pos (by omega)), fun _ => ⟨fun _ => ?_, fun c => absurd (nI_lt (b := 64) hm (by decide)) c⟩⟩
  rw [sp_cl (by omega)]
  refine ⟨hin, fun c => ⟨hin, ?_⟩, fun c => ?_⟩
  · rcases p4 m hm with h | h
    · exact absurd h c
    · rw [h]; exact hQ I sp_eq_rf hP
  · refine c_Scene_standBy hR (by decide) p1 p0 hm ?_
    intro I4 q0 q1
    have q1 : sp_S I4 47 (sp_only (sp_age V (st_rt T) y) m) := q1
    refine ⟨I4, J, R, rfl, rfl, hR, ?_⟩
    refine c_Serving_bitsServed hR (by decide) q1 (sp_only_ok hW) (fun g hg => by rw [q0 9 (by decide)]; exact hE g hg) (st_eok hT) ?_
    intro I5 q2
    refine ⟨_, I5, J, R, rfl, rfl, hR, ?_⟩
    refine c_bitCount hR (Nat.lt_trans (sp_all_lt (sp_only_ok hW) (st_eok hT) _ (Nat.le_refl _)) (by decide)) ?_
    refine ⟨_, I5, J, R, rfl, rfl, hR, hin, fun I6 e6 => ⟨hin, ?_⟩⟩
    have e6 : I6 = ow_u I5 53 m (nI (sp_cW T V y m)) := e6
    have f5 : sp_eq [40, 41, 49, 53] I I5 := sp_eq_tr (sp_eq_mono q0 (by decide)) (sp_eq_mono q2 (by decide))
    have f6 : sp_eq [40, 41, 49, 53] I I6 := sp_eq_tr f5 (sp_eq_ue e6 (by decide))
    have x6 : I6 53 m = nI (sp_cW T V y m) := by rw [e6, ow_u_at]
    rw [x6]
    have s5 : sp_S I5 47 (sp_only (sp_age V (st_rt T) y) m) := sp_S_fr (by decide) q1 (sp_frq (E := []) q2) (by decide) (by decide)
    refine hQ I6 f6 ⟨⟨(fun g => if m.testBit g then 1 else 0), sp_only_ok (m := m) hW, sp_S_kr s5 (by rw [e6, ow_u_ne (by decide)]) (by rw [e6, ow_u_ne (by decide)]) (by rw [e6, ow_u_ne (by decide)]) (by rw [e6, ow_u_ne (by decide)])⟩, by rw [f6 46 (by decide)]; exact p2, fun j hj => by rw [f6 51 (by decide), f6 52 (by decide)]; exact p3 j hj, fun k hk => ?_⟩
    by_cases hkm : k = m
    · rw [hkm]; exact Or.inr x6
    · rw [e6, ow_u_nk hkm, q2 53 (by decide), q0 53 (by decide)]
      exact p4 k hk
theorem sp_7p {n y : Nat} (hn : n ≤ 6) (hy : y ≤ 4) : (n + 1) ^ y ≤ 2401 := Nat.le_trans (Nat.pow_le_pow_left (show n + 1 ≤ 7 by omega) y) (show 7 ^ y ≤ 7 ^ 4 from Nat.pow_le_pow_right (by decide) hy)
theorem sp_10p {y : Nat} (hy : y ≤ 4) : 10 ^ y ≤ 10000 := (show 10 ^ y ≤ 10 ^ 4 from Nat.pow_le_pow_right (by decide) hy)
theorem sp_pv_row {y : Nat} {f : Nat → Nat} (hT : st_ok T) (hV : st_now T V) (hy : y ≤ 4) (hf : ∀ j, j < y → f j ≤ sp_n V) : sp_pv T V y (sp_nm 10 f y) = some (sp_cW T V y (sp_pq f (sp_m0 T V y) (sp_sm T y) y)) := by
  have hn6 := st_n6 hV
  have hd := sp_nm_dg (f := f) y (fun j hj => by have := hf j hj; omega)
  unfold sp_pv
  rw [if_pos (sp_vb_vd.mpr (fun j hj => by rw [hd j hj]; exact hf j hj)), sp_pw_eq y hd]
  unfold sp_cW
  rw [sp_bits_sim (sp_only_ok (sp_age_ok hV.1 (by have := hV.2.2.1; omega))) (sp_plan_sim hT hV hf)]
theorem sp_m0_lt {y : Nat} (hV : st_now T V) : sp_m0 T V y < 64 := sp_bs_lt (V := sp_age V (st_rt T) y) (show sp_n V ≤ 6 from st_n6 hV) _ (Nat.le_refl _)
theorem sp_sm_lt {y : Nat} (hT : st_ok T) (j : Nat) : sp_sm T y j < 64 := sp_bs_lt (V := sp_age (st_v T) (st_rt T) (y - j)) hT.1.1 _ (Nat.le_refl _)
theorem c_Planner_search {y : Nat} (hR : ow_RF R) (hC : sp_CN I T V) (hT : st_ok T) (hV : st_now T V) (hy : y ≤ 4)
    (hQ : ∀ I2 : Nat → Nat → Int32, sp_fr [40, 41, 47, 48, 49, 50, 51, 52, 53] [(46, 6), (46, 7), (46, 8)] I I2 → I2 46 7 = sp_p1 (sp_pf (sp_pv T V y) (10 ^ y)) → I2 46 8 = sp_p2 (sp_pf (sp_pv T V y) (10 ^ y)) → Q none (85, I2, J, R)) : ow_AM M_Planner_search (d + 7) [.ref 46, .ref 29, .int (nI y)] (85, I, J, R) Q := by
  have hn6 := st_n6 hV
  have h10 := sp_10p hy
  have hW : sp_ok (sp_age V (st_rt T) y) := sp_age_ok hV.1 (by have := hV.2.2.1; omega)
  have hcb : ∀ k, sp_cW T V y k ≤ 5 := fun k => sp_pc_le5 _ (sp_bits_lt (sp_only_ok hW) (st_eok hT))
  have hvb : ∀ x c, sp_pv T V y x = some c → c ≤ 5 := by
    intro x c h
    unfold sp_pv at h
    by_cases hb : sp_vb (sp_n V) y x = true
    · rw [if_pos hb] at h
      injection h with h
      rw [← h]
      exact sp_pc_le5 _ (sp_bits_lt (sp_pw_ok hT hV y hy (sp_vb_vd.mp hb)) (st_eok hT))
    · rw [if_neg hb] at h; cases h
  have hbad : ∀ x, ¬ sp_vd (sp_n V) y x → sp_pv T V y x = none := by
    intro x h
    unfold sp_pv
    rw [if_neg (fun q => h (sp_vb_vd.mp q))]
  apply t_Planner_search hR
  refine c_Planner_prepare hR hC hT hV hy ?_
  intro I10 u0 u1 u2 u3 u4
  refine ⟨I10, J, R, rfl, rfl, hR, fun I11 e11 => ?_⟩
  have K : ∀ (k i : Nat) (f : Nat → Nat) (I1 : Nat → Nat → Int32), i + k = 2401 → sp_nm (sp_n V + 1) f y = i → sp_fr [40, 41, 47, 48, 49, 50, 51, 52, 53] [(46, 6), (46, 7), (46, 8)] I I1 → sp_PI T V y I1 f → I1 46 8 = sp_p2 (sp_pf (sp_pv T V y) (sp_nm 10 f y)) → (∀ q, sp_pf (sp_pv T V y) (sp_nm 10 f y) = some q → I1 46 7 = nI q.1) → ow_AW ow_Y0 (ow_Z Q) M_Planner_search (d + 7) 0 0 16 [(0, .ref 46), (2, .int (nI y)), (3, .int 1), (4, .int (nI i))] [] (85, I1, J, R) 0 0 := by
    intro k
    induction k with
    | zero =>
      intro i f I1 hi hb f1 hP x8 x7
      have := sp_nm_lt (f := f) (b := sp_n V + 1) (Nat.lt_succ_self _) y (fun j hj => (hP.2.2.1 j hj).2.1)
      have := sp_7p (y := y) hn6 hy
      omega
    | succ k ih =>
      intro i f I1 hi hb f1 hP x8 x7
      have hf : ∀ j, j < y → f j ≤ sp_n V := fun j hj => (hP.2.2.1 j hj).2.1
      have hx10 := sp_nm_lt (f := f) (b := 10) (n := sp_n V) (by omega) y hf
      have hval := sp_pv_row hT hV hy hf
      have hm := sp_pq_lt (f := f) (sp_m0_lt (y := y) hV) (sp_sm_lt (y := y) hT) hn6 y hf
      have hE1 : ∀ {I2 : Nat → Nat → Int32}, sp_fr [40, 41, 47, 48, 49, 50, 51, 52, 53] [(46, 6), (46, 7), (46, 8)] I I2 → sp_EO I2 V (st_eo T) := fun h => sp_EO_fr (sp_CN_E hC hV) h (by decide) (by simp)
      apply t_Planner_search_16 hR
      refine ⟨fun c => absurd c (nI_ge (b := 2401) (by omega) (by decide)), fun _ => ⟨fun c => absurd c (by decide), fun _ => ?_⟩⟩
      refine c_Planner_soundBehindRow hR hy hn6 hP.2.1 (sp_m0_lt hV) (sp_sm_lt hT) hP.2.2.1 ⟨_, I1, J, R, rfl, rfl, hR, ?_⟩
      refine c_Planner_countBehind hR (hE1 f1) hT hV hy hm hP ?_
      intro I4 v0 v1
      refine ⟨_, I4, J, R, rfl, rfl, hR, ?_⟩
      have hcm := hcb (sp_pq f (sp_m0 T V y) (sp_sm T y) y)
      have f4 : sp_fr [40, 41, 47, 48, 49, 50, 51, 52, 53] [(46, 6), (46, 7), (46, 8)] I I4 := sp_fr_tr f1 (sp_fr_mono (E := []) (sp_frq v0) (by decide) (by decide))
      have y8 : I4 46 8 = sp_p2 (sp_pf (sp_pv T V y) (sp_nm 10 f y)) := by rw [v0 46 (by decide)]; exact x8
      have y7 : ∀ q, sp_pf (sp_pv T V y) (sp_nm 10 f y) = some q → I4 46 7 = nI q.1 := fun q hq => by rw [v0 46 (by decide)]; exact x7 q hq
      have turn : ∀ (I5 : Nat → Nat → Int32) (q : Nat × Nat), sp_fr [40, 41, 47, 48, 49, 50, 51, 52, 53] [(46, 6), (46, 7), (46, 8)] I I5 → sp_PI T V y I5 f → sp_pf (sp_pv T V y) (sp_nm 10 f y + 1) = some q → I5 46 8 = nI q.2 → I5 46 7 = nI q.1 → ow_AM M_Planner_turnRow (d + 6) [.ref 46, .int (nI y)] (85, I5, J, R) (fun r h' => ∃ (r5 : Int32) (I6 : Nat → Nat → Int32) (J6 : Nat → Nat → Int64) (R6 : Nat → Nat → Option Nat), r = some (.int r5) ∧ h' = (85, I6, J6, R6) ∧ ow_RF R6 ∧ ow_AW ow_Y0 (ow_Z Q) M_Planner_search (d + 7) 0 0 16 [(0, .ref 46), (2, .int (nI y)), (3, .int r5), (4, .int (nI i + 1))] [] (85, I6, J6, R6) 0 0) := by
        intro I5 q f5 hP5 hpf z8 z7
        obtain ⟨⟨so, p0, p1⟩, p2, p3, p4⟩ := id hP5
        refine c_Planner_turnRow hR hy hn6 p1.1 (fun j hj => ⟨(p3 j hj).1, (p3 j hj).2.1⟩) ?_
        intro I6 w0 w1
        refine ⟨_, I6, J, R, rfl, rfl, hR, ?_⟩
        have f6 : sp_fr [40, 41, 47, 48, 49, 50, 51, 52, 53] [(46, 6), (46, 7), (46, 8)] I I6 := sp_fr_tr f5 (sp_fr_mono (E := []) (sp_frq w0) (by decide) (by decide))
        obtain ⟨t1, t2, t3⟩ := sp_tr_ok (n := sp_n V) (by omega) y f hf
        have b8 : I6 46 8 = nI q.2 := by rw [w0 46 (by decide)]; exact z8
        have b7 : I6 46 7 = nI q.1 := by rw [w0 46 (by decide)]; exact z7
        cases hb1 : (sp_tr (sp_n V) y f).1 with
        | true =>
          obtain ⟨t4, t5, t6⟩ := t2 hb1
          have hsk := sp_pf_skip (val := sp_pv T V y) (x := sp_nm 10 f y + 1) (sp_nm 10 (sp_tr (sp_n V) y f).2 y - (sp_nm 10 f y + 1)) (fun z h1 h2 => hbad z (t5 z (by omega) (by omega)))
          rw [show sp_nm 10 f y + 1 + (sp_nm 10 (sp_tr (sp_n V) y f).2 y - (sp_nm 10 f y + 1)) = sp_nm 10 (sp_tr (sp_n V) y f).2 y by omega, hpf] at hsk
          show ow_AW ow_Y0 (ow_Z Q) M_Planner_search (d + 7) 0 0 16 [(0, .ref 46), (2, .int (nI y)), (3, .int 1), (4, .int (nI i + 1))] [] (85, I6, J, R) 0 0
          rw [nI_1]
          refine ih (i + 1) (sp_tr (sp_n V) y f).2 I6 (by omega) (by omega) f6 ⟨⟨so, p0, sp_S_kr p1 (w0 _ (by decide)) (w0 _ (by decide)) (w0 _ (by decide)) (w0 _ (by decide))⟩, by rw [w0 46 (by decide)]; exact p2, fun j hj => ⟨w1 j hj, t1 j hj, by rw [w0 52 (by decide)]; exact (p3 j hj).2.2⟩, fun k hk => by rw [w0 53 (by decide)]; exact p4 k hk⟩ ?_ ?_
          · rw [hsk]; exact b8
          · intro q2 hq2
            rw [hsk] at hq2
            injection hq2 with hq2
            rw [← hq2]; exact b7
        | false =>
          have hsk := sp_pf_skip (val := sp_pv T V y) (x := sp_nm 10 f y + 1) (10 ^ y - (sp_nm 10 f y + 1)) (fun z h1 h2 => hbad z (t3 hb1 z (by omega) (by omega)))
          rw [show sp_nm 10 f y + 1 + (10 ^ y - (sp_nm 10 f y + 1)) = 10 ^ y by omega, hpf] at hsk
          have done : Q none (85, I6, J, R) := hQ I6 f6 (by rw [hsk]; exact b7) (by rw [hsk]; exact b8)
          apply t_Planner_search_16 hR
          exact ⟨fun _ => done, fun _ => ⟨fun _ => done, fun c => absurd rfl c⟩⟩
      rw [y8]
      cases hpf : sp_pf (sp_pv T V y) (sp_nm 10 f y) with
      | none =>
        refine ⟨fun c => absurd (Int32.le_trans (nI_pos' (by omega)) c) (by decide), fun _ I6 e6 => ?_⟩
        have f6 : sp_fr [40, 41, 47, 48, 49, 50, 51, 52, 53] [(46, 6), (46, 7), (46, 8)] I I6 := sp_fr_tr f4 (sp_fr_ue e6 (by decide))
        refine c_Planner_rowAsDigits hR hy (fun j hj => ⟨by rw [e6, ow_u_ne (by decide)]; exact (v1.2.2.1 j hj).1, hf j hj⟩) ⟨_, I6, J, R, rfl, rfl, hR, fun I8 e8 => ?_⟩
        refine turn I8 (sp_nm 10 f y, sp_cW T V y (sp_pq f (sp_m0 T V y) (sp_sm T y) y)) (sp_fr_tr f6 (sp_fr_ue e8 (by decide))) ?_ (by rw [sp_pf, hval, hpf]) (by rw [e8, ow_u_nk (by decide), e6, ow_u_at]) (by rw [e8, ow_u_at])
        obtain ⟨⟨so, p0, p1⟩, p2, p3, p4⟩ := id v1
        have r8 : ∀ a, a ≠ 46 → I8 a = I4 a := fun a ha => by rw [e8, ow_u_ne ha, e6, ow_u_ne ha]
        exact ⟨⟨so, p0, sp_S_kr p1 (r8 _ (by decide)) (r8 _ (by decide)) (r8 _ (by decide)) (r8 _ (by decide))⟩, by rw [e8, ow_u_nk (by decide), e6, ow_u_nk (by decide)]; exact p2, fun j hj => by rw [r8 51 (by decide), r8 52 (by decide)]; exact p3 j hj, fun k hk => by rw [r8 53 (by decide)]; exact p4 k hk⟩
      | some q =>
        have hq5 := (sp_pf_b hvb _ q hpf).2
        have e2 : sp_p2 (some q) = nI q.2 := rfl
        rw [e2, nI_leI (by omega) (by omega)]
        rw [hpf] at y8 y7
        refine ⟨fun c => turn I4 q f4 v1 (by rw [sp_pf, hval, hpf]; dsimp only; rw [if_neg (by omega)]) y8 (y7 q rfl), fun c I6 e6 => ?_⟩
        have f6 : sp_fr [40, 41, 47, 48, 49, 50, 51, 52, 53] [(46, 6), (46, 7), (46, 8)] I I6 := sp_fr_tr f4 (sp_fr_ue e6 (by decide))
        refine c_Planner_rowAsDigits hR hy (fun j hj => ⟨by rw [e6, ow_u_ne (by decide)]; exact (v1.2.2.1 j hj).1, hf j hj⟩) ⟨_, I6, J, R, rfl, rfl, hR, fun I8 e8 => ?_⟩
        refine turn I8 (sp_nm 10 f y, sp_cW T V y (sp_pq f (sp_m0 T V y) (sp_sm T y) y)) (sp_fr_tr f6 (sp_fr_ue e8 (by decide))) ?_ (by rw [sp_pf, hval, hpf]; dsimp only; rw [if_pos (by omega)]) (by rw [e8, ow_u_nk (by decide), e6, ow_u_at]) (by rw [e8, ow_u_at])
        obtain ⟨⟨so, p0, p1⟩, p2, p3, p4⟩ := id v1
        have r8 : ∀ a, a ≠ 46 → I8 a = I4 a := fun a ha => by rw [e8, ow_u_ne ha, e6, ow_u_ne ha]
        exact ⟨⟨so, p0, sp_S_kr p1 (r8 _ (by decide)) (r8 _ (by decide)) (r8 _ (by decide)) (r8 _ (by decide))⟩, by rw [e8, ow_u_nk (by decide), e6, ow_u_nk (by decide)]; exact p2, fun j hj => by rw [r8 51 (by decide), r8 52 (by decide)]; exact p3 j hj, fun k hk => by rw [r8 53 (by decide)]; exact p4 k hk⟩
  have r11 : ∀ a, a ≠ 46 → I11 a = I10 a := fun a ha => by rw [e11, ow_u_ne ha]
  have f11 : sp_fr [40, 41, 47, 48, 49, 50, 51, 52, 53] [(46, 6), (46, 7), (46, 8)] I I11 := sp_fr_tr (sp_fr_mono u0 (by decide) (by decide)) (sp_fr_ue e11 (by decide))
  have z0 : ∀ b k, sp_nm b (fun _ => 0) k = 0 := by
    intro b k
    induction k with
    | zero => rfl
    | succ k ih => rw [sp_nm, ih]; omega
  refine K 2401 0 (fun _ => 0) I11 rfl (z0 _ _) f11 ⟨⟨sp_so (sp_age V (st_rt T) y), hW, sp_S_kr u1 (r11 _ (by decide)) (r11 _ (by decide)) (r11 _ (by decide)) (r11 _ (by decide))⟩, by rw [e11, ow_u_nk (by decide)]; exact u2, fun j hj => ⟨by rw [r11 51 (by decide)]; exact (u4 j hj).1, Nat.zero_le _, by rw [r11 52 (by decide)]; exact (u4 j hj).2⟩, fun k hk => Or.inl (by rw [r11 53 (by decide)]; exact u3 k hk)⟩ ?_ ?_
  · rw [z0, e11, ow_u_at]; rfl
  · intro q hq
    rw [z0] at hq
    cases hq
end PLAN2
