/-! Own rows: the reference's plan. -/
def sp_vj (n y x : Nat) : Nat → Bool
  | 0 => true
  | j + 1 => sp_vj n y x j && decide (sp_dg y x j ≤ n)
theorem sp_vj_all {n y x : Nat} : ∀ j, sp_vj n y x j = true ↔ ∀ i, i < j → sp_dg y x i ≤ n := by
  intro j
  induction j with
  | zero => exact ⟨fun _ i hi => absurd hi (Nat.not_lt_zero _), fun _ => rfl⟩
  | succ j ih =>
    rw [sp_vj, Bool.and_eq_true, ih, decide_eq_true_iff]
    refine ⟨fun h i hi => ?_, fun h => ⟨fun i hi => h i (by omega), h j (by omega)⟩⟩
    by_cases hij : i = j
    · rw [hij]; exact h.2
    · exact h.1 i (by omega)
def sp_un (y j : Nat) : Nat := if j < y then 10 ^ (y - 1 - j) else 0
theorem sp_un_10 {y j : Nat} : sp_un y j / 10 = sp_un y (j + 1) := by
  unfold sp_un
  by_cases h : j < y
  · rw [if_pos h]
    by_cases h2 : j + 1 < y
    · rw [if_pos h2, show y - 1 - j = (y - 1 - (j + 1)) + 1 by omega, Nat.pow_succ, Nat.mul_div_cancel _ (by decide)]
    · rw [if_neg h2, show y - 1 - j = 0 by omega]
  · rw [if_neg h, if_neg (by omega)]
theorem sp_un_le {y j : Nat} (hy : y ≤ 4) : sp_un y j ≤ 10000 := by
  unfold sp_un
  by_cases h : j < y
  · rw [if_pos h]; exact sp_10p (by omega)
  · rw [if_neg h]; decide
section PLAN3
variable {d : Nat} {I : Nat → Nat → Int32} {J : Nat → Nat → Int64} {R : Nat → Nat → Option Nat} {Q : Option Value → ow_H → Prop} {T : sp_T} {V : sp_V}
theorem c_Mo_planOf {y : Nat} (hR : ow_RF R) (hM : sp_MN I T V) (hT : st_ok T) (hV : st_now T V) (h1 : 1 ≤ y) (hy : y ≤ 4)
    (hQ : ∀ I2 : Nat → Nat → Int32, sp_fr (80 :: sp_gS) sp_gE I I2 → I2 70 33 = sp_p2 (sp_pf (sp_pv T V y) (10 ^ y)) → Q (some (.int (sp_p1 (sp_pf (sp_pv T V y) (10 ^ y))))) (85, I2, J, R)) : ow_AM M_Mo_planOf (d + 7) [.ref 70, .int (nI y)] (85, I, J, R) Q := by
  have hn6 := st_n6 hV
  have h10 := sp_10p hy
  have hT9 := hT.2.2.2.2.1
  have hVo := hV.1
  have hvb : ∀ x c, sp_pv T V y x = some c → c ≤ 5 := by
    intro x c h
    unfold sp_pv at h
    by_cases hb : sp_vb (sp_n V) y x = true
    · rw [if_pos hb] at h
      injection h with h
      rw [← h]
      exact sp_pc_le5 _ (sp_bits_lt (sp_pw_ok hT hV y hy (sp_vb_vd.mp hb)) (st_eok hT))
    · rw [if_neg hb] at h; cases h
  have row : ∀ {I1 : Nat → Nat → Int32}, sp_fr (80 :: sp_gS) sp_gE I I1 → I1 73 = I 73 := fun h => sp_fr_row h (by decide) (by simp [sp_gE])
  have row78 : ∀ {I1 : Nat → Nat → Int32}, sp_fr (80 :: sp_gS) sp_gE I I1 → I1 77 = I 77 := fun h => sp_fr_row h (by decide) (by simp [sp_gE])
  have main : ∀ I1 : Nat → Nat → Int32, I1 = ow_u I 70 33 (-1) → ow_AW ow_Y0 (ow_Z Q) M_Mo_planOf (d + 7) 0 0 32 [(0, .ref 70), (2, .int 0), (3, .int (nI (10 ^ y))), (4, .int 0)] [] (85, I1, J, R) 0 0 := by
    intro I1 e1
    refine sp_up (N := 10 ^ y) (G := fun x I2 => ow_AW ow_Y0 (ow_Z Q) M_Mo_planOf (d + 7) 0 0 32 [(0, .ref 70), (2, .int (sp_p1 (sp_pf (sp_pv T V y) x))), (3, .int (nI (10 ^ y))), (4, .int (nI x))] [] (85, I2, J, R) 0 0) (Inv := fun x I2 => sp_fr (80 :: sp_gS) sp_gE I I2 ∧ I2 70 33 = sp_p2 (sp_pf (sp_pv T V y) x)) ?_ ?_ 0 I1 (Nat.zero_le _) ⟨sp_fr_ue e1 (by decide), by rw [e1, ow_u_at]; rfl⟩
    · intro I2 ⟨f2, x2⟩
      apply t_Mo_planOf_32 hR
      exact ⟨fun _ => hQ I2 f2 x2, fun c => absurd (Int32.le_refl _) c⟩
    · intro x I2 hx ⟨f2, x2⟩ ih
      apply t_Mo_planOf_32 hR
      refine ⟨fun c => absurd c (nI_ge hx (by omega)), fun _ => ?_⟩
      refine c_Mo_yearsOn (k := 0) (r := st_rt T) (V := V) hR (by rw [row f2]; exact sp_MN_n hM hV) (by rw [row f2]; exact hM.2.1.2.1) hT9 (sp_Mw_k hM.2.2 (row78 f2)) (sp_Mq_k (sp_MN_q hM hV) (row f2)) hn6 (fun f hf => (hVo.2.2.2 f hf).2.1) (by decide) ?_
      intro I3 g0 g1
      refine ⟨I3, J, R, rfl, rfl, hR, ?_⟩
      have f3 : sp_fr (80 :: sp_gS) sp_gE I I3 := sp_fr_tr f2 (sp_fr_mono (E := []) (sp_frq g0) (by decide) (by decide))
      have x3 : I3 70 33 = sp_p2 (sp_pf (sp_pv T V y) x) := by rw [g0 70 (by decide)]; exact x2
      have eu : nI (10 ^ y) / 10 = nI (sp_un y 0) := by
        rw [show (10 : Int32) = nI 10 from rfl, pk_div (by omega) (by decide) (by decide)]
        congr 1
        unfold sp_un
        rw [if_pos (by omega), show y = (y - 1 - 0) + 1 by omega, Nat.pow_succ, Nat.mul_div_cancel _ (by decide)]
        congr 1
      rw [eu]
      refine sp_up (N := y) (G := fun j I4 => ow_AW ow_Y0 (ow_Z Q) M_Mo_planOf (d + 7) 0 0 52 [(0, .ref 70), (2, .int (sp_p1 (sp_pf (sp_pv T V y) x))), (3, .int (nI (10 ^ y))), (4, .int (nI x)), (5, .int (sp_jb (sp_vj (sp_n V) y x j))), (6, .int (nI (sp_un y j)))] [] (85, I4, J, R) 0 0) (Inv := fun j I4 => sp_fr (80 :: sp_gS) sp_gE I I4 ∧ I4 70 33 = sp_p2 (sp_pf (sp_pv T V y) x) ∧ ∃ W, sp_Mr I4 82 W ∧ sp_n W = sp_n V ∧ (∀ f, f < sp_n V → sp_so W f < 100) ∧ (sp_vj (sp_n V) y x j = true → W = sp_pw T V (sp_dg y x) j)) ?_ ?_ 0 I3 (Nat.zero_le _) ⟨f3, x3, sp_age V (st_rt T) 0, g1, rfl, fun f hf => Nat.lt_of_le_of_lt (Nat.sub_le _ _) (hVo.2.2.2 f hf).2.1, fun _ => rfl⟩
      · intro I4 ⟨f4, x4, W, w1, w2, w3, w4⟩
        apply t_Mo_planOf_52 hR
        have eu : sp_un y y = 0 := by unfold sp_un; rw [if_neg (by omega)]
        rw [eu]
        refine ⟨fun _ => ?_, fun c => absurd (by decide) c⟩
        cases hb : sp_vj (sp_n V) y x y with
        | false =>
          refine ⟨fun _ => ⟨fun c => ?_, fun _ => ?_⟩, fun c => absurd rfl c⟩
          · rw [x4] at c
            cases hp : sp_pf (sp_pv T V y) x with
            | none => rw [hp] at c; exact absurd c (by decide)
            | some q =>
              rw [hp] at c
              have := (sp_pf_b hvb _ q hp).2
              exact absurd (Int32.lt_trans c (show (-1 : Int32) < 0 by decide)) (nI_pos (by omega))
          · have hn : sp_pv T V y x = none := by
              unfold sp_pv
              rw [if_neg]
              intro q
              have := (sp_vj_all (n := sp_n V) (y := y) (x := x) y).mpr (sp_vb_vd.mp q)
              rw [hb] at this; cases this
            have K := ih I4 ⟨f4, by rw [sp_pf, hn]; exact x4⟩
            rw [sp_pf, hn] at K
            rw [nI_1]
            exact K
        | true =>
          have hvd : sp_vd (sp_n V) y x := (sp_vj_all y).mp hb
          have hval : sp_pv T V y x = some (sp_pc (sp_bits (sp_pw T V (sp_dg y x) y) (st_eo T))) := by unfold sp_pv; rw [if_pos (sp_vb_vd.mpr hvd)]
          have hWe := w4 hb
          have hW : sp_ok W := by rw [hWe]; exact sp_pw_ok hT hV y hy hvd
          have hMT : sp_MT I4 W (st_ne T) (st_ef T) := by
            have := sp_MT_k (sp_MN_T hM hT hV) (row f4)
            unfold sp_MT at this ⊢
            rw [w2]
            exact this
          refine ⟨fun c => absurd c (by decide), fun _ => ?_⟩
          refine c_Mo_servedOn hR (by decide) w1 hMT hW ?_
          intro I5 k0
          refine ⟨_, I5, J, R, rfl, rfl, hR, ?_⟩
          have hlt := sp_bits_lt hW (st_eok hT)
          have hc5 := sp_pc_le5 _ hlt
          refine c_Mo_ones hR (Nat.lt_trans hlt (by decide)) ⟨_, I5, J, R, rfl, rfl, hR, ?_⟩
          have f5 : sp_fr (80 :: sp_gS) sp_gE I I5 := sp_fr_tr f4 (sp_fr_mono k0 (by decide) (by decide))
          have x5 : I5 70 33 = sp_p2 (sp_pf (sp_pv T V y) x) := by rw [k0 70 (by decide) 33 (by decide)]; exact x4
          have ec : sp_bits W (st_eo T) = sp_bits (sp_pw T V (sp_dg y x) y) (st_eo T) := by rw [hWe]
          have hr5 : sp_all W (sp_eo (st_ne T) (st_ef T)) (2 * sp_n W) = sp_bits (sp_pw T V (sp_dg y x) y) (st_eo T) := ec
          rw [ec] at hc5
          rw [x5, hr5, nI_1]
          cases hp : sp_pf (sp_pv T V y) x with
          | none =>
            refine ⟨fun _ I6 e6 => ?_, fun c => absurd (Int32.lt_of_lt_of_le (show sp_p2 none < 0 by decide) (nI_pos' (by omega))) c⟩
            have K := ih I6 ⟨sp_fr_tr f5 (sp_fr_ue e6 (by decide)), by rw [sp_pf, hval, hp, e6, ow_u_at]; rfl⟩
            rw [sp_pf, hval, hp] at K
            exact K
          | some q =>
            have hq5 := (sp_pf_b hvb _ q hp).2
            refine ⟨fun c I6 e6 => ?_, fun c => ?_⟩
            · have c2 : q.2 < sp_pc (sp_bits (sp_pw T V (sp_dg y x) y) (st_eo T)) := (nI_ltI (by omega) (by omega)).mp c
              have K := ih I6 ⟨sp_fr_tr f5 (sp_fr_ue e6 (by decide)), by rw [sp_pf, hval, hp]; dsimp only; rw [if_pos c2, e6, ow_u_at]; rfl⟩
              rw [sp_pf, hval, hp] at K
              dsimp only at K
              rw [if_pos c2] at K
              exact K
            · have c2 : ¬ q.2 < sp_pc (sp_bits (sp_pw T V (sp_dg y x) y) (st_eo T)) := fun z => c ((nI_ltI (by omega) (by omega)).mpr z)
              have K := ih I5 ⟨f5, by rw [sp_pf, hval, hp]; dsimp only; rw [if_neg c2]; rw [hp] at x5; exact x5⟩
              rw [sp_pf, hval, hp] at K
              dsimp only at K
              rw [if_neg c2] at K
              exact K
      · intro j I4 hj ⟨f4, x4, W, w1, w2, w3, w4⟩ ih4
        have hu : sp_un y j = 10 ^ (y - 1 - j) := by unfold sp_un; rw [if_pos hj]
        have hu0 : 0 < sp_un y j := by rw [hu]; exact Nat.pow_pos (by decide)
        have hul := sp_un_le (y := y) (j := j) hy
        have nx : ∀ (I5 : Nat → Nat → Int32) (W2 : sp_V), sp_fr (80 :: sp_gS) sp_gE I I5 → I5 70 33 = sp_p2 (sp_pf (sp_pv T V y) x) → sp_Mr I5 82 W2 → sp_n W2 = sp_n V → (∀ f, f < sp_n V → sp_so W2 f < 100) → (sp_vj (sp_n V) y x (j + 1) = true → sp_age W2 (st_rt T) 1 = sp_pw T V (sp_dg y x) (j + 1)) → ow_AM M_Mo_yearOn (d + 6) [.ref 70, .ref 82] (85, I5, J, R) (fun r h' => ∃ (I7 : Nat → Nat → Int32) (J7 : Nat → Nat → Int64) (R7 : Nat → Nat → Option Nat), r = none ∧ h' = (85, I7, J7, R7) ∧ ow_RF R7 ∧ ow_AW ow_Y0 (ow_Z Q) M_Mo_planOf (d + 7) 0 0 52 [(0, .ref 70), (2, .int (sp_p1 (sp_pf (sp_pv T V y) x))), (3, .int (nI (10 ^ y))), (4, .int (nI x)), (5, .int (sp_jb (sp_vj (sp_n V) y x (j + 1)))), (6, .int (nI (sp_un y j) / 10))] [] (85, I7, J7, R7) 0 0) := by
          intro I5 W2 f5 x5 v1 v2 v3 v4
          refine c_Mo_yearOn (V := W2) (r := st_rt T) hR (by decide) (by rw [row f5, v2]; exact sp_MN_n hM hV) (by rw [row f5]; exact hM.2.1.2.1) hT9 (sp_Mr_w v1) (by omega) (by rw [v2]; exact v3) ?_
          intro I7 q0 q1
          refine ⟨I7, J, R, rfl, rfl, hR, ?_⟩
          rw [show (10 : Int32) = nI 10 from rfl, pk_div (by omega) (by decide) (by decide), sp_un_10]
          refine ih4 I7 ⟨sp_fr_tr f5 (sp_fr_mono (E := []) (sp_frq q0) (by decide) (by decide)), by rw [q0 70 (by decide)]; exact x5, sp_age W2 (st_rt T) 1, sp_Mr_of q1 (fun f hf => by rw [q0 80 (by decide)]; exact (v1.1 f hf).2.2), v2, fun f hf => Nat.lt_of_le_of_lt (Nat.sub_le _ _) (v3 f hf), v4⟩
        apply t_Mo_planOf_52 hR
        have ed : nI x / nI (sp_un y j) - nI x / nI (sp_un y j) / 10 * 10 = nI (sp_dg y x j) := by
          rw [pk_div (by omega) hu0 (by omega), show (10 : Int32) = nI 10 from rfl, pk_rem (Nat.lt_of_le_of_lt (Nat.div_le_self _ _) (by omega)) (by decide) (by decide)]
          unfold sp_dg
          rw [hu]
        have hd9 : sp_dg y x j < 10 := Nat.mod_lt _ (by decide)
        rw [ed]
        refine ⟨fun c => absurd c (nI_nle hu0 (by omega)), fun _ => ⟨nI_ne0 hu0 (by omega), ?_⟩⟩
        cases hb : sp_vj (sp_n V) y x j with
        | false =>
          have hb1 : sp_vj (sp_n V) y x (j + 1) = false := by rw [sp_vj, hb]; rfl
          refine ⟨fun _ => ?_, fun c => absurd rfl c⟩
          have K := nx I4 W f4 x4 w1 w2 w3 (fun q => by rw [hb1] at q; cases q)
          rw [hb1] at K
          exact K
        | true =>
          have hWe := w4 hb
          refine ⟨fun c => absurd c (by decide), fun _ => ?_⟩
          rw [row f4, sp_MN_n hM hV]
          rcases Nat.eq_zero_or_pos (sp_dg y x j) with hd | hd
          · have hb1 : sp_vj (sp_n V) y x (j + 1) = true := by rw [sp_vj, hb, hd]; rfl
            rw [hd]
            refine ⟨fun c => absurd (Int32.le_trans (nI_pos' (by omega)) c) (by decide), fun _ => ⟨fun _ => ?_, fun c => absurd (by decide) c⟩⟩
            have K := nx I4 W f4 x4 w1 w2 w3 (fun _ => by rw [sp_pw, hd, hWe])
            rw [hb1] at K
            exact K
          · obtain ⟨f, hf⟩ : ∃ f, sp_dg y x j = f + 1 := ⟨sp_dg y x j - 1, by omega⟩
            rw [hf, nI_pred, nI_leI (by omega) (by omega)]
            refine ⟨fun c => ?_, fun c => ⟨fun c2 => absurd c2 (nI_pos (by omega)), fun _ => ?_⟩⟩
            · have hb1 : sp_vj (sp_n V) y x (j + 1) = false := by rw [sp_vj, hb, hf, decide_eq_false (by omega)]; rfl
              have K := nx I4 W f4 x4 w1 w2 w3 (fun q => by rw [hb1] at q; cases q)
              rw [hb1] at K
              exact K
            · have hb1 : sp_vj (sp_n V) y x (j + 1) = true := by rw [sp_vj, hb, hf, decide_eq_true (by omega)]; rfl
              have hnT := hV.2.1
              have e7 : (7 : Int32) + 2 * nI f + 1 = nI (8 + 2 * f) := by
                rw [show (7 : Int32) + 2 * nI f = nI (7 + 2 * f) from sp_ix, nI_1]; congr 1; omega
              rw [e7, sp_cl (by omega), sp_cl (by omega)]
              refine ⟨vp_in_nI (by omega) (by decide), vp_in_nI (by omega) (by decide), fun I5 e5 => ?_⟩
              rw [(hM.2.1.2.2.2.2.2.2.1 f (by omega)).2] at e5
              have hso := (hT.1.2.2.2 f (by show f < st_n T; omega)).2.1
              have K := nx I5 (sp_mend W f (sp_so (st_v T) f)) (sp_fr_tr f4 (sp_fr_ue e5 (Or.inl (by decide)))) (by rw [e5, ow_u_ne (by decide)]; exact x4) ⟨fun g hg => ?_, by rw [e5, ow_u_nk (by omega)]; exact w1.2.1, by rw [e5, ow_u_nk (by omega)]; exact w1.2.2⟩ w2 (fun g hg => ?_) (fun _ => by rw [sp_pw, hf, hWe])
              · rw [hb1] at K
                exact K
              · have hg : g < sp_n W := hg
                have := w1.1 g hg
                rw [e5, ow_u_ne (show (80 : Nat) ≠ 82 by decide), ow_u_nk (show 6 + g ≠ f by omega)]
                refine ⟨?_, this.2.1, this.2.2⟩
                show _ = nI (if g = f then sp_so (st_v T) f else sp_so W g)
                by_cases hgf : g = f
                · subst hgf; rw [ow_u_at, if_pos rfl]
                · rw [ow_u_nk hgf, if_neg hgf]; exact this.1
              · show (if g = f then sp_so (st_v T) f else sp_so W g) < 100
                by_cases hgf : g = f
                · rw [if_pos hgf]; exact hso
                · rw [if_neg hgf]; exact w3 g hg
  apply t_Mo_planOf hR
  refine sp_up (σ := Unit) (N := y) (G := fun k _ => ow_AW ow_Y0 (ow_Z Q) M_Mo_planOf (d + 7) 0 0 7 [(0, .ref 70), (1, .int (nI y)), (2, .int 0), (3, .int (nI (10 ^ k))), (4, .int (nI k))] [] (85, I, J, R) 0 0) (Inv := fun _ _ => True) ?_ ?_ 0 () (Nat.zero_le _) trivial
  · intro _ _
    apply t_Mo_planOf_7 hR
    exact ⟨fun _ I1 e1 => main I1 e1, fun c => absurd (Int32.le_refl _) c⟩
  · intro k _ hk _ ih
    have K := ih () trivial
    apply t_Mo_planOf_7 hR
    rw [show nI (10 ^ k) * 10 = nI (10 ^ k * 10) from pk_mul _ 10, ← Nat.pow_succ, nI_1]
    exact ⟨fun c => absurd c (nI_ge hk (by omega)), fun _ => K⟩
end PLAN3
