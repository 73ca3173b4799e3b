/-! Own rows: the reference's fits. -/
section FITS3
variable {d : Nat} {I : Nat → Nat → Int32} {J : Nat → Nat → Int64} {R : Nat → Nat → Option Nat} {Q : Option Value → ow_H → Prop} {T : sp_T}
theorem sp_l2 (l : Nat) : nI l = nI (2 * (l / 2) + (decide (l % 2 = 1)).toNat) := by
  congr 1
  rcases Nat.mod_two_eq_zero_or_one l with h2 | h2
  · rw [h2]; show l = 2 * (l / 2) + 0; omega
  · rw [h2]; show l = 2 * (l / 2) + 1; omega
theorem c_Mo_signsOf {a l : Nat} {W : sp_V} (hR : ow_RF R) (ha : a ∈ [75, 76, 77, 82]) (hS : sp_Mr I a W) (hW : sp_ok W) (hl : l < 2 * sp_n W)
    (hQ : ∀ I2 : Nat → Nat → Int32, sp_fr [81] [(70, 26), (70, 27), (70, 28), (70, 29)] I I2 → Q (some (.int (sp_out (sp_gl W l).2.2))) (85, I2, J, R)) : ow_AM M_Mo_signsOf (d + 4) [.ref 70, .ref a, .int (nI l)] (85, I, J, R) Q := by
  apply t_Mo_signsOf ha hR
  refine c_Mo_goOver hR ha hS hW (f := l / 2) (b := decide (l % 2 = 1)) (by omega) (sp_l2 l) ?_
  intro I2 g0 g1 g2 g3 g4 g5
  refine ⟨I2, J, R, rfl, rfl, hR, ?_⟩
  rw [g4]
  exact hQ I2 g0
theorem c_Mo_allShapes (hR : ow_RF R) (hT : st_ok T) (h4 : I 73 4 = nI (st_nv T)) (hQ : Q (some (.int (nI (sp_nf T)))) (85, I, J, R)) : ow_AM M_Mo_allShapes (d + 1) [.ref 70] (85, I, J, R) Q := by
  have hnv := hT.2.2.2.2.2.2.2.1
  apply t_Mo_allShapes hR
  refine sp_up (σ := Unit) (N := st_nv T) (G := fun i _ => ow_AW ow_Y0 (ow_Z Q) M_Mo_allShapes (d + 1) 0 0 4 [(0, .ref 70), (1, .int (nI (5 ^ i))), (2, .int (nI i))] [] (85, I, J, R) 0 0) (Inv := fun _ _ => True) ?_ ?_ 0 () (Nat.zero_le _) trivial
  · intro _ _
    apply t_Mo_allShapes_4 hR
    rw [h4]
    exact ⟨fun _ => hQ, fun c => absurd (Int32.le_refl _) c⟩
  · intro i _ hi _ ih
    have K := ih () trivial
    apply t_Mo_allShapes_4 hR
    rw [h4, show nI (5 ^ i) * 5 = nI (5 ^ i * 5) from pk_mul _ 5, ← Nat.pow_succ, nI_1]
    exact ⟨fun c => absurd c (nI_ge hi (by omega)), fun _ => K⟩
theorem c_Mo_shapeOf {code k : Nat} (hR : ow_RF R) (hT : st_ok T) (h4 : I 73 4 = nI (st_nv T)) (hc : code < 1000) (hk : k < st_nv T) (hQ : Q (some (.int (nI (sp_shp (st_nv T) code k)))) (85, I, J, R)) : ow_AM M_Mo_shapeOf (d + 1) [.ref 70, .int (nI code), .int (nI k)] (85, I, J, R) Q := by
  have hnv := hT.2.2.2.2.2.2.2.1
  apply t_Mo_shapeOf hR
  rw [h4, show nI (st_nv T) - 1 = nI (st_nv T - 1) from pk_sub (b := 1) (by omega)]
  have K : ∀ (m j : Nat), k + m = j → j < st_nv T → ow_AW ow_Y0 (ow_Z Q) M_Mo_shapeOf (d + 1) 0 0 12 [(2, .int (nI k)), (3, .int (nI (code / 5 ^ (st_nv T - 1 - j)))), (4, .int (nI j))] [] (85, I, J, R) 0 0 := by
    intro m
    induction m with
    | zero =>
      intro j hj hlt
      have hj : k = j := hj
      subst hj
      apply t_Mo_shapeOf_12 hR
      refine ⟨fun _ => ?_, fun c => absurd (Int32.le_refl _) c⟩
      rw [show (5 : Int32) = nI 5 from rfl, pk_rem (Nat.lt_of_le_of_lt (Nat.div_le_self _ _) (by omega)) (by decide) (by decide)]
      exact hQ
    | succ m ih =>
      intro j hj hlt
      obtain ⟨u, hu⟩ : ∃ u, j = u + 1 := ⟨j - 1, by omega⟩
      subst hu
      apply t_Mo_shapeOf_12 hR
      refine ⟨fun c => absurd c (nI_ge (by omega) (by omega)), fun _ => ?_⟩
      rw [show (5 : Int32) = nI 5 from rfl, pk_div (Nat.lt_of_le_of_lt (Nat.div_le_self _ _) (by omega)) (by decide) (by decide), Nat.div_div_eq_div_mul, ← Nat.pow_succ, pk_m1, show (st_nv T - 1 - (u + 1)).succ = st_nv T - 1 - u by omega]
      exact ih u (by omega) (by omega)
  have := K (st_nv T - 1 - k) (st_nv T - 1) (by omega) (by omega)
  rw [Nat.sub_self, Nat.pow_zero, Nat.div_one] at this
  exact this
theorem c_Mo_wrong48 {W : sp_V} (hR : ow_RF R) (hM : sp_mt I T) (hT : st_ok T) (hS : sp_Mr I 75 W) (hW : sp_ok W) (hn : sp_n W = st_n T)
    (hQ : ∀ I2 : Nat → Nat → Int32, sp_fr [81] [(70, 26), (70, 27), (70, 28), (70, 29)] I I2 → Q (some (.int (sp_fuw T W (st_ns T) 0))) (85, I2, J, R)) : ow_AW ow_Y0 (ow_Z Q) M_Mo_wrongBy (d + 5) 0 0 48 [(0, .ref 70), (2, .int 0)] [] (85, I, J, R) 0 0 := by
  have hns := hT.2.2.2.2.2.2.2.2.2.2.1
  have hsl := hT.2.2.2.2.2.2.2.2.2.2.2
  have hn6 := hW.1
  have hM5 := hM.2.2.2.2.2.1
  have hMs := hM.2.2.2.2.2.2.2.2.2.1
  have K : ∀ (k i : Nat) (I1 : Nat → Nat → Int32), i + k = st_ns T → sp_fr [81] [(70, 26), (70, 27), (70, 28), (70, 29)] I I1 → (∀ I2 : Nat → Nat → Int32, sp_fr [81] [(70, 26), (70, 27), (70, 28), (70, 29)] I I2 → Q (some (.int (sp_fuw T W k i))) (85, I2, J, R)) → ow_AW ow_Y0 (ow_Z Q) M_Mo_wrongBy (d + 5) 0 0 48 [(0, .ref 70), (2, .int (nI i))] [] (85, I1, J, R) 0 0 := by
    intro k
    induction k with
    | zero =>
      intro i I1 hi he hq
      apply t_Mo_wrongBy_48 hR
      rw [sp_fr_row he (a := 73) (by decide) (by simp), hM5, show i = st_ns T by omega]
      exact ⟨fun _ => hq I1 he, fun c => absurd (Int32.le_refl _) c⟩
    | succ k ih =>
      intro i I1 hi he hq
      have hl := hsl i (by omega)
      obtain ⟨c1, c2, c3⟩ := hMs i (by omega)
      have S1 := sp_Mr_keep hS (sp_fr_row he (by decide) (by simp)) (sp_fr_row he (by decide) (by simp))
      apply t_Mo_wrongBy_48 hR
      rw [sp_fr_row he (a := 73) (by decide) (by simp), hM5, show (32 : Int32) + 3 * nI i = nI (32 + 3 * i) from sp_ix, nI_1, show nI (32 + 3 * i) + 2 = nI (32 + 3 * i + 2) from nI_add _ 2, sp_cl (by omega), sp_cl (by omega), sp_cl (by omega), c1, show 32 + 3 * i + 1 = 33 + 3 * i by omega, c2, show 32 + 3 * i + 2 = 34 + 3 * i by omega, show (2 : Int32) * nI (st_sl T i / 2) = nI (2 * (st_sl T i / 2)) from pk_mul 2 _, nI_add, show 2 * (st_sl T i / 2) + st_sl T i % 2 = st_sl T i by omega]
      refine ⟨fun c => absurd c (nI_ge (by omega) (by omega)), fun _ => ⟨vp_in_nI (by omega) (by decide), vp_in_nI (by omega) (by decide), ?_⟩⟩
      refine c_Mo_signsOf hR (by decide) S1 hW (by omega) ?_
      intro I2 g0
      refine ⟨_, I2, J, R, rfl, rfl, hR, vp_in_nI (by omega) (by decide), ?_⟩
      have he2 := sp_fr_tr he g0
      rw [sp_fr_row he2 (a := 73) (by decide) (by simp), c3, nI_1]
      refine ⟨fun c => ih (i + 1) I2 (by omega) he2 (fun I3 he3 => ?_), fun c => ?_⟩
      · have := hq I3 he3
        rw [sp_fuw, if_pos c] at this
        exact this
      · have := hq I2 he2
        rw [sp_fuw, if_neg c] at this
        exact this
  exact K (st_ns T) 0 I (Nat.zero_add _) sp_fr_rf hQ
theorem sp_mt_q (hM : sp_mt I T) : sp_Mq I (st_v T) := fun f hf => (hM.2.2.2.2.2.2.1 f hf).1
theorem c_Mo_wrongBy {code : Nat} (hR : ow_RF R) (hM : sp_mt I T) (hT : st_ok T) (hc : code < 1000)
    (hQ : ∀ I2 : Nat → Nat → Int32, sp_fr (80 :: sp_gS) sp_gE I I2 → sp_Mr I2 75 (sp_wr T code) → I2 83 = I 83 → Q (some (.int (sp_fuw T (sp_wr T code) (st_ns T) 0))) (85, I2, J, R)) : ow_AM M_Mo_wrongBy (d + 5) [.ref 70, .int (nI code)] (85, I, J, R) Q := by
  have hnv := hT.2.2.2.2.2.2.2.1
  have hn6 : st_n T ≤ 6 := hT.1.1
  have hvf := hT.2.2.2.2.2.2.2.2.1
  apply t_Mo_wrongBy hR
  refine c_Mo_asToldShapes (V := st_v T) hR hM.2.2.1 hn6 (sp_mt_q hM) ?_
  intro I5 g0 g1
  refine ⟨I5, J, R, rfl, rfl, hR, ?_⟩
  refine sp_up (N := st_nv T) (G := fun i I1 => ow_AW ow_Y0 (ow_Z Q) M_Mo_wrongBy (d + 5) 0 0 6 [(0, .ref 70), (1, .int (nI code)), (2, .int (nI i))] [] (85, I1, J, R) 0 0) (Inv := fun i I1 => sp_eq [80] I I1 ∧ ∀ g, g < st_n T → I1 80 g = nI (sp_wsh T code i g)) ?_ ?_ 0 I5 (Nat.zero_le _) ⟨g0, g1⟩
  · intro I1 ⟨he, x1⟩
    apply t_Mo_wrongBy_6 hR
    have hM1 := sp_mt_k hM (he 73 (by decide)) (he 75 (by decide))
    rw [hM1.2.2.2.2.1]
    refine ⟨fun _ => ?_, fun c => absurd (Int32.le_refl _) c⟩
    have S1 : sp_Mr I1 75 (sp_wr T code) := sp_Mr_of (V := sp_wr T code) hM1.2.2.2.2.2.2.2.2.2.2 x1
    refine c_Mo_wrong48 hR hM1 hT S1 (sp_wr_ok hT) rfl ?_
    intro I2 k0
    exact hQ I2 (sp_fr_tr (sp_fr_mono (E := []) (sp_frq he) (by decide) (by decide)) (sp_fr_mono k0 (by decide) (by decide))) (sp_Mr_keep S1 (sp_fr_row k0 (by decide) (by simp)) (sp_fr_row k0 (by decide) (by simp))) ((sp_fr_row k0 (by decide) (by simp)).trans (he 83 (by decide)))
  · intro i I1 hi ⟨he, x1⟩ ih
    have hM1 := sp_mt_k hM (he 73 (by decide)) (he 75 (by decide))
    have hv := hvf i hi
    apply t_Mo_wrongBy_6 hR
    rw [hM1.2.2.2.2.1, show (29 : Int32) + nI i = nI (29 + i) from nI_add 29 i, sp_cl (by omega), hM1.2.2.2.2.2.2.2.2.1 i hi, sp_cl (by omega)]
    refine ⟨fun c => absurd c (nI_ge hi (by omega)), fun _ => ⟨fun c => absurd c (nI_pos (by omega)), fun _ => ⟨vp_in_nI (by omega) (by decide), ?_⟩⟩⟩
    refine c_Mo_shapeOf hR hT hM1.2.2.2.2.1 hc hi ⟨_, I1, J, R, rfl, rfl, hR, vp_in_nI (by omega) (by decide), fun I3 e3 => ?_⟩
    rw [nI_1]
    refine ih I3 ⟨sp_eq_tr he (sp_eq_ue e3 (by decide)), fun g hg => ?_⟩
    rw [e3, sp_wsh]
    by_cases h : g = st_vf T i
    · rw [if_pos h, h, ow_u_at]
    · rw [if_neg h, ow_u_nk h]; exact x1 g hg
theorem c_Mo_wrongByT (hR : ow_RF R) (hM : sp_mt I T) (hT : st_ok T)
    (hQ : ∀ I2 : Nat → Nat → Int32, sp_fr (80 :: sp_gS) sp_gE I I2 → Q (some (.int (sp_fuw T (st_v T) (st_ns T) 0))) (85, I2, J, R)) : ow_AM M_Mo_wrongBy (d + 5) [.ref 70, .int (-1)] (85, I, J, R) Q := by
  have hn6 : st_n T ≤ 6 := hT.1.1
  apply t_Mo_wrongBy hR
  refine c_Mo_asToldShapes (V := st_v T) hR hM.2.2.1 hn6 (sp_mt_q hM) ?_
  intro I5 g0 g1
  refine ⟨I5, J, R, rfl, rfl, hR, ?_⟩
  have hM1 := sp_mt_k hM (g0 73 (by decide)) (g0 75 (by decide))
  have S1 : sp_Mr I5 75 (st_v T) := sp_Mr_of hM1.2.2.2.2.2.2.2.2.2.2 g1
  have K : ow_AW ow_Y0 (ow_Z Q) M_Mo_wrongBy (d + 5) 0 0 48 [(0, .ref 70), (2, .int 0)] [] (85, I5, J, R) 0 0 := by
    refine c_Mo_wrong48 hR hM1 hT S1 hT.1 rfl ?_
    intro I2 k0
    exact hQ I2 (sp_fr_tr (sp_fr_mono (E := []) (sp_frq g0) (by decide) (by decide)) (sp_fr_mono k0 (by decide) (by decide)))
  apply t_Mo_wrongBy_6 hR
  exact ⟨fun _ => K, fun _ => ⟨fun _ => K, fun c => absurd (by decide) c⟩⟩
theorem c_Mo_isVeiled {x : Int32} {n : Nat} (hR : ow_RF R) (h1 : I 70 14 = 1) (h2 : I 73 4 = nI n) (hn : n < 100) (hQ : Q (some (.int (sp_jb (sp_is x n)))) (85, I, J, R)) : ow_AM M_Mo_isVeiled (d + 2) [.ref 70, .int x] (85, I, J, R) Q := by
  apply t_Mo_isVeiled hR
  rw [h1, h2]
  refine ⟨fun c => absurd c (by decide), fun _ => ?_⟩
  refine c_Mo_in hR (by omega) ⟨_, I, J, R, rfl, rfl, hR, ?_⟩
  cases hb : sp_is x n with
  | false => rw [hb] at hQ; exact ⟨fun _ => hQ, fun c => absurd rfl c⟩
  | true => rw [hb] at hQ; exact ⟨fun c => absurd c (by decide), fun _ => hQ⟩
theorem sp_mt_g {I2 : Nat → Nat → Int32} (h : sp_mt I T) (hf : sp_fr (80 :: sp_gS) sp_gE I I2) : sp_mt I2 T := sp_mt_k h (sp_fr_row hf (by decide) (by simp [sp_gE])) (sp_fr_row hf (by decide) (by simp [sp_gE]))
theorem c_Mo_fitsL (hR : ow_RF R) (hM : sp_mt I T) (hT : st_ok T)
    (hQ : ∀ I2 : Nat → Nat → Int32, sp_fr (80 :: sp_gS) sp_gE I I2 → Q (some (.int (nI (sp_flk T (sp_nf T)).length))) (85, I2, J, R)) : ow_AW ow_Y0 (ow_Z Q) M_Mo_fits (d + 6) 0 0 21 [(0, .ref 70), (1, .int 0), (2, .int 0)] [] (85, I, J, R) 0 0 := by
  have hnf := sp_nf_le hT
  refine sp_up (N := sp_nf T) (G := fun i I1 => ow_AW ow_Y0 (ow_Z Q) M_Mo_fits (d + 6) 0 0 21 [(0, .ref 70), (1, .int (nI (sp_flk T i).length)), (2, .int (nI i))] [] (85, I1, J, R) 0 0) (Inv := fun i I1 => sp_fr (80 :: sp_gS) sp_gE I I1) ?_ ?_ 0 I (Nat.zero_le _) sp_fr_rf
  · intro I1 he
    apply t_Mo_fits_21 hR
    refine c_Mo_allShapes hR hT (sp_mt_g hM he).2.2.2.2.1 ⟨_, I1, J, R, rfl, rfl, hR, ?_⟩
    exact ⟨fun _ => hQ I1 he, fun c => absurd (Int32.le_refl _) c⟩
  · intro i I1 hi he ih
    apply t_Mo_fits_21 hR
    refine c_Mo_allShapes hR hT (sp_mt_g hM he).2.2.2.2.1 ⟨_, I1, J, R, rfl, rfl, hR, ?_⟩
    refine ⟨fun c => absurd c (nI_ge hi (by omega)), fun _ => ?_⟩
    refine c_Mo_wrongBy hR (sp_mt_g hM he) hT (by omega) ?_
    intro I2 k0 _ _
    refine ⟨_, I2, J, R, rfl, rfl, hR, ?_⟩
    have K := ih I2 (sp_fr_tr he k0)
    rw [sp_flk_s, List.length_append] at K
    rw [nI_1, nI_1, Int32.add_zero]
    refine ⟨fun c => ?_, fun c => ?_⟩
    · have hb : ¬ sp_fitb T i = true := fun q => c (of_decide_eq_true q)
      rw [if_neg hb] at K
      exact K
    · have hb : sp_fitb T i = true := decide_eq_true c
      rw [if_pos hb] at K
      exact K
theorem c_Mo_shapedL {k s : Nat} (hR : ow_RF R) (hM : sp_mt I T) (hT : st_ok T) (hk : k < st_nv T) (hs : s < 5)
    (hQ : ∀ I2 : Nat → Nat → Int32, sp_fr (80 :: sp_gS) sp_gE I I2 → Q (some (.int (nI (sp_ck T (fun c => decide (sp_shp (st_nv T) c k = s)) (sp_nf T))))) (85, I2, J, R)) : ow_AW ow_Y0 (ow_Z Q) M_Mo_shapedBy (d + 6) 0 0 36 [(0, .ref 70), (1, .int (nI k)), (2, .int (nI s)), (4, .int 0), (5, .int 0)] [] (85, I, J, R) 0 0 := by
  have hnf := sp_nf_le hT
  refine sp_up (N := sp_nf T) (G := fun i I1 => ow_AW ow_Y0 (ow_Z Q) M_Mo_shapedBy (d + 6) 0 0 36 [(0, .ref 70), (1, .int (nI k)), (2, .int (nI s)), (4, .int (nI (sp_ck T (fun c => decide (sp_shp (st_nv T) c k = s)) i))), (5, .int (nI i))] [] (85, I1, J, R) 0 0) (Inv := fun i I1 => sp_fr (80 :: sp_gS) sp_gE I I1) ?_ ?_ 0 I (Nat.zero_le _) sp_fr_rf
  · intro I1 he
    apply t_Mo_shapedBy_36 hR
    refine c_Mo_allShapes hR hT (sp_mt_g hM he).2.2.2.2.1 ⟨_, I1, J, R, rfl, rfl, hR, ?_⟩
    exact ⟨fun _ => hQ I1 he, fun c => absurd (Int32.le_refl _) c⟩
  · intro i I1 hi he ih
    apply t_Mo_shapedBy_36 hR
    refine c_Mo_allShapes hR hT (sp_mt_g hM he).2.2.2.2.1 ⟨_, I1, J, R, rfl, rfl, hR, ?_⟩
    refine ⟨fun c => absurd c (nI_ge hi (by omega)), fun _ => ?_⟩
    refine c_Mo_wrongBy hR (sp_mt_g hM he) hT (by omega) ?_
    intro I2 k0 _ _
    refine ⟨_, I2, J, R, rfl, rfl, hR, ?_⟩
    have K := ih I2 (sp_fr_tr he k0)
    rw [sp_ck] at K
    rw [nI_1, nI_1, Int32.add_zero]
    refine ⟨fun c => ?_, fun c => ?_⟩
    · have hb : ¬ sp_fitb T i = true := fun q => c (of_decide_eq_true q)
      rw [if_neg (fun q => hb q.1)] at K
      exact K
    · have hb : sp_fitb T i = true := decide_eq_true c
      refine c_Mo_shapeOf hR hT (sp_mt_g hM (sp_fr_tr he k0)).2.2.2.2.1 (by omega) hk ⟨_, I2, J, R, rfl, rfl, hR, ?_⟩
      have hl := sp_shp_lt (nv := st_nv T) (code := i) (k := k)
      rw [nI_eq (by omega) (by omega)]
      refine ⟨fun c2 => ?_, fun c2 => ?_⟩
      · rw [if_neg (fun q => c2 (of_decide_eq_true q.2))] at K
        exact K
      · rw [if_pos ⟨hb, decide_eq_true c2⟩] at K
        exact K
/-- the model's search of the fit i -/
theorem c_Mo_fitAtL {k : Nat} {x : Int32} (hR : ow_RF R) (hM : sp_mt I T) (hT : st_ok T) (hk : k < st_nv T)
    (hQ : ∀ I2 : Nat → Nat → Int32, sp_fr (80 :: sp_gS) sp_gE I I2 → ∀ i, i < (sp_flk T (sp_nf T)).length → x = nI i → Q (some (.int (nI (sp_shp (st_nv T) ((sp_flk T (sp_nf T)).getD i 0) k)))) (85, I2, J, R))
    (hN : ∀ I2 : Nat → Nat → Int32, sp_fr (70 :: 80 :: sp_gS) [] I I2 → sp_is x (sp_flk T (sp_nf T)).length = false → (∀ j, j ≠ 11 → (70, j) ∉ sp_gE → I2 70 j = I 70 j) → I2 70 11 = 1 → Q (some (.int (-1))) (85, I2, J, R)) : ow_AW ow_Y0 (ow_Z Q) M_Mo_fitAt (d + 6) 0 0 23 [(0, .ref 70), (1, .int x), (2, .int (nI k)), (3, .int 0), (4, .int 0)] [] (85, I, J, R) 0 0 := by
  have hnf := sp_nf_le hT
  have hlen := sp_flk_len (T := T) (sp_nf T)
  have ext : ∀ i, i ≤ sp_nf T → ∀ j, j < (sp_flk T i).length → (sp_flk T (sp_nf T)).getD j 0 = (sp_flk T i).getD j 0 ∧ j < (sp_flk T (sp_nf T)).length := by
    intro i hi
    obtain ⟨m, hm⟩ : ∃ m, sp_nf T = i + m := ⟨sp_nf T - i, by omega⟩
    rw [hm]
    clear hi hm
    induction m with
    | zero => intro j hj; exact ⟨rfl, hj⟩
    | succ m ih =>
      intro j hj
      obtain ⟨i1, i2⟩ := ih j hj
      rw [show i + (m + 1) = i + m + 1 by omega, sp_flk_s, sp_gd i2]
      exact ⟨i1, by rw [List.length_append]; omega⟩
  refine sp_up (N := sp_nf T) (G := fun i I1 => ow_AW ow_Y0 (ow_Z Q) M_Mo_fitAt (d + 6) 0 0 23 [(0, .ref 70), (1, .int x), (2, .int (nI k)), (3, .int (nI (sp_flk T i).length)), (4, .int (nI i))] [] (85, I1, J, R) 0 0) (Inv := fun i I1 => sp_fr (80 :: sp_gS) sp_gE I I1 ∧ ∀ j, j < (sp_flk T i).length → x ≠ nI j) ?_ ?_ 0 I (Nat.zero_le _) ⟨sp_fr_rf, fun j hj => absurd hj (Nat.not_lt_zero _)⟩
  · intro I1 ⟨he, hx⟩
    apply t_Mo_fitAt_23 hR
    refine c_Mo_allShapes hR hT (sp_mt_g hM he).2.2.2.2.1 ⟨_, I1, J, R, rfl, rfl, hR, ?_⟩
    refine ⟨fun _ => ?_, fun c => absurd (Int32.le_refl _) c⟩
    refine c_Mo_no hR ?_
    intro I2 n0 n1
    refine ⟨_, I2, J, R, rfl, rfl, hR, hN I2 ?_ ?_ (fun j h1 h2 => ?_) n1⟩
    · intro a ha j hj
      simp only [List.mem_cons, not_or] at ha
      rw [n0 a (by simp) j (by simp; intro h; exact absurd h ha.1), he a (by simp only [List.mem_cons, not_or]; exact ha.2) j (fun q => by
        have : ∀ z ∈ sp_gE, z.1 = 70 := by decide
        exact ha.1 (this _ q))]
    · cases hb : sp_is x (sp_flk T (sp_nf T)).length with
      | false => rfl
      | true =>
        obtain ⟨f, f1, f2⟩ := sp_is_nI hb
        exact absurd f2 (hx f f1)
    · rw [n0 70 (by simp) j (by simp; exact h1), he 70 (by decide) j h2]
  · intro i I1 hi ⟨he, hx⟩ ih
    have hli := sp_flk_len (T := T) i
    apply t_Mo_fitAt_23 hR
    refine c_Mo_allShapes hR hT (sp_mt_g hM he).2.2.2.2.1 ⟨_, I1, J, R, rfl, rfl, hR, ?_⟩
    refine ⟨fun c => absurd c (nI_ge hi (by omega)), fun _ => ?_⟩
    refine c_Mo_wrongBy hR (sp_mt_g hM he) hT (by omega) ?_
    intro I2 k0 _ _
    refine ⟨_, I2, J, R, rfl, rfl, hR, ?_⟩
    have he2 := sp_fr_tr he k0
    rw [nI_1, nI_1]
    refine ⟨fun c => ⟨fun c2 => ?_, fun c2 => ?_⟩, fun c => ?_⟩
    · have hb : sp_fitb T i = true := decide_eq_true c
      have es : sp_flk T (i + 1) = sp_flk T i ++ [i] := by rw [sp_flk_s, if_pos hb]
      have K := ih I2 ⟨he2, fun j hj => by
        rw [es, List.length_append] at hj
        have hj : j < (sp_flk T i).length + 1 := hj
        by_cases hji : j = (sp_flk T i).length
        · rw [hji]; exact fun z => c2 z.symm
        · exact hx j (by omega)⟩
      rw [es, List.length_append] at K
      exact K
    · have hb : sp_fitb T i = true := decide_eq_true c
      have es : sp_flk T (i + 1) = sp_flk T i ++ [i] := by rw [sp_flk_s, if_pos hb]
      have hl : (sp_flk T i).length < (sp_flk T (i + 1)).length := by rw [es, List.length_append]; show _ < _ + 1; omega
      obtain ⟨q1, q2⟩ := ext (i + 1) (by omega) (sp_flk T i).length hl
      rw [es, sp_gd2] at q1
      refine c_Mo_shapeOf hR hT (sp_mt_g hM he2).2.2.2.2.1 (by omega) hk ⟨_, I2, J, R, rfl, rfl, hR, ?_⟩
      have := hQ I2 he2 (sp_flk T i).length q2 c2.symm
      rw [q1] at this
      exact this
    · have hb : ¬ sp_fitb T i = true := fun q => c (of_decide_eq_true q)
      have es : sp_flk T (i + 1) = sp_flk T i := by rw [sp_flk_s, if_neg hb, List.append_nil]
      have K := ih I2 ⟨he2, by rw [es]; exact hx⟩
      rw [es] at K
      exact K
end FITS3
