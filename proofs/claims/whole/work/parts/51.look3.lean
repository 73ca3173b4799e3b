/-! Own rows, by program: more methods that only look. -/
theorem sp_mg3 {I I2 : Nat → Nat → Int32} (h : sp_fr (80 :: sp_gS) sp_gE I I2) : sp_fr sp_mS sp_mE I I2 := sp_fr_mono h (by decide) (by decide)
theorem sp_w3 {w : Nat} (h : w < 3) : w = 0 ∨ w = 1 ∨ w = 2 := by omega
theorem sp_w6 {w : Nat} (h : w < 6) : w = 0 ∨ w = 1 ∨ w = 2 ∨ w = 3 ∨ w = 4 ∨ w = 5 := by omega
/-- when a folly is a ruin -/
def sp_rn (so r : Nat) : Int32 := if so = 0 then 0 else if r = 0 then -2 else nI ((so + r - 1) / r)
def sp_fo (T : sp_T) (V : sp_V) (f : Nat) : Nat → Int32
  | 0 => nI (sp_sh V f)
  | 1 => nI (sp_so V f)
  | 2 => sp_jb ((sp_h V).testBit f)
  | 3 => sp_tg (sp_to V f)
  | 4 => nI (st_eo T f)
  | _ => sp_rn (sp_so V f) (st_rt T)
def sp_es (T : sp_T) (V : sp_V) (e : Nat) : Nat → Int32
  | 0 => nI (st_ef T e)
  | 1 => nI (st_de T e)
  | _ => sp_jb ((sp_bits V (st_eo T)).testBit e)
theorem sp_bitj {m f : Nat} (hm : m < 64) (hf : f < 6) : (nI m >>> (nI f &&& 31)) &&& 1 = sp_jb (m.testBit f) := by
  rw [sp_bit m hm f hf]
  cases m.testBit f <;> rfl
theorem sp_tg_1 {k : Nat} (h : k ≠ 0) : nI k - 1 = sp_tg k := by
  obtain ⟨u, hu⟩ : ∃ u, k = u + 1 := ⟨k - 1, by omega⟩
  subst hu
  exact nI_pred u
section PUB3
variable {d : Nat} {I : Nat → Nat → Int32} {R : Nat → Nat → Option Nat} {T : sp_T} {V : sp_V}
theorem c_Fs_yearsToRuin {J : Nat → Nat → Int64} {Q : Option Value → ow_H → Prop} {so r : Nat} (hR : ow_RF R) (h1 : so < 100) (h2 : r < 10) (hQ : Q (some (.int (sp_rn so r))) (85, I, J, R)) : ow_AM M_Fs_yearsToRuin (d + 1) [.int (nI so), .int (nI r)] (85, I, J, R) Q := by
  apply t_Fs_yearsToRuin hR
  unfold sp_rn at hQ
  refine ⟨fun c => ⟨fun c2 => ?_, fun c2 => ⟨fun z => c2 (by rw [z]; decide), ?_⟩⟩, fun c => ?_⟩
  · have := (nI_leI (b := 0) (by omega) (by decide)).mp c2
    rw [if_neg (fun z => c (by rw [z]; rfl)), if_pos (by omega)] at hQ
    exact hQ
  · have hr : ¬ r = 0 := fun z => c2 (by rw [z]; decide)
    have hs : ¬ so = 0 := fun z => c (by rw [z]; rfl)
    rw [if_neg hs, if_neg hr] at hQ
    refine sp_q hQ ?_
    rw [nI_add, show nI (so + r) - 1 = nI (so + r - 1) from pk_sub (b := 1) (by omega), pk_div (by omega) (by omega) (by omega)]
  · rw [if_pos ((sp_z (by omega)).mp c)] at hQ
    exact hQ
theorem c_Mo_ruinIn {J : Nat → Nat → Int64} {Q : Option Value → ow_H → Prop} {f so r : Nat} (hR : ow_RF R) (hf : f < 6) (e1 : I 77 f = nI so) (e2 : I 73 1 = nI r) (h1 : so < 100) (h2 : r < 10) (hQ : Q (some (.int (sp_rn so r))) (85, I, J, R)) : ow_AM M_Mo_ruinIn (d + 1) [.ref 70, .int (nI f)] (85, I, J, R) Q := by
  apply t_Mo_ruinIn hR
  unfold sp_rn at hQ
  have hin : vp_in (nI f) 14 := vp_in_nI (by omega) (by decide)
  rw [sp_cl (by omega), e1, e2]
  refine ⟨hin, fun c => ⟨fun c2 => ⟨hin, c2, ?_⟩, fun c2 => ?_⟩, fun c => ?_⟩
  · have hr : ¬ r = 0 := fun z => c2 (by rw [z]; rfl)
    have hs : ¬ so = 0 := fun z => c (by rw [z]; rfl)
    rw [if_neg hs, if_neg hr] at hQ
    refine sp_q hQ ?_
    rw [nI_add, show nI (so + r) - 1 = nI (so + r - 1) from pk_sub (b := 1) (by omega), pk_div (by omega) (by omega) (by omega)]
  · rw [if_neg (fun z => c (by rw [z]; rfl)), if_pos ((sp_z (by omega)).mp c2)] at hQ
    exact hQ
  · rw [if_pos ((sp_z (by omega)).mp c)] at hQ
    exact hQ
theorem rc_rounds  (hR : ow_RF R) (hC : sp_CN I T V) (hT : st_ok T) (hV : st_now T V)  : sp_rc M_Fs_rounds (d + 12) [.ref 0] I R (some (.int (nI (sp_rd V (sp_n V))))) 0 := by
  intro J Q hQ
  apply t_Fs_rounds hR
  refine c_Fs_lacksShire hR hC.1 ?_
  intro I2 g0 g1
  have hC2 := sp_CN_k hC (sp_cm g0)
  refine ⟨_, I2, J, R, rfl, rfl, hR, ?_⟩
  first | refine ⟨fun _ => ?_, fun c => absurd rfl c⟩ | refine ⟨fun c => absurd rfl c, fun _ => ?_⟩
  have hn6 := st_n6 hV
  refine sp_up (σ := Unit) (N := sp_n V) (G := fun i _ => ow_AW ow_Y0 (ow_Z Q) M_Fs_rounds (d + 12) 0 0 13 [(0, .ref 0), (1, .int (nI (sp_rd V i))), (2, .int (nI i))] [] (85, I2, J, R) 0 0) (Inv := fun _ _ => True) ?_ ?_ 0 () (Nat.zero_le _) trivial
  · intro _ _
    apply t_Fs_rounds_13 hR
    rw [hC2.2.2.1]
    exact ⟨fun _ => hQ I2 J (sp_cm g0) g1, fun c => absurd (Int32.le_refl _) c⟩
  · intro i _ hi _ ih
    have K := ih () trivial
    rw [sp_rd] at K
    apply t_Fs_rounds_13 hR
    rw [hC2.2.2.1]
    refine ⟨fun c => absurd c (nI_ge hi (by omega)), fun _ => ?_⟩
    refine c_Scene_comesBack hR (by decide) hC2.2.2 hV.1 hi ⟨_, I2, J, R, rfl, rfl, hR, ?_⟩
    rw [nI_1, (sp_or _ (sp_rd_lt hn6 i (by omega)) i (by omega)).1]
    cases hb : sp_cb V i (sp_n V) (sp_to V i) with
    | false => rw [hb] at K; exact ⟨fun _ => K, fun c => absurd rfl c⟩
    | true => rw [hb] at K; exact ⟨fun c => absurd c (by decide), fun _ => K⟩
theorem rm_rounds  (hR : ow_RF R) (hM : sp_MN I T V) (hT : st_ok T) (hV : st_now T V)  : sp_rm M_Mo_rounds (d + 12) [.ref 70] I R (some (.int (nI (sp_rd V (sp_n V))))) 0 := by
  intro J Q hQ
  apply t_Mo_rounds hR
  refine c_Mo_good hR ?_
  intro I2 g0 g1 g2
  refine ⟨I2, J, R, rfl, rfl, hR, ?_⟩
  have h2 := sp_MN_k hM (sp_mm g0)
  rw [h2.1]
  first | refine ⟨fun _ => ?_, fun c => absurd c (by decide)⟩ | refine ⟨fun c => absurd c (by decide), fun _ => ?_⟩
  have hn6 := st_n6 hV
  refine sp_up (σ := Unit) (N := sp_n V) (G := fun i _ => ow_AW ow_Y0 (ow_Z Q) M_Mo_rounds (d + 12) 0 0 21 [(0, .ref 70), (1, .int (nI (sp_rd V i))), (2, .int (nI i))] [] (85, I2, J, R) 0 0) (Inv := fun _ _ => True) ?_ ?_ 0 () (Nat.zero_le _) trivial
  · intro _ _
    apply t_Mo_rounds_21 hR
    rw [sp_MN_n h2 hV]
    exact ⟨fun _ => hQ I2 J (sp_mm g0) g2, fun c => absurd (Int32.le_refl _) c⟩
  · intro i _ hi _ ih
    have K := ih () trivial
    rw [sp_rd] at K
    apply t_Mo_rounds_21 hR
    rw [sp_MN_n h2 hV]
    refine ⟨fun c => absurd c (nI_ge hi (by omega)), fun _ => ?_⟩
    refine c_Mo_comesBack hR h2.2.2 hV.1 hi ⟨_, I2, J, R, rfl, rfl, hR, ?_⟩
    rw [sp_cb_6 hV.1 hi, nI_1, (sp_or _ (sp_rd_lt hn6 i (by omega)) i (by omega)).1, sp_or0 _ (sp_rd_lt hn6 i (by omega))]
    cases hb : sp_cb V i (sp_n V) (sp_to V i) with
    | false => rw [hb] at K; exact ⟨fun _ => K, fun c => absurd rfl c⟩
    | true => rw [hb] at K; exact ⟨fun c => absurd c (by decide), fun _ => K⟩
theorem rc_idle  (hR : ow_RF R) (hC : sp_CN I T V) (hT : st_ok T) (hV : st_now T V)  : sp_rc M_Fs_idle (d + 12) [.ref 0] I R (some (.int (sp_id V (sp_sg V (2 * sp_n V)) (sp_n V) 0))) 0 := by
  intro J Q hQ
  apply t_Fs_idle hR
  refine c_Fs_lacksShire hR hC.1 ?_
  intro I2 g0 g1
  have hC2 := sp_CN_k hC (sp_cm g0)
  refine ⟨_, I2, J, R, rfl, rfl, hR, ?_⟩
  first | refine ⟨fun _ => ?_, fun c => absurd rfl c⟩ | refine ⟨fun c => absurd rfl c, fun _ => ?_⟩
  have hn6 := st_n6 hV
  have hsl := sp_sg_lt hV.1 (2 * sp_n V) (Nat.le_refl _)
  refine c_Serving_bitsSigning hR (by decide) hC2.2.2 hV.1 ?_
  intro I3 k0
  refine ⟨_, I3, J, R, rfl, rfl, hR, ?_⟩
  have f3 : sp_fr sp_cS sp_cE I I3 := sp_fr_tr (sp_cm g0) (sp_cw k0 (by decide))
  have t3 : I3 0 15 = 0 := by rw [k0 0 (by decide)]; exact g1
  have hC3 := sp_CN_k hC f3
  have hq := hQ I3 J f3 t3
  have K : ∀ (k i : Nat), i + k = sp_n V → Q (some (.int (sp_id V (sp_sg V (2 * sp_n V)) k i))) (85, I3, J, R) → ow_AW ow_Y0 (ow_Z Q) M_Fs_idle (d + 12) 0 0 23 [(0, .ref 0), (1, .int (nI (sp_sg V (2 * sp_n V)))), (2, .int (nI i))] [] (85, I3, J, R) 0 0 := by
    intro k
    induction k with
    | zero =>
      intro i hi hq
      apply t_Fs_idle_23 hR
      rw [hC3.2.2.1, show i = sp_n V by omega]
      exact ⟨fun _ => hq, fun c => absurd (Int32.le_refl _) c⟩
    | succ k ih =>
      intro i hi hq
      rw [sp_id] at hq
      apply t_Fs_idle_23 hR
      rw [hC3.2.2.1, sp_bitj hsl (show i < 6 by omega), nI_1]
      refine ⟨fun c => absurd c (nI_ge (by omega) (by omega)), fun _ => ?_⟩
      cases hb : (sp_sg V (2 * sp_n V)).testBit i with
      | true =>
        rw [if_neg (fun z => by rw [hb] at z; cases z.1)] at hq
        exact ⟨fun _ => ih (i + 1) (by omega) hq, fun c => absurd c (by decide)⟩
      | false =>
        refine ⟨fun c => absurd rfl c, fun _ => ?_⟩
        refine c_Scene_reply (b := true) hR (by decide) hC3.2.2 hV.1 (by omega) ⟨_, I3, J, R, rfl, rfl, hR, ?_⟩
        by_cases hs : (sp_rep V i true).isSome = true
        · rw [if_pos ⟨hb, hs⟩] at hq
          exact ⟨fun c => absurd c (sp_jo_some hs).1, fun _ => hq⟩
        · rw [if_neg (fun z => hs z.2)] at hq
          exact ⟨fun _ => ih (i + 1) (by omega) hq, fun c => absurd (sp_jo_none hs) c⟩
  exact K (sp_n V) 0 (Nat.zero_add _) hq
theorem rm_idle  (hR : ow_RF R) (hM : sp_MN I T V) (hT : st_ok T) (hV : st_now T V)  : sp_rm M_Mo_idle (d + 12) [.ref 70] I R (some (.int (sp_id V (sp_sg V (2 * sp_n V)) (sp_n V) 0))) 0 := by
  intro J Q hQ
  apply t_Mo_idle hR
  refine c_Mo_good hR ?_
  intro I2 g0 g1 g2
  refine ⟨I2, J, R, rfl, rfl, hR, ?_⟩
  have h2 := sp_MN_k hM (sp_mm g0)
  rw [h2.1]
  first | refine ⟨fun _ => ?_, fun c => absurd c (by decide)⟩ | refine ⟨fun c => absurd c (by decide), fun _ => ?_⟩
  refine c_Mo_asToldShapes hR (sp_MN_n h2 hV) (st_n6 hV) (sp_MN_q h2 hV) ?_
  intro I3 g3 g4
  refine ⟨I3, J, R, rfl, rfl, hR, ?_⟩
  have f3 : sp_fr sp_mS sp_mE I I3 := sp_fr_tr (sp_mm g0) (sp_mh g3)
  have h3 := sp_MN_k hM f3
  have r3 : sp_Mr I3 77 V := sp_Mr_of h3.2.2 g4
  have t3 : I3 70 11 = 0 := by rw [g3 70 (by decide)]; exact g2
  have hn6 := st_n6 hV
  have hsl := sp_sg_lt hV.1 (2 * sp_n V) (Nat.le_refl _)
  have K : ∀ (I4 : Nat → Nat → Int32), sp_fr sp_mS sp_mE I I4 → sp_Mr I4 77 V → Q (some (.int (sp_id V (sp_sg V (2 * sp_n V)) (sp_n V) 0))) (85, I4, J, R) → ∀ (k i : Nat), i + k = sp_n V → Q (some (.int (sp_id V (sp_sg V (2 * sp_n V)) k i))) (85, I4, J, R) → ow_AW ow_Y0 (ow_Z Q) M_Mo_idle (d + 12) 0 0 74 [(0, .ref 70), (1, .int (nI (sp_sg V (2 * sp_n V)))), (2, .int (nI i))] [] (85, I4, J, R) 0 0 := by
    intro I4 f4 r4 _ k
    have h4 := sp_MN_k hM f4
    induction k with
    | zero =>
      intro i hi hq
      apply t_Mo_idle_74 hR
      rw [sp_MN_n h4 hV, show i = sp_n V by omega]
      exact ⟨fun _ => hq, fun c => absurd (Int32.le_refl _) c⟩
    | succ k ih =>
      intro i hi hq
      rw [sp_id] at hq
      apply t_Mo_idle_74 hR
      rw [sp_MN_n h4 hV, nI_1]
      refine ⟨fun c => absurd c (nI_ge (by omega) (by omega)), fun _ => ?_⟩
      refine c_Mo_hasBit hR hsl (by omega) ⟨_, I4, J, R, rfl, rfl, hR, ?_⟩
      cases hb : (sp_sg V (2 * sp_n V)).testBit i with
      | true =>
        rw [if_neg (fun z => by rw [hb] at z; cases z.1)] at hq
        exact ⟨fun _ => ih (i + 1) (by omega) hq, fun c => absurd c (by decide)⟩
      | false =>
        refine ⟨fun c => absurd rfl c, fun _ => ?_⟩
        refine c_Mo_answerOf (b := false) hR (by decide) r4 hV.1 (by omega) ⟨_, I4, J, R, rfl, rfl, hR, ?_⟩
        have hn := sp_rep_n (V := V) (f := i) false true
        by_cases hs : (sp_rep V i true).isSome = true
        · rw [if_pos ⟨hb, hs⟩] at hq
          exact ⟨fun _ => hq, fun c => absurd (sp_jo_some (hn.trans hs)).2.1 c⟩
        · rw [if_neg (fun z => hs z.2)] at hq
          have e1 := sp_jo_none (q := sp_rep V i false) (fun z => hs (hn.symm.trans z))
          rw [e1]
          refine ⟨fun c => absurd c (by decide), fun _ => ?_⟩
          refine c_Mo_answerOf (b := true) hR (by decide) r4 hV.1 (by omega) ⟨_, I4, J, R, rfl, rfl, hR, ?_⟩
          rw [sp_jo_none hs]
          exact ⟨fun _ => ih (i + 1) (by omega) hq, fun c => absurd (by decide) c⟩
  refine sp_up (N := 2 * sp_n V) (G := fun i I4 => ow_AW ow_Y0 (ow_Z Q) M_Mo_idle (d + 12) 0 0 25 [(0, .ref 70), (1, .int (nI (sp_sg V i))), (2, .int (nI i))] [] (85, I4, J, R) 0 0) (Inv := fun _ I4 => sp_fr [81] [(70, 26), (70, 27), (70, 28), (70, 29)] I3 I4) ?_ ?_ 0 I3 (Nat.zero_le _) sp_fr_rf
  · intro I4 k0
    have f4 := sp_fr_tr f3 (sp_mg k0)
    have h4 := sp_MN_k hM f4
    have r4 := sp_Mr_keep r3 (sp_fr_row k0 (by decide) (by simp)) (sp_fr_row k0 (by decide) (by simp))
    have hq := hQ I4 J f4 (by rw [k0 70 (by decide) 11 (by decide)]; exact t3)
    apply t_Mo_idle_25 hR
    rw [sp_MN_n h4 hV, sp_2n]
    exact ⟨fun _ => K I4 f4 r4 hq (sp_n V) 0 (Nat.zero_add _) hq, fun c => absurd (Int32.le_refl _) c⟩
  · intro i I4 hi k0 ih
    have f4 := sp_fr_tr f3 (sp_mg k0)
    have h4 := sp_MN_k hM f4
    have r4 := sp_Mr_keep r3 (sp_fr_row k0 (by decide) (by simp)) (sp_fr_row k0 (by decide) (by simp))
    have hl2 : nI i = nI (2 * (i / 2) + (decide (i % 2 = 1)).toNat) := by
      congr 1
      rcases Nat.mod_two_eq_zero_or_one i with h2 | h2
      · rw [h2]; show i = 2 * (i / 2) + 0; omega
      · rw [h2]; show i = 2 * (i / 2) + 1; omega
    apply t_Mo_idle_25 hR
    rw [sp_MN_n h4 hV, sp_2n]
    refine ⟨fun c => absurd c (nI_ge hi (by omega)), fun _ => ?_⟩
    refine c_Mo_goOver hR (by decide) r4 hV.1 (f := i / 2) (b := decide (i % 2 = 1)) (by omega) hl2 ?_
    intro I5 q0 q1 q2 q3 q4 q5
    refine ⟨I5, J, R, rfl, rfl, hR, ?_⟩
    have K2 := ih I5 (sp_fr_tr k0 q0)
    rw [sp_sg] at K2
    have hin := (sp_gl_in hV.1 hi).1
    unfold sp_gl at K2 hin
    rw [q3, nI_1, sp_or0 _ (sp_sg_lt hV.1 i (by omega))]
    cases hg : (sp_go V 6 0 (i / 2) (decide (i % 2 = 1))).2.2 with
    | none =>
      rw [hg] at K2
      exact ⟨fun c => absurd c (show ¬ (0 : Int32) ≤ (-2) by decide), fun _ => K2⟩
    | some q =>
      rw [hg] at K2
      have hq := hin q.1 q.2 hg
      refine ⟨fun _ => ?_, fun c => absurd (nI_pos' (by omega)) c⟩
      show ow_AW ow_Y0 (ow_Z Q) M_Mo_idle (d + 12) 0 0 25 [(0, .ref 70), (1, .int (nI (sp_sg V i) ||| ((1 : Int32) <<< (nI q.1 &&& 31)))), (2, .int (nI (i + 1)))] [] (85, I5, J, R) 0 0
      rw [(sp_or _ (sp_sg_lt hV.1 i (by omega)) q.1 (by omega)).1]
      exact K2
theorem rc_folly {f w : Nat} (hR : ow_RF R) (hC : sp_CN I T V) (hT : st_ok T) (hV : st_now T V) (hf : f < sp_n V) (hw : w < 6) : sp_rc M_Fs_folly (d + 12) [.ref 0, .int (nI f), .int (nI w)] I R (some (.int (sp_fo T V f w))) 0 := by
  intro J Q hQ
  apply t_Fs_folly hR
  refine c_Fs_lacksFolly hR hC.1 (show I 29 0 = nI (sp_n V) from hC.2.2.1) (by have := st_n6 hV; omega) ?_
  intro I2 g0 g1
  have hx : sp_is (nI f) (sp_n V) = true := decide_eq_true (by have := st_n6 hV; rw [nI_toInt (by omega)]; omega)
  rw [hx] at g1 ⊢
  have hC2 := sp_CN_k hC (sp_cm g0)
  refine ⟨_, I2, J, R, rfl, rfl, hR, ?_⟩
  first | refine ⟨fun _ => ?_, fun c => absurd rfl c⟩ | refine ⟨fun c => absurd rfl c, fun _ => ?_⟩
  have hn6 := st_n6 hV
  have hin : vp_in (nI f) 6 := vp_in_nI (by omega) (by decide)
  have hq := hQ I2 J (sp_cm g0) g1
  obtain ⟨s1, s2, s3, s4⟩ := hC2.2.2
  obtain ⟨a1, a2, a3⟩ := s4 f hf
  obtain ⟨b1, b2, b3⟩ := hV.1.2.2.2 f hf
  have a1 : I2 30 f = nI (sp_sh V f) := a1
  have a2 : I2 31 f = nI (sp_so V f) := a2
  have a3 : I2 32 f = sp_tg (sp_to V f) := a3
  rw [sp_cl (by omega), a1, a2, a3, s3, sp_bitj hV.1.2.2.1 (by omega), show I2 9 f = nI (st_eo T f) from sp_CN_E hC2 hV f hf, hC2.2.1.2.1]
  have dc : ∀ {w : Nat} {k : Int32} {P : Prop}, ¬ nI w = k → nI w = k → P := fun h c => absurd c h
  rcases sp_w6 hw with h | h | h | h | h | h <;> subst h
  · exact ⟨fun _ => ⟨hin, hq⟩, dc (by decide), dc (by decide), dc (by decide), dc (by decide), dc (by decide), fun c => absurd rfl c.1⟩
  · exact ⟨dc (by decide), fun _ => ⟨hin, hq⟩, dc (by decide), dc (by decide), dc (by decide), dc (by decide), fun c => absurd rfl c.2.1⟩
  · exact ⟨dc (by decide), dc (by decide), fun _ => hq, dc (by decide), dc (by decide), dc (by decide), fun c => absurd rfl c.2.2.1⟩
  · exact ⟨dc (by decide), dc (by decide), dc (by decide), fun _ => ⟨hin, hq⟩, dc (by decide), dc (by decide), fun c => absurd rfl c.2.2.2.1⟩
  · exact ⟨dc (by decide), dc (by decide), dc (by decide), dc (by decide), fun _ => ⟨hin, hq⟩, dc (by decide), fun c => absurd rfl c.2.2.2.2.1⟩
  · refine ⟨dc (by decide), dc (by decide), dc (by decide), dc (by decide), dc (by decide), fun _ => ⟨hin, ?_⟩, fun c => absurd rfl c.2.2.2.2.2⟩
    exact c_Fs_yearsToRuin hR b2 hT.2.2.2.2.1 ⟨_, I2, J, R, rfl, rfl, hR, hq⟩
theorem rc_folly_w {f : Nat} {x : Int32} (hR : ow_RF R) (hC : sp_CN I T V) (hT : st_ok T) (hV : st_now T V) (hf : f < sp_n V) (hx2 : sp_is x 6 = false) : sp_rc M_Fs_folly (d + 12) [.ref 0, .int (nI f), .int x] I R (some (.int (-1))) 1 := by
  intro J Q hQ
  apply t_Fs_folly hR
  refine c_Fs_lacksFolly hR hC.1 (show I 29 0 = nI (sp_n V) from hC.2.2.1) (by have := st_n6 hV; omega) ?_
  intro I2 g0 g1
  have hx : sp_is (nI f) (sp_n V) = true := decide_eq_true (by have := st_n6 hV; rw [nI_toInt (by omega)]; omega)
  rw [hx] at g1 ⊢
  have hC2 := sp_CN_k hC (sp_cm g0)
  refine ⟨_, I2, J, R, rfl, rfl, hR, ?_⟩
  first | refine ⟨fun _ => ?_, fun c => absurd rfl c⟩ | refine ⟨fun c => absurd rfl c, fun _ => ?_⟩
  have KR : ow_AM M_Fs_refused (d + 11) [.ref 0, .int 1] (85, I2, J, R) (fun r h' => ∃ (r5 : Int32) (I5 : Nat → Nat → Int32) (J5 : Nat → Nat → Int64) (R5 : Nat → Nat → Option Nat), r = some (.int r5) ∧ h' = (85, I5, J5, R5) ∧ ow_RF R5 ∧ Q (some (.int r5)) (85, I5, J5, R5)) := by
    refine c_Fs_refused hR ?_
    intro I9 n0 n1
    exact ⟨_, I9, J, R, rfl, rfl, hR, hQ I9 J (sp_fr_tr (sp_cm g0) (sp_cm n0)) n1⟩
  have dc : ∀ (k : Nat) {P : Prop}, k < 6 → x = nI k → P := fun k _ h c => by
    rw [c] at hx2
    unfold sp_is at hx2
    rw [nI_toInt (by omega)] at hx2
    exact absurd (of_decide_eq_false hx2) (by omega)
  exact ⟨dc 0 (by decide), dc 1 (by decide), dc 2 (by decide), dc 3 (by decide), dc 4 (by decide), dc 5 (by decide), fun _ => KR⟩
theorem rm_folly {f w : Nat} (hR : ow_RF R) (hM : sp_MN I T V) (hT : st_ok T) (hV : st_now T V) (hf : f < sp_n V) (hw : w < 6) : sp_rm M_Mo_folly (d + 12) [.ref 70, .int (nI f), .int (nI w)] I R (some (.int (sp_fo T V f w))) 0 := by
  intro J Q hQ
  apply t_Mo_folly hR
  refine c_Mo_good hR ?_
  intro I2 g0 g1 g2
  refine ⟨I2, J, R, rfl, rfl, hR, ?_⟩
  have h2 := sp_MN_k hM (sp_mm g0)
  have hx : sp_is (nI f) (sp_n V) = true := decide_eq_true (by have := st_n6 hV; rw [nI_toInt (by omega)]; omega)
  refine c_Mo_isFolly hR h2.1 (sp_MN_n h2 hV) (by have := st_n6 hV; omega) ?_
  rw [hx]
  refine ⟨_, I2, J, R, rfl, rfl, hR, ?_⟩
  first | refine ⟨fun _ => ?_, fun c => absurd c (by decide)⟩ | refine ⟨fun c => absurd c (by decide), fun _ => ?_⟩
  have hn6 := st_n6 hV
  have hw2 : sp_is (nI w) 6 = true := decide_eq_true (by rw [nI_toInt (by omega)]; omega)
  refine c_Mo_in (n := 6) hR (by decide) ?_
  rw [hw2]
  refine ⟨_, I2, J, R, rfl, rfl, hR, ?_⟩
  first | refine ⟨fun _ => ?_, fun c => absurd c (by decide)⟩ | refine ⟨fun c => absurd c (by decide), fun _ => ?_⟩
  have hq := hQ I2 J (sp_mm g0) g2
  obtain ⟨a1, a2⟩ := h2.2.2.1 f hf
  obtain ⟨b1, b2, b3⟩ := hV.1.2.2.2 f hf
  have dc : ∀ {w : Nat} {k : Int32} {P : Prop}, ¬ nI w = k → nI w = k → P := fun h c => absurd c h
  rw [show (7 : Int32) + 2 * nI f = nI (7 + 2 * f) from sp_ix, show (6 : Int32) + nI f = nI (6 + f) from nI_add 6 f, sp_cl (by omega), sp_cl (by omega), sp_cl (by omega), sp_MN_q h2 hV f hf, a1, a2, h2.2.2.2.1, sp_bitj hV.1.2.2.1 (by omega)]
  rcases sp_w6 hw with h | h | h | h | h | h <;> subst h
  · exact ⟨fun _ => ⟨vp_in_nI (by omega) (by decide), hq⟩, dc (by decide), dc (by decide), dc (by decide), dc (by decide), fun c => absurd rfl c.1⟩
  · exact ⟨dc (by decide), fun _ => ⟨vp_in_nI (by omega) (by decide), hq⟩, dc (by decide), dc (by decide), dc (by decide), fun c => absurd rfl c.2.1⟩
  · exact ⟨dc (by decide), dc (by decide), fun _ => hq, dc (by decide), dc (by decide), fun c => absurd rfl c.2.2.1⟩
  · refine ⟨dc (by decide), dc (by decide), dc (by decide), fun _ => ⟨vp_in_nI (by omega) (by decide), fun c => ⟨vp_in_nI (by omega) (by decide), ?_⟩, fun c => ?_⟩, dc (by decide), fun c => absurd rfl c.2.2.2.1⟩
    · exact sp_q hq (sp_tg_1 (fun z => c (by rw [z]; rfl))).symm
    · refine sp_q hq ?_
      show sp_tg (sp_to V f) = -2
      rw [(sp_z (by omega)).mp c]; rfl
  · refine ⟨dc (by decide), dc (by decide), dc (by decide), dc (by decide), fun _ => ?_, fun c => absurd rfl c.2.2.2.2⟩
    exact c_Mo_estatesOf hR (sp_MN_T h2 hT hV) (by omega) hn6 ⟨_, I2, J, R, rfl, rfl, hR, hq⟩
  · refine ⟨dc (by decide), dc (by decide), dc (by decide), dc (by decide), dc (by decide), fun _ => ?_⟩
    exact c_Mo_ruinIn hR (by omega) a1 h2.2.1.2.1 b2 hT.2.2.2.2.1 ⟨_, I2, J, R, rfl, rfl, hR, hq⟩
theorem rm_folly_w {f : Nat} {x : Int32} (hR : ow_RF R) (hM : sp_MN I T V) (hT : st_ok T) (hV : st_now T V) (hf : f < sp_n V) (hx2 : sp_is x 6 = false) : sp_rm M_Mo_folly (d + 12) [.ref 70, .int (nI f), .int x] I R (some (.int (-1))) 1 := by
  intro J Q hQ
  apply t_Mo_folly hR
  refine c_Mo_good hR ?_
  intro I2 g0 g1 g2
  refine ⟨I2, J, R, rfl, rfl, hR, ?_⟩
  have h2 := sp_MN_k hM (sp_mm g0)
  have hx : sp_is (nI f) (sp_n V) = true := decide_eq_true (by have := st_n6 hV; rw [nI_toInt (by omega)]; omega)
  refine c_Mo_isFolly hR h2.1 (sp_MN_n h2 hV) (by have := st_n6 hV; omega) ?_
  rw [hx]
  refine ⟨_, I2, J, R, rfl, rfl, hR, ?_⟩
  first | refine ⟨fun _ => ?_, fun c => absurd c (by decide)⟩ | refine ⟨fun c => absurd c (by decide), fun _ => ?_⟩
  refine c_Mo_in (n := 6) hR (by decide) ?_
  rw [hx2]
  refine ⟨_, I2, J, R, rfl, rfl, hR, ?_⟩
  first | refine ⟨fun _ => ?_, fun c => absurd rfl c⟩ | refine ⟨fun c => absurd rfl c, fun _ => ?_⟩
  refine c_Mo_no hR ?_
  intro I9 n3 n4
  exact ⟨_, I9, J, R, rfl, rfl, hR, hQ I9 J (sp_fr_tr (sp_mm g0) (sp_mm1 n3)) n4⟩
theorem rc_folly_no {x : Int32} {y : Int32} (hR : ow_RF R) (hC : sp_CN I T V) (hT : st_ok T) (hV : st_now T V) (hx : sp_is x (sp_n V) = false) : sp_rc M_Fs_folly (d + 12) [.ref 0, .int x, .int y] I R (some (.int (-1))) 1 := by
  intro J Q hQ
  apply t_Fs_folly hR
  refine c_Fs_lacksFolly hR hC.1 (show I 29 0 = nI (sp_n V) from hC.2.2.1) (by have := st_n6 hV; omega) ?_
  intro I2 g0 g1
  rw [hx] at g1 ⊢
  refine ⟨_, I2, J, R, rfl, rfl, hR, ?_⟩
  first | exact ⟨fun c => absurd c (by decide), fun _ => hQ I2 J (sp_cm g0) g1⟩ | exact ⟨fun _ => hQ I2 J (sp_cm g0) g1, fun c => absurd c (by decide)⟩
theorem rm_folly_no {x : Int32} {y : Int32} (hR : ow_RF R) (hM : sp_MN I T V) (hT : st_ok T) (hV : st_now T V) (hx : sp_is x (sp_n V) = false) : sp_rm M_Mo_folly (d + 12) [.ref 70, .int x, .int y] I R (some (.int (-1))) 1 := by
  intro J Q hQ
  apply t_Mo_folly hR
  refine c_Mo_good hR ?_
  intro I2 g0 g1 g2
  refine ⟨I2, J, R, rfl, rfl, hR, ?_⟩
  have h2 := sp_MN_k hM (sp_mm g0)
  refine c_Mo_isFolly hR h2.1 (sp_MN_n h2 hV) (by have := st_n6 hV; omega) ?_
  rw [hx]
  refine ⟨_, I2, J, R, rfl, rfl, hR, ?_⟩
  first | refine ⟨fun _ => ?_, fun c => absurd rfl c⟩ | refine ⟨fun c => absurd rfl c, fun _ => ?_⟩
  refine c_Mo_no hR ?_
  intro I3 g3 g4
  exact ⟨_, I3, J, R, rfl, rfl, hR, hQ I3 J (sp_fr_tr (sp_mm g0) (sp_mm1 g3)) g4⟩
theorem rc_estate {e w : Nat} (hR : ow_RF R) (hC : sp_CN I T V) (hT : st_ok T) (hV : st_now T V) (he : e < st_ne T) (hw : w < 3) : sp_rc M_Fs_estate (d + 12) [.ref 0, .int (nI e), .int (nI w)] I R (some (.int (sp_es T V e w))) 0 := by
  intro J Q hQ
  apply t_Fs_estate hR
  refine c_Fs_lacksEstate hR hC.1 hC.2.1.2.2.1 (by have := hT.2.2.2.2.2.1; omega) ?_
  intro I2 g0 g1
  have hx : sp_is (nI e) (st_ne T) = true := decide_eq_true (by have := hT.2.2.2.2.2.1; rw [nI_toInt (by omega)]; omega)
  rw [hx] at g1 ⊢
  have hC2 := sp_CN_k hC (sp_cm g0)
  refine ⟨_, I2, J, R, rfl, rfl, hR, ?_⟩
  first | refine ⟨fun _ => ?_, fun c => absurd rfl c⟩ | refine ⟨fun c => absurd rfl c, fun _ => ?_⟩
  have hn5 := hT.2.2.2.2.2.1
  have hin : vp_in (nI e) 5 := vp_in_nI (by omega) (by decide)
  have hq := hQ I2 J (sp_cm g0) g1
  obtain ⟨a1, a2⟩ := hC2.2.1.2.2.2.2.2.2.1 e he
  rw [sp_cl (by omega), a1, a2]
  have dc : ∀ {w : Nat} {k : Int32} {P : Prop}, ¬ nI w = k → nI w = k → P := fun h c => absurd c h
  rcases sp_w3 hw with h | h | h <;> subst h
  · exact ⟨fun _ => ⟨hin, hq⟩, dc (by decide), dc (by decide), fun c => absurd rfl c.1⟩
  · exact ⟨dc (by decide), fun _ => ⟨hin, hq⟩, dc (by decide), fun c => absurd rfl c.2.1⟩
  · refine ⟨dc (by decide), dc (by decide), fun _ => ?_, fun c => absurd rfl c.2.2⟩
    refine c_Serving_bitsServed hR (by decide) hC2.2.2 hV.1 (sp_CN_E hC2 hV) (st_eok hT) ?_
    intro I3 k0
    refine ⟨_, I3, J, R, rfl, rfl, hR, ?_⟩
    rw [sp_bitj (Nat.lt_trans (sp_all_lt hV.1 (st_eok hT) _ (Nat.le_refl _)) (by decide)) (by omega)]
    exact hQ I3 J (sp_fr_tr (sp_cm g0) (sp_cw k0 (by decide))) (by rw [k0 0 (by decide)]; exact g1)
theorem rc_estate_w {e : Nat} {x : Int32} (hR : ow_RF R) (hC : sp_CN I T V) (hT : st_ok T) (hV : st_now T V) (he : e < st_ne T) (hx2 : sp_is x 3 = false) : sp_rc M_Fs_estate (d + 12) [.ref 0, .int (nI e), .int x] I R (some (.int (-1))) 1 := by
  intro J Q hQ
  apply t_Fs_estate hR
  refine c_Fs_lacksEstate hR hC.1 hC.2.1.2.2.1 (by have := hT.2.2.2.2.2.1; omega) ?_
  intro I2 g0 g1
  have hx : sp_is (nI e) (st_ne T) = true := decide_eq_true (by have := hT.2.2.2.2.2.1; rw [nI_toInt (by omega)]; omega)
  rw [hx] at g1 ⊢
  have hC2 := sp_CN_k hC (sp_cm g0)
  refine ⟨_, I2, J, R, rfl, rfl, hR, ?_⟩
  first | refine ⟨fun _ => ?_, fun c => absurd rfl c⟩ | refine ⟨fun c => absurd rfl c, fun _ => ?_⟩
  have KR : ow_AM M_Fs_refused (d + 11) [.ref 0, .int 1] (85, I2, J, R) (fun r h' => ∃ (r5 : Int32) (I5 : Nat → Nat → Int32) (J5 : Nat → Nat → Int64) (R5 : Nat → Nat → Option Nat), r = some (.int r5) ∧ h' = (85, I5, J5, R5) ∧ ow_RF R5 ∧ Q (some (.int r5)) (85, I5, J5, R5)) := by
    refine c_Fs_refused hR ?_
    intro I9 n0 n1
    exact ⟨_, I9, J, R, rfl, rfl, hR, hQ I9 J (sp_fr_tr (sp_cm g0) (sp_cm n0)) n1⟩
  have dc : ∀ (k : Nat) {P : Prop}, k < 3 → x = nI k → P := fun k _ h c => by
    rw [c] at hx2
    unfold sp_is at hx2
    rw [nI_toInt (by omega)] at hx2
    exact absurd (of_decide_eq_false hx2) (by omega)
  exact ⟨dc 0 (by decide), dc 1 (by decide), dc 2 (by decide), fun _ => KR⟩
theorem rm_estate {e w : Nat} (hR : ow_RF R) (hM : sp_MN I T V) (hT : st_ok T) (hV : st_now T V) (he : e < st_ne T) (hw : w < 3) : sp_rm M_Mo_estate (d + 12) [.ref 70, .int (nI e), .int (nI w)] I R (some (.int (sp_es T V e w))) 0 := by
  intro J Q hQ
  apply t_Mo_estate hR
  refine c_Mo_good hR ?_
  intro I2 g0 g1 g2
  refine ⟨I2, J, R, rfl, rfl, hR, ?_⟩
  have h2 := sp_MN_k hM (sp_mm g0)
  have hx : sp_is (nI e) (st_ne T) = true := decide_eq_true (by have := hT.2.2.2.2.2.1; rw [nI_toInt (by omega)]; omega)
  refine c_Mo_isEstate hR h2.1 h2.2.1.2.2.2.1 (by have := hT.2.2.2.2.2.1; omega) ?_
  rw [hx]
  refine ⟨_, I2, J, R, rfl, rfl, hR, ?_⟩
  first | refine ⟨fun _ => ?_, fun c => absurd c (by decide)⟩ | refine ⟨fun c => absurd c (by decide), fun _ => ?_⟩
  have hn5 := hT.2.2.2.2.2.1
  have hw2 : sp_is (nI w) 3 = true := decide_eq_true (by rw [nI_toInt (by omega)]; omega)
  refine c_Mo_in (n := 3) hR (by decide) ?_
  rw [hw2]
  refine ⟨_, I2, J, R, rfl, rfl, hR, ?_⟩
  first | refine ⟨fun _ => ?_, fun c => absurd c (by decide)⟩ | refine ⟨fun c => absurd c (by decide), fun _ => ?_⟩
  refine c_Mo_asToldShapes hR (sp_MN_n h2 hV) (st_n6 hV) (sp_MN_q h2 hV) ?_
  intro I3 g3 g4
  refine ⟨I3, J, R, rfl, rfl, hR, ?_⟩
  have f3 : sp_fr sp_mS sp_mE I I3 := sp_fr_tr (sp_mm g0) (sp_mh g3)
  have h3 := sp_MN_k hM f3
  have r3 : sp_Mr I3 77 V := sp_Mr_of h3.2.2 g4
  have t3 : I3 70 11 = 0 := by rw [g3 70 (by decide)]; exact g2
  have hq := hQ I3 J f3 t3
  obtain ⟨a1, a2⟩ := h3.2.1.2.2.2.2.2.2.2.1 e he
  rw [show (19 : Int32) + 2 * nI e = nI (19 + 2 * e) from sp_ix, nI_add]
  rcases sp_w3 hw with h | h | h <;> subst h
  · refine ⟨fun c => absurd c (by decide), fun _ => ⟨vp_in_nI (by omega) (by decide), ?_⟩⟩
    rw [sp_cl (by omega), Nat.add_zero, a1]
    exact hq
  · refine ⟨fun c => absurd c (by decide), fun _ => ⟨vp_in_nI (by omega) (by decide), ?_⟩⟩
    rw [sp_cl (by omega), show 19 + 2 * e + 1 = 20 + 2 * e by omega, a2]
    exact hq
  · refine ⟨fun _ => ?_, fun c => absurd (by decide) c⟩
    refine c_Mo_servedOn hR (by decide) r3 (sp_MN_T h3 hT hV) hV.1 ?_
    intro I4 k0
    refine ⟨_, I4, J, R, rfl, rfl, hR, ?_⟩
    rw [sp_bitj (f := e) (show sp_all V (sp_eo (st_ne T) (st_ef T)) (2 * sp_n V) < 64 from Nat.lt_trans (sp_all_lt hV.1 (st_eok hT) _ (Nat.le_refl _)) (by decide)) (by omega)]
    exact hQ I4 J (sp_fr_tr f3 (sp_mg k0)) (by rw [k0 70 (by decide) 11 (by decide)]; exact t3)
theorem rm_estate_w {e : Nat} {x : Int32} (hR : ow_RF R) (hM : sp_MN I T V) (hT : st_ok T) (hV : st_now T V) (he : e < st_ne T) (hx2 : sp_is x 3 = false) : sp_rm M_Mo_estate (d + 12) [.ref 70, .int (nI e), .int x] I R (some (.int (-1))) 1 := by
  intro J Q hQ
  apply t_Mo_estate hR
  refine c_Mo_good hR ?_
  intro I2 g0 g1 g2
  refine ⟨I2, J, R, rfl, rfl, hR, ?_⟩
  have h2 := sp_MN_k hM (sp_mm g0)
  have hx : sp_is (nI e) (st_ne T) = true := decide_eq_true (by have := hT.2.2.2.2.2.1; rw [nI_toInt (by omega)]; omega)
  refine c_Mo_isEstate hR h2.1 h2.2.1.2.2.2.1 (by have := hT.2.2.2.2.2.1; omega) ?_
  rw [hx]
  refine ⟨_, I2, J, R, rfl, rfl, hR, ?_⟩
  first | refine ⟨fun _ => ?_, fun c => absurd c (by decide)⟩ | refine ⟨fun c => absurd c (by decide), fun _ => ?_⟩
  refine c_Mo_in (n := 3) hR (by decide) ?_
  rw [hx2]
  refine ⟨_, I2, J, R, rfl, rfl, hR, ?_⟩
  first | refine ⟨fun _ => ?_, fun c => absurd rfl c⟩ | refine ⟨fun c => absurd rfl c, fun _ => ?_⟩
  refine c_Mo_no hR ?_
  intro I9 n3 n4
  exact ⟨_, I9, J, R, rfl, rfl, hR, hQ I9 J (sp_fr_tr (sp_mm g0) (sp_mm1 n3)) n4⟩
theorem rc_estate_no {x : Int32} {y : Int32} (hR : ow_RF R) (hC : sp_CN I T V) (hT : st_ok T) (hV : st_now T V) (hx : sp_is x (st_ne T) = false) : sp_rc M_Fs_estate (d + 12) [.ref 0, .int x, .int y] I R (some (.int (-1))) 1 := by
  intro J Q hQ
  apply t_Fs_estate hR
  refine c_Fs_lacksEstate hR hC.1 hC.2.1.2.2.1 (by have := hT.2.2.2.2.2.1; omega) ?_
  intro I2 g0 g1
  rw [hx] at g1 ⊢
  refine ⟨_, I2, J, R, rfl, rfl, hR, ?_⟩
  first | exact ⟨fun c => absurd c (by decide), fun _ => hQ I2 J (sp_cm g0) g1⟩ | exact ⟨fun _ => hQ I2 J (sp_cm g0) g1, fun c => absurd c (by decide)⟩
theorem rm_estate_no {x : Int32} {y : Int32} (hR : ow_RF R) (hM : sp_MN I T V) (hT : st_ok T) (hV : st_now T V) (hx : sp_is x (st_ne T) = false) : sp_rm M_Mo_estate (d + 12) [.ref 70, .int x, .int y] I R (some (.int (-1))) 1 := by
  intro J Q hQ
  apply t_Mo_estate hR
  refine c_Mo_good hR ?_
  intro I2 g0 g1 g2
  refine ⟨I2, J, R, rfl, rfl, hR, ?_⟩
  have h2 := sp_MN_k hM (sp_mm g0)
  refine c_Mo_isEstate hR h2.1 h2.2.1.2.2.2.1 (by have := hT.2.2.2.2.2.1; omega) ?_
  rw [hx]
  refine ⟨_, I2, J, R, rfl, rfl, hR, ?_⟩
  first | refine ⟨fun _ => ?_, fun c => absurd rfl c⟩ | refine ⟨fun c => absurd rfl c, fun _ => ?_⟩
  refine c_Mo_no hR ?_
  intro I3 g3 g4
  exact ⟨_, I3, J, R, rfl, rfl, hR, hQ I3 J (sp_fr_tr (sp_mm g0) (sp_mm1 g3)) g4⟩
theorem rc_firstServed_no {x : Int32} (hR : ow_RF R) (hC : sp_CN I T V) (hT : st_ok T) (hV : st_now T V) (hx : sp_is x (st_ne T) = false) : sp_rc M_Fs_firstServed (d + 12) [.ref 0, .int x] I R (some (.int (-1))) 1 := by
  intro J Q hQ
  apply t_Fs_firstServed hR
  refine c_Fs_lacksEstate hR hC.1 hC.2.1.2.2.1 (by have := hT.2.2.2.2.2.1; omega) ?_
  intro I2 g0 g1
  rw [hx] at g1 ⊢
  refine ⟨_, I2, J, R, rfl, rfl, hR, ?_⟩
  first | exact ⟨fun c => absurd c (by decide), fun _ => hQ I2 J (sp_cm g0) g1⟩ | exact ⟨fun _ => hQ I2 J (sp_cm g0) g1, fun c => absurd c (by decide)⟩
theorem rm_firstServed_no {x : Int32} (hR : ow_RF R) (hM : sp_MN I T V) (hT : st_ok T) (hV : st_now T V) (hx : sp_is x (st_ne T) = false) : sp_rm M_Mo_firstServed (d + 12) [.ref 70, .int x] I R (some (.int (-1))) 1 := by
  intro J Q hQ
  apply t_Mo_firstServed hR
  refine c_Mo_good hR ?_
  intro I2 g0 g1 g2
  refine ⟨I2, J, R, rfl, rfl, hR, ?_⟩
  have h2 := sp_MN_k hM (sp_mm g0)
  refine c_Mo_isEstate hR h2.1 h2.2.1.2.2.2.1 (by have := hT.2.2.2.2.2.1; omega) ?_
  rw [hx]
  refine ⟨_, I2, J, R, rfl, rfl, hR, ?_⟩
  first | refine ⟨fun _ => ?_, fun c => absurd rfl c⟩ | refine ⟨fun c => absurd rfl c, fun _ => ?_⟩
  refine c_Mo_no hR ?_
  intro I3 g3 g4
  exact ⟨_, I3, J, R, rfl, rfl, hR, hQ I3 J (sp_fr_tr (sp_mm g0) (sp_mm1 g3)) g4⟩
theorem rm_firstServed {e : Nat} (hR : ow_RF R) (hM : sp_MN I T V) (hT : st_ok T) (hV : st_now T V) (he : e < st_ne T) : sp_rm M_Mo_firstServed (d + 12) [.ref 70, .int (nI e)] I R (some (.int (sp_on (sp_fst (sp_si T V e) 61)))) 0 := by
  intro J Q hQ
  apply t_Mo_firstServed hR
  refine c_Mo_good hR ?_
  intro I2 g0 g1 g2
  refine ⟨I2, J, R, rfl, rfl, hR, ?_⟩
  have h2 := sp_MN_k hM (sp_mm g0)
  have hx : sp_is (nI e) (st_ne T) = true := decide_eq_true (by have := hT.2.2.2.2.2.1; rw [nI_toInt (by omega)]; omega)
  refine c_Mo_isEstate hR h2.1 h2.2.1.2.2.2.1 (by have := hT.2.2.2.2.2.1; omega) ?_
  rw [hx]
  refine ⟨_, I2, J, R, rfl, rfl, hR, ?_⟩
  first | refine ⟨fun _ => ?_, fun c => absurd c (by decide)⟩ | refine ⟨fun c => absurd c (by decide), fun _ => ?_⟩
  refine c_Mo_yearFor (b := false) hR h2 hT hV (by have := hT.2.2.2.2.2.1; omega) ?_
  intro I4 k0
  exact ⟨_, I4, J, R, rfl, rfl, hR, hQ I4 J (sp_fr_tr (sp_mm g0) (sp_mg3 k0)) (by rw [k0 70 (by decide) 11 (by decide)]; exact g2)⟩
theorem rc_lastServed_no {x : Int32} (hR : ow_RF R) (hC : sp_CN I T V) (hT : st_ok T) (hV : st_now T V) (hx : sp_is x (st_ne T) = false) : sp_rc M_Fs_lastServed (d + 12) [.ref 0, .int x] I R (some (.int (-1))) 1 := by
  intro J Q hQ
  apply t_Fs_lastServed hR
  refine c_Fs_lacksEstate hR hC.1 hC.2.1.2.2.1 (by have := hT.2.2.2.2.2.1; omega) ?_
  intro I2 g0 g1
  rw [hx] at g1 ⊢
  refine ⟨_, I2, J, R, rfl, rfl, hR, ?_⟩
  first | exact ⟨fun c => absurd c (by decide), fun _ => hQ I2 J (sp_cm g0) g1⟩ | exact ⟨fun _ => hQ I2 J (sp_cm g0) g1, fun c => absurd c (by decide)⟩
theorem rm_lastServed_no {x : Int32} (hR : ow_RF R) (hM : sp_MN I T V) (hT : st_ok T) (hV : st_now T V) (hx : sp_is x (st_ne T) = false) : sp_rm M_Mo_lastServed (d + 12) [.ref 70, .int x] I R (some (.int (-1))) 1 := by
  intro J Q hQ
  apply t_Mo_lastServed hR
  refine c_Mo_good hR ?_
  intro I2 g0 g1 g2
  refine ⟨I2, J, R, rfl, rfl, hR, ?_⟩
  have h2 := sp_MN_k hM (sp_mm g0)
  refine c_Mo_isEstate hR h2.1 h2.2.1.2.2.2.1 (by have := hT.2.2.2.2.2.1; omega) ?_
  rw [hx]
  refine ⟨_, I2, J, R, rfl, rfl, hR, ?_⟩
  first | refine ⟨fun _ => ?_, fun c => absurd rfl c⟩ | refine ⟨fun c => absurd rfl c, fun _ => ?_⟩
  refine c_Mo_no hR ?_
  intro I3 g3 g4
  exact ⟨_, I3, J, R, rfl, rfl, hR, hQ I3 J (sp_fr_tr (sp_mm g0) (sp_mm1 g3)) g4⟩
theorem rm_lastServed {e : Nat} (hR : ow_RF R) (hM : sp_MN I T V) (hT : st_ok T) (hV : st_now T V) (he : e < st_ne T) : sp_rm M_Mo_lastServed (d + 12) [.ref 70, .int (nI e)] I R (some (.int (sp_on (sp_lst (sp_si T V e) 61)))) 0 := by
  intro J Q hQ
  apply t_Mo_lastServed hR
  refine c_Mo_good hR ?_
  intro I2 g0 g1 g2
  refine ⟨I2, J, R, rfl, rfl, hR, ?_⟩
  have h2 := sp_MN_k hM (sp_mm g0)
  have hx : sp_is (nI e) (st_ne T) = true := decide_eq_true (by have := hT.2.2.2.2.2.1; rw [nI_toInt (by omega)]; omega)
  refine c_Mo_isEstate hR h2.1 h2.2.1.2.2.2.1 (by have := hT.2.2.2.2.2.1; omega) ?_
  rw [hx]
  refine ⟨_, I2, J, R, rfl, rfl, hR, ?_⟩
  first | refine ⟨fun _ => ?_, fun c => absurd c (by decide)⟩ | refine ⟨fun c => absurd c (by decide), fun _ => ?_⟩
  refine c_Mo_yearFor (b := true) hR h2 hT hV (by have := hT.2.2.2.2.2.1; omega) ?_
  intro I4 k0
  exact ⟨_, I4, J, R, rfl, rfl, hR, hQ I4 J (sp_fr_tr (sp_mm g0) (sp_mg3 k0)) (by rw [k0 70 (by decide) 11 (by decide)]; exact g2)⟩
theorem rc_firstServed {e : Nat} (hR : ow_RF R) (hC : sp_CN I T V) (hT : st_ok T) (hV : st_now T V) (he : e < st_ne T) : sp_rc M_Fs_firstServed (d + 12) [.ref 0, .int (nI e)] I R (some (.int (sp_on (sp_fst (sp_si T V e) 61)))) 0 := by
  intro J Q hQ
  apply t_Fs_firstServed hR
  refine c_Fs_lacksEstate hR hC.1 hC.2.1.2.2.1 (by have := hT.2.2.2.2.2.1; omega) ?_
  intro I2 g0 g1
  have hx : sp_is (nI e) (st_ne T) = true := decide_eq_true (by have := hT.2.2.2.2.2.1; rw [nI_toInt (by omega)]; omega)
  rw [hx] at g1 ⊢
  have hC2 := sp_CN_k hC (sp_cm g0)
  refine ⟨_, I2, J, R, rfl, rfl, hR, ?_⟩
  first | refine ⟨fun _ => ?_, fun c => absurd rfl c⟩ | refine ⟨fun c => absurd rfl c, fun _ => ?_⟩
  have hn5 := hT.2.2.2.2.2.1
  have K : ∀ (k i : Nat) (I3 : Nat → Nat → Int32), i + k = 61 → sp_fst (sp_si T V e) i = none → sp_eq [33, 34, 35, 36, 40, 41] I2 I3 → ow_AW ow_Y0 (ow_Z Q) M_Fs_firstServed (d + 12) 0 0 12 [(0, .ref 0), (1, .int (nI e)), (2, .int (nI i))] [] (85, I3, J, R) 0 0 := by
    intro k
    induction k with
    | zero =>
      intro i I3 hi hn h3
      apply t_Fs_firstServed_12 hR
      have hi : i = 61 := hi
      subst hi
      refine ⟨fun _ => ?_, fun c => absurd (by decide) c⟩
      have hq := hQ I3 J (sp_fr_tr (sp_cm g0) (sp_cw h3 (by decide))) (by rw [h3 0 (by decide)]; exact g1)
      rw [hn] at hq
      exact hq
    | succ k ih =>
      intro i I3 hi hn h3
      have hC3 := sp_CN_k hC2 (sp_cw h3 (by decide))
      apply t_Fs_firstServed_12 hR
      refine ⟨fun c => absurd c (nI_nlt (a := 60) (by omega) (by decide)), fun _ => ?_⟩
      refine c_Fs_isServedIn hR hC3 hT hV (by omega) (by omega) ?_
      intro I4 q0
      refine ⟨_, I4, J, R, rfl, rfl, hR, ?_⟩
      have h4 := sp_eq_tr h3 q0
      cases hb : sp_si T V e i with
      | false =>
        refine ⟨fun _ => ?_, fun c => absurd rfl c⟩
        rw [nI_1]
        exact ih (i + 1) I4 (by omega) (by rw [sp_fst, hn, hb]; rfl) h4
      | true =>
        refine ⟨fun c => absurd c (by decide), fun _ => ?_⟩
        have h5 : sp_fst (sp_si T V e) (i + 1) = some i := by rw [sp_fst, hn, hb]; rfl
        have h6 := sp_fst_k h5 k
        rw [show i + 1 + k = 61 by omega] at h6
        have hq := hQ I4 J (sp_fr_tr (sp_cm g0) (sp_cw h4 (by decide))) (by rw [h4 0 (by decide)]; exact g1)
        rw [h6] at hq
        exact hq
  exact K 61 0 I2 rfl rfl sp_eq_rf
theorem rc_lastServed {e : Nat} (hR : ow_RF R) (hC : sp_CN I T V) (hT : st_ok T) (hV : st_now T V) (he : e < st_ne T) : sp_rc M_Fs_lastServed (d + 12) [.ref 0, .int (nI e)] I R (some (.int (sp_on (sp_lst (sp_si T V e) 61)))) 0 := by
  intro J Q hQ
  apply t_Fs_lastServed hR
  refine c_Fs_lacksEstate hR hC.1 hC.2.1.2.2.1 (by have := hT.2.2.2.2.2.1; omega) ?_
  intro I2 g0 g1
  have hx : sp_is (nI e) (st_ne T) = true := decide_eq_true (by have := hT.2.2.2.2.2.1; rw [nI_toInt (by omega)]; omega)
  rw [hx] at g1 ⊢
  have hC2 := sp_CN_k hC (sp_cm g0)
  refine ⟨_, I2, J, R, rfl, rfl, hR, ?_⟩
  first | refine ⟨fun _ => ?_, fun c => absurd rfl c⟩ | refine ⟨fun c => absurd rfl c, fun _ => ?_⟩
  have hn5 := hT.2.2.2.2.2.1
  have K : ∀ (k : Nat) (I3 : Nat → Nat → Int32), k ≤ 61 → sp_lst (sp_si T V e) 61 = sp_lst (sp_si T V e) k → sp_eq [33, 34, 35, 36, 40, 41] I2 I3 → ow_AW ow_Y0 (ow_Z Q) M_Fs_lastServed (d + 12) 0 0 13 [(0, .ref 0), (1, .int (nI e)), (2, .int (sp_km k))] [] (85, I3, J, R) 0 0 := by
    intro k
    induction k with
    | zero =>
      intro I3 hi hn h3
      apply t_Fs_lastServed_13 hR
      refine ⟨fun _ => ?_, fun c => absurd (by decide) c⟩
      have hq := hQ I3 J (sp_fr_tr (sp_cm g0) (sp_cw h3 (by decide))) (by rw [h3 0 (by decide)]; exact g1)
      rw [hn] at hq
      exact hq
    | succ k ih =>
      intro I3 hi hn h3
      have hC3 := sp_CN_k hC2 (sp_cw h3 (by decide))
      apply t_Fs_lastServed_13 hR
      refine ⟨fun c => absurd c (nI_pos (by omega)), fun _ => ?_⟩
      refine c_Fs_isServedIn (k := k) hR hC3 hT hV (by omega) (by omega) ?_
      intro I4 q0
      refine ⟨_, I4, J, R, rfl, rfl, hR, ?_⟩
      have h4 := sp_eq_tr h3 q0
      have hl : sp_lst (sp_si T V e) (k + 1) = if sp_si T V e k = true then some k else sp_lst (sp_si T V e) k := by rw [sp_lst]
      rw [hl] at hn
      cases hb : sp_si T V e k with
      | false =>
        rw [hb] at hn
        refine ⟨fun _ => ?_, fun c => absurd rfl c⟩
        have ek2 : sp_km (k + 1) + (-1) = sp_km k := by
          rcases Nat.eq_zero_or_pos k with h | h
          · subst h; decide
          · obtain ⟨u, hu⟩ : ∃ u, k = u + 1 := ⟨k - 1, by omega⟩
            subst hu; exact pk_m1 u
        rw [ek2]
        exact ih I4 (by omega) hn h4
      | true =>
        rw [hb] at hn
        refine ⟨fun c => absurd c (by decide), fun _ => ?_⟩
        have hq := hQ I4 J (sp_fr_tr (sp_cm g0) (sp_cw h4 (by decide))) (by rw [h4 0 (by decide)]; exact g1)
        rw [hn] at hq
        exact hq
  exact K 61 I2 (Nat.le_refl _) rfl sp_eq_rf
theorem rc_keep  (hR : ow_RF R) (hC : sp_CN I T V) (hT : st_ok T) (hV : st_now T V)  : sp_rc M_Fs_keep (d + 12) [.ref 0] I R (some (.int (nI (sp_kp V (st_eo T))))) 0 := by
  intro J Q hQ
  apply t_Fs_keep hR
  refine c_Fs_lacksShire hR hC.1 ?_
  intro I2 g0 g1
  have hC2 := sp_CN_k hC (sp_cm g0)
  refine ⟨_, I2, J, R, rfl, rfl, hR, ?_⟩
  first | refine ⟨fun _ => ?_, fun c => absurd rfl c⟩ | refine ⟨fun c => absurd rfl c, fun _ => ?_⟩
  refine c_Serving_fewestKept hR (by decide) hC2.2.2 hV.1 (sp_CN_E hC2 hV) (st_eok hT) ?_
  intro I3 k0
  exact ⟨_, I3, J, R, rfl, rfl, hR, hQ I3 J (sp_fr_tr (sp_cm g0) (sp_cw k0 (by decide))) (by rw [k0 0 (by decide)]; exact g1)⟩
theorem rm_keep  (hR : ow_RF R) (hM : sp_MN I T V) (hT : st_ok T) (hV : st_now T V)  : sp_rm M_Mo_keep (d + 12) [.ref 70] I R (some (.int (nI (sp_kp V (st_eo T))))) 0 := by
  intro J Q hQ
  apply t_Mo_keep hR
  refine c_Mo_good hR ?_
  intro I2 g0 g1 g2
  refine ⟨I2, J, R, rfl, rfl, hR, ?_⟩
  have h2 := sp_MN_k hM (sp_mm g0)
  rw [h2.1]
  first | refine ⟨fun _ => ?_, fun c => absurd c (by decide)⟩ | refine ⟨fun c => absurd c (by decide), fun _ => ?_⟩
  refine c_Mo_asToldShapes hR (sp_MN_n h2 hV) (st_n6 hV) (sp_MN_q h2 hV) ?_
  intro I3 g3 g4
  refine ⟨I3, J, R, rfl, rfl, hR, ?_⟩
  have f3 : sp_fr sp_mS sp_mE I I3 := sp_fr_tr (sp_mm g0) (sp_mh g3)
  have h3 := sp_MN_k hM f3
  have r3 : sp_Mr I3 77 V := sp_Mr_of h3.2.2 g4
  have t3 : I3 70 11 = 0 := by rw [g3 70 (by decide)]; exact g2
  have hB : sp_MB I3 V (st_ne T) (st_ef T) := ⟨h3.2.2, g4, sp_MN_T h3 hT hV⟩
  refine c_Mo_servedOn hR (by decide) r3 (sp_MN_T h3 hT hV) hV.1 ?_
  intro I4 k0
  refine ⟨_, I4, J, R, rfl, rfl, hR, ?_⟩
  refine c_Mo_keepL hR (sp_MB_k hB (sp_g1 k0)) hV.1 ?_
  intro I5 k1
  exact hQ I5 J (sp_fr_tr (sp_fr_tr f3 (sp_mg k0)) (sp_gm k1)) (by rw [k1 70 (by decide) 11 (by decide), k0 70 (by decide) 11 (by decide)]; exact t3)
end PUB3
