/-! Own rows: feed, on both sides together. -/
theorem sp_sb_n : ∀ b, b < 256 → (sp_sb b).toInt8.toInt32 = sp_sb b := by decide +kernel
theorem sp_sb_of (x : Int32) : x.toInt8.toInt32 = sp_sb (x.toBitVec.toNat % 256) := by
  have hn : x.toBitVec.toNat < 2 ^ 32 := x.toBitVec.isLt
  apply Int32.toInt_inj.mp
  rw [sp_sb_i (Nat.mod_lt _ (by decide)), Int8.toInt_toInt32, Int32.toInt_toInt8]
  have hh : x.toInt = if 2 * x.toBitVec.toNat < 2 ^ 32 then (x.toBitVec.toNat : Int) else (x.toBitVec.toNat : Int) - ((2 ^ 32 : Nat) : Int) := BitVec.toInt_eq_toNat_cond x.toBitVec
  rw [hh, Int.bmod_def]
  split <;> split <;> split <;> omega
/-- which byte of a word: shift, value -/
def sp_sf (k : Nat) : Int32 := nI (24 - 8 * k) &&& 31
def sp_by (p : Int32) (k : Nat) : Nat := (p >>> sp_sf k).toBitVec.toNat % 256
theorem sp_by_lt (p : Int32) (k : Nat) : sp_by p k < 256 := Nat.mod_lt _ (by decide)
theorem sp_by_c (p : Int32) (k : Nat) : vp_nar .byte ((Int32.toInt8 (p >>> (nI (24 - 8 * k) &&& 31))).toInt32) = sp_sb (sp_by p k) := by
  rw [vp_nar_byte, sp_sb_of (p >>> (nI (24 - 8 * k) &&& 31)), sp_sb_n _ (Nat.mod_lt _ (by decide))]
  rfl
theorem sp_by_m (p : Int32) (k : Nat) : (p >>> sp_sf k) &&& 255 = nI (sp_by p k) := pk_and (p >>> sp_sf k) 8 (by decide)
def sp_w5 (a b c e f : Int32) (k : Nat) : Int32 := if k = 0 then a else if k = 1 then b else if k = 2 then c else if k = 3 then e else f
theorem sp_sh20 : ∀ i, i < 20 → ((24 : Int32) - (8 * (nI i - nI i / 4 * 4))) &&& 31 = sp_sf (i % 4) := by decide +kernel
section FEED2
variable {d : Nat} {I : Nat → Nat → Int32} {J : Nat → Nat → Int64} {R : Nat → Nat → Option Nat} {Q : Option Value → ow_H → Prop}
theorem c_tape1 {u k : Nat} {p : Int32} (hR : ow_RF R) (hk : k < 4) (hu : u < 900) (h1 : I 0 1 = nI u) (K : ∀ I2 : Nat → Nat → Int32, sp_fr [1] [(0, 1)] I I2 → I2 0 1 = nI (u + 1) → (∀ j, I2 1 j = if j = u then sp_sb (sp_by p k) else I 1 j) → ow_AW ow_Y0 (ow_Z Q) M_Fs_tapeWord (d + 1) 0 0 3 [(0, .ref 0), (1, .int p), (2, .int (nI (24 - 8 * k) + (-8)))] [] (85, I2, J, R) 0 0) : ow_AW ow_Y0 (ow_Z Q) M_Fs_tapeWord (d + 1) 0 0 3 [(0, .ref 0), (1, .int p), (2, .int (nI (24 - 8 * k)))] [] (85, I, J, R) 0 0 := by
  apply t_Fs_tapeWord_3 hR
  rw [h1, sp_cl (by omega), sp_by_c]
  refine ⟨fun c => absurd c (nI_pos (by omega)), fun _ => ⟨fun c => absurd c (nI_ge (b := 900) hu (by decide)), fun _ => ⟨vp_in_nI hu (by decide), fun I1 e1 I2 e2 => ?_⟩⟩⟩
  refine K I2 (sp_fr_tr (sp_fr_ue e1 (by simp)) (sp_fr_ue e2 (by simp))) ?_ (fun j => ?_)
  · rw [e2, ow_u_at, e1, ow_u_ne (by decide), h1, nI_1]
  · rw [e2, ow_u_ne (by decide), e1]
    by_cases hj : j = u
    · rw [if_pos hj, hj, ow_u_at]
    · rw [if_neg hj, ow_u_nk hj]
theorem c_Fs_tapeWord {u : Nat} {p : Int32} (hR : ow_RF R) (hu : u + 4 ≤ 900) (h1 : I 0 1 = nI u) (hQ : ∀ I2 : Nat → Nat → Int32, sp_fr [1] [(0, 1)] I I2 → I2 0 1 = nI (u + 4) → (∀ j, I2 1 j = if u ≤ j ∧ j < u + 4 then sp_sb (sp_by p (j - u)) else I 1 j) → Q none (85, I2, J, R)) : ow_AM M_Fs_tapeWord (d + 1) [.ref 0, .int p] (85, I, J, R) Q := by
  apply t_Fs_tapeWord hR
  refine c_tape1 (k := 0) (u := u) hR (by decide) (by omega) h1 ?_
  intro I2 f2 v2 w2
  refine c_tape1 (k := 1) (u := u + 1) hR (by decide) (by omega) v2 ?_
  intro I3 f3 v3 w3
  refine c_tape1 (k := 2) (u := u + 2) hR (by decide) (by omega) v3 ?_
  intro I4 f4 v4 w4
  refine c_tape1 (k := 3) (u := u + 3) hR (by decide) (by omega) v4 ?_
  intro I5 f5 v5 w5
  apply t_Fs_tapeWord_3 hR
  refine ⟨fun _ => ?_, fun c => absurd (by decide) c⟩
  refine hQ I5 (sp_fr_tr (sp_fr_tr (sp_fr_tr f2 f3) f4) f5) v5 (fun j => ?_)
  rw [w5, w4, w3, w2]
  by_cases c3 : j = u + 3
  · rw [if_pos c3, if_pos (by omega), show j - u = 3 from by omega]
  rw [if_neg c3]
  by_cases c2 : j = u + 2
  · rw [if_pos c2, if_pos (by omega), show j - u = 2 from by omega]
  rw [if_neg c2]
  by_cases c1 : j = u + 1
  · rw [if_pos c1, if_pos (by omega), show j - u = 1 from by omega]
  rw [if_neg c1]
  by_cases c0 : j = u
  · rw [if_pos c0, if_pos (by omega), show j - u = 0 from by omega]
  · rw [if_neg c0, if_neg (by omega)]
theorem c_Mo_feed23 {t : Nat} {a b c e f : Int32} (hR : ow_RF R) (ht : t + 20 ≤ 900) (h2 : I 70 2 = nI t) (hQ : ∀ I2 : Nat → Nat → Int32, sp_fr [71] [(70, 2)] I I2 → I2 70 2 = nI (t + 20) → (∀ j, j < t → I2 71 j = I 71 j) → (∀ j, j < 20 → I2 71 (t + j) = nI (sp_by (sp_w5 a b c e f (j / 4)) (j % 4))) → Q (some (.int (nI (t + 20)))) (85, I2, J, R)) : ow_AW ow_Y0 (ow_Z Q) M_Mo_feed (d + 1) 0 0 23 [(0, .ref 70), (1, .int a), (2, .int b), (3, .int c), (4, .int e), (5, .int f), (6, .int (nI 0))] [] (85, I, J, R) 0 0 := by
  refine sp_up (N := 20) (G := fun i I5 => ow_AW ow_Y0 (ow_Z Q) M_Mo_feed (d + 1) 0 0 23 [(0, .ref 70), (1, .int a), (2, .int b), (3, .int c), (4, .int e), (5, .int f), (6, .int (nI i))] [] (85, I5, J, R) 0 0) (Inv := fun i I5 => sp_fr [71] [(70, 2)] I I5 ∧ I5 70 2 = nI (t + i) ∧ (∀ j, j < t → I5 71 j = I 71 j) ∧ ∀ j, j < i → I5 71 (t + j) = nI (sp_by (sp_w5 a b c e f (j / 4)) (j % 4))) ?_ ?_ 0 I (Nat.zero_le _) ⟨sp_fr_rf, h2, fun _ _ => rfl, fun j hj => absurd hj (Nat.not_lt_zero _)⟩
  · intro I5 ⟨x0, x1, x2, x3⟩
    apply t_Mo_feed_23 hR
    rw [x1]
    exact ⟨fun _ => hQ I5 x0 x1 x2 x3, fun c => absurd (by decide) c⟩
  · intro i I5 hi ⟨x0, x1, x2, x3⟩ ih
    apply t_Mo_feed_23 hR
    have S : ∀ (p : Int32) (I6 : Nat → Nat → Int32), p = sp_w5 a b c e f (i / 4) → I6 = ow_u I5 71 (t + i) ((p >>> sp_sf (i % 4)) &&& 255) → ∀ I7, I7 = ow_u I6 70 2 (I6 70 2 + 1) → ow_AW ow_Y0 (ow_Z Q) M_Mo_feed (d + 1) 0 0 23 [(0, .ref 70), (1, .int a), (2, .int b), (3, .int c), (4, .int e), (5, .int f), (6, .int (nI (i + 1)))] [] (85, I7, J, R) 0 0 := by
      intro p I6 hp e6 I7 e7
      refine ih I7 ⟨sp_fr_tr x0 (sp_fr_tr (sp_fr_ue e6 (by simp)) (sp_fr_ue e7 (by simp))), ?_, fun j hj => ?_, fun j hj => ?_⟩
      · rw [e7, ow_u_at, e6, ow_u_ne (by decide), x1, nI_1]; rfl
      · rw [e7, ow_u_ne (by decide), e6, ow_u_nk (by omega)]; exact x2 j hj
      · rw [e7, ow_u_ne (by decide), e6]
        by_cases hji : j = i
        · rw [hji, ow_u_at, hp, sp_by_m]
        · rw [ow_u_nk (by omega)]; exact x3 j (by omega)
    rw [x1, sp_cl (by omega), sp_sh20 i hi, nI_1]
    have L : ∀ k : Nat, k < 100 → ((nI k ≤ nI i) ↔ k ≤ i) := fun k hk => nI_leI (by omega) (by omega)
    have V : vp_in (nI (t + i)) 900 := vp_in_nI (by omega) (by decide)
    refine ⟨fun c => absurd c (nI_ge (b := 20) hi (by decide)), fun _ => ⟨fun c4 => ⟨fun c8 => ⟨fun c12 => ⟨fun c16 => ⟨V, fun I6 e6 I7 e7 => S f I6 ?_ e6 I7 e7⟩, fun c16 => ⟨V, fun I6 e6 I7 e7 => S e I6 ?_ e6 I7 e7⟩⟩, fun c12 => ⟨V, fun I6 e6 I7 e7 => S c I6 ?_ e6 I7 e7⟩⟩, fun c8 => ⟨V, fun I6 e6 I7 e7 => S b I6 ?_ e6 I7 e7⟩⟩, fun c4 => ⟨V, fun I6 e6 I7 e7 => S a I6 ?_ e6 I7 e7⟩⟩⟩
    · have := (L 16 (by decide)).mp c16
      rw [show i / 4 = 4 from by omega]; rfl
    · have := (L 12 (by decide)).mp c12
      have : ¬ 16 ≤ i := fun h => c16 ((L 16 (by decide)).mpr h)
      rw [show i / 4 = 3 from by omega]; rfl
    · have := (L 8 (by decide)).mp c8
      have : ¬ 12 ≤ i := fun h => c12 ((L 12 (by decide)).mpr h)
      rw [show i / 4 = 2 from by omega]; rfl
    · have := (L 4 (by decide)).mp c4
      have : ¬ 8 ≤ i := fun h => c8 ((L 8 (by decide)).mpr h)
      rw [show i / 4 = 1 from by omega]; rfl
    · have : ¬ 4 ≤ i := fun h => c4 ((L 4 (by decide)).mpr h)
      rw [show i / 4 = 0 from by omega]; rfl
end FEED2
/-- the tape grows on both sides -/
theorem sp_W_feed {I I2 I3 : Nat → Nat → Int32} {t : Nat} {B : Nat → Nat} {wd : Nat → Nat} (hW : sp_W I) (hG : sp_Gl I t B) (ht : t + 20 ≤ 900) (hw : ∀ j, wd j < 256) (f2 : sp_fr [1] [(0, 1)] I I2) (a1 : I2 0 1 = nI (t + 20)) (a2 : ∀ j, j < t → I2 1 j = I 1 j) (a3 : ∀ j, j < 20 → I2 1 (t + j) = sp_sb (wd j)) (f3 : sp_fr [71] [(70, 2), (70, 0)] I2 I3) (b1 : I3 70 2 = nI (t + 20)) (b2 : ∀ j, j < t → I3 71 j = I2 71 j) (b3 : ∀ j, j < 20 → I3 71 (t + j) = nI (wd j)) : sp_W I3 := by
  obtain ⟨_, ⟨y1, y2, y3, y4, y5⟩, hS⟩ := hW
  obtain ⟨g1, g2, g3, g4, g5, g6⟩ := hG
  have hi : ∀ a, 1 < a → I2 a = I a := fun a ha => sp_fr_row f2 (by simp only [List.mem_cons, List.not_mem_nil, or_false]; omega) (by intro k; simp only [List.mem_cons, List.not_mem_nil, or_false, Prod.mk.injEq]; omega)
  have lo : ∀ a, a ≠ 70 → a ≠ 71 → I3 a = I2 a := fun a h1 h2 => sp_fr_row f3 (by simp only [List.mem_cons, List.not_mem_nil, or_false]; omega) (by intro k; simp only [List.mem_cons, List.not_mem_nil, or_false, Prod.mk.injEq]; omega)
  have z : ∀ k, k ≠ 1 → I2 0 k = I 0 k := fun k hk => f2 0 (by decide) k (by simp only [List.mem_cons, List.not_mem_nil, or_false, Prod.mk.injEq]; omega)
  have m : ∀ k, k ≠ 0 → k ≠ 2 → I3 70 k = I 70 k := fun k h1 h2 => by rw [f3 70 (by decide) k (by simp only [List.mem_cons, List.not_mem_nil, or_false, Prod.mk.injEq]; omega), hi 70 (by decide)]
  have l0 := lo 0 (by decide) (by decide)
  have lc : ∀ a, 1 < a → a < 70 → (a < 13 ∨ 28 < a) → I3 a = I a := fun a h1 h2 _ => by rw [lo a (by omega) (by omega), hi a h1]
  have hm : ∀ a, 71 < a → I3 a = I a := fun a h1 => by rw [lo a (by omega) (by omega), hi a (by omega)]
  refine ⟨⟨t + 20, fun j => if j < t then B j else wd (j - t), ht, fun j => ?_, ?_, b1, fun j hj => ?_, fun j hj => ?_⟩, ⟨?_, ?_, ?_, ?_, ?_⟩, ?_⟩
  · show (if j < t then B j else wd (j - t)) < 256
    split
    · exact g2 j
    · exact hw _
  · rw [l0]; exact a1
  · rw [lo 1 (by decide) (by decide)]
    show I2 1 j = sp_sb (if j < t then B j else wd (j - t))
    by_cases h : j < t
    · rw [if_pos h, a2 j h]; exact g5 j h
    · rw [if_neg h, ← a3 (j - t) (by omega), show t + (j - t) = j from by omega]
  · show I3 71 j = nI (if j < t then B j else wd (j - t))
    by_cases h : j < t
    · rw [if_pos h, b2 j h, hi 71 (by decide)]; exact g6 j h
    · rw [if_neg h, ← b3 (j - t) (by omega), show t + (j - t) = j from by omega]
  · rw [l0, z 15 (by decide), m 11 (by decide) (by decide)]; exact y1
  · rw [l0, z 16 (by decide), m 9 (by decide) (by decide)]; exact y2
  · rw [l0, z 15 (by decide), z 17 (by decide), m 10 (by decide) (by decide)]; exact y3
  · rw [lc 66 (by decide) (by decide) (by decide)]; exact y4
  · rw [lc 68 (by decide) (by decide) (by decide)]; exact y5
  rcases hS with ⟨T, V, h, H, g, G, x1, x2, x3, x4, x5, x6⟩ | ⟨x1, x2⟩
  · exact Or.inl ⟨T, V, h, H, g, G, x1, x2, x3, x4, sp_CX_f x5 (by rw [l0, z 14 (by decide)]) lc, ⟨by rw [m 14 (by decide) (by decide)]; exact x6.1.1, sp_mt_k x6.1.2.1 (hm 73 (by decide)) (hm 75 (by decide)), sp_Mw_k x6.1.2.2 (hm 77 (by decide))⟩, sp_MH_k x6.2 (m 22 (by decide) (by decide)) (hm 78 (by decide)) (m 23 (by decide) (by decide)) (hm 79 (by decide))⟩
  · exact Or.inr ⟨sp_C0_f x1 (by rw [l0, z 14 (by decide)]) lc, by rw [m 14 (by decide) (by decide)]; exact x2.1, by rw [m 22 (by decide) (by decide)]; exact x2.2.1, by rw [m 23 (by decide) (by decide)]; exact x2.2.2⟩
theorem p_feed {a b c e f : Int32} : sp_U Value.int M_Fs_feed M_Mo_feed [.int a, .int b, .int c, .int e, .int f] := by
  intro d I J R Q hR hW hQ
  obtain ⟨⟨t, B, hG⟩, _⟩ := id hW
  have g1 := hG.1
  have g3 := hG.2.2.1
  have g4 := hG.2.2.2.1
  have E20 : ∀ v : Int32, v = nI t → ((v + 20 ≤ 900) ↔ t + 20 ≤ 900) := fun v hv => by
    rw [hv, show nI t + 20 = nI (t + 20) from nI_add t 20, show (900 : Int32) = nI 900 from rfl]
    exact nI_leI (by omega) (by decide)
  apply t_Fs_feed hR
  rw [E20 _ g3]
  refine ⟨fun ht => ?_, fun ht => ?_⟩
  · refine c_Fs_tapeWord (u := t) hR (by omega) g3 ?_
    intro I1 f1 v1 w1
    refine ⟨I1, J, R, rfl, rfl, hR, ?_⟩
    refine c_Fs_tapeWord (u := t + 4) hR (by omega) v1 ?_
    intro I2 f2 v2 w2
    refine ⟨I2, J, R, rfl, rfl, hR, ?_⟩
    refine c_Fs_tapeWord (u := t + 8) hR (by omega) v2 ?_
    intro I3 f3 v3 w3
    refine ⟨I3, J, R, rfl, rfl, hR, ?_⟩
    refine c_Fs_tapeWord (u := t + 12) hR (by omega) v3 ?_
    intro I4 f4 v4 w4
    refine ⟨I4, J, R, rfl, rfl, hR, ?_⟩
    refine c_Fs_tapeWord (u := t + 16) hR (by omega) v4 ?_
    intro I5 f5 v5 w5
    refine ⟨I5, J, R, rfl, rfl, hR, ?_⟩
    rw [show I5 0 1 = nI (t + 20) from v5]
    have ff : sp_fr [1] [(0, 1)] I I5 := sp_fr_tr (sp_fr_tr (sp_fr_tr (sp_fr_tr f1 f2) f3) f4) f5
    have h71 : I5 70 = I 70 := sp_fr_row ff (by decide) (by simp)
    refine hQ _ I5 J R hR ?_
    intro Q2 hQ2
    apply t_Mo_feed hR
    intro I6 e6
    have v6 : I6 70 2 = nI t := by rw [e6, ow_u_nk (by decide), h71]; exact g4
    rw [E20 _ v6]
    refine ⟨fun _ => ?_, fun c => absurd ht c⟩
    refine c_Mo_feed23 hR ht v6 ?_
    intro I7 f7 v7 u7 w7
    refine hQ2 I7 J R hR (sp_W_feed (wd := fun j => sp_by (sp_w5 a b c e f (j / 4)) (j % 4)) hW hG ht (fun j => sp_by_lt _ _) ff v5 (fun j hj => ?_) (fun j hj => ?_) (sp_fr_tr (sp_fr_ue e6 (by simp)) (sp_fr_mono f7 (by decide) (by decide))) v7 (fun j hj => ?_) w7)
    · rw [w5, if_neg (by omega), w4, if_neg (by omega), w3, if_neg (by omega), w2, if_neg (by omega), w1, if_neg (by omega)]
    · show I5 1 (t + j) = sp_sb (sp_by (sp_w5 a b c e f (j / 4)) (j % 4))
      by_cases c4 : j < 4
      · rw [w5, if_neg (by omega), w4, if_neg (by omega), w3, if_neg (by omega), w2, if_neg (by omega), w1, if_pos (by omega), show j / 4 = 0 from by omega, show t + j - t = j % 4 from by omega]; rfl
      by_cases c8 : j < 8
      · rw [w5, if_neg (by omega), w4, if_neg (by omega), w3, if_neg (by omega), w2, if_pos (by omega), show j / 4 = 1 from by omega, show t + j - (t + 4) = j % 4 from by omega]; rfl
      by_cases c12 : j < 12
      · rw [w5, if_neg (by omega), w4, if_neg (by omega), w3, if_pos (by omega), show j / 4 = 2 from by omega, show t + j - (t + 8) = j % 4 from by omega]; rfl
      by_cases c16 : j < 16
      · rw [w5, if_neg (by omega), w4, if_pos (by omega), show j / 4 = 3 from by omega, show t + j - (t + 12) = j % 4 from by omega]; rfl
      · rw [w5, if_pos (by omega), show j / 4 = 4 from by omega, show t + j - (t + 16) = j % 4 from by omega]; rfl
    · rw [u7 j hj, e6, ow_u_ne (by decide)]
  · refine hQ _ I J R hR ?_
    intro Q2 hQ2
    apply t_Mo_feed hR
    intro I6 e6
    have v6 : I6 70 2 = nI t := by rw [e6, ow_u_nk (by decide)]; exact g4
    rw [E20 _ v6]
    exact ⟨fun c => absurd c ht, fun _ => hQ2 I6 J R hR (sp_W_t hW e6)⟩
