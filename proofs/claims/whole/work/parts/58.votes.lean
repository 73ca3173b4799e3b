/-! Own rows, by program: votes, lowest terms. -/
theorem sp_b1 {m f : Nat} (c : ¬ (if m.testBit f = true then (1 : Int32) else 0) = 0) : m.testBit f = true := by
  by_cases q : m.testBit f = true
  · exact q
  · rw [if_neg q] at c
    exact absurd rfl c
theorem sp_b0 {m f : Nat} (c : (if m.testBit f = true then (1 : Int32) else 0) = 0) : ¬ m.testBit f = true := by
  intro q
  rw [if_pos q] at c
  exact absurd c (by decide)
/-- votes of the set m among the first k estates; of all -/
def sp_vs (de : Nat → Nat) (m : Nat) : Nat → Nat
  | 0 => 0
  | k + 1 => sp_vs de m k + (if m.testBit k = true then de k else 0)
def sp_vt (de : Nat → Nat) : Nat → Nat
  | 0 => 0
  | k + 1 => sp_vt de k + de k
theorem sp_vs_le {de : Nat → Nat} {m n : Nat} (h : ∀ e, e < n → de e < 100) : ∀ k, k ≤ n → sp_vs de m k ≤ 100 * k ∧ sp_vt de k ≤ 100 * k := by
  intro k
  induction k with
  | zero => intro _; exact ⟨Nat.le_refl _, Nat.le_refl _⟩
  | succ k ih =>
    intro hk
    obtain ⟨a, b⟩ := ih (by omega)
    have hd := h k (by omega)
    rw [sp_vs, sp_vt]
    refine ⟨?_, by omega⟩
    by_cases hb : m.testBit k = true
    · rw [if_pos hb]; omega
    · rw [if_neg hb]; omega
theorem sp_vs_all {de : Nat → Nat} {n : Nat} : ∀ k, k ≤ n → sp_vs de (2 ^ n - 1) k = sp_vt de k := by
  intro k
  induction k with
  | zero => intro _; rfl
  | succ k ih =>
    intro hk
    rw [sp_vs, sp_vt, ih (by omega), if_pos]
    rw [Nat.testBit_two_pow_sub_one]
    exact decide_eq_true (by omega)
def sp_hm (de : Nat → Nat) (n m : Nat) : Bool := decide (sp_vt de n < 2 * sp_vs de m n)
theorem sp_sh1 : ∀ n, n < 7 → ((1 : Int32) <<< (nI n &&& 31) = nI (2 ^ n) ∧ 2 ^ n ≤ 64) := by decide +kernel
theorem sp_p5 {n : Nat} (h : n ≤ 5) : 2 ^ n ≤ 32 := Nat.pow_le_pow_right (n := 2) (by decide) h
/-- sets of others that e turns, among the first k -/
def sp_sw (de : Nat → Nat) (n e : Nat) : Nat → Nat
  | 0 => 0
  | k + 1 => sp_sw de n e k + (if k.testBit e = true then 0 else if sp_hm de n k = true then 0 else if sp_hm de n (k ||| 2 ^ e) = true then 1 else 0)
theorem sp_sw_le {de : Nat → Nat} {n e : Nat} : ∀ k, sp_sw de n e k ≤ k := by
  intro k
  induction k with
  | zero => exact Nat.le_refl _
  | succ k ih =>
    rw [sp_sw]
    by_cases h1 : k.testBit e = true
    · rw [if_pos h1]; omega
    · rw [if_neg h1]
      by_cases h2 : sp_hm de n k = true
      · rw [if_pos h2]; omega
      · rw [if_neg h2]
        by_cases h3 : sp_hm de n (k ||| 2 ^ e) = true
        · rw [if_pos h3]; omega
        · rw [if_neg h3]; omega
/-- sets without e among the first k -/
def sp_ot (e : Nat) : Nat → Nat
  | 0 => 0
  | k + 1 => sp_ot e k + (if k.testBit e = true then 0 else 1)
theorem sp_ot_le {e : Nat} : ∀ k, sp_ot e k ≤ k := by
  intro k
  induction k with
  | zero => exact Nat.le_refl _
  | succ k ih =>
    rw [sp_ot]
    by_cases h1 : k.testBit e = true
    · rw [if_pos h1]; omega
    · rw [if_neg h1]; omega
theorem sp_sw_ot {de : Nat → Nat} {n e : Nat} : ∀ k, sp_sw de n e k ≤ sp_ot e k := by
  intro k
  induction k with
  | zero => exact Nat.le_refl _
  | succ k ih =>
    rw [sp_sw, sp_ot]
    by_cases h1 : k.testBit e = true
    · rw [if_pos h1, if_pos h1]; omega
    · rw [if_neg h1, if_neg h1]
      by_cases h2 : sp_hm de n k = true
      · rw [if_pos h2]; omega
      · rw [if_neg h2]
        by_cases h3 : sp_hm de n (k ||| 2 ^ e) = true
        · rw [if_pos h3]; omega
        · rw [if_neg h3]; omega
theorem sp_ot_n : ∀ n, n < 6 → ∀ e, e < n → sp_ot e (2 ^ n) = 2 ^ (n - 1) := by decide +kernel
def sp_mb : Option Nat → Nat
  | none => 6
  | some b => sp_pc b
theorem sp_cmp0 {a : Nat} (h : a < 2 ^ 63) : lg_cmp (lN a) 0 = 0 ↔ a = 0 := by
  have e0 : (0 : Int64) = lN 0 := rfl
  unfold lg_cmp
  rw [e0]
  by_cases h0 : a = 0
  · subst h0
    exact ⟨fun _ => rfl, fun _ => by decide⟩
  · have h1 : lN a > lN 0 := (pk_lLT (a := 0) (b := a) (by omega) h).mpr (by omega)
    rw [if_pos h1]
    exact ⟨fun c => absurd c (by decide), fun c => absurd c h0⟩
theorem sp_lne {a : Nat} (h : a < 2 ^ 63) (h0 : a ≠ 0) : ¬ lN a = 0 := fun c => h0 ((pk_lEQ (a := a) (b := 0) h (by omega)).mp c)
/-- one step of Euclid halves the product -/
theorem sp_eu {x y k : Nat} (hy : 0 < y) (hxy : y ≤ x) (h : x * y < 2 ^ (k + 1)) : y * (x % y) < 2 ^ k := by
  have h1 : 2 * (x % y) ≤ x := by
    have a1 := Nat.div_add_mod x y
    have a2 : 1 ≤ x / y := (Nat.one_le_div_iff hy).mpr hxy
    have a3 := Nat.mod_lt x hy
    have a4 : y * 1 ≤ y * (x / y) := Nat.mul_le_mul_left y a2
    omega
  have h2 : y * (2 * (x % y)) ≤ y * x := Nat.mul_le_mul_left y h1
  rw [Nat.pow_succ] at h
  have e1 : y * (2 * (x % y)) = 2 * (y * (x % y)) := by rw [Nat.mul_left_comm]
  have e2 : y * x = x * y := Nat.mul_comm _ _
  omega
section VOTES
variable {d : Nat} {I : Nat → Nat → Int32} {J : Nat → Nat → Int64} {R : Nat → Nat → Option Nat} {Q : Option Value → ow_H → Prop} {T : sp_T}
theorem c_Fs_inLowestTerms {a b : Nat} {y : Int32} (hR : ow_RF R) (hb : 0 < b) (hab : a ≤ b) (hb2 : b * a < 2 ^ 100) (hb3 : b < 2 ^ 62) (hQ : Q (some (.long (lN ((if y = 0 then a else b) / Nat.gcd a b)))) (85, I, J, R)) : ow_AM M_Fs_inLowestTerms (d + 1) [.long (lN a), .long (lN b), .int y] (85, I, J, R) Q := by
  apply t_Fs_inLowestTerms hR
  have L : ∀ (k x z i : Nat), z ≤ x → 0 < x → x ≤ b → x * z < 2 ^ k → i + k = 100 → Nat.gcd z x = Nat.gcd a b → ow_AW ow_Y0 (ow_Z Q) M_Fs_inLowestTerms (d + 1) 0 0 9 [(0, .long (lN a)), (2, .long (lN b)), (4, .int y), (5, .long (lN x)), (7, .long (lN z)), (9, .int (nI i))] [] (85, I, J, R) 0 0 := by
    intro k
    induction k with
    | zero =>
      intro x z i hzx hx hxb hp hi hg
      have hz : z = 0 := by
        rcases Nat.eq_zero_or_pos z with h | h
        · exact h
        · have := Nat.mul_pos hx h
          omega
      subst hz
      rw [Nat.gcd_zero_left] at hg
      apply t_Fs_inLowestTerms_9 hR
      refine ⟨fun c => absurd c (nI_ge (a := i) (b := 200) (by omega) (by decide)), fun _ => ⟨fun _ => ⟨fun _ => ⟨fun c => ⟨sp_lne (by omega) (by omega), ?_⟩, fun c => ⟨sp_lne (by omega) (by omega), ?_⟩⟩, fun c => absurd ((sp_cmp0 (by omega)).mp c) (by omega)⟩, fun c => absurd (by decide) c⟩⟩
      · rw [pk_lDiv (by omega) hx (by omega), hg]
        rw [if_pos c] at hQ
        exact hQ
      · rw [pk_lDiv (by omega) hx (by omega), hg]
        rw [if_neg c] at hQ
        exact hQ
    | succ k ih =>
      intro x z i hzx hx hxb hp hi hg
      apply t_Fs_inLowestTerms_9 hR
      refine ⟨fun c => absurd c (nI_ge (a := i) (b := 200) (by omega) (by decide)), fun _ => ⟨fun c0 => ⟨fun _ => ⟨fun c => ⟨sp_lne (by omega) (by omega), ?_⟩, fun c => ⟨sp_lne (by omega) (by omega), ?_⟩⟩, fun c => absurd ((sp_cmp0 (by omega)).mp c) (by omega)⟩, fun c0 => ⟨sp_lne (by omega) (fun q => c0 ((sp_cmp0 (by omega)).mpr q)), ?_⟩⟩⟩
      · have hz := (sp_cmp0 (by omega)).mp c0
        subst hz
        rw [Nat.gcd_zero_left] at hg
        rw [pk_lDiv (by omega) hx (by omega), hg]
        rw [if_pos c] at hQ
        exact hQ
      · have hz := (sp_cmp0 (by omega)).mp c0
        subst hz
        rw [Nat.gcd_zero_left] at hg
        rw [pk_lDiv (by omega) hx (by omega), hg]
        rw [if_neg c] at hQ
        exact hQ
      · have hz : z ≠ 0 := fun q => c0 ((sp_cmp0 (by omega)).mpr q)
        have hz1 : 0 < z := by omega
        rw [pk_lRem (by omega) hz1 (by omega), nI_1]
        have hm := Nat.mod_lt x hz1
        refine ih z (x % z) (i + 1) (by omega) hz1 (by omega) (sp_eu hz1 hzx hp) (by omega) ?_
        rw [← hg, Nat.gcd_rec z x]
  exact L 100 b a 0 hab hb (Nat.le_refl _) hb2 (by omega) rfl
theorem c_Mo_lowest {a b : Nat} {y : Int32} (hR : ow_RF R) (hb : 0 < b) (hab : a ≤ b) (hb3 : b < 2 ^ 62) (hQ : Q (some (.long (lN ((if y = 0 then a else b) / Nat.gcd a b)))) (85, I, J, R)) : ow_AM M_Mo_lowest (d + 1) [.long (lN a), .long (lN b), .int y] (85, I, J, R) Q := by
  apply t_Mo_lowest hR
  have L : ∀ (k x z : Nat), z < k → z ≤ x → 0 < x → x ≤ b → Nat.gcd z x = Nat.gcd a b → ow_AW ow_Y0 (ow_Z Q) M_Mo_lowest (d + 1) 0 0 6 [(0, .long (lN a)), (2, .long (lN b)), (4, .int y), (5, .long (lN x)), (7, .long (lN z))] [] (85, I, J, R) 0 0 := by
    intro k
    induction k with
    | zero => intro x z h; omega
    | succ k ih =>
      intro x z hk hzx hx hxb hg
      apply t_Mo_lowest_6 hR
      refine ⟨fun c0 => ⟨fun c => ⟨sp_lne (by omega) (by omega), ?_⟩, fun c => ⟨sp_lne (by omega) (by omega), ?_⟩⟩, fun c0 => ⟨sp_lne (by omega) (fun q => c0 ((sp_cmp0 (by omega)).mpr q)), ?_⟩⟩
      · have hz := (sp_cmp0 (by omega)).mp c0
        subst hz
        rw [Nat.gcd_zero_left] at hg
        rw [pk_lDiv (by omega) hx (by omega), hg]
        rw [if_pos c] at hQ
        exact hQ
      · have hz := (sp_cmp0 (by omega)).mp c0
        subst hz
        rw [Nat.gcd_zero_left] at hg
        rw [pk_lDiv (by omega) hx (by omega), hg]
        rw [if_neg c] at hQ
        exact hQ
      · have hz : z ≠ 0 := fun q => c0 ((sp_cmp0 (by omega)).mpr q)
        have hz1 : 0 < z := by omega
        rw [pk_lRem (by omega) hz1 (by omega)]
        have hm := Nat.mod_lt x hz1
        refine ih z (x % z) (by omega) (by omega) hz1 (by omega) ?_
        rw [← hg, Nat.gcd_rec z x]
  exact L (a + 1) b a (by omega) hab hb (Nat.le_refl _) rfl
theorem c_Votes_hasMost {m : Nat} (hR : ow_RF R) (hC : sp_ct I T) (hT : st_ok T) (hm : m < 64) (hQ : Q (some (.int (sp_jb (sp_hm (st_de T) (st_ne T) m)))) (85, I, J, R)) : ow_AM M_Votes_hasMost (d + 1) [.ref 62, .int (nI m)] (85, I, J, R) Q := by
  have n5 := hT.2.2.2.2.2.1
  have hde : ∀ e, e < st_ne T → st_de T e < 100 := fun e he => (hT.2.2.2.2.2.2.1 e he).2
  apply t_Votes_hasMost hR
  refine sp_up (σ := Unit) (N := st_ne T) (G := fun i _ => ow_AW ow_Y0 (ow_Z Q) M_Votes_hasMost (d + 1) 0 0 7 [(0, .ref 62), (1, .int (nI m)), (2, .int (nI (sp_vs (st_de T) m i))), (3, .int (nI (sp_vt (st_de T) i))), (4, .int (nI i))] [] (85, I, J, R) 0 0) (Inv := fun _ _ => True) ?_ ?_ 0 () (Nat.zero_le _) trivial
  · intro _ _
    obtain ⟨b1, b2⟩ := sp_vs_le (m := m) hde _ (Nat.le_refl _)
    apply t_Votes_hasMost_7 hR
    rw [hC.2.2.1, show (2 : Int32) * nI (sp_vs (st_de T) m (st_ne T)) = nI (2 * sp_vs (st_de T) m (st_ne T)) from pk_mul 2 _, nI_leI (a := 2 * sp_vs (st_de T) m (st_ne T)) (by omega) (by omega)]
    refine ⟨fun _ => ?_, fun c => absurd (Int32.le_refl _) c⟩
    unfold sp_hm at hQ
    refine ⟨fun c => ?_, fun c => ?_⟩
    · rw [decide_eq_false (by omega)] at hQ; exact hQ
    · rw [decide_eq_true (by omega)] at hQ; exact hQ
  · intro i _ hi _ ih
    have K := ih () trivial
    rw [sp_vs, sp_vt] at K
    apply t_Votes_hasMost_7 hR
    rw [hC.2.2.1, sp_cl (n := i) (by omega), (hC.2.2.2.2.2.2.1 i hi).2, sp_bit m hm i (by omega), nI_add, nI_add, nI_1]
    refine ⟨fun c => absurd c (nI_ge hi (by omega)), fun _ => ⟨vp_in_nI (by omega) (by decide), fun c => ?_, fun c => ⟨vp_in_nI (by omega) (by decide), ?_⟩⟩⟩
    · rw [if_neg (sp_b0 c)] at K
      exact K
    · rw [if_pos (sp_b1 c)] at K
      exact K
theorem c_Votes_countSwung {e : Nat} (hR : ow_RF R) (hC : sp_ct I T) (hT : st_ok T) (he : e < 6) (hQ : Q (some (.int (nI (sp_sw (st_de T) (st_ne T) e (2 ^ st_ne T))))) (85, I, J, R)) : ow_AM M_Votes_countSwung (d + 2) [.ref 62, .int (nI e)] (85, I, J, R) Q := by
  have n5 := hT.2.2.2.2.2.1
  have p5 := sp_p5 n5
  obtain ⟨s1, s2⟩ := sp_sh1 (st_ne T) (by omega)
  apply t_Votes_countSwung hR
  refine sp_up (σ := Unit) (N := 2 ^ st_ne T) (G := fun i _ => ow_AW ow_Y0 (ow_Z Q) M_Votes_countSwung (d + 2) 0 0 4 [(0, .ref 62), (1, .int (nI e)), (2, .int (nI (sp_sw (st_de T) (st_ne T) e i))), (3, .int (nI i))] [] (85, I, J, R) 0 0) (Inv := fun _ _ => True) ?_ ?_ 0 () (Nat.zero_le _) trivial
  · intro _ _
    apply t_Votes_countSwung_4 hR
    rw [hC.2.2.1, s1]
    exact ⟨fun _ => hQ, fun c => absurd (Int32.le_refl _) c⟩
  · intro i _ hi _ ih
    have K := ih () trivial
    rw [sp_sw] at K
    have h64 : i < 64 := by omega
    apply t_Votes_countSwung_4 hR
    rw [hC.2.2.1, s1, sp_bit i h64 e he, (sp_or i h64 e he).1, nI_1, nI_1]
    refine ⟨fun c => absurd c (nI_ge hi (by omega)), fun _ => ⟨fun c => ?_, fun c => ?_⟩⟩
    · rw [if_pos (sp_b1 c)] at K
      exact K
    · rw [if_neg (sp_b0 c)] at K
      refine c_Votes_hasMost hR hC hT h64 ⟨_, I, J, R, rfl, rfl, hR, ?_⟩
      cases h1 : sp_hm (st_de T) (st_ne T) i with
      | true =>
        rw [h1, if_pos rfl] at K
        exact ⟨fun _ => K, fun c => absurd c (by decide)⟩
      | false =>
        rw [h1, if_neg (by decide)] at K
        refine ⟨fun c => absurd rfl c, fun _ => ?_⟩
        refine c_Votes_hasMost hR hC hT (sp_or i h64 e he).2 ⟨_, I, J, R, rfl, rfl, hR, ?_⟩
        cases h2 : sp_hm (st_de T) (st_ne T) (i ||| 2 ^ e) with
        | true =>
          rw [h2, if_pos rfl] at K
          exact ⟨fun c => absurd c (by decide), fun _ => K⟩
        | false =>
          rw [h2, if_neg (by decide)] at K
          exact ⟨fun _ => K, fun c => absurd rfl c⟩
theorem c_Votes_sets (hR : ow_RF R) (hC : sp_ct I T) (hT : st_ok T) (h1 : 1 ≤ st_ne T) (hQ : Q (some (.int (nI (2 ^ (st_ne T - 1))))) (85, I, J, R)) : ow_AM M_Votes_countSetsOfOthers (d + 1) [.ref 62] (85, I, J, R) Q := by
  have n5 := hT.2.2.2.2.2.1
  apply t_Votes_countSetsOfOthers hR
  rw [hC.2.2.1, show nI (st_ne T) - 1 = nI (st_ne T - 1) from pk_sub (b := 1) h1, (sp_sh1 (st_ne T - 1) (by omega)).1]
  exact ⟨fun c => absurd c (nI_nle (by omega) (by omega)), fun _ => hQ⟩
theorem c_Votes_fewestRuling (hR : ow_RF R) (hC : sp_ct I T) (hT : st_ok T) (hQ : Q (some (.int (sp_on (sp_mn (sp_hm (st_de T) (st_ne T)) (2 ^ st_ne T))))) (85, I, J, R)) : ow_AM M_Votes_fewestRuling (d + 2) [.ref 62] (85, I, J, R) Q := by
  have n5 := hT.2.2.2.2.2.1
  have p5 := sp_p5 n5
  obtain ⟨s1, s2⟩ := sp_sh1 (st_ne T) (by omega)
  apply t_Votes_fewestRuling hR
  refine sp_up (σ := Unit) (N := 2 ^ st_ne T) (G := fun i _ => ow_AW ow_Y0 (ow_Z Q) M_Votes_fewestRuling (d + 2) 0 0 8 [(0, .ref 62), (1, .int (sp_on (sp_mn (sp_hm (st_de T) (st_ne T)) i))), (2, .int (nI (sp_mb (sp_mn (sp_hm (st_de T) (st_ne T)) i)))), (3, .int (nI i))] [] (85, I, J, R) 0 0) (Inv := fun _ _ => True) ?_ ?_ 0 () (Nat.zero_le _) trivial
  · intro _ _
    apply t_Votes_fewestRuling_8 hR
    rw [hC.2.2.1, s1]
    exact ⟨fun _ => hQ, fun c => absurd (Int32.le_refl _) c⟩
  · intro i _ hi _ ih
    have K := ih () trivial
    have l1 := sp_pc_le5 i (by omega)
    apply t_Votes_fewestRuling_8 hR
    rw [hC.2.2.1, s1]
    refine ⟨fun c => absurd c (nI_ge hi (by omega)), fun _ => ?_⟩
    refine c_bitCount hR (by omega) ⟨_, I, J, R, rfl, rfl, hR, ?_⟩
    rw [nI_1]
    rw [sp_mn] at K
    cases hm : sp_mn (sp_hm (st_de T) (st_ne T)) i with
    | none =>
      rw [hm] at K
      dsimp only at K
      refine ⟨fun c => absurd c (nI_ge (a := sp_pc i) (b := 6) (by omega) (by decide)), fun _ => ?_⟩
      refine c_Votes_hasMost hR hC hT (by omega) ⟨_, I, J, R, rfl, rfl, hR, ?_⟩
      cases h1 : sp_hm (st_de T) (st_ne T) i with
      | false =>
        rw [h1, if_neg (by decide)] at K
        exact ⟨fun _ => K, fun c => absurd rfl c⟩
      | true =>
        rw [h1, if_pos rfl] at K
        refine ⟨fun c => absurd c (by decide), fun _ => ?_⟩
        exact c_bitCount hR (by omega) ⟨_, I, J, R, rfl, rfl, hR, K⟩
    | some b =>
      have hb := (sp_mn_lt _ b hm).1
      have l2 := sp_pc_le5 b (by omega)
      rw [hm] at K
      dsimp only at K
      rw [show sp_mb (some b) = sp_pc b from rfl, nI_leI (a := sp_pc b) (by omega) (by omega)]
      refine ⟨fun c => ?_, fun c => ?_⟩
      · rw [if_neg (fun q => by omega)] at K
        exact K
      · refine c_Votes_hasMost hR hC hT (by omega) ⟨_, I, J, R, rfl, rfl, hR, ?_⟩
        cases h1 : sp_hm (st_de T) (st_ne T) i with
        | false =>
          rw [if_neg (fun q => by rw [h1] at q; exact absurd q.2 (by decide))] at K
          exact ⟨fun _ => K, fun c => absurd rfl c⟩
        | true =>
          rw [if_pos ⟨by omega, h1⟩] at K
          refine ⟨fun c => absurd c (by decide), fun _ => ?_⟩
          exact c_bitCount hR (by omega) ⟨_, I, J, R, rfl, rfl, hR, K⟩
theorem c_Mo_votesOf {m : Nat} (hR : ow_RF R) (hM : sp_mt I T) (hT : st_ok T) (hm : m < 64) (hQ : Q (some (.int (nI (sp_vs (st_de T) m (st_ne T))))) (85, I, J, R)) : ow_AM M_Mo_votesOf (d + 2) [.ref 70, .int (nI m)] (85, I, J, R) Q := by
  have n5 := hT.2.2.2.2.2.1
  apply t_Mo_votesOf hR
  refine sp_up (σ := Unit) (N := st_ne T) (G := fun i _ => ow_AW ow_Y0 (ow_Z Q) M_Mo_votesOf (d + 2) 0 0 4 [(0, .ref 70), (1, .int (nI m)), (2, .int (nI (sp_vs (st_de T) m i))), (3, .int (nI i))] [] (85, I, J, R) 0 0) (Inv := fun _ _ => True) ?_ ?_ 0 () (Nat.zero_le _) trivial
  · intro _ _
    apply t_Mo_votesOf_4 hR
    rw [hM.2.2.2.1]
    exact ⟨fun _ => hQ, fun c => absurd (Int32.le_refl _) c⟩
  · intro i _ hi _ ih
    have K := ih () trivial
    rw [sp_vs] at K
    apply t_Mo_votesOf_4 hR
    rw [hM.2.2.2.1, show (19 : Int32) + 2 * nI i = nI (19 + 2 * i) from sp_ix, nI_1, nI_1]
    refine ⟨fun c => absurd c (nI_ge hi (by omega)), fun _ => ?_⟩
    refine c_Mo_hasBit hR hm (by omega) ⟨_, I, J, R, rfl, rfl, hR, ?_⟩
    cases hb : m.testBit i with
    | false =>
      rw [hb, if_neg (by decide)] at K
      refine ⟨fun _ => ?_, fun c => absurd rfl c⟩
      rw [show nI (sp_vs (st_de T) m i) + 0 = nI (sp_vs (st_de T) m i + 0) from nI_add _ 0]
      exact K
    | true =>
      rw [hb, if_pos rfl] at K
      refine ⟨fun c => absurd c (by decide), fun _ => ⟨vp_in_nI (by omega) (by decide), ?_⟩⟩
      rw [sp_cl (by omega), show 19 + 2 * i + 1 = 20 + 2 * i from by omega, (hM.2.2.2.2.2.2.2.1 i hi).2, nI_add]
      exact K
theorem c_Mo_allEstates (hR : ow_RF R) (hM : sp_mt I T) (hT : st_ok T) (hQ : Q (some (.int (nI (2 ^ st_ne T - 1)))) (85, I, J, R)) : ow_AM M_Mo_allEstates (d + 1) [.ref 70] (85, I, J, R) Q := by
  have n5 := hT.2.2.2.2.2.1
  apply t_Mo_allEstates hR
  rw [hM.2.2.2.1, (sp_all1 (st_ne T) (by omega)).1]
  exact hQ
theorem c_Mo_votesAll (hR : ow_RF R) (hM : sp_mt I T) (hT : st_ok T) (hQ : Q (some (.int (nI (sp_vt (st_de T) (st_ne T))))) (85, I, J, R)) : ow_AM M_Mo_votesOf (d + 2) [.ref 70, .int (nI (2 ^ st_ne T - 1))] (85, I, J, R) Q := by
  have p5 := sp_p5 hT.2.2.2.2.2.1
  refine c_Mo_votesOf hR hM hT (by omega) ?_
  rw [sp_vs_all _ (Nat.le_refl _)]
  exact hQ
theorem c_Mo_powerL {e : Nat} {y : Int32} (hR : ow_RF R) (hM : sp_mt I T) (hT : st_ok T) (he : e < st_ne T) (hQ : Q (some (.long (lN ((if y = 0 then sp_sw (st_de T) (st_ne T) e (2 ^ st_ne T) else 2 ^ (st_ne T - 1)) / Nat.gcd (sp_sw (st_de T) (st_ne T) e (2 ^ st_ne T)) (2 ^ (st_ne T - 1)))))) (85, I, J, R)) : ow_AW ow_Y0 (ow_Z Q) M_Mo_power (d + 4) 0 0 37 [(0, .ref 70), (1, .int (nI e)), (2, .int y), (3, .int (nI (sp_vt (st_de T) (st_ne T)))), (4, .int 0), (5, .int 0), (6, .int 0)] [] (85, I, J, R) 0 0 := by
  have n5 := hT.2.2.2.2.2.1
  have p5 := sp_p5 n5
  have hpos : 0 < 2 ^ st_ne T := Nat.pow_pos (by decide)
  have hde : ∀ e, e < st_ne T → st_de T e < 100 := fun e he => (hT.2.2.2.2.2.2.1 e he).2
  have ho := sp_ot_n (st_ne T) (by omega) e he
  refine sp_up (σ := Unit) (N := 2 ^ st_ne T) (G := fun i _ => ow_AW ow_Y0 (ow_Z Q) M_Mo_power (d + 4) 0 0 37 [(0, .ref 70), (1, .int (nI e)), (2, .int y), (3, .int (nI (sp_vt (st_de T) (st_ne T)))), (4, .int (nI (sp_ot e i))), (5, .int (nI (sp_sw (st_de T) (st_ne T) e i))), (6, .int (nI i))] [] (85, I, J, R) 0 0) (Inv := fun _ _ => True) ?_ ?_ 0 () (Nat.zero_le _) trivial
  · intro _ _
    apply t_Mo_power_37 hR
    refine c_Mo_allEstates hR hM hT ⟨_, I, J, R, rfl, rfl, hR, ?_⟩
    refine ⟨fun _ => ?_, fun c => absurd (nI_lt (by omega) (by omega)) c⟩
    have o1 := sp_sw_ot (de := st_de T) (n := st_ne T) (e := e) (2 ^ st_ne T)
    have o2 := sp_ot_le (e := e) (2 ^ st_ne T)
    rw [ho] at o1 o2 ⊢
    have hp1 : 0 < 2 ^ (st_ne T - 1) := Nat.pow_pos (by decide)
    rw [nI_l (by omega), nI_l (by omega)]
    exact c_Mo_lowest hR hp1 o1 (by omega) ⟨_, I, J, R, rfl, rfl, hR, hQ⟩
  · intro i _ hi _ ih
    have K := ih () trivial
    rw [sp_sw, sp_ot] at K
    have h64 : i < 64 := by omega
    apply t_Mo_power_37 hR
    refine c_Mo_allEstates hR hM hT ⟨_, I, J, R, rfl, rfl, hR, ?_⟩
    refine ⟨fun c => absurd c (nI_nlt (by omega) (by omega)), fun _ => ?_⟩
    refine c_Mo_hasBit hR h64 (by omega) ⟨_, I, J, R, rfl, rfl, hR, ?_⟩
    rw [(sp_or i h64 e (by omega)).1, nI_1, nI_1, nI_1]
    cases hb : i.testBit e with
    | true =>
      rw [hb, if_pos rfl, if_pos rfl] at K
      exact ⟨fun c => absurd c (by decide), fun _ => K⟩
    | false =>
      rw [hb, if_neg (by decide), if_neg (by decide)] at K
      refine ⟨fun _ => ?_, fun c => absurd rfl c⟩
      obtain ⟨b1, b2⟩ := sp_vs_le (m := i) hde _ (Nat.le_refl _)
      obtain ⟨b3, b4⟩ := sp_vs_le (m := i ||| 2 ^ e) hde _ (Nat.le_refl _)
      refine c_Mo_votesOf hR hM hT h64 ⟨_, I, J, R, rfl, rfl, hR, ?_⟩
      rw [show (2 : Int32) * nI (sp_vs (st_de T) i (st_ne T)) = nI (2 * sp_vs (st_de T) i (st_ne T)) from pk_mul 2 _, nI_ltI (b := 2 * sp_vs (st_de T) i (st_ne T)) (by omega) (by omega)]
      rw [show nI (sp_sw (st_de T) (st_ne T) e i) + 0 = nI (sp_sw (st_de T) (st_ne T) e i) from nI_add _ 0]
      refine ⟨fun c => ?_, fun c => ?_⟩
      · have hk : sp_hm (st_de T) (st_ne T) i = true := decide_eq_true c
        rw [if_pos hk] at K
        exact K
      · have hk : ¬ sp_hm (st_de T) (st_ne T) i = true := fun q => c (of_decide_eq_true q)
        rw [if_neg hk] at K
        refine c_Mo_votesOf hR hM hT (sp_or i h64 e (by omega)).2 ⟨_, I, J, R, rfl, rfl, hR, ?_⟩
        rw [show (2 : Int32) * nI (sp_vs (st_de T) (i ||| 2 ^ e) (st_ne T)) = nI (2 * sp_vs (st_de T) (i ||| 2 ^ e) (st_ne T)) from pk_mul 2 _, nI_leI (a := 2 * sp_vs (st_de T) (i ||| 2 ^ e) (st_ne T)) (by omega) (by omega)]
        refine ⟨fun c2 => ?_, fun c2 => ?_⟩
        · have hk2 : ¬ sp_hm (st_de T) (st_ne T) (i ||| 2 ^ e) = true := fun q => by have := of_decide_eq_true q; omega
          rw [if_neg hk2] at K
          exact K
        · have hk2 : sp_hm (st_de T) (st_ne T) (i ||| 2 ^ e) = true := decide_eq_true (by omega)
          rw [if_pos hk2] at K
          exact K
theorem c_Mo_ruleL (hR : ow_RF R) (hM : sp_mt I T) (hT : st_ok T) (hQ : Q (some (.int (sp_on (sp_mn (sp_hm (st_de T) (st_ne T)) (2 ^ st_ne T))))) (85, I, J, R)) : ow_AW ow_Y0 (ow_Z Q) M_Mo_rule (d + 4) 0 0 22 [(0, .ref 70), (1, .int (-2)), (2, .int 0)] [] (85, I, J, R) 0 0 := by
  have n5 := hT.2.2.2.2.2.1
  have p5 := sp_p5 n5
  have hpos : 0 < 2 ^ st_ne T := Nat.pow_pos (by decide)
  have hde : ∀ e, e < st_ne T → st_de T e < 100 := fun e he => (hT.2.2.2.2.2.2.1 e he).2
  refine sp_up (σ := Unit) (N := 2 ^ st_ne T) (G := fun i _ => ow_AW ow_Y0 (ow_Z Q) M_Mo_rule (d + 4) 0 0 22 [(0, .ref 70), (1, .int (sp_on (sp_mn (sp_hm (st_de T) (st_ne T)) i))), (2, .int (nI i))] [] (85, I, J, R) 0 0) (Inv := fun _ _ => True) ?_ ?_ 0 () (Nat.zero_le _) trivial
  · intro _ _
    apply t_Mo_rule_22 hR
    refine c_Mo_allEstates hR hM hT ⟨_, I, J, R, rfl, rfl, hR, ?_⟩
    exact ⟨fun _ => hQ, fun c => absurd (nI_lt (by omega) (by omega)) c⟩
  · intro i _ hi _ ih
    have K := ih () trivial
    rw [sp_mn] at K
    obtain ⟨b1, b2⟩ := sp_vs_le (m := i) hde _ (Nat.le_refl _)
    have l1 := sp_pc_le5 i (by omega)
    apply t_Mo_rule_22 hR
    refine c_Mo_allEstates hR hM hT ⟨_, I, J, R, rfl, rfl, hR, ?_⟩
    refine ⟨fun c => absurd c (nI_nlt (by omega) (by omega)), fun _ => ?_⟩
    refine c_Mo_votesOf hR hM hT (by omega) ⟨_, I, J, R, rfl, rfl, hR, ?_⟩
    refine c_Mo_allEstates hR hM hT ⟨_, I, J, R, rfl, rfl, hR, ?_⟩
    refine c_Mo_votesAll hR hM hT ⟨_, I, J, R, rfl, rfl, hR, ?_⟩
    rw [show (2 : Int32) * nI (sp_vs (st_de T) i (st_ne T)) = nI (2 * sp_vs (st_de T) i (st_ne T)) from pk_mul 2 _, nI_leI (a := 2 * sp_vs (st_de T) i (st_ne T)) (by omega) (by omega), nI_1]
    refine ⟨fun c => ?_, fun c => ?_⟩
    · have hk : ¬ sp_hm (st_de T) (st_ne T) i = true := fun q => by have := of_decide_eq_true q; omega
      cases hm : sp_mn (sp_hm (st_de T) (st_ne T)) i with
      | none =>
        rw [hm] at K
        dsimp only at K
        rw [if_neg hk] at K
        exact K
      | some b =>
        rw [hm] at K
        dsimp only at K
        rw [if_neg (fun q => hk q.2)] at K
        exact K
    · have hk : sp_hm (st_de T) (st_ne T) i = true := decide_eq_true (by omega)
      cases hm : sp_mn (sp_hm (st_de T) (st_ne T)) i with
      | none =>
        rw [hm] at K
        dsimp only at K
        rw [if_pos hk] at K
        exact ⟨fun _ => K, fun c => absurd (show sp_on none < 0 by decide) c⟩
      | some b =>
        have hb := (sp_mn_lt _ b hm).1
        have l2 := sp_pc_le5 b (by omega)
        rw [hm] at K
        dsimp only at K
        refine ⟨fun c => absurd c (nI_pos (by omega)), fun _ => ?_⟩
        refine c_Mo_ones hR (by omega) ⟨_, I, J, R, rfl, rfl, hR, ?_⟩
        refine c_Mo_ones (m := b) hR (by omega) ⟨_, I, J, R, rfl, rfl, hR, ?_⟩
        rw [nI_leI (a := sp_pc b) (by omega) (by omega)]
        refine ⟨fun c => ?_, fun c => ?_⟩
        · rw [if_neg (fun q => by omega)] at K
          exact K
        · rw [if_pos ⟨by omega, hk⟩] at K
          exact K
end VOTES
section PUB58
variable {d : Nat} {I : Nat → Nat → Int32} {R : Nat → Nat → Option Nat} {T : sp_T} {V : sp_V}
theorem rc_power {e : Nat} {y : Int32} (hR : ow_RF R) (hC : sp_CN I T V) (hT : st_ok T) (hV : st_now T V) (he : e < st_ne T) : sp_rc M_Fs_power (d + 12) [.ref 0, .int (nI e), .int y] I R (some (.long (lN ((if y = 0 then sp_sw (st_de T) (st_ne T) e (2 ^ st_ne T) else 2 ^ (st_ne T - 1)) / Nat.gcd (sp_sw (st_de T) (st_ne T) e (2 ^ st_ne T)) (2 ^ (st_ne T - 1)))))) 0 := by
  intro J Q hQ
  apply t_Fs_power hR
  refine c_Fs_lacksEstate hR hC.1 hC.2.1.2.2.1 (by have := hT.2.2.2.2.2.1; omega) ?_
  intro I2 g0 g1
  have hx : sp_is (nI e) (st_ne T) = true := decide_eq_true (by have := hT.2.2.2.2.2.1; rw [nI_toInt (by omega)]; omega)
  rw [hx] at g1 ⊢
  have hC2 := sp_CN_k hC (sp_cm g0)
  refine ⟨_, I2, J, R, rfl, rfl, hR, ?_⟩
  first | refine ⟨fun _ => ?_, fun c => absurd rfl c⟩ | refine ⟨fun c => absurd rfl c, fun _ => ?_⟩
  have n5 := hT.2.2.2.2.2.1
  have p5 := sp_p5 n5
  refine c_Votes_countSwung hR hC2.2.1 hT (by omega) ⟨_, I2, J, R, rfl, rfl, hR, ?_⟩
  refine c_Votes_sets hR hC2.2.1 hT (by omega) ⟨_, I2, J, R, rfl, rfl, hR, ?_⟩
  have o1 := sp_sw_ot (de := st_de T) (n := st_ne T) (e := e) (2 ^ st_ne T)
  have o2 := sp_ot_le (e := e) (2 ^ st_ne T)
  rw [sp_ot_n (st_ne T) (by omega) e he] at o1 o2
  have hp1 : 0 < 2 ^ (st_ne T - 1) := Nat.pow_pos (by decide)
  have hp2 : 2 ^ (st_ne T - 1) * sp_sw (st_de T) (st_ne T) e (2 ^ st_ne T) ≤ 32 * 32 := Nat.mul_le_mul (by omega) (by omega)
  rw [nI_l (by omega), nI_l (by omega)]
  exact c_Fs_inLowestTerms hR hp1 o1 (by omega) (by omega) ⟨_, I2, J, R, rfl, rfl, hR, hQ I2 J (sp_cm g0) g1⟩
theorem rm_power {e : Nat} {y : Int32} (hR : ow_RF R) (hM : sp_MN I T V) (hT : st_ok T) (hV : st_now T V) (he : e < st_ne T) : sp_rm M_Mo_power (d + 12) [.ref 70, .int (nI e), .int y] I R (some (.long (lN ((if y = 0 then sp_sw (st_de T) (st_ne T) e (2 ^ st_ne T) else 2 ^ (st_ne T - 1)) / Nat.gcd (sp_sw (st_de T) (st_ne T) e (2 ^ st_ne T)) (2 ^ (st_ne T - 1)))))) 0 := by
  intro J Q hQ
  apply t_Mo_power hR
  refine c_Mo_good hR ?_
  intro I2 g0 g1 g2
  refine ⟨I2, J, R, rfl, rfl, hR, ?_⟩
  have h2 := sp_MN_k hM (sp_mm g0)
  have hx : sp_is (nI e) (st_ne T) = true := decide_eq_true (by have := hT.2.2.2.2.2.1; rw [nI_toInt (by omega)]; omega)
  refine c_Mo_isEstate hR h2.1 h2.2.1.2.2.2.1 (by have := hT.2.2.2.2.2.1; omega) ?_
  rw [hx]
  refine ⟨_, I2, J, R, rfl, rfl, hR, ?_⟩
  first | refine ⟨fun _ => ?_, fun c => absurd c (by decide)⟩ | refine ⟨fun c => absurd c (by decide), fun _ => ?_⟩
  refine c_Mo_allEstates hR h2.2.1 hT ⟨_, I2, J, R, rfl, rfl, hR, ?_⟩
  refine c_Mo_votesAll hR h2.2.1 hT ⟨_, I2, J, R, rfl, rfl, hR, ?_⟩
  exact c_Mo_powerL hR h2.2.1 hT he (hQ I2 J (sp_mm g0) g2)
theorem rc_power_no {x y : Int32} (hR : ow_RF R) (hC : sp_CN I T V) (hT : st_ok T) (hV : st_now T V) (hx : sp_is x (st_ne T) = false) : sp_rc M_Fs_power (d + 12) [.ref 0, .int x, .int y] I R (some (.long (-1))) 1 := by
  intro J Q hQ
  apply t_Fs_power hR
  refine c_Fs_lacksEstate hR hC.1 hC.2.1.2.2.1 (by have := hT.2.2.2.2.2.1; omega) ?_
  intro I2 g0 g1
  rw [hx] at g1 ⊢
  refine ⟨_, I2, J, R, rfl, rfl, hR, ?_⟩
  first | exact ⟨fun c => absurd c (by decide), fun _ => hQ I2 J (sp_cm g0) g1⟩ | exact ⟨fun _ => hQ I2 J (sp_cm g0) g1, fun c => absurd c (by decide)⟩
theorem rm_power_no {x y : Int32} (hR : ow_RF R) (hM : sp_MN I T V) (hT : st_ok T) (hV : st_now T V) (hx : sp_is x (st_ne T) = false) : sp_rm M_Mo_power (d + 12) [.ref 70, .int x, .int y] I R (some (.long (-1))) 1 := by
  intro J Q hQ
  apply t_Mo_power hR
  refine c_Mo_good hR ?_
  intro I2 g0 g1 g2
  refine ⟨I2, J, R, rfl, rfl, hR, ?_⟩
  have h2 := sp_MN_k hM (sp_mm g0)
  refine c_Mo_isEstate hR h2.1 h2.2.1.2.2.2.1 (by have := hT.2.2.2.2.2.1; omega) ?_
  rw [hx]
  refine ⟨_, I2, J, R, rfl, rfl, hR, ?_⟩
  first | refine ⟨fun _ => ?_, fun c => absurd rfl c⟩ | refine ⟨fun c => absurd rfl c, fun _ => ?_⟩
  refine c_Mo_no hR ?_
  intro I3 g3 g4
  exact ⟨_, I3, J, R, rfl, rfl, hR, hQ I3 J (sp_fr_tr (sp_mm g0) (sp_mm1 g3)) g4⟩
theorem rc_rule  (hR : ow_RF R) (hC : sp_CN I T V) (hT : st_ok T) (hV : st_now T V)  : sp_rc M_Fs_rule (d + 12) [.ref 0] I R (some (.int (sp_on (sp_mn (sp_hm (st_de T) (st_ne T)) (2 ^ st_ne T))))) 0 := by
  intro J Q hQ
  apply t_Fs_rule hR
  refine c_Fs_lacksShire hR hC.1 ?_
  intro I2 g0 g1
  have hC2 := sp_CN_k hC (sp_cm g0)
  refine ⟨_, I2, J, R, rfl, rfl, hR, ?_⟩
  first | refine ⟨fun _ => ?_, fun c => absurd rfl c⟩ | refine ⟨fun c => absurd rfl c, fun _ => ?_⟩
  exact c_Votes_fewestRuling hR hC2.2.1 hT ⟨_, I2, J, R, rfl, rfl, hR, hQ I2 J (sp_cm g0) g1⟩
theorem rm_rule  (hR : ow_RF R) (hM : sp_MN I T V) (hT : st_ok T) (hV : st_now T V)  : sp_rm M_Mo_rule (d + 12) [.ref 70] I R (some (.int (sp_on (sp_mn (sp_hm (st_de T) (st_ne T)) (2 ^ st_ne T))))) 0 := by
  intro J Q hQ
  apply t_Mo_rule hR
  refine c_Mo_good hR ?_
  intro I2 g0 g1 g2
  refine ⟨I2, J, R, rfl, rfl, hR, ?_⟩
  have h2 := sp_MN_k hM (sp_mm g0)
  rw [h2.1]
  first | refine ⟨fun _ => ?_, fun c => absurd c (by decide)⟩ | refine ⟨fun c => absurd c (by decide), fun _ => ?_⟩
  exact c_Mo_ruleL hR h2.2.1 hT (hQ I2 J (sp_mm g0) g2)
end PUB58
