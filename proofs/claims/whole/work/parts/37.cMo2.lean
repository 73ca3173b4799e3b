/-! Own rows: what letters serve, by the reference. -/
/-- estates below k of the folly g, as bits -/
def sp_em (ef : Nat → Nat) (g : Nat) : Nat → Nat
  | 0 => 0
  | e + 1 => if ef e = g then sp_em ef g e ||| 2 ^ e else sp_em ef g e
theorem sp_em_lt {ef : Nat → Nat} {g : Nat} : ∀ k, k ≤ 5 → sp_em ef g k < 32 := by
  intro k
  induction k with
  | zero => intro _; exact (by decide : 0 < 32)
  | succ k ih =>
    intro hk
    rw [sp_em]
    by_cases h : ef k = g
    · rw [if_pos h]
      show _ < 2 ^ 5
      exact Nat.or_lt_two_pow (ih (by omega)) (Nat.pow_lt_pow_right (by decide) (by omega))
    · rw [if_neg h]
      exact ih (by omega)
theorem sp_or0 : ∀ m, m < 64 → nI m ||| 0 = nI m := by decide +kernel
/-- the told things as the reference holds them: how many follies, estates, whose they are -/
def sp_MT (I : Nat → Nat → Int32) (V : sp_V) (ne : Nat) (ef : Nat → Nat) : Prop := I 73 2 = nI (sp_n V) ∧ I 73 3 = nI ne ∧ ne ≤ 5 ∧ ∀ e, e < ne → I 73 (19 + 2 * e) = nI (ef e) ∧ ef e < sp_n V
theorem sp_MT_k {I I2 : Nat → Nat → Int32} {V : sp_V} {ne : Nat} {ef : Nat → Nat} (h : sp_MT I V ne ef) (h1 : I2 73 = I 73) : sp_MT I2 V ne ef := by
  unfold sp_MT at h ⊢
  rw [h1]
  exact h
theorem sp_ix {a b c : Nat} : nI a + nI b * nI c = nI (a + b * c) := by rw [pk_mul, nI_add]
theorem c_Mo_estatesOf {d : Nat} {I : Nat → Nat → Int32} {J : Nat → Nat → Int64} {R : Nat → Nat → Option Nat} {Q : Option Value → ow_H → Prop} {g ne : Nat} {V : sp_V} {ef : Nat → Nat} (hR : ow_RF R) (hT : sp_MT I V ne ef) (hg : g < 6) (hn6 : sp_n V ≤ 6) (hQ : Q (some (.int (nI (sp_em ef g ne)))) (85, I, J, R)) : ow_AM M_Mo_estatesOf (d + 1) [.ref 70, .int (nI g)] (85, I, J, R) Q := by
  obtain ⟨t1, t2, t3, t4⟩ := hT
  apply t_Mo_estatesOf hR
  refine sp_up (σ := Unit) (N := ne) (G := fun i _ => ow_AW ow_Y0 (ow_Z Q) M_Mo_estatesOf (d + 1) 0 0 4 [(0, .ref 70), (1, .int (nI g)), (2, .int (nI (sp_em ef g i))), (3, .int (nI i))] [] (85, I, J, R) 0 0) (Inv := fun _ _ => True) ?_ ?_ 0 () (Nat.zero_le _) trivial
  · intro _ _
    apply t_Mo_estatesOf_4 hR
    rw [t2]
    exact ⟨fun _ => hQ, fun c => absurd (Int32.le_refl _) c⟩
  · intro i _ hi _ ih
    have K := ih () trivial
    rw [sp_em] at K
    have hm := Nat.lt_trans (sp_em_lt (ef := ef) (g := g) i (by omega)) (by decide : 32 < 64)
    apply t_Mo_estatesOf_4 hR
    rw [t2, show (19 : Int32) + 2 * nI i = nI (19 + 2 * i) from sp_ix, sp_cl (by omega), (t4 i hi).1, nI_1, (sp_or _ hm i (by omega)).1, sp_or0 _ hm]
    refine ⟨fun c => absurd c (nI_ge hi (by omega)), fun _ => ⟨vp_in_nI (by omega) (by decide), fun c => ?_, fun c => ?_⟩⟩
    · rw [if_neg (fun h => c (by rw [h]))] at K
      exact K
    · rw [if_pos ((nI_eq (by have := (t4 i hi).2; omega) (by omega)).mp c)] at K
      exact K
def sp_eo (ne : Nat) (ef : Nat → Nat) (g : Nat) : Nat := sp_em ef g ne
theorem c_Mo_servedBy {d : Nat} {I : Nat → Nat → Int32} {J : Nat → Nat → Int64} {R : Nat → Nat → Option Nat} {Q : Option Value → ow_H → Prop} {a l ne : Nat} {V : sp_V} {ef : Nat → Nat} (hR : ow_RF R) (ha : a ∈ [75, 76, 77, 82]) (hS : sp_Mr I a V) (hT : sp_MT I V ne ef) (hV : sp_ok V) (hl : l < 2 * sp_n V)
    (hQ : ∀ I2 : Nat → Nat → Int32, sp_fr [81] [(70, 26), (70, 27), (70, 28), (70, 29)] I I2 → I2 70 27 = nI (sp_gl V l).2.1 → Q (some (.int (nI (sp_sv V (sp_eo ne ef) l)))) (85, I2, J, R)) : ow_AM M_Mo_servedBy (d + 4) [.ref 70, .ref a, .int (nI l)] (85, I, J, R) Q := by
  have hn6 := hV.1
  apply t_Mo_servedBy ha hR
  have hl2 : nI l = nI (2 * (l / 2) + (decide (l % 2 = 1)).toNat) := by
    congr 1
    rcases Nat.mod_two_eq_zero_or_one l with h2 | h2
    · rw [h2]; show l = 2 * (l / 2) + 0; omega
    · rw [h2]; show l = 2 * (l / 2) + 1; omega
  refine c_Mo_goOver hR ha hS hV (f := l / 2) (b := decide (l % 2 = 1)) (by omega) hl2 ?_
  intro I2 g0 g1 g2 g3 g4 g5
  refine ⟨I2, J, R, rfl, rfl, hR, ?_⟩
  have hq := hQ I2 g0 g2
  unfold sp_sv at hq
  have hin := (sp_gl_in hV hl).1
  unfold sp_gl at hq hin
  rw [g3, g4]
  cases hg : (sp_go V 6 0 (l / 2) (decide (l % 2 = 1))).2.2 with
  | none =>
    rw [hg] at hq
    exact ⟨fun _ => hq, fun c => absurd c (by decide)⟩
  | some q =>
    obtain ⟨g, c⟩ := q
    rw [hg] at hq
    have hgl := hin g c hg
    cases c with
    | false => exact ⟨fun _ => hq, fun c => absurd c (show ¬ sp_jb false = 1 by decide)⟩
    | true =>
      refine ⟨fun c => absurd rfl c, fun _ => ?_⟩
      refine c_Mo_estatesOf hR (sp_MT_k hT (sp_fr_row g0 (by decide) (by simp))) (by omega) hn6 ?_
      exact ⟨_, I2, J, R, rfl, rfl, hR, hq⟩
theorem sp_eo_ok {V : sp_V} {ne : Nat} {ef : Nat → Nat} (h : ne ≤ 5) : sp_eok V (sp_eo ne ef) := fun _ _ => sp_em_lt ne h
theorem c_Mo_servedOn {d : Nat} {I : Nat → Nat → Int32} {J : Nat → Nat → Int64} {R : Nat → Nat → Option Nat} {Q : Option Value → ow_H → Prop} {a ne : Nat} {V : sp_V} {ef : Nat → Nat} (hR : ow_RF R) (ha : a ∈ [75, 76, 77, 82]) (hS : sp_Mr I a V) (hT : sp_MT I V ne ef) (hV : sp_ok V)
    (hQ : ∀ I2 : Nat → Nat → Int32, sp_fr [81] [(70, 26), (70, 27), (70, 28), (70, 29)] I I2 → Q (some (.int (nI (sp_all V (sp_eo ne ef) (2 * sp_n V))))) (85, I2, J, R)) : ow_AM M_Mo_servedOn (d + 5) [.ref 70, .ref a] (85, I, J, R) Q := by
  have hn6 := hV.1
  have hO : sp_eok V (sp_eo ne ef) := sp_eo_ok hT.2.2.1
  obtain ⟨n71, n82, n81, n74⟩ := sp_rwne a ha
  apply t_Mo_servedOn ha hR
  refine sp_up (N := 2 * sp_n V) (G := fun i I1 => ow_AW ow_Y0 (ow_Z Q) M_Mo_servedOn (d + 5) 0 0 4 [(0, .ref 70), (1, .ref a), (2, .int (nI (sp_all V (sp_eo ne ef) i))), (3, .int (nI i))] [] (85, I1, J, R) 0 0) (Inv := fun _ I1 => sp_fr [81] [(70, 26), (70, 27), (70, 28), (70, 29)] I I1) ?_ ?_ 0 I (Nat.zero_le _) sp_fr_rf
  · intro I1 he
    have hT1 := sp_MT_k hT (sp_fr_row he (by decide) (by simp))
    apply t_Mo_servedOn_4 ha hR
    rw [hT1.1, sp_2n]
    exact ⟨fun _ => hQ I1 he, fun c => absurd (Int32.le_refl _) c⟩
  · intro i I1 hi he ih
    have hT1 := sp_MT_k hT (sp_fr_row he (by decide) (by simp))
    have hS1 := sp_Mr_keep hS (sp_fr_row he (by simp [n82]) (by simp [n71])) (sp_fr_row he (by decide) (by simp))
    apply t_Mo_servedOn_4 ha hR
    rw [hT1.1, sp_2n]
    refine ⟨fun c => absurd c (nI_ge hi (by omega)), fun _ => ?_⟩
    refine c_Mo_servedBy hR ha hS1 hT1 hV hi ?_
    intro I2 g0 _
    refine ⟨_, I2, J, R, rfl, rfl, hR, ?_⟩
    rw [(sp_or2 _ (Nat.lt_trans (sp_all_lt hV hO i (by omega)) (by decide)) _ (Nat.lt_trans (sp_sv_lt hV hO hi) (by decide))).1, nI_1]
    exact ih I2 (sp_fr_tr he g0)
theorem sp_ones : ∀ m, m < 64 → ∀ k, k < 12 → ((nI m >>> (nI k &&& 31)) &&& 1 = nI (m / 2 ^ k % 2)) := by decide +kernel
def sp_on12 (m : Nat) : Nat → Nat
  | 0 => 0
  | k + 1 => sp_on12 m k + m / 2 ^ k % 2
theorem sp_on12_pc : ∀ m, m < 64 → sp_on12 m 12 = sp_pc m := by decide +kernel
theorem c_Mo_ones {d : Nat} {I : Nat → Nat → Int32} {J : Nat → Nat → Int64} {R : Nat → Nat → Option Nat} {Q : Option Value → ow_H → Prop} {m : Nat} (hR : ow_RF R) (hm : m < 64) (hQ : Q (some (.int (nI (sp_pc m)))) (85, I, J, R)) : ow_AM M_Mo_ones (d + 1) [.int (nI m)] (85, I, J, R) Q := by
  apply t_Mo_ones hR
  refine sp_up (σ := Unit) (N := 12) (G := fun i _ => ow_AW ow_Y0 (ow_Z Q) M_Mo_ones (d + 1) 0 0 4 [(0, .int (nI m)), (1, .int (nI (sp_on12 m i))), (2, .int (nI i))] [] (85, I, J, R) 0 0) (Inv := fun _ _ => True) ?_ ?_ 0 () (Nat.zero_le _) trivial
  · intro _ _
    apply t_Mo_ones_4 hR
    rw [sp_on12_pc m hm]
    exact ⟨fun _ => hQ, fun c => absurd (by decide) c⟩
  · intro i _ hi _ ih
    have K := ih () trivial
    rw [sp_on12] at K
    apply t_Mo_ones_4 hR
    rw [sp_ones m hm i hi, nI_add, nI_1]
    exact ⟨fun c => absurd c (nI_ge (b := 12) hi (by decide)), fun _ => K⟩
theorem c_Mo_lettersFor {d : Nat} {I : Nat → Nat → Int32} {J : Nat → Nat → Int64} {R : Nat → Nat → Option Nat} {Q : Option Value → ow_H → Prop} {e ne : Nat} {V : sp_V} {ef : Nat → Nat} (hR : ow_RF R) (hS : sp_Mr I 77 V) (hT : sp_MT I V ne ef) (hV : sp_ok V) (he5 : e < 6)
    (hQ : ∀ I2 : Nat → Nat → Int32, sp_fr [81] [(70, 26), (70, 27), (70, 28), (70, 29)] I I2 → Q (some (.int (sp_lt V (sp_eo ne ef) e (2 * sp_n V)))) (85, I2, J, R)) : ow_AM M_Mo_lettersFor (d + 5) [.ref 70, .int (nI e)] (85, I, J, R) Q := by
  have hn6 := hV.1
  have hO : sp_eok V (sp_eo ne ef) := sp_eo_ok hT.2.2.1
  apply t_Mo_lettersFor hR
  refine sp_up (N := 2 * sp_n V) (G := fun i I1 => ow_AW ow_Y0 (ow_Z Q) M_Mo_lettersFor (d + 5) 0 0 4 [(0, .ref 70), (1, .int (nI e)), (2, .int (sp_lt V (sp_eo ne ef) e i)), (3, .int (nI i))] [] (85, I1, J, R) 0 0) (Inv := fun _ I1 => sp_fr [81] [(70, 26), (70, 27), (70, 28), (70, 29)] I I1) ?_ ?_ 0 I (Nat.zero_le _) sp_fr_rf
  · intro I1 he
    have hT1 := sp_MT_k hT (sp_fr_row he (by decide) (by simp))
    apply t_Mo_lettersFor_4 hR
    rw [hT1.1, sp_2n]
    exact ⟨fun _ => hQ I1 he, fun c => absurd (Int32.le_refl _) c⟩
  · intro i I1 hi he ih
    have hT1 := sp_MT_k hT (sp_fr_row he (by decide) (by simp))
    have hS1 := sp_Mr_keep hS (sp_fr_row he (by decide) (by simp)) (sp_fr_row he (by decide) (by simp))
    apply t_Mo_lettersFor_4 hR
    rw [hT1.1, sp_2n]
    refine ⟨fun c => absurd c (nI_ge hi (by omega)), fun _ => ?_⟩
    refine c_Mo_servedBy hR (by decide) hS1 hT1 hV hi ?_
    intro I2 g0 _
    refine ⟨_, I2, J, R, rfl, rfl, hR, ?_⟩
    refine c_Mo_hasBit hR (Nat.lt_trans (sp_sv_lt hV hO hi) (by decide)) he5 ⟨_, I2, J, R, rfl, rfl, hR, ?_⟩
    have K := ih I2 (sp_fr_tr he g0)
    rw [sp_lt] at K
    rw [nI_1, Int32.or_zero]
    cases hb : (sp_sv V (sp_eo ne ef) i).testBit e with
    | true =>
      rw [if_pos hb] at K
      exact ⟨fun c => absurd c (by decide), fun _ => K⟩
    | false =>
      rw [if_neg (by rw [hb]; decide)] at K
      exact ⟨fun _ => K, fun c => absurd rfl c⟩
