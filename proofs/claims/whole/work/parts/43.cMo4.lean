/-! Own rows: loops of the reference over what is served. -/
def sp_gS : List Nat := [81, 82, 83]
def sp_gE : List (Nat × Nat) := [(70, 26), (70, 27), (70, 28), (70, 29), (70, 30), (70, 32), (70, 33), (70, 35), (70, 36), (70, 40)]
theorem sp_g1 {I I2 : Nat → Nat → Int32} (h : sp_fr [81] [(70, 26), (70, 27), (70, 28), (70, 29)] I I2) : sp_fr sp_gS sp_gE I I2 := sp_fr_mono h (by decide) (by decide)
theorem sp_g2 {I I2 : Nat → Nat → Int32} (h : sp_fr [81, 82] [(70, 26), (70, 27), (70, 28), (70, 29)] I I2) : sp_fr sp_gS sp_gE I I2 := sp_fr_mono h (by decide) (by decide)
theorem sp_gm {I I2 : Nat → Nat → Int32} (h : sp_fr sp_gS sp_gE I I2) : sp_fr sp_mS sp_mE I I2 := sp_fr_mono h (by decide) (by decide)
theorem sp_gr {I I2 : Nat → Nat → Int32} (h : sp_fr sp_gS sp_gE I I2) {a : Nat} (h1 : a ∉ sp_gS) (h2 : a ≠ 70) : I2 a = I a := sp_fr_row h h1 (fun k q => by
  have : ∀ z ∈ sp_gE, z.1 = 70 := by decide
  exact h2 (this _ q))
/-- the reference's row now, the shapes laid, what is told of estates -/
def sp_MB (I : Nat → Nat → Int32) (V : sp_V) (ne : Nat) (ef : Nat → Nat) : Prop := sp_Mw I 77 V ∧ sp_Mh I V ∧ sp_MT I V ne ef
theorem sp_MB_k {I I2 : Nat → Nat → Int32} {V : sp_V} {ne : Nat} {ef : Nat → Nat} (h : sp_MB I V ne ef) (hf : sp_fr sp_gS sp_gE I I2) : sp_MB I2 V ne ef := ⟨sp_Mw_k h.1 (sp_gr hf (by decide) (by decide)), sp_Mh_k h.2.1 (sp_gr hf (by decide) (by decide)), sp_MT_k h.2.2 (sp_gr hf (by decide) (by decide))⟩
theorem sp_MB_r {I : Nat → Nat → Int32} {V : sp_V} {ne : Nat} {ef : Nat → Nat} (h : sp_MB I V ne ef) : sp_Mr I 77 V := sp_Mr_of h.1 h.2.1
theorem sp_pc_le5 : ∀ m, m < 32 → sp_pc m ≤ 5 := by decide +kernel
section MO4
variable {d : Nat} {I : Nat → Nat → Int32} {J : Nat → Nat → Int64} {R : Nat → Nat → Option Nat} {Q : Option Value → ow_H → Prop} {V : sp_V} {ne : Nat} {ef : Nat → Nat}
theorem c_Mo_bestFor {e : Nat} (hR : ow_RF R) (hB : sp_MB I V ne ef) (hV : sp_ok V) (he5 : e < 6)
    (hQ : ∀ I2 : Nat → Nat → Int32, sp_fr sp_gS sp_gE I I2 → I2 70 30 = sp_o2 (sp_be V (sp_eo ne ef) e (2 * sp_n V)) → Q (some (.int (sp_o1 (sp_be V (sp_eo ne ef) e (2 * sp_n V))))) (85, I2, J, R)) : ow_AM M_Mo_bestFor (d + 5) [.ref 70, .int (nI e)] (85, I, J, R) Q := by
  have hn6 := hV.1
  have hO : sp_eok V (sp_eo ne ef) := sp_eo_ok hB.2.2.2.2.1
  apply t_Mo_bestFor hR
  intro I0 e0
  refine sp_up (N := 2 * sp_n V) (G := fun i I1 => ow_AW ow_Y0 (ow_Z Q) M_Mo_bestFor (d + 5) 0 0 11 [(0, .ref 70), (1, .int (nI e)), (2, .int (sp_o1 (sp_be V (sp_eo ne ef) e i))), (3, .int (nI i))] [] (85, I1, J, R) 0 0) (Inv := fun i I1 => sp_fr sp_gS sp_gE I I1 ∧ I1 70 30 = sp_o2 (sp_be V (sp_eo ne ef) e i)) ?_ ?_ 0 I0 (Nat.zero_le _) ⟨sp_fr_ue e0 (by decide), by rw [e0, ow_u_at]; rfl⟩
  · intro I1 ⟨he, x⟩
    have hB1 := sp_MB_k hB he
    apply t_Mo_bestFor_11 hR
    rw [hB1.2.2.1, sp_2n]
    exact ⟨fun _ => hQ I1 he x, fun c => absurd (Int32.le_refl _) c⟩
  · intro i I1 hi ⟨he, x⟩ ih
    have hB1 := sp_MB_k hB he
    apply t_Mo_bestFor_11 hR
    rw [hB1.2.2.1, sp_2n]
    refine ⟨fun c => absurd c (nI_ge hi (by omega)), fun _ => ?_⟩
    refine c_Mo_servedBy hR (by decide) (sp_MB_r hB1) hB1.2.2 hV hi ?_
    intro I2 g0 g2
    refine ⟨_, I2, J, R, rfl, rfl, hR, ?_⟩
    have he2 : sp_fr sp_gS sp_gE I I2 := sp_fr_tr he (sp_g1 g0)
    have y : I2 70 30 = sp_o2 (sp_be V (sp_eo ne ef) e i) := by rw [g0 70 (by decide) 30 (by decide)]; exact x
    have hi6 := (sp_gl_in hV hi).2.2.2
    refine c_Mo_hasBit hR (Nat.lt_trans (sp_sv_lt hV hO hi) (by decide)) he5 ⟨_, I2, J, R, rfl, rfl, hR, ?_⟩
    rw [g2, y, nI_1]
    have hst : ∀ I5 : Nat → Nat → Int32, I5 = ow_u I2 70 30 (nI (sp_gl V i).2.1) → sp_be V (sp_eo ne ef) e (i + 1) = some (i, (sp_gl V i).2.1) → ow_AW ow_Y0 (ow_Z Q) M_Mo_bestFor (d + 5) 0 0 11 [(0, .ref 70), (1, .int (nI e)), (2, .int (nI i)), (3, .int (nI (i + 1)))] [] (85, I5, J, R) 0 0 := by
      intro I5 e5 hbe
      have K := ih I5 ⟨sp_fr_tr he2 (sp_fr_ue e5 (by decide)), by rw [hbe, e5, ow_u_at]; rfl⟩
      rw [hbe] at K
      exact K
    have hkp : sp_be V (sp_eo ne ef) e (i + 1) = sp_be V (sp_eo ne ef) e i → ow_AW ow_Y0 (ow_Z Q) M_Mo_bestFor (d + 5) 0 0 11 [(0, .ref 70), (1, .int (nI e)), (2, .int (sp_o1 (sp_be V (sp_eo ne ef) e i))), (3, .int (nI (i + 1)))] [] (85, I2, J, R) 0 0 := by
      intro hbe
      have K := ih I2 ⟨he2, by rw [hbe]; exact y⟩
      rw [hbe] at K
      exact K
    cases hb : (sp_sv V (sp_eo ne ef) i).testBit e with
    | false =>
      exact ⟨fun _ => hkp (by rw [sp_be, if_neg (by rw [hb]; decide)]), fun c => absurd rfl c⟩
    | true =>
      refine ⟨fun c => absurd c (by decide), fun _ => ?_⟩
      cases hq : sp_be V (sp_eo ne ef) e i with
      | none =>
        exact ⟨fun _ I4 e4 => hst I4 e4 (by rw [sp_be, if_pos hb, hq]), fun c => absurd (show sp_o1 none < 0 by decide) c⟩
      | some q =>
        have hq2 := sp_be_lt hV i (by omega) q hq
        rw [hq] at hkp
        refine ⟨fun c => absurd c (nI_pos (by omega)), fun _ => ⟨fun c I4 e4 => ?_, fun c => ?_⟩⟩
        · have c2 : (sp_gl V i).2.1 < q.2 := (nI_ltI (by omega) (by omega)).mp c
          exact hst I4 e4 (by rw [sp_be, if_pos hb, hq]; dsimp only; rw [if_pos c2])
        · have c2 : ¬ (sp_gl V i).2.1 < q.2 := fun z => c ((nI_ltI (by omega) (by omega)).mpr z)
          exact hkp (by rw [sp_be, if_pos hb, hq]; dsimp only; rw [if_neg c2])
theorem c_Mo_widestL (hR : ow_RF R) (hB : sp_MB I V ne ef) (hV : sp_ok V)
    (hQ : ∀ I2 : Nat → Nat → Int32, sp_fr sp_gS sp_gE I I2 → Q (some (.int (sp_on (sp_wd V (sp_eo ne ef) (2 * sp_n V)).1))) (85, I2, J, R)) : ow_AW ow_Y0 (ow_Z Q) M_Mo_widest (d + 5) 0 0 28 [(0, .ref 70), (1, .int (-2)), (2, .int 0), (3, .int 0)] [] (85, I, J, R) 0 0 := by
  have hn6 := hV.1
  have hO : sp_eok V (sp_eo ne ef) := sp_eo_ok hB.2.2.2.2.1
  refine sp_up (N := 2 * sp_n V) (G := fun i I1 => ow_AW ow_Y0 (ow_Z Q) M_Mo_widest (d + 5) 0 0 28 [(0, .ref 70), (1, .int (sp_on (sp_wd V (sp_eo ne ef) i).1)), (2, .int (nI (sp_wd V (sp_eo ne ef) i).2)), (3, .int (nI i))] [] (85, I1, J, R) 0 0) (Inv := fun _ I1 => sp_fr sp_gS sp_gE I I1) ?_ ?_ 0 I (Nat.zero_le _) sp_fr_rf
  · intro I1 he
    have hB1 := sp_MB_k hB he
    apply t_Mo_widest_28 hR
    rw [hB1.2.2.1, sp_2n]
    exact ⟨fun _ => hQ I1 he, fun c => absurd (Int32.le_refl _) c⟩
  · intro i I1 hi he ih
    have hB1 := sp_MB_k hB he
    apply t_Mo_widest_28 hR
    rw [hB1.2.2.1, sp_2n]
    refine ⟨fun c => absurd c (nI_ge hi (by omega)), fun _ => ?_⟩
    refine c_Mo_servedBy hR (by decide) (sp_MB_r hB1) hB1.2.2 hV hi ?_
    intro I2 g0 g2
    refine ⟨_, I2, J, R, rfl, rfl, hR, ?_⟩
    have hsv := Nat.lt_trans (sp_sv_lt hV hO hi) (show 32 < 64 by decide)
    refine c_Mo_ones hR hsv ⟨_, I2, J, R, rfl, rfl, hR, ?_⟩
    have K := ih I2 (sp_fr_tr he (sp_g1 g0))
    have l1 := sp_pc_le _ hsv
    have l2 := sp_wd_le hV hO i (by omega)
    rw [sp_wd] at K
    rw [nI_1]
    refine ⟨fun c => ?_, fun c => ?_⟩
    · rw [if_pos ((nI_ltI (by omega) (by omega)).mp c)] at K
      exact K
    · rw [if_neg (fun z => c ((nI_ltI (by omega) (by omega)).mpr z))] at K
      exact K
theorem sp_msk : ∀ n, n < 7 → ∀ f, f < 6 → f < n → ((((1 : Int32) <<< (nI n &&& 31)) - 1) ^^^ ((1 : Int32) <<< (nI f &&& 31)) = nI (2 ^ n - 1 - 2 ^ f) ∧ 2 ^ n - 1 - 2 ^ f < 64 ∧ ∀ g, g < 6 → g < n → (2 ^ n - 1 - 2 ^ f).testBit g = decide (g ≠ f)) := by decide +kernel
theorem sp_all1 : ∀ n, n < 7 → (((1 : Int32) <<< (nI n &&& 31)) - 1 = nI (2 ^ n - 1) ∧ 2 ^ n - 1 < 64) := by decide +kernel
theorem c_Mo_allFollies (hR : ow_RF R) {n : Nat} (hn : I 73 2 = nI n) (hQ : Q (some (.int (((1 : Int32) <<< (nI n &&& 31)) - 1))) (85, I, J, R)) : ow_AM M_Mo_allFollies (d + 1) [.ref 70] (85, I, J, R) Q := by
  apply t_Mo_allFollies hR
  rw [hn]
  exact hQ
def sp_plv (V : sp_V) (eo : Nat → Nat) : Nat → Int32 × Int32
  | 0 => (-2, 1000000)
  | f + 1 => (nI (sp_pl V eo (f + 1)).1, nI (sp_pl V eo (f + 1)).2)
theorem c_Mo_pillarL (hR : ow_RF R) (hB : sp_MB I V ne ef) (hV : sp_ok V) (h1 : 1 ≤ sp_n V)
    (hQ : ∀ I2 : Nat → Nat → Int32, sp_fr sp_gS sp_gE I I2 → Q (some (.int (nI (sp_pl V (sp_eo ne ef) (sp_n V)).1))) (85, I2, J, R)) : ow_AW ow_Y0 (ow_Z Q) M_Mo_pillar (d + 7) 0 0 30 [(0, .ref 70), (1, .int (-2)), (2, .int 1000000), (3, .int 0)] [] (85, I, J, R) 0 0 := by
  have hn6 := hV.1
  have hO : sp_eok V (sp_eo ne ef) := sp_eo_ok hB.2.2.2.2.1
  refine sp_up (N := sp_n V) (G := fun i I1 => ow_AW ow_Y0 (ow_Z Q) M_Mo_pillar (d + 7) 0 0 30 [(0, .ref 70), (1, .int (sp_plv V (sp_eo ne ef) i).1), (2, .int (sp_plv V (sp_eo ne ef) i).2), (3, .int (nI i))] [] (85, I1, J, R) 0 0) (Inv := fun _ I1 => sp_fr sp_gS sp_gE I I1) ?_ ?_ 0 I (Nat.zero_le _) sp_fr_rf
  · intro I1 he
    have hB1 := sp_MB_k hB he
    apply t_Mo_pillar_30 hR
    rw [hB1.2.2.1]
    refine ⟨fun _ => sp_q (hQ I1 he) ?_, fun c => absurd (Int32.le_refl _) c⟩
    obtain ⟨u, hu⟩ : ∃ u, sp_n V = u + 1 := ⟨sp_n V - 1, by omega⟩
    rw [hu]
    rfl
  · intro i I1 hi he ih
    have hB1 := sp_MB_k hB he
    obtain ⟨m1, m2, m3⟩ := sp_msk (sp_n V) (by omega) i (by omega) hi
    apply t_Mo_pillar_30 hR
    rw [hB1.2.2.1]
    refine ⟨fun c => absurd c (nI_ge hi (by omega)), fun _ => ?_⟩
    refine c_Mo_allFollies hR hB1.2.2.1 ⟨_, I1, J, R, rfl, rfl, hR, ?_⟩
    rw [m1]
    refine c_Mo_servedWithOnly hR hB1.1 hB1.2.1 hB1.2.2 hV m2 ?_
    intro I2 g0
    refine ⟨_, I2, J, R, rfl, rfl, hR, ?_⟩
    have hsim : sp_sim (sp_ruin V (2 ^ sp_n V - 1 - 2 ^ i)) (sp_ru1 V i) := ⟨rfl, rfl, fun g hg => ⟨rfl, rfl, by
      show (if (2 ^ sp_n V - 1 - 2 ^ i).testBit g then sp_so V g else 0) = 0 ↔ (if g = i then 0 else sp_so V g) = 0
      have hg : g < sp_n V := hg
      rw [m3 g (by omega) hg]
      by_cases h : g = i
      · rw [if_neg (by simp [h]), if_pos h]
      · rw [if_pos (by simp [h]), if_neg h], rfl⟩⟩
    rw [sp_bits_sim (sp_ruin_ok hV) hsim]
    have hlt := sp_bits_lt (sp_ru1_ok hV (f := i)) hO
    have l1 := sp_pc_le5 _ hlt
    have l2 := sp_pl_le (V := V) (eo := sp_eo ne ef) i
    refine c_Mo_ones hR (Nat.lt_trans hlt (by decide)) ⟨_, I2, J, R, rfl, rfl, hR, ?_⟩
    have K := ih I2 (sp_fr_tr he (sp_g2 g0))
    rw [sp_plv, sp_pl] at K
    rw [nI_1]
    rcases Nat.eq_zero_or_pos i with h0 | h0
    · subst h0
      refine ⟨fun c => ?_, fun c => absurd (nI_lt (b := 1000000) (by omega) (by decide)) c⟩
      rw [if_pos (by show _ < 6; omega)] at K
      exact K
    · obtain ⟨u, hu⟩ : ∃ u, i = u + 1 := ⟨i - 1, by omega⟩
      subst hu
      refine ⟨fun c => ?_, fun c => ?_⟩
      · rw [if_pos ((nI_ltI (by omega) (by omega)).mp c)] at K
        exact K
      · rw [if_neg (fun z => c ((nI_ltI (by omega) (by omega)).mpr z))] at K
        exact K
end MO4
