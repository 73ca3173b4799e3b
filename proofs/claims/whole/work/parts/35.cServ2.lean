/-! Own rows: more of Serving. -/
theorem sp_pc_le : ∀ m, m < 64 → sp_pc m ≤ 6 := by decide +kernel
theorem c_bitCount {d : Nat} {I : Nat → Nat → Int32} {J : Nat → Nat → Int64} {R : Nat → Nat → Option Nat} {Q : Option Value → ow_H → Prop} {m : Nat} (hR : ow_RF R) (hm : m < 64) (hQ : Q (some (.int (nI (sp_pc m)))) (85, I, J, R)) : ow_AM M_Integer_bitCount (d + 1) [.int (nI m)] (85, I, J, R) Q := by
  apply t_Integer_bitCount hR
  refine sp_q hQ ?_
  clear hQ
  revert hm
  revert m
  decide +kernel
theorem c_Serving_countServed {d : Nat} {I : Nat → Nat → Int32} {J : Nat → Nat → Int64} {R : Nat → Nat → Option Nat} {Q : Option Value → ow_H → Prop} {o : Nat} {V : sp_V} {eo : Nat → Nat} (hR : ow_RF R) (ho : o ∈ [3, 15, 29, 33, 42, 47, 57]) (hS : sp_S I o V) (hV : sp_ok V) (hE : sp_EO I V eo) (hO : sp_eok V eo)
    (hQ : ∀ I2 : Nat → Nat → Int32, sp_eq [40, 41] I I2 → Q (some (.int (nI (sp_pc (sp_all V eo (2 * sp_n V)))))) (85, I2, J, R)) : ow_AM M_Serving_countServed (d + 5) [.ref 39, .ref o] (85, I, J, R) Q := by
  apply t_Serving_countServed ho hR
  refine c_Serving_bitsServed hR ho hS hV hE hO ?_
  intro I2 he
  refine ⟨_, I2, J, R, rfl, rfl, hR, ?_⟩
  refine c_bitCount hR (Nat.lt_trans (sp_all_lt hV hO _ (Nat.le_refl _)) (by decide)) ?_
  exact ⟨_, I2, J, R, rfl, rfl, hR, hQ I2 he⟩
/-- who signs, as bits -/
def sp_sg (V : sp_V) : Nat → Nat
  | 0 => 0
  | l + 1 => match (sp_gl V l).2.2 with
    | none => sp_sg V l
    | some q => sp_sg V l ||| 2 ^ q.1
theorem sp_sg_lt {V : sp_V} (hV : sp_ok V) : ∀ k, k ≤ 2 * sp_n V → sp_sg V k < 64 := by
  have hn6 := hV.1
  intro k
  induction k with
  | zero => intro _; exact (by decide : 0 < 64)
  | succ k ih =>
    intro hk
    rw [sp_sg]
    cases hg : (sp_gl V k).2.2 with
    | none => exact ih (by omega)
    | some q =>
      have := (sp_gl_in hV (l := k) (by omega)).1 q.1 q.2 hg
      exact (sp_or _ (ih (by omega)) q.1 (by omega)).2
theorem c_Serving_bitsSigning {d : Nat} {I : Nat → Nat → Int32} {J : Nat → Nat → Int64} {R : Nat → Nat → Option Nat} {Q : Option Value → ow_H → Prop} {o : Nat} {V : sp_V} (hR : ow_RF R) (ho : o ∈ [3, 15, 29, 33, 42, 47, 57]) (hS : sp_S I o V) (hV : sp_ok V)
    (hQ : ∀ I2 : Nat → Nat → Int32, sp_eq [40, 41] I I2 → Q (some (.int (nI (sp_sg V (2 * sp_n V))))) (85, I2, J, R)) : ow_AM M_Serving_bitsSigning (d + 3) [.ref 39, .ref o] (85, I, J, R) Q := by
  have hn6 := hV.1
  apply t_Serving_bitsSigning ho hR
  refine sp_up (N := 2 * sp_n V) (G := fun i I1 => ow_AW ow_Y0 (ow_Z Q) M_Serving_bitsSigning (d + 3) 0 0 4 [(0, .ref 39), (1, .ref o), (2, .int (nI (sp_sg V i))), (3, .int (nI i))] [] (85, I1, J, R) 0 0) (Inv := fun _ I1 => sp_eq [40, 41] I I1) ?_ ?_ 0 I (Nat.zero_le _) sp_eq_rf
  · intro I1 he
    have hS1 := sp_S_fr ho hS (sp_frq (E := []) he) (by decide) (by decide)
    apply t_Serving_bitsSigning_4 ho hR
    rw [hS1.1, sp_2n]
    exact ⟨fun _ => hQ I1 he, fun c => absurd (Int32.le_refl _) c⟩
  · intro i I1 hi he ih
    have hS1 := sp_S_fr ho hS (sp_frq (E := []) he) (by decide) (by decide)
    apply t_Serving_bitsSigning_4 ho hR
    rw [hS1.1, sp_2n, sp_low (by omega), sp_half (by omega)]
    refine ⟨fun c => absurd c (nI_ge hi (by omega)), fun _ => ?_⟩
    have K : ∀ (x : Int32), x = sp_jb (decide (i % 2 = 1)) → ow_AM M_Course_run (d + 2) [.ref 40, .ref o, .int (nI (i / 2)), .int x] (85, I1, J, R) (fun r h' => ∃ (I1 : Nat → Nat → Int32) (J1 : Nat → Nat → Int64) (R1 : Nat → Nat → Option Nat), r = none ∧ h' = (85, I1, J1, R1) ∧ ow_RF R1 ∧ (((I1 40 3) = (-2) → ow_AW ow_Y0 (ow_Z Q) M_Serving_bitsSigning (d + 3) 0 0 4 [(0, .ref 39), (1, .ref o), (2, .int (nI (sp_sg V i))), (3, .int (nI i + 1))] [] (85, I1, J1, R1) 0 0) ∧ (¬ (I1 40 3) = (-2) → ow_AW ow_Y0 (ow_Z Q) M_Serving_bitsSigning (d + 3) 0 0 4 [(0, .ref 39), (1, .ref o), (2, .int (nI (sp_sg V i) ||| ((1 : Int32) <<< ((I1 40 3) &&& 31)))), (3, .int (nI i + 1))] [] (85, I1, J1, R1) 0 0))) := by
      intro x hx
      refine c_Course_run hR (by decide) ho hS1 hV (by omega) hx ?_
      intro I2 g0 g1 g2 g3 g4 g5
      refine ⟨I2, J, R, rfl, rfl, hR, ?_⟩
      rw [g3, nI_1]
      have K2 := ih I2 (sp_eq_tr he g0)
      rw [sp_sg] at K2
      have hin := (sp_gl_in hV hi).1
      unfold sp_gl at K2 hin
      cases hg : (sp_go V 6 0 (i / 2) (decide (i % 2 = 1))).2.2 with
      | none =>
        rw [hg] at K2
        exact ⟨fun _ => K2, fun c => absurd rfl c⟩
      | some q =>
        rw [hg] at K2
        have hq := hin q.1 q.2 hg
        refine ⟨fun c => absurd c (sp_tg_ne (k := q.1 + 1) (by omega) (by omega)), fun _ => ?_⟩
        show ow_AW ow_Y0 (ow_Z Q) M_Serving_bitsSigning (d + 3) 0 0 4 [(0, .ref 39), (1, .ref o), (2, .int (nI (sp_sg V i) ||| ((1 : Int32) <<< (nI q.1 &&& 31)))), (3, .int (nI (i + 1)))] [] (85, I2, J, R) 0 0
        rw [(sp_or _ (sp_sg_lt hV i (by omega)) q.1 (by omega)).1]
        exact K2
    rcases Nat.mod_two_eq_zero_or_one i with h2 | h2
    · rw [h2]
      exact ⟨fun _ => K 0 (by rw [h2]; rfl), fun c => absurd rfl c⟩
    · rw [h2]
      exact ⟨fun c => absurd c (by decide), fun _ => K 1 (by rw [h2]; rfl)⟩
/-- letters that serve e, as bits -/
def sp_lt (V : sp_V) (eo : Nat → Nat) (e : Nat) : Nat → Int32
  | 0 => 0
  | l + 1 => if (sp_sv V eo l).testBit e then sp_lt V eo e l ||| ((1 : Int32) <<< (nI l &&& 31)) else sp_lt V eo e l
theorem c_Serving_lettersFor {d : Nat} {I : Nat → Nat → Int32} {J : Nat → Nat → Int64} {R : Nat → Nat → Option Nat} {Q : Option Value → ow_H → Prop} {o e : Nat} {V : sp_V} {eo : Nat → Nat} (hR : ow_RF R) (ho : o ∈ [3, 15, 29, 33, 42, 47, 57]) (hS : sp_S I o V) (hV : sp_ok V) (hE : sp_EO I V eo) (hO : sp_eok V eo) (he5 : e < 6)
    (hQ : ∀ I2 : Nat → Nat → Int32, sp_eq [40, 41] I I2 → Q (some (.int (sp_lt V eo e (2 * sp_n V)))) (85, I2, J, R)) : ow_AM M_Serving_lettersFor (d + 4) [.ref 39, .ref o, .int (nI e)] (85, I, J, R) Q := by
  have hn6 := hV.1
  apply t_Serving_lettersFor ho hR
  refine sp_up (N := 2 * sp_n V) (G := fun i I1 => ow_AW ow_Y0 (ow_Z Q) M_Serving_lettersFor (d + 4) 0 0 5 [(0, .ref 39), (1, .ref o), (2, .int (nI e)), (3, .int (sp_lt V eo e i)), (4, .int (nI i))] [] (85, I1, J, R) 0 0) (Inv := fun _ I1 => sp_eq [40, 41] I I1) ?_ ?_ 0 I (Nat.zero_le _) sp_eq_rf
  · intro I1 he
    have hS1 := sp_S_fr ho hS (sp_frq (E := []) he) (by decide) (by decide)
    apply t_Serving_lettersFor_5 ho hR
    rw [hS1.1, sp_2n]
    exact ⟨fun _ => hQ I1 he, fun c => absurd (Int32.le_refl _) c⟩
  · intro i I1 hi he ih
    have hS1 := sp_S_fr ho hS (sp_frq (E := []) he) (by decide) (by decide)
    have hE1 := sp_EO_fr hE (sp_frq (E := []) he) (by decide) (by simp)
    apply t_Serving_lettersFor_5 ho hR
    rw [hS1.1, sp_2n]
    refine ⟨fun c => absurd c (nI_ge hi (by omega)), fun _ => ?_⟩
    refine c_Serving_bitsServedBy hR ho hS1 hV hE1 hi ?_
    intro I2 g0 _
    refine ⟨_, I2, J, R, rfl, rfl, hR, ?_⟩
    have K := ih I2 (sp_eq_tr he g0)
    rw [sp_lt] at K
    rw [sp_bit _ (Nat.lt_trans (sp_sv_lt hV hO hi) (by decide)) e he5, nI_1]
    by_cases hb : (sp_sv V eo i).testBit e
    · rw [if_pos hb] at K ⊢
      exact ⟨fun c => absurd c (by decide), fun _ => K⟩
    · rw [if_neg hb] at K ⊢
      exact ⟨fun _ => K, fun c => absurd rfl c⟩
/-- the letter of the shortest way that serves e, and how many answer -/
def sp_be (V : sp_V) (eo : Nat → Nat) (e : Nat) : Nat → Option (Nat × Nat)
  | 0 => none
  | l + 1 => if (sp_sv V eo l).testBit e then (match sp_be V eo e l with
      | none => some (l, (sp_gl V l).2.1)
      | some q => if (sp_gl V l).2.1 < q.2 then some (l, (sp_gl V l).2.1) else some q) else sp_be V eo e l
def sp_o1 : Option (Nat × Nat) → Int32
  | none => -2
  | some q => nI q.1
def sp_o2 : Option (Nat × Nat) → Int32
  | none => -2
  | some q => nI q.2
theorem sp_be_lt {V : sp_V} {eo : Nat → Nat} {e : Nat} (hV : sp_ok V) : ∀ k, k ≤ 2 * sp_n V → ∀ q, sp_be V eo e k = some q → q.1 < k ∧ q.2 ≤ 6 := by
  intro k
  induction k with
  | zero => intro _ q h; cases h
  | succ k ih =>
    intro hk q h
    have hi := (sp_gl_in hV (l := k) (by omega)).2.2.2
    rw [sp_be] at h
    by_cases hb : (sp_sv V eo k).testBit e
    · rw [if_pos hb] at h
      cases hq : sp_be V eo e k with
      | none =>
        rw [hq] at h
        injection h with h
        rw [← h]
        exact ⟨Nat.lt_succ_self _, hi⟩
      | some z =>
        rw [hq] at h
        dsimp only at h
        by_cases hc : (sp_gl V k).2.1 < z.2
        · rw [if_pos hc] at h
          injection h with h
          rw [← h]
          exact ⟨Nat.lt_succ_self _, hi⟩
        · rw [if_neg hc] at h
          injection h with h
          rw [← h]
          have := ih (by omega) z hq
          exact ⟨by omega, this.2⟩
    · rw [if_neg hb] at h
      have := ih (by omega) q h
      exact ⟨by omega, this.2⟩
theorem sp_o1_ne {q : Nat × Nat} (h : q.1 < 2000) : ¬ sp_o1 (some q) = -2 := sp_tg_ne (k := q.1 + 1) (by omega) (by omega)
theorem c_Serving_findShortest {d : Nat} {I : Nat → Nat → Int32} {J : Nat → Nat → Int64} {R : Nat → Nat → Option Nat} {Q : Option Value → ow_H → Prop} {o e : Nat} {V : sp_V} {eo : Nat → Nat} (hR : ow_RF R) (ho : o ∈ [3, 15, 29, 33, 42, 47, 57]) (hS : sp_S I o V) (hV : sp_ok V) (hE : sp_EO I V eo) (hO : sp_eok V eo) (he5 : e < 6)
    (hQ : ∀ I2 : Nat → Nat → Int32, sp_fr [40, 41] [(39, 3), (39, 4)] I I2 → I2 39 3 = sp_o1 (sp_be V eo e (2 * sp_n V)) → I2 39 4 = sp_o2 (sp_be V eo e (2 * sp_n V)) → Q none (85, I2, J, R)) : ow_AM M_Serving_findShortest (d + 4) [.ref 39, .ref o, .int (nI e)] (85, I, J, R) Q := by
  have hn6 := hV.1
  apply t_Serving_findShortest ho hR
  intro I8 e8 I9 e9
  have h9 : sp_fr [40, 41] [(39, 3), (39, 4)] I I9 := sp_fr_tr (sp_fr_ue e8 (by simp)) (sp_fr_ue e9 (by simp))
  refine sp_up (N := 2 * sp_n V) (G := fun i I1 => ow_AW ow_Y0 (ow_Z Q) M_Serving_findShortest (d + 4) 0 0 14 [(0, .ref 39), (1, .ref o), (2, .int (nI e)), (3, .int (nI i))] [] (85, I1, J, R) 0 0) (Inv := fun i I1 => sp_fr [40, 41] [(39, 3), (39, 4)] I I1 ∧ I1 39 3 = sp_o1 (sp_be V eo e i) ∧ I1 39 4 = sp_o2 (sp_be V eo e i)) ?_ ?_ 0 I9 (Nat.zero_le _) ⟨h9, by rw [e9, ow_u_nk (by decide), e8, ow_u_at]; rfl, by rw [e9, ow_u_at]; rfl⟩
  · intro I1 he
    have hS1 := sp_S_fr ho hS he.1 (by decide) (by decide)
    apply t_Serving_findShortest_14 ho hR
    rw [hS1.1, sp_2n]
    exact ⟨fun _ => hQ I1 he.1 he.2.1 he.2.2, fun c => absurd (Int32.le_refl _) c⟩
  · intro i I1 hi he ih
    obtain ⟨he, x1, x2⟩ := he
    have hS1 := sp_S_fr ho hS he (by decide) (by decide)
    have hE1 := sp_EO_fr hE he (by decide) (by simp)
    apply t_Serving_findShortest_14 ho hR
    rw [hS1.1, sp_2n]
    refine ⟨fun c => absurd c (nI_ge hi (by omega)), fun _ => ?_⟩
    refine c_Serving_bitsServedBy hR ho hS1 hV hE1 hi ?_
    intro I2 g0 g2
    refine ⟨_, I2, J, R, rfl, rfl, hR, ?_⟩
    have he2 : sp_fr [40, 41] [(39, 3), (39, 4)] I I2 := sp_fr_tr he (sp_frq g0)
    have y1 : I2 39 3 = sp_o1 (sp_be V eo e i) := by rw [g0 39 (by decide)]; exact x1
    have y2 : I2 39 4 = sp_o2 (sp_be V eo e i) := by rw [g0 39 (by decide)]; exact x2
    have hi6 := (sp_gl_in hV hi).2.2.2
    rw [sp_bit _ (Nat.lt_trans (sp_sv_lt hV hO hi) (by decide)) e he5, nI_1, y1, y2, g2]
    by_cases hb : (sp_sv V eo i).testBit e
    · rw [if_pos hb]
      refine ⟨fun c => absurd c (by decide), fun _ => ?_⟩
      have hst : ∀ I6 I7 : Nat → Nat → Int32, I6 = ow_u I2 39 3 (nI i) → I7 = ow_u I6 39 4 (I6 40 2) → sp_be V eo e (i + 1) = some (i, (sp_gl V i).2.1) → ow_AW ow_Y0 (ow_Z Q) M_Serving_findShortest (d + 4) 0 0 14 [(0, .ref 39), (1, .ref o), (2, .int (nI e)), (3, .int (nI (i + 1)))] [] (85, I7, J, R) 0 0 := by
        intro I6 I7 e6 e7 hbe
        have y40 : I6 40 2 = nI (sp_gl V i).2.1 := by rw [e6, ow_u_ne (by decide)]; exact g2
        rw [y40] at e7
        refine ih I7 ⟨sp_fr_tr (sp_fr_tr he2 (sp_fr_ue e6 (by simp))) (sp_fr_ue e7 (by simp)), ?_, ?_⟩
        · rw [hbe, e7, ow_u_nk (by decide), e6, ow_u_at]; rfl
        · rw [hbe, e7, ow_u_at]; rfl
      cases hq : sp_be V eo e i with
      | none =>
        refine ⟨fun _ I4 e4 I5 e5 => hst I4 I5 e4 e5 (by rw [sp_be, if_pos hb, hq]), fun c => absurd rfl c⟩
      | some q =>
        have hq2 := sp_be_lt hV i (by omega) q hq
        refine ⟨fun c => absurd c (sp_o1_ne (by omega)), fun _ => ⟨fun c => ?_, fun c I6 e6 I7 e7 => ?_⟩⟩
        · have c2 : ¬ (sp_gl V i).2.1 < q.2 := Nat.not_lt.mpr ((nI_leI (by omega) (by omega)).mp c)
          refine ih I2 ⟨he2, ?_, ?_⟩
          · rw [y1, sp_be, if_pos hb, hq]; dsimp only; rw [if_neg c2]
          · rw [y2, sp_be, if_pos hb, hq]; dsimp only; rw [if_neg c2]
        · have c2 : (sp_gl V i).2.1 < q.2 := Nat.lt_of_not_le (fun z => c ((nI_leI (by omega) (by omega)).mpr z))
          exact hst I6 I7 e6 e7 (by rw [sp_be, if_pos hb, hq]; dsimp only; rw [if_pos c2])
    · rw [if_neg hb]
      refine ⟨fun _ => ih I2 ⟨he2, ?_, ?_⟩, fun c => absurd rfl c⟩
      · rw [y1, sp_be, if_neg hb]
      · rw [y2, sp_be, if_neg hb]
/-- the letter that serves most -/
def sp_wd (V : sp_V) (eo : Nat → Nat) : Nat → Option Nat × Nat
  | 0 => (none, 0)
  | l + 1 => if (sp_wd V eo l).2 < sp_pc (sp_sv V eo l) then (some l, sp_pc (sp_sv V eo l)) else sp_wd V eo l
def sp_on : Option Nat → Int32
  | none => -2
  | some l => nI l
theorem sp_wd_le {V : sp_V} {eo : Nat → Nat} (hV : sp_ok V) (hO : sp_eok V eo) : ∀ k, k ≤ 2 * sp_n V → (sp_wd V eo k).2 ≤ 6 := by
  intro k
  induction k with
  | zero => intro _; exact (by decide : 0 ≤ 6)
  | succ k ih =>
    intro hk
    rw [sp_wd]
    by_cases h : (sp_wd V eo k).2 < sp_pc (sp_sv V eo k)
    · rw [if_pos h]
      exact sp_pc_le _ (Nat.lt_trans (sp_sv_lt hV hO (by omega)) (by decide))
    · rw [if_neg h]
      exact ih (by omega)
theorem c_Serving_findWidest {d : Nat} {I : Nat → Nat → Int32} {J : Nat → Nat → Int64} {R : Nat → Nat → Option Nat} {Q : Option Value → ow_H → Prop} {o : Nat} {V : sp_V} {eo : Nat → Nat} (hR : ow_RF R) (ho : o ∈ [3, 15, 29, 33, 42, 47, 57]) (hS : sp_S I o V) (hV : sp_ok V) (hE : sp_EO I V eo) (hO : sp_eok V eo)
    (hQ : ∀ I2 : Nat → Nat → Int32, sp_eq [40, 41] I I2 → Q (some (.int (sp_on (sp_wd V eo (2 * sp_n V)).1))) (85, I2, J, R)) : ow_AM M_Serving_findWidest (d + 4) [.ref 39, .ref o] (85, I, J, R) Q := by
  have hn6 := hV.1
  apply t_Serving_findWidest ho hR
  refine sp_up (N := 2 * sp_n V) (G := fun i I1 => ow_AW ow_Y0 (ow_Z Q) M_Serving_findWidest (d + 4) 0 0 8 [(0, .ref 39), (1, .ref o), (2, .int (sp_on (sp_wd V eo i).1)), (3, .int (nI (sp_wd V eo i).2)), (4, .int (nI i))] [] (85, I1, J, R) 0 0) (Inv := fun _ I1 => sp_eq [40, 41] I I1) ?_ ?_ 0 I (Nat.zero_le _) sp_eq_rf
  · intro I1 he
    have hS1 := sp_S_fr ho hS (sp_frq (E := []) he) (by decide) (by decide)
    apply t_Serving_findWidest_8 ho hR
    rw [hS1.1, sp_2n]
    exact ⟨fun _ => hQ I1 he, fun c => absurd (Int32.le_refl _) c⟩
  · intro i I1 hi he ih
    have hS1 := sp_S_fr ho hS (sp_frq (E := []) he) (by decide) (by decide)
    have hE1 := sp_EO_fr hE (sp_frq (E := []) he) (by decide) (by simp)
    apply t_Serving_findWidest_8 ho hR
    rw [hS1.1, sp_2n]
    refine ⟨fun c => absurd c (nI_ge hi (by omega)), fun _ => ?_⟩
    refine c_Serving_bitsServedBy hR ho hS1 hV hE1 hi ?_
    intro I2 g0 _
    refine ⟨_, I2, J, R, rfl, rfl, hR, ?_⟩
    have hm : sp_sv V eo i < 64 := Nat.lt_trans (sp_sv_lt hV hO hi) (by decide)
    refine c_bitCount hR hm ⟨_, I2, J, R, rfl, rfl, hR, ?_⟩
    have K := ih I2 (sp_eq_tr he g0)
    rw [sp_wd] at K
    rw [nI_1]
    have w1 := sp_wd_le hV hO i (by omega)
    have w2 := sp_pc_le _ hm
    by_cases h : (sp_wd V eo i).2 < sp_pc (sp_sv V eo i)
    · rw [if_pos h] at K
      exact ⟨fun c => absurd ((nI_leI (by omega) (by omega)).mp c) (by omega), fun _ => K⟩
    · rw [if_neg h] at K
      exact ⟨fun _ => K, fun c => absurd ((nI_leI (by omega) (by omega)).mpr (by omega)) c⟩
