/-! Own rows, by program: an agent and a hermit. -/
/-- what one has, by what it does and what the other one does -/
def sp_gn (x a b : Int32) : Int32 := if b = 0 then (if a = 0 then 2 else 3) else (if a = 0 then -x else 1 - x)
def sp_i4 (a b c e : Int32) : Bool := !decide (a < b) && !decide (c < e)
theorem sp_i4f1 {a b c e : Int32} (h : a < b) : sp_i4 a b c e = false := by unfold sp_i4; rw [decide_eq_true h]; rfl
theorem sp_i4f2 {a b c e : Int32} (h : c < e) : sp_i4 a b c e = false := by unfold sp_i4; rw [decide_eq_true h]; exact Bool.and_false _
theorem sp_i4t {a b c e : Int32} (h : ¬ a < b) (h2 : ¬ c < e) : sp_i4 a b c e = true := by unfold sp_i4; rw [decide_eq_false h, decide_eq_false h2]; rfl
/-- is the k-th pair a rest -/
def sp_ir (x : Int32) : Nat → Bool
  | 0 => sp_i4 (sp_gn x 0 0) (sp_gn x 1 0) (sp_gn x 0 0) (sp_gn x 1 0)
  | 1 => sp_i4 (sp_gn x 0 1) (sp_gn x 1 1) (sp_gn x 1 0) (sp_gn x 0 0)
  | 2 => sp_i4 (sp_gn x 1 0) (sp_gn x 0 0) (sp_gn x 0 1) (sp_gn x 1 1)
  | _ => sp_i4 (sp_gn x 1 1) (sp_gn x 0 1) (sp_gn x 1 1) (sp_gn x 0 1)
def sp_nr (x : Int32) : Nat → Nat
  | 0 => 0
  | k + 1 => sp_nr x k + (if sp_ir x k = true then 1 else 0)
def sp_r1 (x : Int32) : Nat → Int32
  | 0 => -2
  | k + 1 => if sp_ir x k = true ∧ sp_nr x k = 0 then nI (10 * (k / 2) + k % 2) else sp_r1 x k
theorem sp_nr_le {x : Int32} : ∀ k, sp_nr x k ≤ k := by
  intro k
  induction k with
  | zero => exact Nat.le_refl _
  | succ k ih =>
    rw [sp_nr]
    by_cases h : sp_ir x k = true
    · rw [if_pos h]; omega
    · rw [if_neg h]; omega
theorem sp_nr_mo {x : Int32} {i : Nat} : ∀ k, sp_nr x i ≤ sp_nr x (i + k) := by
  intro k
  induction k with
  | zero => exact Nat.le_refl _
  | succ k ih =>
    rw [show i + (k + 1) = (i + k) + 1 from rfl, sp_nr]
    exact Nat.le_trans ih (Nat.le_add_right _ _)
theorem sp_r1_k {x : Int32} {i : Nat} (h : sp_nr x i ≠ 0) : ∀ k, sp_r1 x (i + k) = sp_r1 x i := by
  intro k
  induction k with
  | zero => rfl
  | succ k ih =>
    have := sp_nr_mo (x := x) (i := i) k
    rw [show i + (k + 1) = (i + k) + 1 from rfl, sp_r1, if_neg (fun q => by omega)]
    exact ih
theorem sp_r1_0 {x : Int32} : ∀ k, sp_nr x k = 0 → sp_r1 x k = -2 := by
  intro k
  induction k with
  | zero => intro _; rfl
  | succ k ih =>
    intro h
    rw [sp_nr] at h
    by_cases hb : sp_ir x k = true
    · rw [if_pos hb] at h; omega
    · rw [sp_r1, if_neg (fun q => hb q.1)]
      exact ih (by omega)
theorem sp_r1_at {x : Int32} {i : Nat} (hi : i < 4) (h0 : sp_nr x i = 0) (hb : sp_ir x i = true) : sp_r1 x 4 = nI (10 * (i / 2) + i % 2) := by
  have h1 : sp_nr x (i + 1) ≠ 0 := by rw [sp_nr, if_pos hb]; omega
  have h2 := sp_r1_k h1 (4 - (i + 1))
  have h3 : sp_r1 x (i + 1) = nI (10 * (i / 2) + i % 2) := by rw [sp_r1, if_pos ⟨hb, h0⟩]
  rw [show i + 1 + (4 - (i + 1)) = 4 by omega, h3] at h2
  exact h2
section GAME
variable {d : Nat} {I : Nat → Nat → Int32} {J : Nat → Nat → Int64} {R : Nat → Nat → Option Nat} {Q : Option Value → ow_H → Prop}
theorem c_Fs_gain {x a b : Int32} (hR : ow_RF R) (hQ : Q (some (.int (sp_gn x a b))) (85, I, J, R)) : ow_AM M_Fs_gain (d + 1) [.int x, .int a, .int b] (85, I, J, R) Q := by
  apply t_Fs_gain hR
  unfold sp_gn at hQ
  refine ⟨fun c => ⟨fun c2 => ?_, fun c2 => ?_⟩, fun c => ⟨fun c2 => ?_, fun c2 => ?_⟩⟩
  · rw [if_pos c, if_pos c2] at hQ; exact hQ
  · rw [if_pos c, if_neg c2] at hQ; exact hQ
  · rw [if_neg c, if_pos c2] at hQ; exact hQ
  · rw [if_neg c, if_neg c2] at hQ; exact hQ
theorem c_Mo_suesOf {x a b : Int32} (hR : ow_RF R) (hQ : Q (some (.int (sp_gn x a b))) (85, I, J, R)) : ow_AM M_Mo_suesOf (d + 1) [.int x, .int a, .int b] (85, I, J, R) Q := by
  apply t_Mo_suesOf hR
  unfold sp_gn at hQ
  refine ⟨fun c => ⟨fun c2 => ?_, fun c2 => ?_⟩, fun c => ⟨fun c2 => ?_, fun c2 => ?_⟩⟩
  · rw [if_pos c2, if_pos c] at hQ; exact hQ
  · rw [if_neg c2, if_pos c] at hQ; exact hQ
  · rw [if_pos c2, if_neg c] at hQ; exact hQ
  · rw [if_neg c2, if_neg c] at hQ; exact hQ
theorem c_Fs_isRest {x : Int32} {k : Nat} (hR : ow_RF R) (hk : k < 4) (hQ : Q (some (.int (sp_jb (sp_ir x k)))) (85, I, J, R)) : ow_AM M_Fs_isRest (d + 2) [.int x, .int (nI k)] (85, I, J, R) Q := by
  apply t_Fs_isRest hR
  have hk4 : k = 0 ∨ k = 1 ∨ k = 2 ∨ k = 3 := by omega
  rcases hk4 with rfl | rfl | rfl | rfl
  · refine ⟨fun _ => ⟨fun _ => ?_, fun c => absurd (by decide) c⟩, fun c => absurd (by decide) c⟩
    refine c_Fs_gain hR ⟨_, I, J, R, rfl, rfl, hR, ?_⟩
    refine c_Fs_gain hR ⟨_, I, J, R, rfl, rfl, hR, ?_⟩
    refine ⟨fun c => ?_, fun c => ?_⟩
    · rw [show sp_ir x 0 = false from sp_i4f1 c] at hQ
      exact hQ
    · refine c_Fs_gain hR ⟨_, I, J, R, rfl, rfl, hR, ?_⟩
      refine c_Fs_gain hR ⟨_, I, J, R, rfl, rfl, hR, ?_⟩
      refine ⟨fun c2 => ?_, fun c2 => ?_⟩
      · rw [show sp_ir x 0 = false from sp_i4f2 c2] at hQ
        exact hQ
      · rw [show sp_ir x 0 = true from sp_i4t c c2] at hQ
        exact hQ
  · refine ⟨fun _ => ⟨fun c => absurd c (by decide), fun _ => ?_⟩, fun c => absurd (by decide) c⟩
    refine c_Fs_gain hR ⟨_, I, J, R, rfl, rfl, hR, ?_⟩
    refine c_Fs_gain hR ⟨_, I, J, R, rfl, rfl, hR, ?_⟩
    refine ⟨fun c => ?_, fun c => ?_⟩
    · rw [show sp_ir x 1 = false from sp_i4f1 c] at hQ
      exact hQ
    · refine c_Fs_gain hR ⟨_, I, J, R, rfl, rfl, hR, ?_⟩
      refine c_Fs_gain hR ⟨_, I, J, R, rfl, rfl, hR, ?_⟩
      refine ⟨fun c2 => ?_, fun c2 => ?_⟩
      · rw [show sp_ir x 1 = false from sp_i4f2 c2] at hQ
        exact hQ
      · rw [show sp_ir x 1 = true from sp_i4t c c2] at hQ
        exact hQ
  · refine ⟨fun c => absurd c (by decide), fun _ => ⟨fun _ => ?_, fun c => absurd (by decide) c⟩⟩
    refine c_Fs_gain hR ⟨_, I, J, R, rfl, rfl, hR, ?_⟩
    refine c_Fs_gain hR ⟨_, I, J, R, rfl, rfl, hR, ?_⟩
    refine ⟨fun c => ?_, fun c => ?_⟩
    · rw [show sp_ir x 2 = false from sp_i4f1 c] at hQ
      exact hQ
    · refine c_Fs_gain hR ⟨_, I, J, R, rfl, rfl, hR, ?_⟩
      refine c_Fs_gain hR ⟨_, I, J, R, rfl, rfl, hR, ?_⟩
      refine ⟨fun c2 => ?_, fun c2 => ?_⟩
      · rw [show sp_ir x 2 = false from sp_i4f2 c2] at hQ
        exact hQ
      · rw [show sp_ir x 2 = true from sp_i4t c c2] at hQ
        exact hQ
  · refine ⟨fun c => absurd c (by decide), fun _ => ⟨fun c => absurd c (by decide), fun _ => ?_⟩⟩
    refine c_Fs_gain hR ⟨_, I, J, R, rfl, rfl, hR, ?_⟩
    refine c_Fs_gain hR ⟨_, I, J, R, rfl, rfl, hR, ?_⟩
    refine ⟨fun c => ?_, fun c => ?_⟩
    · rw [show sp_ir x 3 = false from sp_i4f1 c] at hQ
      exact hQ
    · refine c_Fs_gain hR ⟨_, I, J, R, rfl, rfl, hR, ?_⟩
      refine c_Fs_gain hR ⟨_, I, J, R, rfl, rfl, hR, ?_⟩
      refine ⟨fun c2 => ?_, fun c2 => ?_⟩
      · rw [show sp_ir x 3 = false from sp_i4f2 c2] at hQ
        exact hQ
      · rw [show sp_ir x 3 = true from sp_i4t c c2] at hQ
        exact hQ
theorem c_Mo_seekRests {x : Int32} (hR : ow_RF R) (hQ : ∀ I2 : Nat → Nat → Int32, sp_fr [] [(70, 36)] I I2 → I2 70 36 = sp_r1 x 4 → Q (some (.int (nI (sp_nr x 4)))) (85, I2, J, R)) : ow_AM M_Mo_seekRests (d + 2) [.ref 70, .int x] (85, I, J, R) Q := by
  apply t_Mo_seekRests hR
  intro I0 e0
  refine sp_up (N := 4) (G := fun i I1 => ow_AW ow_Y0 (ow_Z Q) M_Mo_seekRests (d + 2) 0 0 10 [(0, .ref 70), (1, .int x), (2, .int (nI (sp_nr x i))), (3, .int (nI i))] [] (85, I1, J, R) 0 0) (Inv := fun i I1 => sp_fr [] [(70, 36)] I I1 ∧ I1 70 36 = sp_r1 x i) ?_ ?_ 0 I0 (Nat.zero_le _) ⟨sp_fr_ue e0 (by simp), by rw [e0, ow_u_at]; rfl⟩
  · intro I1 ⟨f1, v1⟩
    apply t_Mo_seekRests_10 hR
    exact ⟨fun _ => hQ I1 f1 v1, fun c => absurd (by decide) c⟩
  · intro i I1 hi ⟨f1, v1⟩ ih
    have hn := sp_nr_le (x := x) i
    have nx0 : sp_ir x i = false → ow_AW ow_Y0 (ow_Z Q) M_Mo_seekRests (d + 2) 0 0 10 [(0, .ref 70), (1, .int x), (2, .int (nI (sp_nr x i))), (3, .int (nI i + 1))] [] (85, I1, J, R) 0 0 := by
      intro hb
      have K := ih I1 ⟨f1, by rw [sp_r1, if_neg (fun q => by rw [hb] at q; exact absurd q.1 (by decide))]; exact v1⟩
      rw [sp_nr, if_neg (by rw [hb]; decide)] at K
      rw [nI_1]
      exact K
    have nx1 : sp_ir x i = true → ¬ nI (sp_nr x i) = 0 → ow_AW ow_Y0 (ow_Z Q) M_Mo_seekRests (d + 2) 0 0 10 [(0, .ref 70), (1, .int x), (2, .int (nI (sp_nr x i) + 1)), (3, .int (nI i + 1))] [] (85, I1, J, R) 0 0 := by
      intro hb h0
      have K := ih I1 ⟨f1, by rw [sp_r1, if_neg (fun q => h0 (by rw [q.2]; rfl))]; exact v1⟩
      rw [sp_nr, if_pos hb] at K
      rw [nI_1, nI_1]
      exact K
    have nx2 : sp_ir x i = true → nI (sp_nr x i) = 0 → ∀ I6 : Nat → Nat → Int32, I6 = ow_u I1 70 36 ((10 * (nI i / 2)) + (nI i - nI i / 2 * 2)) → ow_AW ow_Y0 (ow_Z Q) M_Mo_seekRests (d + 2) 0 0 10 [(0, .ref 70), (1, .int x), (2, .int (nI (sp_nr x i) + 1)), (3, .int (nI i + 1))] [] (85, I6, J, R) 0 0 := by
      intro hb h0 I6 e6
      have h0' : sp_nr x i = 0 := (sp_z (by omega)).mp h0
      rw [show nI i / 2 = nI (i / 2) from pk_div (d := 2) (by omega) (by decide) (by decide), show nI i - nI (i / 2) * 2 = nI (i % 2) from by rw [← show nI i / 2 = nI (i / 2) from pk_div (d := 2) (by omega) (by decide) (by decide)]; exact pk_rem (d := 2) (by omega) (by decide) (by decide), show (10 : Int32) * nI (i / 2) = nI (10 * (i / 2)) from pk_mul 10 _, nI_add] at e6
      have K := ih I6 ⟨sp_fr_tr f1 (sp_fr_ue e6 (by simp)), by rw [e6, ow_u_at, sp_r1, if_pos ⟨hb, h0'⟩]⟩
      rw [sp_nr, if_pos hb] at K
      rw [nI_1, nI_1]
      exact K
    apply t_Mo_seekRests_10 hR
    refine ⟨fun c => absurd c (nI_ge (a := i) (b := 4) hi (by decide)), fun _ => ?_⟩
    have hi4 : i = 0 ∨ i = 1 ∨ i = 2 ∨ i = 3 := by omega
    rcases hi4 with rfl | rfl | rfl | rfl
    · refine ⟨fun _ => ⟨fun _ => ?_, fun c => absurd c (by decide)⟩, fun c => absurd (by decide) c⟩
      refine c_Mo_suesOf hR ⟨_, I1, J, R, rfl, rfl, hR, ?_⟩
      refine c_Mo_suesOf hR ⟨_, I1, J, R, rfl, rfl, hR, ?_⟩
      refine ⟨fun c => nx0 (sp_i4f1 c), fun c => ?_⟩
      refine c_Mo_suesOf hR ⟨_, I1, J, R, rfl, rfl, hR, ?_⟩
      refine c_Mo_suesOf hR ⟨_, I1, J, R, rfl, rfl, hR, ?_⟩
      refine ⟨fun c2 => ?_, fun c2 => nx0 (sp_i4f2 (Int32.not_le.mp c2))⟩
      have hb : sp_ir x 0 = true := sp_i4t c (Int32.not_lt.mpr c2)
      exact ⟨fun c3 => nx1 hb c3, fun c3 I6 e6 => nx2 hb c3 I6 e6⟩
    · refine ⟨fun _ => ⟨fun c => absurd (by decide) c, fun _ => ?_⟩, fun c => absurd (by decide) c⟩
      refine c_Mo_suesOf hR ⟨_, I1, J, R, rfl, rfl, hR, ?_⟩
      refine c_Mo_suesOf hR ⟨_, I1, J, R, rfl, rfl, hR, ?_⟩
      refine ⟨fun c => nx0 (sp_i4f1 c), fun c => ?_⟩
      refine c_Mo_suesOf hR ⟨_, I1, J, R, rfl, rfl, hR, ?_⟩
      refine c_Mo_suesOf hR ⟨_, I1, J, R, rfl, rfl, hR, ?_⟩
      refine ⟨fun c2 => ?_, fun c2 => nx0 (sp_i4f2 (Int32.not_le.mp c2))⟩
      have hb : sp_ir x 1 = true := sp_i4t c (Int32.not_lt.mpr c2)
      exact ⟨fun c3 => nx1 hb c3, fun c3 I6 e6 => nx2 hb c3 I6 e6⟩
    · refine ⟨fun c => absurd c (by decide), fun _ => ⟨fun _ => ?_, fun c => absurd c (by decide)⟩⟩
      refine c_Mo_suesOf hR ⟨_, I1, J, R, rfl, rfl, hR, ?_⟩
      refine c_Mo_suesOf hR ⟨_, I1, J, R, rfl, rfl, hR, ?_⟩
      refine ⟨fun c => nx0 (sp_i4f1 c), fun c => ?_⟩
      refine c_Mo_suesOf hR ⟨_, I1, J, R, rfl, rfl, hR, ?_⟩
      refine c_Mo_suesOf hR ⟨_, I1, J, R, rfl, rfl, hR, ?_⟩
      refine ⟨fun c2 => ?_, fun c2 => nx0 (sp_i4f2 (Int32.not_le.mp c2))⟩
      have hb : sp_ir x 2 = true := sp_i4t c (Int32.not_lt.mpr c2)
      exact ⟨fun c3 => nx1 hb c3, fun c3 I6 e6 => nx2 hb c3 I6 e6⟩
    · refine ⟨fun c => absurd c (by decide), fun _ => ⟨fun c => absurd (by decide) c, fun _ => ?_⟩⟩
      refine c_Mo_suesOf hR ⟨_, I1, J, R, rfl, rfl, hR, ?_⟩
      refine c_Mo_suesOf hR ⟨_, I1, J, R, rfl, rfl, hR, ?_⟩
      refine ⟨fun c => nx0 (sp_i4f1 c), fun c => ?_⟩
      refine c_Mo_suesOf hR ⟨_, I1, J, R, rfl, rfl, hR, ?_⟩
      refine c_Mo_suesOf hR ⟨_, I1, J, R, rfl, rfl, hR, ?_⟩
      refine ⟨fun c2 => ?_, fun c2 => nx0 (sp_i4f2 (Int32.not_le.mp c2))⟩
      have hb : sp_ir x 3 = true := sp_i4t c (Int32.not_lt.mpr c2)
      exact ⟨fun c3 => nx1 hb c3, fun c3 I6 e6 => nx2 hb c3 I6 e6⟩
end GAME
section PUB59
variable {d : Nat} {I : Nat → Nat → Int32} {R : Nat → Nat → Option Nat} {T : sp_T} {V : sp_V}
theorem rc_sues {n : Nat} {y z u : Int32} (hR : ow_RF R) (hC : sp_CN I T V) (hT : st_ok T) (hV : st_now T V) (hn : n ≤ 9) : sp_rc M_Fs_sues (d + 12) [.ref 0, .int (nI n), .int y, .int z, .int u] I R (some (.int (if u = 0 then sp_gn (nI n) y z else sp_gn (nI n) z y))) 0 := by
  intro J Q hQ
  apply t_Fs_sues hR
  refine c_Fs_lacksShire hR hC.1 ?_
  intro I2 g0 g1
  have hC2 := sp_CN_k hC (sp_cm g0)
  refine ⟨_, I2, J, R, rfl, rfl, hR, ?_⟩
  first | refine ⟨fun _ => ?_, fun c => absurd rfl c⟩ | refine ⟨fun c => absurd rfl c, fun _ => ?_⟩
  refine c_Fs_isOutsideG (a := 0) (b := 9) hR (by decide) (by decide) ?_
  intro I3 k0 k1
  have hbt : sp_bt (nI n) 0 9 = true := sp_bt_of (Nat.zero_le _) hn (by decide)
  rw [hbt] at k1 ⊢
  rw [if_pos rfl] at k1
  have f3 : sp_fr sp_cS sp_cE I I3 := sp_fr_tr (sp_cm g0) (sp_cm k0)
  have hC3 := sp_CN_k hC f3
  refine ⟨_, I3, J, R, rfl, rfl, hR, ?_⟩
  first | refine ⟨fun _ => ?_, fun c => absurd rfl c⟩ | refine ⟨fun c => absurd rfl c, fun _ => ?_⟩
  refine ⟨fun c => ?_, fun c => ?_⟩
  · rw [if_pos c] at hQ
    exact c_Fs_gain hR ⟨_, I3, J, R, rfl, rfl, hR, hQ I3 J f3 k1⟩
  · rw [if_neg c] at hQ
    exact c_Fs_gain hR ⟨_, I3, J, R, rfl, rfl, hR, hQ I3 J f3 k1⟩
theorem rc_sues_z {z y t u : Int32} (hR : ow_RF R) (hC : sp_CN I T V) (hT : st_ok T) (hV : st_now T V) (hz : sp_bt z 0 9 = false) : sp_rc M_Fs_sues (d + 12) [.ref 0, .int z, .int y, .int t, .int u] I R (some (.int (-100))) 2 := by
  intro J Q hQ
  apply t_Fs_sues hR
  refine c_Fs_lacksShire hR hC.1 ?_
  intro I2 g0 g1
  have hC2 := sp_CN_k hC (sp_cm g0)
  refine ⟨_, I2, J, R, rfl, rfl, hR, ?_⟩
  first | refine ⟨fun _ => ?_, fun c => absurd rfl c⟩ | refine ⟨fun c => absurd rfl c, fun _ => ?_⟩
  refine c_Fs_isOutsideG (a := 0) (b := 9) hR (by decide) (by decide) ?_
  intro I3 k0 k1
  rw [hz] at k1 ⊢
  rw [if_neg (by decide)] at k1
  refine ⟨_, I3, J, R, rfl, rfl, hR, ?_⟩
  first | refine ⟨fun _ => ?_, fun c => absurd c (by decide)⟩ | refine ⟨fun c => absurd c (by decide), fun _ => ?_⟩
  exact hQ I3 J (sp_fr_tr (sp_cm g0) (sp_cm k0)) k1
theorem rm_sues {n : Nat} {y z u : Int32} (hR : ow_RF R) (hM : sp_MN I T V) (hT : st_ok T) (hV : st_now T V) (hn : n ≤ 9) : sp_rm M_Mo_sues (d + 12) [.ref 70, .int (nI n), .int y, .int z, .int u] I R (some (.int (if u = 0 then sp_gn (nI n) y z else sp_gn (nI n) z y))) 0 := by
  intro J Q hQ
  apply t_Mo_sues hR
  refine c_Mo_good hR ?_
  intro I2 g0 g1 g2
  refine ⟨I2, J, R, rfl, rfl, hR, ?_⟩
  have h2 := sp_MN_k hM (sp_mm g0)
  refine c_Mo_inG (a := 0) (b := 9) hR (by decide) (by decide) ?_
  refine ⟨_, I2, J, R, rfl, rfl, hR, ?_⟩
  rw [show I2 70 14 = sp_jb true from h2.1]
  refine c_Mo_why hR ?_
  refine ⟨_, I2, J, R, rfl, rfl, hR, ?_⟩
  have hbt : sp_bt (nI n) 0 9 = true := sp_bt_of (Nat.zero_le _) hn (by decide)
  rw [hbt, if_pos rfl, if_pos rfl]
  first | refine ⟨fun _ => ?_, fun c => absurd rfl c⟩ | refine ⟨fun c => absurd rfl c, fun _ => ?_⟩
  refine ⟨fun c => ?_, fun c => ?_⟩
  · rw [if_pos c] at hQ
    exact c_Mo_suesOf hR ⟨_, I2, J, R, rfl, rfl, hR, hQ I2 J (sp_mm g0) g2⟩
  · rw [if_neg c] at hQ
    exact c_Mo_suesOf hR ⟨_, I2, J, R, rfl, rfl, hR, hQ I2 J (sp_mm g0) g2⟩
theorem rm_sues_z {z y t u : Int32} (hR : ow_RF R) (hM : sp_MN I T V) (hT : st_ok T) (hV : st_now T V) (hz : sp_bt z 0 9 = false) : sp_rm M_Mo_sues (d + 12) [.ref 70, .int z, .int y, .int t, .int u] I R (some (.int (-100))) 2 := by
  intro J Q hQ
  apply t_Mo_sues hR
  refine c_Mo_good hR ?_
  intro I2 g0 g1 g2
  refine ⟨I2, J, R, rfl, rfl, hR, ?_⟩
  have h2 := sp_MN_k hM (sp_mm g0)
  refine c_Mo_inG (a := 0) (b := 9) hR (by decide) (by decide) ?_
  refine ⟨_, I2, J, R, rfl, rfl, hR, ?_⟩
  rw [show I2 70 14 = sp_jb true from h2.1]
  refine c_Mo_why hR ?_
  refine ⟨_, I2, J, R, rfl, rfl, hR, ?_⟩
  rw [hz, if_pos rfl, if_neg (by decide)]
  first | refine ⟨fun _ => ?_, fun c => absurd c (by decide)⟩ | refine ⟨fun c => absurd c (by decide), fun _ => ?_⟩
  intro I9 e9
  exact hQ I9 J (sp_fr_tr (sp_mm g0) (sp_fr_ue e9 (by decide))) (by rw [e9, ow_u_at])
theorem rc_rests {n : Nat} (hR : ow_RF R) (hC : sp_CN I T V) (hT : st_ok T) (hV : st_now T V) (hn : n ≤ 9) : sp_rc M_Fs_rests (d + 12) [.ref 0, .int (nI n)] I R (some (.int (nI (sp_nr (nI n) 4)))) 0 := by
  intro J Q hQ
  apply t_Fs_rests hR
  refine c_Fs_lacksShire hR hC.1 ?_
  intro I2 g0 g1
  have hC2 := sp_CN_k hC (sp_cm g0)
  refine ⟨_, I2, J, R, rfl, rfl, hR, ?_⟩
  first | refine ⟨fun _ => ?_, fun c => absurd rfl c⟩ | refine ⟨fun c => absurd rfl c, fun _ => ?_⟩
  refine c_Fs_isOutsideG (a := 0) (b := 9) hR (by decide) (by decide) ?_
  intro I3 k0 k1
  have hbt : sp_bt (nI n) 0 9 = true := sp_bt_of (Nat.zero_le _) hn (by decide)
  rw [hbt] at k1 ⊢
  rw [if_pos rfl] at k1
  have f3 : sp_fr sp_cS sp_cE I I3 := sp_fr_tr (sp_cm g0) (sp_cm k0)
  have hC3 := sp_CN_k hC f3
  refine ⟨_, I3, J, R, rfl, rfl, hR, ?_⟩
  first | refine ⟨fun _ => ?_, fun c => absurd rfl c⟩ | refine ⟨fun c => absurd rfl c, fun _ => ?_⟩
  refine sp_up (σ := Unit) (N := 4) (G := fun i _ => ow_AW ow_Y0 (ow_Z Q) M_Fs_rests (d + 12) 0 0 24 [(1, .int (nI n)), (2, .int (nI (sp_nr (nI n) i))), (3, .int (nI i))] [] (85, I3, J, R) 0 0) (Inv := fun _ _ => True) ?_ ?_ 0 () (Nat.zero_le _) trivial
  · intro _ _
    apply t_Fs_rests_24 hR
    exact ⟨fun _ => hQ I3 J f3 k1, fun c => absurd (by decide) c⟩
  · intro i _ hi _ ih
    have K := ih () trivial
    rw [sp_nr] at K
    apply t_Fs_rests_24 hR
    rw [nI_1, nI_1]
    refine ⟨fun c => absurd c (nI_ge (a := i) (b := 4) hi (by decide)), fun _ => ?_⟩
    refine c_Fs_isRest hR hi ⟨_, I3, J, R, rfl, rfl, hR, ?_⟩
    cases hb : sp_ir (nI n) i with
    | false =>
      rw [hb, if_neg (by decide)] at K
      exact ⟨fun _ => K, fun c => absurd rfl c⟩
    | true =>
      rw [hb, if_pos rfl] at K
      exact ⟨fun c => absurd c (by decide), fun _ => K⟩
theorem rc_rests_z {z : Int32} (hR : ow_RF R) (hC : sp_CN I T V) (hT : st_ok T) (hV : st_now T V) (hz : sp_bt z 0 9 = false) : sp_rc M_Fs_rests (d + 12) [.ref 0, .int z] I R (some (.int (-1))) 2 := by
  intro J Q hQ
  apply t_Fs_rests hR
  refine c_Fs_lacksShire hR hC.1 ?_
  intro I2 g0 g1
  have hC2 := sp_CN_k hC (sp_cm g0)
  refine ⟨_, I2, J, R, rfl, rfl, hR, ?_⟩
  first | refine ⟨fun _ => ?_, fun c => absurd rfl c⟩ | refine ⟨fun c => absurd rfl c, fun _ => ?_⟩
  refine c_Fs_isOutsideG (a := 0) (b := 9) hR (by decide) (by decide) ?_
  intro I3 k0 k1
  rw [hz] at k1 ⊢
  rw [if_neg (by decide)] at k1
  refine ⟨_, I3, J, R, rfl, rfl, hR, ?_⟩
  first | refine ⟨fun _ => ?_, fun c => absurd c (by decide)⟩ | refine ⟨fun c => absurd c (by decide), fun _ => ?_⟩
  exact hQ I3 J (sp_fr_tr (sp_cm g0) (sp_cm k0)) k1
theorem rm_rests {n : Nat} (hR : ow_RF R) (hM : sp_MN I T V) (hT : st_ok T) (hV : st_now T V) (hn : n ≤ 9) : sp_rm M_Mo_rests (d + 12) [.ref 70, .int (nI n)] I R (some (.int (nI (sp_nr (nI n) 4)))) 0 := by
  intro J Q hQ
  apply t_Mo_rests hR
  refine c_Mo_good hR ?_
  intro I2 g0 g1 g2
  refine ⟨I2, J, R, rfl, rfl, hR, ?_⟩
  have h2 := sp_MN_k hM (sp_mm g0)
  refine c_Mo_inG (a := 0) (b := 9) hR (by decide) (by decide) ?_
  refine ⟨_, I2, J, R, rfl, rfl, hR, ?_⟩
  rw [show I2 70 14 = sp_jb true from h2.1]
  refine c_Mo_why hR ?_
  refine ⟨_, I2, J, R, rfl, rfl, hR, ?_⟩
  have hbt : sp_bt (nI n) 0 9 = true := sp_bt_of (Nat.zero_le _) hn (by decide)
  rw [hbt, if_pos rfl, if_pos rfl]
  first | refine ⟨fun _ => ?_, fun c => absurd rfl c⟩ | refine ⟨fun c => absurd rfl c, fun _ => ?_⟩
  refine c_Mo_seekRests hR ?_
  intro I4 k0 k1
  exact ⟨_, I4, J, R, rfl, rfl, hR, hQ I4 J (sp_fr_tr (sp_mm g0) (sp_fr_mono k0 (by decide) (by decide))) (by rw [k0 70 (by decide) 11 (by decide)]; exact g2)⟩
theorem rm_rests_z {z : Int32} (hR : ow_RF R) (hM : sp_MN I T V) (hT : st_ok T) (hV : st_now T V) (hz : sp_bt z 0 9 = false) : sp_rm M_Mo_rests (d + 12) [.ref 70, .int z] I R (some (.int (-1))) 2 := by
  intro J Q hQ
  apply t_Mo_rests hR
  refine c_Mo_good hR ?_
  intro I2 g0 g1 g2
  refine ⟨I2, J, R, rfl, rfl, hR, ?_⟩
  have h2 := sp_MN_k hM (sp_mm g0)
  refine c_Mo_inG (a := 0) (b := 9) hR (by decide) (by decide) ?_
  refine ⟨_, I2, J, R, rfl, rfl, hR, ?_⟩
  rw [show I2 70 14 = sp_jb true from h2.1]
  refine c_Mo_why hR ?_
  refine ⟨_, I2, J, R, rfl, rfl, hR, ?_⟩
  rw [hz, if_pos rfl, if_neg (by decide)]
  first | refine ⟨fun _ => ?_, fun c => absurd c (by decide)⟩ | refine ⟨fun c => absurd c (by decide), fun _ => ?_⟩
  refine c_Mo_no hR ?_
  intro I9 n3 n4
  exact ⟨_, I9, J, R, rfl, rfl, hR, hQ I9 J (sp_fr_tr (sp_mm g0) (sp_mm1 n3)) n4⟩
theorem rc_rest {n : Nat} (hR : ow_RF R) (hC : sp_CN I T V) (hT : st_ok T) (hV : st_now T V) (hn : n ≤ 9) : sp_rc M_Fs_rest (d + 12) [.ref 0, .int (nI n)] I R (some (.int (sp_r1 (nI n) 4))) 0 := by
  intro J Q hQ
  apply t_Fs_rest hR
  refine c_Fs_lacksShire hR hC.1 ?_
  intro I2 g0 g1
  have hC2 := sp_CN_k hC (sp_cm g0)
  refine ⟨_, I2, J, R, rfl, rfl, hR, ?_⟩
  first | refine ⟨fun _ => ?_, fun c => absurd rfl c⟩ | refine ⟨fun c => absurd rfl c, fun _ => ?_⟩
  refine c_Fs_isOutsideG (a := 0) (b := 9) hR (by decide) (by decide) ?_
  intro I3 k0 k1
  have hbt : sp_bt (nI n) 0 9 = true := sp_bt_of (Nat.zero_le _) hn (by decide)
  rw [hbt] at k1 ⊢
  rw [if_pos rfl] at k1
  have f3 : sp_fr sp_cS sp_cE I I3 := sp_fr_tr (sp_cm g0) (sp_cm k0)
  have hC3 := sp_CN_k hC f3
  refine ⟨_, I3, J, R, rfl, rfl, hR, ?_⟩
  first | refine ⟨fun _ => ?_, fun c => absurd rfl c⟩ | refine ⟨fun c => absurd rfl c, fun _ => ?_⟩
  refine sp_up (σ := Unit) (N := 4) (G := fun i _ => ow_AW ow_Y0 (ow_Z Q) M_Fs_rest (d + 12) 0 0 22 [(1, .int (nI n)), (2, .int (nI i))] [] (85, I3, J, R) 0 0) (Inv := fun i _ => sp_nr (nI n) i = 0) ?_ ?_ 0 () (Nat.zero_le _) rfl
  · intro _ h0
    apply t_Fs_rest_22 hR
    rw [sp_r1_0 4 h0] at hQ
    exact ⟨fun _ => hQ I3 J f3 k1, fun c => absurd (by decide) c⟩
  · intro i _ hi h0 ih
    apply t_Fs_rest_22 hR
    rw [nI_1]
    refine ⟨fun c => absurd c (nI_ge (a := i) (b := 4) hi (by decide)), fun _ => ?_⟩
    refine c_Fs_isRest hR hi ⟨_, I3, J, R, rfl, rfl, hR, ?_⟩
    cases hb : sp_ir (nI n) i with
    | false => exact ⟨fun _ => ih () (by rw [sp_nr, if_neg (by rw [hb]; decide), h0]), fun c => absurd rfl c⟩
    | true =>
      refine ⟨fun c => absurd c (by decide), fun _ => ?_⟩
      rw [sp_r1_at hi h0 hb] at hQ
      rw [sp_half (by omega), sp_low (by omega), show (10 : Int32) * nI (i / 2) = nI (10 * (i / 2)) from pk_mul 10 _, nI_add]
      exact hQ I3 J f3 k1
theorem rc_rest_z {z : Int32} (hR : ow_RF R) (hC : sp_CN I T V) (hT : st_ok T) (hV : st_now T V) (hz : sp_bt z 0 9 = false) : sp_rc M_Fs_rest (d + 12) [.ref 0, .int z] I R (some (.int (-1))) 2 := by
  intro J Q hQ
  apply t_Fs_rest hR
  refine c_Fs_lacksShire hR hC.1 ?_
  intro I2 g0 g1
  have hC2 := sp_CN_k hC (sp_cm g0)
  refine ⟨_, I2, J, R, rfl, rfl, hR, ?_⟩
  first | refine ⟨fun _ => ?_, fun c => absurd rfl c⟩ | refine ⟨fun c => absurd rfl c, fun _ => ?_⟩
  refine c_Fs_isOutsideG (a := 0) (b := 9) hR (by decide) (by decide) ?_
  intro I3 k0 k1
  rw [hz] at k1 ⊢
  rw [if_neg (by decide)] at k1
  refine ⟨_, I3, J, R, rfl, rfl, hR, ?_⟩
  first | refine ⟨fun _ => ?_, fun c => absurd c (by decide)⟩ | refine ⟨fun c => absurd c (by decide), fun _ => ?_⟩
  exact hQ I3 J (sp_fr_tr (sp_cm g0) (sp_cm k0)) k1
theorem rm_rest {n : Nat} (hR : ow_RF R) (hM : sp_MN I T V) (hT : st_ok T) (hV : st_now T V) (hn : n ≤ 9) : sp_rm M_Mo_rest (d + 12) [.ref 70, .int (nI n)] I R (some (.int (sp_r1 (nI n) 4))) 0 := by
  intro J Q hQ
  apply t_Mo_rest hR
  refine c_Mo_good hR ?_
  intro I2 g0 g1 g2
  refine ⟨I2, J, R, rfl, rfl, hR, ?_⟩
  have h2 := sp_MN_k hM (sp_mm g0)
  refine c_Mo_inG (a := 0) (b := 9) hR (by decide) (by decide) ?_
  refine ⟨_, I2, J, R, rfl, rfl, hR, ?_⟩
  rw [show I2 70 14 = sp_jb true from h2.1]
  refine c_Mo_why hR ?_
  refine ⟨_, I2, J, R, rfl, rfl, hR, ?_⟩
  have hbt : sp_bt (nI n) 0 9 = true := sp_bt_of (Nat.zero_le _) hn (by decide)
  rw [hbt, if_pos rfl, if_pos rfl]
  first | refine ⟨fun _ => ?_, fun c => absurd rfl c⟩ | refine ⟨fun c => absurd rfl c, fun _ => ?_⟩
  refine c_Mo_seekRests hR ?_
  intro I4 k0 k1
  refine ⟨_, I4, J, R, rfl, rfl, hR, ?_⟩
  rw [k1]
  exact hQ I4 J (sp_fr_tr (sp_mm g0) (sp_fr_mono k0 (by decide) (by decide))) (by rw [k0 70 (by decide) 11 (by decide)]; exact g2)
theorem rm_rest_z {z : Int32} (hR : ow_RF R) (hM : sp_MN I T V) (hT : st_ok T) (hV : st_now T V) (hz : sp_bt z 0 9 = false) : sp_rm M_Mo_rest (d + 12) [.ref 70, .int z] I R (some (.int (-1))) 2 := by
  intro J Q hQ
  apply t_Mo_rest hR
  refine c_Mo_good hR ?_
  intro I2 g0 g1 g2
  refine ⟨I2, J, R, rfl, rfl, hR, ?_⟩
  have h2 := sp_MN_k hM (sp_mm g0)
  refine c_Mo_inG (a := 0) (b := 9) hR (by decide) (by decide) ?_
  refine ⟨_, I2, J, R, rfl, rfl, hR, ?_⟩
  rw [show I2 70 14 = sp_jb true from h2.1]
  refine c_Mo_why hR ?_
  refine ⟨_, I2, J, R, rfl, rfl, hR, ?_⟩
  rw [hz, if_pos rfl, if_neg (by decide)]
  first | refine ⟨fun _ => ?_, fun c => absurd c (by decide)⟩ | refine ⟨fun c => absurd c (by decide), fun _ => ?_⟩
  refine c_Mo_no hR ?_
  intro I9 n3 n4
  exact ⟨_, I9, J, R, rfl, rfl, hR, hQ I9 J (sp_fr_tr (sp_mm g0) (sp_mm1 n3)) n4⟩
end PUB59
