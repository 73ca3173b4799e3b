/-! Own rows: the reference's change. -/
theorem sp_ci_ge {V : sp_V} {eo : Nat → Nat} {f : Nat} {q : Nat × Option Nat} : ∀ k, sp_cnt V eo f 0 ≤ (sp_ci V eo f (k + 1) q).1 := by
  intro k
  induction k with
  | zero =>
    rw [sp_ci]
    by_cases h : (sp_ci V eo f 0 q).1 < sp_cnt V eo f 0
    · rw [if_pos h]; exact Nat.le_refl _
    · rw [if_neg h]; omega
  | succ k ih =>
    rw [sp_ci]
    by_cases h : (sp_ci V eo f (k + 1) q).1 < sp_cnt V eo f (k + 1)
    · rw [if_pos h]; show _ ≤ sp_cnt V eo f (k + 1); omega
    · rw [if_neg h]; exact ih
theorem sp_ci_skip {V : sp_V} {eo : Nat → Nat} {f : Nat} {q : Nat × Option Nat} : sp_ci V eo f (f + 1 + 1) q = sp_ci V eo f (f + 1) q := by
  have e : sp_cnt V eo f (f + 1) = sp_cnt V eo f 0 := by
    unfold sp_cnt
    rw [if_pos (Or.inr rfl), if_pos (Or.inl rfl)]
  rw [sp_ci, if_neg]
  rw [e]
  exact Nat.not_lt.mpr (sp_ci_ge f)
def sp_chP (b : Nat) (q : Nat × Option Nat) : Prop := (q.2 = none ∧ q.1 = b) ∨ ∃ x, q.2 = some x ∧ b < q.1
theorem sp_ci_P {V : sp_V} {eo : Nat → Nat} {f b : Nat} {q : Nat × Option Nat} (h : sp_chP b q) : ∀ k, sp_chP b (sp_ci V eo f k q) := by
  intro k
  induction k with
  | zero => exact h
  | succ k ih =>
    rw [sp_ci]
    by_cases hc : (sp_ci V eo f k q).1 < sp_cnt V eo f k
    · rw [if_pos hc]
      refine Or.inr ⟨_, rfl, ?_⟩
      show b < sp_cnt V eo f k
      rcases ih with ⟨_, i⟩ | ⟨x, _, i⟩ <;> omega
    · rw [if_neg hc]; exact ih
theorem sp_co_P {V : sp_V} {eo : Nat → Nat} : ∀ f, sp_chP (sp_pc (sp_bits V eo)) (sp_co V eo f) := by
  intro f
  induction f with
  | zero => exact Or.inl ⟨rfl, rfl⟩
  | succ f ih => rw [sp_co]; exact sp_ci_P ih _
def sp_ts (q : Nat × Option Nat) : Int32 := match q.2 with
  | none => -2
  | some _ => nI q.1
section MO5
variable {d : Nat} {I : Nat → Nat → Int32} {J : Nat → Nat → Int64} {R : Nat → Nat → Option Nat} {Q : Option Value → ow_H → Prop} {V : sp_V} {ne : Nat} {ef : Nat → Nat}
theorem c_Mo_changeOf (hR : ow_RF R) (hw : sp_Mw I 77 V) (hq : sp_Mq I V) (hT : sp_MT I V ne ef) (hV : sp_ok V)
    (hQ : ∀ I2 : Nat → Nat → Int32, sp_fr (80 :: sp_gS) sp_gE I I2 → I2 70 32 = sp_ts (sp_co V (sp_eo ne ef) (sp_n V)) → Q (some (.int (sp_on (sp_co V (sp_eo ne ef) (sp_n V)).2))) (85, I2, J, R)) : ow_AM M_Mo_changeOf (d + 7) [.ref 70] (85, I, J, R) Q := by
  have hn6 := hV.1
  have hO : sp_eok V (sp_eo ne ef) := sp_eo_ok hT.2.2.1
  apply t_Mo_changeOf hR
  refine c_Mo_asToldShapes hR hT.1 hn6 hq ?_
  intro I2 g0 g1
  refine ⟨I2, J, R, rfl, rfl, hR, ?_⟩
  have hB : sp_MB I2 V ne ef := ⟨sp_Mw_k hw (g0 77 (by decide)), g1, sp_MT_k hT (g0 73 (by decide))⟩
  have g0' : sp_fr (80 :: sp_gS) sp_gE I I2 := sp_fr_mono (E := []) (sp_frq g0) (by decide) (by decide)
  have ext : ∀ {I3 : Nat → Nat → Int32}, sp_fr sp_gS sp_gE I2 I3 → sp_fr (80 :: sp_gS) sp_gE I I3 := fun h => sp_fr_tr g0' (sp_fr_mono h (by decide) (by decide))
  refine c_Mo_servedOn hR (by decide) (sp_MB_r hB) hB.2.2 hV ?_
  intro I3 g3
  refine ⟨_, I3, J, R, rfl, rfl, hR, ?_⟩
  have hlt := sp_bits_lt hV hO
  refine c_Mo_ones hR (Nat.lt_trans hlt (by decide)) ⟨_, I3, J, R, rfl, rfl, hR, ?_⟩
  intro I4 e4
  have f4 : sp_fr sp_gS sp_gE I2 I4 := sp_fr_tr (sp_g1 g3) (sp_fr_ue e4 (by decide))
  have x4 : I4 70 32 = nI (sp_pc (sp_bits V (sp_eo ne ef))) := by rw [e4, ow_u_at]; rfl
  rw [x4]
  refine sp_up (N := sp_n V) (G := fun i I1 => ow_AW ow_Y0 (ow_Z Q) M_Mo_changeOf (d + 7) 0 0 29 [(0, .ref 70), (1, .int (sp_on (sp_co V (sp_eo ne ef) i).2)), (2, .int (nI (sp_pc (sp_bits V (sp_eo ne ef))))), (3, .int (nI i))] [] (85, I1, J, R) 0 0) (Inv := fun i I1 => sp_fr sp_gS sp_gE I2 I1 ∧ I1 70 32 = nI (sp_co V (sp_eo ne ef) i).1) ?_ ?_ 0 I4 (Nat.zero_le _) ⟨f4, x4⟩
  · intro I1 ⟨he, x⟩
    have hB1 := sp_MB_k hB he
    have l1 := sp_co_le hV hO (sp_n V)
    have l2 := sp_pc_le5 _ hlt
    apply t_Mo_changeOf_29 hR
    rw [hB1.2.2.1, x]
    refine ⟨fun _ => ⟨fun c => hQ I1 (ext he) ?_, fun c I5 e5 => hQ I5 (ext (sp_fr_tr he (sp_fr_ue e5 (by decide)))) ?_⟩, fun c => absurd (Int32.le_refl _) c⟩
    · rw [x]
      rcases sp_co_P (V := V) (eo := sp_eo ne ef) (sp_n V) with ⟨_, h⟩ | ⟨y, h, _⟩
      · exact absurd (by rw [h]) c
      · unfold sp_ts; rw [h]
    · rw [e5, ow_u_at]
      have c2 := (nI_eq (by omega) (by omega)).mp c
      rcases sp_co_P (V := V) (eo := sp_eo ne ef) (sp_n V) with ⟨h, _⟩ | ⟨y, _, h⟩
      · unfold sp_ts; rw [h]
      · omega
  · intro i I1 hi ⟨he, x⟩ ih
    have hB1 := sp_MB_k hB he
    apply t_Mo_changeOf_29 hR
    rw [hB1.2.2.1]
    refine ⟨fun c => absurd c (nI_ge hi (by omega)), fun _ => ?_⟩
    have hci := sp_ci_le hV hO (f := i) (eo := sp_eo ne ef)
    have hco := sp_co_le hV hO i
    refine sp_up (N := sp_n V + 1) (G := fun k I5 => ow_AW ow_Y0 (ow_Z Q) M_Mo_changeOf (d + 7) 0 0 42 [(0, .ref 70), (1, .int (sp_on (sp_ci V (sp_eo ne ef) i k (sp_co V (sp_eo ne ef) i)).2)), (2, .int (nI (sp_pc (sp_bits V (sp_eo ne ef))))), (3, .int (nI i)), (4, .int (sp_km k))] [] (85, I5, J, R) 0 0) (Inv := fun k I5 => sp_fr sp_gS sp_gE I2 I5 ∧ I5 70 32 = nI (sp_ci V (sp_eo ne ef) i k (sp_co V (sp_eo ne ef) i)).1) ?_ ?_ 0 I1 (Nat.zero_le _) ⟨he, x⟩
    · intro I5 ⟨he5, x5⟩
      have hB5 := sp_MB_k hB he5
      apply t_Mo_changeOf_42 hR
      rw [hB5.2.2.1, nI_1]
      exact ⟨fun _ => ih I5 ⟨he5, x5⟩, fun c => absurd (Int32.le_refl _) c⟩
    · intro k I5 hk ⟨he5, x5⟩ ih5
      have hB5 := sp_MB_k hB he5
      have l5 := hci k (sp_co V (sp_eo ne ef) i) (by omega) hco
      have lc := sp_cnt_le hV hO (f := i) (k := k) (eo := sp_eo ne ef) (by omega)
      have two : ∀ (t : Nat) (y : Int32), t < sp_n V → sp_pc (sp_bits (sp_send V i (sp_swt i t)) (sp_eo ne ef)) = sp_cnt V (sp_eo ne ef) i k → y = nI (10 * i + (if k = 0 then i else k - 1)) → ow_AM M_Mo_servedWith (d + 6) [.ref 70, .int (nI i), .int (nI t)] (85, I5, J, R) (fun r h' => ∃ (r6 : Int32) (I6 : Nat → Nat → Int32) (J6 : Nat → Nat → Int64) (R6 : Nat → Nat → Option Nat), r = some (.int r6) ∧ h' = (85, I6, J6, R6) ∧ ow_RF R6 ∧ (((I6 70 32) < r6 → (ow_AM M_Mo_servedWith (d + 6) [.ref 70, .int (nI i), .int (nI t)] (85, I6, J6, R6) (fun r h' => ∃ (r7 : Int32) (I7 : Nat → Nat → Int32) (J7 : Nat → Nat → Int64) (R7 : Nat → Nat → Option Nat), r = some (.int r7) ∧ h' = (85, I7, J7, R7) ∧ ow_RF R7 ∧ (∀ (I8 : Nat → Nat → Int32), I8 = ow_u I7 70 32 r7 → ow_AW ow_Y0 (ow_Z Q) M_Mo_changeOf (d + 7) 0 0 42 [(0, .ref 70), (1, .int y), (2, .int (nI (sp_pc (sp_bits V (sp_eo ne ef))))), (3, .int (nI i)), (4, .int (sp_km (k + 1)))] [] (85, I8, J7, R7) 0 0)))) ∧ (¬ (I6 70 32) < r6 → ow_AW ow_Y0 (ow_Z Q) M_Mo_changeOf (d + 7) 0 0 42 [(0, .ref 70), (1, .int (sp_on (sp_ci V (sp_eo ne ef) i k (sp_co V (sp_eo ne ef) i)).2)), (2, .int (nI (sp_pc (sp_bits V (sp_eo ne ef))))), (3, .int (nI i)), (4, .int (sp_km (k + 1)))] [] (85, I6, J6, R6) 0 0))) := by
        intro t y ht hc hy
        refine c_Mo_servedWith hR hB5.1 hB5.2.1 hB5.2.2 hV hi ht ?_
        intro I6 g6
        refine ⟨_, I6, J, R, rfl, rfl, hR, ?_⟩
        have he6 := sp_fr_tr he5 (sp_g2 g6)
        have hB6 := sp_MB_k hB he6
        have x6 : I6 70 32 = nI (sp_ci V (sp_eo ne ef) i k (sp_co V (sp_eo ne ef) i)).1 := by rw [g6 70 (by decide) 32 (by decide)]; exact x5
        rw [x6, hc]
        refine ⟨fun c => ?_, fun c => ?_⟩
        · have c2 := (nI_ltI (by omega) (by omega)).mp c
          refine c_Mo_servedWith hR hB6.1 hB6.2.1 hB6.2.2 hV hi ht ?_
          intro I7 g7
          refine ⟨_, I7, J, R, rfl, rfl, hR, ?_⟩
          intro I8 e8
          rw [hc] at e8
          have he8 := sp_fr_tr (sp_fr_tr he6 (sp_g2 g7)) (sp_fr_ue e8 (by decide))
          have K := ih5 I8 ⟨he8, by rw [sp_ci, if_pos c2, e8, ow_u_at]⟩
          rw [sp_ci, if_pos c2] at K
          rw [hy]
          exact K
        · have c2 : ¬ (sp_ci V (sp_eo ne ef) i k (sp_co V (sp_eo ne ef) i)).1 < sp_cnt V (sp_eo ne ef) i k := fun z => c ((nI_ltI (by omega) (by omega)).mpr z)
          have K := ih5 I6 ⟨he6, by rw [sp_ci, if_neg c2]; exact x6⟩
          rw [sp_ci, if_neg c2] at K
          exact K
      apply t_Mo_changeOf_42 hR
      rw [hB5.2.2.1, sp_km_1]
      rcases Nat.eq_zero_or_pos k with h0 | h0
      · subst h0
        have hm1 : sp_km 0 = -1 := rfl
        rw [hm1] at *
        refine ⟨fun c => absurd (Int32.le_trans (nI_pos' (by omega)) c) (by decide), fun _ => ⟨fun c => absurd c (by decide), fun _ => ⟨fun c => absurd c ?_, fun _ => ?_⟩⟩⟩
        · intro z
          have := nI_pos' (n := i) (by omega)
          rw [← z] at this
          exact absurd this (by decide)
        · refine two i _ hi ?_ ?_
          · unfold sp_cnt sp_swt; rw [if_pos rfl, if_pos (Or.inl rfl)]
          · rw [show (10 : Int32) * nI i = nI (10 * i) from pk_mul 10 i, nI_add]; rfl
      · rw [sp_km_p h0]
        refine ⟨fun c => absurd c (nI_ge (by omega) (by omega)), fun _ => ⟨fun _ => ⟨fun c => ?_, fun c => ?_⟩, fun c => absurd (nI_pos' (by omega)) c⟩⟩
        · have c2 : k = i + 1 := by have := (nI_eq (by omega) (by omega)).mp c; omega
          subst c2
          have K := ih5 I5 ⟨he5, by rw [sp_ci_skip]; exact x5⟩
          rw [sp_ci_skip] at K
          exact K
        · have c2 : ¬ k - 1 = i := fun z => c (by rw [z])
          refine two (k - 1) _ (by omega) ?_ ?_
          · unfold sp_cnt sp_swt; rw [if_neg c2, if_neg (by omega), show k - 1 + 1 = k by omega]
          · rw [show (10 : Int32) * nI i = nI (10 * i) from pk_mul 10 i, nI_add, if_neg (by omega)]
end MO5
