/-! Own rows: counting over the fits. -/
def sp_ck (T : sp_T) (p : Nat → Bool) : Nat → Nat
  | 0 => 0
  | k + 1 => sp_ck T p k + (if sp_fitb T k = true ∧ p k = true then 1 else 0)
def sp_cn (p : Nat → Bool) (L : List Nat) : Nat → Nat
  | 0 => 0
  | i + 1 => sp_cn p L i + (if p (L.getD i 0) = true then 1 else 0)
theorem sp_cn_ext {p : Nat → Bool} {L M : List Nat} : ∀ i, (∀ j, j < i → L.getD j 0 = M.getD j 0) → sp_cn p L i = sp_cn p M i := by
  intro i
  induction i with
  | zero => intro _; rfl
  | succ i ih => intro h; rw [sp_cn, sp_cn, ih (fun j hj => h j (by omega)), h i (by omega)]
theorem sp_cn_ck {T : sp_T} {p : Nat → Bool} : ∀ k, sp_cn p (sp_flk T k) (sp_flk T k).length = sp_ck T p k := by
  intro k
  induction k with
  | zero => rfl
  | succ k ih =>
    rw [sp_ck, ← ih]
    by_cases h : sp_fitb T k = true
    · have es : sp_flk T (k + 1) = sp_flk T k ++ [k] := by rw [sp_flk_s, if_pos h]
      rw [es, List.length_append]
      show sp_cn p (sp_flk T k ++ [k]) ((sp_flk T k).length + 1) = _
      rw [sp_cn, sp_gd2, sp_cn_ext (M := sp_flk T k) _ (fun j hj => sp_gd hj)]
      congr 1
      by_cases hp : p k = true
      · rw [if_pos hp, if_pos ⟨h, hp⟩]
      · rw [if_neg hp, if_neg (fun q => hp q.2)]
    · have es : sp_flk T (k + 1) = sp_flk T k := by rw [sp_flk_s, if_neg h, List.append_nil]
      rw [es, if_neg (fun q => h q.1), Nat.add_zero]
theorem sp_ck_le {T : sp_T} {p : Nat → Bool} : ∀ k, sp_ck T p k ≤ k := by
  intro k
  induction k with
  | zero => exact Nat.le_refl _
  | succ k ih => rw [sp_ck]; split <;> omega
theorem sp_cn_le {p : Nat → Bool} {L : List Nat} : ∀ k, sp_cn p L k ≤ k := by
  intro k
  induction k with
  | zero => exact Nat.le_refl _
  | succ k ih => rw [sp_cn]; split <;> omega
def sp_ox : Option (Nat × Bool) → Nat
  | none => 2
  | some q => q.2.toNat
theorem sp_ox_3 (q : Option (Nat × Bool)) : sp_ox q < 3 := by
  cases q with
  | none => decide
  | some q =>
    obtain ⟨g, b⟩ := q
    cases b with
    | false => exact (by decide : (0 : Nat) < 3)
    | true => exact (by decide : (1 : Nat) < 3)
/-- does the letter l come back so by the code c: 0 no, 1 yes, 2 lost -/
def sp_op (T : sp_T) (l o c : Nat) : Bool := decide (sp_ox (sp_gl (sp_wr T c) l).2.2 = o)
def sp_mx (a b c : Nat) : Nat := max a (max b c)
/-- how many are left at most behind the letter l -/
def sp_ml (T : sp_T) (l : Nat) : Nat := sp_mx (sp_ck T (sp_op T l 0) (sp_nf T)) (sp_ck T (sp_op T l 1) (sp_nf T)) (sp_ck T (sp_op T l 2) (sp_nf T))
def sp_tf (T : sp_T) : Nat → Option (Nat × Nat)
  | 0 => none
  | l + 1 => match sp_tf T l with
    | none => some (l, sp_ml T l)
    | some q => if sp_ml T l < q.2 then some (l, sp_ml T l) else some q
def sp_try (T : sp_T) : Option (Nat × Nat) := if (sp_flk T (sp_nf T)).length = 0 then none else sp_tf T (2 * st_n T)
theorem sp_mxI {a b c : Nat} (ha : a < 1000) (hb : b < 1000) (hc : c < 1000) : (if nI a < (if nI b < nI c then nI c else nI b) then (if nI b < nI c then nI c else nI b) else nI a) = nI (sp_mx a b c) := by
  have e1 : (if nI b < nI c then nI c else nI b) = nI (max b c) := by
    by_cases h : b < c
    · rw [if_pos (nI_lt h (by omega)), Nat.max_eq_right (by omega)]
    · rw [if_neg (nI_nlt (by omega) (by omega)), Nat.max_eq_left (by omega)]
  rw [e1]
  unfold sp_mx
  have hm : max b c < 1000 := by omega
  by_cases h : a < max b c
  · rw [if_pos (nI_lt h (by omega)), Nat.max_eq_right (a := a) (b := max b c) (by omega)]
  · rw [if_neg (nI_nlt (by omega) (by omega)), Nat.max_eq_left (a := a) (b := max b c) (by omega)]
theorem sp_ml_le {T : sp_T} {l : Nat} : sp_ml T l ≤ sp_nf T := by
  unfold sp_ml sp_mx
  have h0 := sp_ck_le (T := T) (p := sp_op T l 0) (sp_nf T)
  have h1 := sp_ck_le (T := T) (p := sp_op T l 1) (sp_nf T)
  have h2 := sp_ck_le (T := T) (p := sp_op T l 2) (sp_nf T)
  omega
theorem sp_ck3 {T : sp_T} {l : Nat} : ∀ k, sp_ck T (sp_op T l 0) k + sp_ck T (sp_op T l 1) k + sp_ck T (sp_op T l 2) k = (sp_flk T k).length := by
  intro k
  induction k with
  | zero => rfl
  | succ k ih =>
    rw [sp_ck, sp_ck, sp_ck, sp_flk_s, List.length_append, ← ih]
    by_cases h : sp_fitb T k = true
    · rw [if_pos h]
      have h3 := sp_ox_3 (sp_gl (sp_wr T k) l).2.2
      unfold sp_op
      simp only [h, decide_eq_true_eq, true_and]
      show _ = _ + 1
      by_cases e0 : sp_ox (sp_gl (sp_wr T k) l).2.2 = 0
      · rw [if_pos e0, if_neg (by omega), if_neg (by omega)]; omega
      · by_cases e1 : sp_ox (sp_gl (sp_wr T k) l).2.2 = 1
        · rw [if_neg e0, if_pos e1, if_neg (by omega)]; omega
        · rw [if_neg e0, if_neg e1, if_pos (by omega)]; omega
    · rw [if_neg h, if_neg (fun q => h q.1), if_neg (fun q => h q.1), if_neg (fun q => h q.1)]; rfl
theorem sp_ml_0 {T : sp_T} {l : Nat} : sp_ml T l = 0 ↔ (sp_flk T (sp_nf T)).length = 0 := by
  have := sp_ck3 (T := T) (l := l) (sp_nf T)
  unfold sp_ml sp_mx
  omega
theorem sp_tf_b {T : sp_T} : ∀ l q, sp_tf T l = some q → q.1 < l ∧ q.2 ≤ sp_nf T := by
  intro l
  induction l with
  | zero => intro q h; cases h
  | succ l ih =>
    intro q h
    rw [sp_tf] at h
    cases hq : sp_tf T l with
    | none =>
      rw [hq] at h
      injection h with h
      subst h
      exact ⟨Nat.lt_succ_self _, sp_ml_le⟩
    | some z =>
      rw [hq] at h
      dsimp only at h
      by_cases hz : sp_ml T l < z.2
      · rw [if_pos hz] at h
        injection h with h
        subst h
        exact ⟨Nat.lt_succ_self _, sp_ml_le⟩
      · rw [if_neg hz] at h
        injection h with h
        subst h
        have := ih z hq
        exact ⟨by omega, this.2⟩
section FITS2
variable {d : Nat} {I : Nat → Nat → Int32} {J : Nat → Nat → Int64} {R : Nat → Nat → Option Nat} {Q : Option Value → ow_H → Prop} {T : sp_T}
theorem c_Fits_shapeBy {code k : Nat} (hR : ow_RF R) (h7 : I 2 7 = nI (st_nv T)) (hT : st_ok T) (hc : code < sp_nf T) (hk : k < st_nv T) (hQ : Q (some (.int (nI (sp_shp (st_nv T) code k)))) (85, I, J, R)) : ow_AM M_Fits_shapeBy (d + 1) [.ref 54, .int (nI code), .int (nI k)] (85, I, J, R) Q := by
  have hnv := hT.2.2.2.2.2.2.2.1
  have hnf := sp_nf_le hT
  apply t_Fits_shapeBy hR
  rw [nI_1]
  have K : ∀ (m j : Nat), j + m = st_nv T → k + 1 ≤ j → ow_AW ow_Y0 (ow_Z Q) M_Fits_shapeBy (d + 1) 0 0 7 [(0, .ref 54), (3, .int (nI (code / 5 ^ (j - (k + 1))))), (4, .int (nI j))] [] (85, I, J, R) 0 0 := by
    intro m
    induction m with
    | zero =>
      intro j hj hkj
      have hb : code / 5 ^ (j - (k + 1)) < 1000 := Nat.lt_of_le_of_lt (Nat.div_le_self _ _) (by omega)
      apply t_Fits_shapeBy_7 hR
      rw [h7, show j = st_nv T by omega]
      refine ⟨fun _ => ?_, fun c => absurd (Int32.le_refl _) c⟩
      rw [show (5 : Int32) = nI 5 from rfl, pk_rem (Nat.lt_of_le_of_lt (Nat.div_le_self _ _) (by omega)) (by decide) (by decide)]
      unfold sp_shp at hQ
      rw [show st_nv T - 1 - k = st_nv T - (k + 1) by omega] at hQ
      exact hQ
    | succ m ih =>
      intro j hj hkj
      have hb : code / 5 ^ (j - (k + 1)) < 1000 := Nat.lt_of_le_of_lt (Nat.div_le_self _ _) (by omega)
      apply t_Fits_shapeBy_7 hR
      rw [h7]
      refine ⟨fun c => absurd c (nI_ge (by omega) (by omega)), fun _ => ?_⟩
      rw [show (5 : Int32) = nI 5 from rfl, pk_div (by omega) (by decide) (by decide), Nat.div_div_eq_div_mul, ← Nat.pow_succ, nI_1, show (j - (k + 1)).succ = j + 1 - (k + 1) by omega]
      exact ih (j + 1) (by omega) (by omega)
  have := K (st_nv T - (k + 1)) (k + 1) (by omega) (Nat.le_refl _)
  rw [Nat.sub_self, Nat.pow_zero, Nat.div_one] at this
  exact this
theorem c_Fits_countShaped {k s : Nat} (hR : ow_RF R) (h7 : I 2 7 = nI (st_nv T)) (hF : sp_FT I T) (hT : st_ok T) (hk : k < st_nv T) (hs : s < 5) (hQ : Q (some (.int (nI (sp_ck T (fun c => decide (sp_shp (st_nv T) c k = s)) (sp_nf T))))) (85, I, J, R)) : ow_AM M_Fits_countShaped (d + 2) [.ref 54, .int (nI k), .int (nI s)] (85, I, J, R) Q := by
  have hnf := sp_nf_le hT
  have hlen := sp_flk_len (T := T) (sp_nf T)
  apply t_Fits_countShaped hR
  rw [← sp_cn_ck] at hQ
  refine sp_up (σ := Unit) (N := (sp_flk T (sp_nf T)).length) (G := fun i _ => ow_AW ow_Y0 (ow_Z Q) M_Fits_countShaped (d + 2) 0 0 5 [(0, .ref 54), (1, .int (nI k)), (2, .int (nI s)), (3, .int (nI (sp_cn (fun c => decide (sp_shp (st_nv T) c k = s)) (sp_flk T (sp_nf T)) i))), (4, .int (nI i))] [] (85, I, J, R) 0 0) (Inv := fun _ _ => True) ?_ ?_ 0 () (Nat.zero_le _) trivial
  · intro _ _
    apply t_Fits_countShaped_5 hR
    rw [hF.1]
    exact ⟨fun _ => hQ, fun c => absurd (Int32.le_refl _) c⟩
  · intro i _ hi _ ih
    have K := ih () trivial
    rw [sp_cn] at K
    apply t_Fits_countShaped_5 hR
    rw [hF.1]
    refine ⟨fun c => absurd c (nI_ge hi (by omega)), fun _ => ⟨vp_in_nI (by omega) (by decide), ?_⟩⟩
    rw [sp_cl (by omega), hF.2 i hi]
    refine c_Fits_shapeBy hR h7 hT (sp_flk_in (sp_gd_mem hi)) hk ⟨_, I, J, R, rfl, rfl, hR, ?_⟩
    have hl := sp_shp_lt (nv := st_nv T) (code := (sp_flk T (sp_nf T)).getD i 0) (k := k)
    rw [nI_1, nI_1, nI_eq (by omega) (by omega)]
    refine ⟨fun c => ?_, fun c => ?_⟩
    · rw [if_neg (by rw [decide_eq_false c]; decide), Nat.add_zero] at K; exact K
    · rw [if_pos (decide_eq_true c)] at K; exact K
theorem c_Fits_mostLeftBy {l : Nat} (hR : ow_RF R) (hC : sp_ct I T) (hF : sp_FT I T) (h7 : sp_F7 I T) (hT : st_ok T) (hl : l < 2 * st_n T)
    (hQ : ∀ I2 : Nat → Nat → Int32, sp_eq [55, 56, 58] I I2 → sp_F7 I2 T → Q (some (.int (nI (sp_ml T l)))) (85, I2, J, R)) : ow_AM M_Fits_mostLeftBy (d + 3) [.ref 54, .int (nI l)] (85, I, J, R) Q := by
  have hnf := sp_nf_le hT
  have hn6 : st_n T ≤ 6 := hT.1.1
  have hlen := sp_flk_len (T := T) (sp_nf T)
  have ctk : ∀ {I1 : Nat → Nat → Int32}, sp_eq [55, 56, 58] I I1 → sp_ct I1 T := fun h => sp_ct_k hC (sp_rows (sp_frq (E := []) h) _ (by decide))
  apply t_Fits_mostLeftBy hR
  refine sp_up (N := (sp_flk T (sp_nf T)).length) (G := fun i I1 => ow_AW ow_Y0 (ow_Z Q) M_Fits_mostLeftBy (d + 3) 0 0 7 [(0, .ref 54), (1, .int (nI l)), (2, .int (nI (sp_cn (sp_op T l 1) (sp_flk T (sp_nf T)) i))), (3, .int (nI (sp_cn (sp_op T l 0) (sp_flk T (sp_nf T)) i))), (4, .int (nI i))] [] (85, I1, J, R) 0 0) (Inv := fun _ I1 => sp_eq [55, 56, 58] I I1 ∧ sp_F7 I1 T) ?_ ?_ 0 I (Nat.zero_le _) ⟨sp_eq_rf, h7⟩
  · intro I1 ⟨f1, F1⟩
    apply t_Fits_mostLeftBy_7 hR
    have l0 := sp_ck_le (T := T) (p := sp_op T l 0) (sp_nf T)
    have l1 := sp_ck_le (T := T) (p := sp_op T l 1) (sp_nf T)
    have l2 := sp_ck_le (T := T) (p := sp_op T l 2) (sp_nf T)
    have l3 := sp_ck3 (T := T) (l := l) (sp_nf T)
    have e2 : nI (sp_flk T (sp_nf T)).length - nI (sp_ck T (sp_op T l 1) (sp_nf T)) - nI (sp_ck T (sp_op T l 0) (sp_nf T)) = nI (sp_ck T (sp_op T l 2) (sp_nf T)) := by
      rw [pk_sub (by omega), pk_sub (by omega)]
      congr 1
      omega
    have e3 : sp_mx (sp_ck T (sp_op T l 2) (sp_nf T)) (sp_ck T (sp_op T l 1) (sp_nf T)) (sp_ck T (sp_op T l 0) (sp_nf T)) = sp_ml T l := by
      unfold sp_ml sp_mx
      omega
    rw [sp_cn_ck, sp_cn_ck, f1 54 (by decide), hF.1, e2, sp_mxI (by omega) (by omega) (by omega), e3]
    exact ⟨fun _ => hQ I1 f1 F1, fun c => absurd (Int32.le_refl _) c⟩
  · intro i I1 hi ⟨f1, F1⟩ ih
    have hc := sp_flk_in (sp_gd_mem hi)
    apply t_Fits_mostLeftBy_7 hR
    rw [f1 54 (by decide), hF.1, sp_cl (by omega), f1 61 (by decide), hF.2 i hi]
    refine ⟨fun c => absurd c (nI_ge hi (by omega)), fun _ => ⟨vp_in_nI (by omega) (by decide), ?_⟩⟩
    refine c_Fits_wear hR (ctk f1) hT (by omega) F1 ?_
    intro I4 q0 q1
    refine ⟨I4, J, R, rfl, rfl, hR, ?_⟩
    rw [sp_low (by omega), sp_half (by omega)]
    generalize hcd : (sp_flk T (sp_nf T)).getD i 0 = code at *
    have L : ∀ (x : Int32), x = sp_jb (decide (l % 2 = 1)) → ow_AM M_Course_run (d + 2) [.ref 55, .ref 57, .int (nI (l / 2)), .int x] (85, I4, J, R) (fun r h' => ∃ (I5 : Nat → Nat → Int32) (J5 : Nat → Nat → Int64) (R5 : Nat → Nat → Option Nat), r = none ∧ h' = (85, I5, J5, R5) ∧ ow_RF R5 ∧ ((¬ (I5 55 4) = 1 → ((¬ (I5 55 4) = 0 → ow_AW ow_Y0 (ow_Z Q) M_Fits_mostLeftBy (d + 3) 0 0 7 [(0, .ref 54), (1, .int (nI l)), (2, .int (nI (sp_cn (sp_op T l 1) (sp_flk T (sp_nf T)) i))), (3, .int (nI (sp_cn (sp_op T l 0) (sp_flk T (sp_nf T)) i))), (4, .int (nI i + 1))] [] (85, I5, J5, R5) 0 0) ∧ ((I5 55 4) = 0 → ow_AW ow_Y0 (ow_Z Q) M_Fits_mostLeftBy (d + 3) 0 0 7 [(0, .ref 54), (1, .int (nI l)), (2, .int (nI (sp_cn (sp_op T l 1) (sp_flk T (sp_nf T)) i))), (3, .int (nI (sp_cn (sp_op T l 0) (sp_flk T (sp_nf T)) i) + 1)), (4, .int (nI i + 1))] [] (85, I5, J5, R5) 0 0))) ∧ ((I5 55 4) = 1 → ow_AW ow_Y0 (ow_Z Q) M_Fits_mostLeftBy (d + 3) 0 0 7 [(0, .ref 54), (1, .int (nI l)), (2, .int (nI (sp_cn (sp_op T l 1) (sp_flk T (sp_nf T)) i) + 1)), (3, .int (nI (sp_cn (sp_op T l 0) (sp_flk T (sp_nf T)) i))), (4, .int (nI i + 1))] [] (85, I5, J5, R5) 0 0))) := by
      intro x hx
      refine c_Course_run hR (by decide) (by decide) q1 (sp_wr_ok hT) (show l / 2 < st_n T by omega) hx ?_
      intro I5 g0 g1 g2 g3 g4 g5
      refine ⟨I5, J, R, rfl, rfl, hR, ?_⟩
      have f5 : sp_eq [55, 56, 58] I I5 := sp_eq_tr (sp_eq_tr f1 (sp_eq_mono q0 (by decide))) (sp_eq_mono g0 (by decide))
      have S5 : sp_S I5 57 (sp_wr T code) := sp_S_fr (by decide) q1 (sp_frq (E := []) g0) (by decide) (by decide)
      have nx := ih I5 ⟨f5, sp_F7_wr hT S5⟩
      have hop : ∀ o, sp_op T l o code = decide (sp_ox (sp_gl (sp_wr T code) l).2.2 = o) := fun _ => rfl
      rw [sp_cn, sp_cn, hcd, hop 1, hop 0] at nx
      have g4 : I5 55 4 = sp_out (sp_gl (sp_wr T code) l).2.2 := g4
      rw [g4, nI_1, nI_1, nI_1]
      cases hg : (sp_gl (sp_wr T code) l).2.2 with
      | none =>
        have hox : sp_ox (sp_gl (sp_wr T code) l).2.2 = 2 := by rw [hg]; rfl
        rw [hox, if_neg (by decide), if_neg (by decide), Nat.add_zero, Nat.add_zero] at nx
        exact ⟨fun _ => ⟨fun _ => nx, fun c => absurd c (by decide)⟩, fun c => absurd c (by decide)⟩
      | some q =>
        obtain ⟨g, b⟩ := q
        cases b with
        | false =>
          have hox : sp_ox (sp_gl (sp_wr T code) l).2.2 = 0 := by rw [hg]; rfl
          rw [hox, if_neg (by decide), if_pos (by decide), Nat.add_zero] at nx
          exact ⟨fun _ => ⟨fun c => absurd rfl c, fun _ => nx⟩, fun c => absurd c (show ¬ sp_jb false = 1 by decide)⟩
        | true =>
          have hox : sp_ox (sp_gl (sp_wr T code) l).2.2 = 1 := by rw [hg]; rfl
          rw [hox, if_pos (by decide), if_neg (by decide), Nat.add_zero] at nx
          exact ⟨fun c => absurd rfl c, fun _ => nx⟩
    rcases Nat.mod_two_eq_zero_or_one l with h2 | h2
    · rw [h2]
      exact ⟨fun _ => L 0 (by rw [h2]; rfl), fun c => absurd rfl c⟩
    · rw [h2]
      exact ⟨fun c => absurd c (by decide), fun _ => L 1 (by rw [h2]; rfl)⟩
theorem c_Fits_findTry (hR : ow_RF R) (hC : sp_ct I T) (hF : sp_FT I T) (hT : st_ok T)
    (hQ : ∀ I2 : Nat → Nat → Int32, sp_fr [55, 56, 57, 58, 59, 60] [(54, 5), (54, 6)] I I2 → I2 54 5 = sp_o1 (sp_try T) → I2 54 6 = sp_o2 (sp_try T) → Q none (85, I2, J, R)) : ow_AM M_Fits_findTry (d + 4) [.ref 54] (85, I, J, R) Q := by
  have hnf := sp_nf_le hT
  have hn6 : st_n T ≤ 6 := hT.1.1
  have hlen := sp_flk_len (T := T) (sp_nf T)
  have ctk : ∀ {I1 : Nat → Nat → Int32}, sp_fr [55, 56, 57, 58, 59, 60] [(54, 5), (54, 6)] I I1 → sp_ct I1 T := fun h => sp_ct_k hC (sp_rows h _ (by decide))
  have ftk : ∀ {I1 : Nat → Nat → Int32}, sp_fr [55, 56, 57, 58, 59, 60] [(54, 5), (54, 6)] I I1 → sp_FT I1 T := fun h => sp_FT_k hF (h 54 (by decide) 4 (by decide)) (sp_fr_row h (by decide) (by simp))
  apply t_Fits_findTry hR
  intro I9 e9 I10 e10
  have f10 : sp_fr [55, 56, 57, 58, 59, 60] [(54, 5), (54, 6)] I I10 := sp_fr_tr (sp_fr_ue e9 (by decide)) (sp_fr_ue e10 (by decide))
  have a6 : I10 54 5 = -2 := by rw [e10, ow_u_nk (by decide), e9, ow_u_at]
  have a7 : I10 54 6 = -2 := by rw [e10, ow_u_at]
  rw [(ftk f10).1]
  refine ⟨fun c => ?_, fun c => ?_⟩
  · have c2 : ¬ (sp_flk T (sp_nf T)).length = 0 := fun z => c (by rw [z]; rfl)
    have etry : sp_try T = sp_tf T (2 * st_n T) := by unfold sp_try; rw [if_neg c2]
    refine c_Scene_take hR (by decide) (by decide) (by decide) (ctk f10).2.2.2.2.2.1 hn6 ?_
    intro I11 m0 m1
    refine ⟨I11, J, R, rfl, rfl, hR, ?_⟩
    have f11 : sp_fr [55, 56, 57, 58, 59, 60] [(54, 5), (54, 6)] I I11 := sp_fr_tr f10 (sp_fr_mono (E := []) (sp_frq m0) (by decide) (by decide))
    have F11 : sp_F7 I11 T := ⟨sp_sh (st_v T), fun g hg => ⟨(hT.1.2.2.2 g hg).1, fun _ => rfl⟩, m1⟩
    refine sp_up (N := 2 * st_n T) (G := fun i I1 => ow_AW ow_Y0 (ow_Z Q) M_Fits_findTry (d + 4) 0 0 36 [(0, .ref 54), (1, .int (nI i))] [] (85, I1, J, R) 0 0) (Inv := fun i I1 => sp_fr [55, 56, 57, 58, 59, 60] [(54, 5), (54, 6)] I I1 ∧ sp_F7 I1 T ∧ I1 54 5 = sp_o1 (sp_tf T i) ∧ I1 54 6 = sp_o2 (sp_tf T i)) ?_ ?_ 0 I11 (Nat.zero_le _) ⟨f11, F11, by rw [m0 54 (by decide)]; exact a6, by rw [m0 54 (by decide)]; exact a7⟩
    · intro I1 ⟨f1, F1, y6, y7⟩
      apply t_Fits_findTry_36 hR
      rw [show I1 3 0 = nI (st_n T) from (ctk f1).2.2.2.2.2.1.1, sp_2n]
      exact ⟨fun _ => hQ I1 f1 (by rw [etry]; exact y6) (by rw [etry]; exact y7), fun c => absurd (Int32.le_refl _) c⟩
    · intro i I1 hi ⟨f1, F1, y6, y7⟩ ih
      have hml := sp_ml_le (T := T) (l := i)
      apply t_Fits_findTry_36 hR
      rw [show I1 3 0 = nI (st_n T) from (ctk f1).2.2.2.2.2.1.1, sp_2n]
      refine ⟨fun c => absurd c (nI_ge hi (by omega)), fun _ => ?_⟩
      refine c_Fits_mostLeftBy hR (ctk f1) (ftk f1) F1 hT hi ?_
      intro I4 q0 F4
      refine ⟨_, I4, J, R, rfl, rfl, hR, ?_⟩
      have f4 : sp_fr [55, 56, 57, 58, 59, 60] [(54, 5), (54, 6)] I I4 := sp_fr_tr f1 (sp_fr_mono (E := []) (sp_frq q0) (by decide) (by decide))
      have z6 : I4 54 5 = sp_o1 (sp_tf T i) := by rw [q0 54 (by decide)]; exact y6
      have z7 : I4 54 6 = sp_o2 (sp_tf T i) := by rw [q0 54 (by decide)]; exact y7
      rw [nI_1]
      have tk : ∀ I5 I6 : Nat → Nat → Int32, I5 = ow_u I4 54 5 (nI i) → I6 = ow_u I5 54 6 (nI (sp_ml T i)) → sp_tf T (i + 1) = some (i, sp_ml T i) → ow_AW ow_Y0 (ow_Z Q) M_Fits_findTry (d + 4) 0 0 36 [(0, .ref 54), (1, .int (nI (i + 1)))] [] (85, I6, J, R) 0 0 := by
        intro I5 I6 e5 e6 ht
        obtain ⟨s, hs, hS⟩ := F4
        have r : ∀ a, a ≠ 54 → I6 a = I4 a := fun a ha => by rw [e6, ow_u_ne ha, e5, ow_u_ne ha]
        exact ih I6 ⟨sp_fr_tr (sp_fr_tr f4 (sp_fr_ue e5 (by decide))) (sp_fr_ue e6 (by decide)), ⟨s, hs, sp_S_kr hS (r _ (by decide)) (r _ (by decide)) (r _ (by decide)) (r _ (by decide))⟩, by rw [ht, e6, ow_u_nk (by decide), e5, ow_u_at]; rfl, by rw [ht, e6, ow_u_at]; rfl⟩
      rw [z6, z7]
      cases hq : sp_tf T i with
      | none => exact ⟨fun _ I5 e5 I6 e6 => tk I5 I6 e5 e6 (by rw [sp_tf, hq]), fun c => absurd rfl c⟩
      | some q =>
        have hb := sp_tf_b i q hq
        refine ⟨fun c => absurd c (sp_o1_ne (by omega)), fun _ => ⟨fun c => ?_, fun c I5 e5 I6 e6 => ?_⟩⟩
        · have c3 : ¬ sp_ml T i < q.2 := Nat.not_lt.mpr ((nI_leI (by omega) (by omega)).mp c)
          have et : sp_tf T (i + 1) = sp_tf T i := by rw [sp_tf, hq]; dsimp only; rw [if_neg c3]
          exact ih I4 ⟨f4, F4, by rw [et]; exact z6, by rw [et]; exact z7⟩
        · have c3 : sp_ml T i < q.2 := Nat.lt_of_not_le (fun z => c ((nI_leI (by omega) (by omega)).mpr z))
          exact tk I5 I6 e5 e6 (by rw [sp_tf, hq]; dsimp only; rw [if_pos c3])
  · have c2 : (sp_flk T (sp_nf T)).length = 0 := (sp_z (by omega)).mp c
    have etry : sp_try T = none := by unfold sp_try; rw [if_pos c2]
    exact hQ I10 f10 (by rw [etry]; exact a6) (by rw [etry]; exact a7)
end FITS2
