/-! Own rows: the reference's tokens. -/
def tk_s (X : sp_Tx) (p : Nat) : Int32 := if p < X.1 then nI (X.2 p) else -1
def tk_in (X : sp_Tx) (lo hi p : Nat) : Bool := decide (p < X.1 ∧ lo ≤ X.2 p ∧ X.2 p ≤ hi)
theorem tk_run_t {X : sp_Tx} {lo hi p : Nat} (h : tk_in X lo hi p = true) : p < X.1 ∧ sp_run X lo hi p = sp_run X lo hi (p + 1) + 1 := by
  have h := of_decide_eq_true h
  exact ⟨h.1, sp_run_s h.1 h.2⟩
theorem tk_run_f {X : sp_Tx} {lo hi p : Nat} (h : tk_in X lo hi p = false) : sp_run X lo hi p = 0 := sp_run_0 (of_decide_eq_false h)
section MTOK
variable {d : Nat} {I : Nat → Nat → Int32} {J : Nat → Nat → Int64} {R : Nat → Nat → Option Nat} {Q : Option Value → ow_H → Prop} {X : sp_Tx} {p : Nat}
theorem c_Mo_see (hR : ow_RF R) (hX : tk_ok X) (h3 : I 70 3 = nI X.1) (ht : ∀ j, j < X.1 → I 71 j = nI (X.2 j)) (hp : p < 1000) (hQ : Q (some (.int (tk_s X p))) (85, I, J, R)) : ow_AM M_Mo_see (d + 1) [.ref 70, .int (nI p)] (85, I, J, R) Q := by
  have x9 := hX.1
  apply t_Mo_see hR
  rw [h3, nI_leI (by omega) (by omega), sp_cl (by omega)]
  unfold tk_s at hQ
  refine ⟨fun c => ?_, fun c => ⟨vp_in_nI (by omega) (by decide), ?_⟩⟩
  · rw [if_neg (by omega)] at hQ; exact hQ
  · rw [if_pos (by omega)] at hQ
    rw [ht p (by omega)]
    exact hQ
theorem tk_s_cmp (hX : tk_ok X) {lo : Nat} (h0 : 1 ≤ lo) (hl : lo < 256) : (tk_s X p < nI lo ↔ ¬ (p < X.1 ∧ lo ≤ X.2 p)) ∧ (nI lo < tk_s X p ↔ (p < X.1 ∧ lo < X.2 p)) ∧ (tk_s X p = nI lo ↔ (p < X.1 ∧ X.2 p = lo)) := by
  have hb := hX.2 p
  unfold tk_s
  by_cases h : p < X.1
  · rw [if_pos h, nI_ltI (by omega) (by omega), nI_ltI (by omega) (by omega), nI_eq (by omega) (by omega)]
    omega
  · rw [if_neg h, Int32.lt_iff_toInt_lt, Int32.lt_iff_toInt_lt, ← Int32.toInt_inj, nI_toInt (by omega), show (-1 : Int32).toInt = -1 from by decide]
    omega
theorem c_Mo_isSmall (hR : ow_RF R) (hX : tk_ok X) (hQ : Q (some (.int (sp_jb (tk_in X 97 122 p)))) (85, I, J, R)) : ow_AM M_Mo_isSmall (d + 1) [.int (tk_s X p)] (85, I, J, R) Q := by
  apply t_Mo_isSmall hR
  have e1 := (tk_s_cmp (p := p) hX (lo := 97) (by decide) (by decide)).1
  have e2 := (tk_s_cmp (p := p) hX (lo := 122) (by decide) (by decide)).2.1
  rw [show (tk_s X p < 97) = (tk_s X p < nI 97) from rfl, show (122 < tk_s X p) = (nI 122 < tk_s X p) from rfl, e1, e2]
  unfold tk_in at hQ
  refine ⟨fun c => ?_, fun c => ⟨fun c2 => ?_, fun c2 => ?_⟩⟩
  · rw [decide_eq_false (by omega)] at hQ; exact hQ
  · rw [decide_eq_false (by omega)] at hQ; exact hQ
  · rw [decide_eq_true (by omega)] at hQ; exact hQ
theorem c_Mo_isDigit (hR : ow_RF R) (hX : tk_ok X) (hQ : Q (some (.int (sp_jb (tk_in X 48 57 p)))) (85, I, J, R)) : ow_AM M_Mo_isDigit (d + 1) [.int (tk_s X p)] (85, I, J, R) Q := by
  apply t_Mo_isDigit hR
  have e1 := (tk_s_cmp (p := p) hX (lo := 48) (by decide) (by decide)).1
  have e2 := (tk_s_cmp (p := p) hX (lo := 57) (by decide) (by decide)).2.1
  rw [show (tk_s X p < 48) = (tk_s X p < nI 48) from rfl, show (57 < tk_s X p) = (nI 57 < tk_s X p) from rfl, e1, e2]
  unfold tk_in at hQ
  refine ⟨fun c => ?_, fun c => ⟨fun c2 => ?_, fun c2 => ?_⟩⟩
  · rw [decide_eq_false (by omega)] at hQ; exact hQ
  · rw [decide_eq_false (by omega)] at hQ; exact hQ
  · rw [decide_eq_true (by omega)] at hQ; exact hQ
def tk_E : List (Nat × Nat) := [(70, 4), (70, 5), (70, 6), (70, 7), (70, 8)]
/-- the letters of a word -/
theorem c_Mo_next67 (hR : ow_RF R) (hX : tk_ok X) (hp : p ≤ X.1) (hl : 0 < tk_l X p) (h3 : I 70 3 = nI X.1) (ht : ∀ j, j < X.1 → I 71 j = nI (X.2 j)) (h9 : I 70 9 = 0)
    (hQ : ∀ I2 : Nat → Nat → Int32, sp_fr [72] tk_E I I2 → tM I2 X p → Q none (85, I2, J, R)) : ∀ (m q c : Nat) (I1 : Nat → Nat → Int32), X.1 - q = m → q = tk_a X p + c → q ≤ X.1 → tk_l X p = c + sp_run X 97 122 q → sp_fr [72] tk_E I I1 → I1 70 4 = nI (tk_a X p) → I1 70 8 = nI c → (∀ i, i < c → i < 8 → I1 72 i = nI (X.2 (tk_a X p + i))) → ow_AW ow_Y0 (ow_Z Q) M_Mo_next (d + 2) 0 0 67 [(0, .ref 70), (1, .int (nI q))] [] (85, I1, J, R) 0 0 := by
  have x9 := hX.1
  have hal := tk_al hp
  intro m
  induction m with
  | zero =>
    intro q c I1 hm hq hqn hr f1 v4 v8 vl
    have hlc : tk_l X p = c := by rw [hr, sp_run_0 (fun z => by omega)]; rfl
    have b3 : I1 70 3 = nI X.1 := by rw [f1 70 (by decide) 3 (by decide)]; exact h3
    have bt : ∀ j, j < X.1 → I1 71 j = nI (X.2 j) := fun j hj => by rw [sp_fr_row f1 (by decide) (by simp [tk_E])]; exact ht j hj
    apply t_Mo_next_67 hR
    refine c_Mo_see hR hX b3 bt (by omega) ⟨_, I1, J, R, rfl, rfl, hR, ?_⟩
    refine c_Mo_isSmall hR hX ⟨_, I1, J, R, rfl, rfl, hR, ?_⟩
    rw [show tk_in X 97 122 q = false from decide_eq_false (fun z => by omega)]
    refine ⟨fun _ I5 e5 => ?_, fun c => absurd rfl c⟩
    have w8 : I5 70 8 = nI c := by rw [e5, ow_u_nk (by decide)]; exact v8
    rw [w8, show (nI c ≤ 8) = (nI c ≤ nI 8) from rfl, nI_leI (by omega) (by decide)]
    have fin : ∀ (I6 : Nat → Nat → Int32), I6 = ow_u I5 70 6 (tk_r (tk_k X p)) → Q none (85, I6, J, R) := by
      intro I6 e6
      refine hQ I6 (sp_fr_tr (sp_fr_tr f1 (sp_fr_ue e5 (by decide))) (sp_fr_ue e6 (by decide))) ⟨?_, ?_, ?_, ?_, ?_, fun i hi h8 => ?_, fun h2 => ?_, fun j hj => ?_, ?_⟩
      · rw [e6, ow_u_nk (by decide), e5, ow_u_nk (by decide)]; exact b3
      · rw [e6, ow_u_nk (by decide), e5, ow_u_nk (by decide)]; exact v4
      · rw [e6, ow_u_nk (by decide), e5, ow_u_at, tk_n1 hl, hq, hlc]
      · rw [e6, ow_u_at]
      · rw [e6, ow_u_nk (by decide), w8, hlc]
      · rw [e6, ow_u_ne (by decide), e5, ow_u_ne (by decide)]; exact vl i (by omega) h8
      · have := (tk_k2 h2).1; omega
      · rw [e6, ow_u_ne (by decide), e5, ow_u_ne (by decide)]; exact bt j hj
      · rw [e6, ow_u_nk (by decide), e5, ow_u_nk (by decide), f1 70 (by decide) 9 (by decide)]; exact h9
    refine ⟨fun c8 I6 e6 => fin I6 ?_, fun c8 I6 e6 => fin I6 ?_⟩
    · rw [e6]; congr 1; unfold tk_k; rw [if_pos hl, if_pos (by omega)]; rfl
    · rw [e6]; congr 1; unfold tk_k; rw [if_pos hl, if_neg (by omega)]; rfl
  | succ m ih =>
    intro q c I1 hm hq hqn hr f1 v4 v8 vl
    have b3 : I1 70 3 = nI X.1 := by rw [f1 70 (by decide) 3 (by decide)]; exact h3
    have bt : ∀ j, j < X.1 → I1 71 j = nI (X.2 j) := fun j hj => by rw [sp_fr_row f1 (by decide) (by simp [tk_E])]; exact ht j hj
    apply t_Mo_next_67 hR
    refine c_Mo_see hR hX b3 bt (by omega) ⟨_, I1, J, R, rfl, rfl, hR, ?_⟩
    refine c_Mo_isSmall hR hX ⟨_, I1, J, R, rfl, rfl, hR, ?_⟩
    cases hb : tk_in X 97 122 q with
    | false =>
      have hlc : tk_l X p = c := by rw [hr, tk_run_f hb]; rfl
      refine ⟨fun _ I5 e5 => ?_, fun c => absurd rfl c⟩
      have w8 : I5 70 8 = nI c := by rw [e5, ow_u_nk (by decide)]; exact v8
      rw [w8, show (nI c ≤ 8) = (nI c ≤ nI 8) from rfl, nI_leI (by omega) (by decide)]
      have fin : ∀ (I6 : Nat → Nat → Int32), I6 = ow_u I5 70 6 (tk_r (tk_k X p)) → Q none (85, I6, J, R) := by
        intro I6 e6
        refine hQ I6 (sp_fr_tr (sp_fr_tr f1 (sp_fr_ue e5 (by decide))) (sp_fr_ue e6 (by decide))) ⟨?_, ?_, ?_, ?_, ?_, fun i hi h8 => ?_, fun h2 => ?_, fun j hj => ?_, ?_⟩
        · rw [e6, ow_u_nk (by decide), e5, ow_u_nk (by decide)]; exact b3
        · rw [e6, ow_u_nk (by decide), e5, ow_u_nk (by decide)]; exact v4
        · rw [e6, ow_u_nk (by decide), e5, ow_u_at, tk_n1 hl, hq, hlc]
        · rw [e6, ow_u_at]
        · rw [e6, ow_u_nk (by decide), w8, hlc]
        · rw [e6, ow_u_ne (by decide), e5, ow_u_ne (by decide)]; exact vl i (by omega) h8
        · have := (tk_k2 h2).1; omega
        · rw [e6, ow_u_ne (by decide), e5, ow_u_ne (by decide)]; exact bt j hj
        · rw [e6, ow_u_nk (by decide), e5, ow_u_nk (by decide), f1 70 (by decide) 9 (by decide)]; exact h9
      refine ⟨fun c8 I6 e6 => fin I6 ?_, fun c8 I6 e6 => fin I6 ?_⟩
      · rw [e6]; congr 1; unfold tk_k; rw [if_pos hl, if_pos (by omega)]; rfl
      · rw [e6]; congr 1; unfold tk_k; rw [if_pos hl, if_neg (by omega)]; rfl
    | true =>
      obtain ⟨hqn2, hrs⟩ := tk_run_t hb
      rw [v8, show (8 ≤ nI c) = (nI 8 ≤ nI c) from rfl, nI_leI (by decide) (by omega), nI_1, nI_1]
      refine ⟨fun c => absurd c (by decide), fun _ => ⟨fun c8 I5 e5 => ?_, fun c8 => ?_⟩⟩
      · refine ih (q + 1) (c + 1) I5 (by omega) (by omega) (by omega) (by omega) (sp_fr_tr f1 (sp_fr_ue e5 (by decide))) (by rw [e5, ow_u_nk (by decide)]; exact v4) (by rw [e5, ow_u_at]) (fun i hi h8 => ?_)
        rw [e5, ow_u_ne (by decide)]
        exact vl i (by omega) h8
      · refine c_Mo_see hR hX b3 bt (by omega) ⟨_, I1, J, R, rfl, rfl, hR, ?_⟩
        rw [sp_cl (by omega)]
        refine ⟨vp_in_nI (by omega) (by decide), fun I5 e5 I6 e6 => ?_⟩
        have w8 : I5 70 8 = nI c := by rw [e5, ow_u_ne (by decide)]; exact v8
        rw [w8, nI_1] at e6
        refine ih (q + 1) (c + 1) I6 (by omega) (by omega) (by omega) (by omega) (sp_fr_tr (sp_fr_tr f1 (sp_fr_ue e5 (Or.inl (by decide)))) (sp_fr_ue e6 (by decide))) (by rw [e6, ow_u_nk (by decide), e5, ow_u_ne (by decide)]; exact v4) (by rw [e6, ow_u_at]) (fun i hi h8 => ?_)
        rw [e6, ow_u_ne (by decide), e5]
        by_cases hic : i = c
        · rw [hic, ow_u_at, ← hq]
          unfold tk_s
          rw [if_pos hqn2]
        · rw [ow_u_nk hic]
          exact vl i (by omega) h8
/-- the digits of a whole -/
theorem c_Mo_next152 (hR : ow_RF R) (hX : tk_ok X) (hp : p ≤ X.1) (hl : tk_l X p = 0) (hd0 : 0 < tk_d X p) (h3 : I 70 3 = nI X.1) (ht : ∀ j, j < X.1 → I 71 j = nI (X.2 j)) (h9 : I 70 9 = 0)
    (hQ : ∀ I2 : Nat → Nat → Int32, sp_fr [72] tk_E I I2 → tM I2 X p → Q none (85, I2, J, R)) : ∀ (m q c : Nat) (I1 : Nat → Nat → Int32), X.1 - q = m → q = tk_a X p + c → q ≤ X.1 → tk_d X p = c + sp_run X 48 57 q → sp_fr [72] tk_E I I1 → I1 70 4 = nI (tk_a X p) → I1 70 8 = 0 → (c ≤ 3 → I1 70 7 = nI (sp_dv X.2 (tk_a X p) c)) → ow_AW ow_Y0 (ow_Z Q) M_Mo_next (d + 2) 0 0 152 [(0, .ref 70), (1, .int (nI q)), (3, .int (nI c))] [] (85, I1, J, R) 0 0 := by
  have x9 := hX.1
  have had := tk_ad hp
  have ends : ∀ (q c : Nat) (I1 : Nat → Nat → Int32), q = tk_a X p + c → q ≤ X.1 → tk_d X p = c → sp_fr [72] tk_E I I1 → I1 70 4 = nI (tk_a X p) → I1 70 8 = 0 → (c ≤ 3 → I1 70 7 = nI (sp_dv X.2 (tk_a X p) c)) → ∀ I5 : Nat → Nat → Int32, I5 = ow_u I1 70 5 (nI q) → ((nI c ≤ 3 → ∀ I6 : Nat → Nat → Int32, I6 = ow_u I5 70 6 3 → Q none (85, I6, J, R)) ∧ (¬ nI c ≤ 3 → ∀ I6 : Nat → Nat → Int32, I6 = ow_u I5 70 6 1 → Q none (85, I6, J, R))) := by
    intro q c I1 hq hqn hlc f1 v4 v8 v7 I5 e5
    rw [show (nI c ≤ 3) = (nI c ≤ nI 3) from rfl, nI_leI (by omega) (by decide)]
    have hn : tk_n X p = q := by unfold tk_n; rw [if_neg (by omega)]; omega
    have fin : ∀ (I6 : Nat → Nat → Int32), I6 = ow_u I5 70 6 (tk_r (tk_k X p)) → Q none (85, I6, J, R) := by
      intro I6 e6
      refine hQ I6 (sp_fr_tr (sp_fr_tr f1 (sp_fr_ue e5 (by decide))) (sp_fr_ue e6 (by decide))) ⟨?_, ?_, ?_, ?_, ?_, fun i hi h8 => ?_, fun h2 => ?_, fun j hj => ?_, ?_⟩
      · rw [e6, ow_u_nk (by decide), e5, ow_u_nk (by decide), f1 70 (by decide) 3 (by decide)]; exact h3
      · rw [e6, ow_u_nk (by decide), e5, ow_u_nk (by decide)]; exact v4
      · rw [e6, ow_u_nk (by decide), e5, ow_u_at, hn]
      · rw [e6, ow_u_at]
      · rw [e6, ow_u_nk (by decide), e5, ow_u_nk (by decide), hl]; exact v8
      · omega
      · have h23 := (tk_k2 h2).2.2
        rw [e6, ow_u_nk (by decide), e5, ow_u_nk (by decide)]
        unfold tk_v
        rw [hlc]
        exact v7 (by omega)
      · rw [e6, ow_u_ne (by decide), e5, ow_u_ne (by decide), sp_fr_row f1 (by decide) (by simp [tk_E])]; exact ht j hj
      · rw [e6, ow_u_nk (by decide), e5, ow_u_nk (by decide), f1 70 (by decide) 9 (by decide)]; exact h9
    refine ⟨fun c3 I6 e6 => fin I6 ?_, fun c3 I6 e6 => fin I6 ?_⟩
    · rw [e6]; congr 1; unfold tk_k; rw [if_neg (by omega), if_pos hd0, if_pos (by omega)]; rfl
    · rw [e6]; congr 1; unfold tk_k; rw [if_neg (by omega), if_pos hd0, if_neg (by omega)]; rfl
  intro m
  induction m with
  | zero =>
    intro q c I1 hm hq hqn hr f1 v4 v8 v7
    have hlc : tk_d X p = c := by rw [hr, sp_run_0 (fun z => by omega)]; rfl
    have b3 : I1 70 3 = nI X.1 := by rw [f1 70 (by decide) 3 (by decide)]; exact h3
    have bt : ∀ j, j < X.1 → I1 71 j = nI (X.2 j) := fun j hj => by rw [sp_fr_row f1 (by decide) (by simp [tk_E])]; exact ht j hj
    apply t_Mo_next_152 hR
    refine c_Mo_see hR hX b3 bt (by omega) ⟨_, I1, J, R, rfl, rfl, hR, ?_⟩
    refine c_Mo_isDigit hR hX ⟨_, I1, J, R, rfl, rfl, hR, ?_⟩
    rw [show tk_in X 48 57 q = false from decide_eq_false (fun z => by omega)]
    exact ⟨fun _ I5 e5 => ends q c I1 hq hqn hlc f1 v4 v8 v7 I5 e5, fun c => absurd rfl c⟩
  | succ m ih =>
    intro q c I1 hm hq hqn hr f1 v4 v8 v7
    have b3 : I1 70 3 = nI X.1 := by rw [f1 70 (by decide) 3 (by decide)]; exact h3
    have bt : ∀ j, j < X.1 → I1 71 j = nI (X.2 j) := fun j hj => by rw [sp_fr_row f1 (by decide) (by simp [tk_E])]; exact ht j hj
    apply t_Mo_next_152 hR
    refine c_Mo_see hR hX b3 bt (by omega) ⟨_, I1, J, R, rfl, rfl, hR, ?_⟩
    refine c_Mo_isDigit hR hX ⟨_, I1, J, R, rfl, rfl, hR, ?_⟩
    cases hb : tk_in X 48 57 q with
    | false => exact ⟨fun _ I5 e5 => ends q c I1 hq hqn (by rw [hr, tk_run_f hb]; rfl) f1 v4 v8 v7 I5 e5, fun c => absurd rfl c⟩
    | true =>
      obtain ⟨hqn2, hrs⟩ := tk_run_t hb
      have hin := of_decide_eq_true hb
      rw [show (3 ≤ nI c) = (nI 3 ≤ nI c) from rfl, nI_leI (by decide) (by omega), nI_1, nI_1]
      refine ⟨fun c => absurd c (by decide), fun _ => ⟨fun c3 => ?_, fun c3 => ?_⟩⟩
      · exact ih (q + 1) (c + 1) I1 (by omega) (by omega) (by omega) (by omega) f1 v4 v8 (fun h => by omega)
      · refine c_Mo_see hR hX b3 bt (by omega) ⟨_, I1, J, R, rfl, rfl, hR, ?_⟩
        have e48 : ((10 : Int32) * I1 70 7 + tk_s X q) - 48 = nI (sp_dv X.2 (tk_a X p) (c + 1)) := by
          unfold tk_s
          rw [if_pos hqn2, v7 (by omega), show (10 : Int32) * nI (sp_dv X.2 (tk_a X p) c) = nI (10 * sp_dv X.2 (tk_a X p) c) from pk_mul 10 _, nI_add, show nI (10 * sp_dv X.2 (tk_a X p) c + X.2 q) - 48 = nI (10 * sp_dv X.2 (tk_a X p) c + X.2 q - 48) from pk_sub (b := 48) (by omega), sp_dv, ← hq]
          congr 1
          omega
        rw [e48]
        intro I5 e5
        exact ih (q + 1) (c + 1) I5 (by omega) (by omega) (by omega) (by omega) (sp_fr_tr f1 (sp_fr_ue e5 (by decide))) (by rw [e5, ow_u_nk (by decide)]; exact v4) (by rw [e5, ow_u_nk (by decide)]; exact v8) (fun h => by rw [e5, ow_u_at])
theorem c_Mo_next (hR : ow_RF R) (hX : tk_ok X) (hp : p ≤ X.1) (h3 : I 70 3 = nI X.1) (h5 : I 70 5 = nI p) (ht : ∀ j, j < X.1 → I 71 j = nI (X.2 j)) (h9 : I 70 9 = 0)
    (hQ : ∀ I2 : Nat → Nat → Int32, sp_fr [72] tk_E I I2 → tM I2 X p → Q none (85, I2, J, R)) : ow_AM M_Mo_next (d + 2) [.ref 70] (85, I, J, R) Q := by
  have x9 := hX.1
  have ha := tk_a_le hp
  apply t_Mo_next hR
  rw [h5]
  have stop : ∀ q : Nat, q = tk_a X p → ∀ I4 : Nat → Nat → Int32, I4 = ow_u I 70 4 (nI q) → ow_AM M_Mo_see (d + 1) [.ref 70, .int (nI q)] (85, I4, J, R) (fun r h' => ∃ (r3 : Int32) (I3 : Nat → Nat → Int32) (J3 : Nat → Nat → Int64) (R3 : Nat → Nat → Option Nat), r = some (.int r3) ∧ h' = (85, I3, J3, R3) ∧ ow_RF R3 ∧ (∀ (I4 : Nat → Nat → Int32), I4 = ow_u I3 70 8 0 → (∀ (I5 : Nat → Nat → Int32), I5 = ow_u I4 70 7 0 → ((¬ r3 = (-1) → (ow_AM M_Mo_isSmall (d + 1) [.int r3] (85, I5, J3, R3) (fun r h' => ∃ (r6 : Int32) (I6 : Nat → Nat → Int32) (J6 : Nat → Nat → Int64) (R6 : Nat → Nat → Option Nat), r = some (.int r6) ∧ h' = (85, I6, J6, R6) ∧ ow_RF R6 ∧ ((r6 = 0 → (ow_AM M_Mo_isDigit (d + 1) [.int r3] (85, I6, J6, R6) (fun r h' => ∃ (r7 : Int32) (I7 : Nat → Nat → Int32) (J7 : Nat → Nat → Int64) (R7 : Nat → Nat → Option Nat), r = some (.int r7) ∧ h' = (85, I7, J7, R7) ∧ ow_RF R7 ∧ ((r7 = 0 → (∀ (I8 : Nat → Nat → Int32), I8 = ow_u I7 70 5 (nI q + 1) → ((¬ r3 = 59 → (∀ (I9 : Nat → Nat → Int32), I9 = ow_u I8 70 6 1 → Q none (85, I9, J7, R7))) ∧ (r3 = 59 → (∀ (I10 : Nat → Nat → Int32), I10 = ow_u I8 70 6 r3 → Q none (85, I10, J7, R7)))))) ∧ (¬ r7 = 0 → ow_AW ow_Y0 (ow_Z Q) M_Mo_next (d + 1 + 1) 0 0 152 [(0, .ref 70), (1, .int (nI q)), (3, .int 0)] [] (85, I7, J7, R7) 0 0))))) ∧ (¬ r6 = 0 → ow_AW ow_Y0 (ow_Z Q) M_Mo_next (d + 1 + 1) 0 0 67 [(0, .ref 70), (1, .int (nI q))] [] (85, I6, J6, R6) 0 0))))) ∧ (r3 = (-1) → (∀ (I11 : Nat → Nat → Int32), I11 = ow_u I5 70 6 0 → (∀ (I12 : Nat → Nat → Int32), I12 = ow_u I11 70 5 (nI q) → Q none (85, I12, J3, R3)))))))) := by
    intro q hq I4 e4
    have b3 : I4 70 3 = nI X.1 := by rw [e4, ow_u_nk (by decide)]; exact h3
    have bt : ∀ j, j < X.1 → I4 71 j = nI (X.2 j) := fun j hj => by rw [e4, ow_u_ne (by decide)]; exact ht j hj
    refine c_Mo_see hR hX b3 bt (by omega) ⟨_, I4, J, R, rfl, rfl, hR, ?_⟩
    intro I5 e5 I6 e6
    have f6 : sp_fr [72] tk_E I I6 := sp_fr_tr (sp_fr_tr (sp_fr_ue e4 (by decide)) (sp_fr_ue e5 (by decide))) (sp_fr_ue e6 (by decide))
    have v4 : I6 70 4 = nI (tk_a X p) := by rw [e6, ow_u_nk (by decide), e5, ow_u_nk (by decide), e4, ow_u_at, hq]
    have v8 : I6 70 8 = 0 := by rw [e6, ow_u_nk (by decide), e5, ow_u_at]
    have v7 : I6 70 7 = 0 := by rw [e6, ow_u_at]
    have c3 : I6 70 3 = nI X.1 := by rw [f6 70 (by decide) 3 (by decide)]; exact h3
    have ct : ∀ j, j < X.1 → I6 71 j = nI (X.2 j) := fun j hj => by rw [sp_fr_row f6 (by decide) (by simp [tk_E])]; exact ht j hj
    have c9 : I6 70 9 = 0 := by rw [f6 70 (by decide) 9 (by decide)]; exact h9
    have fin : ∀ (k : Nat) (I8 : Nat → Nat → Int32), sp_fr [72] tk_E I6 I8 → I8 70 3 = I6 70 3 → I8 70 4 = I6 70 4 → I8 70 8 = I6 70 8 → I8 70 6 = tk_r k → I8 70 5 = nI (tk_n X p) → tk_k X p = k → tk_l X p = 0 → k ≠ 2 → Q none (85, I8, J, R) := by
      intro k I8 f8 g3 g4 g8 g6 g5 hk hl hk2
      refine hQ I8 (sp_fr_tr f6 f8) ⟨by rw [g3]; exact c3, by rw [g4]; exact v4, g5, by rw [hk]; exact g6, by rw [g8, hl]; exact v8, fun i hi h8 => by omega, fun h2 => absurd (hk ▸ h2) hk2, fun j hj => ?_, by rw [f8 70 (by decide) 9 (by decide)]; exact c9⟩
      rw [sp_fr_row f8 (by decide) (by simp [tk_E])]
      exact ct j hj
    have hm1 : tk_s X q = -1 ↔ ¬ q < X.1 := by
      unfold tk_s
      have hb := hX.2 q
      by_cases h : q < X.1
      · rw [if_pos h, ← Int32.toInt_inj, nI_toInt (by omega), show (-1 : Int32).toInt = -1 from by decide]; omega
      · rw [if_neg h]; exact ⟨fun _ => h, fun _ => rfl⟩
    rw [hm1]
    refine ⟨fun cn => ?_, fun cn I7 e7 I8 e8 => ?_⟩
    · have hqn : q < X.1 := by omega
      refine c_Mo_isSmall hR hX ⟨_, I6, J, R, rfl, rfl, hR, ?_⟩
      cases hb : tk_in X 97 122 q with
      | true =>
        have hl : 0 < tk_l X p := by unfold tk_l; rw [← hq, (tk_run_t hb).2]; omega
        refine ⟨fun c => absurd c (by decide), fun _ => ?_⟩
        exact c_Mo_next67 (I := I6) hR hX hp hl c3 ct c9 (fun I2 f2 => hQ I2 (sp_fr_tr f6 f2)) _ q 0 I6 rfl (by omega) (by omega) (by rw [hq]; unfold tk_l; omega) sp_fr_rf v4 v8 (fun i hi => absurd hi (Nat.not_lt_zero _))
      | false =>
        have hl : tk_l X p = 0 := by unfold tk_l; rw [← hq]; exact tk_run_f hb
        refine ⟨fun _ => ?_, fun c => absurd rfl c⟩
        refine c_Mo_isDigit hR hX ⟨_, I6, J, R, rfl, rfl, hR, ?_⟩
        cases hd : tk_in X 48 57 q with
        | true =>
          have hd0 : 0 < tk_d X p := by unfold tk_d; rw [← hq, (tk_run_t hd).2]; omega
          refine ⟨fun c => absurd c (by decide), fun _ => ?_⟩
          exact c_Mo_next152 (I := I6) hR hX hp hl hd0 c3 ct c9 (fun I2 f2 => hQ I2 (sp_fr_tr f6 f2)) _ q 0 I6 rfl (by omega) (by omega) (by rw [hq]; unfold tk_d; omega) sp_fr_rf v4 v8 (fun _ => v7)
        | false =>
          have hd0 : tk_d X p = 0 := by unfold tk_d; rw [← hq]; exact tk_run_f hd
          have hn : tk_n X p = q + 1 := by unfold tk_n; rw [if_pos ⟨hl, hd0, by omega⟩]; omega
          have e59 := (tk_s_cmp (p := q) hX (lo := 59) (by decide) (by decide)).2.2
          refine ⟨fun _ I8 e8 => ⟨fun c5 I9 e9 => ?_, fun c5 I9 e9 => ?_⟩, fun c => absurd rfl c⟩
          · rw [nI_1] at e8
            refine fin 4 I9 (sp_fr_tr (sp_fr_ue e8 (by decide)) (sp_fr_ue e9 (by decide))) (by rw [e9, ow_u_nk (by decide), e8, ow_u_nk (by decide)]) (by rw [e9, ow_u_nk (by decide), e8, ow_u_nk (by decide)]) (by rw [e9, ow_u_nk (by decide), e8, ow_u_nk (by decide)]) (by rw [e9, ow_u_at]; rfl) (by rw [e9, ow_u_nk (by decide), e8, ow_u_at, hn]) ?_ hl (by decide)
            have h59 : ¬ X.2 (tk_a X p) = 59 := fun z => c5 (e59.mpr ⟨hqn, by rw [hq]; exact z⟩)
            unfold tk_k
            rw [if_neg (by omega), if_neg (by omega), if_pos (by omega), if_neg h59]
          · rw [nI_1] at e8
            have c6 : tk_s X q = nI 59 := c5
            rw [c6] at e9
            refine fin 3 I9 (sp_fr_tr (sp_fr_ue e8 (by decide)) (sp_fr_ue e9 (by decide))) (by rw [e9, ow_u_nk (by decide), e8, ow_u_nk (by decide)]) (by rw [e9, ow_u_nk (by decide), e8, ow_u_nk (by decide)]) (by rw [e9, ow_u_nk (by decide), e8, ow_u_nk (by decide)]) (by rw [e9, ow_u_at]; rfl) (by rw [e9, ow_u_nk (by decide), e8, ow_u_at, hn]) ?_ hl (by decide)
            have h59 : X.2 (tk_a X p) = 59 := by have := (e59.mp c6).2; rw [hq] at this; exact this
            unfold tk_k
            rw [if_neg (by omega), if_neg (by omega), if_pos (by omega), if_pos h59]
    · have hl : tk_l X p = 0 := by unfold tk_l; rw [← hq]; exact sp_run_0 (fun z => cn z.1)
      have hd0 : tk_d X p = 0 := by unfold tk_d; rw [← hq]; exact sp_run_0 (fun z => cn z.1)
      have hn : tk_n X p = q := by unfold tk_n; rw [if_neg (by omega)]; omega
      refine fin 0 I8 (sp_fr_tr (sp_fr_ue e7 (by decide)) (sp_fr_ue e8 (by decide))) (by rw [e8, ow_u_nk (by decide), e7, ow_u_nk (by decide)]) (by rw [e8, ow_u_nk (by decide), e7, ow_u_nk (by decide)]) (by rw [e8, ow_u_nk (by decide), e7, ow_u_nk (by decide)]) (by rw [e8, ow_u_nk (by decide), e7, ow_u_at]; rfl) (by rw [e8, ow_u_at, hn]) ?_ hl (by decide)
      unfold tk_k
      rw [if_neg (by omega), if_neg (by omega), if_neg (by omega)]
  have L : ∀ (m q : Nat), X.1 - q = m → q ≤ X.1 → q + sp_run X 32 32 q = tk_a X p → ow_AW ow_Y0 (ow_Z Q) M_Mo_next (d + 2) 0 0 5 [(0, .ref 70), (1, .int (nI q))] [] (85, I, J, R) 0 0 := by
    intro m
    induction m with
    | zero =>
      intro q hm hq e
      rw [sp_run_0 (p := q) (fun z => by omega), Nat.add_zero] at e
      have e32 := (tk_s_cmp (p := q) hX (lo := 32) (by decide) (by decide)).2.2
      apply t_Mo_next_5 hR
      refine c_Mo_see hR hX h3 ht (by omega) ⟨_, I, J, R, rfl, rfl, hR, ?_⟩
      exact ⟨fun _ I4 e4 => stop q e I4 e4, fun c => absurd (e32.mp c).1 (by omega)⟩
    | succ m ih =>
      intro q hm hq e
      have e32 := (tk_s_cmp (p := q) hX (lo := 32) (by decide) (by decide)).2.2
      apply t_Mo_next_5 hR
      refine c_Mo_see hR hX h3 ht (by omega) ⟨_, I, J, R, rfl, rfl, hR, ?_⟩
      refine ⟨fun c I4 e4 => stop q ?_ I4 e4, fun c => ?_⟩
      · rw [sp_run_0 (p := q) (fun z => c (e32.mpr ⟨z.1, by omega⟩)), Nat.add_zero] at e
        exact e
      · have c2 := e32.mp c
        rw [nI_1]
        refine ih (q + 1) (by omega) (by omega) ?_
        rw [sp_run_s c2.1 (by omega)] at e
        omega
  exact L _ p rfl hp rfl
theorem c_Mo_isWord {i : Nat} (hR : ow_RF R) (hi : i < 19) (hf : I 70 13 = 0) (hM : tM I X p) (hQ : Q (some (.int (sp_jb (tk_is X p i)))) (85, I, J, R)) : ow_AM M_Mo_isWord (d + 5) [.ref 70, .ref (1000 + i)] (85, I, J, R) Q := by
  obtain ⟨c1, c2, c3, c4, c5, c6, c7, c8⟩ := hM
  obtain ⟨w1, w2, w3, w4⟩ := sp_wn_ok i hi
  apply t_Mo_isWord hi hR
  rw [hf, c4]
  unfold tk_is at hQ
  refine ⟨fun c => absurd rfl c, fun _ => ⟨fun c => ?_, fun c => ?_⟩⟩
  · rw [decide_eq_false (fun q => c (by rw [q.1]; rfl))] at hQ
    exact hQ
  · have hk : tk_k X p = 1 := by
      have h5 := tk_k4 (X := X) (p := p)
      have h6 : tk_k X p = 0 ∨ tk_k X p = 1 ∨ tk_k X p = 2 ∨ tk_k X p = 3 ∨ tk_k X p = 4 := by omega
      rcases h6 with h | h | h | h | h
      · rw [h] at c; exact absurd c (by decide)
      · exact h
      · rw [h] at c; exact absurd c (by decide)
      · rw [h] at c; exact absurd c (by decide)
      · rw [h] at c; exact absurd c (by decide)
    obtain ⟨l1, l2⟩ := tk_k1 hk
    refine c_Str_length hi ⟨_, I, J, R, rfl, rfl, hR, ?_⟩
    rw [c5, nI_eq (by omega) (by omega)]
    refine ⟨fun e => ?_, fun e => ?_⟩
    · refine sp_up (σ := Bool) (N := tk_l X p) (G := fun j b => ow_AW ow_Y0 (ow_Z Q) M_Mo_isWord (d + 5) 0 0 32 [(0, .ref 70), (1, .ref (1000 + i)), (2, .int (sp_jb b)), (3, .int (nI j))] [] (85, I, J, R) 0 0) (Inv := fun j b => b = decide (∀ t, t < j → X.2 (tk_a X p + t) = (sp_wn i).getD t 0)) ?_ ?_ 0 true (Nat.zero_le _) (decide_eq_true (fun t ht => absurd ht (Nat.not_lt_zero _))).symm
      · intro b hb
        apply t_Mo_isWord_32 hi hR
        rw [c5]
        refine ⟨fun _ => ⟨sp_jb01 b, ?_⟩, fun c => absurd (Int32.le_refl _) c⟩
        have hiff : decide (tk_k X p = 1 ∧ tk_w X p = sp_wn i) = b := by
          rw [hb]
          apply decide_eq_decide.mpr
          refine ⟨fun q t ht => by rw [← q.2, tk_w_at ht], fun q => ⟨hk, sp_lext (by rw [tk_w_len]; omega) (fun t ht => by rw [tk_w_len] at ht; rw [tk_w_at ht]; exact q t ht)⟩⟩
        rw [hiff] at hQ
        exact hQ
      · intro j b hj hb ih
        apply t_Mo_isWord_32 hi hR
        rw [c5, nI_1]
        refine ⟨fun c => absurd c (nI_ge hj (by omega)), fun _ => ?_⟩
        cases b with
        | false =>
          have hno := of_decide_eq_false hb.symm
          refine ⟨fun _ => ih false ?_, fun c => absurd rfl c⟩
          exact (decide_eq_false (fun q => hno (fun t ht => q t (by omega)))).symm
        | true =>
          have hyes := of_decide_eq_true hb.symm
          refine ⟨fun c => absurd c (by decide), fun _ => ⟨vp_in_nI (by omega) (by decide), ?_⟩⟩
          refine c_Str_charAt hi (by omega) ⟨_, I, J, R, rfl, rfl, hR, ?_⟩
          obtain ⟨y1, y2, y3⟩ := w4 j (by omega)
          have hin := sp_run_in (X := X) (lo := 97) (hi := 122) (p := tk_a X p) hj
          rw [sp_cl (by omega), c6 j hj (by omega), y1, nI_eq (by omega) (by omega)]
          refine ⟨fun q => ih false ?_, fun q => ih true ?_⟩
          · exact (decide_eq_false (fun z => q (z j (by omega)))).symm
          · exact (decide_eq_true (fun t ht => by
              by_cases htj : t = j
              · rw [htj]; exact q
              · exact hyes t (by omega))).symm
    · rw [decide_eq_false (fun z => e (by rw [← w1, ← z.2, tk_w_len]))] at hQ
      exact hQ
theorem c_Mo_isWord_d {i : Nat} (hR : ow_RF R) (hi : i < 19) (hf : I 70 13 = 1) (hQ : Q (some (.int 0)) (85, I, J, R)) : ow_AM M_Mo_isWord (d + 1) [.ref 70, .ref (1000 + i)] (85, I, J, R) Q := by
  apply t_Mo_isWord hi hR
  rw [hf]
  exact ⟨fun _ => hQ, fun c => absurd c (by decide)⟩
end MTOK
