/-! Own rows: rounds, idle, years to come. -/
/-- of more things than places two stand in one -/
theorem sp_pig : ∀ (n : Nat) (s : Nat → Nat), (∀ i, i ≤ n → s i < n) → ∃ a b, a < b ∧ b ≤ n ∧ s a = s b := by
  intro n
  induction n with
  | zero => intro s h; exact absurd (h 0 (Nat.le_refl _)) (Nat.not_lt_zero _)
  | succ n ih =>
    intro s h
    by_cases hx : ∃ a, a ≤ n ∧ s a = s (n + 1)
    · obtain ⟨a, h1, h2⟩ := hx
      exact ⟨a, n + 1, by omega, Nat.le_refl _, h2⟩
    · have hne : ∀ a, a ≤ n → s a ≠ s (n + 1) := fun a ha e => hx ⟨a, ha, e⟩
      have hv := h (n + 1) (Nat.le_refl _)
      obtain ⟨a, b, h1, h2, h3⟩ := ih (fun i => if s i = n then s (n + 1) else s i) (fun i hi => by
        show (if s i = n then s (n + 1) else s i) < n
        have h4 := h i (by omega)
        by_cases h5 : s i = n
        · rw [if_pos h5]
          have := hne i hi
          omega
        · rw [if_neg h5]; omega)
      have h3 : (if s a = n then s (n + 1) else s a) = (if s b = n then s (n + 1) else s b) := h3
      refine ⟨a, b, h1, by omega, ?_⟩
      by_cases ha : s a = n
      · by_cases hb : s b = n
        · rw [ha, hb]
        · rw [if_pos ha, if_neg hb] at h3
          exact absurd h3.symm (hne b h2)
      · by_cases hb : s b = n
        · rw [if_neg ha, if_pos hb] at h3
          exact absurd h3 (hne a (by omega))
        · rw [if_neg ha, if_neg hb] at h3
          exact h3
def sp_it (V : sp_V) (f : Nat) : Nat → Nat
  | 0 => f + 1
  | i + 1 => match sp_it V f i with
    | 0 => 0
    | t + 1 => sp_to V t
theorem sp_it_0 {V : sp_V} {f i : Nat} (h : sp_it V f i = 0) : ∀ k, sp_it V f (i + k) = 0 := by
  intro k
  induction k with
  | zero => exact h
  | succ k ih => show sp_it V f (i + k + 1) = 0; rw [sp_it, ih]
theorem sp_it_sh {V : sp_V} {f a b : Nat} (h : sp_it V f a = sp_it V f b) : ∀ k, sp_it V f (a + k) = sp_it V f (b + k) := by
  intro k
  induction k with
  | zero => exact h
  | succ k ih =>
    show sp_it V f (a + k + 1) = sp_it V f (b + k + 1)
    rw [sp_it, sp_it, ih]
theorem sp_cb_it {V : sp_V} {f : Nat} : ∀ k i, sp_cb V f k (sp_it V f (i + 1)) = true ↔ ∃ j, i + 1 ≤ j ∧ j ≤ i + k ∧ sp_it V f j = f + 1 := by
  intro k
  induction k with
  | zero =>
    intro i
    rw [sp_cb]
    exact ⟨fun h => absurd h (by decide), fun ⟨j, h1, h2, _⟩ => by omega⟩
  | succ k ih =>
    intro i
    have hs : sp_it V f (i + 1 + 1) = match sp_it V f (i + 1) with
      | 0 => 0
      | t + 1 => sp_to V t := by rw [sp_it]
    cases ht : sp_it V f (i + 1) with
    | zero =>
      rw [sp_cb]
      refine ⟨fun h => absurd h (by decide), fun ⟨j, h1, h2, h3⟩ => ?_⟩
      have := sp_it_0 ht (j - (i + 1))
      rw [show i + 1 + (j - (i + 1)) = j by omega] at this
      omega
    | succ t =>
      rw [ht] at hs
      have hs : sp_it V f (i + 1 + 1) = sp_to V t := hs
      rw [sp_cb]
      by_cases htf : t = f
      · rw [if_pos htf]
        exact ⟨fun _ => ⟨i + 1, Nat.le_refl _, by omega, by omega⟩, fun _ => rfl⟩
      · rw [if_neg htf, ← hs, ih (i + 1)]
        refine ⟨fun ⟨j, h1, h2, h3⟩ => ⟨j, by omega, by omega, h3⟩, fun ⟨j, h1, h2, h3⟩ => ⟨j, ?_, by omega, h3⟩⟩
        by_cases hj : j = i + 1
        · subst hj; omega
        · omega
theorem sp_it_le {V : sp_V} (hV : sp_ok V) {f : Nat} (hf : f < sp_n V) : ∀ i, sp_it V f i ≤ sp_n V := by
  intro i
  induction i with
  | zero => exact hf
  | succ i ih =>
    rw [sp_it]
    cases h : sp_it V f i with
    | zero => exact Nat.zero_le _
    | succ t => exact (hV.2.2.2 t (by omega)).2.2
theorem sp_it_back {V : sp_V} (hV : sp_ok V) {f : Nat} (hf : f < sp_n V) : ∀ j, 1 ≤ j → sp_it V f j = f + 1 → ∃ i, 1 ≤ i ∧ i ≤ sp_n V ∧ sp_it V f i = f + 1 := by
  intro j
  induction j using Nat.strongRecOn with
  | _ j ih =>
    intro h1 h2
    by_cases hj : j ≤ sp_n V
    · exact ⟨j, h1, hj, h2⟩
    · have hz : ∀ i, i ≤ j → sp_it V f i ≠ 0 := by
        intro i hi h0
        have := sp_it_0 h0 (j - i)
        rw [show i + (j - i) = j by omega] at this
        omega
      obtain ⟨a, b, k1, k2, k3⟩ := sp_pig (sp_n V) (fun i => sp_it V f i - 1) (fun i hi => by
        have := hz i (by omega)
        have := sp_it_le hV hf i
        show sp_it V f i - 1 < sp_n V
        omega)
      have k3 : sp_it V f a - 1 = sp_it V f b - 1 := k3
      have e : sp_it V f a = sp_it V f b := by
        have := hz a (by omega)
        have := hz b (by omega)
        omega
      have e2 := sp_it_sh e (j - b)
      rw [show b + (j - b) = j by omega, h2] at e2
      exact ih (a + (j - b)) (by omega) (by omega) e2
theorem sp_cb_6 {V : sp_V} (hV : sp_ok V) {f : Nat} (hf : f < sp_n V) : sp_cb V f 6 (sp_to V f) = sp_cb V f (sp_n V) (sp_to V f) := by
  have e : sp_to V f = sp_it V f (0 + 1) := by rw [sp_it, sp_it]
  have hn := hV.1
  rw [e, Bool.eq_iff_iff, sp_cb_it, sp_cb_it]
  refine ⟨fun ⟨j, h1, h2, h3⟩ => ?_, fun ⟨j, h1, h2, h3⟩ => ⟨j, h1, by omega, h3⟩⟩
  obtain ⟨i, i1, i2, i3⟩ := sp_it_back hV hf j h1 h3
  exact ⟨i, i1, by omega, i3⟩
/-- those that come back to themselves, as bits -/
def sp_rd (V : sp_V) : Nat → Nat
  | 0 => 0
  | f + 1 => if sp_cb V f (sp_n V) (sp_to V f) then sp_rd V f ||| 2 ^ f else sp_rd V f
theorem sp_rd_lt {V : sp_V} (hn6 : sp_n V ≤ 6) : ∀ k, k ≤ sp_n V → sp_rd V k < 64 := by
  intro k
  induction k with
  | zero => intro _; exact (by decide : 0 < 64)
  | succ k ih =>
    intro hk
    rw [sp_rd]
    by_cases h : sp_cb V k (sp_n V) (sp_to V k)
    · rw [if_pos h]; exact (sp_or _ (ih (by omega)) k (by omega)).2
    · rw [if_neg h]; exact ih (by omega)
theorem sp_rep_n {V : sp_V} {f : Nat} (b c : Bool) : (sp_rep V f b).isSome = (sp_rep V f c).isSome := by
  unfold sp_rep
  by_cases h : sp_so V f = 0
  · rw [if_pos h, if_pos h]
  rw [if_neg h, if_neg h]
  by_cases h : (sp_h V).testBit f
  · rw [if_pos h, if_pos h]
  rw [if_neg h, if_neg h]
  by_cases h : sp_sh V f = 0
  · rw [if_pos h, if_pos h]; rfl
  rw [if_neg h, if_neg h]
  by_cases h : sp_sh V f = 1
  · rw [if_pos h, if_pos h]; rfl
  rw [if_neg h, if_neg h]
  by_cases h : sp_sh V f = 2
  · rw [if_pos h, if_pos h]
  rw [if_neg h, if_neg h]
  by_cases h : sp_sh V f = 3
  · rw [if_pos h, if_pos h]; rfl
  rw [if_neg h, if_neg h]
/-- the first from i on that signs nothing and yet answers -/
def sp_id (V : sp_V) (s : Nat) : Nat → Nat → Int32
  | 0, _ => -2
  | k + 1, i => if s.testBit i = false ∧ (sp_rep V i true).isSome = true then nI i else sp_id V s k (i + 1)
theorem sp_jo_some {q : Option Bool} (h : q.isSome = true) : ¬ sp_jo q = -2 ∧ 0 ≤ sp_jo q ∧ ¬ sp_jo q < 0 := by
  cases q with
  | none => cases h
  | some b => cases b <;> decide
theorem sp_jo_none {q : Option Bool} (h : ¬ q.isSome = true) : sp_jo q = -2 := by
  cases q with
  | none => rfl
  | some b => exact absurd rfl h
/-- the first, the last below k of which p holds -/
def sp_fst (p : Nat → Bool) : Nat → Option Nat
  | 0 => none
  | n + 1 => match sp_fst p n with
    | some x => some x
    | none => if p n then some n else none
def sp_lst (p : Nat → Bool) : Nat → Option Nat
  | 0 => none
  | n + 1 => if p n then some n else sp_lst p n
theorem sp_fst_k {p : Nat → Bool} {n x : Nat} (h : sp_fst p n = some x) : ∀ k, sp_fst p (n + k) = some x := by
  intro k
  induction k with
  | zero => exact h
  | succ k ih => show sp_fst p (n + k + 1) = some x; rw [sp_fst, ih]
theorem sp_fst_lt {p : Nat → Bool} : ∀ n x, sp_fst p n = some x → x < n := by
  intro n
  induction n with
  | zero => intro x h; cases h
  | succ n ih =>
    intro x h
    rw [sp_fst] at h
    cases hq : sp_fst p n with
    | some y =>
      rw [hq] at h
      injection h with h
      have := ih y hq
      omega
    | none =>
      rw [hq] at h
      by_cases hp : p n
      · rw [if_pos hp] at h; injection h with h; omega
      · rw [if_neg hp] at h; cases h
theorem sp_age_ok {V : sp_V} (hV : sp_ok V) {r k : Nat} (hy : sp_y V + k < 2000) : sp_ok (sp_age V r k) := ⟨hV.1, hy, hV.2.2.1, fun f hf => ⟨(hV.2.2.2 f hf).1, Nat.lt_of_le_of_lt (Nat.sub_le _ _) (hV.2.2.2 f hf).2.1, (hV.2.2.2 f hf).2.2⟩⟩
/-- is e served in n years -/
def sp_si (T : sp_T) (V : sp_V) (e n : Nat) : Bool := (sp_bits (sp_age V (st_rt T) n) (st_eo T)).testBit e
section YEARS
variable {d : Nat} {I : Nat → Nat → Int32} {J : Nat → Nat → Int64} {R : Nat → Nat → Option Nat} {Q : Option Value → ow_H → Prop} {T : sp_T} {V : sp_V}
theorem c_Fs_lookAhead {k : Nat} (hR : ow_RF R) (hC : sp_CN I T V) (hT : st_ok T) (hV : st_now T V) (hk : k < 100)
    (hQ : ∀ I2 : Nat → Nat → Int32, sp_eq [33, 34, 35, 36] I I2 → sp_S I2 33 (sp_age V (st_rt T) k) → Q none (85, I2, J, R)) : ow_AM M_Fs_lookAhead (d + 2) [.ref 0, .int (nI k)] (85, I, J, R) Q := by
  apply t_Fs_lookAhead hR
  refine c_Scene_take hR (by decide) (by decide) (by decide) hC.2.2 (st_n6 hV) ?_
  intro I3 m0 m1
  refine ⟨I3, J, R, rfl, rfl, hR, ?_⟩
  rw [m0 2 (by decide), hC.2.1.2.1]
  refine c_Scene_age hR (by decide) m1 hV.1 hT.2.2.2.2.1 hk ?_
  intro I4 n0 n1
  refine ⟨I4, J, R, rfl, rfl, hR, hQ I4 (sp_eq_tr m0 (fun a ha => ?_)) n1⟩
  simp only [List.mem_cons, List.not_mem_nil, or_false, not_or] at ha
  exact sp_fr_row n0 (by simp; omega) (by intro k; simp; omega)
theorem c_Fs_isServedIn {e k : Nat} (hR : ow_RF R) (hC : sp_CN I T V) (hT : st_ok T) (hV : st_now T V) (hk : k < 100) (he : e < 6)
    (hQ : ∀ I2 : Nat → Nat → Int32, sp_eq [33, 34, 35, 36, 40, 41] I I2 → Q (some (.int (sp_jb (sp_si T V e k)))) (85, I2, J, R)) : ow_AM M_Fs_isServedIn (d + 5) [.ref 0, .int (nI e), .int (nI k)] (85, I, J, R) Q := by
  apply t_Fs_isServedIn hR
  refine c_Fs_lookAhead hR hC hT hV hk ?_
  intro I3 m0 m1
  refine ⟨I3, J, R, rfl, rfl, hR, ?_⟩
  have hV2 : sp_ok (sp_age V (st_rt T) k) := sp_age_ok hV.1 (by have := hV.2.2.1; omega)
  have hE : sp_EO I3 (sp_age V (st_rt T) k) (st_eo T) := fun g hg => by rw [m0 9 (by decide)]; exact sp_CN_E hC hV g hg
  refine c_Serving_bitsServed hR (by decide) m1 hV2 hE (st_eok hT) ?_
  intro I4 n0
  refine ⟨_, I4, J, R, rfl, rfl, hR, ?_⟩
  have hq := hQ I4 (sp_eq_tr (sp_eq_mono m0 (by decide)) (sp_eq_mono n0 (by decide)))
  have hlt := Nat.lt_trans (sp_bits_lt hV2 (st_eok hT)) (show 32 < 64 by decide)
  have e1 := sp_bit _ hlt e he
  unfold sp_bits at e1
  rw [e1]
  unfold sp_si sp_bits at hq
  by_cases hb : (sp_all (sp_age V (st_rt T) k) (st_eo T) (2 * sp_n (sp_age V (st_rt T) k))).testBit e
  · rw [if_pos hb]
    rw [hb] at hq
    exact ⟨fun c => absurd c (by decide), fun _ => hq⟩
  · rw [if_neg hb]
    rw [Bool.not_eq_true] at hb
    rw [hb] at hq
    exact ⟨fun _ => hq, fun c => absurd rfl c⟩
theorem c_Fs_isOutside {x : Int32} {n : Nat} (hR : ow_RF R) (hn : n < 100000) (hQ : ∀ I2 : Nat → Nat → Int32, sp_fr [] [(0, 15)] I I2 → I2 0 15 = (if sp_is x (n + 1) = true then 0 else 2) → Q (some (.int (sp_jb (!sp_is x (n + 1))))) (85, I2, J, R)) : ow_AM M_Fs_isOutside (d + 1) [.ref 0, .int x, .int 0, .int (nI n)] (85, I, J, R) Q := by
  apply t_Fs_isOutside hR
  have e0 : x < 0 ↔ x.toInt < 0 := by rw [Int32.lt_iff_toInt_lt, Int32.toInt_zero]
  have e1 : x ≤ nI n ↔ x.toInt ≤ n := by rw [Int32.le_iff_toInt_le, nI_toInt (by omega)]
  unfold sp_is at hQ
  rw [e0, e1]
  refine ⟨fun c I2 e2 => ?_, fun c => ⟨fun c2 I2 e2 => ?_, fun c2 I2 e2 => ?_⟩⟩
  · have K := hQ I2 (sp_fr_ue e2 (by simp))
    rw [decide_eq_false (by omega)] at K
    exact K (by rw [e2, ow_u_at]; rfl)
  · have K := hQ I2 (sp_fr_ue e2 (by simp))
    rw [decide_eq_true (by omega)] at K
    exact K (by rw [e2, ow_u_at]; rfl)
  · have K := hQ I2 (sp_fr_ue e2 (by simp))
    rw [decide_eq_false (by omega)] at K
    exact K (by rw [e2, ow_u_at]; rfl)
theorem c_Mo_why {a b : Bool} (hR : ow_RF R) (hQ : Q (some (.int (if a = true then (if b = true then 0 else 2) else 1))) (85, I, J, R)) : ow_AM M_Mo_why (d + 1) [.ref 70, .int (sp_jb a), .int (sp_jb b)] (85, I, J, R) Q := by
  apply t_Mo_why hR
  cases a with
  | false => exact ⟨fun c => absurd rfl c, fun _ => hQ⟩
  | true =>
    refine ⟨fun _ => ?_, fun c => absurd c (by decide)⟩
    cases b with
    | false => exact ⟨fun _ => hQ, fun c => absurd rfl c⟩
    | true => exact ⟨fun c => absurd c (by decide), fun _ => hQ⟩
theorem c_Mo_yearFor {e : Nat} {b : Bool} (hR : ow_RF R) (hM : sp_MN I T V) (hT : st_ok T) (hV : st_now T V) (he : e < 6)
    (hQ : ∀ I2 : Nat → Nat → Int32, sp_fr (80 :: sp_gS) sp_gE I I2 → Q (some (.int (sp_on (if b = true then sp_lst (sp_si T V e) 61 else sp_fst (sp_si T V e) 61)))) (85, I2, J, R)) : ow_AM M_Mo_yearFor (d + 6) [.ref 70, .int (nI e), .int (sp_jb b)] (85, I, J, R) Q := by
  have hn6 := st_n6 hV
  have hT9 := hT.2.2.2.2.1
  have hVo := hV.1
  apply t_Mo_yearFor hR
  refine c_Mo_yearsOn (k := 0) (r := st_rt T) hR (sp_MN_n hM hV) hM.2.1.2.1 hT9 hM.2.2 (sp_MN_q hM hV) hn6 (fun f hf => (hVo.2.2.2 f hf).2.1) (by decide) ?_
  intro I8 g0 g1
  refine ⟨I8, J, R, rfl, rfl, hR, ?_⟩
  have row : ∀ {I1 : Nat → Nat → Int32}, sp_fr (80 :: sp_gS) sp_gE I I1 → I1 73 = I 73 := fun h => sp_fr_row h (by decide) (by simp [sp_gE])
  have K0 : (-2 : Int32) = sp_on (if b = true then sp_lst (sp_si T V e) 0 else sp_fst (sp_si T V e) 0) := by cases b <;> rfl
  rw [K0]
  refine sp_up (N := 61) (G := fun i I1 => ow_AW ow_Y0 (ow_Z Q) M_Mo_yearFor (d + 6) 0 0 11 [(0, .ref 70), (1, .int (nI e)), (2, .int (sp_jb b)), (3, .int (sp_on (if b = true then sp_lst (sp_si T V e) i else sp_fst (sp_si T V e) i))), (4, .int (nI i))] [] (85, I1, J, R) 0 0) (Inv := fun i I1 => sp_fr (80 :: sp_gS) sp_gE I I1 ∧ sp_Mr I1 82 (sp_age V (st_rt T) i)) ?_ ?_ 0 I8 (Nat.zero_le _) ⟨sp_fr_mono (E := []) (sp_frq g0) (by decide) (by decide), g1⟩
  · intro I1 ⟨f1, _⟩
    apply t_Mo_yearFor_11 hR
    exact ⟨fun _ => hQ I1 f1, fun c => absurd (by decide) c⟩
  · intro i I1 hi ⟨f1, m1⟩ ih
    have hV2 : sp_ok (sp_age V (st_rt T) i) := sp_age_ok hVo (by have := hV.2.2.1; omega)
    have hMT : sp_MT I1 (sp_age V (st_rt T) i) (st_ne T) (st_ef T) := (sp_MT_k (sp_MN_T hM hT hV) (row f1) : sp_MT I1 V (st_ne T) (st_ef T))
    apply t_Mo_yearFor_11 hR
    refine ⟨fun c => absurd c (nI_nlt (a := 60) (b := i) (by omega) (by decide)), fun _ => ?_⟩
    refine c_Mo_servedOn hR (by decide) m1 hMT hV2 ?_
    intro I2 k0
    refine ⟨_, I2, J, R, rfl, rfl, hR, ?_⟩
    have hlt := Nat.lt_trans (sp_bits_lt hV2 (st_eok hT)) (show 32 < 64 by decide)
    refine c_Mo_hasBit hR hlt he ⟨_, I2, J, R, rfl, rfl, hR, ?_⟩
    have f2 : sp_fr (80 :: sp_gS) sp_gE I I2 := sp_fr_tr f1 (sp_fr_mono k0 (by decide) (by decide))
    have m2 : sp_Mr I2 82 (sp_age V (st_rt T) i) := sp_Mr_keep m1 (sp_fr_row k0 (by decide) (by simp)) (sp_fr_row k0 (by decide) (by simp))
    have nxt : ∀ (x : Int32), x = sp_on (if b = true then sp_lst (sp_si T V e) (i + 1) else sp_fst (sp_si T V e) (i + 1)) → ow_AM M_Mo_yearOn (d + 5) [.ref 70, .ref 82] (85, I2, J, R) (fun r h' => ∃ (I4 : Nat → Nat → Int32) (J4 : Nat → Nat → Int64) (R4 : Nat → Nat → Option Nat), r = none ∧ h' = (85, I4, J4, R4) ∧ ow_RF R4 ∧ ow_AW ow_Y0 (ow_Z Q) M_Mo_yearFor (d + 6) 0 0 11 [(0, .ref 70), (1, .int (nI e)), (2, .int (sp_jb b)), (3, .int x), (4, .int (nI i + 1))] [] (85, I4, J4, R4) 0 0) := by
      intro x hx
      refine c_Mo_yearOn (V := sp_age V (st_rt T) i) (r := st_rt T) hR (by decide) (by rw [row f2]; exact (sp_MN_n hM hV : I 73 2 = nI (sp_n V))) (by rw [row f2]; exact hM.2.1.2.1) hT9 (sp_Mr_w m2) hn6 (fun f hf => (hV2.2.2.2 f hf).2.1) ?_
      intro I4 g4 g5
      refine ⟨I4, J, R, rfl, rfl, hR, ?_⟩
      rw [hx, nI_1]
      rw [sp_age_s] at g5
      refine ih I4 ⟨sp_fr_tr f2 (sp_fr_mono (E := []) (sp_frq g4) (by decide) (by decide)), sp_Mr_of g5 (fun f hf => ?_)⟩
      rw [g4 80 (by decide)]
      exact (m2.1 f hf).2.2
    have hsi : sp_si T V e i = (sp_all (sp_age V (st_rt T) i) (sp_eo (st_ne T) (st_ef T)) (2 * sp_n (sp_age V (st_rt T) i))).testBit e := rfl
    rw [← hsi]
    cases hb : sp_si T V e i with
    | false =>
      refine ⟨fun _ => nxt _ ?_, fun c => absurd rfl c⟩
      rw [sp_lst, sp_fst, hb]
      cases b with
      | true => rfl
      | false =>
        cases hq : sp_fst (sp_si T V e) i with
        | none => rfl
        | some y => rfl
    | true =>
      refine ⟨fun c => absurd c (by decide), fun _ => ?_⟩
      cases b with
      | true =>
        refine ⟨fun _ => nxt _ ?_, fun c => absurd c (by decide)⟩
        rw [sp_lst, hb]; rfl
      | false =>
        refine ⟨fun c => absurd rfl c, fun _ => ?_⟩
        cases hq : sp_fst (sp_si T V e) i with
        | none =>
          refine ⟨fun c => absurd c (show ¬ (0 : Int32) ≤ (-2) by decide), fun _ => nxt _ ?_⟩
          rw [if_neg (by decide), sp_fst, hq, hb]; rfl
        | some y =>
          have := sp_fst_lt _ _ hq
          refine ⟨fun _ => nxt _ ?_, fun c => absurd (nI_pos' (by omega)) c⟩
          rw [if_neg (by decide), if_neg (by decide), sp_fst, hq]
end YEARS
