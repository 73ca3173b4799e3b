/-! Own rows: plans. -/
/-- a folly is mended: sound for v years -/
def sp_mend (V : sp_V) (f v : Nat) : sp_V := (sp_n V, sp_y V, sp_h V, sp_sh V, (fun g => if g = f then v else sp_so V g), sp_to V)
/-- what stands behind the first j mendings of a row of digits, and their years -/
def sp_pw (T : sp_T) (V : sp_V) (dg : Nat → Nat) : Nat → sp_V
  | 0 => sp_age V (st_rt T) 0
  | j + 1 => sp_age (match dg j with
    | 0 => sp_pw T V dg j
    | f + 1 => sp_mend (sp_pw T V dg j) f (sp_so (st_v T) f)) (st_rt T) 1
theorem sp_pw_sh {T : sp_T} {V : sp_V} {dg : Nat → Nat} : ∀ j, sp_n (sp_pw T V dg j) = sp_n V ∧ sp_y (sp_pw T V dg j) = sp_y V + j ∧ sp_h (sp_pw T V dg j) = sp_h V ∧ sp_sh (sp_pw T V dg j) = sp_sh V ∧ sp_to (sp_pw T V dg j) = sp_to V := by
  intro j
  induction j with
  | zero => exact ⟨rfl, rfl, rfl, rfl, rfl⟩
  | succ j ih =>
    obtain ⟨a1, a2, a3, a4, a5⟩ := ih
    rw [sp_pw]
    cases hd : dg j with
    | zero => exact ⟨a1, by show sp_y (sp_pw T V dg j) + 1 = _; omega, a3, a4, a5⟩
    | succ f => exact ⟨a1, by show sp_y (sp_pw T V dg j) + 1 = _; omega, a3, a4, a5⟩
/-- which are sound behind all y years, as the object reckons it: m0 unmended, sm j mended in the year j -/
def sp_pq (dg : Nat → Nat) (m0 : Nat) (sm : Nat → Nat) : Nat → Nat
  | 0 => m0
  | j + 1 => match dg j with
    | 0 => sp_pq dg m0 sm j
    | f + 1 => (sp_pq dg m0 sm j &&& (63 - 2 ^ f)) ||| (sm j &&& 2 ^ f)
theorem sp_clr : ∀ m, m < 64 → ∀ f, f < 6 → (nI m &&& (((1 : Int32) <<< (nI f &&& 31)) ^^^ (-1)) = nI (m &&& (63 - 2 ^ f)) ∧ m &&& (63 - 2 ^ f) < 64) := by decide +kernel
theorem sp_one : ∀ m, m < 64 → ∀ f, f < 6 → (nI m &&& ((1 : Int32) <<< (nI f &&& 31)) = nI (m &&& 2 ^ f) ∧ m &&& 2 ^ f < 64) := by decide +kernel
theorem sp_clb : ∀ f, f < 6 → ∀ g, g < 6 → (63 - 2 ^ f).testBit g = decide (g ≠ f) := by decide +kernel
theorem sp_pq_bit {T : sp_T} {V : sp_V} {dg : Nat → Nat} {m0 y : Nat} {sm : Nat → Nat} (hn6 : sp_n V ≤ 6) (h0 : ∀ g, g < sp_n V → m0.testBit g = decide (st_rt T * y < sp_so V g)) (hs : ∀ j, j < y → ∀ g, g < sp_n V → (sm j).testBit g = decide (st_rt T * (y - j) < sp_so (st_v T) g)) (hd : ∀ j, j < y → dg j ≤ sp_n V) : ∀ j, j ≤ y → ∀ g, g < sp_n V → (sp_pq dg m0 sm j).testBit g = decide (st_rt T * (y - j) < sp_so (sp_pw T V dg j) g) := by
  intro j
  induction j with
  | zero => intro _ g hg; exact h0 g hg
  | succ j ih =>
    intro hj g hg
    have i := ih (by omega) g hg
    have e : st_rt T * (y - j) = st_rt T * (y - (j + 1)) + st_rt T := by rw [← Nat.mul_succ]; congr 1; omega
    have hdj := hd j (by omega)
    rw [sp_pq, sp_pw]
    cases hdg : dg j with
    | zero =>
      dsimp only
      rw [i]
      apply decide_eq_decide.mpr
      show _ ↔ st_rt T * (y - (j + 1)) < sp_so (sp_pw T V dg j) g - st_rt T * 1
      omega
    | succ f =>
      dsimp only
      rw [Nat.testBit_or, Nat.testBit_and, Nat.testBit_and, sp_clb f (by omega) g (by omega), Nat.testBit_two_pow, i, hs j (by omega) g hg]
      show _ = decide (st_rt T * (y - (j + 1)) < (if g = f then sp_so (st_v T) f else sp_so (sp_pw T V dg j) g) - st_rt T * 1)
      by_cases hgf : g = f
      · subst hgf
        rw [if_pos rfl]
        simp
        omega
      · rw [if_neg hgf]
        have : ¬ f = g := fun h => hgf h.symm
        simp [hgf, this]
        omega
/-- digits of x, the highest of y first -/
def sp_dg (y x j : Nat) : Nat := x / 10 ^ (y - 1 - j) % 10
theorem sp_dg_s {y x j : Nat} (hj : j < y) : sp_dg (y + 1) x j = sp_dg y (x / 10) j := by
  unfold sp_dg
  rw [Nat.div_div_eq_div_mul, show y + 1 - 1 - j = (y - 1 - j) + 1 by omega, Nat.pow_succ, Nat.mul_comm]
theorem sp_dg_l {y x : Nat} : sp_dg (y + 1) x y = x % 10 := by
  unfold sp_dg
  rw [show y + 1 - 1 - y = 0 by omega, Nat.pow_zero, Nat.div_one]
def sp_vd (n y x : Nat) : Prop := ∀ j, j < y → sp_dg y x j ≤ n
theorem sp_vd_s {n y x : Nat} : sp_vd n (y + 1) x ↔ sp_vd n y (x / 10) ∧ x % 10 ≤ n := by
  refine ⟨fun h => ⟨fun j hj => ?_, ?_⟩, fun h j hj => ?_⟩
  · rw [← sp_dg_s hj]; exact h j (by omega)
  · rw [← sp_dg_l (y := y)]; exact h y (by omega)
  · by_cases hjy : j = y
    · rw [hjy, sp_dg_l]; exact h.2
    · rw [sp_dg_s (by omega)]; exact h.1 j (by omega)
/-- a row of digits as a number, by tens; by the count of follies and 1 -/
def sp_nm (b : Nat) (rw' : Nat → Nat) : Nat → Nat
  | 0 => 0
  | y + 1 => sp_nm b rw' y * b + rw' y
def sp_up1 (f : Nat → Nat) (k v : Nat) (j : Nat) : Nat := if j = k then v else f j
theorem sp_nm_eq {b : Nat} {f g : Nat → Nat} : ∀ y, (∀ j, j < y → f j = g j) → sp_nm b f y = sp_nm b g y := by
  intro y
  induction y with
  | zero => intro _; rfl
  | succ y ih => intro h; rw [sp_nm, sp_nm, ih (fun j hj => h j (by omega)), h y (by omega)]
theorem sp_nm_up {b : Nat} {f : Nat → Nat} {y v : Nat} : sp_nm b (sp_up1 f y v) y = sp_nm b f y := sp_nm_eq y (fun j hj => by unfold sp_up1; rw [if_neg (by omega)])
theorem sp_nm_dg {f : Nat → Nat} : ∀ y, (∀ j, j < y → f j ≤ 9) → ∀ j, j < y → sp_dg y (sp_nm 10 f y) j = f j := by
  intro y
  induction y with
  | zero => intro _ j hj; omega
  | succ y ih =>
    intro h j hj
    have h9 := h y (by omega)
    have e : sp_nm 10 f (y + 1) / 10 = sp_nm 10 f y := by rw [sp_nm]; omega
    by_cases hjy : j = y
    · rw [hjy, sp_dg_l, sp_nm]; omega
    · rw [sp_dg_s (by omega), e]
      exact ih (fun j hj => h j (by omega)) j (by omega)
theorem sp_nm_lt {f : Nat → Nat} {b n : Nat} (hb : n < b) : ∀ y, (∀ j, j < y → f j ≤ n) → sp_nm b f y < b ^ y := by
  intro y
  induction y with
  | zero => intro _; exact (by decide : 0 < 1)
  | succ y ih =>
    intro h
    have i := ih (fun j hj => h j (by omega))
    have h9 := h y (by omega)
    rw [sp_nm, Nat.pow_succ]
    have : sp_nm b f y * b + b ≤ b ^ y * b := by rw [← Nat.succ_mul]; exact Nat.mul_le_mul_right b i
    omega
/-- the next row -/
def sp_tr (n : Nat) : Nat → (Nat → Nat) → Bool × (Nat → Nat)
  | 0, f => (false, f)
  | y + 1, f => if f y < n then (true, sp_up1 f y (f y + 1)) else sp_tr n y (sp_up1 f y 0)
theorem sp_tr_ge {n : Nat} : ∀ y f j, y ≤ j → (sp_tr n y f).2 j = f j := by
  intro y
  induction y with
  | zero => intro f j _; rfl
  | succ y ih =>
    intro f j hj
    rw [sp_tr]
    by_cases h : f y < n
    · rw [if_pos h]; show sp_up1 f y (f y + 1) j = f j; unfold sp_up1; rw [if_neg (by omega)]
    · rw [if_neg h, ih _ j (by omega)]; unfold sp_up1; rw [if_neg (by omega)]
theorem sp_tr_ok {n : Nat} (hn : n ≤ 9) : ∀ y f, (∀ j, j < y → f j ≤ n) → (∀ j, j < y → (sp_tr n y f).2 j ≤ n) ∧ ((sp_tr n y f).1 = true → sp_nm 10 f y < sp_nm 10 (sp_tr n y f).2 y ∧ (∀ x, sp_nm 10 f y < x → x < sp_nm 10 (sp_tr n y f).2 y → ¬ sp_vd n y x) ∧ sp_nm (n + 1) (sp_tr n y f).2 y = sp_nm (n + 1) f y + 1) ∧ ((sp_tr n y f).1 = false → ∀ x, sp_nm 10 f y < x → x < 10 ^ y → ¬ sp_vd n y x) := by
  intro y
  induction y with
  | zero =>
    intro f _
    refine ⟨fun j hj => by omega, fun h => (by cases h), fun _ x h1 h2 => ?_⟩
    have : x < 1 := h2
    have : 0 < x := h1
    omega
  | succ y ih =>
    intro f hf
    have hy := hf y (by omega)
    rw [sp_tr]
    by_cases h : f y < n
    · rw [if_pos h]
      have e1 : sp_nm 10 (sp_up1 f y (f y + 1)) (y + 1) = sp_nm 10 f y * 10 + (f y + 1) := by rw [sp_nm, sp_nm_up]; unfold sp_up1; rw [if_pos rfl]
      have e2 : sp_nm (n + 1) (sp_up1 f y (f y + 1)) (y + 1) = sp_nm (n + 1) f y * (n + 1) + (f y + 1) := by rw [sp_nm, sp_nm_up]; unfold sp_up1; rw [if_pos rfl]
      refine ⟨fun j hj => ?_, fun _ => ⟨?_, fun x h1 h2 => ?_, ?_⟩, fun q => (by cases q)⟩
      · show sp_up1 f y (f y + 1) j ≤ n
        unfold sp_up1
        by_cases hjy : j = y
        · rw [if_pos hjy]; omega
        · rw [if_neg hjy]; exact hf j hj
      · show sp_nm 10 f (y + 1) < sp_nm 10 (sp_up1 f y (f y + 1)) (y + 1)
        rw [e1, sp_nm]; omega
      · have h2 : x < sp_nm 10 (sp_up1 f y (f y + 1)) (y + 1) := h2
        rw [e1] at h2
        rw [sp_nm] at h1
        omega
      · show sp_nm (n + 1) (sp_up1 f y (f y + 1)) (y + 1) = _
        rw [e2, sp_nm]; omega
    · rw [if_neg h]
      have hfn : f y = n := by omega
      obtain ⟨i1, i2, i3⟩ := ih (sp_up1 f y 0) (fun j hj => by unfold sp_up1; rw [if_neg (by omega)]; exact hf j (by omega))
      have hz : (sp_tr n y (sp_up1 f y 0)).2 y = 0 := by rw [sp_tr_ge y _ y (Nat.le_refl _)]; unfold sp_up1; rw [if_pos rfl]
      rw [sp_nm_up, sp_nm_up] at i2
      rw [sp_nm_up] at i3
      refine ⟨fun j hj => ?_, fun hb => ?_, fun hb x h1 h2 => ?_⟩
      · by_cases hjy : j = y
        · rw [hjy, hz]; omega
        · exact i1 j (by omega)
      · obtain ⟨k1, k2, k3⟩ := i2 hb
        refine ⟨?_, fun x h1 h2 hv => ?_, ?_⟩
        · rw [sp_nm, sp_nm, hz]; omega
        · rw [sp_nm] at h1
          rw [sp_nm, hz] at h2
          obtain ⟨v1, v2⟩ := sp_vd_s.mp hv
          exact k2 (x / 10) (by omega) (by omega) v1
        · rw [sp_nm, sp_nm, hz, k3, Nat.succ_mul]; omega
      · obtain hv := i3 hb
        intro hvd
        obtain ⟨v1, v2⟩ := sp_vd_s.mp hvd
        rw [sp_nm] at h1
        rw [Nat.pow_succ] at h2
        exact hv (x / 10) (by omega) (by omega) v1
/-- the best row below x; val: how many it serves, if it is one -/
def sp_pf (val : Nat → Option Nat) : Nat → Option (Nat × Nat)
  | 0 => none
  | x + 1 => match val x with
    | none => sp_pf val x
    | some c => match sp_pf val x with
      | none => some (x, c)
      | some q => if q.2 < c then some (x, c) else some q
theorem sp_pf_skip {val : Nat → Option Nat} {x : Nat} : ∀ k, (∀ z, x ≤ z → z < x + k → val z = none) → sp_pf val (x + k) = sp_pf val x := by
  intro k
  induction k with
  | zero => intro _; rfl
  | succ k ih =>
    intro h
    show sp_pf val (x + k + 1) = sp_pf val x
    rw [sp_pf, h (x + k) (by omega) (by omega)]
    exact ih (fun z h1 h2 => h z h1 (by omega))
def sp_p1 : Option (Nat × Nat) → Int32
  | none => 0
  | some q => nI q.1
def sp_p2 : Option (Nat × Nat) → Int32
  | none => -1
  | some q => nI q.2
theorem sp_pf_b {val : Nat → Option Nat} {B : Nat} (h : ∀ x c, val x = some c → c ≤ B) : ∀ x q, sp_pf val x = some q → q.1 < x ∧ q.2 ≤ B := by
  intro x
  induction x with
  | zero => intro q hq; cases hq
  | succ x ih =>
    intro q hq
    rw [sp_pf] at hq
    cases hv : val x with
    | none =>
      rw [hv] at hq
      have := ih q hq
      exact ⟨by omega, this.2⟩
    | some c =>
      have hc := h x c hv
      rw [hv] at hq
      dsimp only at hq
      cases hp : sp_pf val x with
      | none =>
        rw [hp] at hq
        injection hq with hq
        subst hq
        exact ⟨Nat.lt_succ_self _, hc⟩
      | some z =>
        rw [hp] at hq
        dsimp only at hq
        by_cases hz : z.2 < c
        · rw [if_pos hz] at hq
          injection hq with hq
          subst hq
          exact ⟨Nat.lt_succ_self _, hc⟩
        · rw [if_neg hz] at hq
          injection hq with hq
          subst hq
          have := ih z hp
          exact ⟨by omega, this.2⟩
def sp_vb (n y x : Nat) : Bool := (List.range y).all (fun j => decide (sp_dg y x j ≤ n))
theorem sp_vb_vd {n y x : Nat} : sp_vb n y x = true ↔ sp_vd n y x := by
  unfold sp_vb sp_vd
  rw [List.all_eq_true]
  refine ⟨fun h j hj => of_decide_eq_true (h j (List.mem_range.mpr hj)), fun h j hj => decide_eq_true (h j (List.mem_range.mp hj))⟩
/-- how many a row serves behind its years, if it is one -/
def sp_pv (T : sp_T) (V : sp_V) (y x : Nat) : Option Nat := if sp_vb (sp_n V) y x = true then some (sp_pc (sp_bits (sp_pw T V (sp_dg y x) y) (st_eo T))) else none
theorem sp_pw_eq {T : sp_T} {V : sp_V} {f g : Nat → Nat} : ∀ y, (∀ j, j < y → f j = g j) → sp_pw T V f y = sp_pw T V g y := by
  intro y
  induction y with
  | zero => intro _; rfl
  | succ y ih => intro h; rw [sp_pw, sp_pw, ih (fun j hj => h j (by omega)), h y (by omega)]
theorem sp_pw_ok {T : sp_T} {V : sp_V} (hT : st_ok T) (hV : st_now T V) {f : Nat → Nat} : ∀ y, y ≤ 4 → (∀ j, j < y → f j ≤ sp_n V) → sp_ok (sp_pw T V f y) := by
  intro y
  induction y with
  | zero => intro _ _; exact sp_age_ok hV.1 (by have := hV.2.2.1; omega)
  | succ y ih =>
    intro hy h
    have i := ih (by omega) (fun j hj => h j (by omega))
    have s := sp_pw_sh (T := T) (V := V) (dg := f) y
    have hyy := hV.2.2.1
    rw [sp_pw]
    cases hf : f y with
    | zero => exact sp_age_ok i (by rw [s.2.1]; omega)
    | succ g =>
      have hg := h y (by omega)
      refine sp_age_ok (V := sp_mend (sp_pw T V f y) g (sp_so (st_v T) g)) ⟨i.1, i.2.1, i.2.2.1, fun q hq => ⟨(i.2.2.2 q hq).1, ?_, (i.2.2.2 q hq).2.2⟩⟩ (by show sp_y (sp_pw T V f y) + 1 < 2000; rw [s.2.1]; omega)
      show (if q = g then sp_so (st_v T) g else sp_so (sp_pw T V f y) q) < 100
      by_cases hqg : q = g
      · rw [if_pos hqg]
        exact (hT.1.2.2.2 g (by have := hV.2.1; show g < st_n T; omega)).2.1
      · rw [if_neg hqg]; exact (i.2.2.2 q hq).2.1
def sp_m0 (T : sp_T) (V : sp_V) (y : Nat) : Nat := sp_bs (sp_age V (st_rt T) y) (sp_n V)
def sp_sm (T : sp_T) (y j : Nat) : Nat := sp_bs (sp_age (st_v T) (st_rt T) (y - j)) (st_n T)
theorem sp_pq_lt {f : Nat → Nat} {m0 n : Nat} {sm : Nat → Nat} (h0 : m0 < 64) (hs : ∀ j, sm j < 64) (hn : n ≤ 6) : ∀ y, (∀ j, j < y → f j ≤ n) → sp_pq f m0 sm y < 64 := by
  intro y
  induction y with
  | zero => intro _; exact h0
  | succ y ih =>
    intro h
    have i := ih (fun j hj => h j (by omega))
    rw [sp_pq]
    cases hf : f y with
    | zero => exact i
    | succ g =>
      have := h y (by omega)
      exact (sp_or2 _ (sp_clr _ i g (by omega)).2 _ (sp_one _ (hs y) g (by omega)).2).2
theorem sp_plan_sim {T : sp_T} {V : sp_V} (hT : st_ok T) (hV : st_now T V) {y : Nat} {f : Nat → Nat} (hf : ∀ j, j < y → f j ≤ sp_n V) : sp_sim (sp_only (sp_age V (st_rt T) y) (sp_pq f (sp_m0 T V y) (sp_sm T y) y)) (sp_pw T V f y) := by
  have hn6 := st_n6 hV
  have hnT : st_n T = sp_n V := hV.2.1.symm
  obtain ⟨a1, a2, a3, a4, a5⟩ := sp_pw_sh (T := T) (V := V) (dg := f) y
  have hb := sp_pq_bit (T := T) (V := V) (dg := f) (m0 := sp_m0 T V y) (y := y) (sm := sp_sm T y) hn6 (fun g hg => by
    unfold sp_m0
    rw [sp_bs_bit (V := sp_age V (st_rt T) y) hn6 (sp_n V) (Nat.le_refl _) g (by omega)]
    have e : decide (g < sp_n V) = true := decide_eq_true hg
    rw [e, Bool.true_and]
    apply decide_eq_decide.mpr
    show 0 < sp_so V g - st_rt T * y ↔ _
    omega) (fun j hj g hg => by
    unfold sp_sm
    rw [sp_bs_bit (V := sp_age (st_v T) (st_rt T) (y - j)) (by show st_n T ≤ 6; omega) (st_n T) (Nat.le_refl _) g (by omega)]
    have e : decide (g < st_n T) = true := decide_eq_true (by omega)
    rw [e, Bool.true_and]
    apply decide_eq_decide.mpr
    show 0 < sp_so (st_v T) g - st_rt T * (y - j) ↔ _
    omega) hf y (Nat.le_refl _)
  refine ⟨a1.symm, by show (sp_y V + y) % 2 = _; rw [a2], fun g hg => ?_⟩
  have hg : g < sp_n V := hg
  refine ⟨by rw [a3]; rfl, by rw [a4]; rfl, ?_, by rw [a5]; rfl⟩
  show (if (sp_pq f (sp_m0 T V y) (sp_sm T y) y).testBit g then 1 else 0) = 0 ↔ sp_so (sp_pw T V f y) g = 0
  rw [hb g hg, Nat.sub_self, Nat.mul_zero]
  by_cases h : 0 < sp_so (sp_pw T V f y) g
  · rw [decide_eq_true h, if_pos rfl]; omega
  · rw [decide_eq_false h, if_neg (by decide)]; omega
section PLAN
variable {d : Nat} {I : Nat → Nat → Int32} {J : Nat → Nat → Int64} {R : Nat → Nat → Option Nat} {Q : Option Value → ow_H → Prop} {T : sp_T} {V : sp_V}
theorem c_Planner_bitsSoundAfter {k : Nat} (hR : ow_RF R) (hC : sp_ct I T) (hT : st_ok T) (hk : k < 100) (hQ : Q (some (.int (nI (sp_bs (sp_age (st_v T) (st_rt T) k) (st_n T))))) (85, I, J, R)) : ow_AM M_Planner_bitsSoundAfter (d + 1) [.ref 46, .int (nI k)] (85, I, J, R) Q := by
  have hn6 : st_n T ≤ 6 := hT.1.1
  have hr := hT.2.2.2.2.1
  obtain ⟨c1, c2, c3, c4, c5, c6, c7⟩ := hC
  obtain ⟨s1, s2, s3, s4⟩ := c6
  have hrk : st_rt T * k < 1000 := Nat.lt_of_le_of_lt (Nat.mul_le_mul (show st_rt T ≤ 9 by omega) (show k ≤ 99 by omega)) (by decide)
  apply t_Planner_bitsSoundAfter hR
  refine sp_up (σ := Unit) (N := st_n T) (G := fun i _ => ow_AW ow_Y0 (ow_Z Q) M_Planner_bitsSoundAfter (d + 1) 0 0 4 [(0, .ref 46), (1, .int (nI k)), (2, .int (nI (sp_bs (sp_age (st_v T) (st_rt T) k) i))), (3, .int (nI i))] [] (85, I, J, R) 0 0) (Inv := fun _ _ => True) ?_ ?_ 0 () (Nat.zero_le _) trivial
  · intro _ _
    apply t_Planner_bitsSoundAfter_4 hR
    rw [show I 3 0 = nI (st_n T) from s1]
    exact ⟨fun _ => hQ, fun c => absurd (Int32.le_refl _) c⟩
  · intro i _ hi _ ih
    have K := ih () trivial
    rw [sp_bs] at K
    have hl := sp_bs_lt (V := sp_age (st_v T) (st_rt T) k) hn6 i (by show i ≤ st_n T; omega)
    have hso := (hT.1.2.2.2 i hi).2.1
    apply t_Planner_bitsSoundAfter_4 hR
    rw [show I 3 0 = nI (st_n T) from s1, sp_cl (by omega), show I 5 i = nI (sp_so (st_v T) i) from (s4 i hi).2.1, c2, pk_mul, nI_leI (a := sp_so (st_v T) i) (b := st_rt T * k) (by omega) (by omega), nI_1, (sp_or _ hl i (by omega)).1]
    have e : sp_so (sp_age (st_v T) (st_rt T) k) i = sp_so (st_v T) i - st_rt T * k := rfl
    rw [e] at K
    refine ⟨fun c => absurd c (nI_ge hi (by omega)), fun _ => ⟨vp_in_nI (by omega) (by decide), fun c => ?_, fun c => ?_⟩⟩
    · rw [if_neg (by omega)] at K; exact K
    · rw [if_pos (by omega)] at K; exact K
theorem c_Planner_prepare {y : Nat} (hR : ow_RF R) (hC : sp_CN I T V) (hT : st_ok T) (hV : st_now T V) (hy : y ≤ 4)
    (hQ : ∀ I2 : Nat → Nat → Int32, sp_fr [47, 48, 49, 50, 51, 52, 53] [(46, 6)] I I2 → sp_S I2 47 (sp_age V (st_rt T) y) → I2 46 6 = nI (sp_m0 T V y) → (∀ k, k < 64 → I2 53 k = -1) → (∀ j, j < y → I2 51 j = 0 ∧ I2 52 j = nI (sp_sm T y j)) → Q none (85, I2, J, R)) : ow_AM M_Planner_prepare (d + 2) [.ref 46, .ref 29, .int (nI y)] (85, I, J, R) Q := by
  have hn6 := st_n6 hV
  have hV2 : sp_ok (sp_age V (st_rt T) y) := sp_age_ok hV.1 (by have := hV.2.2.1; omega)
  apply t_Planner_prepare hR
  refine c_Scene_take hR (by decide) (by decide) (by decide) hC.2.2 hn6 ?_
  intro I9 m0 m1
  refine ⟨I9, J, R, rfl, rfl, hR, ?_⟩
  rw [m0 2 (by decide), hC.2.1.2.1]
  refine c_Scene_age hR (by decide) m1 hV.1 hT.2.2.2.2.1 (by omega) ?_
  intro I10 n0 n1
  refine ⟨I10, J, R, rfl, rfl, hR, ?_⟩
  refine c_Scene_bitsSound hR (by decide) n1 hV2 ⟨_, I10, J, R, rfl, rfl, hR, ?_⟩
  intro I12 e12
  have f12 : sp_fr [47, 48, 49, 50, 51, 52, 53] [(46, 6)] I I12 := sp_fr_tr (sp_fr_tr (sp_fr_mono (E := []) (sp_frq m0) (by decide) (by decide)) (sp_fr_mono n0 (by decide) (by decide))) (sp_fr_ue e12 (by decide))
  have s12 : sp_S I12 47 (sp_age V (st_rt T) y) := sp_S_kr n1 (by rw [e12, ow_u_ne (by decide)]) (by rw [e12, ow_u_ne (by decide)]) (by rw [e12, ow_u_ne (by decide)]) (by rw [e12, ow_u_ne (by decide)])
  have x12 : I12 46 6 = nI (sp_m0 T V y) := by rw [e12, ow_u_at]; rfl
  refine sp_up (N := 64) (G := fun i I1 => ow_AW ow_Y0 (ow_Z Q) M_Planner_prepare (d + 2) 0 0 36 [(0, .ref 46), (2, .int (nI y)), (3, .int (nI i))] [] (85, I1, J, R) 0 0) (Inv := fun i I1 => sp_eq [53] I12 I1 ∧ ∀ k, k < i → I1 53 k = -1) ?_ ?_ 0 I12 (Nat.zero_le _) ⟨sp_eq_rf, fun k hk => absurd hk (Nat.not_lt_zero _)⟩
  · intro I1 ⟨he, x1⟩
    apply t_Planner_prepare_36 hR
    refine ⟨fun _ => ?_, fun c => absurd (by decide) c⟩
    refine sp_up (N := y) (G := fun i I2 => ow_AW ow_Y0 (ow_Z Q) M_Planner_prepare (d + 2) 0 0 57 [(0, .ref 46), (2, .int (nI y)), (3, .int (nI i))] [] (85, I2, J, R) 0 0) (Inv := fun i I2 => sp_eq [51, 52] I1 I2 ∧ ∀ j, j < i → I2 51 j = 0 ∧ I2 52 j = nI (sp_sm T y j)) ?_ ?_ 0 I1 (Nat.zero_le _) ⟨sp_eq_rf, fun k hk => absurd hk (Nat.not_lt_zero _)⟩
    · intro I2 ⟨he2, x2⟩
      apply t_Planner_prepare_57 hR
      refine ⟨fun _ => ?_, fun c => absurd (Int32.le_refl _) c⟩
      have r2 : ∀ a, a ∉ [51, 52, 53] → I2 a = I12 a := fun a ha => by
        rw [he2 a (by simp at ha ⊢; omega), he a (by simp at ha ⊢; omega)]
      refine hQ I2 (sp_fr_tr f12 (sp_fr_mono (S := [51, 52, 53]) (E := []) (sp_frq r2) (by decide) (by decide))) (sp_S_kr s12 (r2 _ (by decide)) (r2 _ (by decide)) (r2 _ (by decide)) (r2 _ (by decide))) (by rw [r2 46 (by decide)]; exact x12) (fun k hk => by rw [he2 53 (by decide)]; exact x1 k hk) x2
    · intro i I2 hi ⟨he2, x2⟩ ih
      apply t_Planner_prepare_57 hR
      refine ⟨fun c => absurd c (nI_ge hi (by omega)), fun _ => ⟨vp_in_nI (by omega) (by decide), fun I6 e6 => ?_⟩⟩
      rw [sp_cl (by omega)] at e6
      rw [pk_sub (by omega), sp_cl (by omega), nI_1]
      have hC6 : sp_ct I6 T := by
        refine sp_ct_k hC.2.1 (fun a ha => ?_)
        simp only [List.mem_cons, List.not_mem_nil, or_false] at ha
        rw [e6, ow_u_ne (by omega), he2 a (by simp; omega), he a (by simp; omega)]
        exact sp_fr_row f12 (by simp; omega) (by intro k; simp; omega)
      refine c_Planner_bitsSoundAfter hR hC6 hT (by omega) ⟨_, I6, J, R, rfl, rfl, hR, vp_in_nI (by omega) (by decide), fun I8 e8 => ?_⟩
      refine ih I8 ⟨sp_eq_tr (sp_eq_tr he2 (sp_eq_ue e6 (by decide))) (sp_eq_ue e8 (by decide)), fun j hj => ?_⟩
      rw [e8, ow_u_ne (show (51 : Nat) ≠ 52 by decide), e6]
      by_cases hji : j = i
      · subst hji
        rw [ow_u_at, ow_u_at]
        exact ⟨rfl, rfl⟩
      · rw [ow_u_nk hji, ow_u_nk hji, ow_u_ne (by decide)]
        exact x2 j (by omega)
  · intro i I1 hi ⟨he, x1⟩ ih
    apply t_Planner_prepare_36 hR
    refine ⟨fun c => absurd c (nI_ge (b := 64) hi (by decide)), fun _ => ⟨vp_in_nI hi (by decide), fun I5 e5 => ?_⟩⟩
    rw [sp_cl (by omega)] at e5
    rw [nI_1]
    refine ih I5 ⟨sp_eq_tr he (sp_eq_ue e5 (by decide)), fun k hk => ?_⟩
    rw [e5]
    by_cases hki : k = i
    · rw [hki, ow_u_at]
    · rw [ow_u_nk hki]; exact x1 k (by omega)
theorem c_Planner_soundBehindRow {y m0 n : Nat} {f sm : Nat → Nat} (hR : ow_RF R) (hy : y ≤ 4) (hn : n ≤ 6) (h0 : I 46 6 = nI m0) (hm : m0 < 64) (hs : ∀ j, sm j < 64) (hrow : ∀ j, j < y → I 51 j = nI (f j) ∧ f j ≤ n ∧ I 52 j = nI (sm j)) (hQ : Q (some (.int (nI (sp_pq f m0 sm y)))) (85, I, J, R)) : ow_AM M_Planner_soundBehindRow (d + 1) [.ref 46, .int (nI y)] (85, I, J, R) Q := by
  apply t_Planner_soundBehindRow hR
  rw [h0]
  refine sp_up (σ := Unit) (N := y) (G := fun i _ => ow_AW ow_Y0 (ow_Z Q) M_Planner_soundBehindRow (d + 1) 0 0 7 [(0, .ref 46), (1, .int (nI y)), (2, .int (nI (sp_pq f m0 sm i))), (3, .int (nI i))] [] (85, I, J, R) 0 0) (Inv := fun _ _ => True) ?_ ?_ 0 () (Nat.zero_le _) trivial
  · intro _ _
    apply t_Planner_soundBehindRow_7 hR
    exact ⟨fun _ => hQ, fun c => absurd (Int32.le_refl _) c⟩
  · intro i _ hi _ ih
    have K := ih () trivial
    rw [sp_pq] at K
    obtain ⟨r1, r2, r3⟩ := hrow i hi
    have hl := sp_pq_lt hm hs hn i (fun j hj => (hrow j (by omega)).2.1)
    have hin : vp_in (nI i) 4 := vp_in_nI (by omega) (by decide)
    apply t_Planner_soundBehindRow_7 hR
    rw [sp_cl (by omega), r1, r3, nI_1]
    refine ⟨fun c => absurd c (nI_ge hi (by omega)), fun _ => ⟨hin, fun c => ?_, fun c => ⟨hin, hin, ?_⟩⟩⟩
    · have c2 : f i = 0 := by have := (nI_leI (b := 0) (by omega) (by decide)).mp c; omega
      rw [c2] at K
      exact K
    · obtain ⟨g, hg⟩ : ∃ g, f i = g + 1 := ⟨f i - 1, by
        have : ¬ f i ≤ 0 := fun q => c ((nI_leI (b := 0) (by omega) (by decide)).mpr q)
        omega⟩
      rw [hg] at K ⊢
      rw [nI_pred, (sp_clr _ hl g (by omega)).1, (sp_one _ (hs i) g (by omega)).1, (sp_or2 _ (sp_clr _ hl g (by omega)).2 _ (sp_one _ (hs i) g (by omega)).2).1]
      exact K
theorem c_Planner_rowAsDigits {y n : Nat} {f : Nat → Nat} (hR : ow_RF R) (hy : y ≤ 4) (hrow : ∀ j, j < y → I 51 j = nI (f j) ∧ f j ≤ n) (hQ : Q (some (.int (nI (sp_nm 10 f y)))) (85, I, J, R)) : ow_AM M_Planner_rowAsDigits (d + 1) [.ref 46, .int (nI y)] (85, I, J, R) Q := by
  apply t_Planner_rowAsDigits hR
  refine sp_up (σ := Unit) (N := y) (G := fun i _ => ow_AW ow_Y0 (ow_Z Q) M_Planner_rowAsDigits (d + 1) 0 0 4 [(0, .ref 46), (1, .int (nI y)), (2, .int (nI (sp_nm 10 f i))), (3, .int (nI i))] [] (85, I, J, R) 0 0) (Inv := fun _ _ => True) ?_ ?_ 0 () (Nat.zero_le _) trivial
  · intro _ _
    apply t_Planner_rowAsDigits_4 hR
    exact ⟨fun _ => hQ, fun c => absurd (Int32.le_refl _) c⟩
  · intro i _ hi _ ih
    have K := ih () trivial
    rw [sp_nm] at K
    apply t_Planner_rowAsDigits_4 hR
    rw [sp_cl (by omega), (hrow i hi).1, show (nI (sp_nm 10 f i)) * 10 = nI (sp_nm 10 f i * 10) from pk_mul _ 10, nI_add, nI_1]
    exact ⟨fun c => absurd c (nI_ge hi (by omega)), fun _ => ⟨vp_in_nI (by omega) (by decide), K⟩⟩
theorem c_Planner_turnRow {y n : Nat} {f : Nat → Nat} (hR : ow_RF R) (hy : y ≤ 4) (hn6 : n ≤ 6) (h0 : I 47 0 = nI n) (hrow : ∀ j, j < y → I 51 j = nI (f j) ∧ f j ≤ n) (hQ : ∀ I2 : Nat → Nat → Int32, sp_eq [51] I I2 → (∀ j, j < y → I2 51 j = nI ((sp_tr n y f).2 j)) → Q (some (.int (sp_jb (sp_tr n y f).1))) (85, I2, J, R)) : ow_AM M_Planner_turnRow (d + 1) [.ref 46, .int (nI y)] (85, I, J, R) Q := by
  apply t_Planner_turnRow hR
  have K : ∀ (k : Nat) (g : Nat → Nat) (I1 : Nat → Nat → Int32), k ≤ y → sp_eq [51] I I1 → (∀ j, j < y → I1 51 j = nI (g j) ∧ g j ≤ n) → (∀ I2 : Nat → Nat → Int32, sp_eq [51] I I2 → (∀ j, j < y → I2 51 j = nI ((sp_tr n k g).2 j)) → Q (some (.int (sp_jb (sp_tr n k g).1))) (85, I2, J, R)) → ow_AW ow_Y0 (ow_Z Q) M_Planner_turnRow (d + 1) 0 0 4 [(0, .ref 46), (2, .int (sp_km k))] [] (85, I1, J, R) 0 0 := by
    intro k
    induction k with
    | zero =>
      intro g I1 hk he hg hq
      apply t_Planner_turnRow_4 hR
      exact ⟨fun _ => hq I1 he (fun j hj => (hg j hj).1), fun c => absurd (by decide) c⟩
    | succ k ih =>
      intro g I1 hk he hg hq
      have hin : vp_in (sp_km (k + 1)) 4 := vp_in_nI (by omega) (by decide)
      obtain ⟨g1, g2⟩ := hg k (by omega)
      have ek : sp_km (k + 1) = nI k := rfl
      apply t_Planner_turnRow_4 hR
      rw [ek, sp_cl (by omega), g1, he 47 (by decide), h0, nI_leI (by omega) (by omega)]
      rw [ek] at hin
      rw [sp_tr] at hq
      refine ⟨fun c => absurd c (nI_pos (by omega)), fun _ => ⟨hin, fun c => ⟨hin, fun I2 e2 => ?_⟩, fun c => ⟨hin, hin, fun I2 e2 => ?_⟩⟩⟩
      · rw [if_neg (by omega)] at hq
        have ek2 : nI k + (-1) = sp_km k := by
          rcases Nat.eq_zero_or_pos k with h | h
          · subst h; decide
          · obtain ⟨u, hu⟩ : ∃ u, k = u + 1 := ⟨k - 1, by omega⟩
            subst hu; exact pk_m1 u
        rw [ek2]
        refine ih (sp_up1 g k 0) I2 (by omega) (sp_eq_tr he (sp_eq_ue e2 (by decide))) (fun j hj => ?_) hq
        rw [e2]
        unfold sp_up1
        by_cases hjk : j = k
        · subst hjk; rw [ow_u_at, if_pos rfl]; exact ⟨rfl, Nat.zero_le _⟩
        · rw [ow_u_nk hjk, if_neg hjk]; exact hg j hj
      · rw [if_pos (by omega)] at hq
        refine hq I2 (sp_eq_tr he (sp_eq_ue e2 (by decide))) (fun j hj => ?_)
        rw [e2]
        show _ = nI (sp_up1 g k (g k + 1) j)
        unfold sp_up1
        by_cases hjk : j = k
        · subst hjk; rw [ow_u_at, if_pos rfl, nI_1]
        · rw [ow_u_nk hjk, if_neg hjk]; exact (hg j hj).1
  have ek : nI y - 1 = sp_km y := by
    rcases Nat.eq_zero_or_pos y with h | h
    · subst h; decide
    · obtain ⟨u, hu⟩ : ∃ u, y = u + 1 := ⟨y - 1, by omega⟩
      subst hu; exact nI_pred u
  rw [ek]
  exact K y f I (Nat.le_refl _) sp_eq_rf hrow hQ
end PLAN
