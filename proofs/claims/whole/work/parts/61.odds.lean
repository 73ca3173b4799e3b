/-! Own rows, by program: winds by chance. -/
/-- weights of yes and of no behind an answer, ahead of the wind -/
def sp_yn : Bool → Bool → Nat → Nat → Nat × Nat
  | false, false, y, n => (0, y + n)
  | false, true, y, n => (n, y)
  | true, false, y, n => (y, n)
  | true, true, y, n => (y + n, 0)
/-- weights over a way, of all 100 to its length -/
def sp_aw (V : sp_V) (wd : Nat) : List Nat → Bool → Nat × Nat
  | [], b => if b = true then (1, 0) else (0, 1)
  | f :: r, b => ((100 - wd) * (sp_aw V wd r ((sp_rep V f b).getD false)).1 + wd * (sp_aw V wd r (!(sp_rep V f b).getD false)).1, (100 - wd) * (sp_aw V wd r ((sp_rep V f b).getD false)).2 + wd * (sp_aw V wd r (!(sp_rep V f b).getD false)).2)
theorem sp_ar (y n u w a b : Nat) : y * (u * a + w * b) + n * (u * b + w * a) = (y * u + n * w) * a + (n * u + y * w) * b := by
  simp only [Nat.mul_add, Nat.add_mul, Nat.mul_comm, Nat.mul_left_comm, Nat.mul_assoc]
  omega
theorem sp_ar2 (y n u w a b : Nat) : y * (u * b + w * a) + n * (u * b + w * a) = (0 * u + (y + n) * w) * a + ((y + n) * u + 0 * w) * b := by
  simp only [Nat.mul_add, Nat.add_mul, Nat.mul_comm, Nat.mul_left_comm, Nat.mul_assoc, Nat.zero_mul, Nat.mul_zero, Nat.zero_add, Nat.add_zero]
  omega
theorem sp_ar3 (y n u w a b : Nat) : y * (u * a + w * b) + n * (u * a + w * b) = ((y + n) * u + 0 * w) * a + (0 * u + (y + n) * w) * b := by
  simp only [Nat.mul_add, Nat.add_mul, Nat.mul_comm, Nat.mul_left_comm, Nat.mul_assoc, Nat.zero_mul, Nat.mul_zero, Nat.zero_add, Nat.add_zero]
  omega
theorem sp_ar4 (y n u w a b : Nat) : y * (u * b + w * a) + n * (u * a + w * b) = (n * u + y * w) * a + (y * u + n * w) * b := by
  simp only [Nat.mul_add, Nat.add_mul, Nat.mul_comm, Nat.mul_left_comm, Nat.mul_assoc]
  omega
theorem sp_aw_st {V : sp_V} {wd g y n : Nat} {r : List Nat} {c1 c0 : Bool} (h1 : sp_rep V g true = some c1) (h0 : sp_rep V g false = some c0) :
    y * (sp_aw V wd (g :: r) true).1 + n * (sp_aw V wd (g :: r) false).1 = ((sp_yn c1 c0 y n).1 * (100 - wd) + (sp_yn c1 c0 y n).2 * wd) * (sp_aw V wd r true).1 + ((sp_yn c1 c0 y n).2 * (100 - wd) + (sp_yn c1 c0 y n).1 * wd) * (sp_aw V wd r false).1 ∧
    y * (sp_aw V wd (g :: r) true).2 + n * (sp_aw V wd (g :: r) false).2 = ((sp_yn c1 c0 y n).1 * (100 - wd) + (sp_yn c1 c0 y n).2 * wd) * (sp_aw V wd r true).2 + ((sp_yn c1 c0 y n).2 * (100 - wd) + (sp_yn c1 c0 y n).1 * wd) * (sp_aw V wd r false).2 := by
  rw [sp_aw, sp_aw, h1, h0]
  cases c1 <;> cases c0
  · exact ⟨sp_ar2 _ _ _ _ _ _, sp_ar2 _ _ _ _ _ _⟩
  · exact ⟨sp_ar4 _ _ _ _ _ _, sp_ar4 _ _ _ _ _ _⟩
  · exact ⟨sp_ar _ _ _ _ _ _, sp_ar _ _ _ _ _ _⟩
  · exact ⟨sp_ar3 _ _ _ _ _ _, sp_ar3 _ _ _ _ _ _⟩
theorem sp_aw_sum {V : sp_V} {wd : Nat} (hw : wd ≤ 100) : ∀ (p : List Nat) (b : Bool), (sp_aw V wd p b).1 + (sp_aw V wd p b).2 = 100 ^ p.length := by
  intro p
  induction p with
  | nil => intro b; cases b <;> rfl
  | cons f r ih =>
    intro b
    have i1 := ih ((sp_rep V f b).getD false)
    have i2 := ih (!(sp_rep V f b).getD false)
    rw [sp_aw, List.length_cons, Nat.pow_succ]
    dsimp only
    rw [show (100 - wd) * (sp_aw V wd r ((sp_rep V f b).getD false)).1 + wd * (sp_aw V wd r (!(sp_rep V f b).getD false)).1 + ((100 - wd) * (sp_aw V wd r ((sp_rep V f b).getD false)).2 + wd * (sp_aw V wd r (!(sp_rep V f b).getD false)).2) = (100 - wd) * ((sp_aw V wd r ((sp_rep V f b).getD false)).1 + (sp_aw V wd r ((sp_rep V f b).getD false)).2) + wd * ((sp_aw V wd r (!(sp_rep V f b).getD false)).1 + (sp_aw V wd r (!(sp_rep V f b).getD false)).2) from by rw [Nat.mul_add, Nat.mul_add]; omega, i1, i2, ← Nat.add_mul, Nat.sub_add_cancel hw, Nat.mul_comm]
/-- weights by the reference -/
def sp_lf (c : Bool) (p : Nat) : Nat × Nat × Nat := if c = true then (p, 0, 0) else (0, p, 0)
def sp_ad (a e : Nat × Nat × Nat) : Nat × Nat × Nat := (a.1 + e.1, a.2.1 + e.2.1, a.2.2 + e.2.2)
def sp_bw (V : sp_V) (wd : Nat) : Nat → Nat → Nat → Bool → Nat → Nat × Nat × Nat
  | 0, _, _, _, w => (0, 0, w)
  | k + 1, m, f, b, w => if m.testBit f = true then (0, 0, w) else match sp_rep V f b with
    | none => (0, 0, w)
    | some c => if sp_to V f = 0 then sp_ad (sp_lf c (w / 100 * (100 - wd))) (sp_lf (!c) (w / 100 * wd)) else sp_ad (sp_bw V wd k (m ||| 2 ^ f) (sp_to V f - 1) c (w / 100 * (100 - wd))) (sp_bw V wd k (m ||| 2 ^ f) (sp_to V f - 1) (!c) (w / 100 * wd))
theorem sp_bw_0 {V : sp_V} {wd : Nat} : ∀ (k m f : Nat) (b : Bool), sp_bw V wd k m f b 0 = (0, 0, 0) := by
  intro k
  induction k with
  | zero => intro m f b; rw [sp_bw]
  | succ k ih =>
    intro m f b
    rw [sp_bw, Nat.zero_div, Nat.zero_mul, Nat.zero_mul]
    by_cases hb : m.testBit f = true
    · rw [if_pos hb]
    · rw [if_neg hb]
      cases hr : sp_rep V f b with
      | none => rfl
      | some c =>
        dsimp only
        by_cases ht : sp_to V f = 0
        · rw [if_pos ht]; cases c <;> rfl
        · rw [if_neg ht, ih, ih]; rfl
theorem sp_bw_le {V : sp_V} {wd : Nat} (hw : wd ≤ 100) : ∀ (k m f : Nat) (b : Bool) (w : Nat), (sp_bw V wd k m f b w).1 ≤ w ∧ (sp_bw V wd k m f b w).2.1 ≤ w ∧ (sp_bw V wd k m f b w).2.2 ≤ w := by
  have S : ∀ w : Nat, w / 100 * (100 - wd) + w / 100 * wd ≤ w := by
    intro w
    rw [← Nat.mul_add, Nat.sub_add_cancel hw]
    exact Nat.div_mul_le_self w 100
  intro k
  induction k with
  | zero => intro m f b w; rw [sp_bw]; exact ⟨Nat.zero_le _, Nat.zero_le _, Nat.le_refl _⟩
  | succ k ih =>
    intro m f b w
    have hs := S w
    rw [sp_bw]
    by_cases hb : m.testBit f = true
    · rw [if_pos hb]; exact ⟨Nat.zero_le _, Nat.zero_le _, Nat.le_refl _⟩
    · rw [if_neg hb]
      cases hr : sp_rep V f b with
      | none => exact ⟨Nat.zero_le _, Nat.zero_le _, Nat.le_refl _⟩
      | some c =>
        dsimp only
        by_cases ht : sp_to V f = 0
        · rw [if_pos ht]
          unfold sp_ad sp_lf
          cases c with
          | false => exact ⟨show 0 + w / 100 * wd ≤ w by omega, show w / 100 * (100 - wd) + 0 ≤ w by omega, Nat.zero_le _⟩
          | true => exact ⟨show w / 100 * (100 - wd) + 0 ≤ w by omega, show 0 + w / 100 * wd ≤ w by omega, Nat.zero_le _⟩
        · rw [if_neg ht]
          obtain ⟨x1, x2, x3⟩ := ih (m ||| 2 ^ f) (sp_to V f - 1) c (w / 100 * (100 - wd))
          obtain ⟨y1, y2, y3⟩ := ih (m ||| 2 ^ f) (sp_to V f - 1) (!c) (w / 100 * wd)
          unfold sp_ad
          dsimp only
          omega
theorem sp_d100 (u k : Nat) : u * 100 ^ (k + 1) / 100 = u * 100 ^ k := by
  rw [Nat.pow_succ, ← Nat.mul_assoc, Nat.mul_div_cancel _ (by decide)]
theorem sp_bw_no {V : sp_V} {wd : Nat} (hw : wd ≤ 100) : ∀ (k m f : Nat) (b e : Bool) (u : Nat), (sp_go V k m f b).2.2 = none → sp_bw V wd k m f e (u * 100 ^ k) = (0, 0, u * 100 ^ k) := by
  intro k
  induction k with
  | zero => intro m f b e u _; rw [sp_bw]
  | succ k ih =>
    intro m f b e u h
    rw [sp_go] at h
    rw [sp_bw, sp_d100]
    by_cases hb : m.testBit f = true
    · rw [if_pos hb]
    · rw [if_neg hb] at h ⊢
      cases hr : sp_rep V f b with
      | none => rw [sp_rep_0 e hr]
      | some c =>
        obtain ⟨g, hg⟩ := sp_rep_s e hr
        rw [hr] at h
        rw [hg]
        dsimp only at h ⊢
        by_cases ht : sp_to V f = 0
        · rw [if_pos ht] at h; cases h
        · rw [if_neg ht] at h ⊢
          rw [show u * 100 ^ k * (100 - wd) = u * (100 - wd) * 100 ^ k from Nat.mul_right_comm _ _ _, show u * 100 ^ k * wd = u * wd * 100 ^ k from Nat.mul_right_comm _ _ _, ih _ _ c _ _ h, ih _ _ c _ _ h]
          unfold sp_ad
          dsimp only
          rw [← Nat.add_mul, ← Nat.mul_add, Nat.sub_add_cancel hw, Nat.pow_succ, Nat.mul_assoc, Nat.mul_comm 100]
theorem sp_ar5 (u x y z p q : Nat) : u * y * x * p + u * z * x * q = u * x * (y * p + z * q) := by
  simp only [Nat.mul_add, Nat.add_mul, Nat.mul_comm, Nat.mul_left_comm, Nat.mul_assoc]
theorem sp_bw_ok {V : sp_V} {wd : Nat} : ∀ (k m f : Nat) (b e : Bool) (u : Nat) (q : Nat × Bool), (sp_go V k m f b).2.2 = some q → sp_bw V wd k m f e (u * 100 ^ k) = (u * 100 ^ (k - (sp_go V k m f b).1.length) * (sp_aw V wd (sp_go V k m f b).1 e).1, u * 100 ^ (k - (sp_go V k m f b).1.length) * (sp_aw V wd (sp_go V k m f b).1 e).2, 0) := by
  intro k
  induction k with
  | zero => intro m f b e u q h; rw [sp_go] at h; cases h
  | succ k ih =>
    intro m f b e u q h
    rw [sp_go] at h ⊢
    rw [sp_bw, sp_d100]
    by_cases hb : m.testBit f = true
    · rw [if_pos hb] at h; cases h
    · rw [if_neg hb] at h
      rw [if_neg hb, if_neg hb]
      cases hr : sp_rep V f b with
      | none => rw [hr] at h; cases h
      | some c =>
        obtain ⟨g, hg⟩ := sp_rep_s e hr
        rw [hr] at h
        rw [hg]
        dsimp only at h ⊢
        by_cases ht : sp_to V f = 0
        · rw [if_pos ht, if_pos ht]
          dsimp only
          rw [sp_aw, hg, List.length_singleton, Nat.add_sub_cancel]
          cases g with
          | false =>
            show (0 + u * 100 ^ k * wd, u * 100 ^ k * (100 - wd) + 0, 0 + 0) = (u * 100 ^ k * ((100 - wd) * 0 + wd * 1), u * 100 ^ k * ((100 - wd) * 1 + wd * 0), 0)
            simp only [Nat.mul_one, Nat.mul_zero, Nat.add_zero, Nat.zero_add]
          | true =>
            show (u * 100 ^ k * (100 - wd) + 0, 0 + u * 100 ^ k * wd, 0 + 0) = (u * 100 ^ k * ((100 - wd) * 1 + wd * 0), u * 100 ^ k * ((100 - wd) * 0 + wd * 1), 0)
            simp only [Nat.mul_one, Nat.mul_zero, Nat.add_zero, Nat.zero_add]
        · rw [if_neg ht] at h
          rw [if_neg ht, if_neg ht]
          rw [show u * 100 ^ k * (100 - wd) = u * (100 - wd) * 100 ^ k from Nat.mul_right_comm _ _ _, show u * 100 ^ k * wd = u * wd * 100 ^ k from Nat.mul_right_comm _ _ _, ih _ _ c _ _ q h, ih _ _ c _ _ q h]
          dsimp only
          rw [sp_aw, hg, List.length_cons, Nat.add_sub_add_right]
          unfold sp_ad
          dsimp only [Option.getD]
          rw [sp_ar5, sp_ar5]
/-- upper and lower whole in lowest terms -/
def sp_lo (q : Int32) (a b : Nat) : Int64 := lN ((if q = 0 then a else b) / Nat.gcd a b)
theorem sp_lo_c {q : Int32} {a b c : Nat} (hc : 0 < c) : sp_lo q (c * a) (c * b) = sp_lo q a b := by
  unfold sp_lo
  rw [Nat.gcd_mul_left]
  by_cases h : q = 0
  · rw [if_pos h, if_pos h, Nat.mul_div_mul_left _ _ hc]
  · rw [if_neg h, if_neg h, Nat.mul_div_mul_left _ _ hc]
theorem sp_lo_0 {q : Int32} {b : Nat} (hb : 0 < b) : sp_lo q 0 b = sp_lo q 0 1 := by
  have h := sp_lo_c (q := q) (a := 0) (b := 1) hb
  rw [Nat.mul_zero, Nat.mul_one] at h
  exact h
theorem sp_lo_1 {q : Int32} {b : Nat} (hb : 0 < b) : sp_lo q b b = sp_lo q 1 1 := by
  have h := sp_lo_c (q := q) (a := 1) (b := 1) hb
  rw [Nat.mul_one] at h
  exact h
/-- weights by the object: yes, no, all -/
def sp_wt (V : sp_V) (wd f : Nat) (b : Bool) : Nat × Nat × Nat := match (sp_go V 6 0 f b).2.2 with
  | none => (0, 0, 1)
  | some _ => ((sp_aw V wd (sp_go V 6 0 f b).1 b).1, (sp_aw V wd (sp_go V 6 0 f b).1 b).2, 100 ^ (sp_go V 6 0 f b).1.length)
theorem sp_wt_b {V : sp_V} {wd f : Nat} {b : Bool} (hV : sp_ok V) (hf : f < sp_n V) (hw : wd ≤ 100) : (sp_wt V wd f b).1 + (sp_wt V wd f b).2.1 ≤ (sp_wt V wd f b).2.2 ∧ 0 < (sp_wt V wd f b).2.2 ∧ (sp_wt V wd f b).2.2 ≤ 1000000000000 := by
  unfold sp_wt
  cases hq : (sp_go V 6 0 f b).2.2 with
  | none =>
    show 0 + 0 ≤ 1 ∧ 0 < 1 ∧ 1 ≤ 1000000000000
    decide
  | some q =>
    have hl := (sp_go_in hV 6 0 f b hf).2.2.1
    exact ⟨Nat.le_of_eq (sp_aw_sum hw _ _), Nat.pow_pos (by decide), Nat.pow_le_pow_right (n := 100) (by decide) hl⟩
theorem sp_od {V : sp_V} {wd f : Nat} {b : Bool} (q : Int32) (hV : sp_ok V) (hf : f < sp_n V) (hw : wd ≤ 100) : sp_lo q (sp_bw V wd 6 0 f b 1000000000000).1 1000000000000 = sp_lo q (sp_wt V wd f b).1 (sp_wt V wd f b).2.2 ∧ sp_lo q (sp_bw V wd 6 0 f b 1000000000000).2.1 1000000000000 = sp_lo q (sp_wt V wd f b).2.1 (sp_wt V wd f b).2.2 ∧ sp_lo q (sp_bw V wd 6 0 f b 1000000000000).2.2 1000000000000 = sp_lo q ((sp_wt V wd f b).2.2 - (sp_wt V wd f b).1 - (sp_wt V wd f b).2.1) (sp_wt V wd f b).2.2 := by
  unfold sp_wt
  cases hq : (sp_go V 6 0 f b).2.2 with
  | none =>
    have h1 := sp_bw_no (V := V) hw 6 0 f b b 1 hq
    rw [show 1 * 100 ^ 6 = 1000000000000 from rfl] at h1
    rw [h1]
    exact ⟨sp_lo_0 (by decide), sp_lo_0 (by decide), sp_lo_1 (by decide)⟩
  | some q0 =>
    have hl := (sp_go_in hV 6 0 f b hf).2.2.1
    have h1 := sp_bw_ok (V := V) (wd := wd) 6 0 f b b 1 q0 hq
    rw [show 1 * 100 ^ 6 = 1000000000000 from rfl, Nat.one_mul] at h1
    have hc : 0 < 100 ^ (6 - (sp_go V 6 0 f b).1.length) := Nat.pow_pos (by decide)
    have hp : 100 ^ (6 - (sp_go V 6 0 f b).1.length) * 100 ^ (sp_go V 6 0 f b).1.length = 1000000000000 := by
      rw [← Nat.pow_add, Nat.sub_add_cancel hl]
    have hs := sp_aw_sum (V := V) hw (sp_go V 6 0 f b).1 b
    rw [h1]
    dsimp only
    refine ⟨?_, ?_, ?_⟩
    · rw [← hp]; exact sp_lo_c hc
    · rw [← hp]; exact sp_lo_c hc
    · rw [show 100 ^ (sp_go V 6 0 f b).1.length - (sp_aw V wd (sp_go V 6 0 f b).1 b).1 - (sp_aw V wd (sp_go V 6 0 f b).1 b).2 = 0 from by omega]
      rw [sp_lo_0 (by decide), sp_lo_0 (Nat.pow_pos (by decide))]
theorem sp_wq (a u t w : Nat) : lN a * lN u + lN t * lN w = lN (a * u + t * w) := by rw [lN_mul, lN_mul, lN_add]
theorem sp_w100 {wd : Nat} (hw : wd ≤ 100) : Int32.toInt64 (100 - nI wd) = lN (100 - wd) := by
  rw [show (100 : Int32) - nI wd = nI (100 - wd) from pk_sub (a := 100) hw]
  exact nI_l (by omega)
section WIND2
variable {d : Nat} {I : Nat → Nat → Int32} {J : Nat → Nat → Int64} {R : Nat → Nat → Option Nat} {Q : Option Value → ow_H → Prop} {V : sp_V}
theorem c_Winds_weighAnswer {wd g y n p : Nat} {c1 c0 : Bool} (hR : ow_RF R) (hS : sp_S I 29 V) (hV : sp_ok V) (hg : g < sp_n V) (hwd : I 2 0 = nI wd) (hw : wd ≤ 100) (h1 : sp_rep V g true = some c1) (h0 : sp_rep V g false = some c0) (j3 : J 63 3 = lN y) (j4 : J 63 4 = lN n) (j5 : J 63 5 = lN p)
    (hQ : ∀ J2 : Nat → Nat → Int64, J2 63 3 = lN ((sp_yn c1 c0 y n).1 * (100 - wd) + (sp_yn c1 c0 y n).2 * wd) → J2 63 4 = lN ((sp_yn c1 c0 y n).2 * (100 - wd) + (sp_yn c1 c0 y n).1 * wd) → J2 63 5 = lN (p * 100) → Q none (85, I, J2, R)) : ow_AM M_Winds_weighAnswer (d + 2) [.ref 63, .ref 29, .int (nI g)] (85, I, J, R) Q := by
  have C1 := sp_w100 hw
  have C2 : Int32.toInt64 (nI wd) = lN wd := nI_l (by omega)
  have Z : (0 : Int64) = lN 0 := rfl
  apply t_Winds_weighAnswer hR
  refine c_Scene_reply (b := true) hR (by decide) hS hV hg ⟨_, I, J, R, rfl, rfl, hR, ?_⟩
  rw [h1, show sp_jo (some c1) = sp_jb c1 from rfl]
  have fin : ∀ (A B : Int64) (J1 J2 J3 : Nat → Nat → Int64), A = lN (sp_yn c1 c0 y n).1 → B = lN (sp_yn c1 c0 y n).2 → J1 = ow_u J 63 3 (A * Int32.toInt64 (100 - I 2 0) + B * Int32.toInt64 (I 2 0)) → J2 = ow_u J1 63 4 (B * Int32.toInt64 (100 - I 2 0) + A * Int32.toInt64 (I 2 0)) → J3 = ow_u J2 63 5 (J2 63 5 * 100) → Q none (85, I, J3, R) := by
    intro A B J1 J2 J3 hA hB e1 e2 e3
    rw [hA, hB, hwd, C1, C2, sp_wq] at e1 e2
    refine hQ J3 ?_ ?_ ?_
    · rw [e3, ow_u_nk (by decide), e2, ow_u_nk (by decide), e1, ow_u_at]
    · rw [e3, ow_u_nk (by decide), e2, ow_u_at]
    · rw [e3, ow_u_at, e2, ow_u_nk (by decide), e1, ow_u_nk (by decide), j5]
      exact lN_mul p 100
  cases c1 with
  | false =>
    refine ⟨fun _ => ?_, fun c => absurd c (by decide)⟩
    refine c_Scene_reply (b := false) hR (by decide) hS hV hg ⟨_, I, J, R, rfl, rfl, hR, ?_⟩
    rw [h0, show sp_jo (some c0) = sp_jb c0 from rfl]
    cases c0 with
    | false =>
      refine ⟨fun _ => ?_, fun c => absurd c (by decide)⟩
      intro J1 e1 J2 e2 J3 e3
      exact fin _ _ J1 J2 J3 rfl (by rw [j3, j4, lN_add, Z, lN_sub (Nat.zero_le _)]; rfl) e1 e2 e3
    | true =>
      refine ⟨fun c => absurd rfl c, fun _ => ?_⟩
      intro J1 e1 J2 e2 J3 e3
      exact fin _ _ J1 J2 J3 (by rw [j4, Z, lN_add, Nat.zero_add]; rfl) (by rw [j3, j4, Z, lN_add, lN_add, Nat.zero_add, lN_sub (by omega), Nat.add_sub_cancel]; rfl) e1 e2 e3
  | true =>
    refine ⟨fun c => absurd rfl c, fun _ => ?_⟩
    refine c_Scene_reply (b := false) hR (by decide) hS hV hg ⟨_, I, J, R, rfl, rfl, hR, ?_⟩
    rw [h0, show sp_jo (some c0) = sp_jb c0 from rfl]
    cases c0 with
    | false =>
      refine ⟨fun _ => ?_, fun c => absurd c (by decide)⟩
      intro J1 e1 J2 e2 J3 e3
      exact fin _ _ J1 J2 J3 (by rw [j3, Z, lN_add, Nat.zero_add]; rfl) (by rw [j3, j4, Z, lN_add, lN_add, Nat.zero_add, lN_sub (by omega), Nat.add_sub_cancel_left]; rfl) e1 e2 e3
    | true =>
      refine ⟨fun c => absurd rfl c, fun _ => ?_⟩
      intro J1 e1 J2 e2 J3 e3
      exact fin _ _ J1 J2 J3 (by rw [j3, j4, Z, lN_add, lN_add, Nat.zero_add]; rfl) (by rw [j3, j4, Z, lN_add, lN_add, lN_add, Nat.zero_add, lN_sub (Nat.le_refl _), Nat.sub_self]; rfl) e1 e2 e3
theorem c_Winds_weighL {wd f : Nat} {b : Bool} {q : Nat × Bool} (hR : ow_RF R) (hS : sp_S I 29 V) (hV : sp_ok V) (hf : f < sp_n V) (hwd : I 2 0 = nI wd) (hw : wd ≤ 100) (hq : (sp_go V 6 0 f b).2.2 = some q) (k1 : I 64 1 = nI (sp_go V 6 0 f b).1.length) (k5 : ∀ i, i < (sp_go V 6 0 f b).1.length → I 65 i = nI ((sp_go V 6 0 f b).1.getD i 0)) (j3 : J 63 3 = lN b.toNat) (j4 : J 63 4 = lN (!b).toNat) (j5 : J 63 5 = lN 1)
    (hQ : ∀ J2 : Nat → Nat → Int64, J2 63 3 = lN (sp_wt V wd f b).1 → J2 63 4 = lN (sp_wt V wd f b).2.1 → J2 63 5 = lN (sp_wt V wd f b).2.2 → Q none (85, I, J2, R)) : ow_AW ow_Y0 (ow_Z Q) M_Winds_weigh (d + 4) 0 0 67 [(0, .ref 63), (1, .ref 29), (4, .int (nI 0))] [] (85, I, J, R) 0 0 := by
  have hl := (sp_go_in hV 6 0 f b hf).2.2.1
  have hin := (sp_go_in hV 6 0 f b hf).2.1
  have hall := sp_go_all 6 0 f b q hq
  have hwt : sp_wt V wd f b = ((sp_aw V wd (sp_go V 6 0 f b).1 b).1, (sp_aw V wd (sp_go V 6 0 f b).1 b).2, 100 ^ (sp_go V 6 0 f b).1.length) := by
    unfold sp_wt
    rw [hq]
  rw [hwt] at hQ
  refine sp_up (σ := (Nat → Nat → Int64) × Nat × Nat) (N := (sp_go V 6 0 f b).1.length) (G := fun i q => ow_AW ow_Y0 (ow_Z Q) M_Winds_weigh (d + 4) 0 0 67 [(0, .ref 63), (1, .ref 29), (4, .int (nI i))] [] (85, I, q.1, R) 0 0) (Inv := fun i q => q.1 63 3 = lN q.2.1 ∧ q.1 63 4 = lN q.2.2 ∧ q.1 63 5 = lN (100 ^ i) ∧ q.2.1 * (sp_aw V wd ((sp_go V 6 0 f b).1.drop i) true).1 + q.2.2 * (sp_aw V wd ((sp_go V 6 0 f b).1.drop i) false).1 = (sp_aw V wd (sp_go V 6 0 f b).1 b).1 ∧ q.2.1 * (sp_aw V wd ((sp_go V 6 0 f b).1.drop i) true).2 + q.2.2 * (sp_aw V wd ((sp_go V 6 0 f b).1.drop i) false).2 = (sp_aw V wd (sp_go V 6 0 f b).1 b).2) ?_ ?_ 0 (J, b.toNat, (!b).toNat) (Nat.zero_le _) ⟨j3, j4, j5, ?_, ?_⟩
  · intro ⟨J1, y, n⟩ ⟨a3, a4, a5, a6, a7⟩
    dsimp only at a3 a4 a5 a6 a7 ⊢
    rw [List.drop_length] at a6 a7
    have a6 : y * 1 + n * 0 = (sp_aw V wd (sp_go V 6 0 f b).1 b).1 := a6
    have a7 : y * 0 + n * 1 = (sp_aw V wd (sp_go V 6 0 f b).1 b).2 := a7
    apply t_Winds_weigh_67 hR
    rw [k1]
    refine ⟨fun _ => hQ J1 ?_ ?_ a5, fun c => absurd (Int32.le_refl _) c⟩
    · exact a3.trans (congrArg lN (show y = (sp_aw V wd (sp_go V 6 0 f b).1 b).1 by omega))
    · exact a4.trans (congrArg lN (show n = (sp_aw V wd (sp_go V 6 0 f b).1 b).2 by omega))
  · intro i ⟨J1, y, n⟩ hi ⟨a3, a4, a5, a6, a7⟩ ih
    dsimp only at a3 a4 a5 a6 a7 ⊢
    have hmem : (sp_go V 6 0 f b).1.getD i 0 ∈ (sp_go V 6 0 f b).1 := sp_gd_mem hi
    obtain ⟨c1, h1⟩ := hall _ hmem true
    obtain ⟨c0, h0⟩ := hall _ hmem false
    obtain ⟨s1, s2⟩ := sp_aw_st (wd := wd) (y := y) (n := n) (r := (sp_go V 6 0 f b).1.drop (i + 1)) h1 h0
    rw [← sp_drop hi] at s1 s2
    rw [s1] at a6
    rw [s2] at a7
    apply t_Winds_weigh_67 hR
    rw [k1, sp_cl (n := i) (by omega), k5 i hi]
    refine ⟨fun c => absurd c (nI_ge hi (by omega)), fun _ => ⟨vp_in_nI (by omega) (by decide), ?_⟩⟩
    refine c_Winds_weighAnswer hR hS hV (hin _ hmem) hwd hw h1 h0 a3 a4 a5 ?_
    intro J2 b3 b4 b5
    refine ⟨I, J2, R, rfl, rfl, hR, ?_⟩
    rw [nI_1]
    exact ih (J2, _, _) ⟨b3, b4, by show J2 63 5 = _; rw [b5, Nat.pow_succ], a6, a7⟩
  · cases b with
    | false => show 0 * _ + 1 * _ = _; rw [Nat.zero_mul, Nat.one_mul, Nat.zero_add]; rfl
    | true => show 1 * _ + 0 * _ = _; rw [Nat.zero_mul, Nat.one_mul, Nat.add_zero]; rfl
  · cases b with
    | false => show 0 * _ + 1 * _ = _; rw [Nat.zero_mul, Nat.one_mul, Nat.zero_add]; rfl
    | true => show 1 * _ + 0 * _ = _; rw [Nat.zero_mul, Nat.one_mul, Nat.add_zero]; rfl
theorem c_Winds_weigh {wd f : Nat} {b : Bool} (hR : ow_RF R) (hS : sp_S I 29 V) (hV : sp_ok V) (hf : f < sp_n V) (hwd : I 2 0 = nI wd) (hw : wd ≤ 100)
    (hQ : ∀ (I2 : Nat → Nat → Int32) (J2 : Nat → Nat → Int64), sp_eq [64, 65] I I2 → J2 63 3 = lN (sp_wt V wd f b).1 → J2 63 4 = lN (sp_wt V wd f b).2.1 → J2 63 5 = lN (sp_wt V wd f b).2.2 → Q none (85, I2, J2, R)) : ow_AM M_Winds_weigh (d + 4) [.ref 63, .ref 29, .int (nI f), .int (sp_jb b)] (85, I, J, R) Q := by
  have run : ∀ J1 : Nat → Nat → Int64, J1 63 3 = lN b.toNat → J1 63 4 = lN (!b).toNat → J1 63 5 = lN 1 → ow_AM M_Course_run (d + 3) [.ref 64, .ref 29, .int (nI f), .int (sp_jb b)] (85, I, J1, R) (fun r h' => ∃ (I27 : Nat → Nat → Int32) (J27 : Nat → Nat → Int64) (R27 : Nat → Nat → Option Nat), r = none ∧ h' = (85, I27, J27, R27) ∧ ow_RF R27 ∧ ((¬ (I27 64 4) = (-2) → ow_AW ow_Y0 (ow_Z Q) M_Winds_weigh (d + 4) 0 0 67 [(0, .ref 63), (1, .ref 29), (4, .int 0)] [] (85, I27, J27, R27) 0 0) ∧ ((I27 64 4) = (-2) → (∀ (J28 : Nat → Nat → Int64), J28 = ow_u J27 63 3 0 → (∀ (J29 : Nat → Nat → Int64), J29 = ow_u J28 63 4 0 → Q none (85, I27, J29, R27)))))) := by
    intro J1 j3 j4 j5
    refine c_Course_run hR (by decide) (by decide) hS hV hf rfl ?_
    intro I4 k0 k1 k2 k3 k4 k5
    refine ⟨I4, J1, R, rfl, rfl, hR, ?_⟩
    have hS4 : sp_S I4 29 V := sp_S_kr hS (k0 29 (by decide)) (k0 30 (by decide)) (k0 31 (by decide)) (k0 32 (by decide))
    rw [k4]
    cases hq : (sp_go V 6 0 f b).2.2 with
    | none =>
      refine ⟨fun c => absurd rfl c, fun _ J2 e2 J3 e3 => ?_⟩
      have hwt : sp_wt V wd f b = (0, 0, 1) := by
        unfold sp_wt
        rw [hq]
      rw [hwt] at hQ
      refine hQ I4 J3 k0 ?_ ?_ ?_
      · rw [e3, ow_u_nk (by decide), e2, ow_u_at]; rfl
      · rw [e3, ow_u_at]; rfl
      · rw [e3, ow_u_nk (by decide), e2, ow_u_nk (by decide)]; exact j5
    | some q =>
      refine ⟨fun _ => ?_, fun c => absurd c (show ¬ sp_jb q.2 = -2 by cases q.2 <;> decide)⟩
      exact c_Winds_weighL hR hS4 hV hf (by rw [k0 2 (by decide)]; exact hwd) hw hq k1 k5 j3 j4 j5 (fun J2 => hQ I4 J2 k0)
  apply t_Winds_weigh hR
  cases b with
  | false =>
    refine ⟨fun _ J1 e1 => ⟨fun _ J2 e2 J3 e3 => ?_, fun c => absurd rfl c⟩, fun c => absurd rfl c⟩
    exact run J3 (by rw [e3, ow_u_nk (by decide), e2, ow_u_nk (by decide), e1, ow_u_at]; rfl) (by rw [e3, ow_u_nk (by decide), e2, ow_u_at]; rfl) (by rw [e3, ow_u_at]; rfl)
  | true =>
    refine ⟨fun c => absurd c (by decide), fun _ J1 e1 => ⟨fun c => absurd c (by decide), fun _ J2 e2 J3 e3 => ?_⟩⟩
    exact run J3 (by rw [e3, ow_u_nk (by decide), e2, ow_u_nk (by decide), e1, ow_u_at]; rfl) (by rw [e3, ow_u_nk (by decide), e2, ow_u_at]; rfl) (by rw [e3, ow_u_at]; rfl)
/-- one of the two ways behind an answer, by the reference -/
theorem c_Mo_blowPart {f m k p t : Nat} {c : Bool} {x : Int32} {y : Int64} {G : (Nat → Nat → Int32) → (Nat → Nat → Int64) → (Nat → Nat → Option Nat) → Prop} {wd : Nat} (hR : ow_RF R) (hf : f < 6) (hm : m < 64) (ht : I 77 (6 + f) = nI t) (ht6 : t ≤ 6) (hx : x = sp_jb c) (hy : y = lN p) (hp : p < 2 ^ 62)
    (rec : t ≠ 0 → ∀ (J1 : Nat → Nat → Int64) (Q1 : Option Value → ow_H → Prop), (∀ J2 : Nat → Nat → Int64, J2 70 37 = J1 70 37 + lN (sp_bw V wd k (m ||| 2 ^ f) (t - 1) c p).1 → J2 70 38 = J1 70 38 + lN (sp_bw V wd k (m ||| 2 ^ f) (t - 1) c p).2.1 → J2 70 39 = J1 70 39 + lN (sp_bw V wd k (m ||| 2 ^ f) (t - 1) c p).2.2 → Q1 none (85, I, J2, R)) → ow_AM M_Mo_blow d [.ref 70, .int (nI (t - 1)), .int (sp_jb c), .int (nI (m ||| 2 ^ f)), .long (lN p)] (85, I, J1, R) Q1)
    (hG : ∀ J2 : Nat → Nat → Int64, J2 70 37 = J 70 37 + lN (if t = 0 then sp_lf c p else sp_bw V wd k (m ||| 2 ^ f) (t - 1) c p).1 → J2 70 38 = J 70 38 + lN (if t = 0 then sp_lf c p else sp_bw V wd k (m ||| 2 ^ f) (t - 1) c p).2.1 → J2 70 39 = J 70 39 + lN (if t = 0 then sp_lf c p else sp_bw V wd k (m ||| 2 ^ f) (t - 1) c p).2.2 → G I J2 R) :
    ((¬ (lg_cmp y 0) = 0 → (vp_in (6 + nI f) 14 ∧ (((I 77 (6 + nI f).toNatClampNeg) ≤ 0 → ((¬ x = 1 → (∀ (J5 : Nat → Nat → Int64), J5 = ow_u J 70 38 ((J 70 38) + y) → G I J5 R)) ∧ (x = 1 → (∀ (J6 : Nat → Nat → Int64), J6 = ow_u J 70 37 ((J 70 37) + y) → G I J6 R)))) ∧ (¬ (I 77 (6 + nI f).toNatClampNeg) ≤ 0 → (vp_in (6 + nI f) 14 ∧ (ow_AM M_Mo_blow d [.ref 70, .int ((I 77 (6 + nI f).toNatClampNeg) - 1), .int x, .int (nI m ||| ((1 : Int32) <<< (nI f &&& 31))), .long y] (85, I, J, R) (fun r h' => ∃ (I7 : Nat → Nat → Int32) (J7 : Nat → Nat → Int64) (R7 : Nat → Nat → Option Nat), r = none ∧ h' = (85, I7, J7, R7) ∧ ow_RF R7 ∧ G I7 J7 R7))))))) ∧ ((lg_cmp y 0) = 0 → G I J R)) := by
  have Z : ∀ a : Int64, a + lN 0 = a := fun a => Int64.add_zero a
  subst hx hy
  rw [show (6 : Int32) + nI f = nI (6 + f) from nI_add 6 f, sp_cl (by omega), ht, (sp_or m hm f hf).1]
  refine ⟨fun _ => ⟨vp_in_nI (by omega) (by decide), fun c1 => ?_, fun c1 => ⟨vp_in_nI (by omega) (by decide), ?_⟩⟩, fun c1 => ?_⟩
  · have h0 : t = 0 := by
      rcases Nat.eq_zero_or_pos t with h | h
      · exact h
      · exact absurd c1 (nI_nle h (by omega))
    rw [if_pos h0] at hG
    cases c with
    | false =>
      refine ⟨fun _ J5 e5 => hG J5 ?_ ?_ ?_, fun c => absurd c (by decide)⟩
      · rw [e5, ow_u_nk (by decide)]; exact (Z _).symm
      · rw [e5, ow_u_at]; rfl
      · rw [e5, ow_u_nk (by decide)]; exact (Z _).symm
    | true =>
      refine ⟨fun c => absurd rfl c, fun _ J5 e5 => hG J5 ?_ ?_ ?_⟩
      · rw [e5, ow_u_at]; rfl
      · rw [e5, ow_u_nk (by decide)]; exact (Z _).symm
      · rw [e5, ow_u_nk (by decide)]; exact (Z _).symm
  · have h0 : t ≠ 0 := by
      intro h
      rw [h] at c1
      exact c1 (by decide)
    rw [if_neg h0] at hG
    rw [show nI t - 1 = nI (t - 1) from pk_sub (b := 1) (by omega)]
    refine rec h0 J _ ?_
    intro J2 a1 a2 a3
    exact ⟨I, J2, R, rfl, rfl, hR, hG J2 a1 a2 a3⟩
  · have h0 := (sp_cmp0 (by omega)).mp c1
    subst h0
    have hz : (if t = 0 then sp_lf c 0 else sp_bw V wd k (m ||| 2 ^ f) (t - 1) c 0) = (0, 0, 0) := by
      by_cases h : t = 0
      · rw [if_pos h]; cases c <;> rfl
      · rw [if_neg h, sp_bw_0]
    rw [hz] at hG
    exact hG J (Z _).symm (Z _).symm (Z _).symm
theorem c_Mo_blow {wd : Nat} (hR : ow_RF R) (hS : sp_Mr I 77 V) (hV : sp_ok V) (hwd : I 73 0 = nI wd) (hw : wd ≤ 100) : ∀ (k m f : Nat) (b : Bool) (u : Nat) (J : Nat → Nat → Int64) (Q : Option Value → ow_H → Prop), m < 64 → f < sp_n V → sp_pc m + k = 6 → u * 100 ^ k ≤ 1000000000000 →
    (∀ J2 : Nat → Nat → Int64, J2 70 37 = J 70 37 + lN (sp_bw V wd k m f b (u * 100 ^ k)).1 → J2 70 38 = J 70 38 + lN (sp_bw V wd k m f b (u * 100 ^ k)).2.1 → J2 70 39 = J 70 39 + lN (sp_bw V wd k m f b (u * 100 ^ k)).2.2 → Q none (85, I, J2, R)) → ow_AM M_Mo_blow (d + k + 3) [.ref 70, .int (nI f), .int (sp_jb b), .int (nI m), .long (lN (u * 100 ^ k))] (85, I, J, R) Q := by
  have hn6 := hV.1
  have Z : ∀ a : Int64, a + lN 0 = a := fun a => Int64.add_zero a
  intro k
  induction k with
  | zero =>
    intro m f b u J Q hm hf hpc hu hQ
    rw [sp_bw] at hQ
    apply t_Mo_blow hR
    refine c_Mo_hasBit hR hm (by omega) ⟨_, I, J, R, rfl, rfl, hR, ?_⟩
    rw [sp_pc_6 m hm (by omega) f (by omega)]
    refine ⟨fun c => absurd c (by decide), fun _ J5 e5 => hQ J5 ?_ ?_ ?_⟩
    · rw [e5, ow_u_nk (by decide)]; exact (Z _).symm
    · rw [e5, ow_u_nk (by decide)]; exact (Z _).symm
    · rw [e5, ow_u_at]
  | succ k ih =>
    intro m f b u J Q hm hf hpc hu hQ
    rw [sp_bw, sp_d100] at hQ
    apply t_Mo_blow hR
    refine c_Mo_hasBit hR hm (by omega) ⟨_, I, J, R, rfl, rfl, hR, ?_⟩
    cases hb : m.testBit f with
    | true =>
      rw [hb, if_pos rfl] at hQ
      refine ⟨fun c => absurd c (by decide), fun _ J5 e5 => hQ J5 ?_ ?_ ?_⟩
      · rw [e5, ow_u_nk (by decide)]; exact (Z _).symm
      · rw [e5, ow_u_nk (by decide)]; exact (Z _).symm
      · rw [e5, ow_u_at]
    | false =>
      rw [hb, if_neg (by decide)] at hQ
      refine ⟨fun _ => ?_, fun c => absurd rfl c⟩
      refine c_Mo_answerOf hR (by decide) hS hV hf ⟨_, I, J, R, rfl, rfl, hR, ?_⟩
      cases hr : sp_rep V f b with
      | none =>
        rw [hr] at hQ
        refine ⟨fun c => absurd c (by decide), fun _ J5 e5 => hQ J5 ?_ ?_ ?_⟩
        · rw [e5, ow_u_nk (by decide)]; exact (Z _).symm
        · rw [e5, ow_u_nk (by decide)]; exact (Z _).symm
        · rw [e5, ow_u_at]
      | some c =>
        rw [hr] at hQ
        dsimp only at hQ
        refine ⟨fun _ => ?_, fun q => absurd (show (0 : Int32) ≤ sp_jb c by cases c <;> decide) q⟩
        have hto := (hV.2.2.2 f hf).2.2
        have ht : I 77 (6 + f) = nI (sp_to V f) := (hS.1 f hf).2.1
        have hu2 : u * 100 ^ (k + 1) = u * 100 ^ k * 100 := by rw [Nat.pow_succ, Nat.mul_assoc]
        have hdiv : lN (u * 100 ^ (k + 1)) / 100 = lN (u * 100 ^ k) := by
          rw [show (100 : Int64) = lN 100 from rfl, pk_lDiv (by omega) (by decide) (by decide), sp_d100]
        have hpc2 : sp_pc (m ||| 2 ^ f) + k = 6 := by rw [sp_pc_s m hm f (by omega) hb]; omega
        have m1 : u * 100 ^ k * (100 - wd) ≤ u * 100 ^ k * 100 := Nat.mul_le_mul_left _ (by omega)
        have m2 : u * 100 ^ k * wd ≤ u * 100 ^ k * 100 := Nat.mul_le_mul_left _ hw
        have e1 : lN (u * 100 ^ (k + 1)) / 100 * Int32.toInt64 (100 - I 73 0) = lN (u * 100 ^ k * (100 - wd)) := by rw [hdiv, hwd, sp_w100 hw, lN_mul]
        have e2 : lN (u * 100 ^ (k + 1)) / 100 * Int32.toInt64 (I 73 0) = lN (u * 100 ^ k * wd) := by rw [hdiv, hwd, nI_l (by omega), lN_mul]
        have rc : ∀ (z : Nat) (c2 : Bool), z ≤ 100 → sp_to V f ≠ 0 → ∀ (J1 : Nat → Nat → Int64) (Q1 : Option Value → ow_H → Prop), (∀ J2 : Nat → Nat → Int64, J2 70 37 = J1 70 37 + lN (sp_bw V wd k (m ||| 2 ^ f) (sp_to V f - 1) c2 (u * 100 ^ k * z)).1 → J2 70 38 = J1 70 38 + lN (sp_bw V wd k (m ||| 2 ^ f) (sp_to V f - 1) c2 (u * 100 ^ k * z)).2.1 → J2 70 39 = J1 70 39 + lN (sp_bw V wd k (m ||| 2 ^ f) (sp_to V f - 1) c2 (u * 100 ^ k * z)).2.2 → Q1 none (85, I, J2, R)) → ow_AM M_Mo_blow (d + k + 3) [.ref 70, .int (nI (sp_to V f - 1)), .int (sp_jb c2), .int (nI (m ||| 2 ^ f)), .long (lN (u * 100 ^ k * z))] (85, I, J1, R) Q1 := by
          intro z c2 hz hne J1 Q1 h
          have m3 : u * 100 ^ k * z ≤ u * 100 ^ k * 100 := Nat.mul_le_mul_left _ hz
          rw [show u * 100 ^ k * z = u * z * 100 ^ k from Nat.mul_right_comm _ _ _] at h m3 ⊢
          exact ih (m ||| 2 ^ f) (sp_to V f - 1) c2 (u * z) J1 Q1 (sp_or m hm f (by omega)).2 (by omega) hpc2 (by omega) h
        have fin : ∀ (a e : Nat × Nat × Nat) (J1 J2 : Nat → Nat → Int64), (if sp_to V f = 0 then sp_lf c (u * 100 ^ k * (100 - wd)) else sp_bw V wd k (m ||| 2 ^ f) (sp_to V f - 1) c (u * 100 ^ k * (100 - wd))) = a → (if sp_to V f = 0 then sp_lf (!c) (u * 100 ^ k * wd) else sp_bw V wd k (m ||| 2 ^ f) (sp_to V f - 1) (!c) (u * 100 ^ k * wd)) = e → J1 70 37 = J 70 37 + lN a.1 → J1 70 38 = J 70 38 + lN a.2.1 → J1 70 39 = J 70 39 + lN a.2.2 → J2 70 37 = J1 70 37 + lN e.1 → J2 70 38 = J1 70 38 + lN e.2.1 → J2 70 39 = J1 70 39 + lN e.2.2 → Q none (85, I, J2, R) := by
          intro a e J1 J2 ha he a1 a2 a3 b1 b2 b3
          have hs : (if sp_to V f = 0 then sp_ad (sp_lf c (u * 100 ^ k * (100 - wd))) (sp_lf (!c) (u * 100 ^ k * wd)) else sp_ad (sp_bw V wd k (m ||| 2 ^ f) (sp_to V f - 1) c (u * 100 ^ k * (100 - wd))) (sp_bw V wd k (m ||| 2 ^ f) (sp_to V f - 1) (!c) (u * 100 ^ k * wd))) = sp_ad a e := by
            by_cases h : sp_to V f = 0
            · rw [if_pos h] at ha he ⊢
              rw [ha, he]
            · rw [if_neg h] at ha he ⊢
              rw [ha, he]
          rw [hs] at hQ
          refine hQ J2 ?_ ?_ ?_
          · rw [b1, a1, Int64.add_assoc, lN_add]; rfl
          · rw [b2, a2, Int64.add_assoc, lN_add]; rfl
          · rw [b3, a3, Int64.add_assoc, lN_add]; rfl
        rw [show sp_jo (some c) = sp_jb c from rfl]
        apply t_Mo_blow_45 hR
        refine ⟨fun c => absurd c (by decide), fun _ => ⟨fun _ => ⟨fun _ => ?_, fun c => absurd c (by decide)⟩, fun c => absurd c (by decide)⟩⟩
        refine c_Mo_blowPart (V := V) (wd := wd) (k := k) (p := u * 100 ^ k * (100 - wd)) (t := sp_to V f) (c := c) (G := fun I' J' R' => ow_AW ow_Y0 (ow_Z Q) M_Mo_blow (d + k + 3 + 1) 0 0 45 [(0, .ref 70), (1, .int (nI f)), (3, .int (nI m)), (4, .long (lN (u * 100 ^ (k + 1)))), (6, .int (sp_jb c)), (7, .int (0 + 1))] [] (85, I', J', R') 0 0) hR (by omega) hm ht (by omega) rfl e1 (by omega) (rc (100 - wd) c (by omega)) ?_
        intro J1 a1 a2 a3
        apply t_Mo_blow_45 hR
        refine ⟨fun c => absurd c (by decide), fun _ => ⟨fun c => absurd (by decide) c, fun _ => ⟨fun c => absurd (by decide) c, fun _ => ?_⟩⟩⟩
        refine c_Mo_blowPart (V := V) (wd := wd) (k := k) (p := u * 100 ^ k * wd) (t := sp_to V f) (c := !c) (G := fun I' J' R' => ow_AW ow_Y0 (ow_Z Q) M_Mo_blow (d + k + 3 + 1) 0 0 45 [(0, .ref 70), (1, .int (nI f)), (3, .int (nI m)), (4, .long (lN (u * 100 ^ (k + 1)))), (6, .int (sp_jb c)), (7, .int (0 + 1 + 1))] [] (85, I', J', R') 0 0) hR (by omega) hm ht (by omega) (sp_neg c) e2 (by omega) (rc wd (!c) hw) ?_
        intro J2 b1 b2 b3
        apply t_Mo_blow_45 hR
        exact ⟨fun _ => fin _ _ J1 J2 rfl rfl a1 a2 a3 b1 b2 b3, fun c => absurd (by decide) c⟩
theorem c_Mo_blowAll {wd f : Nat} {b : Bool} (hR : ow_RF R) (hn : I 73 2 = nI (sp_n V)) (hq : sp_Mq I V) (hw8 : sp_Mw I 77 V) (hV : sp_ok V) (hf : f < sp_n V) (hwd : I 73 0 = nI wd) (hw : wd ≤ 100)
    (hQ : ∀ (I2 : Nat → Nat → Int32) (J2 : Nat → Nat → Int64), sp_eq [80] I I2 → J2 70 37 = lN (sp_bw V wd 6 0 f b 1000000000000).1 → J2 70 38 = lN (sp_bw V wd 6 0 f b 1000000000000).2.1 → J2 70 39 = lN (sp_bw V wd 6 0 f b 1000000000000).2.2 → Q none (85, I2, J2, R)) : ow_AM M_Mo_blowAll (d + 10) [.ref 70, .int (nI f), .int (sp_jb b)] (85, I, J, R) Q := by
  have Z : ∀ a : Int64, 0 + a = a := fun a => Int64.zero_add a
  apply t_Mo_blowAll hR
  refine c_Mo_asToldShapes hR hn hV.1 hq ?_
  intro I3 g3 g4
  refine ⟨I3, J, R, rfl, rfl, hR, ?_⟩
  intro J1 e1 J2 e2 J3 e3
  have r3 : sp_Mr I3 77 V := sp_Mr_of (sp_Mw_k hw8 (g3 77 (by decide))) g4
  have z1 : J3 70 37 = 0 := by rw [e3, ow_u_nk (by decide), e2, ow_u_nk (by decide), e1, ow_u_at]
  have z2 : J3 70 38 = 0 := by rw [e3, ow_u_nk (by decide), e2, ow_u_at]
  have z3 : J3 70 39 = 0 := by rw [e3, ow_u_at]
  have K : ow_AM M_Mo_blow (d + 9) [.ref 70, .int (nI f), .int (sp_jb b), .int (nI 0), .long (lN (1 * 100 ^ 6))] (85, I3, J3, R) (fun r h' => ∃ (I11 : Nat → Nat → Int32) (J11 : Nat → Nat → Int64) (R11 : Nat → Nat → Option Nat), r = none ∧ h' = (85, I11, J11, R11) ∧ ow_RF R11 ∧ Q none (85, I11, J11, R11)) := by
    refine c_Mo_blow (d := d) hR r3 hV (by rw [g3 73 (by decide)]; exact hwd) hw 6 0 f b 1 J3 _ (by decide) hf (by decide) (by decide) ?_
    intro J4 a1 a2 a3
    rw [z1, Z] at a1
    rw [z2, Z] at a2
    rw [z3, Z] at a3
    exact ⟨I3, J4, R, rfl, rfl, hR, hQ I3 J4 g3 a1 a2 a3⟩
  cases b with
  | false => exact ⟨fun _ => K, fun c => absurd rfl c⟩
  | true => exact ⟨fun c => absurd c (by decide), fun _ => K⟩
end WIND2
section PUB61
variable {d : Nat} {I : Nat → Nat → Int32} {R : Nat → Nat → Option Nat} {T : sp_T} {V : sp_V}
theorem rc_odds {f : Nat} {b : Bool} {z u : Int32} (hR : ow_RF R) (hC : sp_CN I T V) (hT : st_ok T) (hV : st_now T V) (hf : f < sp_n V) : sp_rc M_Fs_odds (d + 12) [.ref 0, .int (nI f), .int (sp_jb b), .int z, .int u] I R (some (.long (sp_lo u (if z = 0 then (sp_wt V (st_wd T) f b).2.1 else (sp_wt V (st_wd T) f b).1) (sp_wt V (st_wd T) f b).2.2))) 0 := by
  intro J Q hQ
  apply t_Fs_odds hR
  refine c_Fs_lacksFolly hR hC.1 (show I 29 0 = nI (sp_n V) from hC.2.2.1) (by have := st_n6 hV; omega) ?_
  intro I2 g0 g1
  have hx : sp_is (nI f) (sp_n V) = true := decide_eq_true (by have := st_n6 hV; rw [nI_toInt (by omega)]; omega)
  rw [hx] at g1 ⊢
  have hC2 := sp_CN_k hC (sp_cm g0)
  refine ⟨_, I2, J, R, rfl, rfl, hR, ?_⟩
  first | refine ⟨fun _ => ?_, fun c => absurd rfl c⟩ | refine ⟨fun c => absurd rfl c, fun _ => ?_⟩
  obtain ⟨w1, w2, w3⟩ := sp_wt_b (b := b) hV.1 hf hT.2.2.2.1
  refine c_Winds_weigh (wd := st_wd T) hR hC2.2.2 hV.1 hf hC2.2.1.1 hT.2.2.2.1 ?_
  intro I6 J6 m0 j3 j4 j5
  refine ⟨I6, J6, R, rfl, rfl, hR, ?_⟩
  have f6 : sp_fr sp_cS sp_cE I I6 := sp_fr_tr (sp_cm g0) (sp_cw m0 (by decide))
  have t6 : I6 0 15 = 0 := by rw [m0 0 (by decide)]; exact g1
  rw [j3, j4, j5]
  refine ⟨fun c => ?_, fun c => ?_⟩
  · rw [if_pos c] at hQ
    have hb2 : (sp_wt V (st_wd T) f b).2.2 * (sp_wt V (st_wd T) f b).2.1 ≤ 1000000000000 * 1000000000000 := Nat.mul_le_mul w3 (by omega)
    exact c_Fs_inLowestTerms hR w2 (by omega) (by omega) (by omega) ⟨_, I6, J6, R, rfl, rfl, hR, hQ I6 J6 f6 t6⟩
  · rw [if_neg c] at hQ
    have hb2 : (sp_wt V (st_wd T) f b).2.2 * (sp_wt V (st_wd T) f b).1 ≤ 1000000000000 * 1000000000000 := Nat.mul_le_mul w3 (by omega)
    exact c_Fs_inLowestTerms hR w2 (by omega) (by omega) (by omega) ⟨_, I6, J6, R, rfl, rfl, hR, hQ I6 J6 f6 t6⟩
theorem rc_lostOdds {f : Nat} {b : Bool} {u : Int32} (hR : ow_RF R) (hC : sp_CN I T V) (hT : st_ok T) (hV : st_now T V) (hf : f < sp_n V) : sp_rc M_Fs_lostOdds (d + 12) [.ref 0, .int (nI f), .int (sp_jb b), .int u] I R (some (.long (sp_lo u ((sp_wt V (st_wd T) f b).2.2 - (sp_wt V (st_wd T) f b).1 - (sp_wt V (st_wd T) f b).2.1) (sp_wt V (st_wd T) f b).2.2))) 0 := by
  intro J Q hQ
  apply t_Fs_lostOdds hR
  refine c_Fs_lacksFolly hR hC.1 (show I 29 0 = nI (sp_n V) from hC.2.2.1) (by have := st_n6 hV; omega) ?_
  intro I2 g0 g1
  have hx : sp_is (nI f) (sp_n V) = true := decide_eq_true (by have := st_n6 hV; rw [nI_toInt (by omega)]; omega)
  rw [hx] at g1 ⊢
  have hC2 := sp_CN_k hC (sp_cm g0)
  refine ⟨_, I2, J, R, rfl, rfl, hR, ?_⟩
  first | refine ⟨fun _ => ?_, fun c => absurd rfl c⟩ | refine ⟨fun c => absurd rfl c, fun _ => ?_⟩
  obtain ⟨w1, w2, w3⟩ := sp_wt_b (b := b) hV.1 hf hT.2.2.2.1
  refine c_Winds_weigh (wd := st_wd T) hR hC2.2.2 hV.1 hf hC2.2.1.1 hT.2.2.2.1 ?_
  intro I6 J6 m0 j3 j4 j5
  refine ⟨I6, J6, R, rfl, rfl, hR, ?_⟩
  have f6 : sp_fr sp_cS sp_cE I I6 := sp_fr_tr (sp_cm g0) (sp_cw m0 (by decide))
  have t6 : I6 0 15 = 0 := by rw [m0 0 (by decide)]; exact g1
  rw [j3, j4, j5, lN_sub (by omega), lN_sub (by omega)]
  have hb2 : (sp_wt V (st_wd T) f b).2.2 * ((sp_wt V (st_wd T) f b).2.2 - (sp_wt V (st_wd T) f b).1 - (sp_wt V (st_wd T) f b).2.1) ≤ 1000000000000 * 1000000000000 := Nat.mul_le_mul w3 (by omega)
  exact c_Fs_inLowestTerms hR w2 (by omega) (by omega) (by omega) ⟨_, I6, J6, R, rfl, rfl, hR, hQ I6 J6 f6 t6⟩
theorem rc_odds_no {x y z u : Int32} (hR : ow_RF R) (hC : sp_CN I T V) (hT : st_ok T) (hV : st_now T V) (hx : sp_is x (sp_n V) = false) : sp_rc M_Fs_odds (d + 12) [.ref 0, .int x, .int y, .int z, .int u] I R (some (.long (-1))) 1 := by
  intro J Q hQ
  apply t_Fs_odds hR
  refine c_Fs_lacksFolly hR hC.1 (show I 29 0 = nI (sp_n V) from hC.2.2.1) (by have := st_n6 hV; omega) ?_
  intro I2 g0 g1
  rw [hx] at g1 ⊢
  refine ⟨_, I2, J, R, rfl, rfl, hR, ?_⟩
  first | exact ⟨fun c => absurd c (by decide), fun _ => hQ I2 J (sp_cm g0) g1⟩ | exact ⟨fun _ => hQ I2 J (sp_cm g0) g1, fun c => absurd c (by decide)⟩
theorem rm_odds_no {x y z u : Int32} (hR : ow_RF R) (hM : sp_MN I T V) (hT : st_ok T) (hV : st_now T V) (hx : sp_is x (sp_n V) = false) : sp_rm M_Mo_odds (d + 12) [.ref 70, .int x, .int y, .int z, .int u] I R (some (.long (-1))) 1 := by
  intro J Q hQ
  apply t_Mo_odds hR
  refine c_Mo_good hR ?_
  intro I2 g0 g1 g2
  refine ⟨I2, J, R, rfl, rfl, hR, ?_⟩
  have h2 := sp_MN_k hM (sp_mm g0)
  refine c_Mo_isFolly hR h2.1 (sp_MN_n h2 hV) (by have := st_n6 hV; omega) ?_
  rw [hx]
  refine ⟨_, I2, J, R, rfl, rfl, hR, ?_⟩
  first | refine ⟨fun _ => ?_, fun c => absurd rfl c⟩ | refine ⟨fun c => absurd rfl c, fun _ => ?_⟩
  refine c_Mo_no hR ?_
  intro I3 g3 g4
  exact ⟨_, I3, J, R, rfl, rfl, hR, hQ I3 J (sp_fr_tr (sp_mm g0) (sp_mm1 g3)) g4⟩
theorem rc_lostOdds_no {x y z : Int32} (hR : ow_RF R) (hC : sp_CN I T V) (hT : st_ok T) (hV : st_now T V) (hx : sp_is x (sp_n V) = false) : sp_rc M_Fs_lostOdds (d + 12) [.ref 0, .int x, .int y, .int z] I R (some (.long (-1))) 1 := by
  intro J Q hQ
  apply t_Fs_lostOdds hR
  refine c_Fs_lacksFolly hR hC.1 (show I 29 0 = nI (sp_n V) from hC.2.2.1) (by have := st_n6 hV; omega) ?_
  intro I2 g0 g1
  rw [hx] at g1 ⊢
  refine ⟨_, I2, J, R, rfl, rfl, hR, ?_⟩
  first | exact ⟨fun c => absurd c (by decide), fun _ => hQ I2 J (sp_cm g0) g1⟩ | exact ⟨fun _ => hQ I2 J (sp_cm g0) g1, fun c => absurd c (by decide)⟩
theorem rm_lostOdds_no {x y z : Int32} (hR : ow_RF R) (hM : sp_MN I T V) (hT : st_ok T) (hV : st_now T V) (hx : sp_is x (sp_n V) = false) : sp_rm M_Mo_lostOdds (d + 12) [.ref 70, .int x, .int y, .int z] I R (some (.long (-1))) 1 := by
  intro J Q hQ
  apply t_Mo_lostOdds hR
  refine c_Mo_good hR ?_
  intro I2 g0 g1 g2
  refine ⟨I2, J, R, rfl, rfl, hR, ?_⟩
  have h2 := sp_MN_k hM (sp_mm g0)
  refine c_Mo_isFolly hR h2.1 (sp_MN_n h2 hV) (by have := st_n6 hV; omega) ?_
  rw [hx]
  refine ⟨_, I2, J, R, rfl, rfl, hR, ?_⟩
  first | refine ⟨fun _ => ?_, fun c => absurd rfl c⟩ | refine ⟨fun c => absurd rfl c, fun _ => ?_⟩
  refine c_Mo_no hR ?_
  intro I3 g3 g4
  exact ⟨_, I3, J, R, rfl, rfl, hR, hQ I3 J (sp_fr_tr (sp_mm g0) (sp_mm1 g3)) g4⟩
theorem rm_odds {f : Nat} {b : Bool} {z u : Int32} (hR : ow_RF R) (hM : sp_MN I T V) (hT : st_ok T) (hV : st_now T V) (hf : f < sp_n V) : sp_rm M_Mo_odds (d + 12) [.ref 70, .int (nI f), .int (sp_jb b), .int z, .int u] I R (some (.long (sp_lo u (if z = 0 then (sp_wt V (st_wd T) f b).2.1 else (sp_wt V (st_wd T) f b).1) (sp_wt V (st_wd T) f b).2.2))) 0 := by
  intro J Q hQ
  apply t_Mo_odds hR
  refine c_Mo_good hR ?_
  intro I2 g0 g1 g2
  refine ⟨I2, J, R, rfl, rfl, hR, ?_⟩
  have h2 := sp_MN_k hM (sp_mm g0)
  have hx : sp_is (nI f) (sp_n V) = true := decide_eq_true (by have := st_n6 hV; rw [nI_toInt (by omega)]; omega)
  refine c_Mo_isFolly hR h2.1 (sp_MN_n h2 hV) (by have := st_n6 hV; omega) ?_
  rw [hx]
  refine ⟨_, I2, J, R, rfl, rfl, hR, ?_⟩
  first | refine ⟨fun _ => ?_, fun c => absurd c (by decide)⟩ | refine ⟨fun c => absurd c (by decide), fun _ => ?_⟩
  refine c_Mo_blowAll (wd := st_wd T) hR (sp_MN_n h2 hV) (sp_MN_q h2 hV) h2.2.2 hV.1 hf h2.2.1.1 hT.2.2.2.1 ?_
  intro I6 J6 m0 j3 j4 j5
  refine ⟨I6, J6, R, rfl, rfl, hR, ?_⟩
  have f6 : sp_fr sp_mS sp_mE I I6 := sp_fr_tr (sp_mm g0) (sp_mh m0)
  have t6 : I6 70 11 = 0 := by rw [m0 70 (by decide)]; exact g2
  obtain ⟨o1, o2, o3⟩ := sp_od (b := b) u hV.1 hf hT.2.2.2.1
  obtain ⟨l1, l2, l3⟩ := sp_bw_le (V := V) (wd := st_wd T) hT.2.2.2.1 6 0 f b 1000000000000
  rw [show (1000000000000 : Int64) = lN 1000000000000 from rfl]
  rw [j3, j4]
  refine ⟨fun c => ?_, fun c => ?_⟩
  · rw [if_pos c, ← o2] at hQ
    exact c_Mo_lowest hR (by decide) l2 (by decide) ⟨_, I6, J6, R, rfl, rfl, hR, hQ I6 J6 f6 t6⟩
  · rw [if_neg c, ← o1] at hQ
    exact c_Mo_lowest hR (by decide) l1 (by decide) ⟨_, I6, J6, R, rfl, rfl, hR, hQ I6 J6 f6 t6⟩
theorem rm_lostOdds {f : Nat} {b : Bool} {u : Int32} (hR : ow_RF R) (hM : sp_MN I T V) (hT : st_ok T) (hV : st_now T V) (hf : f < sp_n V) : sp_rm M_Mo_lostOdds (d + 12) [.ref 70, .int (nI f), .int (sp_jb b), .int u] I R (some (.long (sp_lo u ((sp_wt V (st_wd T) f b).2.2 - (sp_wt V (st_wd T) f b).1 - (sp_wt V (st_wd T) f b).2.1) (sp_wt V (st_wd T) f b).2.2))) 0 := by
  intro J Q hQ
  apply t_Mo_lostOdds hR
  refine c_Mo_good hR ?_
  intro I2 g0 g1 g2
  refine ⟨I2, J, R, rfl, rfl, hR, ?_⟩
  have h2 := sp_MN_k hM (sp_mm g0)
  have hx : sp_is (nI f) (sp_n V) = true := decide_eq_true (by have := st_n6 hV; rw [nI_toInt (by omega)]; omega)
  refine c_Mo_isFolly hR h2.1 (sp_MN_n h2 hV) (by have := st_n6 hV; omega) ?_
  rw [hx]
  refine ⟨_, I2, J, R, rfl, rfl, hR, ?_⟩
  first | refine ⟨fun _ => ?_, fun c => absurd c (by decide)⟩ | refine ⟨fun c => absurd c (by decide), fun _ => ?_⟩
  refine c_Mo_blowAll (wd := st_wd T) hR (sp_MN_n h2 hV) (sp_MN_q h2 hV) h2.2.2 hV.1 hf h2.2.1.1 hT.2.2.2.1 ?_
  intro I6 J6 m0 j3 j4 j5
  refine ⟨I6, J6, R, rfl, rfl, hR, ?_⟩
  have f6 : sp_fr sp_mS sp_mE I I6 := sp_fr_tr (sp_mm g0) (sp_mh m0)
  have t6 : I6 70 11 = 0 := by rw [m0 70 (by decide)]; exact g2
  obtain ⟨o1, o2, o3⟩ := sp_od (b := b) u hV.1 hf hT.2.2.2.1
  obtain ⟨l1, l2, l3⟩ := sp_bw_le (V := V) (wd := st_wd T) hT.2.2.2.1 6 0 f b 1000000000000
  rw [show (1000000000000 : Int64) = lN 1000000000000 from rfl]
  rw [j5]
  rw [← o3] at hQ
  exact c_Mo_lowest hR (by decide) l3 (by decide) ⟨_, I6, J6, R, rfl, rfl, hR, hQ I6 J6 f6 t6⟩
end PUB61
