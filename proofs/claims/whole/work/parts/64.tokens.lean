/-! Own rows: tokens, as the two part a text (one row, sp_g_shl, is pasted from kit/laws/BITS.to-paste). -/
/-- a text: how many bytes, which -/
abbrev sp_Tx : Type := Nat × (Nat → Nat)
def tk_ok (X : sp_Tx) : Prop := X.1 ≤ 900 ∧ ∀ j, X.2 j < 256
def sp_rl (X : sp_Tx) (lo hi : Nat) : Nat → Nat → Nat
  | 0, _ => 0
  | k + 1, p => if lo ≤ X.2 p ∧ X.2 p ≤ hi then sp_rl X lo hi k (p + 1) + 1 else 0
/-- how many bytes from p on stand together -/
def sp_run (X : sp_Tx) (lo hi p : Nat) : Nat := sp_rl X lo hi (X.1 - p) p
theorem sp_run_s {X : sp_Tx} {lo hi p : Nat} (hp : p < X.1) (h : lo ≤ X.2 p ∧ X.2 p ≤ hi) : sp_run X lo hi p = sp_run X lo hi (p + 1) + 1 := by
  unfold sp_run
  rw [show X.1 - p = (X.1 - (p + 1)) + 1 by omega, sp_rl, if_pos h]
theorem sp_run_0 {X : sp_Tx} {lo hi p : Nat} (h : ¬ (p < X.1 ∧ lo ≤ X.2 p ∧ X.2 p ≤ hi)) : sp_run X lo hi p = 0 := by
  unfold sp_run
  by_cases hp : p < X.1
  · rw [show X.1 - p = (X.1 - (p + 1)) + 1 by omega, sp_rl, if_neg (fun q => h ⟨hp, q⟩)]
  · rw [show X.1 - p = 0 by omega, sp_rl]
theorem sp_rl_le {X : sp_Tx} {lo hi : Nat} : ∀ k p, sp_rl X lo hi k p ≤ k := by
  intro k
  induction k with
  | zero => intro p; exact Nat.le_refl _
  | succ k ih =>
    intro p
    rw [sp_rl]
    by_cases h : lo ≤ X.2 p ∧ X.2 p ≤ hi
    · rw [if_pos h]; have := ih (p + 1); omega
    · rw [if_neg h]; omega
theorem sp_run_le {X : sp_Tx} {lo hi p : Nat} (hp : p ≤ X.1) : p + sp_run X lo hi p ≤ X.1 := by
  have := sp_rl_le (X := X) (lo := lo) (hi := hi) (X.1 - p) p
  unfold sp_run
  omega
theorem sp_rl_in {X : sp_Tx} {lo hi : Nat} : ∀ k p i, i < sp_rl X lo hi k p → lo ≤ X.2 (p + i) ∧ X.2 (p + i) ≤ hi := by
  intro k
  induction k with
  | zero => intro p i h; rw [sp_rl] at h; omega
  | succ k ih =>
    intro p i h
    rw [sp_rl] at h
    by_cases hb : lo ≤ X.2 p ∧ X.2 p ≤ hi
    · rw [if_pos hb] at h
      cases i with
      | zero => exact hb
      | succ i =>
        have := ih (p + 1) i (by omega)
        rw [show p + 1 + i = p + (i + 1) by omega] at this
        exact this
    · rw [if_neg hb] at h; omega
theorem sp_run_in {X : sp_Tx} {lo hi p i : Nat} (h : i < sp_run X lo hi p) : lo ≤ X.2 (p + i) ∧ X.2 (p + i) ≤ hi := sp_rl_in _ _ _ h
def tk_a (X : sp_Tx) (p : Nat) : Nat := p + sp_run X 32 32 p
def tk_l (X : sp_Tx) (p : Nat) : Nat := sp_run X 97 122 (tk_a X p)
def tk_d (X : sp_Tx) (p : Nat) : Nat := sp_run X 48 57 (tk_a X p)
/-- 0 the end, 1 a word, 2 a whole, 3 the sign, 4 none -/
def tk_k (X : sp_Tx) (p : Nat) : Nat := if 0 < tk_l X p then (if tk_l X p ≤ 8 then 1 else 4) else if 0 < tk_d X p then (if tk_d X p ≤ 3 then 2 else 4) else if tk_a X p < X.1 then (if X.2 (tk_a X p) = 59 then 3 else 4) else 0
def tk_n (X : sp_Tx) (p : Nat) : Nat := tk_a X p + (tk_l X p + tk_d X p) + (if tk_l X p = 0 ∧ tk_d X p = 0 ∧ tk_a X p < X.1 then 1 else 0)
def tk_w (X : sp_Tx) (p : Nat) : List Nat := (List.range (tk_l X p)).map (fun i => X.2 (tk_a X p + i))
def sp_dv (B : Nat → Nat) (a : Nat) : Nat → Nat
  | 0 => 0
  | k + 1 => 10 * sp_dv B a k + (B (a + k) - 48)
def tk_v (X : sp_Tx) (p : Nat) : Nat := sp_dv X.2 (tk_a X p) (tk_d X p)
def tk_r (k : Nat) : Int32 := if k = 0 then 0 else if k = 1 then 2 else if k = 2 then 3 else if k = 3 then 59 else 1
theorem tk_ld {X : sp_Tx} {p : Nat} (h : 0 < tk_l X p) : tk_d X p = 0 := by
  have h1 := sp_run_in (X := X) (i := 0) h
  exact sp_run_0 (fun q => by have := q.2.2; have := h1.1; simp only [Nat.add_zero] at *; omega)
theorem tk_a_le {X : sp_Tx} {p : Nat} (hp : p ≤ X.1) : tk_a X p ≤ X.1 := sp_run_le hp
theorem tk_al {X : sp_Tx} {p : Nat} (hp : p ≤ X.1) : tk_a X p + tk_l X p ≤ X.1 := sp_run_le (tk_a_le hp)
theorem tk_ad {X : sp_Tx} {p : Nat} (hp : p ≤ X.1) : tk_a X p + tk_d X p ≤ X.1 := sp_run_le (tk_a_le hp)
theorem tk_n_le {X : sp_Tx} {p : Nat} (hp : p ≤ X.1) : tk_n X p ≤ X.1 := by
  have h1 := tk_al hp
  have h2 := tk_ad hp
  unfold tk_n
  by_cases h : 0 < tk_l X p
  · rw [tk_ld h, if_neg (by omega)]; omega
  · by_cases h3 : tk_l X p = 0 ∧ tk_d X p = 0 ∧ tk_a X p < X.1
    · rw [if_pos h3]; omega
    · rw [if_neg h3]; omega
theorem tk_pa {X : sp_Tx} {p : Nat} : p ≤ tk_a X p := Nat.le_add_right _ _
/-- a token that isn't the end is passed -/
theorem tk_n_gt {X : sp_Tx} {p : Nat} (h : tk_k X p ≠ 0) : p < tk_n X p := by
  have h1 := tk_pa (X := X) (p := p)
  unfold tk_k at h
  unfold tk_n
  by_cases hl : 0 < tk_l X p
  · omega
  · by_cases hd : 0 < tk_d X p
    · omega
    · rw [if_neg hl, if_neg hd] at h
      by_cases ha : tk_a X p < X.1
      · rw [if_pos ⟨by omega, by omega, ha⟩]; omega
      · rw [if_neg ha] at h; exact absurd rfl h
/-- a byte, as the object's tape has it -/
def sp_sb (b : Nat) : Int32 := if b < 128 then nI b else nI b - nI 256
theorem sp_sb_i {b : Nat} (hb : b < 256) : (sp_sb b).toInt = if b < 128 then (b : Int) else (b : Int) - 256 := by
  unfold sp_sb
  by_cases h : b < 128
  · rw [if_pos h, if_pos h, nI_toInt (by omega)]
  · rw [if_neg h, if_neg h, pk_sub_toInt (by omega) (by omega)]; rfl
theorem sp_sb_lo {b : Nat} (h : b < 128) : sp_sb b = nI b := if_pos h
def tC (I : Nat → Nat → Int32) (X : sp_Tx) (p : Nat) : Prop := I 25 1 = nI X.1 ∧ I 25 2 = nI (tk_n X p) ∧ I 25 3 = nI (tk_k X p) ∧ I 25 4 = nI (tk_a X p) ∧ ∀ j, j < X.1 → I 1 j = sp_sb (X.2 j)
def tM (I : Nat → Nat → Int32) (X : sp_Tx) (p : Nat) : Prop := I 70 3 = nI X.1 ∧ I 70 4 = nI (tk_a X p) ∧ I 70 5 = nI (tk_n X p) ∧ I 70 6 = tk_r (tk_k X p) ∧ I 70 8 = nI (tk_l X p) ∧ (∀ i, i < tk_l X p → i < 8 → I 72 i = nI (X.2 (tk_a X p + i))) ∧ (tk_k X p = 2 → I 70 7 = nI (tk_v X p)) ∧ (∀ j, j < X.1 → I 71 j = nI (X.2 j)) ∧ I 70 9 = 0
theorem tC_k {I I2 : Nat → Nat → Int32} {X : sp_Tx} {p : Nat} (h : tC I X p) (h1 : I2 25 = I 25) (h2 : I2 1 = I 1) : tC I2 X p := by
  unfold tC at h ⊢
  rw [h1, h2]
  exact h
theorem tM_k {I I2 : Nat → Nat → Int32} {X : sp_Tx} {p : Nat} (h : tM I X p) (h1 : ∀ k, 3 ≤ k → k ≤ 9 → I2 70 k = I 70 k) (h2 : I2 72 = I 72) (h3 : I2 71 = I 71) : tM I2 X p := by
  unfold tM at h ⊢
  rw [h1 3 (by decide) (by decide), h1 4 (by decide) (by decide), h1 5 (by decide) (by decide), h1 6 (by decide) (by decide), h1 7 (by decide) (by decide), h1 8 (by decide) (by decide), h1 9 (by decide) (by decide), h2, h3]
  exact h
/-- the texts, as numbers -/
def sp_wn (i : Nat) : List Nat := (ow_bt i).map (fun x => x.toNatClampNeg)
theorem sp_wn_ok : ∀ i, i < 19 → ((sp_wn i).length = (ow_bt i).length ∧ 0 < (sp_wn i).length ∧ (sp_wn i).length ≤ 8 ∧ ∀ j, j < (sp_wn i).length → (ow_bt i).getD j 0 = nI ((sp_wn i).getD j 0) ∧ 97 ≤ (sp_wn i).getD j 0 ∧ (sp_wn i).getD j 0 ≤ 122) := by decide +kernel
theorem tk_w_len {X : sp_Tx} {p : Nat} : (tk_w X p).length = tk_l X p := by
  unfold tk_w
  rw [List.length_map, List.length_range]
theorem tk_w_at {X : sp_Tx} {p i : Nat} (h : i < tk_l X p) : (tk_w X p).getD i 0 = X.2 (tk_a X p + i) := by
  unfold tk_w
  rw [List.getD_eq_getElem?_getD, List.getElem?_map, List.getElem?_range h]
  rfl
theorem sp_lext {L M : List Nat} (h : L.length = M.length) (hg : ∀ i, i < L.length → L.getD i 0 = M.getD i 0) : L = M := by
  apply List.ext_getElem h
  intro i h1 h2
  have := hg i h1
  rw [List.getD_eq_getElem?_getD, List.getD_eq_getElem?_getD, List.getElem?_eq_getElem h1, List.getElem?_eq_getElem h2] at this
  exact this
/-- the token is that word -/
def tk_is (X : sp_Tx) (p i : Nat) : Bool := decide (tk_k X p = 1 ∧ tk_w X p = sp_wn i)
theorem tk_k1 {X : sp_Tx} {p : Nat} (h : tk_k X p = 1) : 0 < tk_l X p ∧ tk_l X p ≤ 8 := by
  unfold tk_k at h
  by_cases hl : 0 < tk_l X p
  · rw [if_pos hl] at h
    by_cases h8 : tk_l X p ≤ 8
    · exact ⟨hl, h8⟩
    · rw [if_neg h8] at h; omega
  · rw [if_neg hl] at h
    by_cases hd : 0 < tk_d X p
    · rw [if_pos hd] at h
      by_cases h3 : tk_d X p ≤ 3
      · rw [if_pos h3] at h; omega
      · rw [if_neg h3] at h; omega
    · rw [if_neg hd] at h
      by_cases ha : tk_a X p < X.1
      · rw [if_pos ha] at h
        by_cases h5 : X.2 (tk_a X p) = 59
        · rw [if_pos h5] at h; omega
        · rw [if_neg h5] at h; omega
      · rw [if_neg ha] at h; omega
theorem tk_k2 {X : sp_Tx} {p : Nat} (h : tk_k X p = 2) : tk_l X p = 0 ∧ 0 < tk_d X p ∧ tk_d X p ≤ 3 := by
  unfold tk_k at h
  by_cases hl : 0 < tk_l X p
  · rw [if_pos hl] at h
    by_cases h8 : tk_l X p ≤ 8
    · rw [if_pos h8] at h; omega
    · rw [if_neg h8] at h; omega
  · rw [if_neg hl] at h
    by_cases hd : 0 < tk_d X p
    · rw [if_pos hd] at h
      by_cases h3 : tk_d X p ≤ 3
      · exact ⟨by omega, hd, h3⟩
      · rw [if_neg h3] at h; omega
    · rw [if_neg hd] at h
      by_cases ha : tk_a X p < X.1
      · rw [if_pos ha] at h
        by_cases h5 : X.2 (tk_a X p) = 59
        · rw [if_pos h5] at h; omega
        · rw [if_neg h5] at h; omega
      · rw [if_neg ha] at h; omega
theorem tk_n1 {X : sp_Tx} {p : Nat} (h : 0 < tk_l X p) : tk_n X p = tk_a X p + tk_l X p := by
  unfold tk_n
  rw [tk_ld h, if_neg (by omega)]
  omega
theorem tk_n2 {X : sp_Tx} {p : Nat} (h : tk_k X p = 2) : tk_n X p = tk_a X p + tk_d X p := by
  obtain ⟨h1, h2, h3⟩ := tk_k2 h
  unfold tk_n
  rw [if_neg (by omega)]
  omega
theorem tk_k4 {X : sp_Tx} {p : Nat} : tk_k X p < 5 := by
  unfold tk_k
  by_cases hl : 0 < tk_l X p
  · rw [if_pos hl]
    by_cases h8 : tk_l X p ≤ 8
    · rw [if_pos h8]; omega
    · rw [if_neg h8]; omega
  · rw [if_neg hl]
    by_cases hd : 0 < tk_d X p
    · rw [if_pos hd]
      by_cases h3 : tk_d X p ≤ 3
      · rw [if_pos h3]; omega
      · rw [if_neg h3]; omega
    · rw [if_neg hd]
      by_cases ha : tk_a X p < X.1
      · rw [if_pos ha]
        by_cases h5 : X.2 (tk_a X p) = 59
        · rw [if_pos h5]; omega
        · rw [if_neg h5]; omega
      · rw [if_neg ha]; omega
/-- a word's letters as one number -/
def sp_cd (B : Nat → Nat) (a : Nat) : Nat → Nat
  | 0 => 0
  | k + 1 => 32 * sp_cd B a k + (B (a + k) - 96)
theorem sp_cd_lt {B : Nat → Nat} {a : Nat} : ∀ k, (∀ i, i < k → B (a + i) ≤ 122) → sp_cd B a k < 32 ^ k := by
  intro k
  induction k with
  | zero => intro _; exact (show 0 < 1 by decide)
  | succ k ih =>
    intro h
    have h1 := ih (fun i hi => h i (by omega))
    have h2 := h k (by omega)
    rw [sp_cd, Nat.pow_succ]
    omega
theorem sp_dv_lt {B : Nat → Nat} {a : Nat} : ∀ k, (∀ i, i < k → B (a + i) ≤ 57) → sp_dv B a k < 10 ^ k := by
  intro k
  induction k with
  | zero => intro _; exact (show 0 < 1 by decide)
  | succ k ih =>
    intro h
    have h1 := ih (fun i hi => h i (by omega))
    have h2 := h k (by omega)
    rw [sp_dv, Nat.pow_succ]
    omega
/-- the same of a list -/
def sp_cl2 (L : List Nat) : Nat := sp_cd (fun i => L.getD i 0) 0 L.length
theorem sp_cd_ext {B C : Nat → Nat} {a b : Nat} : ∀ k, (∀ i, i < k → B (a + i) = C (b + i)) → sp_cd B a k = sp_cd C b k := by
  intro k
  induction k with
  | zero => intro _; rfl
  | succ k ih =>
    intro h
    rw [sp_cd, sp_cd, ih (fun i hi => h i (by omega)), h k (by omega)]
theorem tk_code {X : sp_Tx} {p : Nat} : sp_cd X.2 (tk_a X p) (tk_l X p) = sp_cl2 (tk_w X p) := by
  unfold sp_cl2
  rw [tk_w_len]
  exact sp_cd_ext _ (fun i hi => by rw [Nat.zero_add, tk_w_at hi])
/-- no two words are alike -/
theorem sp_cd_inj {B C : Nat → Nat} {a b : Nat} : ∀ k m, (∀ i, i < k → 97 ≤ B (a + i) ∧ B (a + i) ≤ 122) → (∀ i, i < m → 97 ≤ C (b + i) ∧ C (b + i) ≤ 122) → sp_cd B a k = sp_cd C b m → k = m ∧ ∀ i, i < k → B (a + i) = C (b + i) := by
  intro k
  induction k with
  | zero =>
    intro m _ h2 h
    cases m with
    | zero => exact ⟨rfl, fun i hi => absurd hi (Nat.not_lt_zero _)⟩
    | succ m =>
      have h3 := h2 m (by omega)
      rw [sp_cd, sp_cd] at h
      omega
  | succ k ih =>
    intro m h1 h2 h
    cases m with
    | zero =>
      have h3 := h1 k (by omega)
      rw [sp_cd, sp_cd] at h
      omega
    | succ m =>
      have h3 := h1 k (by omega)
      have h4 := h2 m (by omega)
      rw [sp_cd, sp_cd] at h
      obtain ⟨e1, e2⟩ := ih m (fun i hi => h1 i (by omega)) (fun i hi => h2 i (by omega)) (by omega)
      subst e1
      refine ⟨rfl, fun i hi => ?_⟩
      by_cases hik : i = k
      · subst hik; omega
      · exact e2 i (by omega)
/-- a list that may be a word -/
def sp_wd1 (L : List Nat) : Prop := 0 < L.length ∧ L.length ≤ 8 ∧ ∀ i, i < L.length → 97 ≤ L.getD i 0 ∧ L.getD i 0 ≤ 122
theorem sp_cl2_inj {L M : List Nat} (hL : sp_wd1 L) (hM : sp_wd1 M) : sp_cl2 L = sp_cl2 M ↔ L = M := by
  refine ⟨fun h => ?_, fun h => by rw [h]⟩
  obtain ⟨e1, e2⟩ := sp_cd_inj _ _ (fun i hi => by rw [Nat.zero_add]; exact hL.2.2 i hi) (fun i hi => by rw [Nat.zero_add]; exact hM.2.2 i hi) h
  exact sp_lext e1 (fun i hi => by have := e2 i hi; rw [Nat.zero_add] at this; exact this)
theorem sp_cl2_lt {L : List Nat} (hL : sp_wd1 L) : sp_cl2 L < 2 ^ 40 := by
  have h1 := sp_cd_lt (B := fun i => L.getD i 0) (a := 0) L.length (fun i hi => by rw [Nat.zero_add]; exact (hL.2.2 i hi).2)
  have h2 : 32 ^ L.length ≤ 32 ^ 8 := Nat.pow_le_pow_right (by decide) hL.2.1
  exact Nat.lt_of_lt_of_le h1 h2
theorem tk_wd1 {X : sp_Tx} {p : Nat} (h : tk_k X p = 1) : sp_wd1 (tk_w X p) := by
  obtain ⟨h1, h2⟩ := tk_k1 h
  refine ⟨by rw [tk_w_len]; exact h1, by rw [tk_w_len]; exact h2, fun i hi => ?_⟩
  rw [tk_w_len] at hi
  rw [tk_w_at hi]
  exact sp_run_in hi
theorem sp_g_shl {a k p : Nat} {y : Int64} (hy : y.toBitVec.smod 64 = BitVec.ofNat 64 k) (hk : k < 64) (hp : 2 ^ k = p) (ha : a < 2 ^ 64) : lN a <<< y = lN (a * p) := by
  subst hp
  apply Int64.toBitVec_inj.mp
  rw [Int64.toBitVec_shiftLeft, hy]
  apply BitVec.eq_of_toNat_eq
  have hb : (lN a).toBitVec.toNat = a := Nat.mod_eq_of_lt ha
  have hk' : (BitVec.ofNat 64 k).toNat = k := Nat.mod_eq_of_lt (by omega)
  have h : ((lN a).toBitVec <<< BitVec.ofNat 64 k).toNat = (a * 2 ^ k) % 2 ^ 64 := by simp only [BitVec.shiftLeft_eq', BitVec.toNat_shiftLeft, hb, hk', Nat.shiftLeft_eq]
  exact h
section TOK
variable {d : Nat} {I : Nat → Nat → Int32} {J : Nat → Nat → Int64} {R : Nat → Nat → Option Nat} {Q : Option Value → ow_H → Prop} {X : sp_Tx} {p : Nat}
theorem c_Tokens_countRun {lo hi : Nat} (hR : ow_RF R) (hTx : R 25 0 = some 1) (hX : tk_ok X) (h1 : I 25 1 = nI X.1) (h2 : I 25 2 = nI p) (ht : ∀ j, j < X.1 → I 1 j = sp_sb (X.2 j)) (hp : p ≤ X.1) (hhi : hi < 128) (hlo : 1 ≤ lo ∧ lo ≤ hi) (hQ : Q (some (.int (nI (sp_run X lo hi p)))) (85, I, J, R)) : ow_AM M_Tokens_countRun (d + 1) [.ref 25, .int (nI lo), .int (nI hi)] (85, I, J, R) Q := by
  obtain ⟨x9, x2⟩ := hX
  apply t_Tokens_countRun hR hTx
  rw [h2]
  have L : ∀ (m q : Nat), X.1 - q = m → p ≤ q → q ≤ X.1 → sp_run X lo hi p = (q - p) + sp_run X lo hi q → ow_AW ow_Y0 (ow_Z Q) M_Tokens_countRun (d + 1) 0 0 5 [(0, .ref 25), (1, .int (nI lo)), (2, .int (nI hi)), (3, .int (nI q))] [] (85, I, J, R) 0 0 := by
    intro m
    induction m with
    | zero =>
      intro q hm hpq hq e
      rw [sp_run_0 (p := q) (fun z => by omega), Nat.add_zero] at e
      rw [e] at hQ
      apply t_Tokens_countRun_5 hR hTx
      rw [h1, h2, pk_sub hpq]
      exact ⟨fun _ => hQ, fun c => absurd (nI_le (by omega) (by omega)) c⟩
    | succ m ih =>
      intro q hm hpq hq e
      have hqn : q < X.1 := by omega
      have hb := x2 q
      have s1 := sp_sb_i hb
      have e0 : sp_sb (X.2 q) < nI lo ↔ ¬ (lo ≤ X.2 q ∧ X.2 q < 128) := by
        rw [Int32.lt_iff_toInt_lt, nI_toInt (by omega), s1]
        by_cases h : X.2 q < 128
        · rw [if_pos h]; omega
        · rw [if_neg h]; omega
      have e1 : nI hi < sp_sb (X.2 q) ↔ (hi < X.2 q ∧ X.2 q < 128) := by
        rw [Int32.lt_iff_toInt_lt, nI_toInt (by omega), s1]
        by_cases h : X.2 q < 128
        · rw [if_pos h]; omega
        · rw [if_neg h]; omega
      have fin : ¬ (lo ≤ X.2 q ∧ X.2 q ≤ hi) → Q (some (.int (nI (q - p)))) (85, I, J, R) := by
        intro h
        rw [sp_run_0 (p := q) (fun z => h z.2), Nat.add_zero] at e
        rw [e] at hQ
        exact hQ
      apply t_Tokens_countRun_5 hR hTx
      rw [h1, h2, pk_sub hpq, sp_cl (by omega), ht q hqn, e0, e1, nI_1]
      refine ⟨fun c => absurd c (nI_ge hqn (by omega)), fun _ => ⟨vp_in_nI (by omega) (by decide), fun c => fin (by omega), fun c => ⟨vp_in_nI (by omega) (by decide), fun c2 => fin (by omega), fun c2 => ?_⟩⟩⟩
      have hin : lo ≤ X.2 q ∧ X.2 q ≤ hi := by omega
      refine ih (q + 1) (by omega) (by omega) (by omega) ?_
      rw [e, sp_run_s hqn hin]
      omega
  exact L _ p rfl (Nat.le_refl _) hp (by omega)
theorem c_Tokens_advance (hR : ow_RF R) (hTx : R 25 0 = some 1) (hX : tk_ok X) (h1 : I 25 1 = nI X.1) (h2 : I 25 2 = nI p) (ht : ∀ j, j < X.1 → I 1 j = sp_sb (X.2 j)) (hp : p ≤ X.1)
    (hQ : ∀ I2 : Nat → Nat → Int32, sp_fr [] [(25, 2), (25, 3), (25, 4)] I I2 → tC I2 X p → Q none (85, I2, J, R)) : ow_AM M_Tokens_advance (d + 2) [.ref 25] (85, I, J, R) Q := by
  have x9 := hX.1
  have ha := tk_a_le hp
  have hal := tk_al hp
  have had := tk_ad hp
  apply t_Tokens_advance hR hTx
  refine c_Tokens_countRun (lo := 32) (hi := 32) hR hTx hX h1 h2 ht hp (by decide) (by decide) ⟨_, I, J, R, rfl, rfl, hR, hTx, ?_⟩
  rw [h2, nI_add]
  intro I3 e3 I4 e4
  have v3 : I3 25 2 = nI (tk_a X p) := by rw [e3, ow_u_at]; rfl
  rw [v3] at e4
  have a1 : I4 25 1 = nI X.1 := by rw [e4, ow_u_nk (by decide), e3, ow_u_nk (by decide)]; exact h1
  have a2 : I4 25 2 = nI (tk_a X p) := by rw [e4, ow_u_nk (by decide)]; exact v3
  have a4 : I4 25 4 = nI (tk_a X p) := by rw [e4, ow_u_at]
  have at4 : ∀ j, j < X.1 → I4 1 j = sp_sb (X.2 j) := fun j hj => by rw [e4, ow_u_ne (by decide), e3, ow_u_ne (by decide)]; exact ht j hj
  have f4 : sp_fr [] [(25, 2), (25, 3), (25, 4)] I I4 := sp_fr_tr (sp_fr_ue e3 (by simp)) (sp_fr_ue e4 (by simp))
  refine c_Tokens_countRun (lo := 97) (hi := 122) hR hTx hX a1 a2 at4 ha (by decide) (by decide) ⟨_, I4, J, R, rfl, rfl, hR, hTx, ?_⟩
  refine c_Tokens_countRun (lo := 48) (hi := 57) hR hTx hX a1 a2 at4 ha (by decide) (by decide) ⟨_, I4, J, R, rfl, rfl, hR, hTx, ?_⟩
  rw [a2, nI_add, nI_add]
  intro I5 e5
  have b1 : I5 25 1 = nI X.1 := by rw [e5, ow_u_nk (by decide)]; exact a1
  have b2 : I5 25 2 = nI (tk_a X p + (tk_l X p + tk_d X p)) := by rw [e5, ow_u_at]; rfl
  have b4 : I5 25 4 = nI (tk_a X p) := by rw [e5, ow_u_nk (by decide)]; exact a4
  have bt : ∀ j, j < X.1 → I5 1 j = sp_sb (X.2 j) := fun j hj => by rw [e5, ow_u_ne (by decide)]; exact at4 j hj
  have f5 : sp_fr [] [(25, 2), (25, 3), (25, 4)] I I5 := sp_fr_tr f4 (sp_fr_ue e5 (by simp))
  rw [b2, b1]
  show (nI (tk_l X p) ≤ 0 → _) ∧ (¬ nI (tk_l X p) ≤ 0 → _)
  have z1 : nI (tk_l X p) ≤ 0 ↔ tk_l X p ≤ 0 := nI_leI (b := 0) (by omega) (by decide)
  have z2 : nI (tk_d X p) ≤ 0 ↔ tk_d X p ≤ 0 := nI_leI (b := 0) (by omega) (by decide)
  have z3 : 8 < nI (tk_l X p) ↔ 8 < tk_l X p := nI_ltI (a := 8) (by decide) (by omega)
  have z4 : 3 < nI (tk_d X p) ↔ 3 < tk_d X p := nI_ltI (a := 3) (by decide) (by omega)
  have fin : ∀ (k : Nat) (I6 : Nat → Nat → Int32), I6 = ow_u I5 25 3 (nI k) → tk_k X p = k → tk_n X p = tk_a X p + (tk_l X p + tk_d X p) → Q none (85, I6, J, R) := by
    intro k I6 e6 hk hn
    refine hQ I6 (sp_fr_tr f5 (sp_fr_ue e6 (by simp))) ⟨?_, ?_, ?_, ?_, fun j hj => ?_⟩
    · rw [e6, ow_u_nk (by decide)]; exact b1
    · rw [e6, ow_u_nk (by decide), hn]; exact b2
    · rw [e6, ow_u_at, hk]
    · rw [e6, ow_u_nk (by decide)]; exact b4
    · rw [e6, ow_u_ne (by decide)]; exact bt j hj
  have fin2 : ∀ (k : Nat) (I6 I7 : Nat → Nat → Int32), I6 = ow_u I5 25 3 (nI k) → I7 = ow_u I6 25 2 (I6 25 2 + 1) → tk_k X p = k → tk_n X p = tk_a X p + (tk_l X p + tk_d X p) + 1 → Q none (85, I7, J, R) := by
    intro k I6 I7 e6 e7 hk hn
    have v6 : I6 25 2 = nI (tk_a X p + (tk_l X p + tk_d X p)) := by rw [e6, ow_u_nk (by decide)]; exact b2
    rw [v6, nI_1] at e7
    refine hQ I7 (sp_fr_tr (sp_fr_tr f5 (sp_fr_ue e6 (by simp))) (sp_fr_ue e7 (by simp))) ⟨?_, ?_, ?_, ?_, fun j hj => ?_⟩
    · rw [e7, ow_u_nk (by decide), e6, ow_u_nk (by decide)]; exact b1
    · rw [e7, ow_u_at, hn]
    · rw [e7, ow_u_nk (by decide), e6, ow_u_at, hk]
    · rw [e7, ow_u_nk (by decide), e6, ow_u_nk (by decide)]; exact b4
    · rw [e7, ow_u_ne (by decide), e6, ow_u_ne (by decide)]; exact bt j hj
  refine ⟨fun c => ⟨fun c2 => ⟨fun c3 => ?_, fun c3 I6 e6 => ?_⟩, fun c2 => ⟨fun c3 I6 e6 => ?_, fun c3 I6 e6 => ?_⟩⟩, fun c => ⟨fun c2 I6 e6 => ?_, fun c2 I6 e6 => ?_⟩⟩
  · have hl : tk_l X p = 0 := by have := z1.mp c; omega
    have hd : tk_d X p = 0 := by have := z2.mp c2; omega
    have han : tk_a X p < X.1 := by
      have := (nI_ltI (by omega) (by omega)).mp c3
      omega
    have hn : tk_n X p = tk_a X p + (tk_l X p + tk_d X p) + 1 := by unfold tk_n; rw [if_pos ⟨hl, hd, han⟩]
    have hb := hX.2 (tk_a X p)
    have e59 : sp_sb (X.2 (tk_a X p)) = 59 ↔ X.2 (tk_a X p) = 59 := by
      rw [← Int32.toInt_inj, sp_sb_i hb, show (59 : Int32).toInt = 59 from by decide]
      by_cases h : X.2 (tk_a X p) < 128
      · rw [if_pos h]; omega
      · rw [if_neg h]; omega
    have hidx : tk_a X p + (tk_l X p + tk_d X p) = tk_a X p := by omega
    rw [sp_cl (by omega), hidx, bt _ han, e59]
    refine ⟨vp_in_nI (by omega) (by decide), fun c4 I6 e6 I7 e7 => fin2 4 I6 I7 e6 e7 ?_ hn, fun c4 I6 e6 I7 e7 => fin2 3 I6 I7 e6 e7 ?_ hn⟩
    · unfold tk_k; rw [if_neg (by omega), if_neg (by omega), if_pos han, if_neg c4]
    · unfold tk_k; rw [if_neg (by omega), if_neg (by omega), if_pos han, if_pos c4]
  · have hl : tk_l X p = 0 := by have := z1.mp c; omega
    have hd : tk_d X p = 0 := by have := z2.mp c2; omega
    have han : ¬ tk_a X p < X.1 := fun q => c3 (nI_lt (by omega) (by omega))
    exact fin 0 I6 e6 (by unfold tk_k; rw [if_neg (by omega), if_neg (by omega), if_neg han]) (by unfold tk_n; rw [if_neg (fun q => han q.2.2)]; omega)
  · have hl : tk_l X p = 0 := by have := z1.mp c; omega
    have hd : ¬ tk_d X p ≤ 0 := fun q => c2 (z2.mpr q)
    have h3 := z4.mp c3
    exact fin 4 I6 e6 (by unfold tk_k; rw [if_neg (by omega), if_pos (by omega), if_neg (by omega)]) (by unfold tk_n; rw [if_neg (by omega)]; omega)
  · have hl : tk_l X p = 0 := by have := z1.mp c; omega
    have hd : ¬ tk_d X p ≤ 0 := fun q => c2 (z2.mpr q)
    have h3 : ¬ 3 < tk_d X p := fun q => c3 (z4.mpr q)
    exact fin 2 I6 e6 (by unfold tk_k; rw [if_neg (by omega), if_pos (by omega), if_pos (by omega)]) (by unfold tk_n; rw [if_neg (by omega)]; omega)
  · have hl : ¬ tk_l X p ≤ 0 := fun q => c (z1.mpr q)
    have h3 := z3.mp c2
    exact fin 4 I6 e6 (by unfold tk_k; rw [if_pos (by omega), if_neg (by omega)]) (by unfold tk_n; rw [if_neg (by omega)]; omega)
  · have hl : ¬ tk_l X p ≤ 0 := fun q => c (z1.mpr q)
    have h3 : ¬ 8 < tk_l X p := fun q => c2 (z3.mpr q)
    exact fin 1 I6 e6 (by unfold tk_k; rw [if_pos (by omega), if_pos (by omega)]) (by unfold tk_n; rw [if_neg (by omega)]; omega)
/-- on to the next token -/
theorem c_adv (hR : ow_RF R) (hTx : R 25 0 = some 1) (hX : tk_ok X) (hp : p ≤ X.1) (hC : tC I X p)
    (hQ : ∀ I2 : Nat → Nat → Int32, sp_fr [] [(25, 2), (25, 3), (25, 4)] I I2 → tC I2 X (tk_n X p) → Q none (85, I2, J, R)) : ow_AM M_Tokens_advance (d + 2) [.ref 25] (85, I, J, R) Q := c_Tokens_advance hR hTx hX hC.1 hC.2.1 hC.2.2.2.2 (tk_n_le hp) hQ
theorem c_Tokens_isWord {i : Nat} (hR : ow_RF R) (hTx : R 25 0 = some 1) (hX : tk_ok X) (hi : i < 19) (hp : p ≤ X.1) (hC : tC I X p) (hQ : Q (some (.int (sp_jb (tk_is X p i)))) (85, I, J, R)) : ow_AM M_Tokens_isWord (d + 5) [.ref 25, .ref (1000 + i)] (85, I, J, R) Q := by
  obtain ⟨x9, x2⟩ := hX
  obtain ⟨c1, c2, c3, c4, c5⟩ := hC
  obtain ⟨w1, w2, w3, w4⟩ := sp_wn_ok i hi
  have hal := tk_al hp
  have hk4 := tk_k4 (X := X) (p := p)
  apply t_Tokens_isWord hi hR hTx
  rw [c3, show (nI (tk_k X p) = 1) = (nI (tk_k X p) = nI 1) from rfl, nI_eq (by omega) (by decide)]
  unfold tk_is at hQ
  refine ⟨fun c => ?_, fun c => ?_⟩
  · rw [decide_eq_false (fun q => c q.1)] at hQ
    exact hQ
  · obtain ⟨l1, l2⟩ := tk_k1 c
    refine c_Str_length hi ⟨_, I, J, R, rfl, rfl, hR, hTx, ?_⟩
    rw [c2, c4, tk_n1 l1, pk_sub (by omega), show tk_a X p + tk_l X p - tk_a X p = tk_l X p by omega, nI_eq (by omega) (by omega)]
    refine ⟨fun e => ?_, fun e => ?_⟩
    · refine sp_up (σ := Unit) (N := tk_l X p) (G := fun j _ => ow_AW ow_Y0 (ow_Z Q) M_Tokens_isWord (d + 5) 0 0 31 [(0, .ref 25), (1, .ref (1000 + i)), (2, .int (nI (tk_a X p + j)))] [] (85, I, J, R) 0 0) (Inv := fun j _ => ∀ t, t < j → X.2 (tk_a X p + t) = (sp_wn i).getD t 0) ?_ ?_ 0 () (Nat.zero_le _) (fun t ht => absurd ht (Nat.not_lt_zero _))
      · intro _ hall
        apply t_Tokens_isWord_31 hi hR hTx
        rw [c2, tk_n1 l1]
        refine ⟨fun _ => ?_, fun c => absurd (Int32.le_refl _) c⟩
        rw [decide_eq_true ⟨c, sp_lext (by rw [tk_w_len]; omega) (fun t ht => by rw [tk_w_len] at ht; rw [tk_w_at ht]; exact hall t ht)⟩] at hQ
        exact hQ
      · intro j _ hj hall ih
        apply t_Tokens_isWord_31 hi hR hTx
        rw [c2, tk_n1 l1]
        refine ⟨fun c => absurd c (nI_ge (by omega) (by omega)), fun _ => ?_⟩
        rw [c4, pk_sub (by omega), show tk_a X p + j - tk_a X p = j by omega, sp_cl (by omega), c5 _ (by omega)]
        refine ⟨vp_in_nI (by omega) (by decide), ?_⟩
        refine c_Str_charAt hi (by omega) ⟨_, I, J, R, rfl, rfl, hR, hTx, ?_⟩
        obtain ⟨y1, y2, y3⟩ := w4 j (by omega)
        have hin := sp_run_in (X := X) (lo := 97) (hi := 122) (p := tk_a X p) hj
        rw [y1, sp_sb_lo (by omega), nI_eq (by omega) (by omega), nI_1]
        refine ⟨fun q => ih () (fun t ht => ?_), fun q => ?_⟩
        · by_cases htj : t = j
          · rw [htj]; exact q
          · exact hall t (by omega)
        · rw [decide_eq_false (fun z => q (by rw [← z.2, tk_w_at hj]))] at hQ
          exact hQ
    · rw [decide_eq_false (fun z => e (by rw [← w1, ← z.2, tk_w_len]))] at hQ
      exact hQ
theorem c_Tokens_wordCode (hR : ow_RF R) (hTx : R 25 0 = some 1) (hX : tk_ok X) (hp : p ≤ X.1) (hC : tC I X p) (hk : tk_k X p = 1) (hQ : Q (some (.long (lN (sp_cl2 (tk_w X p))))) (85, I, J, R)) : ow_AM M_Tokens_wordCode (d + 1) [.ref 25] (85, I, J, R) Q := by
  obtain ⟨x9, x2⟩ := hX
  obtain ⟨c1, c2, c3, c4, c5⟩ := hC
  obtain ⟨l1, l2⟩ := tk_k1 hk
  have hal := tk_al hp
  apply t_Tokens_wordCode hR hTx
  rw [c4]
  refine sp_up (σ := Unit) (N := tk_l X p) (G := fun j _ => ow_AW ow_Y0 (ow_Z Q) M_Tokens_wordCode (d + 1) 0 0 7 [(0, .ref 25), (1, .long (lN (sp_cd X.2 (tk_a X p) j))), (3, .int (nI (tk_a X p + j)))] [] (85, I, J, R) 0 0) (Inv := fun _ _ => True) ?_ ?_ 0 () (Nat.zero_le _) trivial
  · intro _ _
    apply t_Tokens_wordCode_7 hR hTx
    rw [c2, tk_n1 l1, tk_code]
    exact ⟨fun _ => hQ, fun c => absurd (Int32.le_refl _) c⟩
  · intro j _ hj _ ih
    have hin := sp_run_in (X := X) (lo := 97) (hi := 122) (p := tk_a X p) hj
    have hcl := sp_cd_lt (B := X.2) (a := tk_a X p) j (fun t ht => (sp_run_in (X := X) (lo := 97) (hi := 122) (p := tk_a X p) (Nat.lt_trans ht hj)).2)
    apply t_Tokens_wordCode_7 hR hTx
    rw [c2, tk_n1 l1, sp_cl (by omega), c5 _ (by omega), sp_sb_lo (by omega), show nI (X.2 (tk_a X p + j)) - 97 = nI (X.2 (tk_a X p + j) - 97) from pk_sub (b := 97) (by omega), nI_1, nI_1, nI_l (by omega)]
    refine ⟨fun c => absurd c (nI_ge (by omega) (by omega)), fun _ => ⟨vp_in_nI (by omega) (by decide), ?_⟩⟩
    have K := ih () trivial
    rw [sp_cd] at K
    have e1 : lN (sp_cd X.2 (tk_a X p) j) <<< (Int32.toInt64 5 &&& 63) = lN (32 * sp_cd X.2 (tk_a X p) j) := by
      rw [Nat.mul_comm]
      exact sp_g_shl (k := 5) (p := 32) (by decide) (by decide) (by decide) (by have : 32 ^ j ≤ 32 ^ 8 := Nat.pow_le_pow_right (by decide) (by omega); exact Nat.lt_of_lt_of_le hcl (Nat.le_trans this (by decide)))
    rw [e1, lN_add, show X.2 (tk_a X p + j) - 97 + 1 = X.2 (tk_a X p + j) - 96 by omega]
    exact K
theorem c_Tokens_wholeValue (hR : ow_RF R) (hTx : R 25 0 = some 1) (hX : tk_ok X) (hp : p ≤ X.1) (hC : tC I X p) (hk : tk_k X p = 2) (hQ : Q (some (.int (nI (tk_v X p)))) (85, I, J, R)) : ow_AM M_Tokens_wholeValue (d + 1) [.ref 25] (85, I, J, R) Q := by
  obtain ⟨x9, x2⟩ := hX
  obtain ⟨c1, c2, c3, c4, c5⟩ := hC
  obtain ⟨l1, l2, l3⟩ := tk_k2 hk
  have had := tk_ad hp
  apply t_Tokens_wholeValue hR hTx
  rw [c4]
  refine sp_up (σ := Unit) (N := tk_d X p) (G := fun j _ => ow_AW ow_Y0 (ow_Z Q) M_Tokens_wholeValue (d + 1) 0 0 7 [(0, .ref 25), (1, .int (nI (sp_dv X.2 (tk_a X p) j))), (2, .int (nI (tk_a X p + j)))] [] (85, I, J, R) 0 0) (Inv := fun _ _ => True) ?_ ?_ 0 () (Nat.zero_le _) trivial
  · intro _ _
    apply t_Tokens_wholeValue_7 hR hTx
    rw [c2, tk_n2 hk]
    exact ⟨fun _ => hQ, fun c => absurd (Int32.le_refl _) c⟩
  · intro j _ hj _ ih
    have hin := sp_run_in (X := X) (lo := 48) (hi := 57) (p := tk_a X p) hj
    apply t_Tokens_wholeValue_7 hR hTx
    rw [c2, tk_n2 hk, sp_cl (by omega), c5 _ (by omega), sp_sb_lo (by omega), show nI (X.2 (tk_a X p + j)) - 48 = nI (X.2 (tk_a X p + j) - 48) from pk_sub (b := 48) (by omega), show nI (sp_dv X.2 (tk_a X p) j) * 10 = nI (10 * sp_dv X.2 (tk_a X p) j) from by rw [Nat.mul_comm]; exact pk_mul _ 10, nI_add, nI_1]
    exact ⟨fun c => absurd c (nI_ge (by omega) (by omega)), fun _ => ⟨vp_in_nI (by omega) (by decide), ih () trivial⟩⟩
end TOK
