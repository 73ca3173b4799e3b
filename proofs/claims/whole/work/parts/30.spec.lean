/-! Own rows: what the follies do, in plain numbers. -/
def sp_jb (b : Bool) : Int32 := if b then 1 else 0
def sp_jo : Option Bool → Int32
  | none => -2
  | some b => sp_jb b
/-- where a folly sends: 0 nowhere, else the folly and 1 -/
def sp_tg : Nat → Int32
  | 0 => -2
  | k + 1 => nI k
/-- the follies at one time: how many, the year, the hermits as bits, the shapes, for how many years they are sound, where they send -/
abbrev sp_V : Type := Nat × Nat × Nat × (Nat → Nat) × (Nat → Nat) × (Nat → Nat)
def sp_n (V : sp_V) : Nat := V.1
def sp_y (V : sp_V) : Nat := V.2.1
def sp_h (V : sp_V) : Nat := V.2.2.1
def sp_sh (V : sp_V) (f : Nat) : Nat := V.2.2.2.1 f
def sp_so (V : sp_V) (f : Nat) : Nat := V.2.2.2.2.1 f
def sp_to (V : sp_V) (f : Nat) : Nat := V.2.2.2.2.2 f
def sp_ok (V : sp_V) : Prop := sp_n V ≤ 6 ∧ sp_y V < 2000 ∧ sp_h V < 64 ∧ ∀ f, f < sp_n V → sp_sh V f < 5 ∧ sp_so V f < 100 ∧ sp_to V f ≤ sp_n V
/-- a scene's cells hold V -/
def sp_S (I : Nat → Nat → Int32) (o : Nat) (V : sp_V) : Prop := I o 0 = nI (sp_n V) ∧ I o 1 = nI (sp_y V) ∧ I o 2 = nI (sp_h V) ∧ ∀ f, f < sp_n V → I (o + 1) f = nI (sp_sh V f) ∧ I (o + 2) f = nI (sp_so V f) ∧ I (o + 3) f = sp_tg (sp_to V f)
/-- nothing changed but these cells -/
def sp_eq (S : List Nat) (I I2 : Nat → Nat → Int32) : Prop := ∀ a, a ∉ S → I2 a = I a
theorem sp_eq_rf {S : List Nat} {I : Nat → Nat → Int32} : sp_eq S I I := fun _ _ => rfl
theorem sp_eq_tr {S : List Nat} {I I2 I3 : Nat → Nat → Int32} (h1 : sp_eq S I I2) (h2 : sp_eq S I2 I3) : sp_eq S I I3 := fun a ha => (h2 a ha).trans (h1 a ha)
theorem sp_eq_mono {S S2 : List Nat} {I I2 : Nat → Nat → Int32} (h : sp_eq S I I2) (hs : ∀ a ∈ S, a ∈ S2) : sp_eq S2 I I2 := fun a ha => h a (fun q => ha (hs a q))
theorem sp_eq_u {S : List Nat} {I : Nat → Nat → Int32} {o k : Nat} {v : Int32} (h : o ∈ S) : sp_eq S I (ow_u I o k v) := fun a ha => ow_u_ne (fun e => ha (e ▸ h))
theorem sp_eq_r {S : List Nat} {I : Nat → Nat → Int32} {o : Nat} {g : Nat → Int32} (h : o ∈ S) : sp_eq S I (ow_r I o g) := fun a ha => by unfold ow_r; rw [if_neg (fun e => ha (by rw [e]; exact h))]
theorem sp_S_keep {I I2 : Nat → Nat → Int32} {o : Nat} {V : sp_V} {S : List Nat} (h : sp_S I o V) (he : sp_eq S I I2) (h0 : o ∉ S) (h1 : o + 1 ∉ S) (h2 : o + 2 ∉ S) (h3 : o + 3 ∉ S) : sp_S I2 o V := by
  unfold sp_S at h ⊢
  rw [he _ h0, he _ h1, he _ h2, he _ h3]
  exact h
def sp_rep (V : sp_V) (f : Nat) (b : Bool) : Option Bool :=
  if sp_so V f = 0 then none else if (sp_h V).testBit f then some false else if sp_sh V f = 0 then some b else if sp_sh V f = 1 then some (!b) else if sp_sh V f = 2 then some true else if sp_sh V f = 3 then some (if sp_y V % 2 = 0 then b else !b) else none
theorem sp_cl {n : Nat} (h : n < 2147483648) : (nI n).toNatClampNeg = n := nI_clamp h
theorem sp_bit : ∀ m, m < 64 → ∀ f, f < 6 → ((nI m >>> (nI f &&& 31)) &&& 1 = if m.testBit f then 1 else 0) := by decide +kernel
theorem sp_or : ∀ m, m < 64 → ∀ f, f < 6 → (nI m ||| ((1 : Int32) <<< (nI f &&& 31)) = nI (m ||| 2 ^ f) ∧ m ||| 2 ^ f < 64) := by decide +kernel
theorem sp_orb : ∀ m, m < 64 → ∀ f, f < 6 → ∀ g, g < 6 → ((m ||| 2 ^ f).testBit g = (m.testBit g || decide (g = f))) := by decide +kernel
theorem sp_z {n : Nat} (h : n < 2147483648) : nI n = 0 ↔ n = 0 := by rw [← nI_0]; exact nI_eq h (by decide)
theorem sp_k {n : Nat} (h : n < 2147483648) (k : Nat) (hk : k < 2147483648) {x : Int32} (hx : x = nI k) : nI n = x ↔ n = k := by subst hx; exact nI_eq h hk
theorem sp_odd : ∀ n, n < 2000 → (nI n &&& 1 = nI (n % 2)) := by
  intro n hn
  exact pk_andN (by omega) 1 (by decide)
theorem sp_neg (b : Bool) : (1 : Int32) - sp_jb b = sp_jb (!b) := by cases b <;> decide
theorem sp_jb01 (b : Bool) : sp_jb b = 0 ∨ sp_jb b = 1 := by cases b <;> decide
/-- a letter's way: whom it comes to, how many answer, who signs and with what -/
def sp_go (V : sp_V) : Nat → Nat → Nat → Bool → List Nat × Nat × Option (Nat × Bool)
  | 0, _, _, _ => ([], 0, none)
  | k + 1, m, f, b => if m.testBit f then ([], 0, none) else match sp_rep V f b with
    | none => ([f], 0, none)
    | some c => if sp_to V f = 0 then ([f], 1, some (f, c)) else
      let r := sp_go V k (m ||| 2 ^ f) (sp_to V f - 1) c
      (f :: r.1, r.2.1 + 1, r.2.2)
def sp_last : Option (Nat × Bool) → Int32
  | none => -2
  | some q => nI q.1
def sp_out : Option (Nat × Bool) → Int32
  | none => -2
  | some q => sp_jb q.2
theorem sp_q {Q : Option Value → ow_H → Prop} {x y : Int32} {h : ow_H} (hQ : Q (some (.int x)) h) (e : x = y) : Q (some (.int y)) h := e ▸ hQ
theorem sp_eq_ue {S : List Nat} {I I2 : Nat → Nat → Int32} {o k : Nat} {v : Int32} (e : I2 = ow_u I o k v) (h : o ∈ S) : sp_eq S I I2 := by subst e; exact sp_eq_u h
theorem sp_eq_re {S : List Nat} {I I2 : Nat → Nat → Int32} {o : Nat} {g : Nat → Int32} (e : I2 = ow_r I o g) (h : o ∈ S) : sp_eq S I I2 := by subst e; exact sp_eq_r h
