/-! Own rows: the fewest to keep. -/
theorem sp_bs_bit {V : sp_V} (hn6 : sp_n V ≤ 6) : ∀ k, k ≤ sp_n V → ∀ g, g < 6 → (sp_bs V k).testBit g = (decide (g < k) && decide (0 < sp_so V g)) := by
  intro k
  induction k with
  | zero => intro _ g _; rw [sp_bs, Nat.zero_testBit]; rfl
  | succ k ih =>
    intro hk g hg
    rw [sp_bs]
    have i := ih (by omega) g hg
    have hl := sp_bs_lt hn6 k (by omega)
    by_cases h : 0 < sp_so V k
    · rw [if_pos h, sp_orb _ hl k (by omega) g hg, i]
      by_cases hgk : g = k
      · subst hgk
        simp [h]
      · have : decide (g < k + 1) = decide (g < k) := decide_eq_decide.mpr (by omega)
        rw [this]
        simp [hgk]
    · rw [if_neg h, i]
      by_cases hgk : g = k
      · subst hgk
        simp [h]
      · have : decide (g < k + 1) = decide (g < k) := decide_eq_decide.mpr (by omega)
        rw [this]
theorem sp_bs_pow {V : sp_V} : ∀ k, sp_bs V k < 2 ^ k := by
  intro k
  induction k with
  | zero => exact (by decide : 0 < 1)
  | succ k ih =>
    rw [sp_bs]
    by_cases h : 0 < sp_so V k
    · rw [if_pos h]
      exact Nat.or_lt_two_pow (Nat.lt_trans ih (Nat.pow_lt_pow_right (by decide) (by omega))) (Nat.pow_lt_pow_right (by decide) (by omega))
    · rw [if_neg h]
      exact Nat.lt_trans ih (Nat.pow_lt_pow_right (by decide) (by omega))
theorem sp_sub0 : ∀ x, x < 64 → ∀ s, s < 64 → ((nI x &&& (nI s ^^^ (-1)) = 0) ↔ x &&& s = x) := by decide +kernel
theorem sp_subp : ∀ x, x < 64 → ∀ s, s < 64 → (x &&& s < 64 ∧ sp_pc (x &&& s) ≤ sp_pc x ∧ (x &&& s = x ∨ sp_pc (x &&& s) < sp_pc x)) := by decide +kernel
theorem sp_selfc : ∀ x, x < 64 → nI x &&& (nI x ^^^ (-1)) = 0 := by decide +kernel
/-- does what is kept serve all that is served now -/
def sp_kg (V : sp_V) (eo : Nat → Nat) (x : Nat) : Bool := decide (nI (sp_bits V eo) &&& (nI (sp_bits (sp_ruin V x) eo) ^^^ (-1)) = 0)
def sp_le2 (a b : Nat) : Prop := sp_pc a < sp_pc b ∨ (sp_pc a = sp_pc b ∧ a ≤ b)
/-- the reference's choice among the first i -/
def sp_mn (p : Nat → Bool) : Nat → Option Nat
  | 0 => none
  | i + 1 => match sp_mn p i with
    | none => if p i then some i else none
    | some b => if sp_pc i < sp_pc b ∧ p i = true then some i else some b
theorem sp_mn_lt {p : Nat → Bool} : ∀ i b, sp_mn p i = some b → b < i ∧ p b = true ∧ ∀ x, x < i → p x = true → sp_le2 b x := by
  intro i
  induction i with
  | zero => intro b h; cases h
  | succ i ih =>
    intro b h
    rw [sp_mn] at h
    cases hm : sp_mn p i with
    | none =>
      rw [hm] at h
      have hno : ∀ k, k ≤ i → sp_mn p k = none → ∀ x, x < k → p x = false := by
        intro k
        induction k with
        | zero => intro _ _ x hx; omega
        | succ k ihk =>
          intro hk hn x hx
          rw [sp_mn] at hn
          cases hm2 : sp_mn p k with
          | some c =>
            rw [hm2] at hn
            dsimp only at hn
            split at hn <;> cases hn
          | none =>
            rw [hm2] at hn
            dsimp only at hn
            by_cases hp : p k = true
            · rw [if_pos hp] at hn; cases hn
            · by_cases hxk : x = k
              · rw [hxk]; exact Bool.not_eq_true _ ▸ hp
              · exact ihk (by omega) hm2 x (by omega)
      dsimp only at h
      by_cases hp : p i = true
      · rw [if_pos hp] at h
        injection h with h
        subst h
        refine ⟨Nat.lt_succ_self _, hp, fun x hx hpx => ?_⟩
        by_cases hxi : x = i
        · rw [hxi]; exact Or.inr ⟨rfl, Nat.le_refl _⟩
        · have := hno i (Nat.le_refl _) hm x (by omega)
          rw [this] at hpx; cases hpx
      · rw [if_neg hp] at h; cases h
    | some c =>
      rw [hm] at h
      dsimp only at h
      obtain ⟨c1, c2, c3⟩ := ih c hm
      by_cases hc : sp_pc i < sp_pc c ∧ p i = true
      · rw [if_pos hc] at h
        injection h with h
        subst h
        refine ⟨Nat.lt_succ_self _, hc.2, fun x hx hpx => ?_⟩
        by_cases hxi : x = i
        · rw [hxi]; exact Or.inr ⟨rfl, Nat.le_refl _⟩
        · rcases c3 x (by omega) hpx with q | q
          · exact Or.inl (by have := hc.1; omega)
          · exact Or.inl (by have := hc.1; omega)
      · rw [if_neg hc] at h
        injection h with h
        subst h
        refine ⟨by omega, c2, fun x hx hpx => ?_⟩
        by_cases hxi : x = i
        · subst hxi
          have : ¬ sp_pc x < sp_pc c := fun q => hc ⟨q, hpx⟩
          by_cases he : sp_pc c = sp_pc x
          · exact Or.inr ⟨he, by omega⟩
          · exact Or.inl (by omega)
        · exact c3 x (by omega) hpx
theorem sp_mn_some {p : Nat → Bool} {x : Nat} : ∀ i, x < i → p x = true → ∃ b, sp_mn p i = some b := by
  intro i
  induction i with
  | zero => intro h; omega
  | succ i ih =>
    intro hx hp
    rw [sp_mn]
    cases hm : sp_mn p i with
    | none =>
      by_cases hxi : x = i
      · subst hxi; exact ⟨x, by dsimp only; rw [if_pos hp]⟩
      · obtain ⟨b, hb⟩ := ih (by omega) hp
        rw [hm] at hb; cases hb
    | some c =>
      dsimp only
      by_cases hc : sp_pc i < sp_pc c ∧ p i = true
      · rw [if_pos hc]; exact ⟨_, rfl⟩
      · rw [if_neg hc]; exact ⟨_, rfl⟩
/-- the object's choice, beginning with s -/
def sp_mc (p : Nat → Bool) (s : Nat) : Nat → Nat
  | 0 => s
  | i + 1 => if i &&& s = i ∧ (sp_pc i < sp_pc (sp_mc p s i) ∨ (sp_pc i = sp_pc (sp_mc p s i) ∧ i < sp_mc p s i)) ∧ p i = true then i else sp_mc p s i
theorem sp_mc_ok {p : Nat → Bool} {s : Nat} (hp : p s = true) : ∀ i, sp_mc p s i &&& s = sp_mc p s i ∧ p (sp_mc p s i) = true ∧ sp_le2 (sp_mc p s i) s ∧ ∀ x, x < i → x &&& s = x → p x = true → sp_le2 (sp_mc p s i) x := by
  intro i
  induction i with
  | zero => exact ⟨Nat.and_self s, hp, Or.inr ⟨rfl, Nat.le_refl _⟩, fun x hx => by omega⟩
  | succ i ih =>
    obtain ⟨a1, a2, a3, a4⟩ := ih
    rw [sp_mc]
    by_cases hc : i &&& s = i ∧ (sp_pc i < sp_pc (sp_mc p s i) ∨ (sp_pc i = sp_pc (sp_mc p s i) ∧ i < sp_mc p s i)) ∧ p i = true
    · rw [if_pos hc]
      obtain ⟨b1, b2, b3⟩ := hc
      have tr : ∀ x, sp_le2 (sp_mc p s i) x → sp_le2 i x := by
        intro x hx
        unfold sp_le2 at hx ⊢
        rcases b2 with b2 | b2 <;> rcases hx with hx | hx <;> omega
      refine ⟨b1, b3, tr s a3, fun x hx h1 h2 => ?_⟩
      by_cases hxi : x = i
      · rw [hxi]; exact Or.inr ⟨rfl, Nat.le_refl _⟩
      · exact tr x (a4 x (by omega) h1 h2)
    · rw [if_neg hc]
      refine ⟨a1, a2, a3, fun x hx h1 h2 => ?_⟩
      by_cases hxi : x = i
      · subst hxi
        have : ¬ (sp_pc x < sp_pc (sp_mc p s x) ∨ (sp_pc x = sp_pc (sp_mc p s x) ∧ x < sp_mc p s x)) := fun q => hc ⟨h1, q, h2⟩
        unfold sp_le2
        omega
      · exact a4 x (by omega) h1 h2
theorem sp_mn_mc {p : Nat → Bool} {s n : Nat} (hn : n ≤ 6) (hs : s < 2 ^ n) (hp : p s = true) (hand : ∀ x, x < 64 → p (x &&& s) = p x) : sp_mn p (2 ^ n) = some (sp_mc p s 64) := by
  have h64 : 2 ^ n ≤ 64 := Nat.pow_le_pow_right (n := 2) (by decide) hn
  obtain ⟨b, hb⟩ := sp_mn_some (2 ^ n) hs hp
  obtain ⟨b1, b2, b3⟩ := sp_mn_lt _ b hb
  obtain ⟨c1, c2, c3, c4⟩ := sp_mc_ok hp 64
  rw [hb]
  have hcs : sp_mc p s 64 ≤ s := by
    have := Nat.and_le_right (n := sp_mc p s 64) (m := s)
    rw [c1] at this; exact this
  have q1 := b3 (sp_mc p s 64) (by omega) c2
  obtain ⟨u1, u2, u3⟩ := sp_subp b (by omega) s (by omega)
  have hbs : b &&& s ≤ s := Nat.and_le_right
  have q3 := b3 (b &&& s) (by omega) (by rw [hand b (by omega)]; exact b2)
  have hsub : b &&& s = b := by
    rcases u3 with u | u
    · exact u
    · unfold sp_le2 at q3; omega
  have q2 := c4 b (by omega) hsub b2
  unfold sp_le2 at q1 q2
  congr 1
  omega
theorem sp_ruin_and {V : sp_V} (hn6 : sp_n V ≤ 6) {x : Nat} : sp_sim (sp_ruin V (x &&& sp_bs V (sp_n V))) (sp_ruin V x) := ⟨rfl, rfl, fun g hg => ⟨rfl, rfl, by
  have hg : g < sp_n V := hg
  show (if (x &&& sp_bs V (sp_n V)).testBit g then sp_so V g else 0) = 0 ↔ (if x.testBit g then sp_so V g else 0) = 0
  rw [Nat.testBit_and, sp_bs_bit hn6 _ (Nat.le_refl _) g (by omega), decide_eq_true hg, Bool.true_and]
  by_cases h : 0 < sp_so V g
  · rw [decide_eq_true h, Bool.and_true]
  · have : sp_so V g = 0 := by omega
    rw [this]
    simp, rfl⟩⟩
theorem sp_ruin_all {V : sp_V} (hn6 : sp_n V ≤ 6) : sp_sim (sp_ruin V (sp_bs V (sp_n V))) V := ⟨rfl, rfl, fun g hg => ⟨rfl, rfl, by
  have hg : g < sp_n V := hg
  show (if (sp_bs V (sp_n V)).testBit g then sp_so V g else 0) = 0 ↔ sp_so V g = 0
  rw [sp_bs_bit hn6 _ (Nat.le_refl _) g (by omega), decide_eq_true hg, Bool.true_and]
  by_cases h : 0 < sp_so V g
  · rw [decide_eq_true h, if_pos rfl]
  · have : sp_so V g = 0 := by omega
    rw [this]
    simp, rfl⟩⟩
theorem sp_only_ruin {V : sp_V} (hn6 : sp_n V ≤ 6) {x : Nat} (hx : x &&& sp_bs V (sp_n V) = x) : sp_sim (sp_only V x) (sp_ruin V x) := ⟨rfl, rfl, fun g hg => ⟨rfl, rfl, by
  have hg : g < sp_n V := hg
  show (if x.testBit g then 1 else 0) = 0 ↔ (if x.testBit g then sp_so V g else 0) = 0
  by_cases hb : x.testBit g = true
  · rw [if_pos hb, if_pos hb]
    rw [← hx, Nat.testBit_and, sp_bs_bit hn6 _ (Nat.le_refl _) g (by omega), Bool.and_eq_true, Bool.and_eq_true] at hb
    have := of_decide_eq_true hb.2.2
    omega
  · rw [if_neg hb, if_neg hb], rfl⟩⟩
theorem sp_only_ok {V : sp_V} (hV : sp_ok V) {m : Nat} : sp_ok (sp_only V m) := ⟨hV.1, hV.2.1, hV.2.2.1, fun g hg => ⟨(hV.2.2.2 g hg).1, by
  show (if m.testBit g then 1 else 0) < 100
  by_cases h : m.testBit g = true
  · rw [if_pos h]; decide
  · rw [if_neg h]; decide, (hV.2.2.2 g hg).2.2⟩⟩
theorem sp_kg_and {V : sp_V} {eo : Nat → Nat} (hV : sp_ok V) (x : Nat) : sp_kg V eo (x &&& sp_bs V (sp_n V)) = sp_kg V eo x := by
  unfold sp_kg
  rw [sp_bits_sim (sp_ruin_ok hV) (sp_ruin_and hV.1)]
theorem sp_kg_all {V : sp_V} {eo : Nat → Nat} (hV : sp_ok V) (hO : sp_eok V eo) : sp_kg V eo (sp_bs V (sp_n V)) = true := by
  unfold sp_kg
  rw [sp_bits_sim (sp_ruin_ok hV) (sp_ruin_all hV.1)]
  exact decide_eq_true (sp_selfc _ (Nat.lt_trans (sp_bits_lt hV hO) (by decide)))
/-- the fewest to keep -/
def sp_kp (V : sp_V) (eo : Nat → Nat) : Nat := sp_mc (sp_kg V eo) (sp_bs V (sp_n V)) 64
theorem sp_kp_mn {V : sp_V} {eo : Nat → Nat} (hV : sp_ok V) (hO : sp_eok V eo) : sp_mn (sp_kg V eo) (2 ^ sp_n V) = some (sp_kp V eo) := sp_mn_mc hV.1 (sp_bs_pow _) (sp_kg_all hV hO) (fun x _ => sp_kg_and hV x)
theorem sp_mc_lt {p : Nat → Bool} {s : Nat} (hs : s < 64) : ∀ i, i ≤ 64 → sp_mc p s i < 64 := by
  intro i
  induction i with
  | zero => intro _; exact hs
  | succ i ih =>
    intro hi
    rw [sp_mc]
    split
    · omega
    · exact ih (by omega)
def sp_wso (V : sp_V) (so : Nat → Nat) : sp_V := (sp_n V, sp_y V, sp_h V, sp_sh V, so, sp_to V)
section KEEP
variable {d : Nat} {I : Nat → Nat → Int32} {J : Nat → Nat → Int64} {R : Nat → Nat → Option Nat} {Q : Option Value → ow_H → Prop} {V : sp_V}
theorem c_Serving_fewestKept {o : Nat} {eo : Nat → Nat} (hR : ow_RF R) (ho : o ∈ [3, 15, 29, 33, 47, 57]) (hS : sp_S I o V) (hV : sp_ok V) (hE : sp_EO I V eo) (hO : sp_eok V eo)
    (hQ : ∀ I2 : Nat → Nat → Int32, sp_eq [40, 41, 42, 43, 44, 45] I I2 → Q (some (.int (nI (sp_kp V eo)))) (85, I2, J, R)) : ow_AM M_Serving_fewestKept (d + 6) [.ref 39, .ref o] (85, I, J, R) Q := by
  have hn6 := hV.1
  obtain ⟨ho, hne, z0, z1, z2, z3⟩ := sp_nT o ho
  have hs64 := sp_bs_lt hn6 (sp_n V) (Nat.le_refl _)
  have hW := Nat.lt_trans (sp_bits_lt hV hO) (show 32 < 64 by decide)
  apply t_Serving_fewestKept ho hR
  refine c_Serving_bitsServed hR ho hS hV hE hO ?_
  intro I12 k0
  refine ⟨_, I12, J, R, rfl, rfl, hR, ?_⟩
  have hS12 := sp_S_fr ho hS (sp_frq (E := []) k0) (by decide) (by decide)
  refine c_Scene_bitsSound hR ho hS12 hV ⟨_, I12, J, R, rfl, rfl, hR, ?_⟩
  refine c_Scene_take hR (by decide) ho hne hS12 hn6 ?_
  intro I14 m0 m1
  refine ⟨I14, J, R, rfl, rfl, hR, ?_⟩
  have f14 : sp_eq [40, 41, 42, 43, 44, 45] I I14 := sp_eq_tr (sp_eq_mono k0 (by decide)) (sp_eq_mono m0 (by decide))
  refine sp_up (N := 64) (G := fun i I1 => ow_AW ow_Y0 (ow_Z Q) M_Serving_fewestKept (d + 6) 0 0 25 [(0, .ref 39), (2, .int (nI (sp_all V eo (2 * sp_n V)))), (3, .int (nI (sp_bs V (sp_n V)))), (4, .int (nI (sp_mc (sp_kg V eo) (sp_bs V (sp_n V)) i))), (5, .int (nI i))] [] (85, I1, J, R) 0 0) (Inv := fun _ I1 => sp_eq [40, 41, 42, 43, 44, 45] I I1 ∧ ∃ so, sp_ok (sp_wso V so) ∧ sp_S I1 42 (sp_wso V so)) ?_ ?_ 0 I14 (Nat.zero_le _) ⟨f14, sp_so V, hV, m1⟩
  · intro I1 ⟨he, _⟩
    apply t_Serving_fewestKept_25 ho hR
    exact ⟨fun _ => hQ I1 he, fun c => absurd (by decide) c⟩
  · intro i I1 hi ⟨he, so, hok, hs1⟩ ih
    have hbl := sp_mc_lt (p := sp_kg V eo) hs64 i (by omega)
    have l1 := sp_pc_le i hi
    have l2 := sp_pc_le _ hbl
    have kp : sp_mc (sp_kg V eo) (sp_bs V (sp_n V)) (i + 1) = sp_mc (sp_kg V eo) (sp_bs V (sp_n V)) i → ∀ I2 : Nat → Nat → Int32, (sp_eq [40, 41, 42, 43, 44, 45] I I2 ∧ ∃ so, sp_ok (sp_wso V so) ∧ sp_S I2 42 (sp_wso V so)) → ow_AW ow_Y0 (ow_Z Q) M_Serving_fewestKept (d + 6) 0 0 25 [(0, .ref 39), (2, .int (nI (sp_all V eo (2 * sp_n V)))), (3, .int (nI (sp_bs V (sp_n V)))), (4, .int (nI (sp_mc (sp_kg V eo) (sp_bs V (sp_n V)) i))), (5, .int (nI i + 1))] [] (85, I2, J, R) 0 0 := by
      intro e I2 h2
      have K := ih I2 h2
      rw [e, ← nI_1] at K
      exact K
    have ty : i &&& sp_bs V (sp_n V) = i → (sp_pc i < sp_pc (sp_mc (sp_kg V eo) (sp_bs V (sp_n V)) i) ∨ (sp_pc i = sp_pc (sp_mc (sp_kg V eo) (sp_bs V (sp_n V)) i) ∧ i < sp_mc (sp_kg V eo) (sp_bs V (sp_n V)) i)) → ow_AM M_Scene_standBy (d + 5) [.ref 42, .int (nI i)] (85, I1, J, R) (fun r h' => ∃ (I6 : Nat → Nat → Int32) (J6 : Nat → Nat → Int64) (R6 : Nat → Nat → Option Nat), r = none ∧ h' = (85, I6, J6, R6) ∧ ow_RF R6 ∧ (ow_AM M_Serving_bitsServed (d + 5) [.ref 39, .ref 42] (85, I6, J6, R6) (fun r h' => ∃ (r7 : Int32) (I7 : Nat → Nat → Int32) (J7 : Nat → Nat → Int64) (R7 : Nat → Nat → Option Nat), r = some (.int r7) ∧ h' = (85, I7, J7, R7) ∧ ow_RF R7 ∧ ((¬ (nI (sp_all V eo (2 * sp_n V)) &&& (r7 ^^^ (-1))) = 0 → ow_AW ow_Y0 (ow_Z Q) M_Serving_fewestKept (d + 6) 0 0 25 [(0, .ref 39), (2, .int (nI (sp_all V eo (2 * sp_n V)))), (3, .int (nI (sp_bs V (sp_n V)))), (4, .int (nI (sp_mc (sp_kg V eo) (sp_bs V (sp_n V)) i))), (5, .int (nI i + 1))] [] (85, I7, J7, R7) 0 0) ∧ ((nI (sp_all V eo (2 * sp_n V)) &&& (r7 ^^^ (-1))) = 0 → ow_AW ow_Y0 (ow_Z Q) M_Serving_fewestKept (d + 6) 0 0 25 [(0, .ref 39), (2, .int (nI (sp_all V eo (2 * sp_n V)))), (3, .int (nI (sp_bs V (sp_n V)))), (4, .int (nI i)), (5, .int (nI i + 1))] [] (85, I7, J7, R7) 0 0))))) := by
      intro hsub hfew
      refine c_Scene_standBy hR (by decide) hs1 hok hi ?_
      intro I6 q0 q1
      have q1 : sp_S I6 42 (sp_only V i) := q1
      refine ⟨I6, J, R, rfl, rfl, hR, ?_⟩
      have f6 : sp_eq [40, 41, 42, 43, 44, 45] I I6 := sp_eq_tr he (sp_eq_mono q0 (by decide))
      refine c_Serving_bitsServed hR (by decide) q1 (sp_only_ok hV) (fun g hg => by rw [f6 9 (by decide)]; exact hE g hg) hO ?_
      intro I7 q2
      refine ⟨_, I7, J, R, rfl, rfl, hR, ?_⟩
      have f7 : sp_eq [40, 41, 42, 43, 44, 45] I I7 := sp_eq_tr f6 (sp_eq_mono q2 (by decide))
      have s7 : sp_S I7 42 (sp_only V i) := sp_S_fr (by decide) q1 (sp_frq (E := []) q2) (by decide) (by decide)
      have inv7 : sp_eq [40, 41, 42, 43, 44, 45] I I7 ∧ ∃ so, sp_ok (sp_wso V so) ∧ sp_S I7 42 (sp_wso V so) := ⟨f7, (fun f => if i.testBit f then 1 else 0), sp_only_ok (m := i) hV, s7⟩
      have er : sp_all (sp_only V i) eo (2 * sp_n (sp_only V i)) = sp_bits (sp_ruin V i) eo := sp_bits_sim (sp_only_ok hV) (sp_only_ruin hn6 hsub)
      rw [er]
      refine ⟨fun c => kp ?_ I7 inv7, fun c => ?_⟩
      · have hk : ¬ sp_kg V eo i = true := fun q => c (of_decide_eq_true q)
        rw [sp_mc, if_neg (fun q => hk q.2.2)]
      · have hk : sp_kg V eo i = true := decide_eq_true c
        have K := ih I7 inv7
        rw [sp_mc, if_pos ⟨hsub, hfew, hk⟩, ← nI_1] at K
        exact K
    have hsb := sp_sub0 i hi (sp_bs V (sp_n V)) hs64
    have inv1 : sp_eq [40, 41, 42, 43, 44, 45] I I1 ∧ ∃ so, sp_ok (sp_wso V so) ∧ sp_S I1 42 (sp_wso V so) := ⟨he, so, hok, hs1⟩
    apply t_Serving_fewestKept_25 ho hR
    refine ⟨fun c => absurd c (nI_ge (b := 64) hi (by decide)), fun _ => ?_⟩
    refine c_bitCount hR hi ⟨_, I1, J, R, rfl, rfl, hR, ?_⟩
    refine c_bitCount hR hbl ⟨_, I1, J, R, rfl, rfl, hR, ?_⟩
    rw [hsb, nI_ltI (by omega) (by omega)]
    refine ⟨fun c => ⟨fun c2 => kp (by rw [sp_mc, if_neg (fun q => c2 q.1)]) I1 inv1, fun c2 => ty c2 (Or.inl c)⟩, fun c => ?_⟩
    refine c_bitCount hR hi ⟨_, I1, J, R, rfl, rfl, hR, ?_⟩
    refine c_bitCount hR hbl ⟨_, I1, J, R, rfl, rfl, hR, ?_⟩
    rw [nI_eq (by omega) (by omega), nI_leI (by omega) (by omega)]
    refine ⟨fun c2 => ?_, fun c2 => ⟨fun c3 => ?_, fun c3 => ⟨fun c4 => kp (by rw [sp_mc, if_neg (fun q => c4 q.1)]) I1 inv1, fun c4 => ty c4 (Or.inr ⟨c2, by omega⟩)⟩⟩⟩
    · have e : sp_mc (sp_kg V eo) (sp_bs V (sp_n V)) (i + 1) = sp_mc (sp_kg V eo) (sp_bs V (sp_n V)) i := by rw [sp_mc, if_neg (fun q => by have := q.2.1; omega)]
      exact ⟨fun _ => kp e I1 inv1, fun _ => kp e I1 inv1⟩
    · have e : sp_mc (sp_kg V eo) (sp_bs V (sp_n V)) (i + 1) = sp_mc (sp_kg V eo) (sp_bs V (sp_n V)) i := by rw [sp_mc, if_neg (fun q => by have := q.2.1; omega)]
      exact ⟨fun _ => kp e I1 inv1, fun _ => kp e I1 inv1⟩
theorem c_Mo_keepL {ne : Nat} {ef : Nat → Nat} (hR : ow_RF R) (hB : sp_MB I V ne ef) (hV : sp_ok V)
    (hQ : ∀ I2 : Nat → Nat → Int32, sp_fr sp_gS sp_gE I I2 → Q (some (.int (nI (sp_kp V (sp_eo ne ef))))) (85, I2, J, R)) : ow_AW ow_Y0 (ow_Z Q) M_Mo_keep (d + 7) 0 0 35 [(0, .ref 70), (1, .int (nI (sp_bits V (sp_eo ne ef)))), (2, .int (-2)), (3, .int 0)] [] (85, I, J, R) 0 0 := by
  have hn6 := hV.1
  have hO : sp_eok V (sp_eo ne ef) := sp_eo_ok hB.2.2.2.2.1
  have h64 : 2 ^ sp_n V ≤ 64 := Nat.pow_le_pow_right (n := 2) (by decide) hn6
  have hpos : 0 < 2 ^ sp_n V := Nat.pow_pos (by decide)
  obtain ⟨m1, m2⟩ := sp_all1 (sp_n V) (by omega)
  refine sp_up (N := 2 ^ sp_n V) (G := fun i I1 => ow_AW ow_Y0 (ow_Z Q) M_Mo_keep (d + 7) 0 0 35 [(0, .ref 70), (1, .int (nI (sp_bits V (sp_eo ne ef)))), (2, .int (sp_on (sp_mn (sp_kg V (sp_eo ne ef)) i))), (3, .int (nI i))] [] (85, I1, J, R) 0 0) (Inv := fun _ I1 => sp_fr sp_gS sp_gE I I1) ?_ ?_ 0 I (Nat.zero_le _) sp_fr_rf
  · intro I1 he
    have hB1 := sp_MB_k hB he
    apply t_Mo_keep_35 hR
    refine c_Mo_allFollies hR hB1.2.2.1 ⟨_, I1, J, R, rfl, rfl, hR, ?_⟩
    rw [m1]
    refine ⟨fun _ => ?_, fun c => absurd (nI_lt (by omega) (by omega)) c⟩
    rw [sp_kp_mn hV hO]
    exact hQ I1 he
  · intro i I1 hi he ih
    have hB1 := sp_MB_k hB he
    apply t_Mo_keep_35 hR
    refine c_Mo_allFollies hR hB1.2.2.1 ⟨_, I1, J, R, rfl, rfl, hR, ?_⟩
    rw [m1]
    refine ⟨fun c => absurd c (nI_nlt (by omega) (by omega)), fun _ => ?_⟩
    cases hm : sp_mn (sp_kg V (sp_eo ne ef)) i with
    | none =>
      refine ⟨fun _ => ?_, fun c => absurd (show sp_on none < 0 by decide) c⟩
      refine c_Mo_servedWithOnly hR hB1.1 hB1.2.1 hB1.2.2 hV (by omega) ?_
      intro I2 g0
      refine ⟨_, I2, J, R, rfl, rfl, hR, ?_⟩
      have K := ih I2 (sp_fr_tr he (sp_g2 g0))
      rw [sp_mn, hm] at K
      rw [nI_1]
      refine ⟨fun c => ?_, fun c => ?_⟩
      · have hk : ¬ sp_kg V (sp_eo ne ef) i = true := fun q => c (of_decide_eq_true q)
        dsimp only at K
        rw [if_neg hk] at K
        exact K
      · have hk : sp_kg V (sp_eo ne ef) i = true := decide_eq_true c
        dsimp only at K
        rw [if_pos hk] at K
        exact K
    | some b =>
      have hb := (sp_mn_lt _ b hm).1
      have l1 := sp_pc_le i (by omega)
      have l2 := sp_pc_le b (by omega)
      refine ⟨fun c => absurd c (nI_pos (by omega)), fun _ => ?_⟩
      refine c_Mo_ones hR (by omega) ⟨_, I1, J, R, rfl, rfl, hR, ?_⟩
      refine c_Mo_ones (m := b) hR (by omega) ⟨_, I1, J, R, rfl, rfl, hR, ?_⟩
      rw [nI_leI (by omega) (by omega), nI_1]
      refine ⟨fun c => ?_, fun c => ?_⟩
      · have K := ih I1 he
        rw [sp_mn, hm] at K
        dsimp only at K
        rw [if_neg (fun q => by omega)] at K
        exact K
      · refine c_Mo_servedWithOnly hR hB1.1 hB1.2.1 hB1.2.2 hV (by omega) ?_
        intro I2 g0
        refine ⟨_, I2, J, R, rfl, rfl, hR, ?_⟩
        have K := ih I2 (sp_fr_tr he (sp_g2 g0))
        rw [sp_mn, hm] at K
        dsimp only at K
        refine ⟨fun c2 => ?_, fun c2 => ?_⟩
        · have hk : ¬ sp_kg V (sp_eo ne ef) i = true := fun q => c2 (of_decide_eq_true q)
          rw [if_neg (fun q => hk q.2)] at K
          exact K
        · have hk : sp_kg V (sp_eo ne ef) i = true := decide_eq_true c2
          rw [if_pos ⟨by omega, hk⟩] at K
          exact K
end KEEP
