/-! Own rows: what letters serve, and Serving's loops over letters. -/
def sp_NS : List Nat := [0, 1, 2, 7, 8, 9, 10, 11, 12, 13, 14, 19, 20, 21, 22, 23, 24, 25, 26, 27, 28, 37, 38, 39, 40, 41, 46, 51, 52, 53, 54, 55, 56, 61, 62, 63, 64, 65, 66, 67, 68, 69, 70, 71, 72, 73, 74, 75, 76, 77, 78, 79, 80, 81, 82, 83, 84]
theorem sp_NS_ok : ∀ o ∈ [3, 15, 29, 33, 42, 47, 57], ∀ j, j < 4 → o + j ∉ sp_NS := by decide
theorem sp_frq {S : List Nat} {E : List (Nat × Nat)} {I I2 : Nat → Nat → Int32} (h : sp_eq S I I2) : sp_fr S E I I2 := fun a ha k _ => by rw [h a ha]
theorem sp_S_kr {I I2 : Nat → Nat → Int32} {o : Nat} {V : sp_V} (h : sp_S I o V) (h0 : I2 o = I o) (h1 : I2 (o + 1) = I (o + 1)) (h2 : I2 (o + 2) = I (o + 2)) (h3 : I2 (o + 3) = I (o + 3)) : sp_S I2 o V := by
  unfold sp_S at h ⊢
  rw [h0, h1, h2, h3]
  exact h
theorem sp_S_fr {S : List Nat} {E : List (Nat × Nat)} {I I2 : Nat → Nat → Int32} {o : Nat} {V : sp_V} (ho : o ∈ [3, 15, 29, 33, 42, 47, 57]) (h : sp_S I o V) (hf : sp_fr S E I I2) (hs : ∀ a ∈ S, a ∈ sp_NS) (he : ∀ q ∈ E, q.1 ∈ sp_NS) : sp_S I2 o V := by
  have K : ∀ j, j < 4 → I2 (o + j) = I (o + j) := fun j hj => sp_fr_row hf (fun q => sp_NS_ok o ho j hj (hs _ q)) (fun k q => sp_NS_ok o ho j hj (he _ q))
  exact sp_S_kr h (K 0 (by decide)) (K 1 (by decide)) (K 2 (by decide)) (K 3 (by decide))
/-- a loop that counts up: the goal at i, what holds at i -/
theorem sp_up {N : Nat} {σ : Type} {G : Nat → σ → Prop} {Inv : Nat → σ → Prop} (hend : ∀ s, Inv N s → G N s) (hstep : ∀ i s, i < N → Inv i s → (∀ s2, Inv (i + 1) s2 → G (i + 1) s2) → G i s) : ∀ i s, i ≤ N → Inv i s → G i s := by
  have K : ∀ k i s, i + k = N → Inv i s → G i s := by
    intro k
    induction k with
    | zero =>
      intro i s h hI
      have e : i = N := by omega
      subst e
      exact hend s hI
    | succ k ih =>
      intro i s h hI
      exact hstep i s (by omega) hI (fun s2 h2 => ih (i + 1) s2 (by omega) h2)
  intro i s hi hI
  exact K (N - i) i s (by omega) hI
theorem sp_or2 : ∀ a, a < 64 → ∀ b, b < 64 → (nI a ||| nI b = nI (a ||| b) ∧ a ||| b < 64) := by decide +kernel
/-- a letter's way by its number -/
def sp_gl (V : sp_V) (l : Nat) : List Nat × Nat × Option (Nat × Bool) := sp_go V 6 0 (l / 2) (decide (l % 2 = 1))
def sp_svo (eo : Nat → Nat) : Option (Nat × Bool) → Nat
  | some (g, true) => eo g
  | _ => 0
def sp_sv (V : sp_V) (eo : Nat → Nat) (l : Nat) : Nat := sp_svo eo (sp_gl V l).2.2
def sp_all (V : sp_V) (eo : Nat → Nat) : Nat → Nat
  | 0 => 0
  | l + 1 => sp_all V eo l ||| sp_sv V eo l
/-- estates of a folly, as bits, laid at the cell 9 -/
def sp_eok (V : sp_V) (eo : Nat → Nat) : Prop := ∀ g, g < sp_n V → eo g < 32
def sp_EO (I : Nat → Nat → Int32) (V : sp_V) (eo : Nat → Nat) : Prop := ∀ g, g < sp_n V → I 9 g = nI (eo g)
theorem sp_go_in {V : sp_V} (hV : sp_ok V) : ∀ (k m f : Nat) (b : Bool), f < sp_n V → (∀ g c, (sp_go V k m f b).2.2 = some (g, c) → g < sp_n V) ∧ (∀ g ∈ (sp_go V k m f b).1, g < sp_n V) ∧ (sp_go V k m f b).1.length ≤ k ∧ (sp_go V k m f b).2.1 ≤ k := by
  intro k
  induction k with
  | zero =>
    intro m f b hf
    rw [sp_go]
    exact ⟨fun g c h => (by cases h), fun g h => (by cases h), Nat.le_refl _, Nat.le_refl _⟩
  | succ k ih =>
    intro m f b hf
    rw [sp_go]
    by_cases hb : m.testBit f
    · rw [if_pos hb]
      exact ⟨fun g c h => (by cases h), fun g h => (by cases h), Nat.zero_le _, Nat.zero_le _⟩
    · rw [if_neg hb]
      cases hr : sp_rep V f b with
      | none =>
        refine ⟨fun g c h => (by cases h), fun g h => ?_, ?_, Nat.zero_le _⟩
        · rw [List.mem_singleton.mp h]; exact hf
        · show 1 ≤ k + 1; omega
      | some c =>
        dsimp only
        by_cases ht : sp_to V f = 0
        · rw [if_pos ht]
          refine ⟨fun g c2 h => ?_, fun g h => ?_, ?_, ?_⟩
          · injection h with h
            injection h with h1 h2
            rw [← h1]; exact hf
          · rw [List.mem_singleton.mp h]; exact hf
          · show 1 ≤ k + 1; omega
          · show 1 ≤ k + 1; omega
        · rw [if_neg ht]
          have hto := (hV.2.2.2 f hf).2.2
          obtain ⟨i1, i2, i3, i4⟩ := ih (m ||| 2 ^ f) (sp_to V f - 1) c (by omega)
          refine ⟨i1, fun g h => ?_, ?_, ?_⟩
          · rcases List.mem_cons.mp h with h | h
            · rw [h]; exact hf
            · exact i2 g h
          · show _ + 1 ≤ k + 1; omega
          · show _ + 1 ≤ k + 1; omega
theorem sp_gl_in {V : sp_V} (hV : sp_ok V) {l : Nat} (hl : l < 2 * sp_n V) : (∀ g c, (sp_gl V l).2.2 = some (g, c) → g < sp_n V) ∧ (∀ g ∈ (sp_gl V l).1, g < sp_n V) ∧ (sp_gl V l).1.length ≤ 6 ∧ (sp_gl V l).2.1 ≤ 6 := sp_go_in hV 6 0 (l / 2) _ (by omega)
theorem sp_sv_lt {V : sp_V} {eo : Nat → Nat} (hV : sp_ok V) (hE : sp_eok V eo) {l : Nat} (hl : l < 2 * sp_n V) : sp_sv V eo l < 32 := by
  unfold sp_sv
  cases hg : (sp_gl V l).2.2 with
  | none => exact (by decide : 0 < 32)
  | some q =>
    obtain ⟨g, c⟩ := q
    cases c with
    | false => exact (by decide : 0 < 32)
    | true => exact hE g ((sp_gl_in hV hl).1 g true hg)
theorem sp_all_lt {V : sp_V} {eo : Nat → Nat} (hV : sp_ok V) (hE : sp_eok V eo) : ∀ k, k ≤ 2 * sp_n V → sp_all V eo k < 32 := by
  intro k
  induction k with
  | zero => intro _; exact (by decide : 0 < 32)
  | succ k ih =>
    intro hk
    show sp_all V eo k ||| sp_sv V eo k < 2 ^ 5
    exact Nat.or_lt_two_pow (ih (by omega)) (sp_sv_lt hV hE (by omega))
theorem sp_half {l : Nat} (hl : l < 2147483648) : nI l >>> ((1 : Int32) &&& 31) = nI (l / 2) := pk_shrN hl _ 1 (by decide)
theorem sp_low {l : Nat} (hl : l < 2147483648) : nI l &&& 1 = nI (l % 2) := pk_andN (by omega) 1 (by decide)
theorem c_Serving_bitsServedBy {d : Nat} {I : Nat → Nat → Int32} {J : Nat → Nat → Int64} {R : Nat → Nat → Option Nat} {Q : Option Value → ow_H → Prop} {o l : Nat} {V : sp_V} {eo : Nat → Nat} (hR : ow_RF R) (ho : o ∈ [3, 15, 29, 33, 42, 47, 57]) (hS : sp_S I o V) (hV : sp_ok V) (hE : sp_EO I V eo) (hl : l < 2 * sp_n V)
    (hQ : ∀ I2 : Nat → Nat → Int32, sp_eq [40, 41] I I2 → I2 40 2 = nI (sp_gl V l).2.1 → Q (some (.int (nI (sp_sv V eo l)))) (85, I2, J, R)) : ow_AM M_Serving_bitsServedBy (d + 3) [.ref 39, .ref o, .int (nI l)] (85, I, J, R) Q := by
  have hn6 := hV.1
  apply t_Serving_bitsServedBy ho hR
  rw [sp_low (by omega), sp_half (by omega)]
  have K : ∀ (x : Int32), x = sp_jb (decide (l % 2 = 1)) → ow_AM M_Course_run (d + 2) [.ref 40, .ref o, .int (nI (l / 2)), .int x] (85, I, J, R) (fun r h' => ∃ (I3 : Nat → Nat → Int32) (J3 : Nat → Nat → Int64) (R3 : Nat → Nat → Option Nat), r = none ∧ h' = (85, I3, J3, R3) ∧ ow_RF R3 ∧ ((¬ (I3 40 4) = 1 → Q (some (.int 0)) (85, I3, J3, R3)) ∧ ((I3 40 4) = 1 → (ow_AM M_Scene_has (d + 2) [.ref o, .int (I3 40 3)] (85, I3, J3, R3) (fun r h' => ∃ (r6 : Int32) (I6 : Nat → Nat → Int32) (J6 : Nat → Nat → Int64) (R6 : Nat → Nat → Option Nat), r = some (.int r6) ∧ h' = (85, I6, J6, R6) ∧ ow_RF R6 ∧ ((r6 = 0 → Q (some (.int 0)) (85, I6, J6, R6)) ∧ (¬ r6 = 0 → (vp_in (I6 40 3) 6 ∧ Q (some (.int (I6 9 (I6 40 3).toNatClampNeg))) (85, I6, J6, R6)))))))))  := by
    intro x hx
    refine c_Course_run hR (by decide) ho hS hV (by omega) hx ?_
    intro I2 g0 g1 g2 g3 g4 g5
    refine ⟨I2, J, R, rfl, rfl, hR, ?_⟩
    have hq := hQ I2 g0 g2
    unfold sp_sv at hq
    have hin := (sp_gl_in hV hl).1
    unfold sp_gl at hq hin
    rw [g3, g4]
    cases hg : (sp_go V 6 0 (l / 2) (decide (l % 2 = 1))).2.2 with
    | none =>
      rw [hg] at hq
      exact ⟨fun _ => hq, fun c => absurd c (by decide)⟩
    | some q =>
      obtain ⟨g, c⟩ := q
      rw [hg] at hq
      have hgl := hin g c hg
      cases c with
      | false => exact ⟨fun _ => hq, fun c => absurd c (show ¬ sp_jb false = 1 by decide)⟩
      | true =>
        refine ⟨fun c => absurd rfl c, fun _ => ?_⟩
        have hS2 := sp_S_fr ho hS (sp_frq (E := []) g0) (by decide) (by decide)
        show ow_AM M_Scene_has (d + 2) [.ref o, .int (nI g)] (85, I2, J, R) _
        refine c_Scene_has hR ho hS2.1 hn6 hgl ⟨_, I2, J, R, rfl, rfl, hR, fun c => absurd c (by decide), fun _ => ?_⟩
        rw [g3, hg]
        show vp_in (nI g) 6 ∧ Q (some (.int (I2 9 (nI g).toNatClampNeg))) _
        refine ⟨vp_in_nI (by omega) (by decide), ?_⟩
        rw [sp_cl (by omega), g0 9 (by decide), hE g hgl]
        exact hq
  rcases Nat.mod_two_eq_zero_or_one l with h2 | h2
  · rw [h2]
    exact ⟨fun _ => K 0 (by rw [h2]; rfl), fun c => absurd rfl c⟩
  · rw [h2]
    exact ⟨fun c => absurd c (by decide), fun _ => K 1 (by rw [h2]; rfl)⟩
theorem sp_EO_fr {S : List Nat} {E : List (Nat × Nat)} {I I2 : Nat → Nat → Int32} {V : sp_V} {eo : Nat → Nat} (h : sp_EO I V eo) (hf : sp_fr S E I I2) (h1 : 9 ∉ S) (h2 : ∀ k, (9, k) ∉ E) : sp_EO I2 V eo := by
  unfold sp_EO at h ⊢
  rw [sp_fr_row hf h1 h2]
  exact h
theorem sp_2n {n : Nat} : (2 : Int32) * nI n = nI (2 * n) := pk_mul 2 n
theorem c_Serving_bitsServed {d : Nat} {I : Nat → Nat → Int32} {J : Nat → Nat → Int64} {R : Nat → Nat → Option Nat} {Q : Option Value → ow_H → Prop} {o : Nat} {V : sp_V} {eo : Nat → Nat} (hR : ow_RF R) (ho : o ∈ [3, 15, 29, 33, 42, 47, 57]) (hS : sp_S I o V) (hV : sp_ok V) (hE : sp_EO I V eo) (hO : sp_eok V eo)
    (hQ : ∀ I2 : Nat → Nat → Int32, sp_eq [40, 41] I I2 → Q (some (.int (nI (sp_all V eo (2 * sp_n V))))) (85, I2, J, R)) : ow_AM M_Serving_bitsServed (d + 4) [.ref 39, .ref o] (85, I, J, R) Q := by
  have hn6 := hV.1
  apply t_Serving_bitsServed ho hR
  refine sp_up (N := 2 * sp_n V) (G := fun i I1 => ow_AW ow_Y0 (ow_Z Q) M_Serving_bitsServed (d + 4) 0 0 4 [(0, .ref 39), (1, .ref o), (2, .int (nI (sp_all V eo i))), (3, .int (nI i))] [] (85, I1, J, R) 0 0) (Inv := fun _ I1 => sp_eq [40, 41] I I1) ?_ ?_ 0 I (Nat.zero_le _) sp_eq_rf
  · intro I1 he
    have hS1 := sp_S_fr ho hS (sp_frq (E := []) he) (by decide) (by decide)
    apply t_Serving_bitsServed_4 ho hR
    rw [hS1.1, sp_2n]
    exact ⟨fun _ => hQ I1 he, fun c => absurd (Int32.le_refl _) c⟩
  · intro i I1 hi he ih
    have hS1 := sp_S_fr ho hS (sp_frq (E := []) he) (by decide) (by decide)
    have hE1 := sp_EO_fr hE (sp_frq (E := []) he) (by decide) (by simp)
    apply t_Serving_bitsServed_4 ho hR
    rw [hS1.1, sp_2n]
    refine ⟨fun c => absurd c (nI_ge hi (by omega)), fun _ => ?_⟩
    refine c_Serving_bitsServedBy hR ho hS1 hV hE1 hi ?_
    intro I2 g0 _
    refine ⟨_, I2, J, R, rfl, rfl, hR, ?_⟩
    rw [(sp_or2 _ (Nat.lt_trans (sp_all_lt hV hO i (by omega)) (by decide)) _ (Nat.lt_trans (sp_sv_lt hV hO hi) (by decide))).1, nI_1]
    exact ih I2 (sp_eq_tr he g0)
