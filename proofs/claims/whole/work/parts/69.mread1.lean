/-! Own rows: the reference's steps. -/
def sp_fE : List (Nat × Nat) := [(70, 4), (70, 5), (70, 6), (70, 7), (70, 8), (70, 9), (70, 10), (70, 13)]
def sp_fS : List Nat := [72, 74, 76]
/-- a fault was met -/
def md (e : Nat × Nat) (I : Nat → Nat → Int32) : Prop := I 70 13 = 1 ∧ I 70 9 = nI e.1 ∧ I 70 10 = nI e.2
theorem md_k {e : Nat × Nat} {I I2 : Nat → Nat → Int32} (h : md e I) (h1 : I2 70 = I 70) : md e I2 := by
  unfold md at h ⊢
  rw [h1]
  exact h
theorem sp_fEt {I I2 : Nat → Nat → Int32} (h : sp_fr [72] tk_E I I2) : sp_fr [72] sp_fE I I2 := sp_fr_mono h (by decide) (by decide)
theorem sp_fE2 {I I2 : Nat → Nat → Int32} (h : sp_fr [72] sp_fE I I2) : sp_fr sp_fS sp_fE I I2 := sp_fr_mono h (by decide) (fun q hq => Or.inl hq)
/-- the names, as the reference has them -/
def nM (I : Nat → Nat → Int32) (m : Nat → List Nat) : Prop := ∀ i, i < 11 → I 74 (47 + i) = nI (m i).length ∧ (m i).length ≤ 8 ∧ ∀ k, k < (m i).length → I 74 (58 + 8 * i + k) = nI ((m i).getD k 0) ∧ (m i).getD k 0 ≤ 122
theorem nM_k {I I2 : Nat → Nat → Int32} {m : Nat → List Nat} (h : nM I m) (h1 : ∀ j, 47 ≤ j → I2 74 j = I 74 j) : nM I2 m := fun i hi => ⟨by rw [h1 _ (by omega)]; exact (h i hi).1, (h i hi).2.1, fun k hk => ⟨by rw [h1 _ (by omega)]; exact ((h i hi).2.2 k hk).1, ((h i hi).2.2 k hk).2⟩⟩
def pr_fh (X : sp_Tx) (D : sp_D) (p : Nat) : sp_E Nat := if tk_k X p = 1 ∧ pr_line X p = 0 then (match pr_fn X D p with
    | none => er X 2 p
    | some f => .inr f) else er X 1 p
theorem pr_fol_fh {X : sp_Tx} {D : sp_D} {bar p : Nat} : pr_fol X D bar p = bd (pr_fh X D p) (fun f => if bar.testBit f = true then er X 3 p else .inr (f, tk_n X p)) := by
  unfold pr_fol pr_fh
  by_cases c : tk_k X p = 1 ∧ pr_line X p = 0
  · rw [if_pos c, if_pos c]
    cases h : pr_fn X D p with
    | none => rfl
    | some f => rfl
  · rw [if_neg c, if_neg c]; rfl
theorem tk_r1 {k : Nat} (h : k < 5) : tk_r k = 2 ↔ k = 1 := by
  have h6 : k = 0 ∨ k = 1 ∨ k = 2 ∨ k = 3 ∨ k = 4 := by omega
  rcases h6 with rfl | rfl | rfl | rfl | rfl <;> decide
theorem tk_r2 {k : Nat} (h : k < 5) : tk_r k = 3 ↔ k = 2 := by
  have h6 : k = 0 ∨ k = 1 ∨ k = 2 ∨ k = 3 ∨ k = 4 := by omega
  rcases h6 with rfl | rfl | rfl | rfl | rfl <;> decide
theorem tk_r3 {k : Nat} (h : k < 5) : tk_r k = 59 ↔ k = 3 := by
  have h6 : k = 0 ∨ k = 1 ∨ k = 2 ∨ k = 3 ∨ k = 4 := by omega
  rcases h6 with rfl | rfl | rfl | rfl | rfl <;> decide
theorem tk_r0 {k : Nat} (h : k < 5) : tk_r k = 0 ↔ k = 0 := by
  have h6 : k = 0 ∨ k = 1 ∨ k = 2 ∨ k = 3 ∨ k = 4 := by omega
  rcases h6 with rfl | rfl | rfl | rfl | rfl <;> decide
section MREAD1
variable {d : Nat} {I : Nat → Nat → Int32} {J : Nat → Nat → Int64} {R : Nat → Nat → Option Nat} {Q : Option Value → ow_H → Prop} {X : sp_Tx} {p : Nat} {D : sp_D}
theorem c_Mo_wrong {k : Nat} (hR : ow_RF R) (hf : I 70 13 = 0) (hM : tM I X p) (hQ : ∀ I2 : Nat → Nat → Int32, sp_fr [72] sp_fE I I2 → md (k, tk_a X p) I2 → I2 74 = I 74 → I2 76 = I 76 → Q none (85, I2, J, R)) : ow_AM M_Mo_wrong (d + 1) [.ref 70, .int (nI k), .int (I 70 4)] (85, I, J, R) Q := by
  apply t_Mo_wrong hR
  rw [hf, hM.2.1]
  refine ⟨fun _ I4 e4 I5 e5 I6 e6 => ?_, fun c => absurd rfl c⟩
  refine hQ I6 (sp_fr_tr (sp_fr_tr (sp_fr_ue e4 (by decide)) (sp_fr_ue e5 (by decide))) (sp_fr_ue e6 (by decide))) ⟨?_, ?_, ?_⟩ (by rw [e6, ow_u_ne (by decide), e5, ow_u_ne (by decide), e4, ow_u_ne (by decide)]) (by rw [e6, ow_u_ne (by decide), e5, ow_u_ne (by decide), e4, ow_u_ne (by decide)])
  · rw [e6, ow_u_nk (by decide), e5, ow_u_nk (by decide), e4, ow_u_at]
  · rw [e6, ow_u_nk (by decide), e5, ow_u_at]
  · rw [e6, ow_u_at]
theorem c_Mo_wrong_d {a b : Int32} (hR : ow_RF R) (hf : I 70 13 = 1) (hQ : Q none (85, I, J, R)) : ow_AM M_Mo_wrong (d + 1) [.ref 70, .int a, .int b] (85, I, J, R) Q := by
  apply t_Mo_wrong hR
  rw [hf]
  exact ⟨fun c => absurd c (by decide), fun _ => hQ⟩
theorem c_nxt (hR : ow_RF R) (hX : tk_ok X) (hp : p ≤ X.1) (hM : tM I X p) (hQ : ∀ I2 : Nat → Nat → Int32, sp_fr [72] tk_E I I2 → tM I2 X (tk_n X p) → Q none (85, I2, J, R)) : ow_AM M_Mo_next (d + 2) [.ref 70] (85, I, J, R) Q := c_Mo_next hR hX (tk_n_le hp) hM.1 hM.2.2.1 hM.2.2.2.2.2.2.2.1 hM.2.2.2.2.2.2.2.2 hQ
theorem c_Mo_takesWord {i : Nat} (hR : ow_RF R) (hX : tk_ok X) (hi : i < 19) (hp : p ≤ X.1) (hf : I 70 13 = 0) (hM : tM I X p) (hN : tk_is X p i = false → Q (some (.int 0)) (85, I, J, R)) (hO : tk_is X p i = true → ∀ I2 : Nat → Nat → Int32, sp_fr [72] sp_fE I I2 → I2 70 13 = 0 → tM I2 X (tk_n X p) → Q (some (.int 1)) (85, I2, J, R)) : ow_AM M_Mo_takesWord (d + 6) [.ref 70, .ref (1000 + i)] (85, I, J, R) Q := by
  apply t_Mo_takesWord hi hR
  refine c_Mo_isWord hR hi hf hM ⟨_, I, J, R, rfl, rfl, hR, ?_⟩
  cases hb : tk_is X p i with
  | false => exact ⟨fun c => absurd rfl c, fun _ => hN hb⟩
  | true =>
    refine ⟨fun _ => ?_, fun c => absurd c (by decide)⟩
    refine c_nxt hR hX hp hM ?_
    intro I2 f2 h2
    exact ⟨I2, J, R, rfl, rfl, hR, hO hb I2 (sp_fEt f2) (by rw [f2 70 (by decide) 13 (by decide)]; exact hf) h2⟩
theorem c_Mo_takesWord_d {i : Nat} (hR : ow_RF R) (hi : i < 19) (hf : I 70 13 = 1) (hQ : Q (some (.int 0)) (85, I, J, R)) : ow_AM M_Mo_takesWord (d + 2) [.ref 70, .ref (1000 + i)] (85, I, J, R) Q := by
  apply t_Mo_takesWord hi hR
  exact c_Mo_isWord_d hR hi hf ⟨_, I, J, R, rfl, rfl, hR, fun c => absurd rfl c, fun _ => hQ⟩
theorem c_Mo_must {i : Nat} (hR : ow_RF R) (hX : tk_ok X) (hi : i < 19) (hp : p ≤ X.1) (hf : I 70 13 = 0) (hM : tM I X p) (hF : ∀ q, pr_word X i p = .inl q → ∀ I2 : Nat → Nat → Int32, sp_fr [72] sp_fE I I2 → md q I2 → Q none (85, I2, J, R)) (hO : ∀ p2, pr_word X i p = .inr p2 → ∀ I2 : Nat → Nat → Int32, sp_fr [72] sp_fE I I2 → I2 70 13 = 0 → tM I2 X p2 → Q none (85, I2, J, R)) : ow_AM M_Mo_must (d + 7) [.ref 70, .ref (1000 + i)] (85, I, J, R) Q := by
  apply t_Mo_must hi hR
  rw [hf]
  unfold pr_word at hF hO
  refine ⟨fun c => absurd rfl c, fun _ => ?_⟩
  refine c_Mo_takesWord hR hX hi hp hf hM ?_ ?_
  · intro hb
    rw [hb, if_neg (by decide)] at hF
    refine ⟨_, I, J, R, rfl, rfl, hR, fun c => absurd rfl c, fun _ => ?_⟩
    refine c_Mo_wrong (k := 1) hR hf hM ?_
    intro I2 f2 h2 _ _
    exact ⟨I2, J, R, rfl, rfl, hR, hF _ rfl I2 f2 h2⟩
  · intro hb I2 f2 g2 h2
    rw [hb, if_pos rfl] at hO
    exact ⟨_, I2, J, R, rfl, rfl, hR, fun _ => hO _ rfl I2 f2 g2 h2, fun c => absurd c (by decide)⟩
theorem c_Mo_must_d {i : Nat} (hR : ow_RF R) (hi : i < 19) (hf : I 70 13 = 1) (hQ : Q none (85, I, J, R)) : ow_AM M_Mo_must (d + 1) [.ref 70, .ref (1000 + i)] (85, I, J, R) Q := by
  apply t_Mo_must hi hR
  rw [hf]
  exact ⟨fun _ => hQ, fun c => absurd c (by decide)⟩
theorem c_Mo_pass (hR : ow_RF R) (hX : tk_ok X) (hp : p ≤ X.1) (hf : I 70 13 = 0) (hM : tM I X p) (hO : ∀ I2 : Nat → Nat → Int32, sp_fr [72] sp_fE I I2 → I2 70 13 = 0 → tM I2 X (tk_n X p) → Q none (85, I2, J, R)) : ow_AM M_Mo_pass (d + 3) [.ref 70] (85, I, J, R) Q := by
  apply t_Mo_pass hR
  rw [hf]
  refine ⟨fun c => absurd rfl c, fun _ => ?_⟩
  refine c_nxt hR hX hp hM ?_
  intro I2 f2 h2
  exact ⟨I2, J, R, rfl, rfl, hR, hO I2 (sp_fEt f2) (by rw [f2 70 (by decide) 13 (by decide)]; exact hf) h2⟩
theorem c_Mo_pass_d (hR : ow_RF R) (hf : I 70 13 = 1) (hQ : Q none (85, I, J, R)) : ow_AM M_Mo_pass (d + 1) [.ref 70] (85, I, J, R) Q := by
  apply t_Mo_pass hR
  rw [hf]
  exact ⟨fun _ => hQ, fun c => absurd c (by decide)⟩
theorem c_Mo_number {m : Nat} (hR : ow_RF R) (hX : tk_ok X) (hm : m ≤ 100) (hp : p ≤ X.1) (hf : I 70 13 = 0) (hM : tM I X p) (hF : ∀ q, pr_whole X m p = .inl q → ∀ I2 : Nat → Nat → Int32, sp_fr [72] sp_fE I I2 → md q I2 → Q (some (.int 0)) (85, I2, J, R)) (hO : ∀ q, pr_whole X m p = .inr q → ∀ I2 : Nat → Nat → Int32, sp_fr [72] sp_fE I I2 → I2 70 13 = 0 → tM I2 X q.2 → Q (some (.int (nI q.1))) (85, I2, J, R)) : ow_AM M_Mo_number (d + 3) [.ref 70, .int 0, .int (nI m)] (85, I, J, R) Q := by
  have hk4 := tk_k4 (X := X) (p := p)
  apply t_Mo_number hR
  rw [hf, hM.2.2.2.1, tk_r2 hk4]
  unfold pr_whole at hF hO
  refine ⟨fun _ => ⟨fun c => ?_, fun c => ?_⟩, fun c => absurd rfl c⟩
  · rw [if_pos c] at hF hO
    have hv := tk_v_lt c
    have h7 := hM.2.2.2.2.2.2.1 c
    rw [h7]
    refine c_Mo_inG (a := 0) (b := m) hR (by decide) (by omega) ⟨_, I, J, R, rfl, rfl, hR, ?_⟩
    by_cases c2 : tk_v X p ≤ m
    · rw [if_pos c2] at hO
      rw [sp_bt_of (Nat.zero_le _) c2 (by omega)]
      refine ⟨fun _ => ?_, fun z => absurd z (by decide)⟩
      rw [hf]
      refine ⟨fun _ => ?_, fun z => absurd rfl z⟩
      refine c_nxt hR hX hp hM ?_
      intro I2 f2 h2
      refine ⟨I2, J, R, rfl, rfl, hR, ?_⟩
      rw [h7]
      exact hO _ rfl I2 (sp_fEt f2) (by rw [f2 70 (by decide) 13 (by decide)]; exact hf) h2
    · rw [if_neg c2] at hF
      rw [show sp_bt (nI (tk_v X p)) 0 m = false from decide_eq_false (fun z => by rw [nI_toInt (by omega)] at z; omega)]
      refine ⟨fun z => absurd rfl z, fun _ => ?_⟩
      refine c_Mo_wrong (k := 4) hR hf hM ?_
      intro I2 f2 h2 _ _
      refine ⟨I2, J, R, rfl, rfl, hR, ?_⟩
      rw [h2.1]
      exact ⟨fun z => absurd z (by decide), fun _ => hF _ rfl I2 f2 h2⟩
  · rw [if_neg c] at hF
    refine c_Mo_wrong (k := 1) hR hf hM ?_
    intro I2 f2 h2 _ _
    refine ⟨I2, J, R, rfl, rfl, hR, ?_⟩
    rw [h2.1]
    exact ⟨fun z => absurd z (by decide), fun _ => hF _ rfl I2 f2 h2⟩
theorem c_Mo_number_d {b : Int32} (hR : ow_RF R) (hf : I 70 13 = 1) (hQ : Q (some (.int 0)) (85, I, J, R)) : ow_AM M_Mo_number (d + 1) [.ref 70, .int 0, .int b] (85, I, J, R) Q := by
  apply t_Mo_number hR
  rw [hf]
  exact ⟨fun c => absurd c (by decide), fun _ => hQ⟩
theorem c_Mo_after {i m : Nat} (hR : ow_RF R) (hX : tk_ok X) (hi : i < 19) (hm : m ≤ 100) (hp : p ≤ X.1) (hf : I 70 13 = 0) (hM : tM I X p) (hF : ∀ q, bd (pr_word X i p) (fun p1 => pr_whole X m p1) = .inl q → ∀ I2 : Nat → Nat → Int32, sp_fr [72] sp_fE I I2 → md q I2 → Q (some (.int 0)) (85, I2, J, R)) (hO : ∀ p1 q, pr_word X i p = .inr p1 → pr_whole X m p1 = .inr q → ∀ I2 : Nat → Nat → Int32, sp_fr [72] sp_fE I I2 → I2 70 13 = 0 → tM I2 X q.2 → Q (some (.int (nI q.1))) (85, I2, J, R)) : ow_AM M_Mo_after (d + 8) [.ref 70, .ref (1000 + i), .int 0, .int (nI m)] (85, I, J, R) Q := by
  apply t_Mo_after hi hR
  refine c_Mo_must hR hX hi hp hf hM ?_ ?_
  · intro q hq I2 f2 h2
    refine ⟨I2, J, R, rfl, rfl, hR, ?_⟩
    exact c_Mo_number_d hR h2.1 ⟨_, I2, J, R, rfl, rfl, hR, hF q (bd_l hq) I2 f2 h2⟩
  · intro p2 hp2 I2 f2 g2 h2
    refine ⟨I2, J, R, rfl, rfl, hR, ?_⟩
    refine c_Mo_number hR hX hm (pr_word_le hp hp2).2 g2 h2 ?_ ?_
    · intro q hq I3 f3 h3
      exact ⟨_, I3, J, R, rfl, rfl, hR, hF q (by rw [bd_r hp2]; exact hq) I3 (sp_fr_tr f2 f3) h3⟩
    · intro q hq I3 f3 g3 h3
      exact ⟨_, I3, J, R, rfl, rfl, hR, hO p2 q hp2 hq I3 (sp_fr_tr f2 f3) g3 h3⟩
theorem c_Mo_after_d {i : Nat} {b : Int32} (hR : ow_RF R) (hi : i < 19) (hf : I 70 13 = 1) (hQ : Q (some (.int 0)) (85, I, J, R)) : ow_AM M_Mo_after (d + 2) [.ref 70, .ref (1000 + i), .int 0, .int b] (85, I, J, R) Q := by
  apply t_Mo_after hi hR
  refine c_Mo_must_d hR hi hf ⟨I, J, R, rfl, rfl, hR, ?_⟩
  exact c_Mo_number_d hR hf ⟨_, I, J, R, rfl, rfl, hR, hQ⟩
theorem c_Mo_say (hR : ow_RF R) (hX : tk_ok X) (hp : p ≤ X.1) (hf : I 70 13 = 0) (hM : tM I X p) (hF : ∀ q, pr_ans X false p = .inl q → ∀ I2 : Nat → Nat → Int32, sp_fr [72] sp_fE I I2 → md q I2 → Q (some (.int 0)) (85, I2, J, R)) (hO : ∀ q, pr_ans X false p = .inr q → ∀ I2 : Nat → Nat → Int32, sp_fr [72] sp_fE I I2 → I2 70 13 = 0 → tM I2 X q.2 → Q (some (.int (sp_jo q.1))) (85, I2, J, R)) : ow_AM M_Mo_say (d + 8) [.ref 70] (85, I, J, R) Q := by
  apply t_Mo_say hR
  unfold pr_ans at hF hO
  refine c_Mo_takesWord (i := 16) hR hX (by decide) hp hf hM ?_ ?_
  · intro hb
    rw [hb, if_neg (by decide)] at hF hO
    refine ⟨_, I, J, R, rfl, rfl, hR, fun _ => ?_, fun c => absurd rfl c⟩
    refine c_Mo_must (i := 17) hR hX (by decide) hp hf hM ?_ ?_
    · intro q hq I2 f2 h2
      unfold pr_word at hq
      cases h17 : tk_is X p 17 with
      | true => rw [h17, if_pos rfl] at hq; cases hq
      | false =>
        rw [h17, if_neg (by decide), if_neg (fun z => by cases z.1)] at hF
        rw [h17, if_neg (by decide)] at hq
        have hq2 : (1, tk_a X p) = q := Sum.inl.inj hq
        rw [← hq2] at h2
        exact ⟨I2, J, R, rfl, rfl, hR, hF _ rfl I2 f2 h2⟩
    · intro p2 hq I2 f2 g2 h2
      unfold pr_word at hq
      cases h17 : tk_is X p 17 with
      | true =>
        rw [h17, if_pos rfl] at hq hO
        cases hq
        exact ⟨I2, J, R, rfl, rfl, hR, hO _ rfl I2 f2 g2 h2⟩
      | false => rw [h17, if_neg (by decide)] at hq; cases hq
  · intro hb I2 f2 g2 h2
    rw [hb, if_pos rfl] at hO
    exact ⟨_, I2, J, R, rfl, rfl, hR, fun c => absurd c (by decide), fun _ => hO _ rfl I2 f2 g2 h2⟩
theorem c_Mo_say_d (hR : ow_RF R) (hf : I 70 13 = 1) (hQ : Q (some (.int 0)) (85, I, J, R)) : ow_AM M_Mo_say (d + 3) [.ref 70] (85, I, J, R) Q := by
  apply t_Mo_say hR
  refine c_Mo_takesWord_d (i := 16) hR (by decide) hf ⟨_, I, J, R, rfl, rfl, hR, fun _ => ?_, fun c => absurd rfl c⟩
  exact c_Mo_must_d (i := 17) hR (by decide) hf ⟨I, J, R, rfl, rfl, hR, hQ⟩
theorem c_Mo_mustName (hR : ow_RF R) (hX : tk_ok X) (hp : p ≤ X.1) (hf : I 70 13 = 0) (hM : tM I X p) (hF : ¬ (tk_k X p = 1 ∧ pr_line X p = 0) → ∀ I2 : Nat → Nat → Int32, sp_fr [72] sp_fE I I2 → md (1, tk_a X p) I2 → Q none (85, I2, J, R)) (hO : tk_k X p = 1 ∧ pr_line X p = 0 → Q none (85, I, J, R)) : ow_AM M_Mo_mustName (d + 6) [.ref 70] (85, I, J, R) Q := by
  have hk4 := tk_k4 (X := X) (p := p)
  have wr : ¬ (tk_k X p = 1 ∧ pr_line X p = 0) → ow_AM M_Mo_wrong (d + 5) [.ref 70, .int 1, .int (I 70 4)] (85, I, J, R) (fun r h' => ∃ (I30 : Nat → Nat → Int32) (J30 : Nat → Nat → Int64) (R30 : Nat → Nat → Option Nat), r = none ∧ h' = (85, I30, J30, R30) ∧ ow_RF R30 ∧ Q none (85, I30, J30, R30)) := by
    intro hn
    refine c_Mo_wrong (k := 1) hR hf hM ?_
    intro I2 f2 h2 _ _
    exact ⟨I2, J, R, rfl, rfl, hR, hF hn I2 f2 h2⟩
  apply t_Mo_mustName hR
  rw [hM.2.2.2.1, tk_r1 hk4]
  refine ⟨fun c => wr (fun z => c z.1), fun c => ?_⟩
  unfold pr_line at hO wr
  refine c_Mo_isWord (i := 0) hR (by decide) hf hM ⟨_, I, J, R, rfl, rfl, hR, ?_⟩
  cases b0 : tk_is X p 0 with
  | true =>
    rw [b0, if_pos rfl] at wr
    first | exact ⟨fun _ => wr (fun z => by cases z.2), fun c => absurd c (by decide)⟩ | exact ⟨fun c => absurd c (by decide), fun _ => wr (fun z => by cases z.2)⟩
  | false =>
    rw [b0, if_neg (by decide)] at hO wr
    refine ⟨fun c => absurd rfl c, fun _ => ?_⟩
    refine c_Mo_isWord (i := 1) hR (by decide) hf hM ⟨_, I, J, R, rfl, rfl, hR, ?_⟩
    cases b1 : tk_is X p 1 with
    | true =>
      rw [b1, if_pos rfl] at wr
      first | exact ⟨fun _ => wr (fun z => by cases z.2), fun c => absurd c (by decide)⟩ | exact ⟨fun c => absurd c (by decide), fun _ => wr (fun z => by cases z.2)⟩
    | false =>
      rw [b1, if_neg (by decide)] at hO wr
      refine ⟨fun c => absurd rfl c, fun _ => ?_⟩
      refine c_Mo_isWord (i := 2) hR (by decide) hf hM ⟨_, I, J, R, rfl, rfl, hR, ?_⟩
      cases b2 : tk_is X p 2 with
      | true =>
        rw [b2, if_pos rfl] at wr
        first | exact ⟨fun _ => wr (fun z => by cases z.2), fun c => absurd c (by decide)⟩ | exact ⟨fun c => absurd c (by decide), fun _ => wr (fun z => by cases z.2)⟩
      | false =>
        rw [b2, if_neg (by decide)] at hO wr
        refine ⟨fun c => absurd rfl c, fun _ => ?_⟩
        refine c_Mo_isWord (i := 3) hR (by decide) hf hM ⟨_, I, J, R, rfl, rfl, hR, ?_⟩
        cases b3 : tk_is X p 3 with
        | true =>
          rw [b3, if_pos rfl] at wr
          first | exact ⟨fun _ => wr (fun z => by cases z.2), fun c => absurd c (by decide)⟩ | exact ⟨fun c => absurd c (by decide), fun _ => wr (fun z => by cases z.2)⟩
        | false =>
          rw [b3, if_neg (by decide)] at hO wr
          refine ⟨fun c => absurd rfl c, fun _ => ?_⟩
          refine c_Mo_isWord (i := 4) hR (by decide) hf hM ⟨_, I, J, R, rfl, rfl, hR, ?_⟩
          cases b4 : tk_is X p 4 with
          | true =>
            rw [b4, if_pos rfl] at wr
            first | exact ⟨fun _ => wr (fun z => by cases z.2), fun c => absurd c (by decide)⟩ | exact ⟨fun c => absurd c (by decide), fun _ => wr (fun z => by cases z.2)⟩
          | false =>
            rw [b4, if_neg (by decide)] at hO wr
            refine ⟨fun c => absurd rfl c, fun _ => ?_⟩
            refine c_Mo_isWord (i := 5) hR (by decide) hf hM ⟨_, I, J, R, rfl, rfl, hR, ?_⟩
            cases b5 : tk_is X p 5 with
            | true =>
              rw [b5, if_pos rfl] at wr
              first | exact ⟨fun _ => wr (fun z => by cases z.2), fun c => absurd c (by decide)⟩ | exact ⟨fun c => absurd c (by decide), fun _ => wr (fun z => by cases z.2)⟩
            | false =>
              rw [b5, if_neg (by decide)] at hO wr
              refine ⟨fun c => absurd rfl c, fun _ => ?_⟩
              refine c_Mo_isWord (i := 6) hR (by decide) hf hM ⟨_, I, J, R, rfl, rfl, hR, ?_⟩
              cases b6 : tk_is X p 6 with
              | true =>
                rw [b6, if_pos rfl] at wr
                first | exact ⟨fun _ => wr (fun z => by cases z.2), fun c => absurd c (by decide)⟩ | exact ⟨fun c => absurd c (by decide), fun _ => wr (fun z => by cases z.2)⟩
              | false =>
                rw [b6, if_neg (by decide)] at hO wr
                exact ⟨fun _ => hO ⟨c, rfl⟩, fun c => absurd rfl c⟩
theorem c_Mo_find {m : Nat → List Nat} (hR : ow_RF R) (hk : tk_k X p = 1) (hM : tM I X p) (hN : nM I m) (hQ : Q (some (.int (sp_m1 (sp_fst (fun i => decide (m i = tk_w X p)) 11)))) (85, I, J, R)) : ow_AM M_Mo_find (d + 1) [.ref 70] (85, I, J, R) Q := by
  obtain ⟨l1, l2⟩ := tk_k1 hk
  obtain ⟨c1, c2, c3, c4, c5, c6, c7, c8⟩ := hM
  apply t_Mo_find hR
  refine sp_up (σ := Unit) (N := 11) (G := fun i _ => ow_AW ow_Y0 (ow_Z Q) M_Mo_find (d + 1) 0 0 2 [(0, .ref 70), (1, .int (nI i))] [] (85, I, J, R) 0 0) (Inv := fun i _ => sp_fst (fun i => decide (m i = tk_w X p)) i = none) ?_ ?_ 0 () (Nat.zero_le _) rfl
  · intro _ h0
    apply t_Mo_find_2 hR
    rw [h0] at hQ
    exact ⟨fun _ => hQ, fun c => absurd (by decide) c⟩
  · intro i _ hi h0 ih
    obtain ⟨n1, n2, n3⟩ := hN i hi
    have nope : m i ≠ tk_w X p → ow_AW ow_Y0 (ow_Z Q) M_Mo_find (d + 1) 0 0 2 [(0, .ref 70), (1, .int (nI i + 1))] [] (85, I, J, R) 0 0 := by
      intro hne
      rw [nI_1]
      refine ih () ?_
      rw [sp_fst, h0]
      dsimp only
      rw [decide_eq_false hne]
      rfl
    have yes : m i = tk_w X p → Q (some (.int (nI i))) (85, I, J, R) := by
      intro he
      have h1 : sp_fst (fun i => decide (m i = tk_w X p)) (i + 1) = some i := by
        rw [sp_fst, h0]
        dsimp only
        rw [decide_eq_true he]
        rfl
      have h2 := sp_fst_k h1 (11 - (i + 1))
      rw [show i + 1 + (11 - (i + 1)) = 11 by omega] at h2
      rw [h2] at hQ
      exact hQ
    have L0 : m i ≠ tk_w X p → ∀ k, k ≤ tk_l X p → ow_AW ow_Y0 (ow_Z Q) M_Mo_find (d + 1) 0 0 44 [(0, .ref 70), (1, .int (nI i)), (2, .int 0), (3, .int (nI k))] [] (85, I, J, R) 0 0 := by
      intro hne k hk2
      apply t_Mo_find_44 hR
      exact ⟨fun _ => ⟨fun _ => nope hne, fun z => absurd rfl z⟩, fun _ => ⟨fun _ => ⟨fun _ => nope hne, fun z => absurd rfl z⟩, fun z => absurd rfl z⟩⟩
    have L1 : (m i).length = tk_l X p → ∀ (r k : Nat), k + r = tk_l X p → (∀ t, t < k → (m i).getD t 0 = X.2 (tk_a X p + t)) → ow_AW ow_Y0 (ow_Z Q) M_Mo_find (d + 1) 0 0 44 [(0, .ref 70), (1, .int (nI i)), (2, .int 1), (3, .int (nI k))] [] (85, I, J, R) 0 0 := by
      intro hlen r
      induction r with
      | zero =>
        intro k hkr hall
        have he : m i = tk_w X p := sp_lext (by rw [tk_w_len]; exact hlen) (fun t ht => by rw [hlen] at ht; rw [tk_w_at ht]; exact hall t (by omega))
        apply t_Mo_find_44 hR
        rw [c5]
        exact ⟨fun _ => ⟨fun z => absurd z (by decide), fun _ => yes he⟩, fun z => absurd (nI_le (by omega) (by omega)) z⟩
      | succ r ihr =>
        intro k hkr hall
        obtain ⟨y1, y2⟩ := n3 k (by omega)
        have hkl : k < tk_l X p := by omega
        have hin := sp_run_in (X := X) (lo := 97) (hi := 122) (p := tk_a X p) hkl
        apply t_Mo_find_44 hR
        rw [c5, show (58 : Int32) + 8 * nI i = nI (58 + 8 * i) from sp_ix, nI_add, nI_1 k, sp_cl (by omega), sp_cl (by omega), y1, c6 k (by omega) (by omega), nI_eq (by omega) (by omega)]
        refine ⟨fun z => absurd z (nI_ge (by omega) (by omega)), fun _ => ⟨fun z => absurd z (by decide), fun _ => ⟨vp_in_nI (by omega) (by decide), vp_in_nI (by omega) (by decide), fun z => L0 (fun e => z ?_) (k + 1) (by omega), fun z => ihr (k + 1) (by omega) (fun t ht => ?_)⟩⟩⟩
        · rw [e, tk_w_at (by omega)]
        · by_cases htk : t = k
          · rw [htk]; exact z
          · exact hall t (by omega)
    apply t_Mo_find_2 hR
    rw [show (47 : Int32) + nI i = nI (47 + i) from nI_add 47 i, sp_cl (by omega), n1, c5, nI_eq (by omega) (by omega)]
    refine ⟨fun c => absurd c (nI_ge (b := 11) hi (by decide)), fun _ => ⟨vp_in_nI (by omega) (by decide), fun c => ?_, fun c => ⟨vp_in_nI (by omega) (by decide), fun c2 => ?_, fun c2 => ?_⟩⟩⟩
    · refine L0 (fun e => ?_) 0 (Nat.zero_le _)
      have h1 : (m i).length = tk_l X p := by rw [e, tk_w_len]
      exact absurd c (nI_nle (by omega) (by omega))
    · exact L0 (fun e => c2 (by rw [e, tk_w_len])) 0 (Nat.zero_le _)
    · exact L1 c2 (tk_l X p) 0 (by omega) (fun t ht => absurd ht (Nat.not_lt_zero _))
/-- the first of all names that is a folly's is the first of the follies' -/
theorem fst_fol {m : Nat → List Nat} {w : List Nat} {n : Nat} (hn : n ≤ 6) (hw : w ≠ []) (he : ∀ f, n ≤ f → f < 6 → m f = []) : (∀ f, sp_fst (fun i => decide (m i = w)) n = some f → sp_fst (fun i => decide (m i = w)) 11 = some f) ∧ (sp_fst (fun i => decide (m i = w)) n = none → ∀ x, sp_fst (fun i => decide (m i = w)) 11 = some x → 6 ≤ x) := by
  refine ⟨fun f h => ?_, fun h x hx => ?_⟩
  · have := sp_fst_k h (11 - n)
    rw [show n + (11 - n) = 11 by omega] at this
    exact this
  · have h6 : ∀ k, n + k ≤ 6 → sp_fst (fun i => decide (m i = w)) (n + k) = none := by
      intro k
      induction k with
      | zero => intro _; exact h
      | succ k ih =>
        intro hk
        rw [show n + (k + 1) = (n + k) + 1 from rfl, sp_fst, ih (by omega)]
        dsimp only
        rw [decide_eq_false (fun z => hw (by rw [← z]; exact he (n + k) (by omega) (by omega)))]
        rfl
    have h6' := h6 (6 - n) (by omega)
    rw [show n + (6 - n) = 6 by omega] at h6'
    have h7 : ∀ k, sp_fst (fun i => decide (m i = w)) (6 + k) = some x → 6 ≤ x := by
      intro k
      induction k with
      | zero => intro z; rw [show 6 + 0 = 6 from rfl, h6'] at z; cases z
      | succ k ih =>
        intro z
        rw [show 6 + (k + 1) = (6 + k) + 1 from rfl, sp_fst] at z
        cases hs : sp_fst (fun i => decide (m i = w)) (6 + k) with
        | some y =>
          rw [hs] at z
          have z : some y = some x := z
          rw [← Option.some.inj z] at ih ⊢
          exact ih hs
        | none =>
          rw [hs] at z
          dsimp only at z
          by_cases hb : decide (m (6 + k) = w) = true
          · rw [if_pos hb] at z
            have z := Option.some.inj z
            omega
          · rw [if_neg hb] at z; cases z
    exact h7 5 hx
theorem c_Mo_follyHere {m : Nat → List Nat} (hR : ow_RF R) (hX : tk_ok X) (hp : p ≤ X.1) (hf : I 70 13 = 0) (hM : tM I X p) (hN : nM I m) (hk : dk D) (hm : ∀ f, f < 6 → m f = dd_m D f) (hF : ∀ q, pr_fh X D p = .inl q → ∀ I2 : Nat → Nat → Int32, sp_fr [72] sp_fE I I2 → md q I2 → Q (some (.int 0)) (85, I2, J, R)) (hO : ∀ f, pr_fh X D p = .inr f → f < st_n (dd_T D) → Q (some (.int (nI f))) (85, I, J, R)) : ow_AM M_Mo_follyHere (d + 7) [.ref 70] (85, I, J, R) Q := by
  have n6 := hk.1
  apply t_Mo_follyHere hR
  rw [hf]
  refine ⟨fun _ => ?_, fun c => absurd rfl c⟩
  unfold pr_fh at hF hO
  refine c_Mo_mustName hR hX hp hf hM ?_ ?_
  · intro hn I2 f2 h2
    rw [if_neg hn] at hF
    refine ⟨I2, J, R, rfl, rfl, hR, ?_⟩
    rw [h2.1]
    exact ⟨fun c => absurd c (by decide), fun _ => hF _ rfl I2 f2 h2⟩
  · intro hn
    rw [if_pos hn] at hF hO
    refine ⟨I, J, R, rfl, rfl, hR, ?_⟩
    rw [hf]
    refine ⟨fun _ => ?_, fun c => absurd rfl c⟩
    have hw := tk_wd1 hn.1
    have hwne : tk_w X p ≠ [] := fun z => by have := hw.1; rw [z] at this; exact absurd this (by decide)
    obtain ⟨q1, q2⟩ := fst_fol (m := m) (w := tk_w X p) n6 hwne (fun f h1 h2 => by rw [hm f h2]; exact hk.2.2.2.2.2.2.2.2.2.2.2.2.2.2.2.2.2.2.2.1 f h1 h2)
    have ext : sp_fst (fun i => decide (m i = tk_w X p)) (st_n (dd_T D)) = pr_fn X D p := by
      unfold pr_fn
      have K : ∀ k, k ≤ 6 → sp_fst (fun i => decide (m i = tk_w X p)) k = sp_fst (fun f => decide (dd_m D f = tk_w X p)) k := by
        intro k
        induction k with
        | zero => intro _; rfl
        | succ k ih =>
          intro hk2
          rw [sp_fst, sp_fst, ih (by omega), hm k (by omega)]
      exact K _ n6
    rw [ext] at q1 q2
    refine c_Mo_find hR hn.1 hM hN ⟨_, I, J, R, rfl, rfl, hR, ?_⟩
    cases h1 : pr_fn X D p with
    | some f =>
      have hfn := sp_fst_lt _ _ h1
      rw [h1] at hO
      rw [q1 f h1]
      refine c_Mo_inG (a := 0) (b := 5) hR (by decide) (by decide) ⟨_, I, J, R, rfl, rfl, hR, ?_⟩
      rw [show sp_bt (sp_m1 (some f)) 0 5 = true from sp_bt_of (n := f) (Nat.zero_le _) (by omega) (by decide)]
      refine ⟨fun _ => ?_, fun z => absurd z (by decide)⟩
      rw [hf]
      exact ⟨fun _ => hO f rfl hfn, fun c => absurd rfl c⟩
    | none =>
      rw [h1] at hF
      refine c_Mo_inG (a := 0) (b := 5) hR (by decide) (by decide) ⟨_, I, J, R, rfl, rfl, hR, ?_⟩
      have hbt : sp_bt (sp_m1 (sp_fst (fun i => decide (m i = tk_w X p)) 11)) 0 5 = false := by
        cases h2 : sp_fst (fun i => decide (m i = tk_w X p)) 11 with
        | none => decide
        | some x =>
          have h3 := q2 h1 x h2
          have h4 := sp_fst_lt _ _ h2
          exact decide_eq_false (fun z => by
            have z2 : (nI x).toInt ≤ 5 := z.2
            rw [nI_toInt (by omega)] at z2
            omega)
      rw [hbt]
      refine ⟨fun z => absurd rfl z, fun _ => ?_⟩
      refine c_Mo_wrong (k := 2) hR hf hM ?_
      intro I2 f2 h2 _ _
      refine ⟨I2, J, R, rfl, rfl, hR, ?_⟩
      rw [h2.1]
      exact ⟨fun c => absurd c (by decide), fun _ => hF _ rfl I2 f2 h2⟩
theorem c_Mo_follyHere_d (hR : ow_RF R) (hf : I 70 13 = 1) (hQ : Q (some (.int 0)) (85, I, J, R)) : ow_AM M_Mo_follyHere (d + 1) [.ref 70] (85, I, J, R) Q := by
  apply t_Mo_follyHere hR
  rw [hf]
  exact ⟨fun c => absurd c (by decide), fun _ => hQ⟩
/-- a new name is free if it is neither a folly's nor an estate's -/
theorem fst_new {m : Nat → List Nat} {w : List Nat} {n ne : Nat} (hn : n ≤ 6) (hne : ne ≤ 5) (hw : w ≠ []) (he : ∀ f, n ≤ f → f < 6 → m f = []) (he2 : ∀ e, ne ≤ e → e < 5 → m (6 + e) = []) : sp_fst (fun i => decide (m i = w)) 11 = none ↔ sp_fst (fun i => decide (m i = w)) n = none ∧ sp_fst (fun e => decide (m (6 + e) = w)) ne = none := by
  have N : ∀ (q : Nat → Bool) k, sp_fst q k = none ↔ ∀ i, i < k → q i = false := by
    intro q k
    induction k with
    | zero => exact ⟨fun _ i hi => absurd hi (Nat.not_lt_zero _), fun _ => rfl⟩
    | succ k ih =>
      rw [sp_fst]
      constructor
      · intro h
        cases hs : sp_fst q k with
        | some y => rw [hs] at h; cases h
        | none =>
          rw [hs] at h
          dsimp only at h
          by_cases hb : q k = true
          · rw [if_pos hb] at h; cases h
          · intro i hi
            by_cases hik : i = k
            · rw [hik]; cases hq : q k with | false => rfl | true => exact absurd hq hb
            · exact ih.mp hs i (by omega)
      · intro h
        rw [ih.mpr (fun i hi => h i (by omega))]
        dsimp only
        rw [h k (by omega)]
        rfl
  rw [N, N, N]
  constructor
  · intro h
    exact ⟨fun i hi => h i (by omega), fun e he => h (6 + e) (by omega)⟩
  · intro ⟨h1, h2⟩ i hi
    by_cases c1 : i < n
    · exact h1 i c1
    · by_cases c2 : i < 6
      · exact decide_eq_false (fun z => hw (by rw [← z]; exact he i (by omega) c2))
      · by_cases c3 : i - 6 < ne
        · have := h2 (i - 6) c3
          rw [show 6 + (i - 6) = i by omega] at this
          exact this
        · have := he2 (i - 6) (by omega) (by omega)
          rw [show 6 + (i - 6) = i by omega] at this
          exact decide_eq_false (fun z => hw (by rw [← z]; exact this))
theorem c_Mo_newName {i0 : Nat} (hR : ow_RF R) (hX : tk_ok X) (hp : p ≤ X.1) (hi0 : i0 < 11) (hf : I 70 13 = 0) (hM : tM I X p) (hN : nM I (dd_m D)) (hk : dk D) (hF : ∀ q, pr_new X D p = .inl q → ∀ I2 : Nat → Nat → Int32, sp_fr [72] sp_fE I I2 → md q I2 → Q none (85, I2, J, R)) (hO : ∀ q, pr_new X D p = .inr q → ∀ I2 : Nat → Nat → Int32, sp_fr sp_fS sp_fE I I2 → I2 70 13 = 0 → tM I2 X q.2 → I2 76 = I 76 → (∀ j, j < 47 → I2 74 j = I 74 j) → nM I2 (fu (dd_m D) i0 q.1) → Q none (85, I2, J, R)) : ow_AM M_Mo_newName (d + 7) [.ref 70, .int (nI i0)] (85, I, J, R) Q := by
  have n6 := hk.1
  have e5 := hk.2.1
  apply t_Mo_newName hR
  rw [hf]
  refine ⟨fun _ => ?_, fun c => absurd rfl c⟩
  unfold pr_new at hF hO
  refine c_Mo_mustName hR hX hp hf hM ?_ ?_
  · intro hn I2 f2 h2
    rw [if_neg hn] at hF
    refine ⟨I2, J, R, rfl, rfl, hR, ?_⟩
    rw [h2.1]
    exact ⟨fun _ => ⟨fun c => absurd c (by decide), fun _ => hF _ rfl I2 f2 h2⟩, fun c => absurd c (by decide)⟩
  · intro hn
    rw [if_pos hn] at hF hO
    refine ⟨I, J, R, rfl, rfl, hR, ?_⟩
    rw [hf]
    refine ⟨fun c => absurd rfl c, fun _ => ?_⟩
    have hw := tk_wd1 hn.1
    obtain ⟨l1, l2⟩ := tk_k1 hn.1
    have hwne : tk_w X p ≠ [] := fun z => by have := hw.1; rw [z] at this; exact absurd this (by decide)
    have iff := fst_new (m := dd_m D) (w := tk_w X p) n6 e5 hwne hk.2.2.2.2.2.2.2.2.2.2.2.2.2.2.2.2.2.2.2.1 hk.2.2.2.2.2.2.2.2.2.2.2.2.2.2.2.2.2.2.2.2.1
    refine c_Mo_find hR hn.1 hM hN ⟨_, I, J, R, rfl, rfl, hR, ?_⟩
    cases h1 : sp_fst (fun i => decide (dd_m D i = tk_w X p)) 11 with
    | some x =>
      have hx := sp_fst_lt _ _ h1
      have hno : ¬ (pr_fn X D p = none ∧ pr_en X D p = none) := fun z => by
        have := iff.mpr z
        rw [h1] at this
        cases this
      rw [if_neg hno] at hF
      refine ⟨fun c => absurd c (nI_pos (by omega)), fun _ => ?_⟩
      refine c_Mo_wrong (k := 3) hR hf hM ?_
      intro I2 f2 h2 _ _
      refine ⟨I2, J, R, rfl, rfl, hR, ?_⟩
      rw [h2.1]
      exact ⟨fun c => absurd c (by decide), fun _ => hF _ rfl I2 f2 h2⟩
    | none =>
      have hyes := iff.mp h1
      have hyes : pr_fn X D p = none ∧ pr_en X D p = none := hyes
      rw [if_pos hyes] at hO
      refine ⟨fun _ => ?_, fun c => absurd (by decide) c⟩
      rw [hf]
      refine ⟨fun _ => ?_, fun c => absurd rfl c⟩
      obtain ⟨c1, c2, c3, c4, c5, c6, c7, c8⟩ := id hM
      refine sp_up (N := tk_l X p) (G := fun k I1 => ow_AW ow_Y0 (ow_Z Q) M_Mo_newName (d + 7) 0 0 45 [(0, .ref 70), (1, .int (nI i0)), (2, .int (nI k))] [] (85, I1, J, R) 0 0) (Inv := fun k I1 => sp_eq [74] I I1 ∧ (∀ j, ¬ (58 + 8 * i0 ≤ j ∧ j < 58 + 8 * i0 + k) → I1 74 j = I 74 j) ∧ ∀ t, t < k → I1 74 (58 + 8 * i0 + t) = nI (X.2 (tk_a X p + t))) ?_ ?_ 0 I (Nat.zero_le _) ⟨sp_eq_rf, fun _ _ => rfl, fun t ht => absurd ht (Nat.not_lt_zero _)⟩
      · intro I1 ⟨a0, a1, a2⟩
        apply t_Mo_newName_45 hR
        rw [a0 70 (by decide), c5, show (47 : Int32) + nI i0 = nI (47 + i0) from nI_add 47 i0, sp_cl (by omega)]
        refine ⟨fun _ => ⟨vp_in_nI (by omega) (by decide), fun I4 e4 => ?_⟩, fun c => absurd (Int32.le_refl _) c⟩
        have r4 : ∀ a, a ≠ 74 → I4 a = I a := fun a h => by rw [e4, ow_u_ne h, a0 a (by simp [h])]
        have hM4 : tM I4 X p := tM_k hM (fun k _ _ => by rw [r4 70 (by decide)]) (r4 72 (by decide)) (r4 71 (by decide))
        refine c_nxt hR hX hp hM4 ?_
        intro I5 f5 h5
        have r5 : ∀ j, I5 74 j = I4 74 j := fun j => by rw [sp_fr_row f5 (by decide) (by simp [tk_E])]
        refine ⟨I5, J, R, rfl, rfl, hR, hO _ rfl I5 ?_ ?_ h5 ?_ (fun j hj => ?_) (fun i hi => ?_)⟩
        · exact sp_fr_tr (sp_fr_tr (sp_fr_mono (E := []) (sp_frq a0) (by decide) (by decide)) (sp_fr_ue e4 (Or.inl (by decide)))) (sp_fE2 (sp_fEt f5))
        · rw [f5 70 (by decide) 13 (by decide), r4 70 (by decide)]; exact hf
        · rw [sp_fr_row f5 (by decide) (by simp [tk_E]), r4 76 (by decide)]
        · rw [r5, e4, ow_u_nk (by omega)]; exact a1 j (by omega)
        · obtain ⟨n1, n2, n3⟩ := hN i hi
          by_cases hii : i = i0
          · subst hii
            rw [fu_at, r5, e4, ow_u_at, tk_w_len]
            refine ⟨rfl, l2, fun k hk2 => ?_⟩
            have hin := sp_run_in (X := X) (lo := 97) (hi := 122) (p := tk_a X p) hk2
            rw [r5, e4, ow_u_nk (by omega), a2 k hk2, tk_w_at hk2]
            exact ⟨rfl, hin.2⟩
          · rw [fu_ne hii, r5, e4, ow_u_nk (by omega), a1 _ (by omega)]
            refine ⟨n1, n2, fun k hk2 => ?_⟩
            rw [r5, e4, ow_u_nk (by omega), a1 _ (by omega)]
            exact n3 k hk2
      · intro k I1 hk2 ⟨a0, a1, a2⟩ ih
        apply t_Mo_newName_45 hR
        rw [a0 70 (by decide), c5, a0 72 (by decide), show (58 : Int32) + 8 * nI i0 = nI (58 + 8 * i0) from sp_ix, nI_add, nI_1, sp_cl (by omega), sp_cl (by omega), c6 k hk2 (by omega)]
        refine ⟨fun c => absurd c (nI_ge hk2 (by omega)), fun _ => ⟨vp_in_nI (by omega) (by decide), vp_in_nI (by omega) (by decide), fun I4 e4 => ih I4 ⟨sp_eq_tr a0 (sp_eq_ue e4 (by simp)), fun j hj => ?_, fun t ht => ?_⟩⟩⟩
        · rw [e4, ow_u_nk (by omega)]; exact a1 j (by omega)
        · rw [e4]
          by_cases htk : t = k
          · rw [htk, ow_u_at]
          · rw [ow_u_nk (by omega)]; exact a2 t (by omega)
theorem c_Mo_newName_d {b : Int32} (hR : ow_RF R) (hf : I 70 13 = 1) (hQ : Q none (85, I, J, R)) : ow_AM M_Mo_newName (d + 1) [.ref 70, .int b] (85, I, J, R) Q := by
  apply t_Mo_newName hR
  rw [hf]
  exact ⟨fun c => absurd c (by decide), fun _ => hQ⟩
end MREAD1
