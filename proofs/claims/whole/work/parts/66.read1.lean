/-! Own rows: how a text is read; the object's steps. -/
/-- a fault and its place, or what was read -/
abbrev sp_E (α : Type) : Type := Sum (Nat × Nat) α
def er {α : Type} (X : sp_Tx) (k p : Nat) : sp_E α := Sum.inl (k, tk_a X p)
def bd {α β : Type} (e : sp_E α) (f : α → sp_E β) : sp_E β := match e with
  | .inl q => .inl q
  | .inr x => f x
theorem bd_l {α β : Type} {e : sp_E α} {f : α → sp_E β} {q : Nat × Nat} (h : e = .inl q) : bd e f = .inl q := by rw [h]; rfl
theorem bd_r {α β : Type} {e : sp_E α} {f : α → sp_E β} {x : α} (h : e = .inr x) : bd e f = f x := by rw [h]; rfl
/-- what was read so far: is the shire told, what is told, who sends and who is veiled as bits, the names -/
abbrev sp_D : Type := Bool × sp_T × (Nat × Nat) × (Nat → List Nat)
def dd_o (D : sp_D) : Bool := D.1
def dd_T (D : sp_D) : sp_T := D.2.1
def dd_s (D : sp_D) : Nat := D.2.2.1.1
def dd_v (D : sp_D) : Nat := D.2.2.1.2
def dd_m (D : sp_D) : Nat → List Nat := D.2.2.2
def fu {α : Type} (f : Nat → α) (k : Nat) (v : α) : Nat → α := fun i => if i = k then v else f i
theorem fu_at {α : Type} {f : Nat → α} {k : Nat} {v : α} : fu f k v k = v := if_pos rfl
theorem fu_ne {α : Type} {f : Nat → α} {k i : Nat} {v : α} (h : i ≠ k) : fu f k v i = f i := if_neg h
def pr_word (X : sp_Tx) (i p : Nat) : sp_E Nat := if tk_is X p i = true then .inr (tk_n X p) else er X 1 p
def pr_whole (X : sp_Tx) (m p : Nat) : sp_E (Nat × Nat) := if tk_k X p = 2 then (if tk_v X p ≤ m then .inr (tk_v X p, tk_n X p) else er X 4 p) else er X 1 p
def pr_line (X : sp_Tx) (p : Nat) : Nat := if tk_is X p 0 = true then 1 else if tk_is X p 1 = true then 2 else if tk_is X p 2 = true then 3 else if tk_is X p 3 = true then 4 else if tk_is X p 4 = true then 5 else if tk_is X p 5 = true then 6 else if tk_is X p 6 = true then 7 else 0
def pr_fn (X : sp_Tx) (D : sp_D) (p : Nat) : Option Nat := sp_fst (fun f => decide (dd_m D f = tk_w X p)) (st_n (dd_T D))
def pr_en (X : sp_Tx) (D : sp_D) (p : Nat) : Option Nat := sp_fst (fun e => decide (dd_m D (6 + e) = tk_w X p)) (st_ne (dd_T D))
def pr_new (X : sp_Tx) (D : sp_D) (p : Nat) : sp_E (List Nat × Nat) := if tk_k X p = 1 ∧ pr_line X p = 0 then (if pr_fn X D p = none ∧ pr_en X D p = none then .inr (tk_w X p, tk_n X p) else er X 3 p) else er X 1 p
def pr_fol (X : sp_Tx) (D : sp_D) (bar p : Nat) : sp_E (Nat × Nat) := if tk_k X p = 1 ∧ pr_line X p = 0 then (match pr_fn X D p with
    | none => er X 2 p
    | some f => if bar.testBit f = true then er X 3 p else .inr (f, tk_n X p)) else er X 1 p
def pr_shape (X : sp_Tx) (p : Nat) : sp_E (Nat × Nat) := if tk_is X p 9 = true then .inr (0, tk_n X p) else if tk_is X p 10 = true then .inr (1, tk_n X p) else if tk_is X p 11 = true then .inr (2, tk_n X p) else if tk_is X p 12 = true then .inr (3, tk_n X p) else if tk_is X p 13 = true then .inr (4, tk_n X p) else er X 1 p
def pr_ans (X : sp_Tx) (l : Bool) (p : Nat) : sp_E (Option Bool × Nat) := if tk_is X p 16 = true then .inr (some true, tk_n X p) else if tk_is X p 17 = true then .inr (some false, tk_n X p) else if l = true ∧ tk_is X p 18 = true then .inr (none, tk_n X p) else er X 1 p
def sp_rS : List Nat := [13, 14, 15, 16, 17, 18, 19, 20, 21, 22, 23, 24, 25]
def sp_rE : List (Nat × Nat) := [(13, 8), (13, 9), (13, 10), (25, 2), (25, 3), (25, 4)]
theorem sp_rEs {I I2 : Nat → Nat → Int32} (h : sp_fr [] sp_rE I I2) : sp_fr sp_rS [] I I2 := sp_fr_mono h (by decide) (by decide)
/-- the object's reading ended by a fault -/
def rf (Q : Option Value → ow_H → Prop) (I : Nat → Nat → Int32) (R : Nat → Nat → Option Nat) (e : Nat × Nat) : Prop := ∀ (I2 : Nat → Nat → Int32) (J2 : Nat → Nat → Int64), sp_fr sp_rS [] I I2 → I2 13 9 = nI e.1 → I2 13 10 = nI e.2 → Q (some (.int 0)) (85, I2, J2, R)
theorem rf_k {Q : Option Value → ow_H → Prop} {I I1 : Nat → Nat → Int32} {R : Nat → Nat → Option Nat} {e : Nat × Nat} (h : rf Q I R e) (hf : sp_fr sp_rS [] I I1) : rf Q I1 R e := fun I2 J2 h1 h2 h3 => h I2 J2 (sp_fr_tr hf h1) h2 h3
def sp_m1 : Option Nat → Int32
  | none => -1
  | some f => nI f
/-- the names, as the object has them -/
def nC (I : Nat → Nat → Int32) (J : Nat → Nat → Int64) (D : sp_D) : Prop := I 15 0 = nI (st_n (dd_T D)) ∧ I 14 3 = nI (st_ne (dd_T D)) ∧ st_n (dd_T D) ≤ 6 ∧ st_ne (dd_T D) ≤ 5 ∧ (∀ f, f < st_n (dd_T D) → J 27 f = lN (sp_cl2 (dd_m D f)) ∧ sp_wd1 (dd_m D f)) ∧ ∀ e, e < st_ne (dd_T D) → J 28 e = lN (sp_cl2 (dd_m D (6 + e))) ∧ sp_wd1 (dd_m D (6 + e))
theorem nC_k {I I2 : Nat → Nat → Int32} {J J2 : Nat → Nat → Int64} {D : sp_D} (h : nC I J D) (h1 : I2 15 0 = I 15 0) (h2 : I2 14 3 = I 14 3) (h3 : J2 27 = J 27) (h4 : J2 28 = J 28) : nC I2 J2 D := by
  unfold nC at h ⊢
  rw [h1, h2, h3, h4]
  exact h
theorem lg_cmpN {a b : Nat} (ha : a < 2 ^ 62) (hb : b < 2 ^ 62) : lg_cmp (lN a) (lN b) = 0 ↔ a = b := by
  unfold lg_cmp
  have e1 : lN a > lN b ↔ b < a := pk_lLT (by omega) (by omega)
  have e2 : lN a = lN b ↔ a = b := pk_lEQ (by omega) (by omega)
  by_cases h1 : b < a
  · rw [if_pos (e1.mpr h1)]
    exact ⟨fun c => absurd c (by decide), fun c => by omega⟩
  · rw [if_neg (fun q => h1 (e1.mp q))]
    by_cases h2 : a = b
    · rw [if_pos (e2.mpr h2)]
      exact ⟨fun _ => h2, fun _ => rfl⟩
    · rw [if_neg (fun q => h2 (e2.mp q))]
      exact ⟨fun c => absurd c (by decide), fun c => absurd c h2⟩
section READ1
variable {d : Nat} {I : Nat → Nat → Int32} {J : Nat → Nat → Int64} {R : Nat → Nat → Option Nat} {Q : Option Value → ow_H → Prop} {X : sp_Tx} {p : Nat} {D : sp_D}
theorem c_Reader_fail {k : Nat} (hR : ow_RF R) (hC : tC I X p) (hQ : ∀ I2 : Nat → Nat → Int32, sp_fr [] sp_rE I I2 → I2 13 9 = nI k → I2 13 10 = nI (tk_a X p) → Q (some (.int 0)) (85, I2, J, R)) : ow_AM M_Reader_fail (d + 1) [.ref 13, .int (nI k)] (85, I, J, R) Q := by
  apply t_Reader_fail hR
  intro I3 e3 I4 e4
  refine hQ I4 (sp_fr_tr (sp_fr_ue e3 (by decide)) (sp_fr_ue e4 (by decide))) (by rw [e4, ow_u_nk (by decide), e3, ow_u_at]) ?_
  rw [e4, ow_u_at, e3, ow_u_ne (by decide)]
  exact hC.2.2.2.1
/-- .. and its answer handed on -/
theorem c_rf {k : Nat} (hR : ow_RF R) (hTx : R 25 0 = some 1) (hC : tC I X p) (hF : rf Q I R (k, tk_a X p)) : ow_AM M_Reader_fail (d + 1) [.ref 13, .int (nI k)] (85, I, J, R) (fun r h' => ∃ (r6 : Int32) (I6 : Nat → Nat → Int32) (J6 : Nat → Nat → Int64) (R6 : Nat → Nat → Option Nat), r = some (.int r6) ∧ h' = (85, I6, J6, R6) ∧ ow_RF R6 ∧ (R6 25 0 = some 1 ∧ ((r6 = 0 ∨ r6 = 1) ∧ Q (some (.int r6)) (85, I6, J6, R6)))) := by
  refine c_Reader_fail hR hC ?_
  intro I2 f2 a1 a2
  exact ⟨0, I2, J, R, rfl, rfl, hR, hTx, Or.inl rfl, hF I2 J (sp_rEs f2) a1 a2⟩
theorem c_Reader_lineOf (hR : ow_RF R) (hTx : R 25 0 = some 1) (hX : tk_ok X) (hp : p ≤ X.1) (hC : tC I X p) (hQ : Q (some (.int (nI (pr_line X p)))) (85, I, J, R)) : ow_AM M_Reader_lineOf (d + 6) [.ref 13] (85, I, J, R) Q := by
  apply t_Reader_lineOf hR hTx
  unfold pr_line at hQ
  refine c_Tokens_isWord (i := 0) hR hTx hX (by decide) hp hC ⟨_, I, J, R, rfl, rfl, hR, hTx, ?_⟩
  cases b0 : tk_is X p 0 with
  | true =>
    rw [b0, if_pos rfl] at hQ
    first | exact ⟨fun c => absurd c (by decide), fun _ => hQ⟩ | exact ⟨fun _ => hQ, fun c => absurd c (by decide)⟩
  | false =>
    rw [b0, if_neg (by decide)] at hQ
    refine ⟨fun _ => ?_, fun c => absurd rfl c⟩
    refine c_Tokens_isWord (i := 1) hR hTx hX (by decide) hp hC ⟨_, I, J, R, rfl, rfl, hR, hTx, ?_⟩
    cases b1 : tk_is X p 1 with
    | true =>
      rw [b1, if_pos rfl] at hQ
      first | exact ⟨fun c => absurd c (by decide), fun _ => hQ⟩ | exact ⟨fun _ => hQ, fun c => absurd c (by decide)⟩
    | false =>
      rw [b1, if_neg (by decide)] at hQ
      refine ⟨fun _ => ?_, fun c => absurd rfl c⟩
      refine c_Tokens_isWord (i := 2) hR hTx hX (by decide) hp hC ⟨_, I, J, R, rfl, rfl, hR, hTx, ?_⟩
      cases b2 : tk_is X p 2 with
      | true =>
        rw [b2, if_pos rfl] at hQ
        first | exact ⟨fun c => absurd c (by decide), fun _ => hQ⟩ | exact ⟨fun _ => hQ, fun c => absurd c (by decide)⟩
      | false =>
        rw [b2, if_neg (by decide)] at hQ
        refine ⟨fun _ => ?_, fun c => absurd rfl c⟩
        refine c_Tokens_isWord (i := 3) hR hTx hX (by decide) hp hC ⟨_, I, J, R, rfl, rfl, hR, hTx, ?_⟩
        cases b3 : tk_is X p 3 with
        | true =>
          rw [b3, if_pos rfl] at hQ
          first | exact ⟨fun c => absurd c (by decide), fun _ => hQ⟩ | exact ⟨fun _ => hQ, fun c => absurd c (by decide)⟩
        | false =>
          rw [b3, if_neg (by decide)] at hQ
          refine ⟨fun _ => ?_, fun c => absurd rfl c⟩
          refine c_Tokens_isWord (i := 4) hR hTx hX (by decide) hp hC ⟨_, I, J, R, rfl, rfl, hR, hTx, ?_⟩
          cases b4 : tk_is X p 4 with
          | true =>
            rw [b4, if_pos rfl] at hQ
            first | exact ⟨fun c => absurd c (by decide), fun _ => hQ⟩ | exact ⟨fun _ => hQ, fun c => absurd c (by decide)⟩
          | false =>
            rw [b4, if_neg (by decide)] at hQ
            refine ⟨fun _ => ?_, fun c => absurd rfl c⟩
            refine c_Tokens_isWord (i := 5) hR hTx hX (by decide) hp hC ⟨_, I, J, R, rfl, rfl, hR, hTx, ?_⟩
            cases b5 : tk_is X p 5 with
            | true =>
              rw [b5, if_pos rfl] at hQ
              first | exact ⟨fun c => absurd c (by decide), fun _ => hQ⟩ | exact ⟨fun _ => hQ, fun c => absurd c (by decide)⟩
            | false =>
              rw [b5, if_neg (by decide)] at hQ
              refine ⟨fun _ => ?_, fun c => absurd rfl c⟩
              refine c_Tokens_isWord (i := 6) hR hTx hX (by decide) hp hC ⟨_, I, J, R, rfl, rfl, hR, hTx, ?_⟩
              cases b6 : tk_is X p 6 with
              | true =>
                rw [b6, if_pos rfl] at hQ
                first | exact ⟨fun c => absurd c (by decide), fun _ => hQ⟩ | exact ⟨fun _ => hQ, fun c => absurd c (by decide)⟩
              | false =>
                rw [b6, if_neg (by decide)] at hQ
                exact ⟨fun _ => hQ, fun c => absurd rfl c⟩
theorem c_passWord {i : Nat} (hR : ow_RF R) (hTx : R 25 0 = some 1) (hX : tk_ok X) (hi : i < 19) (hp : p ≤ X.1) (hC : tC I X p) (hF : ∀ q, pr_word X i p = .inl q → rf Q I R q) (hO : ∀ p2, pr_word X i p = .inr p2 → ∀ I2 : Nat → Nat → Int32, sp_fr [] sp_rE I I2 → tC I2 X p2 → Q (some (.int 1)) (85, I2, J, R)) : ow_AM M_Reader_passWord (d + 6) [.ref 13, .ref (1000 + i)] (85, I, J, R) Q := by
  apply t_Reader_passWord hi hR hTx
  refine c_Tokens_isWord hR hTx hX hi hp hC ⟨_, I, J, R, rfl, rfl, hR, hTx, ?_⟩
  unfold pr_word at hF hO
  cases hb : tk_is X p i with
  | true =>
    rw [hb, if_pos rfl] at hO
    refine ⟨fun _ => ?_, fun c => absurd c (by decide)⟩
    refine c_adv hR hTx hX hp hC ?_
    intro I2 f2 h2
    exact ⟨I2, J, R, rfl, rfl, hR, hTx, hO _ rfl I2 (sp_fr_mono f2 (by decide) (by decide)) h2⟩
  | false =>
    rw [hb, if_neg (by decide)] at hF
    refine ⟨fun c => absurd rfl c, fun _ => ?_⟩
    exact c_rf (k := 1) hR hTx hC (hF _ rfl)
theorem tk_v_lt (hk : tk_k X p = 2) : tk_v X p < 1000 := by
  obtain ⟨l1, l2, l3⟩ := tk_k2 hk
  have h1 := sp_dv_lt (B := X.2) (a := tk_a X p) (tk_d X p) (fun i hi => (sp_run_in (X := X) (lo := 48) (hi := 57) (p := tk_a X p) hi).2)
  have h2 : 10 ^ tk_d X p ≤ 10 ^ 3 := Nat.pow_le_pow_right (by decide) l3
  exact Nat.lt_of_lt_of_le h1 h2
theorem c_takeWhole {m : Nat} (hR : ow_RF R) (hTx : R 25 0 = some 1) (hX : tk_ok X) (hm : m ≤ 100) (hp : p ≤ X.1) (hC : tC I X p) (hF : ∀ q, pr_whole X m p = .inl q → rf Q I R q) (hO : ∀ q, pr_whole X m p = .inr q → ∀ I2 : Nat → Nat → Int32, sp_fr [] sp_rE I I2 → tC I2 X q.2 → I2 13 8 = nI q.1 → Q (some (.int 1)) (85, I2, J, R)) : ow_AM M_Reader_takeWhole (d + 3) [.ref 13, .int (nI m)] (85, I, J, R) Q := by
  have hk4 := tk_k4 (X := X) (p := p)
  apply t_Reader_takeWhole hR hTx
  rw [hC.2.2.1, show (nI (tk_k X p) = 2) = (nI (tk_k X p) = nI 2) from rfl, nI_eq (by omega) (by decide)]
  unfold pr_whole at hF hO
  refine ⟨fun c => ?_, fun c => ?_⟩
  · rw [if_pos c] at hF hO
    have hv := tk_v_lt c
    refine c_Tokens_wholeValue hR hTx hX hp hC c ⟨_, I, J, R, rfl, rfl, hR, hTx, ?_⟩
    rw [nI_leI (by omega) (by omega)]
    refine ⟨fun c2 I7 e7 => ?_, fun c2 => ?_⟩
    · rw [if_pos c2] at hO
      have f7 : sp_fr [] sp_rE I I7 := sp_fr_ue e7 (by decide)
      have h7 : tC I7 X p := tC_k hC (by rw [e7, ow_u_ne (by decide)]) (by rw [e7, ow_u_ne (by decide)])
      refine c_adv hR hTx hX hp h7 ?_
      intro I2 f2 h2
      refine ⟨I2, J, R, rfl, rfl, hR, hTx, hO _ rfl I2 (sp_fr_tr f7 (sp_fr_mono f2 (by decide) (by decide))) h2 ?_⟩
      rw [f2 13 (by decide) 8 (by decide), e7, ow_u_at]
    · rw [if_neg c2] at hF
      exact c_rf (k := 4) hR hTx hC (hF _ rfl)
  · rw [if_neg c] at hF
    exact c_rf (k := 1) hR hTx hC (hF _ rfl)
theorem c_Reader_follyNamed {w : List Nat} (hR : ow_RF R) (hN : nC I J D) (hw : sp_wd1 w) (hQ : Q (some (.int (sp_m1 (sp_fst (fun f => decide (dd_m D f = w)) (st_n (dd_T D)))))) (85, I, J, R)) : ow_AM M_Reader_follyNamed (d + 1) [.ref 13, .long (lN (sp_cl2 w))] (85, I, J, R) Q := by
  obtain ⟨n1, n2, n3, n4, n5, n6⟩ := hN
  have hw2 := sp_cl2_lt hw
  apply t_Reader_follyNamed hR
  refine sp_up (σ := Unit) (N := st_n (dd_T D)) (G := fun i _ => ow_AW ow_Y0 (ow_Z Q) M_Reader_follyNamed (d + 1) 0 0 2 [(0, .ref 13), (1, .long (lN (sp_cl2 w))), (3, .int (nI i))] [] (85, I, J, R) 0 0) (Inv := fun i _ => sp_fst (fun f => decide (dd_m D f = w)) i = none) ?_ ?_ 0 () (Nat.zero_le _) rfl
  · intro _ h0
    apply t_Reader_follyNamed_2 hR
    rw [n1]
    rw [h0] at hQ
    exact ⟨fun _ => hQ, fun c => absurd (Int32.le_refl _) c⟩
  · intro i _ hi h0 ih
    obtain ⟨a1, a2⟩ := n5 i hi
    have a3 := sp_cl2_lt a2
    apply t_Reader_follyNamed_2 hR
    rw [n1, sp_cl (by omega), a1, lg_cmpN (by omega) (by omega), sp_cl2_inj a2 hw, nI_1]
    refine ⟨fun c => absurd c (nI_ge hi (by omega)), fun _ => ⟨vp_in_nI (by omega) (by decide), fun c => ih () ?_, fun c => ?_⟩⟩
    · rw [sp_fst, h0]
      dsimp only
      rw [decide_eq_false c]
      rfl
    · have h1 : sp_fst (fun f => decide (dd_m D f = w)) (i + 1) = some i := by
        rw [sp_fst, h0]
        dsimp only
        rw [decide_eq_true c]
        rfl
      have h2 := sp_fst_k h1 (st_n (dd_T D) - (i + 1))
      rw [show i + 1 + (st_n (dd_T D) - (i + 1)) = st_n (dd_T D) by omega] at h2
      rw [h2] at hQ
      exact hQ
theorem c_Reader_isEstateNamed {w : List Nat} (hR : ow_RF R) (hN : nC I J D) (hw : sp_wd1 w) (hQ : Q (some (.int (sp_jb (sp_fst (fun e => decide (dd_m D (6 + e) = w)) (st_ne (dd_T D))).isSome))) (85, I, J, R)) : ow_AM M_Reader_isEstateNamed (d + 1) [.ref 13, .long (lN (sp_cl2 w))] (85, I, J, R) Q := by
  obtain ⟨n1, n2, n3, n4, n5, n6⟩ := hN
  have hw2 := sp_cl2_lt hw
  apply t_Reader_isEstateNamed hR
  refine sp_up (σ := Unit) (N := st_ne (dd_T D)) (G := fun i _ => ow_AW ow_Y0 (ow_Z Q) M_Reader_isEstateNamed (d + 1) 0 0 2 [(0, .ref 13), (1, .long (lN (sp_cl2 w))), (3, .int (nI i))] [] (85, I, J, R) 0 0) (Inv := fun i _ => sp_fst (fun e => decide (dd_m D (6 + e) = w)) i = none) ?_ ?_ 0 () (Nat.zero_le _) rfl
  · intro _ h0
    apply t_Reader_isEstateNamed_2 hR
    rw [n2]
    rw [h0] at hQ
    exact ⟨fun _ => hQ, fun c => absurd (Int32.le_refl _) c⟩
  · intro i _ hi h0 ih
    obtain ⟨a1, a2⟩ := n6 i hi
    have a3 := sp_cl2_lt a2
    apply t_Reader_isEstateNamed_2 hR
    rw [n2, sp_cl (by omega), a1, lg_cmpN (by omega) (by omega), sp_cl2_inj a2 hw, nI_1]
    refine ⟨fun c => absurd c (nI_ge hi (by omega)), fun _ => ⟨vp_in_nI (by omega) (by decide), fun c => ih () ?_, fun c => ?_⟩⟩
    · rw [sp_fst, h0]
      dsimp only
      rw [decide_eq_false c]
      rfl
    · have h1 : sp_fst (fun e => decide (dd_m D (6 + e) = w)) (i + 1) = some i := by
        rw [sp_fst, h0]
        dsimp only
        rw [decide_eq_true c]
        rfl
      have h2 := sp_fst_k h1 (st_ne (dd_T D) - (i + 1))
      rw [show i + 1 + (st_ne (dd_T D) - (i + 1)) = st_ne (dd_T D) by omega] at h2
      rw [h2] at hQ
      exact hQ
theorem pr_line_lt : pr_line X p < 8 := by
  unfold pr_line
  repeat' split
  all_goals decide
theorem c_takeNewName (hR : ow_RF R) (hTx : R 25 0 = some 1) (hX : tk_ok X) (hp : p ≤ X.1) (hC : tC I X p) (hN : nC I J D) (hF : ∀ q, pr_new X D p = .inl q → rf Q I R q) (hO : ∀ q, pr_new X D p = .inr q → sp_wd1 q.1 → ∀ (I2 : Nat → Nat → Int32) (J2 : Nat → Nat → Int64), sp_fr [] sp_rE I I2 → tC I2 X q.2 → J2 27 = J 27 → J2 28 = J 28 → J2 13 7 = lN (sp_cl2 q.1) → Q (some (.int 1)) (85, I2, J2, R)) : ow_AM M_Reader_takeNewName (d + 7) [.ref 13] (85, I, J, R) Q := by
  have hk4 := tk_k4 (X := X) (p := p)
  have hl8 := pr_line_lt (X := X) (p := p)
  apply t_Reader_takeNewName hR hTx
  rw [hC.2.2.1, show (nI (tk_k X p) = 1) = (nI (tk_k X p) = nI 1) from rfl, nI_eq (by omega) (by decide)]
  unfold pr_new at hF hO
  refine ⟨fun c => ?_, fun c => ?_⟩
  · rw [if_neg (fun z => c z.1)] at hF
    exact c_rf (k := 1) hR hTx hC (hF _ rfl)
  · refine c_Reader_lineOf hR hTx hX hp hC ⟨_, I, J, R, rfl, rfl, hR, hTx, ?_⟩
    rw [sp_z (n := pr_line X p) (by omega)]
    refine ⟨fun c2 => ?_, fun c2 => ?_⟩
    · rw [if_pos ⟨c, c2⟩] at hF hO
      have hw := tk_wd1 c
      refine c_Tokens_wordCode hR hTx hX hp hC c ⟨_, I, J, R, rfl, rfl, hR, hTx, ?_⟩
      intro J2 e2
      have w2 : J2 13 7 = lN (sp_cl2 (tk_w X p)) := by rw [e2, ow_u_at]
      have r27 : J2 27 = J 27 := by rw [e2, ow_u_ne (by decide)]
      have r28 : J2 28 = J 28 := by rw [e2, ow_u_ne (by decide)]
      have hN2 : nC I J2 D := nC_k hN rfl rfl r27 r28
      rw [w2]
      refine c_Reader_follyNamed hR hN2 hw ⟨_, I, J2, R, rfl, rfl, hR, hTx, ?_⟩
      rw [w2]
      have hfn : sp_fst (fun f => decide (dd_m D f = tk_w X p)) (st_n (dd_T D)) = pr_fn X D p := rfl
      rw [hfn]
      cases h1 : pr_fn X D p with
      | some f =>
        have hf := sp_fst_lt _ _ h1
        have hn6 := hN.2.2.1
        rw [h1, if_neg (fun z => by cases z.1)] at hF
        have hne : ¬ sp_m1 (some f) = -1 := by
          intro z
          have z : nI f = -1 := z
          have h3 := nI_toInt (n := f) (by omega)
          rw [z] at h3
          have h4 : (-1 : Int32).toInt = -1 := by decide
          omega
        refine ⟨fun _ => ?_, fun z => absurd z hne⟩
        exact c_rf (k := 3) hR hTx hC (hF _ rfl)
      | none =>
        refine ⟨fun z => absurd rfl z, fun _ => ?_⟩
        refine c_Reader_isEstateNamed hR hN2 hw ⟨_, I, J2, R, rfl, rfl, hR, hTx, ?_⟩
        have hen : sp_fst (fun e => decide (dd_m D (6 + e) = tk_w X p)) (st_ne (dd_T D)) = pr_en X D p := rfl
        rw [hen]
        cases h2 : pr_en X D p with
        | some e =>
          rw [h1, h2, if_neg (fun z => by cases z.2)] at hF
          refine ⟨fun z => absurd z (show ¬ (1 : Int32) = 0 by decide), fun _ => ?_⟩
          exact c_rf (k := 3) hR hTx hC (hF _ rfl)
        | none =>
          rw [h1, h2, if_pos ⟨rfl, rfl⟩] at hO
          refine ⟨fun _ => ?_, fun z => absurd rfl z⟩
          refine c_adv hR hTx hX hp hC ?_
          intro I2 f2 h2
          exact ⟨I2, J2, R, rfl, rfl, hR, hTx, hO _ rfl hw I2 J2 (sp_fr_mono f2 (by decide) (by decide)) h2 r27 r28 w2⟩
    · rw [if_neg (fun z => c2 z.2)] at hF
      exact c_rf (k := 1) hR hTx hC (hF _ rfl)
theorem c_takeFolly {bar : Nat} (hR : ow_RF R) (hTx : R 25 0 = some 1) (hX : tk_ok X) (hp : p ≤ X.1) (hb : bar < 64) (hC : tC I X p) (hN : nC I J D) (hF : ∀ q, pr_fol X D bar p = .inl q → rf Q I R q) (hO : ∀ q, pr_fol X D bar p = .inr q → q.1 < st_n (dd_T D) → ∀ I2 : Nat → Nat → Int32, sp_fr [] sp_rE I I2 → tC I2 X q.2 → I2 13 8 = nI q.1 → Q (some (.int 1)) (85, I2, J, R)) : ow_AM M_Reader_takeFolly (d + 7) [.ref 13, .int (nI bar)] (85, I, J, R) Q := by
  have hk4 := tk_k4 (X := X) (p := p)
  have hl8 := pr_line_lt (X := X) (p := p)
  have hn6 := hN.2.2.1
  apply t_Reader_takeFolly hR hTx
  rw [hC.2.2.1, show (nI (tk_k X p) = 1) = (nI (tk_k X p) = nI 1) from rfl, nI_eq (by omega) (by decide)]
  unfold pr_fol at hF hO
  refine ⟨fun c => ?_, fun c => ?_⟩
  · rw [if_neg (fun z => c z.1)] at hF
    exact c_rf (k := 1) hR hTx hC (hF _ rfl)
  · refine c_Reader_lineOf hR hTx hX hp hC ⟨_, I, J, R, rfl, rfl, hR, hTx, ?_⟩
    rw [sp_z (n := pr_line X p) (by omega)]
    refine ⟨fun c2 => ?_, fun c2 => ?_⟩
    · rw [if_pos ⟨c, c2⟩] at hF hO
      have hw := tk_wd1 c
      refine c_Tokens_wordCode hR hTx hX hp hC c ⟨_, I, J, R, rfl, rfl, hR, hTx, ?_⟩
      refine c_Reader_follyNamed hR hN hw ⟨_, I, J, R, rfl, rfl, hR, hTx, ?_⟩
      have hfn : sp_fst (fun f => decide (dd_m D f = tk_w X p)) (st_n (dd_T D)) = pr_fn X D p := rfl
      rw [hfn]
      cases h1 : pr_fn X D p with
      | none =>
        rw [h1] at hF
        refine ⟨fun z => absurd rfl z, fun _ => ?_⟩
        exact c_rf (k := 2) hR hTx hC (hF _ rfl)
      | some f =>
        have hf := sp_fst_lt _ _ h1
        rw [h1] at hF hO
        dsimp only at hF hO
        have hne : ¬ sp_m1 (some f) = -1 := by
          intro z
          have z : nI f = -1 := z
          have h3 := nI_toInt (n := f) (by omega)
          rw [z] at h3
          have h4 : (-1 : Int32).toInt = -1 := by decide
          omega
        refine ⟨fun _ => ?_, fun z => absurd z hne⟩
        rw [show sp_m1 (some f) = nI f from rfl, sp_bit bar hb f (by omega)]
        refine ⟨fun c3 I7 e7 => ?_, fun c3 => ?_⟩
        · rw [if_neg (sp_b0 c3)] at hO
          have f7 : sp_fr [] sp_rE I I7 := sp_fr_ue e7 (by decide)
          have h7 : tC I7 X p := tC_k hC (by rw [e7, ow_u_ne (by decide)]) (by rw [e7, ow_u_ne (by decide)])
          refine c_adv hR hTx hX hp h7 ?_
          intro I2 f2 h2
          refine ⟨I2, J, R, rfl, rfl, hR, hTx, hO _ rfl hf I2 (sp_fr_tr f7 (sp_fr_mono f2 (by decide) (by decide))) h2 ?_⟩
          rw [f2 13 (by decide) 8 (by decide), e7, ow_u_at]
        · rw [if_pos (sp_b1 c3)] at hF
          exact c_rf (k := 3) hR hTx hC (hF _ rfl)
    · rw [if_neg (fun z => c2 z.2)] at hF
      exact c_rf (k := 1) hR hTx hC (hF _ rfl)
theorem c_takeShape (hR : ow_RF R) (hTx : R 25 0 = some 1) (hX : tk_ok X) (hp : p ≤ X.1) (hC : tC I X p) (hF : ∀ q, pr_shape X p = .inl q → rf Q I R q) (hO : ∀ q, pr_shape X p = .inr q → ∀ I2 : Nat → Nat → Int32, sp_fr [] sp_rE I I2 → tC I2 X q.2 → I2 13 8 = nI q.1 → Q (some (.int 1)) (85, I2, J, R)) : ow_AM M_Reader_takeShape (d + 6) [.ref 13] (85, I, J, R) Q := by
  apply t_Reader_takeShape hR hTx
  unfold pr_shape at hF hO
  refine c_Tokens_isWord (i := 9) hR hTx hX (by decide) hp hC ⟨_, I, J, R, rfl, rfl, hR, hTx, ?_⟩
  cases b9 : tk_is X p 9 with
  | true =>
    rw [b9, if_pos rfl] at hO
    refine ⟨fun c => absurd c (by decide), fun _ => ?_⟩
    intro I7 e7
    have f7 : sp_fr [] sp_rE I I7 := sp_fr_ue e7 (by decide)
    have h7 : tC I7 X p := tC_k hC (by rw [e7, ow_u_ne (by decide)]) (by rw [e7, ow_u_ne (by decide)])
    refine c_adv hR hTx hX hp h7 ?_
    intro I2 f2 h2
    refine ⟨I2, J, R, rfl, rfl, hR, hTx, hO _ rfl I2 (sp_fr_tr f7 (sp_fr_mono f2 (by decide) (by decide))) h2 ?_⟩
    rw [f2 13 (by decide) 8 (by decide), e7, ow_u_at]
    rfl
  | false =>
    rw [b9, if_neg (by decide)] at hF hO
    refine ⟨fun _ => ?_, fun c => absurd rfl c⟩
    refine c_Tokens_isWord (i := 10) hR hTx hX (by decide) hp hC ⟨_, I, J, R, rfl, rfl, hR, hTx, ?_⟩
    cases b10 : tk_is X p 10 with
    | true =>
      rw [b10, if_pos rfl] at hO
      refine ⟨fun c => absurd c (by decide), fun _ => ?_⟩
      intro I7 e7
      have f7 : sp_fr [] sp_rE I I7 := sp_fr_ue e7 (by decide)
      have h7 : tC I7 X p := tC_k hC (by rw [e7, ow_u_ne (by decide)]) (by rw [e7, ow_u_ne (by decide)])
      refine c_adv hR hTx hX hp h7 ?_
      intro I2 f2 h2
      refine ⟨I2, J, R, rfl, rfl, hR, hTx, hO _ rfl I2 (sp_fr_tr f7 (sp_fr_mono f2 (by decide) (by decide))) h2 ?_⟩
      rw [f2 13 (by decide) 8 (by decide), e7, ow_u_at]
      rfl
    | false =>
      rw [b10, if_neg (by decide)] at hF hO
      refine ⟨fun _ => ?_, fun c => absurd rfl c⟩
      refine c_Tokens_isWord (i := 11) hR hTx hX (by decide) hp hC ⟨_, I, J, R, rfl, rfl, hR, hTx, ?_⟩
      cases b11 : tk_is X p 11 with
      | true =>
        rw [b11, if_pos rfl] at hO
        refine ⟨fun c => absurd c (by decide), fun _ => ?_⟩
        intro I7 e7
        have f7 : sp_fr [] sp_rE I I7 := sp_fr_ue e7 (by decide)
        have h7 : tC I7 X p := tC_k hC (by rw [e7, ow_u_ne (by decide)]) (by rw [e7, ow_u_ne (by decide)])
        refine c_adv hR hTx hX hp h7 ?_
        intro I2 f2 h2
        refine ⟨I2, J, R, rfl, rfl, hR, hTx, hO _ rfl I2 (sp_fr_tr f7 (sp_fr_mono f2 (by decide) (by decide))) h2 ?_⟩
        rw [f2 13 (by decide) 8 (by decide), e7, ow_u_at]
        rfl
      | false =>
        rw [b11, if_neg (by decide)] at hF hO
        refine ⟨fun _ => ?_, fun c => absurd rfl c⟩
        refine c_Tokens_isWord (i := 12) hR hTx hX (by decide) hp hC ⟨_, I, J, R, rfl, rfl, hR, hTx, ?_⟩
        cases b12 : tk_is X p 12 with
        | true =>
          rw [b12, if_pos rfl] at hO
          refine ⟨fun c => absurd c (by decide), fun _ => ?_⟩
          intro I7 e7
          have f7 : sp_fr [] sp_rE I I7 := sp_fr_ue e7 (by decide)
          have h7 : tC I7 X p := tC_k hC (by rw [e7, ow_u_ne (by decide)]) (by rw [e7, ow_u_ne (by decide)])
          refine c_adv hR hTx hX hp h7 ?_
          intro I2 f2 h2
          refine ⟨I2, J, R, rfl, rfl, hR, hTx, hO _ rfl I2 (sp_fr_tr f7 (sp_fr_mono f2 (by decide) (by decide))) h2 ?_⟩
          rw [f2 13 (by decide) 8 (by decide), e7, ow_u_at]
          rfl
        | false =>
          rw [b12, if_neg (by decide)] at hF hO
          refine ⟨fun _ => ?_, fun c => absurd rfl c⟩
          refine c_Tokens_isWord (i := 13) hR hTx hX (by decide) hp hC ⟨_, I, J, R, rfl, rfl, hR, hTx, ?_⟩
          cases b13 : tk_is X p 13 with
          | true =>
            rw [b13, if_pos rfl] at hO
            refine ⟨fun c => absurd c (by decide), fun _ => ?_⟩
            intro I7 e7
            have f7 : sp_fr [] sp_rE I I7 := sp_fr_ue e7 (by decide)
            have h7 : tC I7 X p := tC_k hC (by rw [e7, ow_u_ne (by decide)]) (by rw [e7, ow_u_ne (by decide)])
            refine c_adv hR hTx hX hp h7 ?_
            intro I2 f2 h2
            refine ⟨I2, J, R, rfl, rfl, hR, hTx, hO _ rfl I2 (sp_fr_tr f7 (sp_fr_mono f2 (by decide) (by decide))) h2 ?_⟩
            rw [f2 13 (by decide) 8 (by decide), e7, ow_u_at]
            rfl
          | false =>
            rw [b13, if_neg (by decide)] at hF hO
            refine ⟨fun _ => ?_, fun c => absurd rfl c⟩
            exact c_rf (k := 1) hR hTx hC (hF _ rfl)
theorem c_takeAnswer {l : Bool} (hR : ow_RF R) (hTx : R 25 0 = some 1) (hX : tk_ok X) (hp : p ≤ X.1) (hC : tC I X p) (hF : ∀ q, pr_ans X l p = .inl q → rf Q I R q) (hO : ∀ q, pr_ans X l p = .inr q → ∀ I2 : Nat → Nat → Int32, sp_fr [] sp_rE I I2 → tC I2 X q.2 → I2 13 8 = sp_jo q.1 → Q (some (.int 1)) (85, I2, J, R)) : ow_AM M_Reader_takeAnswer (d + 6) [.ref 13, .int (sp_jb l)] (85, I, J, R) Q := by
  apply t_Reader_takeAnswer hR hTx
  unfold pr_ans at hF hO
  refine c_Tokens_isWord (i := 16) hR hTx hX (by decide) hp hC ⟨_, I, J, R, rfl, rfl, hR, hTx, ?_⟩
  cases b16 : tk_is X p 16 with
  | true =>
    rw [b16, if_pos rfl] at hO
    refine ⟨fun c => absurd c (by decide), fun _ => ?_⟩
    intro I7 e7
    have f7 : sp_fr [] sp_rE I I7 := sp_fr_ue e7 (by decide)
    have h7 : tC I7 X p := tC_k hC (by rw [e7, ow_u_ne (by decide)]) (by rw [e7, ow_u_ne (by decide)])
    refine c_adv hR hTx hX hp h7 ?_
    intro I2 f2 h2
    refine ⟨I2, J, R, rfl, rfl, hR, hTx, hO _ rfl I2 (sp_fr_tr f7 (sp_fr_mono f2 (by decide) (by decide))) h2 ?_⟩
    rw [f2 13 (by decide) 8 (by decide), e7, ow_u_at]
    rfl
  | false =>
    rw [b16, if_neg (by decide)] at hF hO
    refine ⟨fun _ => ?_, fun c => absurd rfl c⟩
    refine c_Tokens_isWord (i := 17) hR hTx hX (by decide) hp hC ⟨_, I, J, R, rfl, rfl, hR, hTx, ?_⟩
    cases b17 : tk_is X p 17 with
    | true =>
      rw [b17, if_pos rfl] at hO
      refine ⟨fun c => absurd c (by decide), fun _ => ?_⟩
      intro I7 e7
      have f7 : sp_fr [] sp_rE I I7 := sp_fr_ue e7 (by decide)
      have h7 : tC I7 X p := tC_k hC (by rw [e7, ow_u_ne (by decide)]) (by rw [e7, ow_u_ne (by decide)])
      refine c_adv hR hTx hX hp h7 ?_
      intro I2 f2 h2
      refine ⟨I2, J, R, rfl, rfl, hR, hTx, hO _ rfl I2 (sp_fr_tr f7 (sp_fr_mono f2 (by decide) (by decide))) h2 ?_⟩
      rw [f2 13 (by decide) 8 (by decide), e7, ow_u_at]
      rfl
    | false =>
      rw [b17, if_neg (by decide)] at hF hO
      refine ⟨fun _ => ?_, fun c => absurd rfl c⟩
      cases l with
      | false =>
        rw [if_neg (fun z => by cases z.1)] at hF
        refine ⟨fun _ => ?_, fun c => absurd rfl c⟩
        exact c_rf (k := 1) hR hTx hC (hF _ rfl)
      | true =>
        refine ⟨fun c => absurd c (by decide), fun _ => ?_⟩
        refine c_Tokens_isWord (i := 18) hR hTx hX (by decide) hp hC ⟨_, I, J, R, rfl, rfl, hR, hTx, ?_⟩
        cases b18 : tk_is X p 18 with
        | true =>
          rw [b18, if_pos ⟨rfl, rfl⟩] at hO
          refine ⟨fun c => absurd c (by decide), fun _ => ?_⟩
          intro I7 e7
          have f7 : sp_fr [] sp_rE I I7 := sp_fr_ue e7 (by decide)
          have h7 : tC I7 X p := tC_k hC (by rw [e7, ow_u_ne (by decide)]) (by rw [e7, ow_u_ne (by decide)])
          refine c_adv hR hTx hX hp h7 ?_
          intro I2 f2 h2
          refine ⟨I2, J, R, rfl, rfl, hR, hTx, hO _ rfl I2 (sp_fr_tr f7 (sp_fr_mono f2 (by decide) (by decide))) h2 ?_⟩
          rw [f2 13 (by decide) 8 (by decide), e7, ow_u_at]
          rfl
        | false =>
          rw [b18, if_neg (fun z => by cases z.2)] at hF
          refine ⟨fun _ => ?_, fun c => absurd rfl c⟩
          exact c_rf (k := 1) hR hTx hC (hF _ rfl)
end READ1
