/-! Own rows: lines of a text; as the object reads them. -/
def up_wr (T : sp_T) (w r : Nat) : sp_T := (T.1, (w, r), T.2.2)
def up_fo (T : sp_T) (s z : Nat) : sp_T := ((st_n T + 1, sp_y T.1, sp_h T.1, fu (sp_sh T.1) (st_n T) s, fu (sp_so T.1) (st_n T) z, fu (sp_to T.1) (st_n T) 0), T.2)
def up_se (T : sp_T) (f t : Nat) : sp_T := ((st_n T, sp_y T.1, sp_h T.1, sp_sh T.1, sp_so T.1, fu (sp_to T.1) f (t + 1)), T.2)
def up_he (T : sp_T) (f : Nat) : sp_T := ((st_n T, sp_y T.1, sp_h T.1 ||| 2 ^ f, sp_sh T.1, sp_so T.1, sp_to T.1), T.2)
def up_es (T : sp_T) (f z : Nat) : sp_T := (T.1, T.2.1, (st_ne T + 1, fu (st_ef T) (st_ne T) f, fu (st_de T) (st_ne T) z), T.2.2.2)
def up_ve (T : sp_T) (f : Nat) : sp_T := (T.1, T.2.1, T.2.2.1, (st_nv T + 1, fu (st_vf T) (st_nv T) f), T.2.2.2.2)
def up_si (T : sp_T) (l : Nat) (a : Option Bool) : sp_T := (T.1, T.2.1, T.2.2.1, T.2.2.2.1, (st_ns T + 1, fu (st_sl T) (st_ns T) l, fu (st_sa T) (st_ns T) a))
def pr_shire (X : sp_Tx) (D : sp_D) (p : Nat) : sp_E (sp_D × Nat) := if dd_o D = true then er X 3 p else bd (pr_word X 7 (tk_n X p)) (fun p1 => bd (pr_whole X 100 p1) (fun q2 => bd (pr_word X 8 q2.2) (fun p3 => bd (pr_whole X 9 p3) (fun q4 => .inr ((true, up_wr (dd_T D) q2.1 q4.1, D.2.2), q4.2)))))
def pr_folly (X : sp_Tx) (D : sp_D) (p : Nat) : sp_E (sp_D × Nat) := bd (pr_new X D p) (fun q1 => bd (pr_shape X q1.2) (fun q2 => bd (pr_word X 14 q2.2) (fun p3 => bd (pr_whole X 99 p3) (fun q4 => .inr ((dd_o D, up_fo (dd_T D) q2.1 q4.1, (dd_s D, dd_v D), fu (dd_m D) (st_n (dd_T D)) q1.1), q4.2)))))
def pr_sends (X : sp_Tx) (D : sp_D) (p : Nat) : sp_E (sp_D × Nat) := bd (pr_fol X D (dd_s D) p) (fun q1 => bd (pr_fol X D (2 ^ q1.1) q1.2) (fun q2 => .inr ((dd_o D, up_se (dd_T D) q1.1 q2.1, (dd_s D ||| 2 ^ q1.1, dd_v D), dd_m D), q2.2)))
def pr_hermit (X : sp_Tx) (D : sp_D) (p : Nat) : sp_E (sp_D × Nat) := bd (pr_fol X D (sp_h (dd_T D).1) p) (fun q1 => .inr ((dd_o D, up_he (dd_T D) q1.1, (dd_s D, dd_v D), dd_m D), q1.2))
def pr_estate (X : sp_Tx) (D : sp_D) (p : Nat) : sp_E (sp_D × Nat) := bd (pr_new X D p) (fun q1 => bd (pr_fol X D 0 q1.2) (fun q2 => bd (pr_word X 15 q2.2) (fun p3 => bd (pr_whole X 99 p3) (fun q4 => .inr ((dd_o D, up_es (dd_T D) q2.1 q4.1, (dd_s D, dd_v D), fu (dd_m D) (6 + st_ne (dd_T D)) q1.1), q4.2)))))
def pr_veiled (X : sp_Tx) (D : sp_D) (p : Nat) : sp_E (sp_D × Nat) := bd (pr_fol X D (dd_v D) p) (fun q1 => .inr ((dd_o D, up_ve (dd_T D) q1.1, (dd_s D, dd_v D ||| 2 ^ q1.1), dd_m D), q1.2))
def pr_signed (X : sp_Tx) (D : sp_D) (p : Nat) : sp_E (sp_D × Nat) := bd (pr_fol X D 0 p) (fun q1 => bd (pr_ans X false q1.2) (fun q2 => bd (pr_ans X true q2.2) (fun q3 => .inr ((dd_o D, up_si (dd_T D) (2 * q1.1 + (q2.1.getD false).toNat) q3.1, (dd_s D, dd_v D), dd_m D), q3.2))))
/-- no room for one more of the sort -/
def pr_full (D : sp_D) (k : Nat) : Bool := if k = 2 then decide (6 ≤ st_n (dd_T D)) else if k = 5 then decide (5 ≤ st_ne (dd_T D)) else if k = 6 then decide (3 ≤ st_nv (dd_T D)) else if k = 7 then decide (5 ≤ st_ns (dd_T D)) else false
def pr_kind (X : sp_Tx) (D : sp_D) (p k : Nat) : sp_E (sp_D × Nat) := if k = 2 then pr_folly X D p else if k = 3 then pr_sends X D p else if k = 4 then pr_hermit X D p else if k = 5 then pr_estate X D p else if k = 6 then pr_veiled X D p else pr_signed X D p
def pr_rl (X : sp_Tx) (D : sp_D) (p : Nat) : sp_E (sp_D × Nat) := if pr_line X p = 0 then er X 1 p else if pr_line X p = 1 then pr_shire X D p else if pr_full D (pr_line X p) = true then er X 5 p else if dd_o D = false then er X 6 p else pr_kind X D (tk_n X p) (pr_line X p)
def pr_go (X : sp_Tx) : Nat → sp_D → Nat → sp_E sp_D
  | 0, _, p => er X 1 p
  | k + 1, D, p => bd (pr_rl X D p) (fun q => if tk_k X q.2 = 0 then (if 0 < st_n (dd_T q.1) then .inr q.1 else er X 6 q.2) else if tk_k X q.2 = 3 then pr_go X k q.1 (tk_n X q.2) else er X 1 q.2)
/-- what holds of all that is read -/
def dk (D : sp_D) : Prop := st_n (dd_T D) ≤ 6 ∧ st_ne (dd_T D) ≤ 5 ∧ st_nv (dd_T D) ≤ 3 ∧ st_ns (dd_T D) ≤ 5 ∧ dd_s D < 64 ∧ dd_v D < 64 ∧ sp_h (dd_T D).1 < 64 ∧ sp_y (dd_T D).1 = 0 ∧ st_wd (dd_T D) ≤ 100 ∧ st_rt (dd_T D) < 10 ∧ (∀ f, f < st_n (dd_T D) → sp_sh (dd_T D).1 f < 5 ∧ sp_so (dd_T D).1 f < 100 ∧ sp_to (dd_T D).1 f ≤ st_n (dd_T D)) ∧ (∀ e, e < st_ne (dd_T D) → st_ef (dd_T D) e < st_n (dd_T D) ∧ st_de (dd_T D) e < 100) ∧ (∀ k, k < st_nv (dd_T D) → st_vf (dd_T D) k < st_n (dd_T D)) ∧ (∀ i j, i < st_nv (dd_T D) → j < st_nv (dd_T D) → st_vf (dd_T D) i = st_vf (dd_T D) j → i = j) ∧ (∀ k, k < st_ns (dd_T D) → st_sl (dd_T D) k < 2 * st_n (dd_T D)) ∧ (∀ f, f < 6 → (dd_s D).testBit f = decide (f < st_n (dd_T D) ∧ sp_to (dd_T D).1 f ≠ 0)) ∧ (∀ f, f < 6 → ((dd_v D).testBit f = true ↔ ∃ k, k < st_nv (dd_T D) ∧ st_vf (dd_T D) k = f)) ∧ (∀ f, f < st_n (dd_T D) → sp_wd1 (dd_m D f)) ∧ (∀ e, e < st_ne (dd_T D) → sp_wd1 (dd_m D (6 + e))) ∧ (∀ f, st_n (dd_T D) ≤ f → f < 6 → dd_m D f = []) ∧ (∀ e, st_ne (dd_T D) ≤ e → e < 5 → dd_m D (6 + e) = []) ∧ (dd_o D = false → st_n (dd_T D) = 0)
/-- the object's draft holds it -/
def dC (I : Nat → Nat → Int32) (J : Nat → Nat → Int64) (D : sp_D) : Prop := (I 14 0 = nI (st_wd (dd_T D)) ∧ I 14 1 = nI (st_rt (dd_T D)) ∧ I 14 3 = nI (st_ne (dd_T D)) ∧ I 14 7 = nI (st_nv (dd_T D)) ∧ I 14 9 = nI (st_ns (dd_T D))) ∧ sp_S I 15 (dd_T D).1 ∧ (∀ e, e < st_ne (dd_T D) → I 19 e = nI (st_ef (dd_T D) e) ∧ I 20 e = nI (st_de (dd_T D) e)) ∧ (∀ g, g < 6 → I 21 g = nI (st_eo (dd_T D) g)) ∧ (∀ k, k < st_nv (dd_T D) → I 22 k = nI (st_vf (dd_T D) k)) ∧ (∀ k, k < st_ns (dd_T D) → I 23 k = nI (st_sl (dd_T D) k) ∧ I 24 k = sp_jo (st_sa (dd_T D) k)) ∧ (I 13 4 = sp_jb (dd_o D) ∧ I 13 5 = nI (dd_s D) ∧ I 13 6 = nI (dd_v D)) ∧ (∀ f, f < st_n (dd_T D) → J 27 f = lN (sp_cl2 (dd_m D f))) ∧ ∀ e, e < st_ne (dd_T D) → J 28 e = lN (sp_cl2 (dd_m D (6 + e)))
theorem dC_r {I I2 : Nat → Nat → Int32} {J J2 : Nat → Nat → Int64} {D : sp_D} (h : dC I J D) (hr : ∀ a, 14 ≤ a → a ≤ 24 → I2 a = I a) (h4 : I2 13 4 = I 13 4) (h5 : I2 13 5 = I 13 5) (h6 : I2 13 6 = I 13 6) (h7 : J2 27 = J 27) (h8 : J2 28 = J 28) : dC I2 J2 D := by
  unfold dC sp_S at h ⊢
  rw [hr 14 (by decide) (by decide), hr 15 (by decide) (by decide), hr (15 + 1) (by decide) (by decide), hr (15 + 2) (by decide) (by decide), hr (15 + 3) (by decide) (by decide), hr 19 (by decide) (by decide), hr 20 (by decide) (by decide), hr 21 (by decide) (by decide), hr 22 (by decide) (by decide), hr 23 (by decide) (by decide), hr 24 (by decide) (by decide), h4, h5, h6, h7, h8]
  exact h
theorem dC_k {I I2 : Nat → Nat → Int32} {J J2 : Nat → Nat → Int64} {D : sp_D} (h : dC I J D) (hf : sp_fr [] sp_rE I I2) (h7 : J2 27 = J 27) (h8 : J2 28 = J 28) : dC I2 J2 D := dC_r h (fun a h1 h2 => sp_fr_row hf (by simp) (by intro k; simp [sp_rE]; omega)) (hf 13 (by decide) 4 (by decide)) (hf 13 (by decide) 5 (by decide)) (hf 13 (by decide) 6 (by decide)) h7 h8
theorem dC_n {I : Nat → Nat → Int32} {J : Nat → Nat → Int64} {D : sp_D} (h : dC I J D) (hk : dk D) : nC I J D := ⟨h.2.1.1, h.1.2.2.1, hk.1, hk.2.1, fun f hf => ⟨h.2.2.2.2.2.2.2.1 f hf, hk.2.2.2.2.2.2.2.2.2.2.2.2.2.2.2.2.2.1 f hf⟩, fun e he => ⟨h.2.2.2.2.2.2.2.2 e he, hk.2.2.2.2.2.2.2.2.2.2.2.2.2.2.2.2.2.2.1 e he⟩⟩
theorem pr_word_le {X : sp_Tx} {i p q : Nat} (hp : p ≤ X.1) (h : pr_word X i p = .inr q) : q = tk_n X p ∧ q ≤ X.1 := by
  unfold pr_word at h
  by_cases c : tk_is X p i = true
  · rw [if_pos c] at h
    cases h
    exact ⟨rfl, tk_n_le hp⟩
  · rw [if_neg c] at h; cases h
theorem pr_whole_le {X : sp_Tx} {m p : Nat} {q : Nat × Nat} (hp : p ≤ X.1) (h : pr_whole X m p = .inr q) : q.1 ≤ m ∧ q.2 = tk_n X p ∧ q.2 ≤ X.1 := by
  unfold pr_whole at h
  by_cases c : tk_k X p = 2
  · rw [if_pos c] at h
    by_cases c2 : tk_v X p ≤ m
    · rw [if_pos c2] at h
      cases h
      exact ⟨c2, rfl, tk_n_le hp⟩
    · rw [if_neg c2] at h; cases h
  · rw [if_neg c] at h; cases h
theorem pr_new_le {X : sp_Tx} {D : sp_D} {p : Nat} {q : List Nat × Nat} (hp : p ≤ X.1) (h : pr_new X D p = .inr q) : sp_wd1 q.1 ∧ q.2 = tk_n X p ∧ q.2 ≤ X.1 := by
  unfold pr_new at h
  by_cases c : tk_k X p = 1 ∧ pr_line X p = 0
  · rw [if_pos c] at h
    by_cases c2 : pr_fn X D p = none ∧ pr_en X D p = none
    · rw [if_pos c2] at h
      cases h
      exact ⟨tk_wd1 c.1, rfl, tk_n_le hp⟩
    · rw [if_neg c2] at h; cases h
  · rw [if_neg c] at h; cases h
theorem pr_fol_le {X : sp_Tx} {D : sp_D} {bar p : Nat} {q : Nat × Nat} (hp : p ≤ X.1) (h : pr_fol X D bar p = .inr q) : q.1 < st_n (dd_T D) ∧ bar.testBit q.1 = false ∧ q.2 = tk_n X p ∧ q.2 ≤ X.1 := by
  unfold pr_fol at h
  by_cases c : tk_k X p = 1 ∧ pr_line X p = 0
  · rw [if_pos c] at h
    cases h1 : pr_fn X D p with
    | none => rw [h1] at h; cases h
    | some f =>
      rw [h1] at h
      dsimp only at h
      by_cases c2 : bar.testBit f = true
      · rw [if_pos c2] at h; cases h
      · rw [if_neg c2] at h
        cases h
        exact ⟨sp_fst_lt _ _ h1, by cases hb : bar.testBit f with | false => rfl | true => exact absurd hb c2, rfl, tk_n_le hp⟩
  · rw [if_neg c] at h; cases h
theorem pr_shape_le {X : sp_Tx} {p : Nat} {q : Nat × Nat} (hp : p ≤ X.1) (h : pr_shape X p = .inr q) : q.1 < 5 ∧ q.2 = tk_n X p ∧ q.2 ≤ X.1 := by
  have hn := tk_n_le hp
  unfold pr_shape at h
  split at h
  · cases h; exact ⟨(by decide : 0 < 5), rfl, hn⟩
  · split at h
    · cases h; exact ⟨(by decide : 1 < 5), rfl, hn⟩
    · split at h
      · cases h; exact ⟨(by decide : 2 < 5), rfl, hn⟩
      · split at h
        · cases h; exact ⟨(by decide : 3 < 5), rfl, hn⟩
        · split at h
          · cases h; exact ⟨(by decide : 4 < 5), rfl, hn⟩
          · cases h
theorem pr_ans_le {X : sp_Tx} {l : Bool} {p : Nat} {q : Option Bool × Nat} (hp : p ≤ X.1) (h : pr_ans X l p = .inr q) : (l = false → q.1 ≠ none) ∧ q.2 = tk_n X p ∧ q.2 ≤ X.1 := by
  have hn := tk_n_le hp
  unfold pr_ans at h
  split at h
  · cases h; exact ⟨fun _ c => (by cases c), rfl, hn⟩
  · split at h
    · cases h; exact ⟨fun _ c => (by cases c), rfl, hn⟩
    · split at h
      · rename_i c
        cases h
        exact ⟨fun hl => (by rw [hl] at c; cases c.1), rfl, hn⟩
      · cases h
theorem pr_full2 {D : sp_D} : pr_full D 2 = decide (6 ≤ st_n (dd_T D)) := by unfold pr_full; rw [if_pos rfl]
theorem pr_full3 {D : sp_D} : pr_full D 3 = false := by unfold pr_full; rw [if_neg (by decide), if_neg (by decide), if_neg (by decide), if_neg (by decide)]
theorem pr_full4 {D : sp_D} : pr_full D 4 = false := by unfold pr_full; rw [if_neg (by decide), if_neg (by decide), if_neg (by decide), if_neg (by decide)]
theorem pr_full5 {D : sp_D} : pr_full D 5 = decide (5 ≤ st_ne (dd_T D)) := by unfold pr_full; rw [if_neg (by decide), if_pos rfl]
theorem pr_full6 {D : sp_D} : pr_full D 6 = decide (3 ≤ st_nv (dd_T D)) := by unfold pr_full; rw [if_neg (by decide), if_neg (by decide), if_pos rfl]
theorem pr_full7 {D : sp_D} : pr_full D 7 = decide (5 ≤ st_ns (dd_T D)) := by unfold pr_full; rw [if_neg (by decide), if_neg (by decide), if_neg (by decide), if_pos rfl]
/-- what is read behind a LINE's first WORD, if there is room -/
def pr_in (X : sp_Tx) (D : sp_D) (p k : Nat) : sp_E (sp_D × Nat) := if pr_full D k = true then er X 5 p else pr_kind X D (tk_n X p) k
theorem pr_in_f {X : sp_Tx} {D : sp_D} {p k : Nat} (h : pr_full D k = true) : pr_in X D p k = .inl (5, tk_a X p) := by unfold pr_in; rw [if_pos h]; rfl
theorem pr_in_n {X : sp_Tx} {D : sp_D} {p k : Nat} (h : pr_full D k = false) : pr_in X D p k = pr_kind X D (tk_n X p) k := by unfold pr_in; rw [h, if_neg (by decide)]
section LINES
variable {d : Nat} {I : Nat → Nat → Int32} {J : Nat → Nat → Int64} {R : Nat → Nat → Option Nat} {Q : Option Value → ow_H → Prop} {X : sp_Tx} {p : Nat} {D : sp_D}
theorem rf_e {q : Nat × Nat} {I1 : Nat → Nat → Int32} (h : rf Q I R q) (hf : sp_fr sp_rS [] I I1) : rf Q I1 R q := rf_k h hf
theorem c_readShire (hR : ow_RF R) (hTx : R 25 0 = some 1) (hX : tk_ok X) (hp : p ≤ X.1) (hC : tC I X p) (hD : dC I J D) (hk : dk D)  (hF : ∀ q, pr_shire X D p = .inl q → rf Q I R q) (hO : ∀ q, pr_shire X D p = .inr q → ∀ (I2 : Nat → Nat → Int32) (J2 : Nat → Nat → Int64), sp_fr sp_rS [] I I2 → tC I2 X q.2 → dC I2 J2 q.1 → Q (some (.int 1)) (85, I2, J2, R)) : ow_AM M_Reader_readShire (d + 8) [.ref 13] (85, I, J, R) Q := by
  apply t_Reader_readShire hR hTx
  unfold pr_shire at hF hO
  have hk1 := hD.2.2.2.2.2.2.1.1
  rw [hk1]
  cases ho : dd_o D with
  | true =>
    rw [ho, if_pos rfl] at hF
    refine ⟨fun c => absurd c (by decide), fun _ => ?_⟩
    exact c_rf (k := 3) hR hTx hC (hF _ rfl)
  | false =>
    rw [ho, if_neg (by decide)] at hF hO
    refine ⟨fun _ I0 e0 => ?_, fun c => absurd rfl c⟩
    have f0 : sp_fr sp_rS [] I I0 := sp_fr_ue e0 (by decide)
    have hC0 : tC I0 X p := tC_k hC (by rw [e0, ow_u_ne (by decide)]) (by rw [e0, ow_u_ne (by decide)])
    have hn := tk_n_le hp
    refine c_adv hR hTx hX hp hC0 ?_
    intro I1 g1 hC1
    refine ⟨I1, J, R, rfl, rfl, hR, hTx, ?_⟩
    have f1 : sp_fr sp_rS [] I I1 := sp_fr_tr f0 (sp_fr_mono g1 (by decide) (by decide))
    refine c_passWord (i := 7) hR hTx hX (by decide) hn hC1 (fun q hq => by
    intro I2 J2 a1 a2 a3
    refine ⟨_, I2, J2, R, rfl, rfl, hR, hTx, ?_⟩
    have K := hF q (by rw [bd_l hq]) I2 J2 (sp_fr_tr f1 a1) a2 a3
    first | exact ⟨fun _ => K, fun c => absurd rfl c⟩ | exact ⟨fun c => absurd rfl c, fun _ => K⟩) ?_
    intro p2 hp2 I3 g3 hC3
    refine ⟨_, I3, J, R, rfl, rfl, hR, hTx, ?_⟩
    refine ⟨fun c => absurd c (by decide), fun _ => ?_⟩
    have l2 := (pr_word_le hn hp2).2
    have f3 : sp_fr sp_rS [] I I3 := sp_fr_tr f1 (sp_rEs g3)
    refine c_takeWhole (m := 100) hR hTx hX (by decide) l2 hC3 (fun q hq => by
    intro I2 J2 a1 a2 a3
    refine ⟨_, I2, J2, R, rfl, rfl, hR, hTx, ?_⟩
    have K := hF q (by rw [bd_r hp2, bd_l hq]) I2 J2 (sp_fr_tr f3 a1) a2 a3
    first | exact ⟨fun _ => K, fun c => absurd rfl c⟩ | exact ⟨fun c => absurd rfl c, fun _ => K⟩) ?_
    intro q4 hq4 I4 g4 hC4 v4
    refine ⟨_, I4, J, R, rfl, rfl, hR, hTx, ?_⟩
    refine ⟨fun _ => ?_, fun c => absurd c (by decide)⟩
    have l4 := (pr_whole_le l2 hq4).2.2
    have f4 : sp_fr sp_rS [] I I4 := sp_fr_tr f3 (sp_rEs g4)
    rw [v4]
    intro I5 e5
    have f5 : sp_fr sp_rS [] I I5 := sp_fr_tr f4 (sp_fr_ue e5 (by decide))
    have hC5 : tC I5 X q4.2 := tC_k hC4 (by rw [e5, ow_u_ne (by decide)]) (by rw [e5, ow_u_ne (by decide)])
    refine c_passWord (i := 8) hR hTx hX (by decide) l4 hC5 (fun q hq => by
    intro I2 J2 a1 a2 a3
    refine ⟨_, I2, J2, R, rfl, rfl, hR, hTx, ?_⟩
    have K := hF q (by rw [bd_r hp2, bd_r hq4, bd_l hq]) I2 J2 (sp_fr_tr f5 a1) a2 a3
    first | exact ⟨fun _ => K, fun c => absurd rfl c⟩ | exact ⟨fun c => absurd rfl c, fun _ => K⟩) ?_
    intro p6 hp6 I6 g6 hC6
    refine ⟨_, I6, J, R, rfl, rfl, hR, hTx, ?_⟩
    refine ⟨fun c => absurd c (by decide), fun _ => ?_⟩
    have l6 := (pr_word_le l4 hp6).2
    have f6 : sp_fr sp_rS [] I I6 := sp_fr_tr f5 (sp_rEs g6)
    refine c_takeWhole (m := 9) hR hTx hX (by decide) l6 hC6 (fun q hq => by
    intro I2 J2 a1 a2 a3
    refine ⟨_, I2, J2, R, rfl, rfl, hR, hTx, ?_⟩
    have K := hF q (by rw [bd_r hp2, bd_r hq4, bd_r hp6, bd_l hq]) I2 J2 (sp_fr_tr f6 a1) a2 a3
    first | exact ⟨fun _ => K, fun c => absurd rfl c⟩ | exact ⟨fun c => absurd rfl c, fun _ => K⟩) ?_
    intro q8 hq8 I8 g8 hC8 v8
    refine ⟨_, I8, J, R, rfl, rfl, hR, hTx, ?_⟩
    refine ⟨fun _ => ?_, fun c => absurd c (by decide)⟩
    rw [v8]
    intro I9 e9
    have f9 : sp_fr sp_rS [] I I9 := sp_fr_tr (sp_fr_tr f6 (sp_rEs g8)) (sp_fr_ue e9 (by decide))
    refine hO _ (by rw [bd_r hp2, bd_r hq4, bd_r hp6, bd_r hq8]) I9 J f9 (tC_k hC8 (by rw [e9, ow_u_ne (by decide)]) (by rw [e9, ow_u_ne (by decide)])) ?_
    have r : ∀ a, 15 ≤ a → a ≤ 24 → I9 a = I a := by
      intro a h1 h2
      rw [e9, ow_u_ne (by omega), sp_fr_row g8 (by simp) (by intro k; simp [sp_rE]; omega), sp_fr_row g6 (by simp) (by intro k; simp [sp_rE]; omega), e5, ow_u_ne (by omega), sp_fr_row g4 (by simp) (by intro k; simp [sp_rE]; omega), sp_fr_row g3 (by simp) (by intro k; simp [sp_rE]; omega), sp_fr_row g1 (by simp) (by intro k; simp; omega), e0, ow_u_ne (by omega)]
    have r13 : ∀ k, 4 < k → k ≤ 6 → I9 13 k = I 13 k := by
      intro k h1 h2
      rw [e9, ow_u_ne (by decide), g8 13 (by decide) k (by simp [sp_rE]; omega), g6 13 (by decide) k (by simp [sp_rE]; omega), e5, ow_u_ne (by decide), g4 13 (by decide) k (by simp [sp_rE]; omega), g3 13 (by decide) k (by simp [sp_rE]; omega), g1 13 (by decide) k (by simp), e0, ow_u_nk (by omega)]
    have r134 : I9 13 4 = 1 := by rw [e9, ow_u_ne (by decide), g8 13 (by decide) 4 (by decide), g6 13 (by decide) 4 (by decide), e5, ow_u_ne (by decide), g4 13 (by decide) 4 (by decide), g3 13 (by decide) 4 (by decide), g1 13 (by decide) 4 (by decide), e0, ow_u_at]
    have r14 : ∀ k, 1 < k → I9 14 k = I 14 k := by
      intro k h1
      rw [e9, ow_u_nk (by omega), sp_fr_row g8 (by decide) (by simp [sp_rE]), sp_fr_row g6 (by decide) (by simp [sp_rE]), e5, ow_u_nk (by omega), sp_fr_row g4 (by decide) (by simp [sp_rE]), sp_fr_row g3 (by decide) (by simp [sp_rE]), sp_fr_row g1 (by decide) (by simp), e0, ow_u_ne (by decide)]
    obtain ⟨⟨x1, x2, x3, x4, x5⟩, y2, y3, y4, y5, y6, ⟨z1, z2, z3⟩, y8, y9⟩ := hD
    refine ⟨⟨?_, ?_, ?_, ?_, ?_⟩, sp_S_kr y2 (r 15 (by decide) (by decide)) (r 16 (by decide) (by decide)) (r 17 (by decide) (by decide)) (r 18 (by decide) (by decide)), ?_, ?_, ?_, ?_, ⟨r134, ?_, ?_⟩, y8, y9⟩
    · rw [e9, ow_u_nk (by decide), sp_fr_row g8 (by decide) (by simp [sp_rE]), sp_fr_row g6 (by decide) (by simp [sp_rE]), e5, ow_u_at]; rfl
    · rw [e9, ow_u_at]; rfl
    · rw [r14 3 (by decide)]; exact x3
    · rw [r14 7 (by decide)]; exact x4
    · rw [r14 9 (by decide)]; exact x5
    · rw [r 19 (by decide) (by decide), r 20 (by decide) (by decide)]; exact y3
    · rw [r 21 (by decide) (by decide)]; exact y4
    · rw [r 22 (by decide) (by decide)]; exact y5
    · rw [r 23 (by decide) (by decide), r 24 (by decide) (by decide)]; exact y6
    · rw [r13 5 (by decide) (by decide)]; exact z2
    · rw [r13 6 (by decide) (by decide)]; exact z3
theorem c_readFolly (hR : ow_RF R) (hTx : R 25 0 = some 1) (hX : tk_ok X) (hp : p ≤ X.1) (hC : tC I X p) (hD : dC I J D) (hk : dk D) (hF : ∀ q, pr_in X D p 2 = .inl q → rf Q I R q) (hO : ∀ q, pr_in X D p 2 = .inr q → ∀ (I2 : Nat → Nat → Int32) (J2 : Nat → Nat → Int64), sp_fr sp_rS [] I I2 → tC I2 X q.2 → dC I2 J2 q.1 → Q (some (.int 1)) (85, I2, J2, R)) : ow_AM M_Reader_readFolly (d + 8) [.ref 13] (85, I, J, R) Q := by
  apply t_Reader_readFolly hR hTx
  rw [show I 15 0 = nI (st_n (dd_T D)) from hD.2.1.1]
  have zl : nI (st_n (dd_T D)) < 6 ↔ st_n (dd_T D) < 6 := nI_ltI (b := 6) (by have := hk.1; omega) (by decide)
  rw [zl]
  refine ⟨fun hrm => ?_, fun hrm => c_rf (k := 5) hR hTx hC (hF _ (pr_in_f (by rw [pr_full2]; exact decide_eq_true (by omega))))⟩
  have hfu : pr_full D 2 = false := by rw [pr_full2]; exact decide_eq_false (by omega)
  have hkd : pr_in X D p 2 = pr_folly X D (tk_n X p) := pr_in_n hfu
  rw [hkd] at hF hO
  have hn := tk_n_le hp
  refine c_adv hR hTx hX hp hC ?_
  intro I0 g0 hC0
  refine ⟨I0, J, R, rfl, rfl, hR, hTx, ?_⟩
  have h0 : sp_fr [] sp_rE I I0 := sp_fr_mono g0 (by decide) (by decide)
  have f0 : sp_fr sp_rS [] I I0 := sp_rEs h0
  have hD0 : dC I0 J D := dC_k hD h0 rfl rfl
  replace hF : ∀ q, pr_folly X D (tk_n X p) = .inl q → rf Q I0 R q := fun q hq => rf_k (hF q hq) f0
  replace hO : ∀ q, pr_folly X D (tk_n X p) = .inr q → ∀ (I2 : Nat → Nat → Int32) (J2 : Nat → Nat → Int64), sp_fr sp_rS [] I0 I2 → tC I2 X q.2 → dC I2 J2 q.1 → Q (some (.int 1)) (85, I2, J2, R) := fun q hq I2 J2 a1 => hO q hq I2 J2 (sp_fr_tr f0 a1)
  unfold pr_folly at hF hO
  refine c_takeNewName (D := D) hR hTx hX hn hC0 (dC_n hD0 hk) (fun q hq => by
    intro I2 J2 a1 a2 a3
    refine ⟨_, I2, J2, R, rfl, rfl, hR, hTx, ?_⟩
    have K := hF q (by rw [bd_l hq]) I2 J2 (sp_fr_tr sp_fr_rf a1) a2 a3
    first | exact ⟨fun _ => K, fun c => absurd rfl c⟩ | exact ⟨fun c => absurd rfl c, fun _ => K⟩) ?_
  intro q1 hq1 hw1 I1 J1 g1 hC1 j27 j28 j7
  refine ⟨_, I1, J1, R, rfl, rfl, hR, hTx, ?_⟩
  first | refine ⟨fun c => absurd c (by decide), fun _ => ?_⟩ | refine ⟨fun _ => ?_, fun c => absurd c (by decide)⟩
  have l1 := (pr_new_le hn hq1).2.2
  have f1 : sp_fr sp_rS [] I0 I1 := sp_rEs g1
  refine c_takeShape hR hTx hX l1 hC1 (fun q hq => by
    intro I2 J2 a1 a2 a3
    refine ⟨_, I2, J2, R, rfl, rfl, hR, hTx, ?_⟩
    have K := hF q (by rw [bd_r hq1, bd_l hq]) I2 J2 (sp_fr_tr f1 a1) a2 a3
    first | exact ⟨fun _ => K, fun c => absurd rfl c⟩ | exact ⟨fun c => absurd rfl c, fun _ => K⟩) ?_
  intro q2 hq2 I2 g2 hC2 v2
  refine ⟨_, I2, J1, R, rfl, rfl, hR, hTx, ?_⟩
  first | refine ⟨fun c => absurd c (by decide), fun _ => ?_⟩ | refine ⟨fun _ => ?_, fun c => absurd c (by decide)⟩
  have l2 := (pr_shape_le l1 hq2).2.2
  have f2 : sp_fr sp_rS [] I0 I2 := sp_fr_tr f1 (sp_rEs g2)
  refine c_passWord (i := 14) hR hTx hX (by decide) l2 hC2 (fun q hq => by
    intro I2 J2 a1 a2 a3
    refine ⟨_, I2, J2, R, rfl, rfl, hR, hTx, ?_⟩
    have K := hF q (by rw [bd_r hq1, bd_r hq2, bd_l hq]) I2 J2 (sp_fr_tr f2 a1) a2 a3
    first | exact ⟨fun _ => K, fun c => absurd rfl c⟩ | exact ⟨fun c => absurd rfl c, fun _ => K⟩) ?_
  intro p3 hp3 I3 g3 hC3
  refine ⟨_, I3, J1, R, rfl, rfl, hR, hTx, ?_⟩
  first | refine ⟨fun c => absurd c (by decide), fun _ => ?_⟩ | refine ⟨fun _ => ?_, fun c => absurd c (by decide)⟩
  have l3 := (pr_word_le l2 hp3).2
  have f3 : sp_fr sp_rS [] I0 I3 := sp_fr_tr f2 (sp_rEs g3)
  refine c_takeWhole (m := 99) hR hTx hX (by decide) l3 hC3 (fun q hq => by
    intro I2 J2 a1 a2 a3
    refine ⟨_, I2, J2, R, rfl, rfl, hR, hTx, ?_⟩
    have K := hF q (by rw [bd_r hq1, bd_r hq2, bd_r hp3, bd_l hq]) I2 J2 (sp_fr_tr f3 a1) a2 a3
    first | exact ⟨fun _ => K, fun c => absurd rfl c⟩ | exact ⟨fun c => absurd rfl c, fun _ => K⟩) ?_
  intro q4 hq4 I4 g4 hC4 v4
  refine ⟨_, I4, J1, R, rfl, rfl, hR, hTx, ?_⟩
  first | refine ⟨fun c => absurd c (by decide), fun _ => ?_⟩ | refine ⟨fun _ => ?_, fun c => absurd c (by decide)⟩
  have f4 : sp_fr sp_rS [] I0 I4 := sp_fr_tr f3 (sp_rEs g4)
  have g14 : sp_fr [] sp_rE I0 I4 := sp_fr_tr (sp_fr_tr (sp_fr_tr g1 g2) g3) g4
  have hD4 : dC I4 J1 D := dC_k hD0 g14 j27 j28
  obtain ⟨⟨x1, x2, x3, x4, x5⟩, y2, y3, y4, y5, y6, ⟨z1, z2, z3⟩, y8, y9⟩ := hD4
  obtain ⟨s1, s2, s3, s4⟩ := y2
  have s1 : I4 15 0 = nI (st_n (dd_T D)) := s1
  rw [v2, v4, sp_cl (by omega), j7]
  refine ⟨vp_in_nI (by omega) (by decide), ?_⟩
  intro J5 e5
  apply t_Scene_add (by decide) hR
  rw [s1, sp_cl (by omega)]
  refine ⟨fun c => absurd c (nI_ge (b := 6) hrm (by decide)), fun _ => ⟨vp_in_nI (by omega) (by decide), fun I6 e6 => ?_⟩⟩
  have a6 : I6 15 0 = nI (st_n (dd_T D)) := by rw [e6, ow_u_ne (by decide)]; exact s1
  rw [a6, sp_cl (by omega)]
  refine ⟨vp_in_nI (by omega) (by decide), fun I7 e7 => ?_⟩
  have a7 : I7 15 0 = nI (st_n (dd_T D)) := by rw [e7, ow_u_ne (by decide)]; exact a6
  rw [a7, sp_cl (by omega)]
  refine ⟨vp_in_nI (by omega) (by decide), fun I8 e8 I9 e9 => ?_⟩
  have a8 : I8 15 0 = nI (st_n (dd_T D)) := by rw [e8, ow_u_ne (by decide)]; exact a7
  rw [a8, nI_1] at e9
  have r : ∀ a, a ≠ 15 → a ≠ 16 → a ≠ 17 → a ≠ 18 → I9 a = I4 a := fun a h1 h2 h3 h4 => by rw [e9, ow_u_ne h1, e8, ow_u_ne h4, e7, ow_u_ne h3, e6, ow_u_ne h2]
  have f9 : sp_fr sp_rS [] I0 I9 := sp_fr_tr (sp_fr_tr (sp_fr_tr (sp_fr_tr f4 (sp_fr_ue e6 (Or.inl (by decide)))) (sp_fr_ue e7 (Or.inl (by decide)))) (sp_fr_ue e8 (Or.inl (by decide)))) (sp_fr_ue e9 (Or.inl (by decide)))
  refine ⟨I9, J5, R, rfl, rfl, hR, hTx, ?_⟩
  refine hO _ (by rw [bd_r hq1, bd_r hq2, bd_r hp3, bd_r hq4]) I9 J5 f9 (tC_k hC4 (r 25 (by decide) (by decide) (by decide) (by decide)) (r 1 (by decide) (by decide) (by decide) (by decide))) ?_
  refine ⟨?_, ⟨?_, ?_, ?_, fun f hf => ?_⟩, ?_, ?_, ?_, ?_, ?_, fun f hf => ?_, fun e he => ?_⟩
  · rw [r 14 (by decide) (by decide) (by decide) (by decide)]; exact ⟨x1, x2, x3, x4, x5⟩
  · rw [e9, ow_u_at]; rfl
  · rw [e9, ow_u_nk (by decide), e8, ow_u_ne (by decide), e7, ow_u_ne (by decide), e6, ow_u_ne (by decide)]; exact s2
  · rw [e9, ow_u_nk (by decide), e8, ow_u_ne (by decide), e7, ow_u_ne (by decide), e6, ow_u_ne (by decide)]; exact s3
  · have w16 : I9 16 = I6 16 := by rw [e9, ow_u_ne (by decide), e8, ow_u_ne (by decide), e7, ow_u_ne (by decide)]
    have w17 : I9 17 = I7 17 := by rw [e9, ow_u_ne (by decide), e8, ow_u_ne (by decide)]
    have w18 : I9 18 = I8 18 := by rw [e9, ow_u_ne (by decide)]
    rw [w16, w17, w18, e6, e7, e8]
    have hf : f < st_n (dd_T D) + 1 := hf
    show _ = nI (fu (sp_sh (dd_T D).1) (st_n (dd_T D)) q2.1 f) ∧ _ = nI (fu (sp_so (dd_T D).1) (st_n (dd_T D)) q4.1 f) ∧ _ = sp_tg (fu (sp_to (dd_T D).1) (st_n (dd_T D)) 0 f)
    by_cases hfn : f = st_n (dd_T D)
    · subst hfn
      rw [fu_at, fu_at, fu_at, ow_u_at, ow_u_at, ow_u_at]
      exact ⟨rfl, rfl, rfl⟩
    · rw [fu_ne hfn, fu_ne hfn, fu_ne hfn, ow_u_nk hfn, ow_u_nk hfn, ow_u_nk hfn]
      have q := s4 f (show f < st_n (dd_T D) by omega)
      refine ⟨q.1, ?_, ?_⟩
      · rw [e6, ow_u_ne (by decide)]; exact q.2.1
      · rw [e7, ow_u_ne (by decide), e6, ow_u_ne (by decide)]; exact q.2.2
  · rw [r 19 (by decide) (by decide) (by decide) (by decide), r 20 (by decide) (by decide) (by decide) (by decide)]; exact y3
  · rw [r 21 (by decide) (by decide) (by decide) (by decide)]; exact y4
  · rw [r 22 (by decide) (by decide) (by decide) (by decide)]; exact y5
  · rw [r 23 (by decide) (by decide) (by decide) (by decide), r 24 (by decide) (by decide) (by decide) (by decide)]; exact y6
  · rw [r 13 (by decide) (by decide) (by decide) (by decide)]; exact ⟨z1, z2, z3⟩
  · have hf : f < st_n (dd_T D) + 1 := hf
    show J5 27 f = lN (sp_cl2 (fu (dd_m D) (st_n (dd_T D)) q1.1 f))
    by_cases hfn : f = st_n (dd_T D)
    · subst hfn
      rw [fu_at, e5, ow_u_at]
    · rw [fu_ne hfn, e5, ow_u_nk hfn]
      exact y8 f (by omega)
  · have he : e < st_ne (dd_T D) := he
    show J5 28 e = lN (sp_cl2 (fu (dd_m D) (st_n (dd_T D)) q1.1 (6 + e)))
    rw [fu_ne (by omega), e5, ow_u_ne (by decide)]
    exact y9 e he
theorem c_readSends (hR : ow_RF R) (hTx : R 25 0 = some 1) (hX : tk_ok X) (hp : p ≤ X.1) (hC : tC I X p) (hD : dC I J D) (hk : dk D)  (hF : ∀ q, pr_in X D p 3 = .inl q → rf Q I R q) (hO : ∀ q, pr_in X D p 3 = .inr q → ∀ (I2 : Nat → Nat → Int32) (J2 : Nat → Nat → Int64), sp_fr sp_rS [] I I2 → tC I2 X q.2 → dC I2 J2 q.1 → Q (some (.int 1)) (85, I2, J2, R)) : ow_AM M_Reader_readSends (d + 8) [.ref 13] (85, I, J, R) Q := by
  apply t_Reader_readSends hR hTx
  have hfu : pr_full D 3 = false := pr_full3
  have hkd : pr_in X D p 3 = pr_sends X D (tk_n X p) := pr_in_n hfu
  rw [hkd] at hF hO
  have hn := tk_n_le hp
  refine c_adv hR hTx hX hp hC ?_
  intro I0 g0 hC0
  refine ⟨I0, J, R, rfl, rfl, hR, hTx, ?_⟩
  have h0 : sp_fr [] sp_rE I I0 := sp_fr_mono g0 (by decide) (by decide)
  have f0 : sp_fr sp_rS [] I I0 := sp_rEs h0
  have hD0 : dC I0 J D := dC_k hD h0 rfl rfl
  replace hF : ∀ q, pr_sends X D (tk_n X p) = .inl q → rf Q I0 R q := fun q hq => rf_k (hF q hq) f0
  replace hO : ∀ q, pr_sends X D (tk_n X p) = .inr q → ∀ (I2 : Nat → Nat → Int32) (J2 : Nat → Nat → Int64), sp_fr sp_rS [] I0 I2 → tC I2 X q.2 → dC I2 J2 q.1 → Q (some (.int 1)) (85, I2, J2, R) := fun q hq I2 J2 a1 => hO q hq I2 J2 (sp_fr_tr f0 a1)
  unfold pr_sends at hF hO
  have n6 := hk.1
  have hs64 := hk.2.2.2.2.1
  rw [hD0.2.2.2.2.2.2.1.2.1]
  refine c_takeFolly (D := D) hR hTx hX hn hs64 hC0 (dC_n hD0 hk) (fun q hq => by
    intro I2 J2 a1 a2 a3
    refine ⟨_, I2, J2, R, rfl, rfl, hR, hTx, ?_⟩
    have K := hF q (by rw [bd_l hq]) I2 J2 (sp_fr_tr sp_fr_rf a1) a2 a3
    first | exact ⟨fun _ => K, fun c => absurd rfl c⟩ | exact ⟨fun c => absurd rfl c, fun _ => K⟩) ?_
  intro q1 hq1 hn1 I1 g1 hC1 v1
  refine ⟨_, I1, J, R, rfl, rfl, hR, hTx, ?_⟩
  first | refine ⟨fun c => absurd c (by decide), fun _ => ?_⟩ | refine ⟨fun _ => ?_, fun c => absurd c (by decide)⟩
  have l1 := (pr_fol_le hn hq1).2.2.2
  have f1 : sp_fr sp_rS [] I0 I1 := sp_rEs g1
  have hD1 : dC I1 J D := dC_k hD0 g1 rfl rfl
  have p64 : 2 ^ q1.1 < 64 := by have : 2 ^ q1.1 ≤ 2 ^ 5 := Nat.pow_le_pow_right (by decide) (by omega); omega
  rw [v1, (sp_sh1 q1.1 (by omega)).1]
  refine c_takeFolly (D := D) hR hTx hX l1 p64 hC1 (dC_n hD1 hk) (fun q hq => by
    intro I2 J2 a1 a2 a3
    refine ⟨_, I2, J2, R, rfl, rfl, hR, hTx, ?_⟩
    have K := hF q (by rw [bd_r hq1, bd_l hq]) I2 J2 (sp_fr_tr f1 a1) a2 a3
    first | exact ⟨fun _ => K, fun c => absurd rfl c⟩ | exact ⟨fun c => absurd rfl c, fun _ => K⟩) ?_
  intro q2 hq2 hn2 I2 g2 hC2 v2
  refine ⟨_, I2, J, R, rfl, rfl, hR, hTx, ?_⟩
  first | refine ⟨fun c => absurd c (by decide), fun _ => ?_⟩ | refine ⟨fun _ => ?_, fun c => absurd c (by decide)⟩
  have f2 : sp_fr sp_rS [] I0 I2 := sp_fr_tr f1 (sp_rEs g2)
  have hD2 : dC I2 J D := dC_k hD1 g2 rfl rfl
  obtain ⟨⟨x1, x2, x3, x4, x5⟩, y2, y3, y4, y5, y6, ⟨z1, z2, z3⟩, y8, y9⟩ := hD2
  rw [z2, ← (sp_sh1 q1.1 (by omega)).1, (sp_or _ hs64 q1.1 (by omega)).1]
  intro I3 e3
  have v3 : I3 13 8 = nI q2.1 := by rw [e3, ow_u_nk (by decide)]; exact v2
  rw [v3]
  have hne : ¬ q2.1 = q1.1 := fun z => by
    have hb := (pr_fol_le l1 hq2).2.1
    rw [z, Nat.testBit_two_pow_self] at hb
    cases hb
  have s15 : I3 15 0 = nI (st_n (dd_T D)) := by rw [e3, ow_u_ne (by decide)]; exact y2.1
  refine c_Scene_aim (n := st_n (dd_T D)) hR (by decide) (show 15 + 3 = 18 from rfl) s15 n6 hn1 ?_
  intro I4 e4
  rw [if_neg (fun z => hne ((nI_eq (by omega) (by omega)).mp z))] at e4
  refine ⟨I4, J, R, rfl, rfl, hR, hTx, ?_⟩
  have r : ∀ a, a ≠ 13 → a ≠ 18 → I4 a = I2 a := fun a h1 h2 => by rw [e4, ow_u_ne h2, e3, ow_u_ne h1]
  have f4 : sp_fr sp_rS [] I0 I4 := sp_fr_tr (sp_fr_tr f2 (sp_fr_ue e3 (Or.inl (by decide)))) (sp_fr_ue e4 (Or.inl (by decide)))
  refine hO _ (by rw [bd_r hq1, bd_r hq2]) I4 J f4 (tC_k hC2 (r 25 (by decide) (by decide)) (r 1 (by decide) (by decide))) ?_
  obtain ⟨s1, s2, s3, s4⟩ := y2
  refine ⟨?_, ⟨?_, ?_, ?_, fun f hf => ?_⟩, ?_, ?_, ?_, ?_, ⟨?_, ?_, ?_⟩, y8, y9⟩
  · rw [r 14 (by decide) (by decide)]; exact ⟨x1, x2, x3, x4, x5⟩
  · rw [r 15 (by decide) (by decide)]; exact s1
  · rw [r 15 (by decide) (by decide)]; exact s2
  · rw [r 15 (by decide) (by decide)]; exact s3
  · have hf : f < st_n (dd_T D) := hf
    rw [r 16 (by decide) (by decide), r 17 (by decide) (by decide)]
    refine ⟨(s4 f hf).1, (s4 f hf).2.1, ?_⟩
    show I4 18 f = sp_tg (fu (sp_to (dd_T D).1) q1.1 (q2.1 + 1) f)
    rw [e4]
    by_cases hfq : f = q1.1
    · rw [hfq, fu_at, ow_u_at]; rfl
    · rw [fu_ne hfq, ow_u_nk hfq, e3, ow_u_ne (by decide)]; exact (s4 f hf).2.2
  · rw [r 19 (by decide) (by decide), r 20 (by decide) (by decide)]; exact y3
  · rw [r 21 (by decide) (by decide)]; exact y4
  · rw [r 22 (by decide) (by decide)]; exact y5
  · rw [r 23 (by decide) (by decide), r 24 (by decide) (by decide)]; exact y6
  · rw [e4, ow_u_ne (by decide), e3, ow_u_nk (by decide)]; exact z1
  · rw [e4, ow_u_ne (by decide), e3, ow_u_at]; rfl
  · rw [e4, ow_u_ne (by decide), e3, ow_u_nk (by decide)]; exact z3
theorem c_readHermit (hR : ow_RF R) (hTx : R 25 0 = some 1) (hX : tk_ok X) (hp : p ≤ X.1) (hC : tC I X p) (hD : dC I J D) (hk : dk D)  (hF : ∀ q, pr_in X D p 4 = .inl q → rf Q I R q) (hO : ∀ q, pr_in X D p 4 = .inr q → ∀ (I2 : Nat → Nat → Int32) (J2 : Nat → Nat → Int64), sp_fr sp_rS [] I I2 → tC I2 X q.2 → dC I2 J2 q.1 → Q (some (.int 1)) (85, I2, J2, R)) : ow_AM M_Reader_readHermit (d + 8) [.ref 13] (85, I, J, R) Q := by
  apply t_Reader_readHermit hR hTx
  have hfu : pr_full D 4 = false := pr_full4
  have hkd : pr_in X D p 4 = pr_hermit X D (tk_n X p) := pr_in_n hfu
  rw [hkd] at hF hO
  have hn := tk_n_le hp
  refine c_adv hR hTx hX hp hC ?_
  intro I0 g0 hC0
  refine ⟨I0, J, R, rfl, rfl, hR, hTx, ?_⟩
  have h0 : sp_fr [] sp_rE I I0 := sp_fr_mono g0 (by decide) (by decide)
  have f0 : sp_fr sp_rS [] I I0 := sp_rEs h0
  have hD0 : dC I0 J D := dC_k hD h0 rfl rfl
  replace hF : ∀ q, pr_hermit X D (tk_n X p) = .inl q → rf Q I0 R q := fun q hq => rf_k (hF q hq) f0
  replace hO : ∀ q, pr_hermit X D (tk_n X p) = .inr q → ∀ (I2 : Nat → Nat → Int32) (J2 : Nat → Nat → Int64), sp_fr sp_rS [] I0 I2 → tC I2 X q.2 → dC I2 J2 q.1 → Q (some (.int 1)) (85, I2, J2, R) := fun q hq I2 J2 a1 => hO q hq I2 J2 (sp_fr_tr f0 a1)
  unfold pr_hermit at hF hO
  have n6 := hk.1
  have h64 := hk.2.2.2.2.2.2.1
  rw [show I0 15 2 = nI (sp_h (dd_T D).1) from hD0.2.1.2.2.1]
  refine c_takeFolly (D := D) hR hTx hX hn h64 hC0 (dC_n hD0 hk) (fun q hq => by
    intro I2 J2 a1 a2 a3
    refine ⟨_, I2, J2, R, rfl, rfl, hR, hTx, ?_⟩
    have K := hF q (by rw [bd_l hq]) I2 J2 (sp_fr_tr sp_fr_rf a1) a2 a3
    first | exact ⟨fun _ => K, fun c => absurd rfl c⟩ | exact ⟨fun c => absurd rfl c, fun _ => K⟩) ?_
  intro q1 hq1 hn1 I1 g1 hC1 v1
  refine ⟨_, I1, J, R, rfl, rfl, hR, hTx, ?_⟩
  first | refine ⟨fun c => absurd c (by decide), fun _ => ?_⟩ | refine ⟨fun _ => ?_, fun c => absurd c (by decide)⟩
  have f1 : sp_fr sp_rS [] I0 I1 := sp_rEs g1
  have hD1 : dC I1 J D := dC_k hD0 g1 rfl rfl
  obtain ⟨⟨x1, x2, x3, x4, x5⟩, y2, y3, y4, y5, y6, ⟨z1, z2, z3⟩, y8, y9⟩ := hD1
  obtain ⟨s1, s2, s3, s4⟩ := y2
  rw [v1, s3, (sp_or _ h64 q1.1 (by omega)).1]
  intro I4 e4
  have r : ∀ a, a ≠ 15 → I4 a = I1 a := fun a h1 => by rw [e4, ow_u_ne h1]
  refine hO _ (by rw [bd_r hq1]) I4 J (sp_fr_tr f1 (sp_fr_ue e4 (Or.inl (by decide)))) (tC_k hC1 (r 25 (by decide)) (r 1 (by decide))) ?_
  refine ⟨?_, ⟨?_, ?_, ?_, fun f hf => ?_⟩, ?_, ?_, ?_, ?_, ?_, y8, y9⟩
  · rw [r 14 (by decide)]; exact ⟨x1, x2, x3, x4, x5⟩
  · rw [e4, ow_u_nk (by decide)]; exact s1
  · rw [e4, ow_u_nk (by decide)]; exact s2
  · rw [e4, ow_u_at]; rfl
  · rw [r 16 (by decide), r 17 (by decide), r 18 (by decide)]; exact s4 f hf
  · rw [r 19 (by decide), r 20 (by decide)]; exact y3
  · rw [r 21 (by decide)]; exact y4
  · rw [r 22 (by decide)]; exact y5
  · rw [r 23 (by decide), r 24 (by decide)]; exact y6
  · rw [r 13 (by decide)]; exact ⟨z1, z2, z3⟩
theorem sp_em_fu {ef : Nat → Nat} {g n f : Nat} : ∀ k, k ≤ n → sp_em (fu ef n f) g k = sp_em ef g k := by
  intro k
  induction k with
  | zero => intro _; rfl
  | succ k ih =>
    intro hk
    rw [sp_em, sp_em, ih (by omega), fu_ne (by omega)]
theorem c_readEstate (hR : ow_RF R) (hTx : R 25 0 = some 1) (hX : tk_ok X) (hp : p ≤ X.1) (hC : tC I X p) (hD : dC I J D) (hk : dk D) (hF : ∀ q, pr_in X D p 5 = .inl q → rf Q I R q) (hO : ∀ q, pr_in X D p 5 = .inr q → ∀ (I2 : Nat → Nat → Int32) (J2 : Nat → Nat → Int64), sp_fr sp_rS [] I I2 → tC I2 X q.2 → dC I2 J2 q.1 → Q (some (.int 1)) (85, I2, J2, R)) : ow_AM M_Reader_readEstate (d + 8) [.ref 13] (85, I, J, R) Q := by
  apply t_Reader_readEstate hR hTx
  rw [hD.1.2.2.1]
  have zl : nI (st_ne (dd_T D)) < 5 ↔ st_ne (dd_T D) < 5 := nI_ltI (b := 5) (by have := hk.2.1; omega) (by decide)
  rw [zl]
  refine ⟨fun hrm => ?_, fun hrm => c_rf (k := 5) hR hTx hC (hF _ (pr_in_f (by rw [pr_full5]; exact decide_eq_true (by omega))))⟩
  have hfu : pr_full D 5 = false := by rw [pr_full5]; exact decide_eq_false (by omega)
  have hkd : pr_in X D p 5 = pr_estate X D (tk_n X p) := pr_in_n hfu
  rw [hkd] at hF hO
  have hn := tk_n_le hp
  refine c_adv hR hTx hX hp hC ?_
  intro I0 g0 hC0
  refine ⟨I0, J, R, rfl, rfl, hR, hTx, ?_⟩
  have h0 : sp_fr [] sp_rE I I0 := sp_fr_mono g0 (by decide) (by decide)
  have f0 : sp_fr sp_rS [] I I0 := sp_rEs h0
  have hD0 : dC I0 J D := dC_k hD h0 rfl rfl
  replace hF : ∀ q, pr_estate X D (tk_n X p) = .inl q → rf Q I0 R q := fun q hq => rf_k (hF q hq) f0
  replace hO : ∀ q, pr_estate X D (tk_n X p) = .inr q → ∀ (I2 : Nat → Nat → Int32) (J2 : Nat → Nat → Int64), sp_fr sp_rS [] I0 I2 → tC I2 X q.2 → dC I2 J2 q.1 → Q (some (.int 1)) (85, I2, J2, R) := fun q hq I2 J2 a1 => hO q hq I2 J2 (sp_fr_tr f0 a1)
  unfold pr_estate at hF hO
  have n6 := hk.1
  refine c_takeNewName (D := D) hR hTx hX hn hC0 (dC_n hD0 hk) (fun q hq => by
    intro I2 J2 a1 a2 a3
    refine ⟨_, I2, J2, R, rfl, rfl, hR, hTx, ?_⟩
    have K := hF q (by rw [bd_l hq]) I2 J2 (sp_fr_tr sp_fr_rf a1) a2 a3
    first | exact ⟨fun _ => K, fun c => absurd rfl c⟩ | exact ⟨fun c => absurd rfl c, fun _ => K⟩) ?_
  intro q1 hq1 hw1 I1 J1 g1 hC1 j27 j28 j7
  refine ⟨_, I1, J1, R, rfl, rfl, hR, hTx, ?_⟩
  first | refine ⟨fun c => absurd c (by decide), fun _ => ?_⟩ | refine ⟨fun _ => ?_, fun c => absurd c (by decide)⟩
  have l1 := (pr_new_le hn hq1).2.2
  have f1 : sp_fr sp_rS [] I0 I1 := sp_rEs g1
  have hD1 : dC I1 J1 D := dC_k hD0 g1 j27 j28
  refine c_takeFolly (D := D) (bar := 0) hR hTx hX l1 (by decide) hC1 (dC_n hD1 hk) (fun q hq => by
    intro I2 J2 a1 a2 a3
    refine ⟨_, I2, J2, R, rfl, rfl, hR, hTx, ?_⟩
    have K := hF q (by rw [bd_r hq1, bd_l hq]) I2 J2 (sp_fr_tr f1 a1) a2 a3
    first | exact ⟨fun _ => K, fun c => absurd rfl c⟩ | exact ⟨fun c => absurd rfl c, fun _ => K⟩) ?_
  intro q2 hq2 hn2 I2 g2 hC2 v2
  refine ⟨_, I2, J1, R, rfl, rfl, hR, hTx, ?_⟩
  first | refine ⟨fun c => absurd c (by decide), fun _ => ?_⟩ | refine ⟨fun _ => ?_, fun c => absurd c (by decide)⟩
  have l2 := (pr_fol_le l1 hq2).2.2.2
  have f2 : sp_fr sp_rS [] I0 I2 := sp_fr_tr f1 (sp_rEs g2)
  refine c_passWord (i := 15) hR hTx hX (by decide) l2 hC2 (fun q hq => by
    intro I2 J2 a1 a2 a3
    refine ⟨_, I2, J2, R, rfl, rfl, hR, hTx, ?_⟩
    have K := hF q (by rw [bd_r hq1, bd_r hq2, bd_l hq]) I2 J2 (sp_fr_tr f2 a1) a2 a3
    first | exact ⟨fun _ => K, fun c => absurd rfl c⟩ | exact ⟨fun c => absurd rfl c, fun _ => K⟩) ?_
  intro p3 hp3 I3 g3 hC3
  refine ⟨_, I3, J1, R, rfl, rfl, hR, hTx, ?_⟩
  first | refine ⟨fun c => absurd c (by decide), fun _ => ?_⟩ | refine ⟨fun _ => ?_, fun c => absurd c (by decide)⟩
  have l3 := (pr_word_le l2 hp3).2
  have f3 : sp_fr sp_rS [] I0 I3 := sp_fr_tr f2 (sp_rEs g3)
  refine c_takeWhole (m := 99) hR hTx hX (by decide) l3 hC3 (fun q hq => by
    intro I2 J2 a1 a2 a3
    refine ⟨_, I2, J2, R, rfl, rfl, hR, hTx, ?_⟩
    have K := hF q (by rw [bd_r hq1, bd_r hq2, bd_r hp3, bd_l hq]) I2 J2 (sp_fr_tr f3 a1) a2 a3
    first | exact ⟨fun _ => K, fun c => absurd rfl c⟩ | exact ⟨fun c => absurd rfl c, fun _ => K⟩) ?_
  intro q4 hq4 I4 g4 hC4 v4
  refine ⟨_, I4, J1, R, rfl, rfl, hR, hTx, ?_⟩
  first | refine ⟨fun c => absurd c (by decide), fun _ => ?_⟩ | refine ⟨fun _ => ?_, fun c => absurd c (by decide)⟩
  have f4 : sp_fr sp_rS [] I0 I4 := sp_fr_tr f3 (sp_rEs g4)
  have hD4 : dC I4 J1 D := dC_k hD1 (sp_fr_tr (sp_fr_tr g2 g3) g4) rfl rfl
  obtain ⟨⟨x1, x2, x3, x4, x5⟩, y2, y3, y4, y5, y6, ⟨z1, z2, z3⟩, y8, y9⟩ := hD4
  rw [v2, v4, sp_cl (by omega), j7]
  refine ⟨vp_in_nI (by omega) (by decide), ?_⟩
  intro J5 e5
  apply t_Told_addEstate hR
  refine ⟨fun c => absurd c (by rw [x3]; exact nI_ge (b := 5) hrm (by decide)), fun _ => ?_⟩
  refine c_Scene_has (n := st_n (dd_T D)) hR (by decide) y2.1 n6 hn2 ⟨_, I4, J5, R, rfl, rfl, hR, fun c => absurd c (by decide), fun _ => ?_⟩
  rw [x3, sp_cl (n := st_ne (dd_T D)) (by omega)]
  refine ⟨vp_in_nI (by omega) (by decide), fun I6 e6 => ?_⟩
  have a6 : I6 14 3 = nI (st_ne (dd_T D)) := by rw [e6, ow_u_ne (by decide)]; exact x3
  rw [a6, sp_cl (by omega)]
  refine ⟨vp_in_nI (by omega) (by decide), fun I7 e7 => ?_⟩
  have a7 : I7 14 3 = nI (st_ne (dd_T D)) := by rw [e7, ow_u_ne (by decide)]; exact a6
  have b7 : ∀ g, g < 6 → I7 21 g = nI (st_eo (dd_T D) g) := fun g hg => by rw [e7, ow_u_ne (by decide), e6, ow_u_ne (by decide)]; exact y4 g hg
  have em32 : sp_em (st_ef (dd_T D)) q2.1 (st_ne (dd_T D)) < 64 := Nat.lt_trans (sp_em_lt _ (by omega)) (by decide)
  rw [sp_cl (by omega), a7, b7 q2.1 (by omega), show st_eo (dd_T D) q2.1 = sp_em (st_ef (dd_T D)) q2.1 (st_ne (dd_T D)) from rfl, (sp_or _ em32 (st_ne (dd_T D)) (by omega)).1]
  refine ⟨vp_in_nI (by omega) (by decide), vp_in_nI (by omega) (by decide), fun I8 e8 I9 e9 => ?_⟩
  have a8 : I8 14 3 = nI (st_ne (dd_T D)) := by rw [e8, ow_u_ne (by decide)]; exact a7
  rw [a8, nI_1] at e9
  have r : ∀ a, a ≠ 14 → a ≠ 19 → a ≠ 20 → a ≠ 21 → I9 a = I4 a := fun a h1 h2 h3 h4 => by rw [e9, ow_u_ne h1, e8, ow_u_ne h4, e7, ow_u_ne h3, e6, ow_u_ne h2]
  have r14 : ∀ k, k ≠ 3 → I9 14 k = I4 14 k := fun k h => by rw [e9, ow_u_nk h, e8, ow_u_ne (by decide), e7, ow_u_ne (by decide), e6, ow_u_ne (by decide)]
  have f9 : sp_fr sp_rS [] I0 I9 := sp_fr_tr (sp_fr_tr (sp_fr_tr (sp_fr_tr f4 (sp_fr_ue e6 (Or.inl (by decide)))) (sp_fr_ue e7 (Or.inl (by decide)))) (sp_fr_ue e8 (Or.inl (by decide)))) (sp_fr_ue e9 (Or.inl (by decide)))
  refine ⟨I9, J5, R, rfl, rfl, hR, hTx, ?_⟩
  refine hO _ (by rw [bd_r hq1, bd_r hq2, bd_r hp3, bd_r hq4]) I9 J5 f9 (tC_k hC4 (r 25 (by decide) (by decide) (by decide) (by decide)) (r 1 (by decide) (by decide) (by decide) (by decide))) ?_
  refine ⟨⟨?_, ?_, ?_, ?_, ?_⟩, sp_S_kr y2 (r 15 (by decide) (by decide) (by decide) (by decide)) (r 16 (by decide) (by decide) (by decide) (by decide)) (r 17 (by decide) (by decide) (by decide) (by decide)) (r 18 (by decide) (by decide) (by decide) (by decide)), fun e he => ?_, fun g hg => ?_, ?_, ?_, ?_, fun f hf => ?_, fun e he => ?_⟩
  · rw [r14 0 (by decide)]; exact x1
  · rw [r14 1 (by decide)]; exact x2
  · rw [e9, ow_u_at]; rfl
  · rw [r14 7 (by decide)]; exact x4
  · rw [r14 9 (by decide)]; exact x5
  · have he : e < st_ne (dd_T D) + 1 := he
    have w19 : I9 19 = I6 19 := by rw [e9, ow_u_ne (by decide), e8, ow_u_ne (by decide), e7, ow_u_ne (by decide)]
    have w20 : I9 20 = I7 20 := by rw [e9, ow_u_ne (by decide), e8, ow_u_ne (by decide)]
    show I9 19 e = nI (fu (st_ef (dd_T D)) (st_ne (dd_T D)) q2.1 e) ∧ I9 20 e = nI (fu (st_de (dd_T D)) (st_ne (dd_T D)) q4.1 e)
    rw [w19, w20, e6, e7]
    by_cases hen : e = st_ne (dd_T D)
    · subst hen
      rw [fu_at, fu_at, ow_u_at, ow_u_at]
      exact ⟨rfl, rfl⟩
    · rw [fu_ne hen, fu_ne hen, ow_u_nk hen, ow_u_nk hen, e6, ow_u_ne (by decide)]
      exact y3 e (by omega)
  · show I9 21 g = nI (sp_em (fu (st_ef (dd_T D)) (st_ne (dd_T D)) q2.1) g (st_ne (dd_T D) + 1))
    rw [sp_em, sp_em_fu _ (Nat.le_refl _), fu_at, e9, ow_u_ne (by decide), e8]
    by_cases hgq : q2.1 = g
    · rw [if_pos hgq, hgq, ow_u_at]
    · rw [if_neg hgq, ow_u_nk (fun z => hgq z.symm)]
      exact b7 g hg
  · rw [r 22 (by decide) (by decide) (by decide) (by decide)]; exact y5
  · rw [r 23 (by decide) (by decide) (by decide) (by decide), r 24 (by decide) (by decide) (by decide) (by decide)]; exact y6
  · rw [r 13 (by decide) (by decide) (by decide) (by decide)]; exact ⟨z1, z2, z3⟩
  · have hf : f < st_n (dd_T D) := hf
    show J5 27 f = lN (sp_cl2 (fu (dd_m D) (6 + st_ne (dd_T D)) q1.1 f))
    rw [fu_ne (by omega), e5, ow_u_ne (by decide)]
    exact y8 f hf
  · have he : e < st_ne (dd_T D) + 1 := he
    show J5 28 e = lN (sp_cl2 (fu (dd_m D) (6 + st_ne (dd_T D)) q1.1 (6 + e)))
    by_cases hen : e = st_ne (dd_T D)
    · subst hen
      rw [fu_at, e5, ow_u_at]
    · rw [fu_ne (by omega), e5, ow_u_nk hen]
      exact y9 e (by omega)
theorem c_readVeiled (hR : ow_RF R) (hTx : R 25 0 = some 1) (hX : tk_ok X) (hp : p ≤ X.1) (hC : tC I X p) (hD : dC I J D) (hk : dk D) (hF : ∀ q, pr_in X D p 6 = .inl q → rf Q I R q) (hO : ∀ q, pr_in X D p 6 = .inr q → ∀ (I2 : Nat → Nat → Int32) (J2 : Nat → Nat → Int64), sp_fr sp_rS [] I I2 → tC I2 X q.2 → dC I2 J2 q.1 → Q (some (.int 1)) (85, I2, J2, R)) : ow_AM M_Reader_readVeiled (d + 8) [.ref 13] (85, I, J, R) Q := by
  apply t_Reader_readVeiled hR hTx
  rw [hD.1.2.2.2.1]
  have zl : nI (st_nv (dd_T D)) < 3 ↔ st_nv (dd_T D) < 3 := nI_ltI (b := 3) (by have := hk.2.2.1; omega) (by decide)
  rw [zl]
  refine ⟨fun hrm => ?_, fun hrm => c_rf (k := 5) hR hTx hC (hF _ (pr_in_f (by rw [pr_full6]; exact decide_eq_true (by omega))))⟩
  have hfu : pr_full D 6 = false := by rw [pr_full6]; exact decide_eq_false (by omega)
  have hkd : pr_in X D p 6 = pr_veiled X D (tk_n X p) := pr_in_n hfu
  rw [hkd] at hF hO
  have hn := tk_n_le hp
  refine c_adv hR hTx hX hp hC ?_
  intro I0 g0 hC0
  refine ⟨I0, J, R, rfl, rfl, hR, hTx, ?_⟩
  have h0 : sp_fr [] sp_rE I I0 := sp_fr_mono g0 (by decide) (by decide)
  have f0 : sp_fr sp_rS [] I I0 := sp_rEs h0
  have hD0 : dC I0 J D := dC_k hD h0 rfl rfl
  replace hF : ∀ q, pr_veiled X D (tk_n X p) = .inl q → rf Q I0 R q := fun q hq => rf_k (hF q hq) f0
  replace hO : ∀ q, pr_veiled X D (tk_n X p) = .inr q → ∀ (I2 : Nat → Nat → Int32) (J2 : Nat → Nat → Int64), sp_fr sp_rS [] I0 I2 → tC I2 X q.2 → dC I2 J2 q.1 → Q (some (.int 1)) (85, I2, J2, R) := fun q hq I2 J2 a1 => hO q hq I2 J2 (sp_fr_tr f0 a1)
  unfold pr_veiled at hF hO
  have n6 := hk.1
  have v64 := hk.2.2.2.2.2.1
  rw [hD0.2.2.2.2.2.2.1.2.2]
  refine c_takeFolly (D := D) hR hTx hX hn v64 hC0 (dC_n hD0 hk) (fun q hq => by
    intro I2 J2 a1 a2 a3
    refine ⟨_, I2, J2, R, rfl, rfl, hR, hTx, ?_⟩
    have K := hF q (by rw [bd_l hq]) I2 J2 (sp_fr_tr sp_fr_rf a1) a2 a3
    first | exact ⟨fun _ => K, fun c => absurd rfl c⟩ | exact ⟨fun c => absurd rfl c, fun _ => K⟩) ?_
  intro q1 hq1 hn1 I1 g1 hC1 v1
  refine ⟨_, I1, J, R, rfl, rfl, hR, hTx, ?_⟩
  first | refine ⟨fun c => absurd c (by decide), fun _ => ?_⟩ | refine ⟨fun _ => ?_, fun c => absurd c (by decide)⟩
  have f1 : sp_fr sp_rS [] I0 I1 := sp_rEs g1
  have hD1 : dC I1 J D := dC_k hD0 g1 rfl rfl
  obtain ⟨⟨x1, x2, x3, x4, x5⟩, y2, y3, y4, y5, y6, ⟨z1, z2, z3⟩, y8, y9⟩ := hD1
  rw [v1, z3, (sp_or _ v64 q1.1 (by omega)).1]
  intro I4 e4
  have w4 : I4 13 8 = nI q1.1 := by rw [e4, ow_u_nk (by decide)]; exact v1
  have a4 : I4 14 7 = nI (st_nv (dd_T D)) := by rw [e4, ow_u_ne (by decide)]; exact x4
  rw [w4]
  apply t_Told_addVeiled hR
  rw [a4, sp_cl (by omega)]
  refine ⟨fun c => absurd c (nI_ge (b := 3) hrm (by decide)), fun _ => ⟨vp_in_nI (by omega) (by decide), fun I5 e5 I6 e6 => ?_⟩⟩
  rw [show I5 14 7 = nI (st_nv (dd_T D)) from by rw [e5, ow_u_ne (by decide)]; exact a4, nI_1] at e6
  have r : ∀ a, a ≠ 13 → a ≠ 14 → a ≠ 22 → I6 a = I1 a := fun a h1 h2 h3 => by rw [e6, ow_u_ne h2, e5, ow_u_ne h3, e4, ow_u_ne h1]
  have r14 : ∀ k, k ≠ 7 → I6 14 k = I1 14 k := fun k h => by rw [e6, ow_u_nk h, e5, ow_u_ne (by decide), e4, ow_u_ne (by decide)]
  refine ⟨I6, J, R, rfl, rfl, hR, hTx, ?_⟩
  refine hO _ (by rw [bd_r hq1]) I6 J (sp_fr_tr (sp_fr_tr (sp_fr_tr f1 (sp_fr_ue e4 (Or.inl (by decide)))) (sp_fr_ue e5 (Or.inl (by decide)))) (sp_fr_ue e6 (Or.inl (by decide)))) (tC_k hC1 (r 25 (by decide) (by decide) (by decide)) (r 1 (by decide) (by decide) (by decide))) ?_
  refine ⟨⟨?_, ?_, ?_, ?_, ?_⟩, sp_S_kr y2 (r 15 (by decide) (by decide) (by decide)) (r 16 (by decide) (by decide) (by decide)) (r 17 (by decide) (by decide) (by decide)) (r 18 (by decide) (by decide) (by decide)), ?_, ?_, fun k hk2 => ?_, ?_, ⟨?_, ?_, ?_⟩, y8, y9⟩
  · rw [r14 0 (by decide)]; exact x1
  · rw [r14 1 (by decide)]; exact x2
  · rw [r14 3 (by decide)]; exact x3
  · rw [e6, ow_u_at]; rfl
  · rw [r14 9 (by decide)]; exact x5
  · rw [r 19 (by decide) (by decide) (by decide), r 20 (by decide) (by decide) (by decide)]; exact y3
  · rw [r 21 (by decide) (by decide) (by decide)]; exact y4
  · have hk2 : k < st_nv (dd_T D) + 1 := hk2
    show I6 22 k = nI (fu (st_vf (dd_T D)) (st_nv (dd_T D)) q1.1 k)
    rw [e6, ow_u_ne (by decide), e5]
    by_cases hkn : k = st_nv (dd_T D)
    · rw [hkn, fu_at, ow_u_at]
    · rw [fu_ne hkn, ow_u_nk hkn, e4, ow_u_ne (by decide)]; exact y5 k (by omega)
  · rw [r 23 (by decide) (by decide) (by decide), r 24 (by decide) (by decide) (by decide)]; exact y6
  · rw [e6, ow_u_ne (by decide), e5, ow_u_ne (by decide), e4, ow_u_nk (by decide)]; exact z1
  · rw [e6, ow_u_ne (by decide), e5, ow_u_ne (by decide), e4, ow_u_nk (by decide)]; exact z2
  · rw [e6, ow_u_ne (by decide), e5, ow_u_ne (by decide), e4, ow_u_at]; rfl
theorem c_readSigned (hR : ow_RF R) (hTx : R 25 0 = some 1) (hX : tk_ok X) (hp : p ≤ X.1) (hC : tC I X p) (hD : dC I J D) (hk : dk D) (hF : ∀ q, pr_in X D p 7 = .inl q → rf Q I R q) (hO : ∀ q, pr_in X D p 7 = .inr q → ∀ (I2 : Nat → Nat → Int32) (J2 : Nat → Nat → Int64), sp_fr sp_rS [] I I2 → tC I2 X q.2 → dC I2 J2 q.1 → Q (some (.int 1)) (85, I2, J2, R)) : ow_AM M_Reader_readSigned (d + 8) [.ref 13] (85, I, J, R) Q := by
  apply t_Reader_readSigned hR hTx
  rw [hD.1.2.2.2.2]
  have zl : nI (st_ns (dd_T D)) < 5 ↔ st_ns (dd_T D) < 5 := nI_ltI (b := 5) (by have := hk.2.2.2.1; omega) (by decide)
  rw [zl]
  refine ⟨fun hrm => ?_, fun hrm => c_rf (k := 5) hR hTx hC (hF _ (pr_in_f (by rw [pr_full7]; exact decide_eq_true (by omega))))⟩
  have hfu : pr_full D 7 = false := by rw [pr_full7]; exact decide_eq_false (by omega)
  have hkd : pr_in X D p 7 = pr_signed X D (tk_n X p) := pr_in_n hfu
  rw [hkd] at hF hO
  have hn := tk_n_le hp
  refine c_adv hR hTx hX hp hC ?_
  intro I0 g0 hC0
  refine ⟨I0, J, R, rfl, rfl, hR, hTx, ?_⟩
  have h0 : sp_fr [] sp_rE I I0 := sp_fr_mono g0 (by decide) (by decide)
  have f0 : sp_fr sp_rS [] I I0 := sp_rEs h0
  have hD0 : dC I0 J D := dC_k hD h0 rfl rfl
  replace hF : ∀ q, pr_signed X D (tk_n X p) = .inl q → rf Q I0 R q := fun q hq => rf_k (hF q hq) f0
  replace hO : ∀ q, pr_signed X D (tk_n X p) = .inr q → ∀ (I2 : Nat → Nat → Int32) (J2 : Nat → Nat → Int64), sp_fr sp_rS [] I0 I2 → tC I2 X q.2 → dC I2 J2 q.1 → Q (some (.int 1)) (85, I2, J2, R) := fun q hq I2 J2 a1 => hO q hq I2 J2 (sp_fr_tr f0 a1)
  unfold pr_signed at hF hO
  have n6 := hk.1
  refine c_takeFolly (D := D) (bar := 0) hR hTx hX hn (by decide) hC0 (dC_n hD0 hk) (fun q hq => by
    intro I2 J2 a1 a2 a3
    refine ⟨_, I2, J2, R, rfl, rfl, hR, hTx, ?_⟩
    have K := hF q (by rw [bd_l hq]) I2 J2 (sp_fr_tr sp_fr_rf a1) a2 a3
    first | exact ⟨fun _ => K, fun c => absurd rfl c⟩ | exact ⟨fun c => absurd rfl c, fun _ => K⟩) ?_
  intro q1 hq1 hn1 I1 g1 hC1 v1
  refine ⟨_, I1, J, R, rfl, rfl, hR, hTx, ?_⟩
  first | refine ⟨fun c => absurd c (by decide), fun _ => ?_⟩ | refine ⟨fun _ => ?_, fun c => absurd c (by decide)⟩
  have l1 := (pr_fol_le hn hq1).2.2.2
  have f1 : sp_fr sp_rS [] I0 I1 := sp_rEs g1
  refine c_takeAnswer (l := false) hR hTx hX l1 hC1 (fun q hq => by
    intro I2 J2 a1 a2 a3
    refine ⟨_, I2, J2, R, rfl, rfl, hR, hTx, ?_⟩
    have K := hF q (by rw [bd_r hq1, bd_l hq]) I2 J2 (sp_fr_tr f1 a1) a2 a3
    first | exact ⟨fun _ => K, fun c => absurd rfl c⟩ | exact ⟨fun c => absurd rfl c, fun _ => K⟩) ?_
  intro q2 hq2 I2 g2 hC2 v2
  refine ⟨_, I2, J, R, rfl, rfl, hR, hTx, ?_⟩
  first | refine ⟨fun c => absurd c (by decide), fun _ => ?_⟩ | refine ⟨fun _ => ?_, fun c => absurd c (by decide)⟩
  have l2 := (pr_ans_le l1 hq2).2.2
  have ha2 := (pr_ans_le l1 hq2).1 rfl
  have f2 : sp_fr sp_rS [] I0 I2 := sp_fr_tr f1 (sp_rEs g2)
  refine c_takeAnswer (l := true) hR hTx hX l2 hC2 (fun q hq => by
    intro I2 J2 a1 a2 a3
    refine ⟨_, I2, J2, R, rfl, rfl, hR, hTx, ?_⟩
    have K := hF q (by rw [bd_r hq1, bd_r hq2, bd_l hq]) I2 J2 (sp_fr_tr f2 a1) a2 a3
    first | exact ⟨fun _ => K, fun c => absurd rfl c⟩ | exact ⟨fun c => absurd rfl c, fun _ => K⟩) ?_
  intro q3 hq3 I3 g3 hC3 v3
  refine ⟨_, I3, J, R, rfl, rfl, hR, hTx, ?_⟩
  first | refine ⟨fun c => absurd c (by decide), fun _ => ?_⟩ | refine ⟨fun _ => ?_, fun c => absurd c (by decide)⟩
  have f3 : sp_fr sp_rS [] I0 I3 := sp_fr_tr f2 (sp_rEs g3)
  have hD3 : dC I3 J D := dC_k hD0 (sp_fr_tr (sp_fr_tr g1 g2) g3) rfl rfl
  obtain ⟨⟨x1, x2, x3, x4, x5⟩, y2, y3, y4, y5, y6, ⟨z1, z2, z3⟩, y8, y9⟩ := hD3
  have hlet : (2 : Int32) * nI q1.1 + sp_jo q2.1 = nI (2 * q1.1 + (q2.1.getD false).toNat) := by
    rw [show (2 : Int32) * nI q1.1 = nI (2 * q1.1) from pk_mul 2 _]
    cases hq : q2.1 with
    | none => exact absurd hq ha2
    | some b => cases b with
      | false => exact nI_add _ 0
      | true => exact nI_add _ 1
  rw [v1, v2, v3, hlet]
  apply t_Told_addSigned hR
  rw [x5, sp_cl (by omega)]
  refine ⟨fun c => absurd c (nI_ge (b := 5) hrm (by decide)), fun _ => ⟨vp_in_nI (by omega) (by decide), fun I4 e4 => ?_⟩⟩
  have a4 : I4 14 9 = nI (st_ns (dd_T D)) := by rw [e4, ow_u_ne (by decide)]; exact x5
  rw [a4, sp_cl (by omega)]
  refine ⟨vp_in_nI (by omega) (by decide), fun I5 e5 I6 e6 => ?_⟩
  rw [show I5 14 9 = nI (st_ns (dd_T D)) from by rw [e5, ow_u_ne (by decide)]; exact a4, nI_1] at e6
  have r : ∀ a, a ≠ 14 → a ≠ 23 → a ≠ 24 → I6 a = I3 a := fun a h1 h2 h3 => by rw [e6, ow_u_ne h1, e5, ow_u_ne h3, e4, ow_u_ne h2]
  have r14 : ∀ k, k ≠ 9 → I6 14 k = I3 14 k := fun k h => by rw [e6, ow_u_nk h, e5, ow_u_ne (by decide), e4, ow_u_ne (by decide)]
  refine ⟨I6, J, R, rfl, rfl, hR, hTx, ?_⟩
  refine hO _ (by rw [bd_r hq1, bd_r hq2, bd_r hq3]) I6 J (sp_fr_tr (sp_fr_tr (sp_fr_tr f3 (sp_fr_ue e4 (Or.inl (by decide)))) (sp_fr_ue e5 (Or.inl (by decide)))) (sp_fr_ue e6 (Or.inl (by decide)))) (tC_k hC3 (r 25 (by decide) (by decide) (by decide)) (r 1 (by decide) (by decide) (by decide))) ?_
  refine ⟨⟨?_, ?_, ?_, ?_, ?_⟩, sp_S_kr y2 (r 15 (by decide) (by decide) (by decide)) (r 16 (by decide) (by decide) (by decide)) (r 17 (by decide) (by decide) (by decide)) (r 18 (by decide) (by decide) (by decide)), ?_, ?_, ?_, fun k hk2 => ?_, ?_, y8, y9⟩
  · rw [r14 0 (by decide)]; exact x1
  · rw [r14 1 (by decide)]; exact x2
  · rw [r14 3 (by decide)]; exact x3
  · rw [r14 7 (by decide)]; exact x4
  · rw [e6, ow_u_at]; rfl
  · rw [r 19 (by decide) (by decide) (by decide), r 20 (by decide) (by decide) (by decide)]; exact y3
  · rw [r 21 (by decide) (by decide) (by decide)]; exact y4
  · rw [r 22 (by decide) (by decide) (by decide)]; exact y5
  · have hk2 : k < st_ns (dd_T D) + 1 := hk2
    show I6 23 k = nI (fu (st_sl (dd_T D)) (st_ns (dd_T D)) (2 * q1.1 + (q2.1.getD false).toNat) k) ∧ I6 24 k = sp_jo (fu (st_sa (dd_T D)) (st_ns (dd_T D)) q3.1 k)
    rw [show I6 23 = I4 23 from by rw [e6, ow_u_ne (by decide), e5, ow_u_ne (by decide)], show I6 24 = I5 24 from by rw [e6, ow_u_ne (by decide)], e4, e5]
    by_cases hkn : k = st_ns (dd_T D)
    · rw [hkn, fu_at, fu_at, ow_u_at, ow_u_at]
      exact ⟨rfl, rfl⟩
    · rw [fu_ne hkn, fu_ne hkn, ow_u_nk hkn, ow_u_nk hkn, e4, ow_u_ne (by decide)]
      exact y6 k (by omega)
  · rw [r 13 (by decide) (by decide) (by decide)]; exact ⟨z1, z2, z3⟩
end LINES
