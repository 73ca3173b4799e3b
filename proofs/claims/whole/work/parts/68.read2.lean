/-! Own rows: what holds behind a line; the object reads a text. -/
theorem bd_inv {α β : Type} {e : sp_E α} {f : α → sp_E β} {y : β} (h : bd e f = .inr y) : ∃ x, e = .inr x ∧ f x = .inr y := by
  cases e with
  | inl q => cases h
  | inr x => exact ⟨x, rfl, h⟩
theorem tk_mono {X : sp_Tx} {p : Nat} : p ≤ tk_n X p := by
  have h := tk_pa (X := X) (p := p)
  unfold tk_n
  omega
theorem dk_shire {X : sp_Tx} {D : sp_D} {p : Nat} {q : sp_D × Nat} (hp : p ≤ X.1) (hk : dk D) (h : pr_shire X D p = .inr q) : dk q.1 ∧ dd_o q.1 = true ∧ p ≤ q.2 ∧ q.2 ≤ X.1 := by
  unfold pr_shire at h
  by_cases ho : dd_o D = true
  · rw [if_pos ho] at h; cases h
  · rw [if_neg ho] at h
    obtain ⟨p1, h1, h⟩ := bd_inv h
    obtain ⟨q2, h2, h⟩ := bd_inv h
    obtain ⟨p3, h3, h⟩ := bd_inv h
    obtain ⟨q4, h4, h⟩ := bd_inv h
    have l0 := tk_n_le hp
    have l1 := pr_word_le l0 h1
    have l2 := pr_whole_le l1.2 h2
    have l3 := pr_word_le l2.2.2 h3
    have l4 := pr_whole_le l3.2 h4
    have m0 : p ≤ tk_n X p := tk_mono
    have m1 : tk_n X p ≤ tk_n X (tk_n X p) := tk_mono
    have m2 : p1 ≤ tk_n X p1 := tk_mono
    have m3 : q2.2 ≤ tk_n X q2.2 := tk_mono
    have m4 : p3 ≤ tk_n X p3 := tk_mono
    cases h
    obtain ⟨k1, k2, k3, k4, k5, k6, k7, k8, k9, k10, k11, k12, k13, k14, k15, k16, k17, k18, k19, k20, k21, k22⟩ := hk
    refine ⟨⟨k1, k2, k3, k4, k5, k6, k7, k8, l2.1, show q4.1 < 10 by omega, k11, k12, k13, k14, k15, k16, k17, k18, k19, k20, k21, fun c => by cases c⟩, rfl, ?_, ?_⟩
    · show p ≤ q4.2
      omega
    · exact l4.2.2
theorem dk_folly {X : sp_Tx} {D : sp_D} {p : Nat} {q : sp_D × Nat} (hp : p ≤ X.1) (hk : dk D) (ho : dd_o D = true) (hr : st_n (dd_T D) < 6) (h : pr_folly X D p = .inr q) : dk q.1 ∧ dd_o q.1 = true ∧ p ≤ q.2 ∧ q.2 ≤ X.1 := by
  unfold pr_folly at h
  obtain ⟨q1, h1, h⟩ := bd_inv h
  obtain ⟨q2, h2, h⟩ := bd_inv h
  obtain ⟨p3, h3, h⟩ := bd_inv h
  obtain ⟨q4, h4, h⟩ := bd_inv h
  have l1 := pr_new_le hp h1
  have l2 := pr_shape_le l1.2.2 h2
  have l3 := pr_word_le l2.2.2 h3
  have l4 := pr_whole_le l3.2 h4
  have m1 := tk_mono (X := X) (p := p)
  have m2 := tk_mono (X := X) (p := q1.2)
  have m3 := tk_mono (X := X) (p := q2.2)
  have m4 := tk_mono (X := X) (p := p3)
  cases h
  obtain ⟨k1, k2, k3, k4, k5, k6, k7, k8, k9, k10, k11, k12, k13, k14, k15, k16, k17, k18, k19, k20, k21, k22⟩ := hk
  refine ⟨⟨show st_n (dd_T D) + 1 ≤ 6 by omega, k2, k3, k4, k5, k6, k7, k8, k9, k10, fun f hf => ?_, fun e he => ⟨Nat.lt_succ_of_lt (k12 e he).1, (k12 e he).2⟩, fun k hk2 => Nat.lt_succ_of_lt (k13 k hk2), k14, fun k hk2 => ?_, fun f hf => ?_, k17, fun f hf => ?_, fun e he => ?_, fun f h1 h2 => ?_, fun e h1 h2 => ?_, fun c => ?_⟩, ho, show p ≤ q4.2 by omega, l4.2.2⟩
  · have hf : f < st_n (dd_T D) + 1 := hf
    show fu (sp_sh (dd_T D).1) (st_n (dd_T D)) q2.1 f < 5 ∧ fu (sp_so (dd_T D).1) (st_n (dd_T D)) q4.1 f < 100 ∧ fu (sp_to (dd_T D).1) (st_n (dd_T D)) 0 f ≤ st_n (dd_T D) + 1
    by_cases hfn : f = st_n (dd_T D)
    · rw [hfn, fu_at, fu_at, fu_at]; exact ⟨l2.1, by have := l4.1; omega, Nat.zero_le _⟩
    · rw [fu_ne hfn, fu_ne hfn, fu_ne hfn]
      have := k11 f (by omega)
      exact ⟨this.1, this.2.1, by omega⟩
  · have := k15 k hk2
    show st_sl (dd_T D) k < 2 * (st_n (dd_T D) + 1)
    omega
  · show (dd_s D).testBit f = decide (f < st_n (dd_T D) + 1 ∧ fu (sp_to (dd_T D).1) (st_n (dd_T D)) 0 f ≠ 0)
    rw [k16 f hf]
    apply decide_eq_decide.mpr
    by_cases hfn : f = st_n (dd_T D)
    · rw [hfn, fu_at]; omega
    · rw [fu_ne hfn]; omega
  · have hf : f < st_n (dd_T D) + 1 := hf
    show sp_wd1 (fu (dd_m D) (st_n (dd_T D)) q1.1 f)
    by_cases hfn : f = st_n (dd_T D)
    · rw [hfn, fu_at]; exact l1.1
    · rw [fu_ne hfn]; exact k18 f (by omega)
  · have he : e < st_ne (dd_T D) := he
    show sp_wd1 (fu (dd_m D) (st_n (dd_T D)) q1.1 (6 + e))
    rw [fu_ne (by omega)]
    exact k19 e he
  · have h1 : st_n (dd_T D) + 1 ≤ f := h1
    show fu (dd_m D) (st_n (dd_T D)) q1.1 f = []
    rw [fu_ne (by omega)]
    exact k20 f (by omega) h2
  · have h1 : st_ne (dd_T D) ≤ e := h1
    show fu (dd_m D) (st_n (dd_T D)) q1.1 (6 + e) = []
    rw [fu_ne (by omega)]
    exact k21 e h1 h2
  · have c : dd_o D = false := c
    rw [ho] at c
    cases c
theorem dk_sends {X : sp_Tx} {D : sp_D} {p : Nat} {q : sp_D × Nat} (hp : p ≤ X.1) (hk : dk D) (ho : dd_o D = true) (h : pr_sends X D p = .inr q) : dk q.1 ∧ dd_o q.1 = true ∧ p ≤ q.2 ∧ q.2 ≤ X.1 := by
  unfold pr_sends at h
  obtain ⟨q1, h1, h⟩ := bd_inv h
  obtain ⟨q2, h2, h⟩ := bd_inv h
  have l1 := pr_fol_le hp h1
  have l2 := pr_fol_le l1.2.2.2 h2
  have m1 := tk_mono (X := X) (p := p)
  have m2 := tk_mono (X := X) (p := q1.2)
  cases h
  obtain ⟨k1, k2, k3, k4, k5, k6, k7, k8, k9, k10, k11, k12, k13, k14, k15, k16, k17, k18, k19, k20, k21, k22⟩ := hk
  refine ⟨⟨k1, k2, k3, k4, (sp_or _ k5 q1.1 (by omega)).2, k6, k7, k8, k9, k10, fun f hf => ⟨(k11 f hf).1, (k11 f hf).2.1, ?_⟩, k12, k13, k14, k15, fun f hf => ?_, k17, k18, k19, k20, k21, fun c => ?_⟩, ho, show p ≤ q2.2 by omega, l2.2.2.2⟩
  · show fu (sp_to (dd_T D).1) q1.1 (q2.1 + 1) f ≤ st_n (dd_T D)
    by_cases hfq : f = q1.1
    · rw [hfq, fu_at]; omega
    · rw [fu_ne hfq]; exact (k11 f hf).2.2
  · show (dd_s D ||| 2 ^ q1.1).testBit f = decide (f < st_n (dd_T D) ∧ fu (sp_to (dd_T D).1) q1.1 (q2.1 + 1) f ≠ 0)
    rw [sp_orb _ k5 q1.1 (by omega) f hf, k16 f hf]
    by_cases hfq : f = q1.1
    · rw [hfq, fu_at, decide_eq_true rfl, Bool.or_true]
      exact (decide_eq_true ⟨l1.1, by omega⟩).symm
    · rw [fu_ne hfq, decide_eq_false hfq, Bool.or_false]
  · have c : dd_o D = false := c
    rw [ho] at c
    cases c
theorem dk_hermit {X : sp_Tx} {D : sp_D} {p : Nat} {q : sp_D × Nat} (hp : p ≤ X.1) (hk : dk D) (ho : dd_o D = true) (h : pr_hermit X D p = .inr q) : dk q.1 ∧ dd_o q.1 = true ∧ p ≤ q.2 ∧ q.2 ≤ X.1 := by
  unfold pr_hermit at h
  obtain ⟨q1, h1, h⟩ := bd_inv h
  have l1 := pr_fol_le hp h1
  have m1 := tk_mono (X := X) (p := p)
  cases h
  obtain ⟨k1, k2, k3, k4, k5, k6, k7, k8, k9, k10, k11, k12, k13, k14, k15, k16, k17, k18, k19, k20, k21, k22⟩ := hk
  refine ⟨⟨k1, k2, k3, k4, k5, k6, (sp_or _ k7 q1.1 (by omega)).2, k8, k9, k10, k11, k12, k13, k14, k15, k16, k17, k18, k19, k20, k21, fun c => ?_⟩, ho, show p ≤ q1.2 by omega, l1.2.2.2⟩
  have c : dd_o D = false := c
  rw [ho] at c
  cases c
theorem dk_estate {X : sp_Tx} {D : sp_D} {p : Nat} {q : sp_D × Nat} (hp : p ≤ X.1) (hk : dk D) (ho : dd_o D = true) (hr : st_ne (dd_T D) < 5) (h : pr_estate X D p = .inr q) : dk q.1 ∧ dd_o q.1 = true ∧ p ≤ q.2 ∧ q.2 ≤ X.1 := by
  unfold pr_estate at h
  obtain ⟨q1, h1, h⟩ := bd_inv h
  obtain ⟨q2, h2, h⟩ := bd_inv h
  obtain ⟨p3, h3, h⟩ := bd_inv h
  obtain ⟨q4, h4, h⟩ := bd_inv h
  have l1 := pr_new_le hp h1
  have l2 := pr_fol_le l1.2.2 h2
  have l3 := pr_word_le l2.2.2.2 h3
  have l4 := pr_whole_le l3.2 h4
  have m1 := tk_mono (X := X) (p := p)
  have m2 := tk_mono (X := X) (p := q1.2)
  have m3 := tk_mono (X := X) (p := q2.2)
  have m4 := tk_mono (X := X) (p := p3)
  cases h
  obtain ⟨k1, k2, k3, k4, k5, k6, k7, k8, k9, k10, k11, k12, k13, k14, k15, k16, k17, k18, k19, k20, k21, k22⟩ := hk
  refine ⟨⟨k1, show st_ne (dd_T D) + 1 ≤ 5 by omega, k3, k4, k5, k6, k7, k8, k9, k10, k11, fun e he => ?_, k13, k14, k15, k16, k17, fun f hf => ?_, fun e he => ?_, fun f h1 h2 => ?_, fun e h1 h2 => ?_, fun c => ?_⟩, ho, show p ≤ q4.2 by omega, l4.2.2⟩
  · have he : e < st_ne (dd_T D) + 1 := he
    show fu (st_ef (dd_T D)) (st_ne (dd_T D)) q2.1 e < st_n (dd_T D) ∧ fu (st_de (dd_T D)) (st_ne (dd_T D)) q4.1 e < 100
    by_cases hen : e = st_ne (dd_T D)
    · rw [hen, fu_at, fu_at]; exact ⟨l2.1, by have := l4.1; omega⟩
    · rw [fu_ne hen, fu_ne hen]; exact k12 e (by omega)
  · have hf : f < st_n (dd_T D) := hf
    show sp_wd1 (fu (dd_m D) (6 + st_ne (dd_T D)) q1.1 f)
    rw [fu_ne (by omega)]
    exact k18 f hf
  · have he : e < st_ne (dd_T D) + 1 := he
    show sp_wd1 (fu (dd_m D) (6 + st_ne (dd_T D)) q1.1 (6 + e))
    by_cases hen : e = st_ne (dd_T D)
    · rw [hen, fu_at]; exact l1.1
    · rw [fu_ne (by omega)]; exact k19 e (by omega)
  · have h1 : st_n (dd_T D) ≤ f := h1
    show fu (dd_m D) (6 + st_ne (dd_T D)) q1.1 f = []
    rw [fu_ne (by omega)]
    exact k20 f h1 h2
  · have h1 : st_ne (dd_T D) + 1 ≤ e := h1
    show fu (dd_m D) (6 + st_ne (dd_T D)) q1.1 (6 + e) = []
    rw [fu_ne (by omega)]
    exact k21 e (by omega) h2
  · have c : dd_o D = false := c
    rw [ho] at c
    cases c
theorem dk_veiled {X : sp_Tx} {D : sp_D} {p : Nat} {q : sp_D × Nat} (hp : p ≤ X.1) (hk : dk D) (ho : dd_o D = true) (hr : st_nv (dd_T D) < 3) (h : pr_veiled X D p = .inr q) : dk q.1 ∧ dd_o q.1 = true ∧ p ≤ q.2 ∧ q.2 ≤ X.1 := by
  unfold pr_veiled at h
  obtain ⟨q1, h1, h⟩ := bd_inv h
  have l1 := pr_fol_le hp h1
  have m1 := tk_mono (X := X) (p := p)
  cases h
  obtain ⟨k1, k2, k3, k4, k5, k6, k7, k8, k9, k10, k11, k12, k13, k14, k15, k16, k17, k18, k19, k20, k21, k22⟩ := hk
  have hnew : ∀ k, k < st_nv (dd_T D) → st_vf (dd_T D) k ≠ q1.1 := by
    intro k hk2 e
    have := (k17 q1.1 (by omega)).mpr ⟨k, hk2, e⟩
    rw [l1.2.1] at this
    cases this
  refine ⟨⟨k1, k2, show st_nv (dd_T D) + 1 ≤ 3 by omega, k4, k5, (sp_or _ k6 q1.1 (by omega)).2, k7, k8, k9, k10, k11, k12, fun k hk2 => ?_, fun i j hi hj e => ?_, k15, k16, fun f hf => ?_, k18, k19, k20, k21, fun c => ?_⟩, ho, show p ≤ q1.2 by omega, l1.2.2.2⟩
  · have hk2 : k < st_nv (dd_T D) + 1 := hk2
    show fu (st_vf (dd_T D)) (st_nv (dd_T D)) q1.1 k < st_n (dd_T D)
    by_cases hkn : k = st_nv (dd_T D)
    · rw [hkn, fu_at]; exact l1.1
    · rw [fu_ne hkn]; exact k13 k (by omega)
  · have hi : i < st_nv (dd_T D) + 1 := hi
    have hj : j < st_nv (dd_T D) + 1 := hj
    have e : fu (st_vf (dd_T D)) (st_nv (dd_T D)) q1.1 i = fu (st_vf (dd_T D)) (st_nv (dd_T D)) q1.1 j := e
    by_cases hin : i = st_nv (dd_T D)
    · by_cases hjn : j = st_nv (dd_T D)
      · omega
      · rw [hin, fu_at, fu_ne hjn] at e
        exact absurd e.symm (hnew j (by omega))
    · by_cases hjn : j = st_nv (dd_T D)
      · rw [hjn, fu_at, fu_ne hin] at e
        exact absurd e (hnew i (by omega))
      · rw [fu_ne hin, fu_ne hjn] at e
        exact k14 i j (by omega) (by omega) e
  · show (dd_v D ||| 2 ^ q1.1).testBit f = true ↔ ∃ k, k < st_nv (dd_T D) + 1 ∧ fu (st_vf (dd_T D)) (st_nv (dd_T D)) q1.1 k = f
    rw [sp_orb _ k6 q1.1 (by omega) f hf, Bool.or_eq_true, decide_eq_true_iff, k17 f hf]
    constructor
    · rintro (⟨k, hk2, e⟩ | e)
      · exact ⟨k, by omega, by rw [fu_ne (by omega)]; exact e⟩
      · exact ⟨st_nv (dd_T D), by omega, by rw [fu_at]; exact e.symm⟩
    · rintro ⟨k, hk2, e⟩
      by_cases hkn : k = st_nv (dd_T D)
      · rw [hkn, fu_at] at e
        exact Or.inr e.symm
      · rw [fu_ne hkn] at e
        exact Or.inl ⟨k, by omega, e⟩
  · have c : dd_o D = false := c
    rw [ho] at c
    cases c
theorem dk_signed {X : sp_Tx} {D : sp_D} {p : Nat} {q : sp_D × Nat} (hp : p ≤ X.1) (hk : dk D) (ho : dd_o D = true) (hr : st_ns (dd_T D) < 5) (h : pr_signed X D p = .inr q) : dk q.1 ∧ dd_o q.1 = true ∧ p ≤ q.2 ∧ q.2 ≤ X.1 := by
  unfold pr_signed at h
  obtain ⟨q1, h1, h⟩ := bd_inv h
  obtain ⟨q2, h2, h⟩ := bd_inv h
  obtain ⟨q3, h3, h⟩ := bd_inv h
  have l1 := pr_fol_le hp h1
  have l2 := pr_ans_le l1.2.2.2 h2
  have l3 := pr_ans_le l2.2.2 h3
  have m1 := tk_mono (X := X) (p := p)
  have m2 := tk_mono (X := X) (p := q1.2)
  have m3 := tk_mono (X := X) (p := q2.2)
  cases h
  obtain ⟨k1, k2, k3, k4, k5, k6, k7, k8, k9, k10, k11, k12, k13, k14, k15, k16, k17, k18, k19, k20, k21, k22⟩ := hk
  refine ⟨⟨k1, k2, k3, show st_ns (dd_T D) + 1 ≤ 5 by omega, k5, k6, k7, k8, k9, k10, k11, k12, k13, k14, fun k hk2 => ?_, k16, k17, k18, k19, k20, k21, fun c => ?_⟩, ho, show p ≤ q3.2 by omega, l3.2.2⟩
  · have hk2 : k < st_ns (dd_T D) + 1 := hk2
    show fu (st_sl (dd_T D)) (st_ns (dd_T D)) (2 * q1.1 + (q2.1.getD false).toNat) k < 2 * st_n (dd_T D)
    have hb : (q2.1.getD false).toNat ≤ 1 := by cases q2.1.getD false <;> decide
    by_cases hkn : k = st_ns (dd_T D)
    · rw [hkn, fu_at]; have := l1.1; omega
    · rw [fu_ne hkn]; exact k15 k (by omega)
  · have c : dd_o D = false := c
    rw [ho] at c
    cases c
theorem pr_line7 {X : sp_Tx} {p : Nat} (h0 : pr_line X p ≠ 0) : tk_k X p = 1 := by
  have K : ∀ i, tk_is X p i = true → tk_k X p = 1 := fun i hi => (of_decide_eq_true hi).1
  unfold pr_line at h0
  split at h0
  · exact K 0 ‹_›
  · split at h0
    · exact K 1 ‹_›
    · split at h0
      · exact K 2 ‹_›
      · split at h0
        · exact K 3 ‹_›
        · split at h0
          · exact K 4 ‹_›
          · split at h0
            · exact K 5 ‹_›
            · split at h0
              · exact K 6 ‹_›
              · exact absurd rfl h0
theorem pr_full_f {D : sp_D} {k : Nat} (h : pr_full D k = false) : (k = 2 → st_n (dd_T D) < 6) ∧ (k = 5 → st_ne (dd_T D) < 5) ∧ (k = 6 → st_nv (dd_T D) < 3) ∧ (k = 7 → st_ns (dd_T D) < 5) := by
  unfold pr_full at h
  refine ⟨fun e => ?_, fun e => ?_, fun e => ?_, fun e => ?_⟩
  · rw [if_pos e] at h; have := of_decide_eq_false h; omega
  · rw [if_neg (by omega), if_pos e] at h; have := of_decide_eq_false h; omega
  · rw [if_neg (by omega), if_neg (by omega), if_pos e] at h; have := of_decide_eq_false h; omega
  · rw [if_neg (by omega), if_neg (by omega), if_neg (by omega), if_pos e] at h; have := of_decide_eq_false h; omega
theorem dk_rl {X : sp_Tx} {D : sp_D} {p : Nat} {q : sp_D × Nat} (hp : p ≤ X.1) (hk : dk D) (h : pr_rl X D p = .inr q) : dk q.1 ∧ dd_o q.1 = true ∧ p ≤ q.2 ∧ q.2 ≤ X.1 := by
  have l8 := pr_line_lt (X := X) (p := p)
  have hn := tk_n_le hp
  have hm := tk_mono (X := X) (p := p)
  unfold pr_rl at h
  by_cases c0 : pr_line X p = 0
  · rw [if_pos c0] at h; cases h
  rw [if_neg c0] at h
  by_cases c1 : pr_line X p = 1
  · rw [if_pos c1] at h; exact dk_shire hp hk h
  rw [if_neg c1] at h
  cases c2 : pr_full D (pr_line X p) with
  | true => rw [c2, if_pos rfl] at h; cases h
  | false =>
    rw [c2, if_neg (by decide)] at h
    cases c3 : dd_o D with
    | false => rw [c3, if_pos rfl] at h; cases h
    | true =>
      rw [c3, if_neg (by decide)] at h
      obtain ⟨r2, r5, r6, r7⟩ := pr_full_f c2
      have tr : ∀ {P : Prop}, (dk q.1 ∧ dd_o q.1 = true ∧ tk_n X p ≤ q.2 ∧ q.2 ≤ X.1) → (dk q.1 ∧ dd_o q.1 = true ∧ p ≤ q.2 ∧ q.2 ≤ X.1) := fun z => ⟨z.1, z.2.1, by omega, z.2.2.2⟩
      unfold pr_kind at h
      split at h
      · exact tr (P := True) (dk_folly hn hk c3 (r2 ‹_›) h)
      · split at h
        · exact tr (P := True) (dk_sends hn hk c3 h)
        · split at h
          · exact tr (P := True) (dk_hermit hn hk c3 h)
          · split at h
            · exact tr (P := True) (dk_estate hn hk c3 (r5 ‹_›) h)
            · split at h
              · exact tr (P := True) (dk_veiled hn hk c3 (r6 ‹_›) h)
              · exact tr (P := True) (dk_signed hn hk c3 (r7 (by omega)) h)
theorem pr_full_o {D : sp_D} {k : Nat} (hk : dk D) (ho : dd_o D = false) : pr_full D k = false := by
  obtain ⟨k1, k2, k3, k4, k5, k6, k7, k8, k9, k10, k11, k12, k13, k14, k15, k16, k17, k18, k19, k20, k21, k22⟩ := hk
  have n0 := k22 ho
  have e0 : st_ne (dd_T D) = 0 := by
    rcases Nat.eq_zero_or_pos (st_ne (dd_T D)) with h | h
    · exact h
    · have := (k12 0 h).1; omega
  have v0 : st_nv (dd_T D) = 0 := by
    rcases Nat.eq_zero_or_pos (st_nv (dd_T D)) with h | h
    · exact h
    · have := k13 0 h; omega
  have s0 : st_ns (dd_T D) = 0 := by
    rcases Nat.eq_zero_or_pos (st_ns (dd_T D)) with h | h
    · exact h
    · have := k15 0 h; omega
  unfold pr_full
  rw [n0, e0, v0, s0]
  split
  · decide
  · split
    · decide
    · split
      · decide
      · split
        · decide
        · rfl
section READ2
variable {d : Nat} {I : Nat → Nat → Int32} {J : Nat → Nat → Int64} {R : Nat → Nat → Option Nat} {Q : Option Value → ow_H → Prop} {X : sp_Tx} {p : Nat} {D : sp_D}
theorem c_readLine (hR : ow_RF R) (hTx : R 25 0 = some 1) (hX : tk_ok X) (hp : p ≤ X.1) (hC : tC I X p) (hD : dC I J D) (hk : dk D) (hF : ∀ q, pr_rl X D p = .inl q → rf Q I R q) (hO : ∀ q, pr_rl X D p = .inr q → ∀ (I2 : Nat → Nat → Int32) (J2 : Nat → Nat → Int64), sp_fr sp_rS [] I I2 → tC I2 X q.2 → dC I2 J2 q.1 → Q (some (.int 1)) (85, I2, J2, R)) : ow_AM M_Reader_readLine (d + 9) [.ref 13] (85, I, J, R) Q := by
  have l8 := pr_line_lt (X := X) (p := p)
  have hn := tk_n_le hp
  apply t_Reader_readLine hR hTx
  refine c_Reader_lineOf hR hTx hX hp hC ⟨_, I, J, R, rfl, rfl, hR, hTx, ?_⟩
  unfold pr_rl at hF hO
  have e1 : nI (pr_line X p) = 1 ↔ pr_line X p = 1 := nI_eq (b := 1) (by omega) (by decide)
  rw [sp_z (n := pr_line X p) (by omega), e1]
  refine ⟨fun c0 => ⟨fun c1 => ?_, fun c1 => ?_⟩, fun c0 => ?_⟩
  · rw [if_neg c0, if_neg c1] at hF hO
    rw [hD.2.2.2.2.2.2.1.1]
    cases c3 : dd_o D with
    | false =>
      rw [pr_full_o hk c3, if_neg (by decide), c3, if_pos rfl] at hF
      refine ⟨fun c => absurd rfl c, fun _ => ?_⟩
      exact c_rf (k := 6) hR hTx hC (hF _ rfl)
    | true =>
      rw [c3, if_neg (show ¬ true = false by decide)] at hF hO
      refine ⟨fun _ => ?_, fun c => absurd c (by decide)⟩
      have FF : ∀ {k : Nat}, pr_line X p = k → ∀ q, pr_in X D p k = .inl q → rf (fun r h' => ∃ (r6 : Int32) (I6 : Nat → Nat → Int32) (J6 : Nat → Nat → Int64) (R6 : Nat → Nat → Option Nat), r = some (.int r6) ∧ h' = (85, I6, J6, R6) ∧ ow_RF R6 ∧ (R6 25 0 = some 1 ∧ ((r6 = 0 ∨ r6 = 1) ∧ Q (some (.int r6)) (85, I6, J6, R6)))) I R q := by
        intro k hkk q hq I2 J2 a1 a2 a3
        unfold pr_in at hq
        exact ⟨0, I2, J2, R, rfl, rfl, hR, hTx, Or.inl rfl, hF q (by rw [hkk]; exact hq) I2 J2 a1 a2 a3⟩
      have OO : ∀ {k : Nat}, pr_line X p = k → ∀ q, pr_in X D p k = .inr q → ∀ (I2 : Nat → Nat → Int32) (J2 : Nat → Nat → Int64), sp_fr sp_rS [] I I2 → tC I2 X q.2 → dC I2 J2 q.1 → (fun (r : Option Value) (h' : ow_H) => ∃ (r6 : Int32) (I6 : Nat → Nat → Int32) (J6 : Nat → Nat → Int64) (R6 : Nat → Nat → Option Nat), r = some (.int r6) ∧ h' = (85, I6, J6, R6) ∧ ow_RF R6 ∧ (R6 25 0 = some 1 ∧ ((r6 = 0 ∨ r6 = 1) ∧ Q (some (.int r6)) (85, I6, J6, R6)))) (some (Value.int 1)) (85, I2, J2, R) := by
        intro k hkk q hq I2 J2 a1 a2 a3
        unfold pr_in at hq
        exact ⟨1, I2, J2, R, rfl, rfl, hR, hTx, Or.inr rfl, hO q (by rw [hkk]; exact hq) I2 J2 a1 a2 a3⟩
      have hk6 : pr_line X p = 2 ∨ pr_line X p = 3 ∨ pr_line X p = 4 ∨ pr_line X p = 5 ∨ pr_line X p = 6 ∨ pr_line X p = 7 := by omega
      rcases hk6 with e | e | e | e | e | e
      · rw [e]
        exact ⟨fun _ => c_readFolly hR hTx hX hp hC hD hk (FF e) (OO e), fun c => absurd c (by decide), fun c => absurd c (by decide), fun c => absurd c (by decide), fun c => absurd c (by decide), fun c => absurd rfl c.1⟩
      · rw [e]
        exact ⟨fun c => absurd c (by decide), fun _ => c_readSends hR hTx hX hp hC hD hk (FF e) (OO e), fun c => absurd c (by decide), fun c => absurd c (by decide), fun c => absurd c (by decide), fun c => absurd rfl c.2.1⟩
      · rw [e]
        exact ⟨fun c => absurd c (by decide), fun c => absurd c (by decide), fun _ => c_readHermit hR hTx hX hp hC hD hk (FF e) (OO e), fun c => absurd c (by decide), fun c => absurd c (by decide), fun c => absurd rfl c.2.2.1⟩
      · rw [e]
        exact ⟨fun c => absurd c (by decide), fun c => absurd c (by decide), fun c => absurd c (by decide), fun _ => c_readEstate hR hTx hX hp hC hD hk (FF e) (OO e), fun c => absurd c (by decide), fun c => absurd rfl c.2.2.2.1⟩
      · rw [e]
        exact ⟨fun c => absurd c (by decide), fun c => absurd c (by decide), fun c => absurd c (by decide), fun c => absurd c (by decide), fun _ => c_readVeiled hR hTx hX hp hC hD hk (FF e) (OO e), fun c => absurd rfl c.2.2.2.2⟩
      · rw [e]
        exact ⟨fun c => absurd c (by decide), fun c => absurd c (by decide), fun c => absurd c (by decide), fun c => absurd c (by decide), fun c => absurd c (by decide), fun _ => c_readSigned hR hTx hX hp hC hD hk (FF e) (OO e)⟩
  · rw [if_neg c0, if_pos c1] at hF hO
    refine c_readShire hR hTx hX hp hC hD hk ?_ ?_
    · intro q hq I2 J2 a1 a2 a3
      exact ⟨0, I2, J2, R, rfl, rfl, hR, hTx, Or.inl rfl, hF q hq I2 J2 a1 a2 a3⟩
    · intro q hq I2 J2 a1 a2 a3
      exact ⟨1, I2, J2, R, rfl, rfl, hR, hTx, Or.inr rfl, hO q hq I2 J2 a1 a2 a3⟩
  · rw [if_pos c0] at hF
    exact c_rf (k := 1) hR hTx hC (hF _ rfl)
def dd_0 : sp_D := (false, ((0, 0, 0, fun _ => 0, fun _ => 0, fun _ => 0), (0, 0), (0, fun _ => 0, fun _ => 0), (0, fun _ => 0), (0, fun _ => 0, fun _ => none)), (0, 0), fun _ => [])
theorem dk_0 : dk dd_0 := ⟨by decide, by decide, by decide, by decide, by decide, by decide, by decide, rfl, by decide, by decide, fun f hf => absurd hf (Nat.not_lt_zero _), fun f hf => absurd hf (Nat.not_lt_zero _), fun f hf => absurd hf (Nat.not_lt_zero _), fun i j hi => absurd hi (Nat.not_lt_zero _), fun f hf => absurd hf (Nat.not_lt_zero _), fun f hf => by rw [decide_eq_false (fun z => absurd z.1 (Nat.not_lt_zero _))]; exact Nat.zero_testBit f, fun f hf => ⟨fun z => (by rw [show dd_v dd_0 = 0 from rfl, Nat.zero_testBit] at z; cases z), fun ⟨k, hk, _⟩ => absurd hk (Nat.not_lt_zero _)⟩, fun f hf => absurd hf (Nat.not_lt_zero _), fun f hf => absurd hf (Nat.not_lt_zero _), fun _ _ _ => rfl, fun _ _ _ => rfl, fun _ => rfl⟩
theorem c_Told_clear (hR : ow_RF R) (hQ : ∀ I2 : Nat → Nat → Int32, sp_fr sp_rS [] I I2 → I2 25 = I 25 → I2 14 0 = 0 → I2 14 1 = 0 → I2 14 3 = 0 → I2 14 7 = 0 → I2 14 9 = 0 → I2 15 0 = 0 → I2 15 1 = 0 → I2 15 2 = 0 → (∀ g, g < 6 → I2 21 g = 0) → Q none (85, I2, J, R)) : ow_AM M_Told_clear (d + 2) [.ref 14] (85, I, J, R) Q := by
  apply t_Told_clear hR
  intro I1 e1 I2 e2
  apply t_Scene_clear (by decide) hR
  intro I3 e3 I4 e4 I5 e5
  refine ⟨I5, J, R, rfl, rfl, hR, ?_⟩
  intro I6 e6 I7 e7 I8 e8
  have f8 : sp_fr sp_rS [] I I8 := sp_fr_tr (sp_fr_tr (sp_fr_tr (sp_fr_tr (sp_fr_tr (sp_fr_tr (sp_fr_tr (sp_fr_ue e1 (by decide)) (sp_fr_ue e2 (by decide))) (sp_fr_ue e3 (by decide))) (sp_fr_ue e4 (by decide))) (sp_fr_ue e5 (by decide))) (sp_fr_ue e6 (by decide))) (sp_fr_ue e7 (by decide))) (sp_fr_ue e8 (by decide))
  refine sp_up (N := 6) (G := fun i I1 => ow_AW ow_Y0 (ow_Z Q) M_Told_clear (d + 2) 0 0 34 [(0, .ref 14), (1, .int (nI i))] [] (85, I1, J, R) 0 0) (Inv := fun i I1 => sp_eq [21] I8 I1 ∧ ∀ g, g < i → I1 21 g = 0) ?_ ?_ 0 I8 (Nat.zero_le _) ⟨sp_eq_rf, fun g hg => absurd hg (Nat.not_lt_zero _)⟩
  · intro I9 ⟨a0, a1⟩
    apply t_Told_clear_34 hR
    refine ⟨fun _ => hQ I9 (sp_fr_tr f8 (sp_fr_mono (E := []) (sp_frq a0) (by decide) (by decide))) ?_ ?_ ?_ ?_ ?_ ?_ ?_ ?_ ?_ a1, fun c => absurd (by decide) c⟩
    · rw [a0 25 (by decide), e8, ow_u_ne (by decide), e7, ow_u_ne (by decide), e6, ow_u_ne (by decide), e5, ow_u_ne (by decide), e4, ow_u_ne (by decide), e3, ow_u_ne (by decide), e2, ow_u_ne (by decide), e1, ow_u_ne (by decide)]
    · rw [a0 14 (by decide), e8, ow_u_nk (by decide), e7, ow_u_nk (by decide), e6, ow_u_nk (by decide), e5, ow_u_ne (by decide), e4, ow_u_ne (by decide), e3, ow_u_ne (by decide), e2, ow_u_nk (by decide), e1, ow_u_at]
    · rw [a0 14 (by decide), e8, ow_u_nk (by decide), e7, ow_u_nk (by decide), e6, ow_u_nk (by decide), e5, ow_u_ne (by decide), e4, ow_u_ne (by decide), e3, ow_u_ne (by decide), e2, ow_u_at]
    · rw [a0 14 (by decide), e8, ow_u_nk (by decide), e7, ow_u_nk (by decide), e6, ow_u_at]
    · rw [a0 14 (by decide), e8, ow_u_nk (by decide), e7, ow_u_at]
    · rw [a0 14 (by decide), e8, ow_u_at]
    · rw [a0 15 (by decide), e8, ow_u_ne (by decide), e7, ow_u_ne (by decide), e6, ow_u_ne (by decide), e5, ow_u_nk (by decide), e4, ow_u_nk (by decide), e3, ow_u_at]
    · rw [a0 15 (by decide), e8, ow_u_ne (by decide), e7, ow_u_ne (by decide), e6, ow_u_ne (by decide), e5, ow_u_nk (by decide), e4, ow_u_at]
    · rw [a0 15 (by decide), e8, ow_u_ne (by decide), e7, ow_u_ne (by decide), e6, ow_u_ne (by decide), e5, ow_u_at]
  · intro i I1 hi ⟨a0, a1⟩ ih
    apply t_Told_clear_34 hR
    rw [sp_cl (by omega), nI_1]
    refine ⟨fun c => absurd c (nI_ge (b := 6) hi (by decide)), fun _ => ⟨vp_in_nI (by omega) (by decide), fun I9 e9 => ih I9 ⟨sp_eq_tr a0 (sp_eq_ue e9 (by simp)), fun g hg => ?_⟩⟩⟩
    rw [e9]
    by_cases hgi : g = i
    · rw [hgi, ow_u_at]
    · rw [ow_u_nk hgi]; exact a1 g (by omega)
theorem c_read38 (hR : ow_RF R) (hTx : R 25 0 = some 1) (hX : tk_ok X) (hF : ∀ q, pr_go X 901 dd_0 0 = .inl q → rf Q I R q) (hO : ∀ E, pr_go X 901 dd_0 0 = .inr E → dk E → 0 < st_n (dd_T E) → ∀ (I2 : Nat → Nat → Int32) (J2 : Nat → Nat → Int64), sp_fr sp_rS [] I I2 → dC I2 J2 E → Q (some (.int 1)) (85, I2, J2, R)) : ∀ (k i p : Nat) (D : sp_D) (I1 : Nat → Nat → Int32) (J1 : Nat → Nat → Int64), i + k = 901 → p ≤ X.1 → dk D → pr_go X k D p = pr_go X 901 dd_0 0 → sp_fr sp_rS [] I I1 → tC I1 X p → dC I1 J1 D → ow_AW ow_Y0 (ow_Z Q) M_Reader_read (d + 10) 0 0 38 [(0, .ref 13), (3, .int (nI i))] [] (85, I1, J1, R) 0 0 := by
  intro k
  induction k with
  | zero =>
    intro i p D I1 J1 hi hp hk hg f1 hC hD
    rw [pr_go] at hg
    apply t_Reader_read_38 hR
    refine ⟨fun _ => ?_, fun c => absurd (nI_lt (a := 900) (by omega) (by omega)) c⟩
    refine c_Reader_fail (k := 1) hR hC ?_
    intro I2 g2 a1 a2
    exact ⟨0, I2, J1, R, rfl, rfl, hR, Or.inl rfl, hF _ hg.symm I2 J1 (sp_fr_tr f1 (sp_rEs g2)) a1 a2⟩
  | succ k ih =>
    intro i p D I1 J1 hi hp hk hg f1 hC hD
    rw [pr_go] at hg
    apply t_Reader_read_38 hR
    refine ⟨fun c => absurd c (nI_nlt (a := 900) (by omega) (by decide)), fun _ => ?_⟩
    refine c_readLine hR hTx hX hp hC hD hk ?_ ?_
    · intro q hq I2 J2 a1 a2 a3
      rw [bd_l hq] at hg
      refine ⟨0, I2, J2, R, rfl, rfl, hR, fun c => absurd rfl c, fun _ => hF q hg.symm I2 J2 (sp_fr_tr f1 a1) a2 a3⟩
    · intro q hq I2 J2 a1 hC2 hD2
      obtain ⟨k2, o2, m2, l2⟩ := dk_rl hp hk hq
      have hk4 := tk_k4 (X := X) (p := q.2)
      rw [bd_r hq] at hg
      have f2 : sp_fr sp_rS [] I I2 := sp_fr_tr f1 a1
      refine ⟨1, I2, J2, R, rfl, rfl, hR, fun _ => ?_, fun c => absurd c (by decide)⟩
      have e3 : nI (tk_k X q.2) = 3 ↔ tk_k X q.2 = 3 := nI_eq (b := 3) (by omega) (by decide)
      rw [hC2.2.2.1, sp_z (n := tk_k X q.2) (by omega), e3]
      refine ⟨fun c0 => ⟨fun c3 => ?_, fun c3 => ?_⟩, fun c0 => ?_⟩
      · rw [if_neg c0, if_pos c3] at hg
        refine c_adv hR hTx hX l2 hC2 ?_
        intro I3 g3 hC3
        refine ⟨I3, J2, R, rfl, rfl, hR, ?_⟩
        have h3 : sp_fr [] sp_rE I2 I3 := sp_fr_mono g3 (by decide) (by decide)
        rw [nI_1]
        exact ih (i + 1) (tk_n X q.2) q.1 I3 J2 (by omega) (tk_n_le l2) k2 hg (sp_fr_tr f2 (sp_rEs h3)) hC3 (dC_k hD2 h3 rfl rfl)
      · rw [if_neg c0, if_neg c3] at hg
        refine c_Reader_fail (k := 1) hR hC2 ?_
        intro I3 g3 a1 a2
        exact ⟨0, I3, J2, R, rfl, rfl, hR, Or.inl rfl, hF _ hg.symm I3 J2 (sp_fr_tr f2 (sp_rEs g3)) a1 a2⟩
      · rw [if_pos c0] at hg
        rw [show I2 15 0 = nI (st_n (dd_T q.1)) from hD2.2.1.1]
        have n6 := k2.1
        have zp : 0 < nI (st_n (dd_T q.1)) ↔ 0 < st_n (dd_T q.1) := nI_ltI (a := 0) (by decide) (by omega)
        rw [zp]
        refine ⟨fun c => ?_, fun c => ?_⟩
        · rw [if_pos c] at hg
          exact hO q.1 hg.symm k2 c I2 J2 f2 hD2
        · rw [if_neg c] at hg
          refine c_Reader_fail (k := 6) hR hC2 ?_
          intro I3 g3 a1 a2
          exact ⟨0, I3, J2, R, rfl, rfl, hR, fun _ => hF _ hg.symm I3 J2 (sp_fr_tr f2 (sp_rEs g3)) a1 a2, fun c => absurd rfl c⟩
theorem c_Reader_read (hR : ow_RF R) (hX : tk_ok X) (ht : ∀ j, j < X.1 → I 1 j = sp_sb (X.2 j)) (hF : ∀ q R2, ow_RF R2 → pr_go X 901 dd_0 0 = .inl q → rf Q I R2 q) (hO : ∀ E R2, ow_RF R2 → pr_go X 901 dd_0 0 = .inr E → dk E → 0 < st_n (dd_T E) → ∀ (I2 : Nat → Nat → Int32) (J2 : Nat → Nat → Int64), sp_fr sp_rS [] I I2 → dC I2 J2 E → Q (some (.int 1)) (85, I2, J2, R2)) : ow_AM M_Reader_read (d + 10) [.ref 13, .ref 1, .int (nI X.1)] (85, I, J, R) Q := by
  have x9 := hX.1
  apply t_Reader_read hR
  refine c_Told_clear hR ?_
  intro I1 f1 r25 b1 b2 b3 b4 b5 b6 b7 b8 b9
  refine ⟨I1, J, R, rfl, rfl, hR, ?_⟩
  intro I2 e2 I3 e3 I4 e4 I5 e5
  have r5 : ∀ a, a ≠ 13 → I5 a = I1 a := fun a h => by rw [e5, ow_u_ne h, e4, ow_u_ne h, e3, ow_u_ne h, e2, ow_u_ne h]
  have f5 : sp_fr sp_rS [] I I5 := sp_fr_tr (sp_fr_tr (sp_fr_tr (sp_fr_tr f1 (sp_fr_ue e2 (by decide))) (sp_fr_ue e3 (by decide))) (sp_fr_ue e4 (by decide))) (sp_fr_ue e5 (by decide))
  have t1 : I1 1 = I 1 := sp_fr_row f1 (by decide) (by simp)
  apply t_Tokens_open hR
  intro R7 eR I6 e6 I7 e7
  have hR7 : ow_RF R7 := by
    intro o k h
    rw [eR, ow_u_ne2 (fun z => h z)]
    exact hR o k h
  have hT7 : R7 25 0 = some 1 := by rw [eR, ow_u_at]
  have hmin : (if 900 < nI X.1 then (900 : Int32) else nI X.1) = nI X.1 := if_neg (nI_nlt (a := 900) x9 (by decide))
  rw [hmin] at e6
  have f7 : sp_fr sp_rS [] I I7 := sp_fr_tr (sp_fr_tr f5 (sp_fr_ue e6 (by decide))) (sp_fr_ue e7 (by decide))
  have r7 : ∀ a, a ≠ 25 → I7 a = I5 a := fun a h => by rw [e7, ow_u_ne h, e6, ow_u_ne h]
  refine c_Tokens_advance (p := 0) hR7 hT7 hX (by rw [e7, ow_u_nk (by decide), e6, ow_u_at]) (by rw [e7, ow_u_at]; rfl) (fun j hj => by rw [r7 1 (by decide), r5 1 (by decide), t1]; exact ht j hj) (Nat.zero_le _) ?_
  intro I8 g8 hC8
  refine ⟨I8, J, R7, rfl, rfl, hR7, hT7, ?_⟩
  refine ⟨I8, J, R7, rfl, rfl, hR7, ?_⟩
  have f8 : sp_fr sp_rS [] I I8 := sp_fr_tr f7 (sp_fr_mono g8 (by decide) (by decide))
  have r8 : ∀ a, a ≠ 25 → I8 a = I7 a := fun a h => sp_fr_row g8 (by simp) (by simp [h])
  have s8 : ∀ a, a ≠ 25 → a ≠ 13 → I8 a = I1 a := fun a h1 h2 => by rw [r8 a h1, r7 a h1, r5 a h2]
  refine c_read38 hR7 hT7 hX (fun q hq => hF q R7 hR7 hq) (fun E hE => hO E R7 hR7 hE) 901 0 0 dd_0 I8 J (by omega) (Nat.zero_le _) dk_0 rfl f8 hC8 ?_
  have u13 : ∀ k, I8 13 k = I5 13 k := fun k => by rw [r8 13 (by decide), r7 13 (by decide)]
  refine ⟨⟨?_, ?_, ?_, ?_, ?_⟩, ⟨?_, ?_, ?_, fun f hf => absurd hf (Nat.not_lt_zero _)⟩, fun e he => absurd he (Nat.not_lt_zero _), fun g hg => ?_, fun e he => absurd he (Nat.not_lt_zero _), fun e he => absurd he (Nat.not_lt_zero _), ⟨?_, ?_, ?_⟩, fun e he => absurd he (Nat.not_lt_zero _), fun e he => absurd he (Nat.not_lt_zero _)⟩
  · rw [s8 14 (by decide) (by decide)]; exact b1
  · rw [s8 14 (by decide) (by decide)]; exact b2
  · rw [s8 14 (by decide) (by decide)]; exact b3
  · rw [s8 14 (by decide) (by decide)]; exact b4
  · rw [s8 14 (by decide) (by decide)]; exact b5
  · rw [s8 15 (by decide) (by decide)]; exact b6
  · rw [s8 15 (by decide) (by decide)]; exact b7
  · rw [s8 15 (by decide) (by decide)]; exact b8
  · rw [s8 21 (by decide) (by decide)]; exact b9 g hg
  · rw [u13, e5, ow_u_nk (by decide), e4, ow_u_nk (by decide), e3, ow_u_nk (by decide), e2, ow_u_at]; rfl
  · rw [u13, e5, ow_u_nk (by decide), e4, ow_u_nk (by decide), e3, ow_u_at]; rfl
  · rw [u13, e5, ow_u_nk (by decide), e4, ow_u_at]; rfl
end READ2
