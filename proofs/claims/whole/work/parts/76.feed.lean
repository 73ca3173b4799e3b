/-! Own rows: shire and feed, on both sides together. -/
section FEED
theorem st_now_self {T : sp_T} (hT : st_ok T) : st_now T T.1 := ⟨hT.1, rfl, by have := hT.2.2.1; unfold st_v at this; omega, fun _ _ => rfl⟩
theorem sp_CX_f {I I2 : Nat → Nat → Int32} {T : sp_T} {V : sp_V} {h g : Nat} {H G : Nat → sp_V} (x : sp_CX I T V h H g G) (h0 : I2 0 14 = I 0 14) (hf : ∀ a, 1 < a → a < 70 → (a < 13 ∨ 28 < a) → I2 a = I a) : sp_CX I2 T V h H g G := by
  refine ⟨⟨by rw [h0]; exact x.1.1, sp_ct_k x.1.2.1 (fun a ha => hf a ?_ ?_ ?_), sp_S_kr x.1.2.2 (hf 29 (by decide) (by decide) (by decide)) (hf 30 (by decide) (by decide) (by decide)) (hf 31 (by decide) (by decide) (by decide)) (hf 32 (by decide) (by decide) (by decide))⟩, sp_FT_k x.2.1 (by rw [hf 54 (by decide) (by decide) (by decide)]) (hf 61 (by decide) (by decide) (by decide)), sp_CH_k x.2.2 (hf 66 (by decide) (by decide) (by decide)) (hf 67 (by decide) (by decide) (by decide)) (hf 68 (by decide) (by decide) (by decide)) (hf 69 (by decide) (by decide) (by decide))⟩
  all_goals
    simp only [List.mem_cons, List.not_mem_nil, or_false] at ha
    omega
theorem sp_C0_f {I I2 : Nat → Nat → Int32} (x : sp_C0 I) (h0 : I2 0 14 = I 0 14) (hf : ∀ a, 1 < a → a < 70 → (a < 13 ∨ 28 < a) → I2 a = I a) : sp_C0 I2 := by
  obtain ⟨x1, ⟨x2, x3, x4, x5, x6⟩, x7, x8, x9⟩ := x
  refine ⟨by rw [h0]; exact x1, ⟨?_, ?_, ?_, ?_, ?_⟩, sp_S_kr x7 (hf 29 (by decide) (by decide) (by decide)) (hf 30 (by decide) (by decide) (by decide)) (hf 31 (by decide) (by decide) (by decide)) (hf 32 (by decide) (by decide) (by decide)), by rw [hf 66 (by decide) (by decide) (by decide)]; exact x8, by rw [hf 68 (by decide) (by decide) (by decide)]; exact x9⟩
  all_goals rw [hf 2 (by decide) (by decide) (by decide)]
  all_goals assumption
/-- shire: the text is read, or found faulty, or too long for the tape -/
theorem p_shire {x : Int32} : sp_U Value.int M_Fs_shire M_Mo_shire [.int x] := by
  intro d I J R Q hR hW hQ
  obtain ⟨⟨t, B, hG⟩, hT, hS⟩ := id hW
  obtain ⟨g1, g2, g3, g4, g5, g6⟩ := hG
  cases hb : sp_bt x 0 t with
  | false =>
    have E : ∀ I2 : Nat → Nat → Int32, sp_fr [] [(0, 15)] I I2 → I2 0 15 = 2 → Q (some (.int (-1))) (85, I2, J, R) := by
      intro I2 f2 v2
      refine hQ _ I2 J R hR ?_
      intro Q2 hQ2
      apply t_Mo_shire hR
      refine c_Mo_good hR ?_
      intro I3 k0 k1 k2
      refine ⟨I3, J, R, rfl, rfl, hR, ?_⟩
      rw [show I3 70 2 = nI t from by rw [k0 70 (by decide) 2 (by decide), sp_fr_row f2 (by decide) (by simp)]; exact g4]
      refine c_Mo_inG (a := 0) (b := t) hR (by decide) (by omega) ⟨_, I3, J, R, rfl, rfl, hR, ?_⟩
      rw [hb]
      refine ⟨fun c => absurd rfl c, fun _ => ?_⟩
      refine c_Mo_no hR ?_
      intro I4 k3 k4
      exact ⟨_, I4, J, R, rfl, rfl, hR, hQ2 I4 J R hR (sp_W_2 hW (sp_cm f2) v2 (sp_fr_tr (sp_mm k0) (sp_mm1 k3)) k4 (by decide))⟩
    apply t_Fs_shire hR
    rw [g3]
    refine ⟨fun _ => ?_, fun hneg => ⟨fun hle => ?_, fun _ => ?_⟩⟩
    · refine c_Fs_refused hR ?_
      intro I2 f2 v2
      exact ⟨_, I2, J, R, rfl, rfl, hR, E I2 f2 v2⟩
    · exfalso
      have b1 : ¬ x.toInt < 0 := fun c => hneg (Int32.lt_iff_toInt_lt.mpr (by rw [show (0 : Int32).toInt = 0 from rfl]; exact c))
      have b2 := Int32.le_iff_toInt_le.mp hle
      rw [nI_toInt (by omega)] at b2
      have b3 := of_decide_eq_false hb
      omega
    · refine c_Fs_refused hR ?_
      intro I2 f2 v2
      exact ⟨_, I2, J, R, rfl, rfl, hR, E I2 f2 v2⟩
  | true =>
    obtain ⟨n, _, hn, hx⟩ := sp_bt_nI hb
    rw [hx] at hQ ⊢
    obtain ⟨y1, y2, y3, y4, y5⟩ := hT
    refine c_Fs_shireG hR g1 g2 hn g3 g5 y4 y5 ?_ ?_
    · intro q hq I2 J2 R2 hR2 f2 a1 a16 a17 a15
      refine hQ _ I2 J2 R2 hR2 ?_
      intro Q2 hQ2
      have hi : ∀ a, 25 < a → I2 a = I a := fun a ha => sp_fr_row f2 (by unfold sp_rS; simp only [List.mem_cons, List.not_mem_nil, or_false]; omega) (by intro k; simp only [List.mem_cons, List.not_mem_nil, or_false, Prod.mk.injEq]; omega)
      refine c_Mo_shireG hR2 g1 g2 hn (by rw [hi 70 (by decide)]; exact g4) (fun j hj => by rw [hi 71 (by decide)]; exact g6 j hj) ?_ ?_
      · intro q2 I3 hq2 f3 b2 b0 I4 f4 c9 c10 c11 ck
        have eq2 : q2 = q := by rw [hq] at hq2; exact (Sum.inl.inj hq2).symm
        rw [eq2] at c9 c10
        obtain ⟨k74, k76, k78, k14, k22, k23⟩ := ck
        have l3 : ∀ a, a < 70 → I3 a = I2 a := fun a ha => sp_fr_row f3 (by simp only [List.mem_cons, List.not_mem_nil, or_false]; omega) (by intro k; simp only [List.mem_cons, List.not_mem_nil, or_false, Prod.mk.injEq]; omega)
        have l4 : ∀ a, a < 70 → I4 a = I2 a := fun a ha => by rw [sp_fr_row f4 (by unfold sp_hS; simp only [List.mem_cons, List.not_mem_nil, or_false]; omega) (by intro k; unfold sp_hE; simp only [List.mem_cons, List.not_mem_nil, or_false, Prod.mk.injEq]; omega), l3 a ha]
        have r4 : ∀ a, 70 < a → a ≠ 72 → a ≠ 73 → a ≠ 74 → a ≠ 75 → a ≠ 76 → a ≠ 77 → I4 a = I a := fun a h1 h2 h3 h4 h5 h6 h7 => by rw [sp_fr_row f4 (by unfold sp_hS; simp only [List.mem_cons, List.not_mem_nil, or_false]; omega) (by intro k; unfold sp_hE; simp only [List.mem_cons, List.not_mem_nil, or_false, Prod.mk.injEq]; omega), sp_fr_row f3 (by simp only [List.mem_cons, List.not_mem_nil, or_false]; omega) (by intro k; simp only [List.mem_cons, List.not_mem_nil, or_false, Prod.mk.injEq]; omega), hi a (by omega)]
        have m3 : ∀ a, a = 73 ∨ a = 75 ∨ a = 77 → I3 a = I a := fun a h => by rw [sp_fr_row f3 (by simp only [List.mem_cons, List.not_mem_nil, or_false]; omega) (by intro k; simp only [List.mem_cons, List.not_mem_nil, or_false, Prod.mk.injEq]; omega), hi a (by omega)]
        have n3 : ∀ k, k = 14 ∨ k = 22 ∨ k = 23 → I3 70 k = I 70 k := fun k h => by rw [f3 70 (by decide) k (by simp only [List.mem_cons, List.not_mem_nil, or_false, Prod.mk.injEq]; omega), hi 70 (by decide)]
        have lo : ∀ a, 1 < a → a < 70 → (a < 13 ∨ 28 < a) → I4 a = I a := fun a h1 h2 h3 => by rw [l4 a h2, sp_fr_row f2 (by unfold sp_rS; simp only [List.mem_cons, List.not_mem_nil, or_false]; omega) (by intro k; simp only [List.mem_cons, List.not_mem_nil, or_false, Prod.mk.injEq]; omega)]
        have l14 : I4 0 14 = I 0 14 := by rw [l4 0 (by decide), f2 0 (by decide) 14 (by decide)]
        refine hQ2 I4 J2 R2 hR2 ⟨⟨0, B, Nat.zero_le _, g2, ?_, ?_, fun j hj => absurd hj (Nat.not_lt_zero _), fun j hj => absurd hj (Nat.not_lt_zero _)⟩, ⟨?_, ?_, fun _ => ?_, ?_, ?_⟩, ?_⟩
        · rw [l4 0 (by decide)]; exact a1
        · rw [f4 70 (by decide) 2 (by decide)]; exact b2
        · rw [l4 0 (by decide), a15, c11]
        · rw [l4 0 (by decide), a16, c9]
        · rw [l4 0 (by decide), a17, c10]
        · rw [lo 66 (by decide) (by decide) (by decide)]; exact y4
        · rw [lo 68 (by decide) (by decide) (by decide)]; exact y5
        rcases hS with ⟨T, V, h, H, g, G, x1, x2, x3, x4, x5, x6⟩ | ⟨x1, x2⟩
        · refine Or.inl ⟨T, V, h, H, g, G, x1, x2, x3, x4, sp_CX_f x5 l14 lo, ⟨by rw [k14, n3 14 (by decide)]; exact x6.1.1, sp_mt_k x6.1.2.1 (by rw [k74, m3 73 (by decide)]) (by rw [k76, m3 75 (by decide)]), sp_Mw_k x6.1.2.2 (by rw [k78, m3 77 (by decide)])⟩, sp_MH_k x6.2 (by rw [k22, n3 22 (by decide)]) (r4 78 (by decide) (by decide) (by decide) (by decide) (by decide) (by decide) (by decide)) (by rw [k23, n3 23 (by decide)]) (r4 79 (by decide) (by decide) (by decide) (by decide) (by decide) (by decide) (by decide))⟩
        · exact Or.inr ⟨sp_C0_f x1 l14 lo, by rw [k14, n3 14 (by decide)]; exact x2.1, by rw [k22, n3 22 (by decide)]; exact x2.2.1, by rw [k23, n3 23 (by decide)]; exact x2.2.2⟩
      · intro E2 I3 hE2
        rw [hq] at hE2
        exact absurd hE2 (fun c => by cases c)
    · intro E hE hkE hnE I2 J2 R2 hR2 f2 a1 a16 a15 hX
      refine hQ _ I2 J2 R2 hR2 ?_
      intro Q2 hQ2
      have hi : ∀ a, 69 < a → I2 a = I a := fun a ha => sp_fr_row f2 (by unfold sp_jS; simp only [List.mem_cons, List.not_mem_nil, or_false]; omega) (by intro k; unfold sp_jE; simp only [List.mem_cons, List.not_mem_nil, or_false, Prod.mk.injEq]; omega)
      refine c_Mo_shireG hR2 g1 g2 hn (by rw [hi 70 (by decide)]; exact g4) (fun j hj => by rw [hi 71 (by decide)]; exact g6 j hj) ?_ ?_
      · intro q2 I3 hq2
        rw [hE] at hq2
        exact absurd hq2 (fun c => by cases c)
      · intro E2 I3 hE2 hk2 hn2 f3 b2 b0 b11 I4 f4 mt4 mw4 c14 c22 c23 c11 c9
        have eE : E2 = E := by rw [hE] at hE2; exact (Sum.inr.inj hE2).symm
        rw [eE] at mt4 mw4 ⊢
        have l4 : ∀ a, a < 70 → I4 a = I2 a := fun a ha => by rw [sp_fr_row f4 (by unfold sp_hS; simp only [List.mem_cons, List.not_mem_nil, or_false]; omega) (by intro k; unfold sp_hE; simp only [List.mem_cons, List.not_mem_nil, or_false, Prod.mk.injEq]; omega), sp_fr_row f3 (by simp only [List.mem_cons, List.not_mem_nil, or_false]; omega) (by intro k; simp only [List.mem_cons, List.not_mem_nil, or_false, Prod.mk.injEq]; omega)]
        have hT := st_dk hkE hnE
        refine hQ2 I4 J2 R2 hR2 ⟨⟨0, B, Nat.zero_le _, g2, ?_, ?_, fun j hj => absurd hj (Nat.not_lt_zero _), fun j hj => absurd hj (Nat.not_lt_zero _)⟩, ⟨?_, ?_, fun c => ?_, ?_, ?_⟩, Or.inl ⟨dd_T E, (dd_T E).1, 0, fun _ => (dd_T E).1, 0, fun _ => (dd_T E).1, hT, st_now_self hT, fun i hi => absurd hi (Nat.not_lt_zero _), fun i hi => absurd hi (Nat.not_lt_zero _), sp_CX_r (hX _ _) l4, ⟨c14, mt4, mw4⟩, c22, Nat.zero_le _, fun i hi => absurd hi (Nat.not_lt_zero _), c23, Nat.zero_le _, fun i hi => absurd hi (Nat.not_lt_zero _)⟩⟩
        · rw [l4 0 (by decide)]; exact a1
        · rw [f4 70 (by decide) 2 (by decide)]; exact b2
        · rw [l4 0 (by decide), a15, c11, b11]
        · rw [l4 0 (by decide), a16, c9]
        · rw [l4 0 (by decide), a15] at c; exact absurd c (by decide)
        · rw [l4 66 (by decide), f2 66 (by decide) 0 (by decide)]; exact y4
        · rw [l4 68 (by decide), f2 68 (by decide) 0 (by decide)]; exact y5
end FEED
