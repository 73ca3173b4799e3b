/-! Own rows: the other methods of Scene. -/
theorem sp_sep2 : ∀ o ∈ [3, 15, 29, 33, 42, 47, 57], ∀ q ∈ [3, 15, 29, 33, 42, 47, 57], o ≠ q → ∀ i, i < 4 → ∀ j, j < 4 → o + i ≠ q + j := by decide
theorem c_Scene_take {d : Nat} {I : Nat → Nat → Int32} {J : Nat → Nat → Int64} {R : Nat → Nat → Option Nat} {Q : Option Value → ow_H → Prop} {o q : Nat} {V : sp_V} (hR : ow_RF R) (ho : o ∈ [3, 15, 29, 33, 42, 47, 57]) (hq : q ∈ [3, 15, 29, 33, 42, 47, 57]) (hne : o ≠ q) (hS : sp_S I q V) (hn6 : sp_n V ≤ 6)
    (hQ : ∀ I2 : Nat → Nat → Int32, sp_eq [o, o + 1, o + 2, o + 3] I I2 → sp_S I2 o V → Q none (85, I2, J, R)) : ow_AM M_Scene_take (d + 1) [.ref o, .ref q] (85, I, J, R) Q := by
  have hsep := sp_sep2 o ho q hq hne
  have hx : ∀ j, j < 4 → q + j ∉ [o, o + 1, o + 2, o + 3] := by
    intro j hj h
    simp only [List.mem_cons, List.not_mem_nil, or_false] at h
    rcases h with h | h | h | h
    · exact hsep 0 (by decide) j hj h.symm
    · exact hsep 1 (by decide) j hj h.symm
    · exact hsep 2 (by decide) j hj h.symm
    · exact hsep 3 (by decide) j hj h.symm
  have h00 : q ≠ o := fun h => hne h.symm
  apply t_Scene_take ho hq hR
  intro I4 e4 I5 e5 I6 e6
  have f4 : sp_eq [o, o + 1, o + 2, o + 3] I I4 := sp_eq_ue e4 (by simp)
  rw [f4 q (hx 0 (by decide))] at e5
  have f5 : sp_eq [o, o + 1, o + 2, o + 3] I I5 := sp_eq_tr f4 (sp_eq_ue e5 (by simp))
  rw [f5 q (hx 0 (by decide))] at e6
  have f6 : sp_eq [o, o + 1, o + 2, o + 3] I I6 := sp_eq_tr f5 (sp_eq_ue e6 (by simp))
  refine sp_up (N := 6) (G := fun i I1 => ow_AW ow_Y0 (ow_Z Q) M_Scene_take (d + 1) 0 0 26 [(0, .ref o), (1, .ref q), (2, .int (nI i))] [] (85, I1, J, R) 0 0) (Inv := fun i I1 => sp_eq [o, o + 1, o + 2, o + 3] I I1 ∧ I1 o 0 = I q 0 ∧ I1 o 1 = I q 1 ∧ I1 o 2 = I q 2 ∧ ∀ f, f < i → I1 (o + 1) f = I (q + 1) f ∧ I1 (o + 2) f = I (q + 2) f ∧ I1 (o + 3) f = I (q + 3) f) ?_ ?_ 0 I6 (Nat.zero_le _) ⟨f6, ?_, ?_, ?_, fun f hf => absurd hf (Nat.not_lt_zero _)⟩
  · intro I1 ⟨he, x0, x1, x2, x3⟩
    apply t_Scene_take_26 ho hq hR
    refine ⟨fun _ => hQ I1 he ?_, fun c => absurd (by decide) c⟩
    obtain ⟨s1, s2, s3, s4⟩ := hS
    refine ⟨x0.trans s1, x1.trans s2, x2.trans s3, fun f hf => ?_⟩
    obtain ⟨y1, y2, y3⟩ := x3 f (by omega)
    rw [y1, y2, y3]
    exact s4 f hf
  · intro i I1 hi ⟨he, x0, x1, x2, x3⟩ ih
    apply t_Scene_take_26 ho hq hR
    have hin : vp_in (nI i) 6 := vp_in_nI hi (by decide)
    refine ⟨fun c => absurd c (nI_ge (b := 6) hi (by decide)), fun _ => ⟨hin, hin, fun I1a ea => ⟨hin, hin, fun I1b eb => ⟨hin, hin, fun I1c ec => ?_⟩⟩⟩⟩
    rw [sp_cl (by omega)] at ea eb ec
    have fa : sp_eq [o, o + 1, o + 2, o + 3] I I1a := sp_eq_tr he (sp_eq_ue ea (by simp))
    have fb : sp_eq [o, o + 1, o + 2, o + 3] I I1b := sp_eq_tr fa (sp_eq_ue eb (by simp))
    have fc : sp_eq [o, o + 1, o + 2, o + 3] I I1c := sp_eq_tr fb (sp_eq_ue ec (by simp))
    rw [he _ (hx 1 (by decide))] at ea
    rw [fa _ (hx 2 (by decide))] at eb
    rw [fb _ (hx 3 (by decide))] at ec
    rw [nI_1]
    refine ih I1c ⟨fc, ?_, ?_, ?_, fun f hf => ?_⟩
    · rw [ec, ow_u_ne (by omega), eb, ow_u_ne (by omega), ea, ow_u_ne (by omega)]; exact x0
    · rw [ec, ow_u_ne (by omega), eb, ow_u_ne (by omega), ea, ow_u_ne (by omega)]; exact x1
    · rw [ec, ow_u_ne (by omega), eb, ow_u_ne (by omega), ea, ow_u_ne (by omega)]; exact x2
    · have r1 : I1c (o + 1) f = if f = i then I (q + 1) i else I1 (o + 1) f := by
        rw [ec, ow_u_ne (by omega), eb, ow_u_ne (by omega), ea]
        unfold ow_u
        by_cases hfi : f = i
        · rw [if_pos ⟨rfl, hfi⟩, if_pos hfi]
        · rw [if_neg (fun z => hfi z.2), if_neg hfi]
      have r2 : I1c (o + 2) f = if f = i then I (q + 2) i else I1 (o + 2) f := by
        rw [ec, ow_u_ne (by omega), eb]
        unfold ow_u
        by_cases hfi : f = i
        · rw [if_pos ⟨rfl, hfi⟩, if_pos hfi]
        · rw [if_neg (fun z => hfi z.2), if_neg hfi, ea, ow_u_ne (by omega)]
      have r3 : I1c (o + 3) f = if f = i then I (q + 3) i else I1 (o + 3) f := by
        rw [ec]
        unfold ow_u
        by_cases hfi : f = i
        · rw [if_pos ⟨rfl, hfi⟩, if_pos hfi]
        · rw [if_neg (fun z => hfi z.2), if_neg hfi, eb, ow_u_ne (by omega), ea, ow_u_ne (by omega)]
      rw [r1, r2, r3]
      by_cases hfi : f = i
      · rw [if_pos hfi, if_pos hfi, if_pos hfi, hfi]
        exact ⟨rfl, rfl, rfl⟩
      · rw [if_neg hfi, if_neg hfi, if_neg hfi]
        exact x3 f (by omega)
  · rw [e6, ow_u_nk (by decide), e5, ow_u_nk (by decide), e4, ow_u_at]
  · rw [e6, ow_u_nk (by decide), e5, ow_u_at]
  · rw [e6, ow_u_at]
/-- k years on, by rot r -/
def sp_age (V : sp_V) (r k : Nat) : sp_V := (sp_n V, sp_y V + k, sp_h V, sp_sh V, fun f => sp_so V f - r * k, sp_to V)
theorem sp_max {a b : Nat} (ha : a < 10000) (hb : b < 10000) : (if (0 : Int32) < nI a - nI b then nI a - nI b else 0) = nI (a - b) := by
  by_cases h : b < a
  · rw [pk_sub (Nat.le_of_lt h), if_pos]
    have := nI_lt (a := 0) (b := a - b) (by omega) (by omega)
    exact this
  · have e : a - b = 0 := by omega
    rw [e]
    by_cases h2 : a = b
    · subst h2
      rw [pk_sub (Nat.le_refl _), Nat.sub_self]
      rfl
    · rw [if_neg]
      · rfl
      · intro c
        have := pk_sneg (a := a) (b := b) (by omega) (by omega)
        exact absurd (Int32.lt_trans c this) (by decide)
theorem c_Scene_age {d : Nat} {I : Nat → Nat → Int32} {J : Nat → Nat → Int64} {R : Nat → Nat → Option Nat} {Q : Option Value → ow_H → Prop} {o r k : Nat} {V : sp_V} (hR : ow_RF R) (ho : o ∈ [3, 15, 29, 33, 42, 47, 57]) (hS : sp_S I o V) (hV : sp_ok V) (hr : r < 10) (hk : k < 100)
    (hQ : ∀ I2 : Nat → Nat → Int32, sp_fr [o + 2] [(o, 1)] I I2 → sp_S I2 o (sp_age V r k) → Q none (85, I2, J, R)) : ow_AM M_Scene_age (d + 1) [.ref o, .int (nI r), .int (nI k)] (85, I, J, R) Q := by
  have hn6 := hV.1
  have hrk : r * k < 1000 := by
    have : r * k ≤ 9 * 99 := Nat.mul_le_mul (by omega) (by omega)
    omega
  obtain ⟨s1, s2, s3, s4⟩ := id hS
  apply t_Scene_age ho hR
  intro I3 e3
  rw [s2, nI_add] at e3
  refine sp_up (N := sp_n V) (G := fun i I1 => ow_AW ow_Y0 (ow_Z Q) M_Scene_age (d + 1) 0 0 12 [(0, .ref o), (1, .int (nI r)), (2, .int (nI k)), (3, .int (nI i))] [] (85, I1, J, R) 0 0) (Inv := fun i I1 => sp_fr [o + 2] [(o, 1)] I I1 ∧ I1 o 1 = nI (sp_y V + k) ∧ ∀ f, f < sp_n V → I1 (o + 2) f = if f < i then nI (sp_so V f - r * k) else nI (sp_so V f)) ?_ ?_ 0 I3 (Nat.zero_le _) ⟨sp_fr_ue e3 (by simp), by rw [e3, ow_u_at], fun f hf => by rw [e3, ow_u_ne (by omega), if_neg (Nat.not_lt_zero _)]; exact (s4 f hf).2.1⟩
  · intro I1 ⟨he, x1, x2⟩
    have z0 : I1 o 0 = nI (sp_n V) := by rw [he o (by simp) 0 (by simp)]; exact s1
    apply t_Scene_age_12 ho hR
    rw [z0]
    refine ⟨fun _ => hQ I1 he ⟨z0, x1, ?_, fun f hf => ⟨?_, ?_, ?_⟩⟩, fun c => absurd (Int32.le_refl _) c⟩
    · rw [he o (by simp) 2 (by simp)]; exact s3
    · rw [he (o + 1) (by simp) f (by simp)]; exact (s4 f hf).1
    · have := x2 f hf
      rw [if_pos (show f < sp_n V from hf)] at this
      exact this
    · rw [he (o + 3) (by simp) f (by simp)]; exact (s4 f hf).2.2
  · intro i I1 hi ⟨he, x1, x2⟩ ih
    have z0 : I1 o 0 = nI (sp_n V) := by rw [he o (by simp) 0 (by simp)]; exact s1
    apply t_Scene_age_12 ho hR
    rw [z0]
    have hin : vp_in (nI i) 6 := vp_in_nI (by omega) (by decide)
    refine ⟨fun c => absurd c (nI_ge hi (by omega)), fun _ => ⟨hin, hin, fun I2 e2 => ?_⟩⟩
    have y := x2 i hi
    rw [if_neg (Nat.lt_irrefl _)] at y
    have b2 := (hV.2.2.2 i hi).2.1
    rw [sp_cl (by omega), y, pk_mul, sp_max (by omega) (by omega)] at e2
    rw [nI_1]
    refine ih I2 ⟨sp_fr_tr he (sp_fr_ue e2 (by simp)), ?_, fun f hf => ?_⟩
    · rw [e2, ow_u_ne (by omega)]; exact x1
    · rw [e2]
      by_cases hfi : f = i
      · subst hfi
        rw [ow_u_at, if_pos (Nat.lt_succ_self _)]
      · rw [ow_u_nk hfi, x2 f hf]
        by_cases h : f < i
        · rw [if_pos h, if_pos (by omega)]
        · rw [if_neg h, if_neg (by omega)]
/-- the sound ones, as bits -/
def sp_bs (V : sp_V) : Nat → Nat
  | 0 => 0
  | f + 1 => if 0 < sp_so V f then sp_bs V f ||| 2 ^ f else sp_bs V f
theorem sp_bs_lt {V : sp_V} (hn6 : sp_n V ≤ 6) : ∀ k, k ≤ sp_n V → sp_bs V k < 64 := by
  intro k
  induction k with
  | zero => intro _; exact (by decide : 0 < 64)
  | succ k ih =>
    intro hk
    rw [sp_bs]
    by_cases h : 0 < sp_so V k
    · rw [if_pos h]; exact (sp_or _ (ih (by omega)) k (by omega)).2
    · rw [if_neg h]; exact ih (by omega)
theorem c_Scene_bitsSound {d : Nat} {I : Nat → Nat → Int32} {J : Nat → Nat → Int64} {R : Nat → Nat → Option Nat} {Q : Option Value → ow_H → Prop} {o : Nat} {V : sp_V} (hR : ow_RF R) (ho : o ∈ [3, 15, 29, 33, 42, 47, 57]) (hS : sp_S I o V) (hV : sp_ok V) (hQ : Q (some (.int (nI (sp_bs V (sp_n V))))) (85, I, J, R)) : ow_AM M_Scene_bitsSound (d + 1) [.ref o] (85, I, J, R) Q := by
  have hn6 := hV.1
  obtain ⟨s1, s2, s3, s4⟩ := id hS
  apply t_Scene_bitsSound ho hR
  refine sp_up (σ := Unit) (N := sp_n V) (G := fun i _ => ow_AW ow_Y0 (ow_Z Q) M_Scene_bitsSound (d + 1) 0 0 4 [(0, .ref o), (1, .int (nI (sp_bs V i))), (2, .int (nI i))] [] (85, I, J, R) 0 0) (Inv := fun _ _ => True) ?_ ?_ 0 () (Nat.zero_le _) trivial
  · intro _ _
    apply t_Scene_bitsSound_4 ho hR
    rw [s1]
    exact ⟨fun _ => hQ, fun c => absurd (Int32.le_refl _) c⟩
  · intro i _ hi _ ih
    have K := ih () trivial
    rw [sp_bs] at K
    have b2 := (hV.2.2.2 i hi).2.1
    apply t_Scene_bitsSound_4 ho hR
    rw [s1, sp_cl (by omega), (s4 i hi).2.1, nI_1, (sp_or _ (sp_bs_lt hn6 i (by omega)) i (by omega)).1]
    refine ⟨fun c => absurd c (nI_ge hi (by omega)), fun _ => ⟨vp_in_nI (by omega) (by decide), fun c => ?_, fun c => ?_⟩⟩
    · rw [if_neg (fun h => nI_nle h (by omega) c)] at K
      exact K
    · rw [if_pos (Nat.pos_of_ne_zero (fun h => c (by rw [h]; decide)))] at K
      exact K
/-- only these are sound -/
def sp_only (V : sp_V) (m : Nat) : sp_V := (sp_n V, sp_y V, sp_h V, sp_sh V, fun f => if m.testBit f then 1 else 0, sp_to V)
theorem c_Scene_standBy {d : Nat} {I : Nat → Nat → Int32} {J : Nat → Nat → Int64} {R : Nat → Nat → Option Nat} {Q : Option Value → ow_H → Prop} {o m : Nat} {V : sp_V} (hR : ow_RF R) (ho : o ∈ [3, 15, 29, 33, 42, 47, 57]) (hS : sp_S I o V) (hV : sp_ok V) (hm : m < 64)
    (hQ : ∀ I2 : Nat → Nat → Int32, sp_eq [o + 2] I I2 → sp_S I2 o (sp_only V m) → Q none (85, I2, J, R)) : ow_AM M_Scene_standBy (d + 1) [.ref o, .int (nI m)] (85, I, J, R) Q := by
  have hn6 := hV.1
  obtain ⟨s1, s2, s3, s4⟩ := id hS
  apply t_Scene_standBy ho hR
  refine sp_up (N := sp_n V) (G := fun i I1 => ow_AW ow_Y0 (ow_Z Q) M_Scene_standBy (d + 1) 0 0 2 [(0, .ref o), (1, .int (nI m)), (2, .int (nI i))] [] (85, I1, J, R) 0 0) (Inv := fun i I1 => sp_eq [o + 2] I I1 ∧ ∀ f, f < i → I1 (o + 2) f = nI (if m.testBit f then 1 else 0)) ?_ ?_ 0 I (Nat.zero_le _) ⟨sp_eq_rf, fun f hf => absurd hf (Nat.not_lt_zero _)⟩
  · intro I1 ⟨he, x2⟩
    have z0 : I1 o = I o := he o (by simp)
    apply t_Scene_standBy_2 ho hR
    rw [z0, s1]
    refine ⟨fun _ => hQ I1 he ⟨by rw [z0]; exact s1, by rw [z0]; exact s2, by rw [z0]; exact s3, fun f hf => ⟨?_, x2 f hf, ?_⟩⟩, fun c => absurd (Int32.le_refl _) c⟩
    · rw [he (o + 1) (by simp)]; exact (s4 f hf).1
    · rw [he (o + 3) (by simp)]; exact (s4 f hf).2.2
  · intro i I1 hi ⟨he, x2⟩ ih
    have z0 : I1 o = I o := he o (by simp)
    apply t_Scene_standBy_2 ho hR
    rw [z0, s1]
    refine ⟨fun c => absurd c (nI_ge hi (by omega)), fun _ => ⟨vp_in_nI (by omega) (by decide), fun I2 e2 => ?_⟩⟩
    rw [sp_cl (by omega), sp_bit m hm i (by omega)] at e2
    rw [nI_1]
    refine ih I2 ⟨sp_eq_tr he (sp_eq_ue e2 (by simp)), fun f hf => ?_⟩
    rw [e2]
    by_cases hfi : f = i
    · subst hfi
      rw [ow_u_at]
      by_cases hb : m.testBit f
      · rw [if_pos hb, if_pos hb]; rfl
      · rw [if_neg hb, if_neg hb]; rfl
    · rw [ow_u_nk hfi]
      exact x2 f (by omega)
def sp_cs (V : sp_V) : Nat → Nat
  | 0 => 0
  | f + 1 => if sp_to V f = 0 then sp_cs V f else sp_cs V f + 1
theorem c_Scene_countSending {d : Nat} {I : Nat → Nat → Int32} {J : Nat → Nat → Int64} {R : Nat → Nat → Option Nat} {Q : Option Value → ow_H → Prop} {o : Nat} {V : sp_V} (hR : ow_RF R) (ho : o ∈ [3, 15, 29, 33, 42, 47, 57]) (hS : sp_S I o V) (hV : sp_ok V) (hQ : Q (some (.int (nI (sp_cs V (sp_n V))))) (85, I, J, R)) : ow_AM M_Scene_countSending (d + 1) [.ref o] (85, I, J, R) Q := by
  have hn6 := hV.1
  obtain ⟨s1, s2, s3, s4⟩ := id hS
  apply t_Scene_countSending ho hR
  refine sp_up (σ := Unit) (N := sp_n V) (G := fun i _ => ow_AW ow_Y0 (ow_Z Q) M_Scene_countSending (d + 1) 0 0 4 [(0, .ref o), (1, .int (nI (sp_cs V i))), (2, .int (nI i))] [] (85, I, J, R) 0 0) (Inv := fun _ _ => True) ?_ ?_ 0 () (Nat.zero_le _) trivial
  · intro _ _
    apply t_Scene_countSending_4 ho hR
    rw [s1]
    exact ⟨fun _ => hQ, fun c => absurd (Int32.le_refl _) c⟩
  · intro i _ hi _ ih
    have K := ih () trivial
    rw [sp_cs] at K
    have b3 := (hV.2.2.2 i hi).2.2
    apply t_Scene_countSending_4 ho hR
    rw [s1, sp_cl (by omega), (s4 i hi).2.2, nI_1, nI_1]
    refine ⟨fun c => absurd c (nI_ge hi (by omega)), fun _ => ⟨vp_in_nI (by omega) (by decide), fun c => ?_, fun c => ?_⟩⟩
    · by_cases h : sp_to V i = 0
      · rw [if_pos h] at K; exact K
      · exact absurd c (sp_tg_ne h (by omega))
    · by_cases h : sp_to V i = 0
      · rw [h] at c; exact absurd rfl c
      · rw [if_neg h] at K; exact K
/-- does one come back to f within k steps, from where t sends -/
def sp_cb (V : sp_V) (f : Nat) : Nat → Nat → Bool
  | 0, _ => false
  | _ + 1, 0 => false
  | k + 1, t + 1 => if t = f then true else sp_cb V f k (sp_to V t)
theorem c_Scene_comesBack {d : Nat} {I : Nat → Nat → Int32} {J : Nat → Nat → Int64} {R : Nat → Nat → Option Nat} {Q : Option Value → ow_H → Prop} {o f : Nat} {V : sp_V} (hR : ow_RF R) (ho : o ∈ [3, 15, 29, 33, 42, 47, 57]) (hS : sp_S I o V) (hV : sp_ok V) (hf : f < sp_n V) (hQ : Q (some (.int (sp_jb (sp_cb V f (sp_n V) (sp_to V f))))) (85, I, J, R)) : ow_AM M_Scene_comesBack (d + 2) [.ref o, .int (nI f)] (85, I, J, R) Q := by
  have hn6 := hV.1
  obtain ⟨s1, s2, s3, s4⟩ := id hS
  apply t_Scene_comesBack ho hR
  have K0 : ∀ i : Nat, Q (some (.int 0)) (85, I, J, R) → ow_AW ow_Y0 (ow_Z Q) M_Scene_comesBack (d + 2) 0 0 4 [(0, .ref o), (1, .int (nI f)), (2, .int (-2)), (3, .int (nI i))] [] (85, I, J, R) 0 0 := by
    intro i hQ
    apply t_Scene_comesBack_4 ho hR
    exact ⟨fun _ => hQ, fun _ => c_Scene_hasN hR ho (by decide) ⟨_, I, J, R, rfl, rfl, hR, fun _ => hQ, fun c => absurd rfl c⟩⟩
  have K : ∀ (k i t : Nat), i + k = sp_n V → t < sp_n V → Q (some (.int (sp_jb (sp_cb V f k (sp_to V t))))) (85, I, J, R) → ow_AW ow_Y0 (ow_Z Q) M_Scene_comesBack (d + 2) 0 0 4 [(0, .ref o), (1, .int (nI f)), (2, .int (nI t)), (3, .int (nI i))] [] (85, I, J, R) 0 0 := by
    intro k
    induction k with
    | zero =>
      intro i t hi ht hQ
      apply t_Scene_comesBack_4 ho hR
      rw [s1, show i = sp_n V by omega]
      exact ⟨fun _ => hQ, fun c => absurd (Int32.le_refl _) c⟩
    | succ k ih =>
      intro i t hi ht hQ
      apply t_Scene_comesBack_4 ho hR
      refine ⟨fun c => absurd c (by rw [s1]; exact nI_ge (by omega) (by omega)), fun _ => c_Scene_has hR ho s1 hn6 ht ⟨_, I, J, R, rfl, rfl, hR, fun c => absurd c (by decide), fun _ => ⟨vp_in_nI (by omega) (by decide), ?_⟩⟩⟩
      rw [sp_cl (by omega), (s4 t ht).2.2, nI_1]
      have hb := (hV.2.2.2 t ht).2.2
      cases hto : sp_to V t with
      | zero =>
        rw [hto] at hQ
        have hQ0 : Q (some (.int 0)) (85, I, J, R) := hQ
        refine ⟨fun _ => K0 (i + 1) hQ0, fun c => absurd c ?_⟩
        show ¬ (-2 : Int32) = nI f
        intro e
        have h1 := nI_toInt (n := f) (by omega)
        rw [← e] at h1
        have h2 : (-2 : Int32).toInt = -2 := by decide
        omega
      | succ u =>
        rw [hto] at hQ hb
        rw [sp_cb] at hQ
        refine ⟨fun c => ?_, fun c => ?_⟩
        · have c2 : ¬ u = f := fun h => c (by rw [h]; rfl)
          rw [if_neg c2] at hQ
          exact ih (i + 1) u (by omega) (by omega) hQ
        · have c2 : u = f := (nI_eq (by omega) (by omega)).mp c
          rw [if_pos c2] at hQ
          exact hQ
  exact K (sp_n V) 0 f (Nat.zero_add _) hf hQ
