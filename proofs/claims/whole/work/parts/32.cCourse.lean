/-! Own rows: the contract of Course. -/
theorem sp_sep : ∀ o ∈ [3, 15, 29, 33, 42, 47, 57], ∀ w ∈ [37, 40, 55, 64], (o ∉ [w, w + 1] ∧ o + 1 ∉ [w, w + 1] ∧ o + 2 ∉ [w, w + 1] ∧ o + 3 ∉ [w, w + 1]) := by decide
theorem sp_gd {l r : List Nat} {i : Nat} (h : i < l.length) : (l ++ r).getD i 0 = l.getD i 0 := by
  rw [List.getD_eq_getElem?_getD, List.getD_eq_getElem?_getD, List.getElem?_append_left h]
theorem sp_gd2 {l r : List Nat} {f : Nat} : (l ++ f :: r).getD l.length 0 = f := by
  rw [List.getD_eq_getElem?_getD, List.getElem?_append_right (Nat.le_refl _), Nat.sub_self]
  rfl
theorem sp_tg_ne {k : Nat} (h : k ≠ 0) (hk : k < 2147483648) : ¬ sp_tg k = -2 := by
  match k, h with
  | k + 1, _ =>
    intro e
    have e : nI k = -2 := e
    have h1 := nI_toInt (n := k) (by omega)
    rw [e] at h1
    have h2 : (-2 : Int32).toInt = -2 := by decide
    omega
theorem sp_tg_s {k : Nat} (h : k ≠ 0) : sp_tg k = nI (k - 1) := by
  match k, h with
  | k + 1, _ => rfl
theorem c_Course_loop {d : Nat} {I : Nat → Nat → Int32} {J : Nat → Nat → Int64} {R : Nat → Nat → Option Nat} {Q : Option Value → ow_H → Prop} {w o : Nat} {V : sp_V} (hR : ow_RF R) (hw : w ∈ [37, 40, 55, 64]) (ho : o ∈ [3, 15, 29, 33, 42, 47, 57]) (hS : sp_S I o V) (hV : sp_ok V) :
    ∀ (k m f : Nat) (b : Bool) (I1 : Nat → Nat → Int32) (pre : List Nat), m < 64 → f < sp_n V → pre.length + k = 6 → sp_eq [w, w + 1] I I1 → I1 w 1 = nI pre.length → I1 w 2 = nI pre.length → I1 w 3 = -2 → I1 w 4 = -2 → (∀ i, i < pre.length → I1 (w + 1) i = nI (pre.getD i 0)) →
      (∀ I2 : Nat → Nat → Int32, sp_eq [w, w + 1] I I2 → I2 w 1 = nI (pre.length + (sp_go V k m f b).1.length) → I2 w 2 = nI (pre.length + (sp_go V k m f b).2.1) → I2 w 3 = sp_last (sp_go V k m f b).2.2 → I2 w 4 = sp_out (sp_go V k m f b).2.2 → (∀ i, i < pre.length + (sp_go V k m f b).1.length → I2 (w + 1) i = nI ((pre ++ (sp_go V k m f b).1).getD i 0)) → Q none (85, I2, J, R)) →
      ow_AW ow_Y0 (ow_Z Q) M_Course_run (d + 2) 0 0 39 [(0, .ref w), (1, .ref o), (4, .int (nI m)), (5, .int (nI f)), (6, .int (sp_jb b))] [] (85, I1, J, R) 0 0 := by
  have hn6 := hV.1
  intro k
  induction k with
  | zero =>
    intro m f b I1 pre hm hf hk he h1 h2 h3 h4 h5 hQ
    have hg : sp_go V 0 m f b = ([], 0, none) := by rw [sp_go]
    rw [hg] at hQ
    apply t_Course_run_39 hw ho hR
    have hp : pre.length = 6 := by omega
    refine ⟨fun _ => ?_, fun c => absurd (by rw [h1, hp]; decide) c⟩
    refine hQ I1 he h1 h2 h3 h4 (fun i hi => ?_)
    rw [List.append_nil]
    exact h5 i hi
  | succ k ih =>
    intro m f b I1 pre hm hf hk he h1 h2 h3 h4 h5 hQ
    have hlen : pre.length < 6 := by omega
    apply t_Course_run_39 hw ho hR
    rw [h1]
    refine ⟨fun c => absurd c (nI_ge (b := 6) hlen (by decide)), fun _ => ?_⟩
    obtain ⟨y0, y1, y2, y3⟩ := sp_sep o ho w hw
    have hS1 := sp_S_keep hS he y0 y1 y2 y3
    refine c_Scene_has hR ho hS1.1 hn6 hf ⟨_, I1, J, R, rfl, rfl, hR, ?_⟩
    refine ⟨fun c => absurd c (by decide), fun _ => ?_⟩
    rw [h1, sp_bit m hm f (by omega)]
    by_cases hb : m.testBit f
    · have hg : sp_go V (k + 1) m f b = ([], 0, none) := by rw [sp_go, if_pos hb]
      rw [hg] at hQ
      rw [if_pos hb]
      refine ⟨fun _ => ?_, fun c => absurd c (by decide)⟩
      refine hQ I1 he h1 h2 h3 h4 (fun i hi => ?_)
      rw [List.append_nil]
      exact h5 i hi
    · rw [if_neg hb]
      refine ⟨fun c => absurd rfl c, fun _ => ⟨vp_in_nI hlen (by decide), fun I5 e5 I6 e6 => ?_⟩⟩
      rw [sp_cl (by omega)] at e5
      have x51 : I5 w 1 = nI pre.length := by rw [e5, ow_u_ne (by omega)]; exact h1
      rw [x51, nI_1] at e6
      have he6 : sp_eq [w, w + 1] I I6 := sp_eq_tr (sp_eq_tr he (sp_eq_ue e5 (by simp))) (sp_eq_ue e6 (by simp))
      have a1 : I6 w 1 = nI (pre.length + 1) := by rw [e6, ow_u_at]
      have a2 : I6 w 2 = nI pre.length := by rw [e6, ow_u_nk (by decide), e5, ow_u_ne (by omega)]; exact h2
      have a3 : I6 w 3 = -2 := by rw [e6, ow_u_nk (by decide), e5, ow_u_ne (by omega)]; exact h3
      have a4 : I6 w 4 = -2 := by rw [e6, ow_u_nk (by decide), e5, ow_u_ne (by omega)]; exact h4
      have a5 : ∀ i, i < pre.length + 1 → ∀ r : List Nat, I6 (w + 1) i = nI ((pre ++ f :: r).getD i 0) := by
        intro i hi r
        rw [e6, ow_u_ne (by omega), e5]
        by_cases hi2 : i = pre.length
        · subst hi2
          rw [ow_u_at, sp_gd2]
        · rw [ow_u_nk hi2, sp_gd (by omega)]
          exact h5 i (by omega)
      obtain ⟨z0, z1, z2, z3⟩ := sp_sep o ho w hw
      have hS6 := sp_S_keep hS he6 z0 z1 z2 z3
      refine c_Scene_reply hR ho hS6 hV hf ⟨_, _, _, _, rfl, rfl, hR, ?_⟩
      cases hrep : sp_rep V f b with
      | none =>
        have hg : sp_go V (k + 1) m f b = ([f], 0, none) := by rw [sp_go, if_neg hb, hrep]
        rw [hg] at hQ
        refine ⟨fun c => absurd rfl c, fun _ => ?_⟩
        exact hQ I6 he6 a1 a2 a3 a4 (fun i hi => a5 i hi [])
      | some c =>
        have hne : ¬ sp_jb c = -2 := by cases c <;> decide
        refine ⟨fun _ I8 e8 => ⟨vp_in_nI (by omega) (by decide), ?_⟩, fun q => absurd q hne⟩
        rw [a2, nI_1] at e8
        have he8 : sp_eq [w, w + 1] I I8 := sp_eq_tr he6 (sp_eq_ue e8 (by simp))
        have hS8 := sp_S_keep hS he8 z0 z1 z2 z3
        have b1 : I8 w 1 = nI (pre.length + 1) := by rw [e8, ow_u_nk (by decide)]; exact a1
        have b2 : I8 w 2 = nI (pre.length + 1) := by rw [e8, ow_u_at]
        have b3 : I8 w 3 = -2 := by rw [e8, ow_u_nk (by decide)]; exact a3
        have b4 : I8 w 4 = -2 := by rw [e8, ow_u_nk (by decide)]; exact a4
        have b5 : ∀ i, i < pre.length + 1 → ∀ r : List Nat, I8 (w + 1) i = nI ((pre ++ f :: r).getD i 0) := by
          intro i hi r
          rw [e8, ow_u_ne (by omega)]
          exact a5 i hi r
        rw [sp_cl (by omega), (hS8.2.2.2 f hf).2.2]
        have hto := (hV.2.2.2 f hf).2.2
        by_cases ht : sp_to V f = 0
        · have hg : sp_go V (k + 1) m f b = ([f], 1, some (f, c)) := by rw [sp_go, if_neg hb, hrep]; dsimp only; rw [if_pos ht]
          rw [hg] at hQ
          rw [ht]
          refine ⟨fun q => absurd rfl q, fun _ I9 e9 I10 e10 => ?_⟩
          refine hQ I10 (sp_eq_tr (sp_eq_tr he8 (sp_eq_ue e9 (by simp))) (sp_eq_ue e10 (by simp))) ?_ ?_ ?_ ?_ (fun i hi => ?_)
          · rw [e10, ow_u_nk (by decide), e9, ow_u_nk (by decide)]; exact b1
          · rw [e10, ow_u_nk (by decide), e9, ow_u_nk (by decide)]; exact b2
          · rw [e10, ow_u_nk (by decide), e9, ow_u_at]; rfl
          · rw [e10, ow_u_at]; rfl
          · rw [e10, ow_u_ne (by omega), e9, ow_u_ne (by omega)]; exact b5 i hi []
        · have hg : sp_go V (k + 1) m f b = (f :: (sp_go V k (m ||| 2 ^ f) (sp_to V f - 1) c).1, (sp_go V k (m ||| 2 ^ f) (sp_to V f - 1) c).2.1 + 1, (sp_go V k (m ||| 2 ^ f) (sp_to V f - 1) c).2.2) := by rw [sp_go, if_neg hb, hrep]; dsimp only; rw [if_neg ht]
          rw [hg] at hQ
          refine ⟨fun _ => ⟨vp_in_nI (by omega) (by decide), ?_⟩, fun q => absurd q (sp_tg_ne ht (by omega))⟩
          rw [sp_tg_s ht, (sp_or m hm f (by omega)).1]
          refine ih (m ||| 2 ^ f) (sp_to V f - 1) c I8 (pre ++ [f]) (sp_or m hm f (by omega)).2 (by omega) (by rw [List.length_append]; show pre.length + 1 + k = 6; omega) he8 (by rw [List.length_append]; exact b1) (by rw [List.length_append]; exact b2) b3 b4 (fun i hi => b5 i (by rw [List.length_append] at hi; exact hi) []) ?_
          intro I2 g0 g1 g2 g3 g4 g5
          rw [List.length_append] at g1 g2 g5
          refine hQ I2 g0 ?_ ?_ g3 g4 (fun i hi => ?_)
          · rw [g1]; congr 1; show pre.length + 1 + _ = pre.length + (_ + 1); omega
          · rw [g2]; congr 1; show pre.length + 1 + _ = pre.length + (_ + 1); omega
          · rw [g5 i (by show i < pre.length + 1 + _; have hi2 : i < pre.length + ((sp_go V k (m ||| 2 ^ f) (sp_to V f - 1) c).1.length + 1) := hi; omega), List.append_assoc]; rfl
/-- a letter's way, run -/
theorem c_Course_run {d : Nat} {I : Nat → Nat → Int32} {J : Nat → Nat → Int64} {R : Nat → Nat → Option Nat} {Q : Option Value → ow_H → Prop} {w o f : Nat} {b : Bool} {V : sp_V} (hR : ow_RF R) (hw : w ∈ [37, 40, 55, 64]) (ho : o ∈ [3, 15, 29, 33, 42, 47, 57]) (hS : sp_S I o V) (hV : sp_ok V) (hf : f < sp_n V) {x : Int32} (hx : x = sp_jb b)
    (hQ : ∀ I2 : Nat → Nat → Int32, sp_eq [w, w + 1] I I2 → I2 w 1 = nI (sp_go V 6 0 f b).1.length → I2 w 2 = nI (sp_go V 6 0 f b).2.1 → I2 w 3 = sp_last (sp_go V 6 0 f b).2.2 → I2 w 4 = sp_out (sp_go V 6 0 f b).2.2 → (∀ i, i < (sp_go V 6 0 f b).1.length → I2 (w + 1) i = nI ((sp_go V 6 0 f b).1.getD i 0)) → Q none (85, I2, J, R)) :
    ow_AM M_Course_run (d + 2) [.ref w, .ref o, .int (nI f), .int x] (85, I, J, R) Q := by
  subst hx
  apply t_Course_run hw ho hR
  intro I11 e11 I12 e12 I13 e13 I14 e14
  have he : sp_eq [w, w + 1] I I14 := by
    rw [e14, e13, e12, e11]
    exact sp_eq_tr (sp_eq_tr (sp_eq_tr (sp_eq_u (by simp)) (sp_eq_u (by simp))) (sp_eq_u (by simp))) (sp_eq_u (by simp))
  have a1 : I14 w 1 = nI 0 := by rw [e14, ow_u_nk (by decide), e13, ow_u_nk (by decide), e12, ow_u_nk (by decide), e11, ow_u_at]; rfl
  have a2 : I14 w 2 = nI 0 := by rw [e14, ow_u_nk (by decide), e13, ow_u_nk (by decide), e12, ow_u_at]; rfl
  have a3 : I14 w 3 = -2 := by rw [e14, ow_u_nk (by decide), e13, ow_u_at]
  have a4 : I14 w 4 = -2 := by rw [e14, ow_u_at]
  have K : ow_AW ow_Y0 (ow_Z Q) M_Course_run (d + 2) 0 0 39 [(0, .ref w), (1, .ref o), (4, .int (nI 0)), (5, .int (nI f)), (6, .int (sp_jb b))] [] (85, I14, J, R) 0 0 := by
    refine c_Course_loop hR hw ho hS hV 6 0 f b I14 [] (by decide) hf rfl he a1 a2 a3 a4 (fun i hi => absurd hi (Nat.not_lt_zero _)) ?_
    intro I2 g0 g1 g2 g3 g4 g5
    rw [show ([] : List Nat).length = 0 from rfl, Nat.zero_add] at g1 g2 g5
    exact hQ I2 g0 g1 g2 g3 g4 g5
  cases b with
  | false => exact ⟨fun _ => K, fun c => absurd rfl c⟩
  | true => exact ⟨fun c => absurd c (by decide), fun _ => K⟩
