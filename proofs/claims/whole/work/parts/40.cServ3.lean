/-! Own rows: which folly is needed most; which change helps most. -/
def sp_ru1 (V : sp_V) (f : Nat) : sp_V := (sp_n V, sp_y V, sp_h V, sp_sh V, fun g => if g = f then 0 else sp_so V g, sp_to V)
theorem sp_ru1_ok {V : sp_V} (hV : sp_ok V) {f : Nat} : sp_ok (sp_ru1 V f) := ⟨hV.1, hV.2.1, hV.2.2.1, fun g hg => ⟨(hV.2.2.2 g hg).1, by
  show (if g = f then 0 else sp_so V g) < 100
  by_cases h : g = f
  · rw [if_pos h]; omega
  · rw [if_neg h]; exact (hV.2.2.2 g hg).2.1, (hV.2.2.2 g hg).2.2⟩⟩
/-- the folly without which fewest are served, and how many -/
def sp_pl (V : sp_V) (eo : Nat → Nat) : Nat → Nat × Nat
  | 0 => (0, 6)
  | f + 1 => if sp_pc (sp_bits (sp_ru1 V f) eo) < (sp_pl V eo f).2 then (f, sp_pc (sp_bits (sp_ru1 V f) eo)) else sp_pl V eo f
theorem sp_pl_le {V : sp_V} {eo : Nat → Nat} : ∀ k, (sp_pl V eo k).2 ≤ 6 := by
  intro k
  induction k with
  | zero => exact Nat.le_refl _
  | succ k ih =>
    rw [sp_pl]
    by_cases h : sp_pc (sp_bits (sp_ru1 V k) eo) < (sp_pl V eo k).2
    · rw [if_pos h]; show sp_pc _ ≤ 6; omega
    · rw [if_neg h]; exact ih
theorem sp_S_so {I I2 : Nat → Nat → Int32} {o f : Nat} {V : sp_V} {v : Nat} (h : sp_S I o V) (e : I2 = ow_u I (o + 2) f (nI v)) : sp_S I2 o (sp_n V, sp_y V, sp_h V, sp_sh V, (fun g => if g = f then v else sp_so V g), sp_to V) := by
  obtain ⟨s1, s2, s3, s4⟩ := h
  subst e
  refine ⟨by rw [ow_u_ne (by omega)]; exact s1, by rw [ow_u_ne (by omega)]; exact s2, by rw [ow_u_ne (by omega)]; exact s3, fun g hg => ?_⟩
  rw [ow_u_ne (by omega), ow_u_ne (show o + 3 ≠ o + 2 by omega)]
  refine ⟨(s4 g hg).1, ?_, (s4 g hg).2.2⟩
  show _ = nI (if g = f then v else sp_so V g)
  by_cases h : g = f
  · subst h; rw [ow_u_at, if_pos rfl]
  · rw [ow_u_nk h, if_neg h]; exact (s4 g hg).2.1
theorem sp_S_ext {I : Nat → Nat → Int32} {o : Nat} {V W : sp_V} (h : sp_S I o V) (hn : sp_n V = sp_n W) (hy : sp_y V = sp_y W) (hh : sp_h V = sp_h W) (hx : ∀ f, f < sp_n V → sp_sh V f = sp_sh W f ∧ sp_so V f = sp_so W f ∧ sp_to V f = sp_to W f) : sp_S I o W := by
  obtain ⟨s1, s2, s3, s4⟩ := h
  refine ⟨by rw [← hn]; exact s1, by rw [← hy]; exact s2, by rw [← hh]; exact s3, fun f hf => ?_⟩
  have hf : f < sp_n V := by rw [hn]; exact hf
  obtain ⟨x1, x2, x3⟩ := hx f hf
  rw [← x1, ← x2, ← x3]
  exact s4 f hf
theorem sp_nT : ∀ o ∈ [3, 15, 29, 33, 47, 57], (o ∈ [3, 15, 29, 33, 42, 47, 57] ∧ 42 ≠ o ∧ o ∉ [40, 41, 42, 43, 44, 45] ∧ o + 1 ∉ [40, 41, 42, 43, 44, 45] ∧ o + 2 ∉ [40, 41, 42, 43, 44, 45] ∧ o + 3 ∉ [40, 41, 42, 43, 44, 45]) := by decide
theorem c_Serving_mostNeeded {d : Nat} {I : Nat → Nat → Int32} {J : Nat → Nat → Int64} {R : Nat → Nat → Option Nat} {Q : Option Value → ow_H → Prop} {o : Nat} {V : sp_V} {eo : Nat → Nat} (hR : ow_RF R) (ho : o ∈ [3, 15, 29, 33, 47, 57]) (hS : sp_S I o V) (hV : sp_ok V) (hE : sp_EO I V eo) (hO : sp_eok V eo)
    (hQ : ∀ I2 : Nat → Nat → Int32, sp_eq [40, 41, 42, 43, 44, 45] I I2 → Q (some (.int (nI (sp_pl V eo (sp_n V)).1))) (85, I2, J, R)) : ow_AM M_Serving_mostNeeded (d + 6) [.ref 39, .ref o] (85, I, J, R) Q := by
  have hn6 := hV.1
  obtain ⟨ho, hne, z0, z1, z2, z3⟩ := sp_nT o ho
  apply t_Serving_mostNeeded ho hR
  refine c_Scene_take hR (by decide) ho hne hS hn6 ?_
  intro I6 g6 hT6
  refine ⟨I6, J, R, rfl, rfl, hR, ?_⟩
  refine sp_up (N := sp_n V) (G := fun i I1 => ow_AW ow_Y0 (ow_Z Q) M_Serving_mostNeeded (d + 6) 0 0 16 [(0, .ref 39), (1, .ref o), (2, .int (nI (sp_pl V eo i).1)), (3, .int (nI (sp_pl V eo i).2)), (4, .int (nI i))] [] (85, I1, J, R) 0 0) (Inv := fun _ I1 => sp_eq [40, 41, 42, 43, 44, 45] I I1 ∧ sp_S I1 42 V) ?_ ?_ 0 I6 (Nat.zero_le _) ⟨sp_eq_mono g6 (by decide), hT6⟩
  · intro I1 ⟨he, hT⟩
    apply t_Serving_mostNeeded_16 ho hR
    rw [he o z0, hS.1]
    exact ⟨fun _ => hQ I1 he, fun c => absurd (Int32.le_refl _) c⟩
  · intro i I1 hi ⟨he, hT⟩ ih
    have hin : vp_in (nI i) 6 := vp_in_nI (by omega) (by decide)
    apply t_Serving_mostNeeded_16 ho hR
    rw [he o z0, hS.1, sp_cl (by omega)]
    refine ⟨fun c => absurd c (nI_ge hi (by omega)), fun _ => ⟨hin, fun I2 e2 => ?_⟩⟩
    have hT2 : sp_S I2 42 (sp_ru1 V i) := sp_S_so (v := 0) hT e2
    have he2 : sp_eq [40, 41, 42, 43, 44, 45] I I2 := sp_eq_tr he (sp_eq_ue e2 (by decide))
    refine c_Serving_countServed (V := sp_ru1 V i) hR (by decide) hT2 (sp_ru1_ok hV) (fun g hg => by rw [he2 9 (by decide)]; exact hE g hg) hO ?_
    intro I3 g3
    refine ⟨_, I3, J, R, rfl, rfl, hR, ?_⟩
    have he3 : sp_eq [40, 41, 42, 43, 44, 45] I I3 := sp_eq_tr he2 (sp_eq_mono g3 (by decide))
    have hT3 : sp_S I3 42 (sp_ru1 V i) := sp_S_keep hT2 g3 (by decide) (by decide) (by decide) (by decide)
    have back : ∀ I4 : Nat → Nat → Int32, I4 = ow_u I3 44 i (I3 (o + 2) i) → sp_eq [40, 41, 42, 43, 44, 45] I I4 ∧ sp_S I4 42 V := by
      intro I4 e4
      rw [he3 (o + 2) z2, (hS.2.2.2 i hi).2.1] at e4
      refine ⟨sp_eq_tr he3 (sp_eq_ue e4 (by decide)), ?_⟩
      refine sp_S_ext (sp_S_so (v := sp_so V i) hT3 e4) rfl rfl rfl (fun g _ => ⟨rfl, ?_, rfl⟩)
      show (if g = i then sp_so V i else if g = i then 0 else sp_so V g) = sp_so V g
      by_cases h : g = i
      · rw [if_pos h, h]
      · rw [if_neg h, if_neg h]
    have hm := sp_pc_le (sp_bits (sp_ru1 V i) eo) (Nat.lt_trans (sp_bits_lt (sp_ru1_ok hV) hO) (by decide))
    have hl := sp_pl_le (V := V) (eo := eo) i
    show ((nI (sp_pl V eo i).2 ≤ nI (sp_pc (sp_bits (sp_ru1 V i) eo)) → _) ∧ (¬ nI (sp_pl V eo i).2 ≤ nI (sp_pc (sp_bits (sp_ru1 V i) eo)) → _))
    rw [nI_1]
    refine ⟨fun c => ⟨hin, hin, fun I4 e4 => ?_⟩, fun c => ⟨hin, hin, fun I4 e4 => ?_⟩⟩
    · have K := ih I4 (back I4 e4)
      have c2 := (nI_leI (by omega) (by omega)).mp c
      rw [sp_pl, if_neg (by omega)] at K
      exact K
    · have K := ih I4 (back I4 e4)
      have c2 : ¬ (sp_pl V eo i).2 ≤ sp_pc (sp_bits (sp_ru1 V i) eo) := fun z => c ((nI_leI (by omega) (by omega)).mpr z)
      rw [sp_pl, if_pos (by omega)] at K
      exact K
/-- how many are served if f sends as k says: 0 and f + 1 nowhere, else to k - 1 -/
def sp_cnt (V : sp_V) (eo : Nat → Nat) (f k : Nat) : Nat := sp_pc (sp_bits (sp_send V f (if k = 0 ∨ k = f + 1 then 0 else k)) eo)
def sp_ci (V : sp_V) (eo : Nat → Nat) (f : Nat) : Nat → Nat × Option Nat → Nat × Option Nat
  | 0, q => q
  | k + 1, q => if (sp_ci V eo f k q).1 < sp_cnt V eo f k then (sp_cnt V eo f k, some (10 * f + (if k = 0 then f else k - 1))) else sp_ci V eo f k q
def sp_co (V : sp_V) (eo : Nat → Nat) : Nat → Nat × Option Nat
  | 0 => (sp_pc (sp_bits V eo), none)
  | f + 1 => sp_ci V eo f (sp_n V + 1) (sp_co V eo f)
theorem sp_cnt_le {V : sp_V} {eo : Nat → Nat} (hV : sp_ok V) (hO : sp_eok V eo) {f k : Nat} (hk : k ≤ sp_n V) : sp_cnt V eo f k ≤ 6 := by
  unfold sp_cnt
  refine sp_pc_le _ (Nat.lt_trans (sp_bits_lt (sp_send_ok hV ?_) hO) (by decide))
  by_cases h : k = 0 ∨ k = f + 1
  · rw [if_pos h]; omega
  · rw [if_neg h]; exact hk
theorem sp_ci_le {V : sp_V} {eo : Nat → Nat} (hV : sp_ok V) (hO : sp_eok V eo) {f : Nat} : ∀ k q, k ≤ sp_n V + 1 → q.1 ≤ 6 → (sp_ci V eo f k q).1 ≤ 6 := by
  intro k
  induction k with
  | zero => intro q _ h; exact h
  | succ k ih =>
    intro q hk h
    rw [sp_ci]
    by_cases hc : (sp_ci V eo f k q).1 < sp_cnt V eo f k
    · rw [if_pos hc]; exact sp_cnt_le hV hO (by omega)
    · rw [if_neg hc]; exact ih q (by omega) h
theorem sp_co_le {V : sp_V} {eo : Nat → Nat} (hV : sp_ok V) (hO : sp_eok V eo) : ∀ f, (sp_co V eo f).1 ≤ 6 := by
  intro f
  induction f with
  | zero => exact sp_pc_le _ (Nat.lt_trans (sp_bits_lt hV hO) (by decide))
  | succ f ih => rw [sp_co]; exact sp_ci_le hV hO _ _ (Nat.le_refl _) ih
theorem sp_S_to {I I2 : Nat → Nat → Int32} {o f : Nat} {V : sp_V} {t : Nat} (h : sp_S I o V) (e : I2 = ow_u I (o + 3) f (sp_tg t)) : sp_S I2 o (sp_send V f t) := by
  obtain ⟨s1, s2, s3, s4⟩ := h
  subst e
  refine ⟨by rw [ow_u_ne (by omega)]; exact s1, by rw [ow_u_ne (by omega)]; exact s2, by rw [ow_u_ne (by omega)]; exact s3, fun g hg => ?_⟩
  rw [ow_u_ne (by omega), ow_u_ne (show o + 2 ≠ o + 3 by omega)]
  refine ⟨(s4 g hg).1, (s4 g hg).2.1, ?_⟩
  show _ = sp_tg (if g = f then t else sp_to V g)
  by_cases h : g = f
  · subst h; rw [ow_u_at, if_pos rfl]
  · rw [ow_u_nk h, if_neg h]; exact (s4 g hg).2.2
/-- the turn as laid: where there is one, with how many -/
def sp_tn (q : Nat × Option Nat) (I : Nat → Nat → Int32) : Prop := I 39 5 = sp_on q.2 ∧ I 39 6 = match q.2 with
  | none => -2
  | some _ => nI q.1
def sp_km : Nat → Int32
  | 0 => -1
  | k + 1 => nI k
theorem sp_km_1 (k : Nat) : sp_km k + 1 = sp_km (k + 1) := by
  match k with
  | 0 => decide
  | k + 1 => exact nI_1 k
theorem sp_km_p {k : Nat} (h : 0 < k) : sp_km k = nI (k - 1) := by
  match k, h with
  | k + 1, _ => rfl
theorem sp_send2 {I : Nat → Nat → Int32} {o f t u : Nat} {V : sp_V} (h : sp_S I o (sp_send (sp_send V f t) f u)) : sp_S I o (sp_send V f u) := by
  refine sp_S_ext h rfl rfl rfl (fun g _ => ⟨rfl, rfl, ?_⟩)
  show (if g = f then u else if g = f then t else sp_to V g) = if g = f then u else sp_to V g
  by_cases h : g = f
  · rw [if_pos h, if_pos h]
  · rw [if_neg h, if_neg h, if_neg h]
theorem c_Serving_findChange {d : Nat} {I : Nat → Nat → Int32} {J : Nat → Nat → Int64} {R : Nat → Nat → Option Nat} {Q : Option Value → ow_H → Prop} {o : Nat} {V : sp_V} {eo : Nat → Nat} (hR : ow_RF R) (ho : o ∈ [3, 15, 29, 33, 47, 57]) (hS : sp_S I o V) (hV : sp_ok V) (hE : sp_EO I V eo) (hO : sp_eok V eo)
    (hQ : ∀ I2 : Nat → Nat → Int32, sp_fr [40, 41, 42, 43, 44, 45] [(39, 5), (39, 6)] I I2 → sp_tn (sp_co V eo (sp_n V)) I2 → Q none (85, I2, J, R)) : ow_AM M_Serving_findChange (d + 6) [.ref 39, .ref o] (85, I, J, R) Q := by
  have hn6 := hV.1
  obtain ⟨ho, hne, z0, z1, z2, z3⟩ := sp_nT o ho
  have w39 : ∀ j, j < 4 → o + j ≠ 39 := fun j hj h => sp_NS_ok o ho j hj (by rw [h]; decide)
  have row : ∀ (I1 : Nat → Nat → Int32) (j : Nat), j < 4 → o + j ∉ [40, 41, 42, 43, 44, 45] → sp_fr [40, 41, 42, 43, 44, 45] [(39, 5), (39, 6)] I I1 → I1 (o + j) = I (o + j) := fun I1 j hj hz hf => sp_fr_row hf hz (fun k q => by
    simp only [List.mem_cons, Prod.mk.injEq, List.not_mem_nil, or_false] at q
    exact w39 j hj (q.elim (fun z => z.1) (fun z => z.1)))
  apply t_Serving_findChange ho hR
  intro I24 e24 I25 e25
  have f25 : sp_fr [40, 41, 42, 43, 44, 45] [(39, 5), (39, 6)] I I25 := sp_fr_tr (sp_fr_ue e24 (by simp)) (sp_fr_ue e25 (by simp))
  have hS25 := sp_S_fr (S := []) (E := [(39, 5), (39, 6)]) ho hS (sp_fr_tr (sp_fr_ue e24 (by simp)) (sp_fr_ue e25 (by simp))) (by decide) (by decide)
  refine c_Serving_countServed hR ho hS25 hV (fun g hg => by rw [sp_fr_row f25 (by decide) (by simp)]; exact hE g hg) hO ?_
  intro I26 g26
  refine ⟨_, I26, J, R, rfl, rfl, hR, ?_⟩
  have f26 : sp_fr [40, 41, 42, 43, 44, 45] [(39, 5), (39, 6)] I I26 := sp_fr_tr f25 (sp_frq (sp_eq_mono g26 (by decide)))
  have hS26 : sp_S I26 o V := sp_S_kr hS (row I26 0 (by decide) z0 f26) (row I26 1 (by decide) z1 f26) (row I26 2 (by decide) z2 f26) (row I26 3 (by decide) z3 f26)
  refine c_Scene_take hR (by decide) ho hne hS26 hn6 ?_
  intro I27 g27 hT27
  refine ⟨I27, J, R, rfl, rfl, hR, ?_⟩
  have f27 : sp_fr [40, 41, 42, 43, 44, 45] [(39, 5), (39, 6)] I I27 := sp_fr_tr f26 (sp_frq (sp_eq_mono g27 (by decide)))
  have tn27 : sp_tn (sp_co V eo 0) I27 := by
    refine ⟨?_, ?_⟩
    · rw [g27 39 (by decide), g26 39 (by decide), e25, ow_u_nk (by decide), e24, ow_u_at]; rfl
    · rw [g27 39 (by decide), g26 39 (by decide), e25, ow_u_at]; rfl
  refine sp_up (N := sp_n V) (G := fun i I1 => ow_AW ow_Y0 (ow_Z Q) M_Serving_findChange (d + 6) 0 0 28 [(0, .ref 39), (1, .ref o), (2, .int (nI (sp_co V eo i).1)), (3, .int (nI i))] [] (85, I1, J, R) 0 0) (Inv := fun i I1 => sp_fr [40, 41, 42, 43, 44, 45] [(39, 5), (39, 6)] I I1 ∧ sp_S I1 42 V ∧ sp_tn (sp_co V eo i) I1) ?_ ?_ 0 I27 (Nat.zero_le _) ⟨f27, hT27, tn27⟩
  · intro I1 ⟨he, hT, htn⟩
    apply t_Serving_findChange_28 ho hR
    rw [show I1 o = I o from row I1 0 (by decide) z0 he, hS.1]
    exact ⟨fun _ => hQ I1 he htn, fun c => absurd (Int32.le_refl _) c⟩
  · intro i I1 hi ⟨he, hT, htn⟩ ih
    have hin : vp_in (nI i) 6 := vp_in_nI (by omega) (by decide)
    apply t_Serving_findChange_28 ho hR
    rw [show I1 o = I o from row I1 0 (by decide) z0 he, hS.1]
    refine ⟨fun c => absurd c (nI_ge hi (by omega)), fun _ => ?_⟩
    refine sp_up (N := sp_n V + 1) (G := fun k I2 => ow_AW ow_Y0 (ow_Z Q) M_Serving_findChange (d + 6) 0 0 39 [(0, .ref 39), (1, .ref o), (2, .int (nI (sp_ci V eo i k (sp_co V eo i)).1)), (3, .int (nI i)), (4, .int (sp_km k))] [] (85, I2, J, R) 0 0) (Inv := fun k I2 => sp_fr [40, 41, 42, 43, 44, 45] [(39, 5), (39, 6)] I I2 ∧ (∃ t, sp_S I2 42 (sp_send V i t)) ∧ sp_tn (sp_ci V eo i k (sp_co V eo i)) I2) ?_ ?_ 0 I1 (Nat.zero_le _) ⟨he, ⟨sp_to V i, sp_S_ext hT rfl rfl rfl (fun g _ => ⟨rfl, rfl, by
      show sp_to V g = if g = i then sp_to V i else sp_to V g
      by_cases h : g = i
      · rw [if_pos h, h]
      · rw [if_neg h]⟩)⟩, htn⟩
    · intro I2 ⟨he2, ⟨t, hT2⟩, htn2⟩
      apply t_Serving_findChange_39 ho hR
      rw [show I2 o = I o from row I2 0 (by decide) z0 he2, hS.1]
      refine ⟨fun _ => ⟨hin, hin, fun I5 e5 => ?_⟩, fun c => absurd (Int32.le_refl _) c⟩
      rw [sp_cl (by omega), row I2 3 (by decide) z3 he2, (hS.2.2.2 i hi).2.2] at e5
      rw [nI_1]
      refine ih I5 ⟨sp_fr_tr he2 (sp_fr_ue e5 (by simp)), ?_, ?_⟩
      · refine sp_S_ext (sp_send2 (sp_S_to hT2 e5)) rfl rfl rfl (fun g _ => ⟨rfl, rfl, ?_⟩)
        show (if g = i then sp_to V i else sp_to V g) = sp_to V g
        by_cases h : g = i
        · rw [if_pos h, h]
        · rw [if_neg h]
      · refine ⟨?_, ?_⟩
        · rw [e5, ow_u_ne (by decide)]; exact htn2.1
        · rw [e5, ow_u_ne (by decide)]; exact htn2.2
    · intro k I2 hk ⟨he2, ⟨t, hT2⟩, htn2⟩ ih2
      have c0 : ¬ nI (sp_n V) ≤ sp_km k := by
        match k, hk with
        | 0, _ => exact fun c => absurd (Int32.le_trans (nI_pos' (n := sp_n V) (by omega)) c) (by decide)
        | j + 1, hk => exact nI_ge (by omega) (by omega)
      have hcl := sp_ci_le hV hO (f := i) k (sp_co V eo i) (by omega) (sp_co_le hV hO i)
      have hct := sp_cnt_le hV hO (f := i) (k := k) (by omega)
      have K : ∀ I6 : Nat → Nat → Int32, I6 = ow_u I2 45 i (sp_tg (if k = 0 ∨ k = i + 1 then 0 else k)) → ow_AM M_Serving_countServed (d + 5) [.ref 39, .ref 42] (85, I6, J, R) (fun r h' => ∃ (r7 : Int32) (I7 : Nat → Nat → Int32) (J7 : Nat → Nat → Int64) (R7 : Nat → Nat → Option Nat), r = some (.int r7) ∧ h' = (85, I7, J7, R7) ∧ ow_RF R7 ∧ ((r7 ≤ nI (sp_ci V eo i k (sp_co V eo i)).1 → ow_AW ow_Y0 (ow_Z Q) M_Serving_findChange (d + 6) 0 0 39 [(0, .ref 39), (1, .ref o), (2, .int (nI (sp_ci V eo i k (sp_co V eo i)).1)), (3, .int (nI i)), (4, .int (sp_km k + 1))] [] (85, I7, J7, R7) 0 0) ∧ (¬ r7 ≤ nI (sp_ci V eo i k (sp_co V eo i)).1 → ((0 ≤ sp_km k → (∀ (I8 : Nat → Nat → Int32), I8 = ow_u I7 39 5 ((10 * nI i) + sp_km k) → (∀ (I9 : Nat → Nat → Int32), I9 = ow_u I8 39 6 r7 → ow_AW ow_Y0 (ow_Z Q) M_Serving_findChange (d + 6) 0 0 39 [(0, .ref 39), (1, .ref o), (2, .int r7), (3, .int (nI i)), (4, .int (sp_km k + 1))] [] (85, I9, J7, R7) 0 0))) ∧ (¬ 0 ≤ sp_km k → (∀ (I10 : Nat → Nat → Int32), I10 = ow_u I7 39 5 ((10 * nI i) + nI i) → (∀ (I11 : Nat → Nat → Int32), I11 = ow_u I10 39 6 r7 → ow_AW ow_Y0 (ow_Z Q) M_Serving_findChange (d + 6) 0 0 39 [(0, .ref 39), (1, .ref o), (2, .int r7), (3, .int (nI i)), (4, .int (sp_km k + 1))] [] (85, I11, J7, R7) 0 0)))))))  := by
        intro I6 e6
        have hT6 := sp_send2 (sp_S_to hT2 e6)
        have f6 : sp_fr [40, 41, 42, 43, 44, 45] [(39, 5), (39, 6)] I I6 := sp_fr_tr he2 (sp_fr_ue e6 (by simp))
        have hle : (if k = 0 ∨ k = i + 1 then 0 else k) ≤ sp_n V := by
          by_cases h : k = 0 ∨ k = i + 1
          · rw [if_pos h]; omega
          · rw [if_neg h]; omega
        refine c_Serving_countServed hR (by decide) hT6 (sp_send_ok hV hle) (fun g hg => by rw [sp_fr_row f6 (by decide) (by simp)]; exact hE g hg) hO ?_
        intro I7 g7
        refine ⟨_, I7, J, R, rfl, rfl, hR, ?_⟩
        have f7 : sp_fr [40, 41, 42, 43, 44, 45] [(39, 5), (39, 6)] I I7 := sp_fr_tr f6 (sp_frq (sp_eq_mono g7 (by decide)))
        have hT7 := sp_S_keep hT6 g7 (by decide) (by decide) (by decide) (by decide)
        have tn7 : sp_tn (sp_ci V eo i k (sp_co V eo i)) I7 := ⟨by rw [g7 39 (by decide), e6, ow_u_ne (by decide)]; exact htn2.1, by rw [g7 39 (by decide), e6, ow_u_ne (by decide)]; exact htn2.2⟩
        show ((nI (sp_cnt V eo i k) ≤ _ → _) ∧ (¬ nI (sp_cnt V eo i k) ≤ _ → _))
        have up : ∀ (I8 I9 : Nat → Nat → Int32) (w : Nat), I8 = ow_u I7 39 5 (nI w) → I9 = ow_u I8 39 6 (nI (sp_cnt V eo i k)) → w = 10 * i + (if k = 0 then i else k - 1) → (sp_ci V eo i k (sp_co V eo i)).1 < sp_cnt V eo i k → ow_AW ow_Y0 (ow_Z Q) M_Serving_findChange (d + 6) 0 0 39 [(0, .ref 39), (1, .ref o), (2, .int (nI (sp_cnt V eo i k))), (3, .int (nI i)), (4, .int (sp_km k + 1))] [] (85, I9, J, R) 0 0 := by
          intro I8 I9 w e8 e9 hw hlt
          rw [sp_km_1]
          have K2 := ih2 I9 ⟨sp_fr_tr (sp_fr_tr f7 (sp_fr_ue e8 (by simp))) (sp_fr_ue e9 (by simp)), ⟨if k = 0 ∨ k = i + 1 then 0 else k, ?_⟩, ?_⟩
          · rw [sp_ci, if_pos hlt] at K2
            exact K2
          · exact sp_S_kr hT7 (by rw [e9, ow_u_ne (by decide), e8, ow_u_ne (by decide)]) (by rw [e9, ow_u_ne (by decide), e8, ow_u_ne (by decide)]) (by rw [e9, ow_u_ne (by decide), e8, ow_u_ne (by decide)]) (by rw [e9, ow_u_ne (by decide), e8, ow_u_ne (by decide)])
          · rw [sp_ci, if_pos hlt]
            refine ⟨?_, ?_⟩
            · rw [e9, ow_u_nk (by decide), e8, ow_u_at, hw]; rfl
            · rw [e9, ow_u_at]
        refine ⟨fun c => ?_, fun c => ⟨fun c3 I8 e8 I9 e9 => ?_, fun c3 I8 e8 I9 e9 => ?_⟩⟩
        · have c2 := (nI_leI (by omega) (by omega)).mp c
          rw [sp_km_1]
          have K2 := ih2 I7 ⟨f7, ⟨_, hT7⟩, ?_⟩
          · rw [sp_ci, if_neg (by omega)] at K2
            exact K2
          · rw [sp_ci, if_neg (by omega)]
            exact tn7
        · have c2 : ¬ sp_cnt V eo i k ≤ (sp_ci V eo i k (sp_co V eo i)).1 := fun z => c ((nI_leI (by omega) (by omega)).mpr z)
          have hk0 : 0 < k := by
            rcases Nat.eq_zero_or_pos k with h0 | h0
            · rw [h0] at c3; exact absurd c3 (by decide)
            · exact h0
          rw [sp_km_p hk0] at e8
          have e8 : I8 = ow_u I7 39 5 (nI (10 * i + (k - 1))) := by rw [e8]; show ow_u I7 39 5 (nI 10 * nI i + nI (k - 1)) = _; rw [pk_mul, nI_add]
          exact up I8 I9 _ e8 e9 (by rw [if_neg (by omega)]) (by omega)
        · have c2 : ¬ sp_cnt V eo i k ≤ (sp_ci V eo i k (sp_co V eo i)).1 := fun z => c ((nI_leI (by omega) (by omega)).mpr z)
          have hk0 : k = 0 := by
            rcases Nat.eq_zero_or_pos k with h0 | h0
            · exact h0
            · rw [sp_km_p h0] at c3; exact absurd (nI_pos' (n := k - 1) (by omega)) c3
          have e8 : I8 = ow_u I7 39 5 (nI (10 * i + i)) := by rw [e8]; show ow_u I7 39 5 (nI 10 * nI i + nI i) = _; rw [pk_mul, nI_add]
          exact up I8 I9 _ e8 e9 (by rw [if_pos hk0]) (by omega)
      apply t_Serving_findChange_39 ho hR
      rw [show I2 o = I o from row I2 0 (by decide) z0 he2, hS.1]
      refine ⟨fun c => absurd c c0, fun _ => ⟨fun c => ?_, fun c => ?_⟩⟩
      · have hk0 : 0 < k := by
          rcases Nat.eq_zero_or_pos k with h0 | h0
          · rw [h0] at c; exact absurd c (by decide)
          · exact h0
        refine c_Scene_aim (n := sp_n V) hR (by decide) (show 42 + 3 = 45 from rfl) hT2.1 hn6 hi ?_
        intro I6 e6
        refine ⟨I6, J, R, rfl, rfl, hR, K I6 ?_⟩
        have hx : (if sp_km k = nI i then (-2 : Int32) else sp_km k) = sp_tg (if k = 0 ∨ k = i + 1 then 0 else k) := by
          rw [sp_km_p hk0]
          by_cases h : k = i + 1
          · rw [if_pos (show nI (k - 1) = nI i by rw [show k - 1 = i by omega]), if_pos (Or.inr h)]
            rfl
          · rw [if_neg (fun c1 => h (by have := (nI_eq (by omega) (by omega)).mp c1; omega)), if_neg (show ¬ (k = 0 ∨ k = i + 1) by omega), sp_tg_s (by omega)]
        rw [← hx]
        exact e6
      · have hk0 : k = 0 := by
          rcases Nat.eq_zero_or_pos k with h0 | h0
          · exact h0
          · rw [sp_km_p h0] at c; exact absurd (nI_pos' (n := k - 1) (by omega)) c
        refine c_Scene_aim (n := sp_n V) hR (by decide) (show 42 + 3 = 45 from rfl) hT2.1 hn6 hi ?_
        intro I6 e6
        refine ⟨I6, J, R, rfl, rfl, hR, K I6 ?_⟩
        have hx : (if nI i = nI i then (-2 : Int32) else nI i) = sp_tg (if k = 0 ∨ k = i + 1 then 0 else k) := by
          rw [if_pos (show nI i = nI i from rfl), if_pos (Or.inl hk0)]
          rfl
        rw [← hx]
        exact e6
