/-! Own rows: veiled follies. -/
/-- the shape of the veiled one k by a code to the base 5, the first one's highest -/
def sp_shp (nv code k : Nat) : Nat := code / 5 ^ (nv - 1 - k) % 5
def sp_wsh (T : sp_T) (code : Nat) : Nat → Nat → Nat
  | 0, g => sp_sh (st_v T) g
  | k + 1, g => if g = st_vf T k then sp_shp (st_nv T) code k else sp_wsh T code k g
def sp_wsc (T : sp_T) (s : Nat → Nat) : sp_V := (sp_n (st_v T), sp_y (st_v T), sp_h (st_v T), s, sp_so (st_v T), sp_to (st_v T))
/-- what was told, the veiled ones with the shapes of a code -/
def sp_wr (T : sp_T) (code : Nat) : sp_V := sp_wsc T (sp_wsh T code (st_nv T))
theorem sp_wsh_at {T : sp_T} (hT : st_ok T) {code k : Nat} : ∀ m, m ≤ st_nv T → k < m → sp_wsh T code m (st_vf T k) = sp_shp (st_nv T) code k := by
  intro m
  induction m with
  | zero => intro _ h; omega
  | succ m ih =>
    intro hm hk
    rw [sp_wsh]
    by_cases h : k = m
    · rw [h, if_pos rfl]
    · rw [if_neg (fun e => h (hT.2.2.2.2.2.2.2.2.2.1 k m (by omega) (by omega) e))]
      exact ih (by omega) (by omega)
theorem sp_wsh_out {T : sp_T} {code g : Nat} : ∀ m, (∀ k, k < m → st_vf T k ≠ g) → sp_wsh T code m g = sp_sh (st_v T) g := by
  intro m
  induction m with
  | zero => intro _; rfl
  | succ m ih =>
    intro h
    rw [sp_wsh, if_neg (fun e => h m (by omega) e.symm)]
    exact ih (fun k hk => h k (by omega))
theorem sp_shp_lt {nv code k : Nat} : sp_shp nv code k < 5 := Nat.mod_lt _ (by decide)
theorem sp_wsc_ok {T : sp_T} (hT : st_ok T) {s : Nat → Nat} (hs : ∀ g, g < st_n T → s g < 5) : sp_ok (sp_wsc T s) := ⟨hT.1.1, hT.1.2.1, hT.1.2.2.1, fun f hf => ⟨hs f hf, (hT.1.2.2.2 f hf).2⟩⟩
theorem sp_wsh_lt {T : sp_T} (hT : st_ok T) {code : Nat} {g : Nat} (hg : g < st_n T) : ∀ m, sp_wsh T code m g < 5 := by
  intro m
  induction m with
  | zero => exact (hT.1.2.2.2 g hg).1
  | succ m ih =>
    rw [sp_wsh]
    by_cases h : g = st_vf T m
    · rw [if_pos h]; exact sp_shp_lt
    · rw [if_neg h]; exact ih
theorem sp_wr_ok {T : sp_T} (hT : st_ok T) {code : Nat} : sp_ok (sp_wr T code) := sp_wsc_ok hT (fun _ hg => sp_wsh_lt hT hg _)
/-- the first signed letter from i on that doesn't come back so -/
def sp_fuw (T : sp_T) (W : sp_V) : Nat → Nat → Int32
  | 0, _ => -2
  | k + 1, i => if sp_out (sp_gl W (st_sl T i)).2.2 = sp_jo (st_sa T i) then sp_fuw T W k (i + 1) else nI i
def sp_fitb (T : sp_T) (code : Nat) : Bool := decide (sp_fuw T (sp_wr T code) (st_ns T) 0 = -2)
/-- the codes below k that fit -/
def sp_flk (T : sp_T) (k : Nat) : List Nat := (List.range k).filter (sp_fitb T)
theorem sp_flk_s {T : sp_T} {k : Nat} : sp_flk T (k + 1) = sp_flk T k ++ (if sp_fitb T k = true then [k] else []) := by
  unfold sp_flk
  rw [List.range_succ, List.filter_append]
  congr 1
  by_cases h : sp_fitb T k = true
  · rw [if_pos h, List.filter_cons_of_pos h]; rfl
  · rw [if_neg h, List.filter_cons_of_neg h]; rfl
theorem sp_flk_len {T : sp_T} : ∀ k, (sp_flk T k).length ≤ k := by
  intro k
  induction k with
  | zero => exact Nat.le_refl _
  | succ k ih =>
    rw [sp_flk_s, List.length_append]
    by_cases h : sp_fitb T k = true
    · rw [if_pos h]; show _ + 1 ≤ _; omega
    · rw [if_neg h]; show _ + 0 ≤ _; omega
theorem sp_flk_in {T : sp_T} {k c : Nat} (h : c ∈ sp_flk T k) : c < k := List.mem_range.mp (List.mem_filter.mp h).1
theorem sp_gd_mem {L : List Nat} {i : Nat} (h : i < L.length) : L.getD i 0 ∈ L := by
  rw [List.getD_eq_getElem?_getD, List.getElem?_eq_getElem h]
  exact List.getElem_mem h
def sp_nf (T : sp_T) : Nat := 5 ^ st_nv T
theorem sp_nf_le {T : sp_T} (hT : st_ok T) : sp_nf T ≤ 125 := show 5 ^ st_nv T ≤ 5 ^ 3 from Nat.pow_le_pow_right (by decide) hT.2.2.2.2.2.2.2.1
/-- the object's gathered fits -/
def sp_FT (I : Nat → Nat → Int32) (T : sp_T) : Prop := I 54 4 = nI (sp_flk T (sp_nf T)).length ∧ ∀ i, i < (sp_flk T (sp_nf T)).length → I 61 i = nI ((sp_flk T (sp_nf T)).getD i 0)
theorem sp_FT_k {I I2 : Nat → Nat → Int32} {T : sp_T} (h : sp_FT I T) (h1 : I2 54 4 = I 54 4) (h2 : I2 61 = I 61) : sp_FT I2 T := by
  unfold sp_FT at h ⊢
  rw [h1, h2]
  exact h
/-- the scene of trial as Fits leaves it -/
def sp_F7 (I : Nat → Nat → Int32) (T : sp_T) : Prop := ∃ s : Nat → Nat, (∀ g, g < st_n T → s g < 5 ∧ ((∀ k, k < st_nv T → st_vf T k ≠ g) → s g = sp_sh (st_v T) g)) ∧ sp_S I 57 (sp_wsc T s)
theorem sp_F7_wr {I : Nat → Nat → Int32} {T : sp_T} (hT : st_ok T) {code : Nat} (h : sp_S I 57 (sp_wr T code)) : sp_F7 I T := ⟨sp_wsh T code (st_nv T), fun _ hg => ⟨sp_wsh_lt hT hg _, fun hk => sp_wsh_out _ hk⟩, h⟩
section FITS
variable {d : Nat} {I : Nat → Nat → Int32} {J : Nat → Nat → Int64} {R : Nat → Nat → Option Nat} {Q : Option Value → ow_H → Prop} {T : sp_T}
theorem c_Fits_wear {code : Nat} (hR : ow_RF R) (hC : sp_ct I T) (hT : st_ok T) (hc : code < 1000) (hF : sp_F7 I T)
    (hQ : ∀ I2 : Nat → Nat → Int32, sp_eq [58] I I2 → sp_S I2 57 (sp_wr T code) → Q none (85, I2, J, R)) : ow_AM M_Fits_wear (d + 2) [.ref 54, .int (nI code)] (85, I, J, R) Q := by
  have hnv := hT.2.2.2.2.2.2.2.1
  have hn6 : st_n T ≤ 6 := hT.1.1
  have hvf := hT.2.2.2.2.2.2.2.2.1
  have hC7 := hC.2.2.2.1
  have hC10 := hC.2.2.2.2.2.2.2.2.1
  obtain ⟨s, hs, hS⟩ := hF
  obtain ⟨s1, s2, s3, s4⟩ := hS
  apply t_Fits_wear hR
  rw [hC7]
  have K : ∀ (j : Nat) (I1 : Nat → Nat → Int32) (u : Nat → Nat), j ≤ st_nv T → sp_eq [58] I I1 → (∀ g, g < st_n T → I1 58 g = nI (u g)) → (∀ k, j ≤ k → k < st_nv T → u (st_vf T k) = sp_shp (st_nv T) code k) → (∀ g, g < st_n T → (∀ k, k < st_nv T → st_vf T k ≠ g) → u g = sp_sh (st_v T) g) → ow_AW ow_Y0 (ow_Z Q) M_Fits_wear (d + 2) 0 0 12 [(0, .ref 54), (2, .int (nI (code / 5 ^ (st_nv T - j)))), (3, .int (sp_km j))] [] (85, I1, J, R) 0 0 := by
    intro j
    induction j with
    | zero =>
      intro I1 u hj he hu h1 h2
      apply t_Fits_wear_12 hR
      refine ⟨fun _ => hQ I1 he ⟨?_, ?_, ?_, fun g hg => ?_⟩, fun c => absurd (by decide) c⟩
      · rw [he 57 (by decide)]; exact s1
      · rw [he 57 (by decide)]; exact s2
      · rw [he 57 (by decide)]; exact s3
      · have hg : g < st_n T := hg
        rw [he (57 + 2) (by decide), he (57 + 3) (by decide)]
        refine ⟨?_, (s4 g hg).2⟩
        show I1 58 g = nI (sp_wsh T code (st_nv T) g)
        rw [hu g hg]
        congr 1
        by_cases hx : ∃ k, k < st_nv T ∧ st_vf T k = g
        · obtain ⟨k, k1, k2⟩ := hx
          rw [← k2, h1 k (Nat.zero_le _) k1, sp_wsh_at hT _ (Nat.le_refl _) k1]
        · have hx2 : ∀ k, k < st_nv T → st_vf T k ≠ g := fun k k1 k2 => hx ⟨k, k1, k2⟩
          rw [h2 g hg hx2, sp_wsh_out _ hx2]
    | succ j ih =>
      intro I1 u hj he hu h1 h2
      have hv := hvf j (by omega)
      apply t_Fits_wear_12 hR
      have ek : sp_km (j + 1) = nI j := rfl
      rw [ek, sp_cl (by omega), he 10 (by decide), hC10 j (by omega), sp_cl (by omega)]
      have hr : code / 5 ^ (st_nv T - (j + 1)) < 1000 := Nat.lt_of_le_of_lt (Nat.div_le_self _ _) hc
      rw [show (5 : Int32) = nI 5 from rfl, pk_rem (by omega) (by decide) (by decide), pk_div (by omega) (by decide) (by decide), Nat.div_div_eq_div_mul, ← Nat.pow_succ, show (st_nv T - (j + 1)).succ = st_nv T - j by omega]
      have ek2 : nI j + (-1) = sp_km j := by
        rcases Nat.eq_zero_or_pos j with h | h
        · subst h; decide
        · obtain ⟨q, hq⟩ : ∃ q, j = q + 1 := ⟨j - 1, by omega⟩
          subst hq; exact pk_m1 q
      rw [ek2]
      refine ⟨fun c => absurd c (nI_pos (by omega)), fun _ => ⟨vp_in_nI (by omega) (by decide), ?_⟩⟩
      refine c_Scene_has (n := st_n T) hR (by decide) (by rw [he 57 (by decide)]; exact s1) hn6 hv ⟨_, I1, J, R, rfl, rfl, hR, fun c => absurd c (by decide), fun _ => ⟨vp_in_nI (by omega) (by decide), fun I2 e2 => ?_⟩⟩
      have esh : code / 5 ^ (st_nv T - (j + 1)) % 5 = sp_shp (st_nv T) code j := by unfold sp_shp; rw [show st_nv T - 1 - j = st_nv T - (j + 1) by omega]
      rw [esh] at e2
      refine ih I2 (sp_up1 u (st_vf T j) (sp_shp (st_nv T) code j)) (by omega) (sp_eq_tr he (sp_eq_ue e2 (by decide))) (fun g hg => ?_) (fun k k1 k2 => ?_) (fun g hg hx => ?_)
      · rw [e2]
        unfold sp_up1
        by_cases h : g = st_vf T j
        · rw [h, ow_u_at, if_pos rfl]
        · rw [ow_u_nk h, if_neg h]; exact hu g hg
      · unfold sp_up1
        by_cases h : st_vf T k = st_vf T j
        · rw [if_pos h, hT.2.2.2.2.2.2.2.2.2.1 k j k2 (by omega) h]
        · rw [if_neg h]
          refine h1 k ?_ k2
          by_cases hkj : k = j
          · exact absurd (by rw [hkj]) h
          · omega
      · unfold sp_up1
        rw [if_neg (fun h => hx j (by omega) h.symm)]
        exact h2 g hg hx
  have ek : nI (st_nv T) - 1 = sp_km (st_nv T) := by
    rcases Nat.eq_zero_or_pos (st_nv T) with h | h
    · rw [h]; decide
    · obtain ⟨q, hq⟩ : ∃ q, st_nv T = q + 1 := ⟨st_nv T - 1, by omega⟩
      rw [hq]; exact nI_pred q
  rw [ek]
  have := K (st_nv T) I s (Nat.le_refl _) sp_eq_rf (fun g hg => (s4 g hg).1) (fun k k1 k2 => by omega) (fun g hg hx => (hs g hg).2 hx)
  rw [Nat.sub_self, Nat.pow_zero, Nat.div_one] at this
  exact this
theorem c_Fits_firstUntrueOf {o : Nat} {W : sp_V} (hR : ow_RF R) (ho : o ∈ [3, 15, 29, 33, 42, 47, 57]) (hC : sp_ct I T) (hT : st_ok T) (hS : sp_S I o W) (hW : sp_ok W) (hn : sp_n W = st_n T)
    (hQ : ∀ I2 : Nat → Nat → Int32, sp_eq [55, 56] I I2 → Q (some (.int (sp_fuw T W (st_ns T) 0))) (85, I2, J, R)) : ow_AM M_Fits_firstUntrueOf (d + 3) [.ref 54, .ref o] (85, I, J, R) Q := by
  have hns := hT.2.2.2.2.2.2.2.2.2.2.1
  have hsl := hT.2.2.2.2.2.2.2.2.2.2.2
  have hn6 := hW.1
  apply t_Fits_firstUntrueOf ho hR
  have K : ∀ (k i : Nat) (I1 : Nat → Nat → Int32), i + k = st_ns T → sp_eq [55, 56] I I1 → (∀ I2 : Nat → Nat → Int32, sp_eq [55, 56] I I2 → Q (some (.int (sp_fuw T W k i))) (85, I2, J, R)) → ow_AW ow_Y0 (ow_Z Q) M_Fits_firstUntrueOf (d + 3) 0 0 2 [(0, .ref 54), (1, .ref o), (2, .int (nI i))] [] (85, I1, J, R) 0 0 := by
    intro k
    induction k with
    | zero =>
      intro i I1 hi he hq
      apply t_Fits_firstUntrueOf_2 ho hR
      rw [he 2 (by decide), hC.2.2.2.2.1, show i = st_ns T by omega]
      exact ⟨fun _ => hq I1 he, fun c => absurd (Int32.le_refl _) c⟩
    | succ k ih =>
      intro i I1 hi he hq
      have hl := hsl i (by omega)
      obtain ⟨c1, c2⟩ := hC.2.2.2.2.2.2.2.2.2 i (by omega)
      have hS1 := sp_S_fr ho hS (sp_frq (E := []) he) (by decide) (by decide)
      have hin : vp_in (nI i) 5 := vp_in_nI (by omega) (by decide)
      apply t_Fits_firstUntrueOf_2 ho hR
      rw [he 2 (by decide), hC.2.2.2.2.1, sp_cl (by omega), he 11 (by decide), c1, sp_low (by omega), sp_half (by omega)]
      refine ⟨fun c => absurd c (nI_ge (by omega) (by omega)), fun _ => ⟨hin, ?_⟩⟩
      have L : ∀ (x : Int32), x = sp_jb (decide (st_sl T i % 2 = 1)) → ow_AM M_Course_run (d + 2) [.ref 55, .ref o, .int (nI (st_sl T i / 2)), .int x] (85, I1, J, R) (fun r h' => ∃ (I1 : Nat → Nat → Int32) (J1 : Nat → Nat → Int64) (R1 : Nat → Nat → Option Nat), r = none ∧ h' = (85, I1, J1, R1) ∧ ow_RF R1 ∧ (vp_in (nI i) 5 ∧ (((I1 55 4) = (I1 12 i) → ow_AW ow_Y0 (ow_Z Q) M_Fits_firstUntrueOf (d + 3) 0 0 2 [(0, .ref 54), (1, .ref o), (2, .int (nI i + 1))] [] (85, I1, J1, R1) 0 0) ∧ (¬ (I1 55 4) = (I1 12 i) → Q (some (.int (nI i))) (85, I1, J1, R1))))) := by
        intro x hx
        refine c_Course_run hR (by decide) ho hS1 hW (by omega) hx ?_
        intro I2 g0 g1 g2 g3 g4 g5
        refine ⟨I2, J, R, rfl, rfl, hR, hin, ?_⟩
        have he2 := sp_eq_tr he g0
        rw [g4, he2 12 (by decide), c2, nI_1]
        refine ⟨fun c => ih (i + 1) I2 (by omega) he2 (fun I3 he3 => ?_), fun c => ?_⟩
        · have c : sp_out (sp_gl W (st_sl T i)).2.2 = sp_jo (st_sa T i) := c
          have := hq I3 he3
          rw [sp_fuw, if_pos c] at this
          exact this
        · have c : ¬ sp_out (sp_gl W (st_sl T i)).2.2 = sp_jo (st_sa T i) := c
          have := hq I2 he2
          rw [sp_fuw, if_neg c] at this
          exact this
      rcases Nat.mod_two_eq_zero_or_one (st_sl T i) with h2 | h2
      · rw [h2]
        exact ⟨fun _ => L 0 (by rw [h2]; rfl), fun c => absurd rfl c⟩
      · rw [h2]
        exact ⟨fun c => absurd c (by decide), fun _ => L 1 (by rw [h2]; rfl)⟩
  exact K (st_ns T) 0 I (Nat.zero_add _) sp_eq_rf hQ
theorem c_Fits_gather (hR : ow_RF R) (hC : sp_ct I T) (hT : st_ok T)
    (hQ : ∀ I2 : Nat → Nat → Int32, sp_fr [55, 56, 57, 58, 59, 60, 61] [(54, 4)] I I2 → sp_FT I2 T → Q none (85, I2, J, R)) : ow_AM M_Fits_gather (d + 4) [.ref 54] (85, I, J, R) Q := by
  have hnv := hT.2.2.2.2.2.2.2.1
  have hn6 : st_n T ≤ 6 := hT.1.1
  have hnf := sp_nf_le hT
  apply t_Fits_gather hR
  intro I7 e7
  have f7 : sp_fr [55, 56, 57, 58, 59, 60, 61] [(54, 4)] I I7 := sp_fr_ue e7 (by decide)
  have ctk : ∀ {I1 : Nat → Nat → Int32}, sp_fr [55, 56, 57, 58, 59, 60, 61] [(54, 4)] I I1 → sp_ct I1 T := fun h => sp_ct_k hC (sp_rows h _ (by decide))
  have x7 : I7 54 4 = 0 := by rw [e7, ow_u_at]
  refine sp_up (σ := Unit) (N := st_nv T) (G := fun i _ => ow_AW ow_Y0 (ow_Z Q) M_Fits_gather (d + 4) 0 0 9 [(0, .ref 54), (1, .int (nI (5 ^ i))), (2, .int (nI i))] [] (85, I7, J, R) 0 0) (Inv := fun _ _ => True) ?_ ?_ 0 () (Nat.zero_le _) trivial
  · intro _ _
    apply t_Fits_gather_9 hR
    rw [(ctk f7).2.2.2.1]
    refine ⟨fun _ => ?_, fun c => absurd (Int32.le_refl _) c⟩
    refine c_Scene_take hR (by decide) (by decide) (by decide) (ctk f7).2.2.2.2.2.1 hn6 ?_
    intro I2 m0 m1
    refine ⟨I2, J, R, rfl, rfl, hR, ?_⟩
    have f2 : sp_fr [55, 56, 57, 58, 59, 60, 61] [(54, 4)] I I2 := sp_fr_tr f7 (sp_fr_mono (E := []) (sp_frq m0) (by decide) (by decide))
    have F2 : sp_F7 I2 T := ⟨sp_sh (st_v T), fun g hg => ⟨(hT.1.2.2.2 g hg).1, fun _ => rfl⟩, m1⟩
    refine sp_up (N := sp_nf T) (G := fun i I1 => ow_AW ow_Y0 (ow_Z Q) M_Fits_gather (d + 4) 0 0 46 [(0, .ref 54), (1, .int (nI (5 ^ st_nv T))), (2, .int (nI i))] [] (85, I1, J, R) 0 0) (Inv := fun i I1 => sp_fr [55, 56, 57, 58, 59, 60, 61] [(54, 4)] I I1 ∧ sp_F7 I1 T ∧ I1 54 4 = nI (sp_flk T i).length ∧ ∀ j, j < (sp_flk T i).length → I1 61 j = nI ((sp_flk T i).getD j 0)) ?_ ?_ 0 I2 (Nat.zero_le _) ⟨f2, F2, by rw [m0 54 (by decide)]; exact x7, fun j hj => absurd hj (Nat.not_lt_zero _)⟩
    · intro I1 ⟨f1, F1, y1, y2⟩
      apply t_Fits_gather_46 hR
      exact ⟨fun _ => hQ I1 f1 ⟨y1, y2⟩, fun c => absurd (Int32.le_refl _) c⟩
    · intro i I1 hi ⟨f1, F1, y1, y2⟩ ih
      have hlen := sp_flk_len (T := T) i
      have hi2 : i < 5 ^ st_nv T := hi
      have hnf2 : 5 ^ st_nv T ≤ 125 := hnf
      apply t_Fits_gather_46 hR
      rw [y1]
      refine ⟨fun c => absurd c (nI_ge hi2 (by omega)), fun _ => ⟨fun c => absurd c (nI_ge (b := 125) (by omega) (by decide)), fun _ => ?_⟩⟩
      refine c_Fits_wear hR (ctk f1) hT (by omega) F1 ?_
      intro I3 q0 q1
      refine ⟨I3, J, R, rfl, rfl, hR, ?_⟩
      have f3 : sp_fr [55, 56, 57, 58, 59, 60, 61] [(54, 4)] I I3 := sp_fr_tr f1 (sp_fr_mono (E := []) (sp_frq q0) (by decide) (by decide))
      refine c_Fits_firstUntrueOf hR (by decide) (ctk f3) hT q1 (sp_wr_ok hT) rfl ?_
      intro I4 q2
      refine ⟨_, I4, J, R, rfl, rfl, hR, ?_⟩
      have f4 : sp_fr [55, 56, 57, 58, 59, 60, 61] [(54, 4)] I I4 := sp_fr_tr f3 (sp_fr_mono (E := []) (sp_frq q2) (by decide) (by decide))
      have F4 : sp_F7 I4 T := sp_F7_wr hT (sp_S_fr (by decide) q1 (sp_frq (E := []) q2) (by decide) (by decide))
      have z1 : I4 54 4 = nI (sp_flk T i).length := by rw [q2 54 (by decide), q0 54 (by decide)]; exact y1
      have z2 : ∀ j, j < (sp_flk T i).length → I4 61 j = nI ((sp_flk T i).getD j 0) := fun j hj => by rw [q2 61 (by decide), q0 61 (by decide)]; exact y2 j hj
      rw [nI_1]
      refine ⟨fun c => ?_, fun c => ?_⟩
      · have hb : ¬ sp_fitb T i = true := fun q => c (of_decide_eq_true q)
        have es : sp_flk T (i + 1) = sp_flk T i := by rw [sp_flk_s, if_neg hb, List.append_nil]
        exact ih I4 ⟨f4, F4, by rw [es]; exact z1, by rw [es]; exact z2⟩
      · have hb : sp_fitb T i = true := decide_eq_true c
        have es : sp_flk T (i + 1) = sp_flk T i ++ [i] := by rw [sp_flk_s, if_pos hb]
        rw [z1]
        refine ⟨vp_in_nI (by omega) (by decide), fun I5 e5 I6 e6 => ?_⟩
        rw [sp_cl (by omega)] at e5
        have x5 : I5 54 4 = nI (sp_flk T i).length := by rw [e5, ow_u_ne (by decide)]; exact z1
        rw [x5, nI_1] at e6
        obtain ⟨s, hs, hS⟩ := F4
        refine ih I6 ⟨sp_fr_tr (sp_fr_tr f4 (sp_fr_ue e5 (Or.inl (by decide)))) (sp_fr_ue e6 (by decide)), ⟨s, hs, sp_S_kr hS (by rw [e6, ow_u_ne (by decide), e5, ow_u_ne (by decide)]) (by rw [e6, ow_u_ne (by decide), e5, ow_u_ne (by decide)]) (by rw [e6, ow_u_ne (by decide), e5, ow_u_ne (by decide)]) (by rw [e6, ow_u_ne (by decide), e5, ow_u_ne (by decide)])⟩, ?_, fun j hj => ?_⟩
        · rw [es, List.length_append, e6, ow_u_at]; rfl
        · rw [es, List.length_append] at hj
          have hj : j < (sp_flk T i).length + 1 := hj
          rw [es, e6, ow_u_ne (by decide), e5]
          by_cases hji : j = (sp_flk T i).length
          · rw [hji, ow_u_at, sp_gd2]
          · rw [ow_u_nk hji, sp_gd (by omega)]
            exact z2 j (by omega)
  · intro i _ hi _ ih
    have K := ih () trivial
    apply t_Fits_gather_9 hR
    rw [(ctk f7).2.2.2.1, show nI (5 ^ i) * 5 = nI (5 ^ i * 5) from pk_mul _ 5, ← Nat.pow_succ, nI_1]
    exact ⟨fun c => absurd c (nI_ge hi (by omega)), fun _ => K⟩
end FITS
