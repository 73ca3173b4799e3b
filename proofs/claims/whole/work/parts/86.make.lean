/-! Own rows: the law makes its cells, and comes to its loop. -/
theorem ow_inT {w : Cond} (h : w ∈ lw_tbl) (g : goodWord w = true) : w ∈ ow_tb := List.mem_filter.mpr ⟨h, g⟩
theorem wl_Law_8 : Cond.classLink "FollyShireLaw" 8 "FollyShire" ∈ ow_tb := ow_inT (by decide +kernel) (by decide +kernel)
theorem wl_Law_16 : Cond.classLink "FollyShireLaw" 16 "FollyShireModel" ∈ ow_tb := ow_inT (by decide +kernel) (by decide +kernel)
theorem wi_F : Cond.instantiable "FollyShire" 18 ∈ ow_tb := ow_inT (by decide +kernel) (by decide +kernel)
theorem wz_F : Cond.initialized "FollyShire" ∈ ow_tb := ow_inT (by decide +kernel) (by decide +kernel)
theorem wi_M : Cond.instantiable "FollyShireModel" 41 ∈ ow_tb := ow_inT (by decide +kernel) (by decide +kernel)
theorem wz_M : Cond.initialized "FollyShireModel" ∈ ow_tb := ow_inT (by decide +kernel) (by decide +kernel)
theorem wm_Law_15 : Cond.methodLink "FollyShireLaw" 15 M_Fs_init.1 ∈ ow_tb := ow_inT (by decide +kernel) (by decide +kernel)
theorem wm_Law_18 : Cond.methodLink "FollyShireLaw" 18 M_Mo_init.1 ∈ ow_tb := ow_inT (by decide +kernel) (by decide +kernel)
theorem wb_Fs : ow_okB M_Fs_init 0 := ⟨ow_inT (by decide +kernel) (by decide +kernel), ow_inT (by decide +kernel) (by decide +kernel), ⟨by decide, by decide, by decide +kernel⟩, by decide⟩
theorem wb_Mo : ow_okB M_Mo_init 0 := ⟨ow_inT (by decide +kernel) (by decide +kernel), ow_inT (by decide +kernel) (by decide +kernel), ⟨by decide, by decide, by decide +kernel⟩, by decide⟩
theorem wbi_Fs : Cond.instanceMethod M_Fs_init.1 ∈ ow_tb := ow_inT (by decide +kernel) (by decide +kernel)
theorem wbi_Mo : Cond.instanceMethod M_Mo_init.1 ∈ ow_tb := ow_inT (by decide +kernel) (by decide +kernel)
theorem sp_W_init : sp_W (ow_u (ow_u (ow_u (fun _ _ => 0) 66 0 16) 68 0 3) 70 10 (-1)) := by
  refine ⟨⟨0, fun _ => 0, by decide, fun _ => (by decide : (0 : Nat) < 256), rfl, rfl, fun j hj => absurd hj (Nat.not_lt_zero _), fun j hj => absurd hj (Nat.not_lt_zero _)⟩, ⟨rfl, rfl, fun c => absurd c (by decide), rfl, rfl⟩, Or.inr ⟨⟨rfl, ⟨rfl, rfl, rfl, rfl, rfl⟩, ⟨rfl, rfl, rfl, fun f hf => absurd hf (Nat.not_lt_zero _)⟩, rfl, rfl⟩, rfl, rfl, rfl⟩⟩
theorem ow_getD_out {α : Type} (l : List α) (k : Nat) (z : α) (h : l.length ≤ k) : l.getD k z = z := by
  first | simp [List.getD, List.getElem?_eq_none h] | (unfold List.getD; rw [List.getElem?_eq_none h]; rfl)
theorem ow_R0_in : ∀ o, o < 85 → ∀ k, 60 ≤ k → ow_R0 o k = none := by
  intro o ho k hk
  have K : ∀ o, o < 85 → ∃ l : List (Option Nat), l.length ≤ 60 ∧ ∀ k, ow_R0 o k = l.getD k none := by
    intro o ho
    refine ⟨_, ?_, fun k => rfl⟩
    revert o
    decide
  obtain ⟨l, h1, h2⟩ := K o ho
  rw [h2, ow_getD_out _ _ _ (Nat.le_trans h1 hk)]
theorem ow_R0_out {o k : Nat} (ho : 85 ≤ o) : ow_R0 o k = none := by
  unfold ow_R0
  rw [ow_getD_out _ _ _ (Nat.le_trans (Nat.le_of_ble_eq_true rfl) ho)]
  rfl
theorem ow_RF_of {R : Nat → Nat → Option Nat} (h1 : ∀ o, o < 85 → ∀ k, k < 60 → ¬ (o = 25 ∧ k = 0) → R o k = ow_R0 o k) (h2 : ∀ o k, ¬ (o < 85 ∧ k < 60) → R o k = none) : ow_RF R := by
  intro o k hn
  by_cases ho : o < 85
  · by_cases hk : k < 60
    · exact h1 o ho k hk hn
    · rw [h2 o k (by omega), ow_R0_in o ho k (by omega)]
  · rw [h2 o k (by omega), ow_R0_out (by omega)]
set_option maxRecDepth 8000 in
theorem lw_make {L : Nat} {xs : Nat → Int32} (hL : L ≤ 3072) : ow_AW ow_Y1 (ow_Zw L xs) M_Law_law 40 601024 7293034 0 [(0, .ref 980)] [] (0, fun _ _ => 0, fun _ _ => 0, fun _ _ => none) 0 0 := by
  have hz : ow_zz 0 (fun _ _ => 0) (fun _ _ => 0) (fun _ _ => none) := ⟨fun a _ => ⟨rfl, rfl, rfl⟩, fun o k r h => by cases h⟩
  refine ow_new (ci := 11) d_Law_law_0 wl_Law_8 wi_F wz_F rfl (by decide) hz rfl rfl (by decide) (by decide) (by decide) ?_
  replace hz := ow_zz_n hz
  refine ow_dup rfl d_Law_law_3 ?_
  refine ow_callI (M2 := M_Fs_init) (d2 := 39) (mc2 := 69) (ms2 := 1720) (b := 0) (As := []) (rest := [.ref 0]) d_Law_law_4 wm_Law_15 wb_Fs wbi_Fs rfl rfl (Nat.le_of_ble_eq_true rfl) (by omega) (by decide) (by decide) rfl rfl (n_Fs_init_0 (d := 35) hz (fun hz1 => ⟨show 70 ≤ 1 + 69 by decide, ?_⟩))
  refine ow_astore_n (ls2 := [(1, .ref 0), (0, .ref 980)]) d_Law_law_7 (by decide) rfl ?_
  refine ow_new (ci := 12) d_Law_law_8 wl_Law_16 wi_M wz_M rfl (by decide) hz1 rfl rfl (by decide) (by decide) (by decide) ?_
  replace hz1 := ow_zz_n hz1
  refine ow_dup rfl d_Law_law_11 ?_
  refine ow_callI (M2 := M_Mo_init) (d2 := 39) (mc2 := 13) (ms2 := 1570) (b := 70) (As := []) (rest := [.ref 70]) d_Law_law_12 wm_Law_18 wb_Mo wbi_Mo rfl rfl (Nat.le_of_ble_eq_true rfl) (by omega) (by decide) (by decide) rfl rfl (n_Mo_init_70 (d := 38) hz1 (fun hz2 => ⟨show 84 ≤ 71 + 13 by decide, ?_⟩))
  refine ow_astore_n (ls2 := [(2, .ref 70), (1, .ref 0), (0, .ref 980)]) d_Law_law_15 (by decide) rfl ?_
  refine ow_iconst (v := 1) (by decide) d_Law_law_16 ?_
  refine ow_newaJ (N := 1) d_Law_law_17 wa_long rfl rfl rfl (by decide) hz2 rfl rfl (by decide) (by decide) (by decide) ?_
  refine ow_astore_n (ls2 := [(3, .ref 84), (2, .ref 70), (1, .ref 0), (0, .ref 980)]) d_Law_law_19 (by decide) rfl ?_
  refine ow_iconst (v := 0) (by decide) d_Law_law_20 ?_
  refine ow_istore (ls2 := [(4, .int 0), (3, .ref 84), (2, .ref 70), (1, .ref 0), (0, .ref 980)]) d_Law_law_21 (by decide) rfl ?_
  refine ow_sub [4, 3, 2, 1, 0] rfl ?_
  refine lw_loop hL (L + 7) 0 _ _ _ _ _ (by omega) (by omega) ?_ sp_W_init (by decide) (by decide)
  refine ow_RF_of ?_ ?_
  · decide +kernel
  · intro o k h
    unfold ow_u
    repeat rw [if_neg (by omega)]
