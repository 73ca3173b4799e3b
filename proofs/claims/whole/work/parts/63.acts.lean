/-! Own rows, by program: acts. -/
/-- what is kept: of the object, of the reference -/
def sp_CH (I : Nat → Nat → Int32) (n h : Nat) (H : Nat → sp_V) (g : Nat) (G : Nat → sp_V) : Prop := I 66 0 = 16 ∧ I 66 2 = nI h ∧ h ≤ 16 ∧ (∀ i, i < h → sp_rwC I 67 i (H i) n) ∧ I 68 0 = 3 ∧ I 68 2 = nI g ∧ g ≤ 3 ∧ ∀ i, i < g → sp_rwC I 69 i (G i) n
def sp_MH (I : Nat → Nat → Int32) (n h : Nat) (H : Nat → sp_V) (g : Nat) (G : Nat → sp_V) : Prop := I 70 22 = nI h ∧ h ≤ 16 ∧ (∀ i, i < h → sp_rwM I 78 i (H i) n) ∧ I 70 23 = nI g ∧ g ≤ 3 ∧ ∀ i, i < g → sp_rwM I 79 i (G i) n
def sp_CX (I : Nat → Nat → Int32) (T : sp_T) (V : sp_V) (h : Nat) (H : Nat → sp_V) (g : Nat) (G : Nat → sp_V) : Prop := sp_CN I T V ∧ sp_FT I T ∧ sp_CH I (st_n T) h H g G
def sp_MX (I : Nat → Nat → Int32) (T : sp_T) (V : sp_V) (h : Nat) (H : Nat → sp_V) (g : Nat) (G : Nat → sp_V) : Prop := sp_MN I T V ∧ sp_MH I (st_n T) h H g G
def st_hk (T : sp_T) (h : Nat) (H : Nat → sp_V) : Prop := ∀ i, i < h → st_now T (H i)
def sp_aS : List Nat := [29, 31, 32, 67, 69, 33, 34, 35, 36, 37, 38, 40, 41, 42, 43, 44, 45, 47, 48, 49, 50, 51, 52, 53, 55, 56, 57, 58, 59, 60, 64, 65]
def sp_aE : List (Nat × Nat) := [(66, 2), (68, 2), (0, 15), (39, 3), (39, 4), (39, 5), (39, 6), (46, 6), (46, 7), (46, 8), (54, 5), (54, 6), (63, 2)]
def sp_oS : List Nat := [77, 78, 79, 80, 81, 82, 83]
def sp_oE : List (Nat × Nat) := [(70, 22), (70, 23), (70, 0), (70, 11), (70, 26), (70, 27), (70, 28), (70, 29), (70, 30), (70, 32), (70, 33), (70, 35), (70, 36), (70, 40)]
theorem sp_ca {I I2 : Nat → Nat → Int32} (h : sp_fr sp_cS sp_cE I I2) : sp_fr sp_aS sp_aE I I2 := sp_fr_mono h (by decide) (by decide)
theorem sp_mo {I I2 : Nat → Nat → Int32} (h : sp_fr sp_mS sp_mE I I2) : sp_fr sp_oS sp_oE I I2 := sp_fr_mono h (by decide) (by decide)
theorem sp_CH_k {I I2 : Nat → Nat → Int32} {n h g : Nat} {H G : Nat → sp_V} (x : sp_CH I n h H g G) (h1 : I2 66 = I 66) (h2 : I2 67 = I 67) (h3 : I2 68 = I 68) (h4 : I2 69 = I 69) : sp_CH I2 n h H g G := by
  unfold sp_CH sp_rwC at x ⊢
  rw [h1, h2, h3, h4]
  exact x
theorem sp_MH_k {I I2 : Nat → Nat → Int32} {n h g : Nat} {H G : Nat → sp_V} (x : sp_MH I n h H g G) (h1 : I2 70 22 = I 70 22) (h2 : I2 78 = I 78) (h3 : I2 70 23 = I 70 23) (h4 : I2 79 = I 79) : sp_MH I2 n h H g G := by
  unfold sp_MH sp_rwM at x ⊢
  rw [h1, h2, h3, h4]
  exact x
theorem sp_CX_k {I I2 : Nat → Nat → Int32} {T : sp_T} {V : sp_V} {h g : Nat} {H G : Nat → sp_V} (x : sp_CX I T V h H g G) (hf : sp_fr sp_cS sp_cE I I2) : sp_CX I2 T V h H g G := ⟨sp_CN_k x.1 hf, sp_FT_c x.2.1 hf, sp_CH_k x.2.2 (sp_fr_row hf (by decide) (by simp [sp_cE])) (sp_fr_row hf (by decide) (by simp [sp_cE])) (sp_fr_row hf (by decide) (by simp [sp_cE])) (sp_fr_row hf (by decide) (by simp [sp_cE]))⟩
theorem sp_MX_k {I I2 : Nat → Nat → Int32} {T : sp_T} {V : sp_V} {h g : Nat} {H G : Nat → sp_V} (x : sp_MX I T V h H g G) (hf : sp_fr sp_mS sp_mE I I2) : sp_MX I2 T V h H g G := ⟨sp_MN_k x.1 hf, sp_MH_k x.2 (hf 70 (by decide) 22 (by decide)) (sp_fr_row hf (by decide) (by simp [sp_mE])) (hf 70 (by decide) 23 (by decide)) (sp_fr_row hf (by decide) (by simp [sp_mE]))⟩
theorem sp_CX_mk {I I2 : Nat → Nat → Int32} {T : sp_T} {V V2 : sp_V} {h g h2 g2 : Nat} {H G H2 G2 : Nat → sp_V} (x : sp_CX I T V h H g G) (hf : sp_fr [29, 31, 32, 67, 69] [(66, 2), (68, 2)] I I2) (hS : sp_S I2 29 V2) (a1 : I2 66 2 = nI h2) (a2 : h2 ≤ 16) (a3 : ∀ i, i < h2 → sp_rwC I2 67 i (H2 i) (st_n T)) (a4 : I2 68 2 = nI g2) (a5 : g2 ≤ 3) (a6 : ∀ i, i < g2 → sp_rwC I2 69 i (G2 i) (st_n T)) : sp_CX I2 T V2 h2 H2 g2 G2 := by
  have hr := sp_rows hf [2, 3, 4, 5, 6, 7, 8, 9, 10, 11, 12] (by decide)
  exact ⟨⟨by rw [hf 0 (by decide) 14 (by decide)]; exact x.1.1, sp_ct_k x.1.2.1 hr, hS⟩, sp_FT_k x.2.1 (hf 54 (by decide) 4 (by decide)) (sp_fr_row hf (by decide) (by simp)), by rw [hf 66 (by decide) 0 (by decide)]; exact x.2.2.1, a1, a2, a3, by rw [hf 68 (by decide) 0 (by decide)]; exact x.2.2.2.2.2.2.1, a4, a5, a6⟩
theorem sp_MX_mk {I I2 : Nat → Nat → Int32} {T : sp_T} {V V2 : sp_V} {h g h2 g2 : Nat} {H G H2 G2 : Nat → sp_V} (x : sp_MX I T V h H g G) (hf : sp_fr [77, 78, 79] [(70, 22), (70, 23)] I I2) (hS : sp_Mw I2 77 V2) (a1 : I2 70 22 = nI h2) (a2 : h2 ≤ 16) (a3 : ∀ i, i < h2 → sp_rwM I2 78 i (H2 i) (st_n T)) (a4 : I2 70 23 = nI g2) (a5 : g2 ≤ 3) (a6 : ∀ i, i < g2 → sp_rwM I2 79 i (G2 i) (st_n T)) : sp_MX I2 T V2 h2 H2 g2 G2 := ⟨⟨by rw [hf 70 (by decide) 14 (by decide)]; exact x.1.1, sp_mt_k x.1.2.1 (sp_fr_row hf (by decide) (by simp)) (sp_fr_row hf (by decide) (by simp)), hS⟩, a1, a2, a3, a4, a5, a6⟩
/-- of a method: what it answers, TROUBLE then, what is now -/
def sp_kc (M : ow_M) (d : Nat) (av : List Value) (I : Nat → Nat → Int32) (R : Nat → Nat → Option Nat) (res : Option Value) (tr : Int32) (T : sp_T) (V : sp_V) (h : Nat) (H : Nat → sp_V) (g : Nat) (G : Nat → sp_V) : Prop := ∀ (J : Nat → Nat → Int64) (Q : Option Value → ow_H → Prop), (∀ (I2 : Nat → Nat → Int32) (J2 : Nat → Nat → Int64), sp_fr sp_aS sp_aE I I2 → I2 0 15 = tr → sp_CX I2 T V h H g G → Q res (85, I2, J2, R)) → ow_AM M d av (85, I, J, R) Q
def sp_kmo (M : ow_M) (d : Nat) (av : List Value) (I : Nat → Nat → Int32) (R : Nat → Nat → Option Nat) (res : Option Value) (tr : Int32) (T : sp_T) (V : sp_V) (h : Nat) (H : Nat → sp_V) (g : Nat) (G : Nat → sp_V) : Prop := ∀ (J : Nat → Nat → Int64) (Q : Option Value → ow_H → Prop), (∀ (I2 : Nat → Nat → Int32) (J2 : Nat → Nat → Int64), sp_fr sp_oS sp_oE I I2 → I2 70 11 = tr → sp_MX I2 T V h H g G → Q res (85, I2, J2, R)) → ow_AM M d av (85, I, J, R) Q
theorem sp_kc_of {M : ow_M} {d : Nat} {av : List Value} {I : Nat → Nat → Int32} {R : Nat → Nat → Option Nat} {res : Option Value} {tr : Int32} {T : sp_T} {V : sp_V} {h g : Nat} {H G : Nat → sp_V} (x : sp_CX I T V h H g G) (c : sp_rc M d av I R res tr) : sp_kc M d av I R res tr T V h H g G := fun J Q hQ => c J Q (fun I2 J2 hf ht => hQ I2 J2 (sp_ca hf) ht (sp_CX_k x hf))
theorem sp_kmo_of {M : ow_M} {d : Nat} {av : List Value} {I : Nat → Nat → Int32} {R : Nat → Nat → Option Nat} {res : Option Value} {tr : Int32} {T : sp_T} {V : sp_V} {h g : Nat} {H G : Nat → sp_V} (x : sp_MX I T V h H g G) (c : sp_rm M d av I R res tr) : sp_kmo M d av I R res tr T V h H g G := fun J Q hQ => c J Q (fun I2 J2 hf ht => hQ I2 J2 (sp_mo hf) ht (sp_MX_k x hf))
theorem sp_ph_le {m h : Nat} (hh : h ≤ m) : sp_ph m h ≤ m := by
  unfold sp_ph
  by_cases c : h = m
  · rw [if_pos c]; exact Nat.le_refl _
  · rw [if_neg c]; omega
theorem st_ph {T : sp_T} {V : sp_V} {m h : Nat} {H : Nat → sp_V} (hm : h ≤ m) (hV : st_now T V) (hh : st_hk T h H) : st_hk T (sp_ph m h) (sp_pH m h H V) := by
  unfold sp_ph sp_pH
  by_cases c : h = m
  · rw [if_pos c, if_pos c]
    intro i hi
    dsimp only
    by_cases e : i + 1 = m
    · rw [if_pos e]; exact hV
    · rw [if_neg e]; exact hh (i + 1) (by omega)
  · rw [if_neg c, if_neg c]
    intro i hi
    dsimp only
    by_cases e : i = h
    · rw [if_pos e]; exact hV
    · rw [if_neg e]; exact hh i (by omega)
def sp_mnd (T : sp_T) (V : sp_V) (f : Nat) : sp_V := (sp_n V, sp_y V, sp_h V, sp_sh V, (fun g => if g = f then sp_so (st_v T) f else sp_so V g), sp_to V)
def sp_hire (V : sp_V) (f : Nat) : sp_V := (sp_n V, sp_y V, sp_h V ^^^ 2 ^ f, sp_sh V, sp_so V, sp_to V)
theorem sp_xor : ∀ m, m < 64 → ∀ f, f < 6 → (nI m ^^^ ((1 : Int32) <<< (nI f &&& 31)) = nI (m ^^^ 2 ^ f) ∧ m ^^^ 2 ^ f < 64) := by decide +kernel
theorem st_mend {T : sp_T} {V : sp_V} {f : Nat} (hT : st_ok T) (hV : st_now T V) (hf : f < sp_n V) : st_now T (sp_mnd T V f) := ⟨⟨hV.1.1, hV.1.2.1, hV.1.2.2.1, fun g hg => ⟨(hV.1.2.2.2 g hg).1, by
  show (if g = f then sp_so (st_v T) f else sp_so V g) < 100
  by_cases h : g = f
  · rw [if_pos h]; exact (hT.1.2.2.2 f (show f < st_n T by rw [← hV.2.1]; exact hf)).2.1
  · rw [if_neg h]; exact (hV.1.2.2.2 g hg).2.1, (hV.1.2.2.2 g hg).2.2⟩⟩, hV.2.1, hV.2.2.1, hV.2.2.2⟩
theorem st_hire {T : sp_T} {V : sp_V} {f : Nat} (hV : st_now T V) (hf : f < 6) : st_now T (sp_hire V f) := ⟨⟨hV.1.1, hV.1.2.1, (sp_xor _ hV.1.2.2.1 f hf).2, hV.1.2.2.2⟩, hV.2⟩
theorem st_send {T : sp_T} {V : sp_V} {f t : Nat} (hV : st_now T V) (ht : t ≤ sp_n V) : st_now T (sp_send V f t) := ⟨sp_send_ok hV.1 ht, hV.2⟩
theorem st_age1 {T : sp_T} {V : sp_V} {r : Nat} (hV : st_now T V) (hy : sp_y V < 999) : st_now T (sp_age V r 1) := ⟨sp_age_ok hV.1 (by omega), hV.2.1, show sp_y V + 1 < 1000 by omega, hV.2.2.2⟩
theorem sp_swt_le {f t n : Nat} (ht : t < n) : sp_swt f t ≤ n := by
  unfold sp_swt
  by_cases h : t = f
  · rw [if_pos h]; omega
  · rw [if_neg h]; omega
theorem sp_xb : ∀ k, k < 6 → ∀ x, x < 2 ^ k → ((2 ^ (k + 1) - 1) ^^^ x = ((2 ^ k - 1) ^^^ x) ||| 2 ^ k ∧ (2 ^ (k + 1) - 1) ^^^ (x ||| 2 ^ k) = (2 ^ k - 1) ^^^ x) := by decide +kernel
theorem sp_ru_bs {V : sp_V} : ∀ k, k ≤ 6 → sp_ru V k = (2 ^ k - 1) ^^^ sp_bs V k := by
  intro k
  induction k with
  | zero => intro _; exact (show 0 = (2 ^ 0 - 1) ^^^ 0 by decide)
  | succ k ih =>
    intro hk
    obtain ⟨x1, x2⟩ := sp_xb k (by omega) _ (sp_bs_pow (V := V) k)
    rw [sp_ru, sp_bs, ih (by omega)]
    by_cases h : sp_so V k = 0
    · rw [if_pos h, if_neg (by omega), x1]
    · rw [if_neg h, if_pos (by omega), x2]
theorem sp_yrb : ∀ n, n < 7 → ∀ a, a < 64 → ∀ b, b < 64 → a < 2 ^ n → b < 2 ^ n → nI ((2 ^ n - 1) ^^^ b) &&& (nI ((2 ^ n - 1) ^^^ a) ^^^ (-1)) = nI a &&& (nI b ^^^ (-1)) := by decide +kernel
section ACTS
variable {d : Nat} {I : Nat → Nat → Int32} {R : Nat → Nat → Option Nat} {T : sp_T} {V : sp_V} {h g : Nat} {H G : Nat → sp_V}
/-- the object keeps what is now, for undo -/
theorem c_push67 {J : Nat → Nat → Int64} {Q : Option Value → ow_H → Prop} (hR : ow_RF R) (x : sp_CX I T V h H g G) (hV : st_now T V)
    (hQ : ∀ I2 : Nat → Nat → Int32, sp_fr [29, 31, 32, 67, 69] [(66, 2), (68, 2)] I I2 → sp_CX I2 T V (sp_ph 16 h) (sp_pH 16 h H V) g G → I2 29 = I 29 → I2 31 = I 31 → I2 32 = I 32 → Q none (85, I2, J, R)) : ow_AM M_Snaps_push (d + 1) [.ref 66, .ref 29] (85, I, J, R) Q := by
  obtain ⟨y1, y2, y3, y4, y5, y6, y7, y8⟩ := id x.2.2
  refine c_Snaps_push (n := st_n T) (h := h) (H := H) hR (by decide) x.1.2.2 hV.2.1 (by rw [← hV.2.1]; exact hV.1.1) y1 y2 y3 y4 ?_
  intro I2 k0 k1 k2
  have f2 : sp_fr [29, 31, 32, 67, 69] [(66, 2), (68, 2)] I I2 := sp_fr_mono k0 (by decide) (by decide)
  have r : ∀ a, a ≠ 67 → a ≠ 66 → I2 a = I a := fun a h1 h2 => sp_fr_row k0 (by simp [h1]) (by simp [h2])
  exact hQ I2 f2 (sp_CX_mk x f2 (sp_S_kr x.1.2.2 (r 29 (by decide) (by decide)) (r 30 (by decide) (by decide)) (r 31 (by decide) (by decide)) (r 32 (by decide) (by decide))) k1 (sp_ph_le y3) k2 (by rw [r 68 (by decide) (by decide)]; exact y6) y7 (fun i hi => sp_rwC_k (y8 i hi) (r 69 (by decide) (by decide)))) (r 29 (by decide) (by decide)) (r 31 (by decide) (by decide)) (r 32 (by decide) (by decide))
theorem c_note71 {J : Nat → Nat → Int64} {Q : Option Value → ow_H → Prop} (hR : ow_RF R) (x : sp_MX I T V h H g G) (hV : st_now T V)
    (hQ : ∀ I2 : Nat → Nat → Int32, sp_fr [77, 78, 79] [(70, 22), (70, 23)] I I2 → sp_MX I2 T V (sp_ph 16 h) (sp_pH 16 h H V) g G → I2 77 = I 77 → Q none (85, I2, J, R)) : ow_AM M_Mo_note (d + 2) [.ref 70] (85, I, J, R) Q := by
  obtain ⟨y1, y2, y3, y4, y5, y6⟩ := id x.2
  refine c_Mo_note (n := st_n T) (h := h) (H := H) hR x.1.2.2 hV.2.1 (by rw [← hV.2.1]; exact hV.1.1) y1 y2 y3 ?_
  intro I2 k0 k1 k2
  have f2 : sp_fr [77, 78, 79] [(70, 22), (70, 23)] I I2 := sp_fr_mono k0 (by decide) (by decide)
  have r : I2 77 = I 77 := sp_fr_row k0 (by decide) (by simp)
  exact hQ I2 f2 (sp_MX_mk x f2 (sp_Mw_k x.1.2.2 r) k1 (sp_ph_le y2) k2 (by rw [k0 70 (by decide) 23 (by decide)]; exact y4) y5 (fun i hi => sp_rwM_k (y6 i hi) (sp_fr_row k0 (by decide) (by simp)))) r
/-- cells of what is now, changed -/
theorem sp_CX_now {I2 : Nat → Nat → Int32} {V2 : sp_V} (x : sp_CX I T V h H g G) (hf : sp_fr [29, 31, 32] [] I I2) (hS : sp_S I2 29 V2) : sp_CX I2 T V2 h H g G := by
  obtain ⟨y1, y2, y3, y4, y5, y6, y7, y8⟩ := id x.2.2
  have r : ∀ a, a ≠ 29 → a ≠ 31 → a ≠ 32 → I2 a = I a := fun a h1 h2 h3 => sp_fr_row hf (by simp [h1, h2, h3]) (by simp)
  exact sp_CX_mk x (sp_fr_mono hf (by decide) (by decide)) hS (by rw [r 66 (by decide) (by decide) (by decide)]; exact y2) y3 (fun i hi => sp_rwC_k (y4 i hi) (r 67 (by decide) (by decide) (by decide))) (by rw [r 68 (by decide) (by decide) (by decide)]; exact y6) y7 (fun i hi => sp_rwC_k (y8 i hi) (r 69 (by decide) (by decide) (by decide)))
theorem sp_MX_now {I2 : Nat → Nat → Int32} {V2 : sp_V} (x : sp_MX I T V h H g G) (hf : sp_fr [77] [] I I2) (hS : sp_Mw I2 77 V2) : sp_MX I2 T V2 h H g G := by
  obtain ⟨y1, y2, y3, y4, y5, y6⟩ := id x.2
  have r : ∀ a, a ≠ 77 → I2 a = I a := fun a h1 => sp_fr_row hf (by simp [h1]) (by simp)
  exact sp_MX_mk x (sp_fr_mono hf (by decide) (by decide)) hS (by rw [r 70 (by decide)]; exact y1) y2 (fun i hi => sp_rwM_k (y3 i hi) (r 78 (by decide))) (by rw [r 70 (by decide)]; exact y4) y5 (fun i hi => sp_rwM_k (y6 i hi) (r 79 (by decide)))
theorem sp_b3 {I2 : Nat → Nat → Int32} (h : sp_fr [29, 31, 32, 67, 69] [(66, 2), (68, 2)] I I2) : sp_fr sp_aS sp_aE I I2 := sp_fr_mono h (by decide) (by decide)
theorem sp_b4 {I2 : Nat → Nat → Int32} (h : sp_fr [29, 31, 32] [] I I2) : sp_fr sp_aS sp_aE I I2 := sp_fr_mono h (by decide) (by decide)
theorem sp_o3 {I2 : Nat → Nat → Int32} (h : sp_fr [77, 78, 79] [(70, 22), (70, 23)] I I2) : sp_fr sp_oS sp_oE I I2 := sp_fr_mono h (by decide) (by decide)
theorem sp_o4 {I2 : Nat → Nat → Int32} (h : sp_fr [77] [] I I2) : sp_fr sp_oS sp_oE I I2 := sp_fr_mono h (by decide) (by decide)
theorem kc_year  (hR : ow_RF R) (x : sp_CX I T V h H g G) (hT : st_ok T) (hV : st_now T V) (hy : sp_y V < 999) : sp_kc M_Fs_year (d + 12) [.ref 0] I R (some (.int (nI (sp_bs V (sp_n V)) &&& (nI (sp_bs (sp_age V (st_rt T) 1) (sp_n V)) ^^^ (-1))))) 0 T (sp_age V (st_rt T) 1) (sp_ph 16 h) (sp_pH 16 h H V) g G := by
  intro J Q hQ
  have hC := x.1
  apply t_Fs_year hR
  refine c_Fs_lacksShire hR hC.1 ?_
  intro I2 g0 g1
  have hC2 := sp_CN_k hC (sp_cm g0)
  refine ⟨_, I2, J, R, rfl, rfl, hR, ?_⟩
  first | refine ⟨fun _ => ?_, fun c => absurd rfl c⟩ | refine ⟨fun c => absurd rfl c, fun _ => ?_⟩
  have x2 := sp_CX_k x (sp_cm g0)
  have hy2 : I2 29 1 = nI (sp_y V) := hC2.2.2.2.1
  rw [hy2]
  refine ⟨fun _ => ?_, fun c => absurd (nI_lt (b := 999) hy (by decide)) c⟩
  refine c_push67 hR x2 hV ?_
  intro I3 k0 x3 q29 q31 q32
  refine ⟨I3, J, R, rfl, rfl, hR, ?_⟩
  have f3 : sp_fr sp_aS sp_aE I I3 := sp_fr_tr (sp_ca (sp_cm g0)) (sp_b3 k0)
  have t3 : I3 0 15 = 0 := by rw [k0 0 (by decide) 15 (by decide)]; exact g1
  refine c_Scene_bitsSound hR (by decide) x3.1.2.2 hV.1 ⟨_, I3, J, R, rfl, rfl, hR, ?_⟩
  rw [x3.1.2.1.2.1]
  refine c_Scene_age (k := 1) hR (by decide) x3.1.2.2 hV.1 hT.2.2.2.2.1 (by decide) ?_
  intro I4 m0 m1
  refine ⟨I4, J, R, rfl, rfl, hR, ?_⟩
  have f4 : sp_fr [29, 31, 32] [] I3 I4 := sp_fr_mono m0 (by decide) (by decide)
  refine c_Scene_bitsSound hR (by decide) m1 (st_age1 hV hy).1 ⟨_, I4, J, R, rfl, rfl, hR, ?_⟩
  exact hQ I4 J (sp_fr_tr f3 (sp_b4 f4)) (by rw [f4 0 (by decide) 15 (by decide)]; exact t3) (sp_CX_now x3 f4 m1)
theorem kc_year_z  (hR : ow_RF R) (x : sp_CX I T V h H g G) (hT : st_ok T) (hV : st_now T V) (hy : ¬ sp_y V < 999) : sp_kc M_Fs_year (d + 12) [.ref 0] I R (some (.int (-1))) 3 T V h H g G := by
  intro J Q hQ
  have hC := x.1
  apply t_Fs_year hR
  refine c_Fs_lacksShire hR hC.1 ?_
  intro I2 g0 g1
  have hC2 := sp_CN_k hC (sp_cm g0)
  refine ⟨_, I2, J, R, rfl, rfl, hR, ?_⟩
  first | refine ⟨fun _ => ?_, fun c => absurd rfl c⟩ | refine ⟨fun c => absurd rfl c, fun _ => ?_⟩
  have x2 := sp_CX_k x (sp_cm g0)
  have hy2 : I2 29 1 = nI (sp_y V) := hC2.2.2.2.1
  have hy3 := hV.2.2.1
  rw [hy2]
  refine ⟨fun c => absurd c (nI_nlt (a := sp_y V) (b := 999) (by omega) (by omega)), fun _ => ?_⟩
  refine c_Fs_refused hR ?_
  intro I3 k0 k1
  exact ⟨_, I3, J, R, rfl, rfl, hR, hQ I3 J (sp_ca (sp_fr_tr (sp_cm g0) (sp_cm k0))) k1 (sp_CX_k x2 (sp_cm k0))⟩
theorem kc_mend {f : Nat} (hR : ow_RF R) (x : sp_CX I T V h H g G) (hT : st_ok T) (hV : st_now T V) (hf : f < sp_n V) (hs : sp_so V f ≠ sp_so (st_v T) f) : sp_kc M_Fs_mend (d + 12) [.ref 0, .int (nI f)] I R (some (.int (nI (sp_so (st_v T) f)))) 0 T (sp_mnd T V f) (sp_ph 16 h) (sp_pH 16 h H V) g G := by
  intro J Q hQ
  have hC := x.1
  apply t_Fs_mend hR
  refine c_Fs_lacksFolly hR hC.1 (show I 29 0 = nI (sp_n V) from hC.2.2.1) (by have := st_n6 hV; omega) ?_
  intro I2 g0 g1
  have hx : sp_is (nI f) (sp_n V) = true := decide_eq_true (by have := st_n6 hV; rw [nI_toInt (by omega)]; omega)
  rw [hx] at g1 ⊢
  have hC2 := sp_CN_k hC (sp_cm g0)
  refine ⟨_, I2, J, R, rfl, rfl, hR, ?_⟩
  first | refine ⟨fun _ => ?_, fun c => absurd rfl c⟩ | refine ⟨fun c => absurd rfl c, fun _ => ?_⟩
  have x2 := sp_CX_k x (sp_cm g0)
  have hfT : f < st_n T := by rw [← hV.2.1]; exact hf
  have n6 := st_n6 hV
  have d1 : I2 31 f = nI (sp_so V f) := (hC2.2.2.2.2.2 f hf).2.1
  have d2 : I2 5 f = nI (sp_so (st_v T) f) := (hC2.2.1.2.2.2.2.2.1.2.2.2 f hfT).2.1
  have d3 := (hV.1.2.2.2 f hf).2.1
  have d4 := (hT.1.2.2.2 f hfT).2.1
  rw [sp_cl (by omega), d1, d2, nI_eq (by omega) (by omega)]
  refine ⟨vp_in_nI (by omega) (by decide), vp_in_nI (by omega) (by decide), fun _ => ?_, fun c => absurd c hs⟩
  refine c_push67 hR x2 hV ?_
  intro I3 k0 x3 q29 q31 q32
  refine ⟨I3, J, R, rfl, rfl, hR, vp_in_nI (by omega) (by decide), ?_⟩
  have f3 : sp_fr sp_aS sp_aE I I3 := sp_fr_tr (sp_ca (sp_cm g0)) (sp_b3 k0)
  have t3 : I3 0 15 = 0 := by rw [k0 0 (by decide) 15 (by decide)]; exact g1
  intro I4 e4
  have f4 : sp_fr [29, 31, 32] [] I3 I4 := sp_fr_ue e4 (by simp)
  exact hQ I4 J (sp_fr_tr f3 (sp_b4 f4)) (by rw [f4 0 (by decide) 15 (by decide)]; exact t3) (sp_CX_now x3 f4 (sp_S_so x3.1.2.2 e4))
theorem kc_mend_z {f : Nat} (hR : ow_RF R) (x : sp_CX I T V h H g G) (hT : st_ok T) (hV : st_now T V) (hf : f < sp_n V) (hs : sp_so V f = sp_so (st_v T) f) : sp_kc M_Fs_mend (d + 12) [.ref 0, .int (nI f)] I R (some (.int (-1))) 5 T V h H g G := by
  intro J Q hQ
  have hC := x.1
  apply t_Fs_mend hR
  refine c_Fs_lacksFolly hR hC.1 (show I 29 0 = nI (sp_n V) from hC.2.2.1) (by have := st_n6 hV; omega) ?_
  intro I2 g0 g1
  have hx : sp_is (nI f) (sp_n V) = true := decide_eq_true (by have := st_n6 hV; rw [nI_toInt (by omega)]; omega)
  rw [hx] at g1 ⊢
  have hC2 := sp_CN_k hC (sp_cm g0)
  refine ⟨_, I2, J, R, rfl, rfl, hR, ?_⟩
  first | refine ⟨fun _ => ?_, fun c => absurd rfl c⟩ | refine ⟨fun c => absurd rfl c, fun _ => ?_⟩
  have x2 := sp_CX_k x (sp_cm g0)
  have hfT : f < st_n T := by rw [← hV.2.1]; exact hf
  have n6 := st_n6 hV
  have d1 : I2 31 f = nI (sp_so V f) := (hC2.2.2.2.2.2 f hf).2.1
  have d2 : I2 5 f = nI (sp_so (st_v T) f) := (hC2.2.1.2.2.2.2.2.1.2.2.2 f hfT).2.1
  have d3 := (hV.1.2.2.2 f hf).2.1
  have d4 := (hT.1.2.2.2 f hfT).2.1
  rw [sp_cl (by omega), d1, d2, nI_eq (by omega) (by omega)]
  refine ⟨vp_in_nI (by omega) (by decide), vp_in_nI (by omega) (by decide), fun c => absurd hs c, fun _ => ?_⟩
  refine c_Fs_refused hR ?_
  intro I3 k0 k1
  exact ⟨_, I3, J, R, rfl, rfl, hR, hQ I3 J (sp_ca (sp_fr_tr (sp_cm g0) (sp_cm k0))) k1 (sp_CX_k x2 (sp_cm k0))⟩
theorem kc_hire {f : Nat} (hR : ow_RF R) (x : sp_CX I T V h H g G) (hT : st_ok T) (hV : st_now T V) (hf : f < sp_n V) : sp_kc M_Fs_hire (d + 12) [.ref 0, .int (nI f)] I R (some (.int (sp_jb ((sp_h (sp_hire V f)).testBit f)))) 0 T (sp_hire V f) (sp_ph 16 h) (sp_pH 16 h H V) g G := by
  intro J Q hQ
  have hC := x.1
  apply t_Fs_hire hR
  refine c_Fs_lacksFolly hR hC.1 (show I 29 0 = nI (sp_n V) from hC.2.2.1) (by have := st_n6 hV; omega) ?_
  intro I2 g0 g1
  have hx : sp_is (nI f) (sp_n V) = true := decide_eq_true (by have := st_n6 hV; rw [nI_toInt (by omega)]; omega)
  rw [hx] at g1 ⊢
  have hC2 := sp_CN_k hC (sp_cm g0)
  refine ⟨_, I2, J, R, rfl, rfl, hR, ?_⟩
  first | refine ⟨fun _ => ?_, fun c => absurd rfl c⟩ | refine ⟨fun c => absurd rfl c, fun _ => ?_⟩
  have x2 := sp_CX_k x (sp_cm g0)
  have n6 := st_n6 hV
  refine c_push67 hR x2 hV ?_
  intro I3 k0 x3 q29 q31 q32
  refine ⟨I3, J, R, rfl, rfl, hR, ?_⟩
  have f3 : sp_fr sp_aS sp_aE I I3 := sp_fr_tr (sp_ca (sp_cm g0)) (sp_b3 k0)
  have t3 : I3 0 15 = 0 := by rw [k0 0 (by decide) 15 (by decide)]; exact g1
  have hh3 : I3 29 2 = nI (sp_h V) := x3.1.2.2.2.2.1
  obtain ⟨z1, z2⟩ := sp_xor (sp_h V) hV.1.2.2.1 f (by omega)
  rw [hh3, z1]
  intro I4 e4
  have f4 : sp_fr [29, 31, 32] [] I3 I4 := sp_fr_ue e4 (by simp)
  have v4 : I4 29 2 = nI (sp_h V ^^^ 2 ^ f) := by rw [e4, ow_u_at]
  have S4 : sp_S I4 29 (sp_hire V f) := by
    obtain ⟨s1, s2, s3, s4⟩ := x3.1.2.2
    exact ⟨by rw [e4, ow_u_nk (by decide)]; exact s1, by rw [e4, ow_u_nk (by decide)]; exact s2, v4, fun k hk => by rw [e4, ow_u_ne (by decide), ow_u_ne (by decide), ow_u_ne (by decide)]; exact s4 k hk⟩
  rw [v4, sp_bitj z2 (by omega)]
  exact hQ I4 J (sp_fr_tr f3 (sp_b4 f4)) (by rw [f4 0 (by decide) 15 (by decide)]; exact t3) (sp_CX_now x3 f4 S4)
theorem kc_send {f t : Nat} (hR : ow_RF R) (x : sp_CX I T V h H g G) (hT : st_ok T) (hV : st_now T V) (hf : f < sp_n V) (ht : t < sp_n V) (hs : sp_to V f ≠ sp_swt f t) : sp_kc M_Fs_send (d + 12) [.ref 0, .int (nI f), .int (nI t)] I R (some (.int 1)) 0 T (sp_send V f (sp_swt f t)) (sp_ph 16 h) (sp_pH 16 h H V) g G := by
  intro J Q hQ
  have hC := x.1
  apply t_Fs_send hR
  refine c_Fs_lacksFolly hR hC.1 (show I 29 0 = nI (sp_n V) from hC.2.2.1) (by have := st_n6 hV; omega) ?_
  intro I2 g0 g1
  have hx : sp_is (nI f) (sp_n V) = true := decide_eq_true (by have := st_n6 hV; rw [nI_toInt (by omega)]; omega)
  rw [hx] at g1 ⊢
  have hC2 := sp_CN_k hC (sp_cm g0)
  refine ⟨_, I2, J, R, rfl, rfl, hR, ?_⟩
  first | refine ⟨fun _ => ?_, fun c => absurd rfl c⟩ | refine ⟨fun c => absurd rfl c, fun _ => ?_⟩
  have x2 := sp_CX_k x (sp_cm g0)
  have n6 := st_n6 hV
  refine c_Fs_lacksFolly hR hC2.1 (show I2 29 0 = nI (sp_n V) from hC2.2.2.1) (by omega) ?_
  intro I3 m0 m1
  have hxt : sp_is (nI t) (sp_n V) = true := decide_eq_true (by rw [nI_toInt (by omega)]; omega)
  rw [hxt] at m1 ⊢
  have x3 := sp_CX_k x2 (sp_cm m0)
  refine ⟨_, I3, J, R, rfl, rfl, hR, ?_⟩
  first | refine ⟨fun _ => ?_, fun c => absurd rfl c⟩ | refine ⟨fun c => absurd rfl c, fun _ => ?_⟩
  have d1 : I3 32 f = sp_tg (sp_to V f) := (x3.1.2.2.2.2.2 f hf).2.2
  have d2 := (hV.1.2.2.2 f hf).2.2
  have f3 : sp_fr sp_cS sp_cE I I3 := sp_fr_tr (sp_cm g0) (sp_cm m0)
  rw [sp_cl (by omega), d1, nI_eq (a := t) (by omega) (by omega)]
  have fin : ∀ v : Int32, v = sp_tg (sp_swt f t) → ow_AM M_Snaps_push (d + 11) [.ref 66, .ref 29] (85, I3, J, R) (fun r h' => ∃ (I11 : Nat → Nat → Int32) (J11 : Nat → Nat → Int64) (R11 : Nat → Nat → Option Nat), r = none ∧ h' = (85, I11, J11, R11) ∧ ow_RF R11 ∧ (vp_in (nI f) 6 ∧ (∀ I12 : Nat → Nat → Int32, I12 = ow_u I11 32 f v → Q (some (.int 1)) (85, I12, J11, R11)))) := by
    intro v hv
    refine c_push67 hR x3 hV ?_
    intro I4 k0 x4 q29 q31 q32
    refine ⟨I4, J, R, rfl, rfl, hR, vp_in_nI (by omega) (by decide), ?_⟩
    intro I5 e5
    rw [hv] at e5
    have f5 : sp_fr [29, 31, 32] [] I4 I5 := sp_fr_ue e5 (by simp)
    exact hQ I5 J (sp_fr_tr (sp_fr_tr (sp_ca f3) (sp_b3 k0)) (sp_b4 f5)) (by rw [f5 0 (by decide) 15 (by decide), k0 0 (by decide) 15 (by decide)]; exact m1) (sp_CX_now x4 f5 (sp_S_to x4.1.2.2 e5))
  refine ⟨fun c => ⟨vp_in_nI (by omega) (by decide), fun _ => fin _ ?_, fun c2 => absurd c2 ?_⟩, fun c => ⟨vp_in_nI (by omega) (by decide), fun _ => fin _ ?_, fun c2 => absurd c2 ?_⟩⟩
  · unfold sp_swt; rw [if_neg c]; rfl
  · intro c3
    apply hs
    unfold sp_swt
    rw [if_neg c]
    by_cases h0 : sp_to V f = 0
    · rw [h0] at c3
      exact absurd c3.symm (sp_tg_ne (k := t + 1) (by omega) (by omega))
    · rw [sp_tg_s h0, nI_eq (by omega) (by omega)] at c3
      omega
  · unfold sp_swt; rw [if_pos c]; rfl
  · apply sp_tg_ne _ (by omega)
    intro h0
    apply hs
    unfold sp_swt
    rw [if_pos c, h0]
theorem kc_send_z {f t : Nat} (hR : ow_RF R) (x : sp_CX I T V h H g G) (hT : st_ok T) (hV : st_now T V) (hf : f < sp_n V) (ht : t < sp_n V) (hs : sp_to V f = sp_swt f t) : sp_kc M_Fs_send (d + 12) [.ref 0, .int (nI f), .int (nI t)] I R (some (.int 0)) 5 T V h H g G := by
  intro J Q hQ
  have hC := x.1
  apply t_Fs_send hR
  refine c_Fs_lacksFolly hR hC.1 (show I 29 0 = nI (sp_n V) from hC.2.2.1) (by have := st_n6 hV; omega) ?_
  intro I2 g0 g1
  have hx : sp_is (nI f) (sp_n V) = true := decide_eq_true (by have := st_n6 hV; rw [nI_toInt (by omega)]; omega)
  rw [hx] at g1 ⊢
  have hC2 := sp_CN_k hC (sp_cm g0)
  refine ⟨_, I2, J, R, rfl, rfl, hR, ?_⟩
  first | refine ⟨fun _ => ?_, fun c => absurd rfl c⟩ | refine ⟨fun c => absurd rfl c, fun _ => ?_⟩
  have x2 := sp_CX_k x (sp_cm g0)
  have n6 := st_n6 hV
  refine c_Fs_lacksFolly hR hC2.1 (show I2 29 0 = nI (sp_n V) from hC2.2.2.1) (by omega) ?_
  intro I3 m0 m1
  have hxt : sp_is (nI t) (sp_n V) = true := decide_eq_true (by rw [nI_toInt (by omega)]; omega)
  rw [hxt] at m1 ⊢
  have x3 := sp_CX_k x2 (sp_cm m0)
  refine ⟨_, I3, J, R, rfl, rfl, hR, ?_⟩
  first | refine ⟨fun _ => ?_, fun c => absurd rfl c⟩ | refine ⟨fun c => absurd rfl c, fun _ => ?_⟩
  have d1 : I3 32 f = sp_tg (sp_to V f) := (x3.1.2.2.2.2.2 f hf).2.2
  have d2 := (hV.1.2.2.2 f hf).2.2
  have f3 : sp_fr sp_cS sp_cE I I3 := sp_fr_tr (sp_cm g0) (sp_cm m0)
  rw [sp_cl (by omega), d1, nI_eq (a := t) (by omega) (by omega)]
  have fin : ∀ I4 : Nat → Nat → Int32, I4 = ow_u I3 0 15 5 → Q (some (.int 0)) (85, I4, J, R) := by
    intro I4 e4
    have f4 : sp_fr sp_cS sp_cE I3 I4 := sp_fr_ue e4 (by decide)
    exact hQ I4 J (sp_ca (sp_fr_tr f3 f4)) (by rw [e4, ow_u_at]) (sp_CX_k x3 f4)
  unfold sp_swt at hs
  refine ⟨fun c => ⟨vp_in_nI (by omega) (by decide), fun c2 => absurd ?_ c2, fun _ I4 e4 => fin I4 e4⟩, fun c => ⟨vp_in_nI (by omega) (by decide), fun c2 => absurd ?_ c2, fun _ I4 e4 => fin I4 e4⟩⟩
  · rw [hs, if_neg c]; rfl
  · rw [hs, if_pos c]; rfl
theorem kc_send_no2 {f : Nat} {y : Int32} (hR : ow_RF R) (x : sp_CX I T V h H g G) (hT : st_ok T) (hV : st_now T V) (hf : f < sp_n V) (hy : sp_is y (sp_n V) = false) : sp_kc M_Fs_send (d + 12) [.ref 0, .int (nI f), .int y] I R (some (.int 0)) 1 T V h H g G := by
  intro J Q hQ
  have hC := x.1
  apply t_Fs_send hR
  refine c_Fs_lacksFolly hR hC.1 (show I 29 0 = nI (sp_n V) from hC.2.2.1) (by have := st_n6 hV; omega) ?_
  intro I2 g0 g1
  have hx : sp_is (nI f) (sp_n V) = true := decide_eq_true (by have := st_n6 hV; rw [nI_toInt (by omega)]; omega)
  rw [hx] at g1 ⊢
  have hC2 := sp_CN_k hC (sp_cm g0)
  refine ⟨_, I2, J, R, rfl, rfl, hR, ?_⟩
  first | refine ⟨fun _ => ?_, fun c => absurd rfl c⟩ | refine ⟨fun c => absurd rfl c, fun _ => ?_⟩
  have x2 := sp_CX_k x (sp_cm g0)
  refine c_Fs_lacksFolly hR hC2.1 (show I2 29 0 = nI (sp_n V) from hC2.2.2.1) (by have := st_n6 hV; omega) ?_
  intro I3 m0 m1
  rw [hy] at m1 ⊢
  refine ⟨_, I3, J, R, rfl, rfl, hR, ?_⟩
  first | refine ⟨fun _ => ?_, fun c => absurd c (by decide)⟩ | refine ⟨fun c => absurd c (by decide), fun _ => ?_⟩
  exact hQ I3 J (sp_ca (sp_fr_tr (sp_cm g0) (sp_cm m0))) m1 (sp_CX_k x2 (sp_cm m0))
theorem kc_mend_no {y : Int32} (hR : ow_RF R) (x : sp_CX I T V h H g G) (hT : st_ok T) (hV : st_now T V) (hx : sp_is y (sp_n V) = false) : sp_kc M_Fs_mend (d + 12) [.ref 0, .int y] I R (some (.int (-1))) 1 T V h H g G := by
  intro J Q hQ
  have hC := x.1
  apply t_Fs_mend hR
  refine c_Fs_lacksFolly hR hC.1 (show I 29 0 = nI (sp_n V) from hC.2.2.1) (by have := st_n6 hV; omega) ?_
  intro I2 g0 g1
  rw [hx] at g1 ⊢
  refine ⟨_, I2, J, R, rfl, rfl, hR, ?_⟩
  first | exact ⟨fun c => absurd c (by decide), fun _ => hQ I2 J (sp_ca (sp_cm g0)) g1 (sp_CX_k x (sp_cm g0))⟩ | exact ⟨fun _ => hQ I2 J (sp_ca (sp_cm g0)) g1 (sp_CX_k x (sp_cm g0)), fun c => absurd c (by decide)⟩
theorem kc_hire_no {y : Int32} (hR : ow_RF R) (x : sp_CX I T V h H g G) (hT : st_ok T) (hV : st_now T V) (hx : sp_is y (sp_n V) = false) : sp_kc M_Fs_hire (d + 12) [.ref 0, .int y] I R (some (.int (-1))) 1 T V h H g G := by
  intro J Q hQ
  have hC := x.1
  apply t_Fs_hire hR
  refine c_Fs_lacksFolly hR hC.1 (show I 29 0 = nI (sp_n V) from hC.2.2.1) (by have := st_n6 hV; omega) ?_
  intro I2 g0 g1
  rw [hx] at g1 ⊢
  refine ⟨_, I2, J, R, rfl, rfl, hR, ?_⟩
  first | exact ⟨fun c => absurd c (by decide), fun _ => hQ I2 J (sp_ca (sp_cm g0)) g1 (sp_CX_k x (sp_cm g0))⟩ | exact ⟨fun _ => hQ I2 J (sp_ca (sp_cm g0)) g1 (sp_CX_k x (sp_cm g0)), fun c => absurd c (by decide)⟩
theorem kc_send_no {y z : Int32} (hR : ow_RF R) (x : sp_CX I T V h H g G) (hT : st_ok T) (hV : st_now T V) (hx : sp_is y (sp_n V) = false) : sp_kc M_Fs_send (d + 12) [.ref 0, .int y, .int z] I R (some (.int 0)) 1 T V h H g G := by
  intro J Q hQ
  have hC := x.1
  apply t_Fs_send hR
  refine c_Fs_lacksFolly hR hC.1 (show I 29 0 = nI (sp_n V) from hC.2.2.1) (by have := st_n6 hV; omega) ?_
  intro I2 g0 g1
  rw [hx] at g1 ⊢
  refine ⟨_, I2, J, R, rfl, rfl, hR, ?_⟩
  first | exact ⟨fun c => absurd c (by decide), fun _ => hQ I2 J (sp_ca (sp_cm g0)) g1 (sp_CX_k x (sp_cm g0))⟩ | exact ⟨fun _ => hQ I2 J (sp_ca (sp_cm g0)) g1 (sp_CX_k x (sp_cm g0)), fun c => absurd c (by decide)⟩
theorem kc_undo {k : Nat} (hR : ow_RF R) (x : sp_CX I T V h H g G) (hT : st_ok T) (hV : st_now T V) (hk : h = k + 1) (hh : st_hk T h H) : sp_kc M_Fs_undo (d + 12) [.ref 0] I R (some (.int 1)) 0 T (H k) k H g G := by
  intro J Q hQ
  have hC := x.1
  apply t_Fs_undo hR
  obtain ⟨y1, y2, y3, y4, y5, y6, y7, y8⟩ := id x.2.2
  rw [y2, hk]
  refine ⟨fun _ I4 e4 => ?_, fun c => absurd c (nI_ne0 (by omega) (by omega))⟩
  have f4 : sp_fr sp_cS sp_cE I I4 := sp_fr_ue e4 (by decide)
  have x4 := sp_CX_k x f4
  have hW := hh k (by omega)
  refine c_Snaps_pop (n := st_n T) (W := H k) (h := k) hR (by decide) x4.1.2.2 hV.2.1 hW.2.1 (by rw [← hV.2.1]; exact hV.1.1) (fun f hf => by rw [hV.2.2.2 f hf, hW.2.2.2 f hf]) x4.2.2.1 (by rw [x4.2.2.2.1, hk]) (show k < 16 by omega) (x4.2.2.2.2.2.1 k (by omega)) ?_
  intro I5 m0 m1 m2
  have f5 : sp_fr [29, 31, 32, 67, 69] [(66, 2), (68, 2)] I4 I5 := sp_fr_mono m0 (by decide) (by decide)
  refine ⟨I5, J, R, rfl, rfl, hR, hQ I5 J (sp_fr_tr (sp_ca f4) (sp_b3 f5)) (by rw [f5 0 (by decide) 15 (by decide), e4, ow_u_at]) ?_⟩
  exact sp_CX_mk x4 f5 m2 m1 (by omega) (fun i hi => sp_rwC_k (x4.2.2.2.2.2.1 i (by omega)) (sp_fr_row m0 (by decide) (by simp))) (by rw [m0 68 (by decide) 2 (by decide)]; exact x4.2.2.2.2.2.2.2.1) y7 (fun i hi => sp_rwC_k (x4.2.2.2.2.2.2.2.2.2 i hi) (sp_fr_row m0 (by decide) (by simp)))
theorem kc_undo_z  (hR : ow_RF R) (x : sp_CX I T V h H g G) (hT : st_ok T) (hV : st_now T V) (hk : h = 0) : sp_kc M_Fs_undo (d + 12) [.ref 0] I R (some (.int 0)) 6 T V h H g G := by
  intro J Q hQ
  have hC := x.1
  apply t_Fs_undo hR
  rw [x.2.2.2.1, hk]
  refine ⟨fun c => absurd rfl c, fun _ I4 e4 => ?_⟩
  have f4 : sp_fr sp_cS sp_cE I I4 := sp_fr_ue e4 (by decide)
  exact hQ I4 J (sp_ca f4) (by rw [e4, ow_u_at]) (sp_CX_k x f4)
theorem kc_image  (hR : ow_RF R) (x : sp_CX I T V h H g G) (hT : st_ok T) (hV : st_now T V) (hg : g < 3) : sp_kc M_Fs_image (d + 12) [.ref 0] I R (some (.int (nI g))) 0 T V h H (g + 1) (fun i => if i = g then V else G i) := by
  intro J Q hQ
  have hC := x.1
  apply t_Fs_image hR
  refine c_Fs_lacksShire hR hC.1 ?_
  intro I2 g0 g1
  have hC2 := sp_CN_k hC (sp_cm g0)
  refine ⟨_, I2, J, R, rfl, rfl, hR, ?_⟩
  first | refine ⟨fun _ => ?_, fun c => absurd rfl c⟩ | refine ⟨fun c => absurd rfl c, fun _ => ?_⟩
  have x2 := sp_CX_k x (sp_cm g0)
  obtain ⟨y1, y2, y3, y4, y5, y6, y7, y8⟩ := id x2.2.2
  rw [y6]
  have hg3 : ¬ nI g = 3 := fun c => absurd ((nI_eq (a := g) (b := 3) (by omega) (by decide)).mp c) (by omega)
  refine ⟨fun _ => ?_, fun c => absurd c hg3⟩
  refine c_Snaps_push (n := st_n T) (h := g) (H := G) hR (by decide) x2.1.2.2 hV.2.1 (by rw [← hV.2.1]; exact hV.1.1) y5 y6 y7 y8 ?_
  intro I3 k0 k1 k2
  have e1 : sp_ph (sp_room 68) g = g + 1 := by unfold sp_ph; rw [if_neg (show ¬ g = sp_room 68 from fun c => by have : g = 3 := c; omega)]
  have e2 : sp_pH (sp_room 68) g G V = fun i => if i = g then V else G i := by unfold sp_pH; rw [if_neg (show ¬ g = sp_room 68 from fun c => by have : g = 3 := c; omega)]
  rw [e1] at k1 k2
  rw [e2] at k2
  have f3 : sp_fr [29, 31, 32, 67, 69] [(66, 2), (68, 2)] I2 I3 := sp_fr_mono k0 (by decide) (by decide)
  have r : ∀ a, a ≠ 69 → a ≠ 68 → I3 a = I2 a := fun a h1 h2 => sp_fr_row k0 (by simp [h1]) (by simp [h2])
  refine ⟨I3, J, R, rfl, rfl, hR, ?_⟩
  rw [k1, show nI (g + 1) - 1 = nI g from nI_pred g]
  exact hQ I3 J (sp_fr_tr (sp_ca (sp_cm g0)) (sp_b3 f3)) (by rw [f3 0 (by decide) 15 (by decide)]; exact g1) (sp_CX_mk x2 f3 (sp_S_kr x2.1.2.2 (r 29 (by decide) (by decide)) (r 30 (by decide) (by decide)) (r 31 (by decide) (by decide)) (r 32 (by decide) (by decide))) (by rw [r 66 (by decide) (by decide)]; exact y2) y3 (fun i hi => sp_rwC_k (y4 i hi) (r 67 (by decide) (by decide))) k1 (by omega) k2)
theorem kc_image_z  (hR : ow_RF R) (x : sp_CX I T V h H g G) (hT : st_ok T) (hV : st_now T V) (hg : g = 3) : sp_kc M_Fs_image (d + 12) [.ref 0] I R (some (.int (-1))) 3 T V h H g G := by
  intro J Q hQ
  have hC := x.1
  apply t_Fs_image hR
  refine c_Fs_lacksShire hR hC.1 ?_
  intro I2 g0 g1
  have hC2 := sp_CN_k hC (sp_cm g0)
  refine ⟨_, I2, J, R, rfl, rfl, hR, ?_⟩
  first | refine ⟨fun _ => ?_, fun c => absurd rfl c⟩ | refine ⟨fun c => absurd rfl c, fun _ => ?_⟩
  have x2 := sp_CX_k x (sp_cm g0)
  have y6 : I2 68 2 = nI 3 := by rw [← hg]; exact x2.2.2.2.2.2.2.2.1
  rw [y6]
  refine ⟨fun c => absurd rfl c, fun _ => ?_⟩
  refine c_Fs_refused hR ?_
  intro I3 k0 k1
  exact ⟨_, I3, J, R, rfl, rfl, hR, hQ I3 J (sp_ca (sp_fr_tr (sp_cm g0) (sp_cm k0))) k1 (sp_CX_k x2 (sp_cm k0))⟩
theorem kc_back {k : Nat} (hR : ow_RF R) (x : sp_CX I T V h H g G) (hT : st_ok T) (hV : st_now T V) (hk : k < g) (hh : st_hk T g G) : sp_kc M_Fs_back (d + 12) [.ref 0, .int (nI k)] I R (some (.int 1)) 0 T (G k) 0 H g G := by
  intro J Q hQ
  have hC := x.1
  apply t_Fs_back hR
  obtain ⟨y1, y2, y3, y4, y5, y6, y7, y8⟩ := id x.2.2
  rw [y6]
  refine ⟨fun c => absurd c (nI_pos (by omega)), fun _ => ⟨fun _ I4 e4 => ?_, fun c => absurd (nI_lt hk (by omega)) c⟩⟩
  have f4 : sp_fr sp_cS sp_cE I I4 := sp_fr_ue e4 (by decide)
  have x4 := sp_CX_k x f4
  have hW := hh k (by omega)
  refine c_Snaps_show (n := st_n T) (W := G k) (i := k) hR (by decide) x4.1.2.2 hV.2.1 hW.2.1 (by rw [← hV.2.1]; exact hV.1.1) (fun f hf => by rw [hV.2.2.2 f hf, hW.2.2.2 f hf]) x4.2.2.2.2.2.2.1 (show k < 3 by omega) (x4.2.2.2.2.2.2.2.2.2 k hk) ?_
  intro I5 m0 m1
  have f5 : sp_fr [29, 31, 32] [] I4 I5 := sp_fr_mono m0 (by decide) (by decide)
  have x5 := sp_CX_now x4 f5 m1
  refine ⟨I5, J, R, rfl, rfl, hR, ?_⟩
  refine c_Snaps_clear hR (by decide) ?_
  intro I6 n0 n1
  have f6 : sp_fr [29, 31, 32, 67, 69] [(66, 2), (68, 2)] I5 I6 := sp_fr_mono n0 (by decide) (by decide)
  have r : ∀ a, a ≠ 66 → I6 a = I5 a := fun a h1 => sp_fr_row n0 (by simp) (by simp [h1])
  refine ⟨I6, J, R, rfl, rfl, hR, hQ I6 J (sp_fr_tr (sp_fr_tr (sp_ca f4) (sp_b4 f5)) (sp_b3 f6)) (by rw [f6 0 (by decide) 15 (by decide), f5 0 (by decide) 15 (by decide), e4, ow_u_at]) ?_⟩
  exact sp_CX_mk x5 f6 (sp_S_kr m1 (r 29 (by decide)) (r 30 (by decide)) (r 31 (by decide)) (r 32 (by decide))) n1 (by omega) (fun i hi => absurd hi (Nat.not_lt_zero _)) (by rw [r 68 (by decide)]; exact x5.2.2.2.2.2.2.2.1) y7 (fun i hi => sp_rwC_k (x5.2.2.2.2.2.2.2.2.2 i hi) (r 69 (by decide)))
theorem kc_back_z {y : Int32} (hR : ow_RF R) (x : sp_CX I T V h H g G) (hT : st_ok T) (hV : st_now T V) (hy : sp_is y g = false) : sp_kc M_Fs_back (d + 12) [.ref 0, .int y] I R (some (.int 0)) 1 T V h H g G := by
  intro J Q hQ
  have hC := x.1
  apply t_Fs_back hR
  obtain ⟨y1, y2, y3, y4, y5, y6, y7, y8⟩ := id x.2.2
  have fin : ∀ I4 : Nat → Nat → Int32, I4 = ow_u I 0 15 1 → Q (some (.int 0)) (85, I4, J, R) := by
    intro I4 e4
    have f4 : sp_fr sp_cS sp_cE I I4 := sp_fr_ue e4 (by decide)
    exact hQ I4 J (sp_ca f4) (by rw [e4, ow_u_at]) (sp_CX_k x f4)
  rw [y6]
  rw [sp_is_lt (by omega)] at hy
  exact ⟨fun _ => fin, fun c => ⟨fun c2 => absurd (And.intro c c2) (of_decide_eq_false hy), fun _ => fin⟩⟩
theorem c_Mo_isNot {J : Nat → Nat → Int64} {Q : Option Value → ow_H → Prop} {v : Int32} (hR : ow_RF R) (hQ : ∀ I2 : Nat → Nat → Int32, sp_fr [] [(70, 11)] I I2 → I2 70 11 = v → Q (some (.int 0)) (85, I2, J, R)) : ow_AM M_Mo_isNot (d + 1) [.ref 70, .int v] (85, I, J, R) Q := by
  apply t_Mo_isNot hR
  intro I2 e2
  exact hQ I2 (sp_fr_ue e2 (by simp)) (by rw [e2, ow_u_at])
theorem km_year  (hR : ow_RF R) (x : sp_MX I T V h H g G) (hT : st_ok T) (hV : st_now T V) (hy : sp_y V < 999) : sp_kmo M_Mo_year (d + 12) [.ref 70] I R (some (.int (nI (sp_bs V (sp_n V)) &&& (nI (sp_bs (sp_age V (st_rt T) 1) (sp_n V)) ^^^ (-1))))) 0 T (sp_age V (st_rt T) 1) (sp_ph 16 h) (sp_pH 16 h H V) g G := by
  intro J Q hQ
  have hM := x.1
  apply t_Mo_year hR
  refine c_Mo_good hR ?_
  intro I2 g0 g1 g2
  refine ⟨I2, J, R, rfl, rfl, hR, ?_⟩
  have h2 := sp_MN_k hM (sp_mm g0)
  rw [h2.1]
  first | refine ⟨fun _ => ?_, fun c => absurd c (by decide)⟩ | refine ⟨fun c => absurd c (by decide), fun _ => ?_⟩
  have x2 := sp_MX_k x (sp_mm g0)
  have hy2 : I2 77 13 = nI (sp_y V) := h2.2.2.2.2
  rw [hy2]
  have hne : ¬ nI (sp_y V) = 999 := fun c => absurd ((nI_eq (a := sp_y V) (b := 999) (by omega) (by decide)).mp c) (by omega)
  refine ⟨fun _ => ?_, fun c => absurd c hne⟩
  refine c_note71 hR x2 hV ?_
  intro I3 k0 x3 q78
  refine ⟨I3, J, R, rfl, rfl, hR, ?_⟩
  have f3 : sp_fr sp_oS sp_oE I I3 := sp_fr_tr (sp_mo (sp_mm g0)) (sp_o3 k0)
  have t3 : I3 70 11 = 0 := by rw [k0 70 (by decide) 11 (by decide)]; exact g2
  have n6 := st_n6 hV
  have n3 := sp_MN_n x3.1 hV
  refine c_Mo_ruins hR n3 x3.1.2.2 hV.1 ⟨_, I3, J, R, rfl, rfl, hR, ?_⟩
  refine c_Mo_yearOn (V := V) (r := st_rt T) hR (by decide) n3 x3.1.2.1.2.1 hT.2.2.2.2.1 x3.1.2.2 n6 (fun f hf => (hV.1.2.2.2 f hf).2.1) ?_
  intro I4 m0 m1
  refine ⟨I4, J, R, rfl, rfl, hR, ?_⟩
  have f4 : sp_fr [77] [] I3 I4 := sp_frq m0
  have x4 := sp_MX_now x3 f4 m1
  refine c_Mo_ruins (V := sp_age V (st_rt T) 1) hR (by rw [m0 73 (by decide)]; exact n3) m1 (st_age1 hV hy).1 ⟨_, I4, J, R, rfl, rfl, hR, ?_⟩
  rw [show sp_n (sp_age V (st_rt T) 1) = sp_n V from rfl, sp_ru_bs _ n6, sp_ru_bs _ n6, sp_yrb (sp_n V) (by omega) (sp_bs V (sp_n V)) (sp_bs_lt n6 _ (Nat.le_refl _)) (sp_bs (sp_age V (st_rt T) 1) (sp_n V)) (sp_bs_lt (V := sp_age V (st_rt T) 1) n6 _ (Nat.le_refl _)) (sp_bs_pow _) (sp_bs_pow _)]
  exact hQ I4 J (sp_fr_tr f3 (sp_o4 f4)) (by rw [f4 70 (by decide) 11 (by decide)]; exact t3) x4
theorem km_year_z  (hR : ow_RF R) (x : sp_MX I T V h H g G) (hT : st_ok T) (hV : st_now T V) (hy : ¬ sp_y V < 999) : sp_kmo M_Mo_year (d + 12) [.ref 70] I R (some (.int (-1))) 3 T V h H g G := by
  intro J Q hQ
  have hM := x.1
  apply t_Mo_year hR
  refine c_Mo_good hR ?_
  intro I2 g0 g1 g2
  refine ⟨I2, J, R, rfl, rfl, hR, ?_⟩
  have h2 := sp_MN_k hM (sp_mm g0)
  rw [h2.1]
  first | refine ⟨fun _ => ?_, fun c => absurd c (by decide)⟩ | refine ⟨fun c => absurd c (by decide), fun _ => ?_⟩
  have x2 := sp_MX_k x (sp_mm g0)
  have hy2 : I2 77 13 = nI (sp_y V) := h2.2.2.2.2
  have hy3 := hV.2.2.1
  rw [hy2, show sp_y V = 999 by omega]
  refine ⟨fun c => absurd rfl c, fun _ => ?_⟩
  refine c_Mo_no hR ?_
  intro I3 n3 n4
  exact ⟨_, I3, J, R, rfl, rfl, hR, hQ I3 J (sp_mo (sp_fr_tr (sp_mm g0) (sp_mm1 n3))) n4 (sp_MX_k x2 (sp_mm1 n3))⟩
theorem km_mend {f : Nat} (hR : ow_RF R) (x : sp_MX I T V h H g G) (hT : st_ok T) (hV : st_now T V) (hf : f < sp_n V) (hs : sp_so V f ≠ sp_so (st_v T) f) : sp_kmo M_Mo_mend (d + 12) [.ref 70, .int (nI f)] I R (some (.int (nI (sp_so (st_v T) f)))) 0 T (sp_mnd T V f) (sp_ph 16 h) (sp_pH 16 h H V) g G := by
  intro J Q hQ
  have hM := x.1
  apply t_Mo_mend hR
  refine c_Mo_good hR ?_
  intro I2 g0 g1 g2
  refine ⟨I2, J, R, rfl, rfl, hR, ?_⟩
  have h2 := sp_MN_k hM (sp_mm g0)
  have hx : sp_is (nI f) (sp_n V) = true := decide_eq_true (by have := st_n6 hV; rw [nI_toInt (by omega)]; omega)
  refine c_Mo_isFolly hR h2.1 (sp_MN_n h2 hV) (by have := st_n6 hV; omega) ?_
  rw [hx]
  refine ⟨_, I2, J, R, rfl, rfl, hR, ?_⟩
  first | refine ⟨fun _ => ?_, fun c => absurd c (by decide)⟩ | refine ⟨fun c => absurd c (by decide), fun _ => ?_⟩
  have x2 := sp_MX_k x (sp_mm g0)
  have hfT : f < st_n T := by rw [← hV.2.1]; exact hf
  have n6 := st_n6 hV
  have d1 : I2 77 f = nI (sp_so V f) := (h2.2.2.1 f hf).1
  have d2 : I2 73 (8 + 2 * f) = nI (sp_so (st_v T) f) := (h2.2.1.2.2.2.2.2.2.1 f hfT).2
  have d3 := (hV.1.2.2.2 f hf).2.1
  have d4 := (hT.1.2.2.2 f hfT).2.1
  rw [show (7 : Int32) + 2 * nI f = nI (7 + 2 * f) from sp_ix, nI_1, sp_cl (n := f) (by omega), sp_cl (n := 7 + 2 * f + 1) (by omega), show 7 + 2 * f + 1 = 8 + 2 * f by omega, d1, d2, nI_eq (by omega) (by omega)]
  refine ⟨vp_in_nI (by omega) (by decide), vp_in_nI (by omega) (by decide), fun _ => ?_, fun c => absurd c hs⟩
  refine c_note71 hR x2 hV ?_
  intro I3 k0 x3 q78
  refine ⟨I3, J, R, rfl, rfl, hR, vp_in_nI (by omega) (by decide), ?_⟩
  have f3 : sp_fr sp_oS sp_oE I I3 := sp_fr_tr (sp_mo (sp_mm g0)) (sp_o3 k0)
  have t3 : I3 70 11 = 0 := by rw [k0 70 (by decide) 11 (by decide)]; exact g2
  intro I4 e4
  have f4 : sp_fr [77] [] I3 I4 := sp_fr_ue e4 (by simp)
  have S4 : sp_Mw I4 77 (sp_mnd T V f) := by
    obtain ⟨s1, s2, s3⟩ := x3.1.2.2
    refine ⟨fun k hk => ?_, by rw [e4, ow_u_nk (by omega)]; exact s2, by rw [e4, ow_u_nk (by omega)]; exact s3⟩
    have hk2 : k < sp_n V := hk
    rw [e4, ow_u_nk (k := f) (b := 6 + k) (by omega)]
    refine ⟨?_, (s1 k hk2).2⟩
    show _ = nI (if k = f then sp_so (st_v T) f else sp_so V k)
    by_cases q : k = f
    · rw [q, ow_u_at, if_pos rfl]
    · rw [ow_u_nk q, if_neg q]; exact (s1 k hk2).1
  exact hQ I4 J (sp_fr_tr f3 (sp_o4 f4)) (by rw [f4 70 (by decide) 11 (by decide)]; exact t3) (sp_MX_now x3 f4 S4)
theorem km_mend_z {f : Nat} (hR : ow_RF R) (x : sp_MX I T V h H g G) (hT : st_ok T) (hV : st_now T V) (hf : f < sp_n V) (hs : sp_so V f = sp_so (st_v T) f) : sp_kmo M_Mo_mend (d + 12) [.ref 70, .int (nI f)] I R (some (.int (-1))) 5 T V h H g G := by
  intro J Q hQ
  have hM := x.1
  apply t_Mo_mend hR
  refine c_Mo_good hR ?_
  intro I2 g0 g1 g2
  refine ⟨I2, J, R, rfl, rfl, hR, ?_⟩
  have h2 := sp_MN_k hM (sp_mm g0)
  have hx : sp_is (nI f) (sp_n V) = true := decide_eq_true (by have := st_n6 hV; rw [nI_toInt (by omega)]; omega)
  refine c_Mo_isFolly hR h2.1 (sp_MN_n h2 hV) (by have := st_n6 hV; omega) ?_
  rw [hx]
  refine ⟨_, I2, J, R, rfl, rfl, hR, ?_⟩
  first | refine ⟨fun _ => ?_, fun c => absurd c (by decide)⟩ | refine ⟨fun c => absurd c (by decide), fun _ => ?_⟩
  have x2 := sp_MX_k x (sp_mm g0)
  have hfT : f < st_n T := by rw [← hV.2.1]; exact hf
  have n6 := st_n6 hV
  have d1 : I2 77 f = nI (sp_so V f) := (h2.2.2.1 f hf).1
  have d2 : I2 73 (8 + 2 * f) = nI (sp_so (st_v T) f) := (h2.2.1.2.2.2.2.2.2.1 f hfT).2
  have d3 := (hV.1.2.2.2 f hf).2.1
  have d4 := (hT.1.2.2.2 f hfT).2.1
  rw [show (7 : Int32) + 2 * nI f = nI (7 + 2 * f) from sp_ix, nI_1, sp_cl (n := f) (by omega), sp_cl (n := 7 + 2 * f + 1) (by omega), show 7 + 2 * f + 1 = 8 + 2 * f by omega, d1, d2, nI_eq (by omega) (by omega)]
  refine ⟨vp_in_nI (by omega) (by decide), vp_in_nI (by omega) (by decide), fun c => absurd hs c, fun _ => ?_⟩
  refine c_Mo_no hR ?_
  intro I3 n3 n4
  exact ⟨_, I3, J, R, rfl, rfl, hR, hQ I3 J (sp_mo (sp_fr_tr (sp_mm g0) (sp_mm1 n3))) n4 (sp_MX_k x2 (sp_mm1 n3))⟩
theorem km_hire {f : Nat} (hR : ow_RF R) (x : sp_MX I T V h H g G) (hT : st_ok T) (hV : st_now T V) (hf : f < sp_n V) : sp_kmo M_Mo_hire (d + 12) [.ref 70, .int (nI f)] I R (some (.int (sp_jb ((sp_h (sp_hire V f)).testBit f)))) 0 T (sp_hire V f) (sp_ph 16 h) (sp_pH 16 h H V) g G := by
  intro J Q hQ
  have hM := x.1
  apply t_Mo_hire hR
  refine c_Mo_good hR ?_
  intro I2 g0 g1 g2
  refine ⟨I2, J, R, rfl, rfl, hR, ?_⟩
  have h2 := sp_MN_k hM (sp_mm g0)
  have hx : sp_is (nI f) (sp_n V) = true := decide_eq_true (by have := st_n6 hV; rw [nI_toInt (by omega)]; omega)
  refine c_Mo_isFolly hR h2.1 (sp_MN_n h2 hV) (by have := st_n6 hV; omega) ?_
  rw [hx]
  refine ⟨_, I2, J, R, rfl, rfl, hR, ?_⟩
  first | refine ⟨fun _ => ?_, fun c => absurd c (by decide)⟩ | refine ⟨fun c => absurd c (by decide), fun _ => ?_⟩
  have x2 := sp_MX_k x (sp_mm g0)
  have n6 := st_n6 hV
  refine c_note71 hR x2 hV ?_
  intro I3 k0 x3 q78
  refine ⟨I3, J, R, rfl, rfl, hR, ?_⟩
  have f3 : sp_fr sp_oS sp_oE I I3 := sp_fr_tr (sp_mo (sp_mm g0)) (sp_o3 k0)
  have t3 : I3 70 11 = 0 := by rw [k0 70 (by decide) 11 (by decide)]; exact g2
  have hh3 : I3 77 12 = nI (sp_h V) := x3.1.2.2.2.1
  obtain ⟨z1, z2⟩ := sp_xor (sp_h V) hV.1.2.2.1 f (by omega)
  rw [hh3, z1]
  intro I4 e4
  have f4 : sp_fr [77] [] I3 I4 := sp_fr_ue e4 (by simp)
  have v4 : I4 77 12 = nI (sp_h V ^^^ 2 ^ f) := by rw [e4, ow_u_at]
  have S4 : sp_Mw I4 77 (sp_hire V f) := by
    obtain ⟨s1, s2, s3⟩ := x3.1.2.2
    exact ⟨fun k hk => by rw [e4, ow_u_nk (b := k) (by have : k < sp_n V := hk; omega), ow_u_nk (b := 6 + k) (by have : k < sp_n V := hk; omega)]; exact s1 k hk, v4, by rw [e4, ow_u_nk (by decide)]; exact s3⟩
  rw [v4, sp_bitj z2 (by omega)]
  exact hQ I4 J (sp_fr_tr f3 (sp_o4 f4)) (by rw [f4 70 (by decide) 11 (by decide)]; exact t3) (sp_MX_now x3 f4 S4)
theorem km_send {f t : Nat} (hR : ow_RF R) (x : sp_MX I T V h H g G) (hT : st_ok T) (hV : st_now T V) (hf : f < sp_n V) (ht : t < sp_n V) (hs : sp_to V f ≠ sp_swt f t) : sp_kmo M_Mo_send (d + 12) [.ref 70, .int (nI f), .int (nI t)] I R (some (.int 1)) 0 T (sp_send V f (sp_swt f t)) (sp_ph 16 h) (sp_pH 16 h H V) g G := by
  intro J Q hQ
  have hM := x.1
  apply t_Mo_send hR
  refine c_Mo_good hR ?_
  intro I2 g0 g1 g2
  refine ⟨I2, J, R, rfl, rfl, hR, ?_⟩
  have h2 := sp_MN_k hM (sp_mm g0)
  have hx : sp_is (nI f) (sp_n V) = true := decide_eq_true (by have := st_n6 hV; rw [nI_toInt (by omega)]; omega)
  refine c_Mo_isFolly hR h2.1 (sp_MN_n h2 hV) (by have := st_n6 hV; omega) ?_
  rw [hx]
  refine ⟨_, I2, J, R, rfl, rfl, hR, ?_⟩
  first | refine ⟨fun _ => ?_, fun c => absurd c (by decide)⟩ | refine ⟨fun c => absurd c (by decide), fun _ => ?_⟩
  have x2 := sp_MX_k x (sp_mm g0)
  have n6 := st_n6 hV
  have hxt : sp_is (nI t) (sp_n V) = true := decide_eq_true (by rw [nI_toInt (by omega)]; omega)
  refine c_Mo_isFolly hR h2.1 (sp_MN_n h2 hV) (by omega) ?_
  rw [hxt]
  refine ⟨_, I2, J, R, rfl, rfl, hR, ?_⟩
  first | refine ⟨fun _ => ?_, fun c => absurd c (by decide)⟩ | refine ⟨fun c => absurd c (by decide), fun _ => ?_⟩
  have d1 : I2 77 (6 + f) = nI (sp_to V f) := (h2.2.2.1 f hf).2
  have d2 := (hV.1.2.2.2 f hf).2.2
  rw [show (6 : Int32) + nI f = nI (6 + f) from nI_add 6 f, sp_cl (by omega), d1, nI_1, nI_eq (a := t) (b := f) (by omega) (by omega), nI_eq (a := sp_to V f) (b := t + 1) (by omega) (by omega), sp_z (n := sp_to V f) (by omega)]
  have fin : ∀ v : Int32, v = nI (sp_swt f t) → ow_AM M_Mo_note (d + 11) [.ref 70] (85, I2, J, R) (fun r h' => ∃ (I11 : Nat → Nat → Int32) (J11 : Nat → Nat → Int64) (R11 : Nat → Nat → Option Nat), r = none ∧ h' = (85, I11, J11, R11) ∧ ow_RF R11 ∧ (vp_in (nI (6 + f)) 14 ∧ (∀ I12 : Nat → Nat → Int32, I12 = ow_u I11 77 (6 + f) v → Q (some (.int 1)) (85, I12, J11, R11)))) := by
    intro v hv
    refine c_note71 hR x2 hV ?_
    intro I3 k0 x3 q78
    refine ⟨I3, J, R, rfl, rfl, hR, vp_in_nI (by omega) (by decide), ?_⟩
    intro I4 e4
    rw [hv] at e4
    have f4 : sp_fr [77] [] I3 I4 := sp_fr_ue e4 (by simp)
    have S4 : sp_Mw I4 77 (sp_send V f (sp_swt f t)) := by
      obtain ⟨s1, s2, s3⟩ := x3.1.2.2
      refine ⟨fun k hk => ?_, by rw [e4, ow_u_nk (by omega)]; exact s2, by rw [e4, ow_u_nk (by omega)]; exact s3⟩
      have hk2 : k < sp_n V := hk
      rw [e4, ow_u_nk (k := 6 + f) (b := k) (by omega)]
      refine ⟨(s1 k hk2).1, ?_⟩
      show _ = nI (if k = f then sp_swt f t else sp_to V k)
      by_cases q : k = f
      · rw [q, ow_u_at, if_pos rfl]
      · rw [ow_u_nk (by omega), if_neg q]; exact (s1 k hk2).2
    exact hQ I4 J (sp_fr_tr (sp_fr_tr (sp_mo (sp_mm g0)) (sp_o3 k0)) (sp_o4 f4)) (by rw [f4 70 (by decide) 11 (by decide), k0 70 (by decide) 11 (by decide)]; exact g2) (sp_MX_now x3 f4 S4)
  unfold sp_swt at hs
  refine ⟨fun c => ⟨vp_in_nI (by omega) (by decide), fun _ => fin _ ?_, fun c2 => absurd c2 ?_⟩, fun c => ⟨vp_in_nI (by omega) (by decide), fun _ => fin _ ?_, fun c2 => absurd c2 ?_⟩⟩
  · unfold sp_swt; rw [if_neg c]
  · rw [if_neg c] at hs; exact hs
  · unfold sp_swt; rw [if_pos c]; rfl
  · rw [if_pos c] at hs; exact hs
theorem km_send_z {f t : Nat} (hR : ow_RF R) (x : sp_MX I T V h H g G) (hT : st_ok T) (hV : st_now T V) (hf : f < sp_n V) (ht : t < sp_n V) (hs : sp_to V f = sp_swt f t) : sp_kmo M_Mo_send (d + 12) [.ref 70, .int (nI f), .int (nI t)] I R (some (.int 0)) 5 T V h H g G := by
  intro J Q hQ
  have hM := x.1
  apply t_Mo_send hR
  refine c_Mo_good hR ?_
  intro I2 g0 g1 g2
  refine ⟨I2, J, R, rfl, rfl, hR, ?_⟩
  have h2 := sp_MN_k hM (sp_mm g0)
  have hx : sp_is (nI f) (sp_n V) = true := decide_eq_true (by have := st_n6 hV; rw [nI_toInt (by omega)]; omega)
  refine c_Mo_isFolly hR h2.1 (sp_MN_n h2 hV) (by have := st_n6 hV; omega) ?_
  rw [hx]
  refine ⟨_, I2, J, R, rfl, rfl, hR, ?_⟩
  first | refine ⟨fun _ => ?_, fun c => absurd c (by decide)⟩ | refine ⟨fun c => absurd c (by decide), fun _ => ?_⟩
  have x2 := sp_MX_k x (sp_mm g0)
  have n6 := st_n6 hV
  have hxt : sp_is (nI t) (sp_n V) = true := decide_eq_true (by rw [nI_toInt (by omega)]; omega)
  refine c_Mo_isFolly hR h2.1 (sp_MN_n h2 hV) (by omega) ?_
  rw [hxt]
  refine ⟨_, I2, J, R, rfl, rfl, hR, ?_⟩
  first | refine ⟨fun _ => ?_, fun c => absurd c (by decide)⟩ | refine ⟨fun c => absurd c (by decide), fun _ => ?_⟩
  have d1 : I2 77 (6 + f) = nI (sp_to V f) := (h2.2.2.1 f hf).2
  have d2 := (hV.1.2.2.2 f hf).2.2
  rw [show (6 : Int32) + nI f = nI (6 + f) from nI_add 6 f, sp_cl (by omega), d1, nI_1, nI_eq (a := t) (b := f) (by omega) (by omega), nI_eq (a := sp_to V f) (b := t + 1) (by omega) (by omega), sp_z (n := sp_to V f) (by omega)]
  unfold sp_swt at hs
  refine ⟨fun c => ⟨vp_in_nI (by omega) (by decide), fun c2 => absurd ?_ c2, fun _ => ?_⟩, fun c => ⟨vp_in_nI (by omega) (by decide), fun c2 => absurd ?_ c2, fun _ => ?_⟩⟩
  · rw [if_neg c] at hs; exact hs
  · refine c_Mo_isNot hR ?_
    intro I3 n3 n4
    exact ⟨_, I3, J, R, rfl, rfl, hR, Or.inl rfl, hQ I3 J (sp_mo (sp_fr_tr (sp_mm g0) (sp_mm1 n3))) n4 (sp_MX_k x2 (sp_mm1 n3))⟩
  · rw [if_pos c] at hs; exact hs
  · refine c_Mo_isNot hR ?_
    intro I3 n3 n4
    exact ⟨_, I3, J, R, rfl, rfl, hR, Or.inl rfl, hQ I3 J (sp_mo (sp_fr_tr (sp_mm g0) (sp_mm1 n3))) n4 (sp_MX_k x2 (sp_mm1 n3))⟩
theorem km_send_no2 {f : Nat} {y : Int32} (hR : ow_RF R) (x : sp_MX I T V h H g G) (hT : st_ok T) (hV : st_now T V) (hf : f < sp_n V) (hy : sp_is y (sp_n V) = false) : sp_kmo M_Mo_send (d + 12) [.ref 70, .int (nI f), .int y] I R (some (.int 0)) 1 T V h H g G := by
  intro J Q hQ
  have hM := x.1
  apply t_Mo_send hR
  refine c_Mo_good hR ?_
  intro I2 g0 g1 g2
  refine ⟨I2, J, R, rfl, rfl, hR, ?_⟩
  have h2 := sp_MN_k hM (sp_mm g0)
  have hx : sp_is (nI f) (sp_n V) = true := decide_eq_true (by have := st_n6 hV; rw [nI_toInt (by omega)]; omega)
  refine c_Mo_isFolly hR h2.1 (sp_MN_n h2 hV) (by have := st_n6 hV; omega) ?_
  rw [hx]
  refine ⟨_, I2, J, R, rfl, rfl, hR, ?_⟩
  first | refine ⟨fun _ => ?_, fun c => absurd c (by decide)⟩ | refine ⟨fun c => absurd c (by decide), fun _ => ?_⟩
  have x2 := sp_MX_k x (sp_mm g0)
  refine c_Mo_isFolly hR h2.1 (sp_MN_n h2 hV) (by have := st_n6 hV; omega) ?_
  rw [hy]
  refine ⟨_, I2, J, R, rfl, rfl, hR, ?_⟩
  first | refine ⟨fun _ => ?_, fun c => absurd rfl c⟩ | refine ⟨fun c => absurd rfl c, fun _ => ?_⟩
  refine c_Mo_isNot hR ?_
  intro I3 n3 n4
  exact ⟨_, I3, J, R, rfl, rfl, hR, Or.inl rfl, hQ I3 J (sp_mo (sp_fr_tr (sp_mm g0) (sp_mm1 n3))) n4 (sp_MX_k x2 (sp_mm1 n3))⟩
theorem km_mend_no {y : Int32} (hR : ow_RF R) (x : sp_MX I T V h H g G) (hT : st_ok T) (hV : st_now T V) (hx : sp_is y (sp_n V) = false) : sp_kmo M_Mo_mend (d + 12) [.ref 70, .int y] I R (some (.int (-1))) 1 T V h H g G := by
  intro J Q hQ
  have hM := x.1
  apply t_Mo_mend hR
  refine c_Mo_good hR ?_
  intro I2 g0 g1 g2
  refine ⟨I2, J, R, rfl, rfl, hR, ?_⟩
  have h2 := sp_MN_k hM (sp_mm g0)
  have x2 := sp_MX_k x (sp_mm g0)
  refine c_Mo_isFolly hR h2.1 (sp_MN_n h2 hV) (by have := st_n6 hV; omega) ?_
  rw [hx]
  refine ⟨_, I2, J, R, rfl, rfl, hR, ?_⟩
  first | refine ⟨fun _ => ?_, fun c => absurd rfl c⟩ | refine ⟨fun c => absurd rfl c, fun _ => ?_⟩
  refine c_Mo_no hR ?_
  intro I3 n3 n4
  exact ⟨_, I3, J, R, rfl, rfl, hR, hQ I3 J (sp_mo (sp_fr_tr (sp_mm g0) (sp_mm1 n3))) n4 (sp_MX_k x2 (sp_mm1 n3))⟩
theorem km_hire_no {y : Int32} (hR : ow_RF R) (x : sp_MX I T V h H g G) (hT : st_ok T) (hV : st_now T V) (hx : sp_is y (sp_n V) = false) : sp_kmo M_Mo_hire (d + 12) [.ref 70, .int y] I R (some (.int (-1))) 1 T V h H g G := by
  intro J Q hQ
  have hM := x.1
  apply t_Mo_hire hR
  refine c_Mo_good hR ?_
  intro I2 g0 g1 g2
  refine ⟨I2, J, R, rfl, rfl, hR, ?_⟩
  have h2 := sp_MN_k hM (sp_mm g0)
  have x2 := sp_MX_k x (sp_mm g0)
  refine c_Mo_isFolly hR h2.1 (sp_MN_n h2 hV) (by have := st_n6 hV; omega) ?_
  rw [hx]
  refine ⟨_, I2, J, R, rfl, rfl, hR, ?_⟩
  first | refine ⟨fun _ => ?_, fun c => absurd rfl c⟩ | refine ⟨fun c => absurd rfl c, fun _ => ?_⟩
  refine c_Mo_no hR ?_
  intro I3 n3 n4
  exact ⟨_, I3, J, R, rfl, rfl, hR, hQ I3 J (sp_mo (sp_fr_tr (sp_mm g0) (sp_mm1 n3))) n4 (sp_MX_k x2 (sp_mm1 n3))⟩
theorem km_send_no {y z : Int32} (hR : ow_RF R) (x : sp_MX I T V h H g G) (hT : st_ok T) (hV : st_now T V) (hx : sp_is y (sp_n V) = false) : sp_kmo M_Mo_send (d + 12) [.ref 70, .int y, .int z] I R (some (.int 0)) 1 T V h H g G := by
  intro J Q hQ
  have hM := x.1
  apply t_Mo_send hR
  refine c_Mo_good hR ?_
  intro I2 g0 g1 g2
  refine ⟨I2, J, R, rfl, rfl, hR, ?_⟩
  have h2 := sp_MN_k hM (sp_mm g0)
  have x2 := sp_MX_k x (sp_mm g0)
  refine c_Mo_isFolly hR h2.1 (sp_MN_n h2 hV) (by have := st_n6 hV; omega) ?_
  rw [hx]
  refine ⟨_, I2, J, R, rfl, rfl, hR, ?_⟩
  first | refine ⟨fun _ => ?_, fun c => absurd rfl c⟩ | refine ⟨fun c => absurd rfl c, fun _ => ?_⟩
  refine c_Mo_isNot hR ?_
  intro I3 n3 n4
  exact ⟨_, I3, J, R, rfl, rfl, hR, Or.inl rfl, hQ I3 J (sp_mo (sp_fr_tr (sp_mm g0) (sp_mm1 n3))) n4 (sp_MX_k x2 (sp_mm1 n3))⟩
theorem km_undo {k : Nat} (hR : ow_RF R) (x : sp_MX I T V h H g G) (hT : st_ok T) (hV : st_now T V) (hk : h = k + 1) (hh : st_hk T h H) : sp_kmo M_Mo_undo (d + 12) [.ref 70] I R (some (.int 1)) 0 T (H k) k H g G := by
  intro J Q hQ
  have hM := x.1
  apply t_Mo_undo hR
  refine c_Mo_good hR ?_
  intro I2 g0 g1 g2
  refine ⟨I2, J, R, rfl, rfl, hR, ?_⟩
  have x2 := sp_MX_k x (sp_mm g0)
  obtain ⟨y1, y2, y3, y4, y5, y6⟩ := id x2.2
  rw [y1, hk]
  refine ⟨fun _ I4 e4 => ?_, fun c => absurd c (nI_ne0 (by omega) (by omega))⟩
  rw [show nI (k + 1) - 1 = nI k from nI_pred k] at e4
  have v4 : I4 70 22 = nI k := by rw [e4, ow_u_at]
  have hW := hh k (by omega)
  have r : ∀ a, a ≠ 70 → I4 a = I2 a := fun a q => by rw [e4, ow_u_ne q]
  rw [v4, show (14 : Int32) * nI k = nI (14 * k) from pk_mul 14 k]
  refine c_Mo_copy (i := 14 * k) (j := 0) (n := 14) hR (by decide) (by decide) (by decide) (by decide) (by decide) (show 14 * k + 14 ≤ 224 by omega) (by decide) (by decide) (by decide) ?_
  intro I5 he xx
  have S5 : sp_Mw I5 77 (H k) := sp_cpB (n := st_n T) (by rw [← hV.2.1]; exact hV.1.1) hW.2.1 (sp_rwM_k (y3 k (by omega)) (r 78 (by decide))) xx
  have f5 : sp_fr [77, 78, 79] [(70, 22), (70, 23)] I2 I5 := sp_fr_tr (sp_fr_ue e4 (by simp)) (sp_fr_mono (E := []) (sp_frq he) (by decide) (by decide))
  refine ⟨I5, J, R, rfl, rfl, hR, hQ I5 J (sp_fr_tr (sp_mo (sp_mm g0)) (sp_o3 f5)) (by rw [f5 70 (by decide) 11 (by decide)]; exact g2) ?_⟩
  exact sp_MX_mk x2 f5 S5 (by rw [he 70 (by decide)]; exact v4) (by omega) (fun i hi => sp_rwM_k (y3 i (by omega)) (by rw [he 78 (by decide), r 78 (by decide)])) (by rw [he 70 (by decide), e4, ow_u_nk (by decide)]; exact y4) y5 (fun i hi => sp_rwM_k (y6 i hi) (by rw [he 79 (by decide), r 79 (by decide)]))
theorem km_undo_z  (hR : ow_RF R) (x : sp_MX I T V h H g G) (hT : st_ok T) (hV : st_now T V) (hk : h = 0) : sp_kmo M_Mo_undo (d + 12) [.ref 70] I R (some (.int 0)) 6 T V h H g G := by
  intro J Q hQ
  have hM := x.1
  apply t_Mo_undo hR
  refine c_Mo_good hR ?_
  intro I2 g0 g1 g2
  refine ⟨I2, J, R, rfl, rfl, hR, ?_⟩
  have x2 := sp_MX_k x (sp_mm g0)
  obtain ⟨y1, y2, y3, y4, y5, y6⟩ := id x2.2
  rw [y1, hk]
  refine ⟨fun c => absurd rfl c, fun _ => ?_⟩
  refine c_Mo_isNot hR ?_
  intro I3 n3 n4
  exact ⟨_, I3, J, R, rfl, rfl, hR, Or.inl rfl, hQ I3 J (sp_mo (sp_fr_tr (sp_mm g0) (sp_mm1 n3))) n4 (sp_MX_k x2 (sp_mm1 n3))⟩
theorem km_image  (hR : ow_RF R) (x : sp_MX I T V h H g G) (hT : st_ok T) (hV : st_now T V) (hg : g < 3) : sp_kmo M_Mo_image (d + 12) [.ref 70] I R (some (.int (nI g))) 0 T V h H (g + 1) (fun i => if i = g then V else G i) := by
  intro J Q hQ
  have hM := x.1
  apply t_Mo_image hR
  refine c_Mo_good hR ?_
  intro I2 g0 g1 g2
  refine ⟨I2, J, R, rfl, rfl, hR, ?_⟩
  have x2 := sp_MX_k x (sp_mm g0)
  obtain ⟨y1, y2, y3, y4, y5, y6⟩ := id x2.2
  rw [x2.1.1, y4]
  have hg3 : ¬ nI g = 3 := fun c => absurd ((nI_eq (a := g) (b := 3) (by omega) (by decide)).mp c) (by omega)
  refine ⟨fun _ => ⟨fun _ => ?_, fun c => absurd c hg3⟩, fun c => absurd c (by decide)⟩
  rw [show (14 : Int32) * nI g = nI (14 * g) from pk_mul 14 g]
  refine c_Mo_copy (i := 0) (j := 14 * g) (n := 14) hR (by decide) (by decide) (by decide) (by decide) (by decide) (by decide) (show 14 * g + 14 ≤ 42 by omega) (by decide) (by decide) ?_
  intro I3 he xx
  refine ⟨I3, J, R, rfl, rfl, hR, ?_⟩
  intro I4 e4
  rw [he 70 (by decide), y4, nI_1] at e4
  have n6 : st_n T ≤ 6 := by rw [← hV.2.1]; exact hV.1.1
  obtain ⟨w1, w2⟩ := sp_cpM (V := V) (n := st_n T) n6 hV.2.1 x2.1.2.2 xx
  have v4 : I4 70 23 = nI (g + 1) := by rw [e4, ow_u_at]
  have r : ∀ a, a ≠ 70 → I4 a = I3 a := fun a q => by rw [e4, ow_u_ne q]
  have f4 : sp_fr [77, 78, 79] [(70, 22), (70, 23)] I2 I4 := sp_fr_tr (sp_fr_mono (E := []) (sp_frq he) (by decide) (by decide)) (sp_fr_ue e4 (by simp))
  rw [v4, show nI (g + 1) - 1 = nI g from nI_pred g]
  refine hQ I4 J (sp_fr_tr (sp_mo (sp_mm g0)) (sp_o3 f4)) (by rw [f4 70 (by decide) 11 (by decide)]; exact g2) ?_
  refine sp_MX_mk x2 f4 (sp_Mw_k x2.1.2.2 (by rw [r 77 (by decide), he 77 (by decide)])) (by rw [e4, ow_u_nk (by decide), he 70 (by decide)]; exact y1) y2 (fun i hi => sp_rwM_k (y3 i hi) (by rw [r 78 (by decide), he 78 (by decide)])) v4 (by omega) (fun i hi => ?_)
  by_cases q : i = g
  · rw [if_pos q, q]
    exact sp_rwM_k w2 (r 79 (by decide))
  · rw [if_neg q]
    exact sp_rwM_s n6 (y6 i (by omega)) (fun t ht => by rw [r 79 (by decide), w1 _ (by omega)])
theorem km_image_z  (hR : ow_RF R) (x : sp_MX I T V h H g G) (hT : st_ok T) (hV : st_now T V) (hg : g = 3) : sp_kmo M_Mo_image (d + 12) [.ref 70] I R (some (.int (-1))) 3 T V h H g G := by
  intro J Q hQ
  have hM := x.1
  apply t_Mo_image hR
  refine c_Mo_good hR ?_
  intro I2 g0 g1 g2
  refine ⟨I2, J, R, rfl, rfl, hR, ?_⟩
  have x2 := sp_MX_k x (sp_mm g0)
  obtain ⟨y1, y2, y3, y4, y5, y6⟩ := id x2.2
  rw [x2.1.1, y4, hg]
  refine ⟨fun _ => ⟨fun c => absurd rfl c, fun _ => ?_⟩, fun c => absurd c (by decide)⟩
  refine c_Mo_no hR ?_
  intro I3 n3 n4
  exact ⟨_, I3, J, R, rfl, rfl, hR, hQ I3 J (sp_mo (sp_fr_tr (sp_mm g0) (sp_mm1 n3))) n4 (sp_MX_k x2 (sp_mm1 n3))⟩
theorem km_back {k : Nat} (hR : ow_RF R) (x : sp_MX I T V h H g G) (hT : st_ok T) (hV : st_now T V) (hk : k < g) (hh : st_hk T g G) : sp_kmo M_Mo_back (d + 12) [.ref 70, .int (nI k)] I R (some (.int 1)) 0 T (G k) 0 H g G := by
  intro J Q hQ
  have hM := x.1
  apply t_Mo_back hR
  refine c_Mo_good hR ?_
  intro I2 g0 g1 g2
  refine ⟨I2, J, R, rfl, rfl, hR, ?_⟩
  have x2 := sp_MX_k x (sp_mm g0)
  obtain ⟨y1, y2, y3, y4, y5, y6⟩ := id x2.2
  rw [y4]
  refine c_Mo_in hR (by omega) ?_
  have hx : sp_is (nI k) g = true := decide_eq_true (by rw [nI_toInt (by omega)]; omega)
  rw [hx]
  refine ⟨_, I2, J, R, rfl, rfl, hR, ?_⟩
  first | refine ⟨fun _ => ?_, fun c => absurd c (by decide)⟩ | refine ⟨fun c => absurd c (by decide), fun _ => ?_⟩
  rw [show (14 : Int32) * nI k = nI (14 * k) from pk_mul 14 k]
  have hW := hh k (by omega)
  refine c_Mo_copy (i := 14 * k) (j := 0) (n := 14) hR (by decide) (by decide) (by decide) (by decide) (by decide) (show 14 * k + 14 ≤ 42 by omega) (by decide) (by decide) (by decide) ?_
  intro I5 he xx
  have S5 : sp_Mw I5 77 (G k) := sp_cpB (n := st_n T) (by rw [← hV.2.1]; exact hV.1.1) hW.2.1 (y6 k hk) xx
  refine ⟨I5, J, R, rfl, rfl, hR, ?_⟩
  intro I6 e6
  have r : ∀ a, a ≠ 70 → I6 a = I5 a := fun a q => by rw [e6, ow_u_ne q]
  have f6 : sp_fr [77, 78, 79] [(70, 22), (70, 23)] I2 I6 := sp_fr_tr (sp_fr_mono (E := []) (sp_frq he) (by decide) (by decide)) (sp_fr_ue e6 (by simp))
  refine hQ I6 J (sp_fr_tr (sp_mo (sp_mm g0)) (sp_o3 f6)) (by rw [f6 70 (by decide) 11 (by decide)]; exact g2) ?_
  exact sp_MX_mk x2 f6 (sp_Mw_k S5 (r 77 (by decide))) (by rw [e6, ow_u_at]; rfl) (by omega) (fun i hi => absurd hi (Nat.not_lt_zero _)) (by rw [e6, ow_u_nk (by decide), he 70 (by decide)]; exact y4) y5 (fun i hi => sp_rwM_k (y6 i hi) (by rw [r 79 (by decide), he 79 (by decide)]))
theorem km_back_z {y : Int32} (hR : ow_RF R) (x : sp_MX I T V h H g G) (hT : st_ok T) (hV : st_now T V) (hy : sp_is y g = false) : sp_kmo M_Mo_back (d + 12) [.ref 70, .int y] I R (some (.int 0)) 1 T V h H g G := by
  intro J Q hQ
  have hM := x.1
  apply t_Mo_back hR
  refine c_Mo_good hR ?_
  intro I2 g0 g1 g2
  refine ⟨I2, J, R, rfl, rfl, hR, ?_⟩
  have x2 := sp_MX_k x (sp_mm g0)
  obtain ⟨y1, y2, y3, y4, y5, y6⟩ := id x2.2
  rw [y4]
  refine c_Mo_in hR (by omega) ?_
  rw [hy]
  refine ⟨_, I2, J, R, rfl, rfl, hR, ?_⟩
  first | refine ⟨fun _ => ?_, fun c => absurd rfl c⟩ | refine ⟨fun c => absurd rfl c, fun _ => ?_⟩
  refine c_Mo_isNot hR ?_
  intro I3 n3 n4
  exact ⟨_, I3, J, R, rfl, rfl, hR, Or.inl rfl, hQ I3 J (sp_mo (sp_fr_tr (sp_mm g0) (sp_mm1 n3))) n4 (sp_MX_k x2 (sp_mm1 n3))⟩
end ACTS
