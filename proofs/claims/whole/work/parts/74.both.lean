/-! Own rows, by program: both sides together. -/
def sp_C0 (I : Nat → Nat → Int32) : Prop := I 0 14 = 0 ∧ (I 2 0 = 0 ∧ I 2 1 = 0 ∧ I 2 3 = 0 ∧ I 2 7 = 0 ∧ I 2 9 = 0) ∧ sp_S I 29 sp_V0 ∧ I 66 2 = 0 ∧ I 68 2 = 0
def sp_M0 (I : Nat → Nat → Int32) : Prop := I 70 14 = 0 ∧ I 70 22 = 0 ∧ I 70 23 = 0
/-- the tape, on both sides -/
def sp_Gl (I : Nat → Nat → Int32) (t : Nat) (B : Nat → Nat) : Prop := t ≤ 900 ∧ (∀ j, B j < 256) ∧ I 0 1 = nI t ∧ I 70 2 = nI t ∧ (∀ j, j < t → I 1 j = sp_sb (B j)) ∧ ∀ j, j < t → I 71 j = nI (B j)
def sp_Tr (I : Nat → Nat → Int32) : Prop := I 0 15 = I 70 11 ∧ I 0 16 = I 70 9 ∧ (I 0 15 = 4 → I 0 17 = I 70 10) ∧ I 66 0 = 16 ∧ I 68 0 = 3
def sp_St (I : Nat → Nat → Int32) : Prop := (∃ (T : sp_T) (V : sp_V) (h : Nat) (H : Nat → sp_V) (g : Nat) (G : Nat → sp_V), st_ok T ∧ st_now T V ∧ st_hk T h H ∧ st_hk T g G ∧ sp_CX I T V h H g G ∧ sp_MX I T V h H g G) ∨ (sp_C0 I ∧ sp_M0 I)
def sp_W (I : Nat → Nat → Int32) : Prop := (∃ (t : Nat) (B : Nat → Nat), sp_Gl I t B) ∧ sp_Tr I ∧ sp_St I
section BOTH
variable {I I2 : Nat → Nat → Int32} {T : sp_T} {V : sp_V} {h g : Nat} {H G : Nat → sp_V}
theorem sp_CX_r (x : sp_CX I T V h H g G) (hf : ∀ a, a < 70 → I2 a = I a) : sp_CX I2 T V h H g G := by
  refine ⟨⟨by rw [hf 0 (by decide)]; exact x.1.1, sp_ct_k x.1.2.1 (fun a ha => hf a ?_), sp_S_kr x.1.2.2 (hf 29 (by decide)) (hf 30 (by decide)) (hf 31 (by decide)) (hf 32 (by decide))⟩, sp_FT_k x.2.1 (by rw [hf 54 (by decide)]) (hf 61 (by decide)), sp_CH_k x.2.2 (hf 66 (by decide)) (hf 67 (by decide)) (hf 68 (by decide)) (hf 69 (by decide))⟩
  simp only [List.mem_cons, List.not_mem_nil, or_false] at ha
  omega
theorem sp_MX_r (x : sp_MX I T V h H g G) (hf : ∀ a, 70 ≤ a → I2 a = I a) : sp_MX I2 T V h H g G := ⟨⟨by rw [hf 70 (by decide)]; exact x.1.1, sp_mt_k x.1.2.1 (hf 73 (by decide)) (hf 75 (by decide)), sp_Mw_k x.1.2.2 (hf 77 (by decide))⟩, sp_MH_k x.2 (by rw [hf 70 (by decide)]) (hf 78 (by decide)) (by rw [hf 70 (by decide)]) (hf 79 (by decide))⟩
theorem sp_C0_r (x : sp_C0 I) (hf : ∀ a, a < 70 → I2 a = I a) : sp_C0 I2 := by
  obtain ⟨x1, ⟨x2, x3, x4, x5, x6⟩, x7, x8, x9⟩ := x
  refine ⟨by rw [hf 0 (by decide)]; exact x1, ⟨?_, ?_, ?_, ?_, ?_⟩, sp_S_kr x7 (hf 29 (by decide)) (hf 30 (by decide)) (hf 31 (by decide)) (hf 32 (by decide)), by rw [hf 66 (by decide)]; exact x8, by rw [hf 68 (by decide)]; exact x9⟩
  all_goals rw [hf 2 (by decide)]
  all_goals assumption
theorem sp_C0_k (x : sp_C0 I) (hf : sp_fr sp_cS sp_cE I I2) : sp_C0 I2 := by
  obtain ⟨x1, ⟨x2, x3, x4, x5, x6⟩, x7, x8, x9⟩ := x
  have hr := sp_rows hf [2, 29, 30, 31, 32, 66, 68] (by decide)
  refine ⟨by rw [hf 0 (by decide) 14 (by decide)]; exact x1, ⟨?_, ?_, ?_, ?_, ?_⟩, sp_S_kr x7 (hr 29 (by decide)) (hr 30 (by decide)) (hr 31 (by decide)) (hr 32 (by decide)), by rw [hr 66 (by decide)]; exact x8, by rw [hr 68 (by decide)]; exact x9⟩
  all_goals rw [hr 2 (by decide)]
  all_goals assumption
theorem sp_M0_r (x : sp_M0 I) (hf : ∀ a, 70 ≤ a → I2 a = I a) : sp_M0 I2 := by
  unfold sp_M0 at x ⊢
  rw [hf 70 (by decide)]
  exact x
theorem sp_M0_k (x : sp_M0 I) (hf : sp_fr sp_mS sp_mE I I2) : sp_M0 I2 := ⟨by rw [hf 70 (by decide) 14 (by decide)]; exact x.1, by rw [hf 70 (by decide) 22 (by decide)]; exact x.2.1, by rw [hf 70 (by decide) 23 (by decide)]; exact x.2.2⟩
theorem sp_aS_hi (hf : sp_fr sp_aS sp_aE I I2) : ∀ a, 70 ≤ a → I2 a = I a := fun a ha => sp_fr_row hf (by unfold sp_aS; simp only [List.mem_cons, List.not_mem_nil, or_false]; omega) (by intro k; unfold sp_aE; simp only [List.mem_cons, List.not_mem_nil, or_false, Prod.mk.injEq]; omega)
theorem sp_oS_lo (hf : sp_fr sp_oS sp_oE I I2) : ∀ a, a < 70 → I2 a = I a := fun a ha => sp_fr_row hf (by unfold sp_oS; simp only [List.mem_cons, List.not_mem_nil, or_false]; omega) (by intro k; unfold sp_oE; simp only [List.mem_cons, List.not_mem_nil, or_false, Prod.mk.injEq]; omega)
theorem sp_Gl_a {t : Nat} {B : Nat → Nat} (x : sp_Gl I t B) (hf : sp_fr sp_aS sp_aE I I2) : sp_Gl I2 t B := by
  obtain ⟨x1, x2, x3, x4, x5, x6⟩ := x
  have hh := sp_aS_hi hf
  refine ⟨x1, x2, by rw [hf 0 (by decide) 1 (by decide)]; exact x3, by rw [hh 70 (by decide)]; exact x4, fun j hj => by rw [sp_fr_row hf (by decide) (by simp [sp_aE])]; exact x5 j hj, fun j hj => by rw [hh 71 (by decide)]; exact x6 j hj⟩
theorem sp_Gl_o {t : Nat} {B : Nat → Nat} (x : sp_Gl I t B) (hf : sp_fr sp_oS sp_oE I I2) : sp_Gl I2 t B := by
  obtain ⟨x1, x2, x3, x4, x5, x6⟩ := x
  have hh := sp_oS_lo hf
  refine ⟨x1, x2, by rw [hh 0 (by decide)]; exact x3, by rw [hf 70 (by decide) 2 (by decide)]; exact x4, fun j hj => by rw [hh 1 (by decide)]; exact x5 j hj, fun j hj => by rw [sp_fr_row hf (by decide) (by simp [sp_oE])]; exact x6 j hj⟩
/-- both sides' frames, one after the other, and the same TROUBLE -/
theorem sp_Tr_2 {I3 : Nat → Nat → Int32} {tr : Int32} (x : sp_Tr I) (f1 : sp_fr sp_aS sp_aE I I2) (v1 : I2 0 15 = tr) (f2 : sp_fr sp_oS sp_oE I2 I3) (v2 : I3 70 11 = tr) (h4 : tr ≠ 4) : sp_Tr I3 := by
  obtain ⟨x1, x2, x3, x4, x5⟩ := x
  have hi := sp_aS_hi f1
  have lo := sp_oS_lo f2
  refine ⟨?_, ?_, fun c => ?_, ?_, ?_⟩
  · rw [lo 0 (by decide), v1, v2]
  · rw [lo 0 (by decide), f1 0 (by decide) 16 (by decide), f2 70 (by decide) 9 (by decide), hi 70 (by decide)]; exact x2
  · rw [lo 0 (by decide), v1] at c; exact absurd c h4
  · rw [lo 66 (by decide), f1 66 (by decide) 0 (by decide)]; exact x4
  · rw [lo 68 (by decide), f1 68 (by decide) 0 (by decide)]; exact x5
end BOTH
/-- of a pair of methods: where a shire is told, where none is -/
def sp_P {α : Type} (wr : α → Value) (Mc Mm : ow_M) (ac : List Value) (T : sp_T) (V : sp_V) (h : Nat) (H : Nat → sp_V) (g : Nat) (G : Nat → sp_V) : Prop := ∃ (res : α) (tr : Int32) (V2 : sp_V) (h2 : Nat) (H2 : Nat → sp_V) (g2 : Nat) (G2 : Nat → sp_V), tr ≠ 4 ∧ st_now T V2 ∧ st_hk T h2 H2 ∧ st_hk T g2 G2 ∧ (∀ (d : Nat) (I : Nat → Nat → Int32) (R : Nat → Nat → Option Nat), ow_RF R → sp_CX I T V h H g G → sp_kc Mc (d + 12) (.ref 0 :: ac) I R (some (wr res)) tr T V2 h2 H2 g2 G2) ∧ ∀ (d : Nat) (I : Nat → Nat → Int32) (R : Nat → Nat → Option Nat), ow_RF R → sp_MX I T V h H g G → sp_kmo Mm (d + 12) (.ref 70 :: ac) I R (some (wr res)) tr T V2 h2 H2 g2 G2
def sp_P0 {α : Type} (wr : α → Value) (Mc Mm : ow_M) (ac : List Value) : Prop := ∃ (res : α) (tr : Int32), tr ≠ 4 ∧ (∀ (d : Nat) (I : Nat → Nat → Int32) (R : Nat → Nat → Option Nat), ow_RF R → sp_C0 I → sp_rc Mc (d + 12) (.ref 0 :: ac) I R (some (wr res)) tr) ∧ ∀ (d : Nat) (I : Nat → Nat → Int32) (R : Nat → Nat → Option Nat), ow_RF R → sp_M0 I → sp_rm Mm (d + 12) (.ref 70 :: ac) I R (some (wr res)) tr
def sp_PP {α : Type} (wr : α → Value) (Mc Mm : ow_M) (ac : List Value) : Prop := (∀ (T : sp_T) (V : sp_V) (h : Nat) (H : Nat → sp_V) (g : Nat) (G : Nat → sp_V), st_ok T → st_now T V → st_hk T h H → st_hk T g G → h ≤ 16 → g ≤ 3 → sp_P wr Mc Mm ac T V h H g G) ∧ sp_P0 wr Mc Mm ac
/-- one after the other: the same answer, and both states go on together -/
def sp_U {α : Type} (wr : α → Value) (Mc Mm : ow_M) (ac : List Value) : Prop := ∀ (d : Nat) (I : Nat → Nat → Int32) (J : Nat → Nat → Int64) (R : Nat → Nat → Option Nat) (Q : Option Value → ow_H → Prop), ow_RF R → sp_W I → (∀ (v : α) (I2 : Nat → Nat → Int32) (J2 : Nat → Nat → Int64) (R2 : Nat → Nat → Option Nat), ow_RF R2 → (∀ Q2 : Option Value → ow_H → Prop, (∀ (I3 : Nat → Nat → Int32) (J3 : Nat → Nat → Int64) (R3 : Nat → Nat → Option Nat), ow_RF R3 → sp_W I3 → Q2 (some (wr v)) (85, I3, J3, R3)) → ow_AM Mm (d + 12) (.ref 70 :: ac) (85, I2, J2, R2) Q2) → Q (some (wr v)) (85, I2, J2, R2)) → ow_AM Mc (d + 12) (.ref 0 :: ac) (85, I, J, R) Q
theorem sp_U_of {α : Type} {wr : α → Value} {Mc Mm : ow_M} {ac : List Value} (p : sp_PP wr Mc Mm ac) : sp_U wr Mc Mm ac := by
  intro d I J R Q hR hW hQ
  obtain ⟨⟨t, B, hG⟩, hT, hS⟩ := hW
  rcases hS with ⟨T, V, h, H, g, G, x1, x2, x3, x4, x5, x6⟩ | ⟨x1, x2⟩
  · obtain ⟨res, tr, V2, h2, H2, g2, G2, y0, y1, y2, y3, y4, y5⟩ := p.1 T V h H g G x1 x2 x3 x4 x5.2.2.2.2.1 x5.2.2.2.2.2.2.2.2.1
    refine y4 d I R hR x5 J Q ?_
    intro I2 J2 f2 v2 c2
    refine hQ res I2 J2 R hR ?_
    intro Q2 hQ2
    refine y5 d I2 R hR (sp_MX_r x6 (sp_aS_hi f2)) J2 Q2 ?_
    intro I3 J3 f3 v3 m3
    exact hQ2 I3 J3 R hR ⟨⟨t, B, sp_Gl_o (sp_Gl_a hG f2) f3⟩, sp_Tr_2 hT f2 v2 f3 v3 y0, Or.inl ⟨T, V2, h2, H2, g2, G2, x1, y1, y2, y3, sp_CX_r c2 (sp_oS_lo f3), m3⟩⟩
  · obtain ⟨res, tr, y0, y4, y5⟩ := p.2
    refine y4 d I R hR x1 J Q ?_
    intro I2 J2 f2 v2
    refine hQ res I2 J2 R hR ?_
    intro Q2 hQ2
    refine y5 d I2 R hR (sp_M0_r x2 (sp_aS_hi (sp_ca f2))) J2 Q2 ?_
    intro I3 J3 f3 v3
    exact hQ2 I3 J3 R hR ⟨⟨t, B, sp_Gl_o (sp_Gl_a hG (sp_ca f2)) (sp_mo f3)⟩, sp_Tr_2 hT (sp_ca f2) v2 (sp_mo f3) v3 y0, Or.inr ⟨sp_C0_r (sp_C0_k x1 f2) (sp_oS_lo (sp_mo f3)), sp_M0_k (sp_M0_r x2 (sp_aS_hi (sp_ca f2))) f3⟩⟩
theorem sp_P_r {α : Type} {wr : α → Value} {Mc Mm : ow_M} {ac : List Value} {T : sp_T} {V : sp_V} {h g : Nat} {H G : Nat → sp_V} (hV : st_now T V) (hh : st_hk T h H) (hg : st_hk T g G) (res : α) (tr : Int32) (h4 : tr ≠ 4) (a : ∀ (d : Nat) (I : Nat → Nat → Int32) (R : Nat → Nat → Option Nat), ow_RF R → sp_CN I T V → sp_FT I T → sp_rc Mc (d + 12) (.ref 0 :: ac) I R (some (wr res)) tr) (b : ∀ (d : Nat) (I : Nat → Nat → Int32) (R : Nat → Nat → Option Nat), ow_RF R → sp_MN I T V → sp_rm Mm (d + 12) (.ref 70 :: ac) I R (some (wr res)) tr) : sp_P wr Mc Mm ac T V h H g G := ⟨res, tr, V, h, H, g, G, h4, hV, hh, hg, fun d I R hR x => sp_kc_of x (a d I R hR x.1 x.2.1), fun d I R hR x => sp_kmo_of x (b d I R hR x.1)⟩
theorem sp_P_s {α : Type} {wr : α → Value} {Mc Mm : ow_M} {ac : List Value} {T : sp_T} {V V2 : sp_V} {h g h2 g2 : Nat} {H G H2 G2 : Nat → sp_V} (hV : st_now T V2) (hh : st_hk T h2 H2) (hg : st_hk T g2 G2) (res : α) (tr : Int32) (h4 : tr ≠ 4) (a : ∀ (d : Nat) (I : Nat → Nat → Int32) (R : Nat → Nat → Option Nat), ow_RF R → sp_CX I T V h H g G → sp_kc Mc (d + 12) (.ref 0 :: ac) I R (some (wr res)) tr T V2 h2 H2 g2 G2) (b : ∀ (d : Nat) (I : Nat → Nat → Int32) (R : Nat → Nat → Option Nat), ow_RF R → sp_MX I T V h H g G → sp_kmo Mm (d + 12) (.ref 70 :: ac) I R (some (wr res)) tr T V2 h2 H2 g2 G2) : sp_P wr Mc Mm ac T V h H g G := ⟨res, tr, V2, h2, H2, g2, G2, h4, hV, hh, hg, a, b⟩
theorem sp_P_0 {α : Type} {wr : α → Value} {Mc Mm : ow_M} {ac : List Value} (res : α) (tr : Int32) (h4 : tr ≠ 4) (a : ∀ (d : Nat) (I : Nat → Nat → Int32) (R : Nat → Nat → Option Nat), ow_RF R → I 0 14 = 0 → sp_rc Mc (d + 12) (.ref 0 :: ac) I R (some (wr res)) tr) (b : ∀ (d : Nat) (I : Nat → Nat → Int32) (R : Nat → Nat → Option Nat), ow_RF R → I 70 14 = 0 → sp_rm Mm (d + 12) (.ref 70 :: ac) I R (some (wr res)) tr) : sp_P0 wr Mc Mm ac := ⟨res, tr, h4, fun d I R hR x => a d I R hR x.1, fun d I R hR x => b d I R hR x.1⟩
theorem st_now_n {T : sp_T} {V : sp_V} (hV : st_now T V) : sp_n V ≤ 6 := hV.1.1
theorem p_answers {x : Int32} {y : Bool} : sp_PP Value.int M_Fs_answers M_Mo_answers [.int x, .int (sp_jb y)] := by
  refine ⟨?_, sp_P_0 _ _ (by decide) (fun d I R hR x => zc_answers hR x) (fun d I R hR x => zm_answers hR x)⟩
  intro T V h H g G hT hV hh hg l16 l3
  cases hxx : sp_is x (sp_n V) with
  | false =>
    exact sp_P_r hV hh hg _ _ (by decide) (fun d I R hR hC hF => rc_answers_no hR hC hT hV hxx) (fun d I R hR hM => rm_answers_no hR hM hT hV hxx)
  | true =>
    obtain ⟨f, hf, rfl⟩ := sp_is_nI hxx
    exact sp_P_r hV hh hg _ _ (by decide) (fun d I R hR hC hF => rc_answers hR hC hT hV hf) (fun d I R hR hM => rm_answers hR hM hT hV hf)
theorem p_signs {x : Int32} {y : Bool} : sp_PP Value.int M_Fs_signs M_Mo_signs [.int x, .int (sp_jb y)] := by
  refine ⟨?_, sp_P_0 _ _ (by decide) (fun d I R hR x => zc_signs hR x) (fun d I R hR x => zm_signs hR x)⟩
  intro T V h H g G hT hV hh hg l16 l3
  cases hxx : sp_is x (sp_n V) with
  | false =>
    exact sp_P_r hV hh hg _ _ (by decide) (fun d I R hR hC hF => rc_signs_no hR hC hT hV hxx) (fun d I R hR hM => rm_signs_no hR hM hT hV hxx)
  | true =>
    obtain ⟨f, hf, rfl⟩ := sp_is_nI hxx
    exact sp_P_r hV hh hg _ _ (by decide) (fun d I R hR hC hF => rc_signs hR hC hT hV hf) (fun d I R hR hM => rm_signs hR hM hT hV hf)
theorem p_signer {x : Int32} {y : Bool} : sp_PP Value.int M_Fs_signer M_Mo_signer [.int x, .int (sp_jb y)] := by
  refine ⟨?_, sp_P_0 _ _ (by decide) (fun d I R hR x => zc_signer hR x) (fun d I R hR x => zm_signer hR x)⟩
  intro T V h H g G hT hV hh hg l16 l3
  cases hxx : sp_is x (sp_n V) with
  | false =>
    exact sp_P_r hV hh hg _ _ (by decide) (fun d I R hR hC hF => rc_signer_no hR hC hT hV hxx) (fun d I R hR hM => rm_signer_no hR hM hT hV hxx)
  | true =>
    obtain ⟨f, hf, rfl⟩ := sp_is_nI hxx
    exact sp_P_r hV hh hg _ _ (by decide) (fun d I R hR hC hF => rc_signer hR hC hT hV hf) (fun d I R hR hM => rm_signer hR hM hT hV hf)
theorem p_course {x : Int32} {y : Bool} : sp_PP Value.int M_Fs_course M_Mo_course [.int x, .int (sp_jb y)] := by
  refine ⟨?_, sp_P_0 _ _ (by decide) (fun d I R hR x => zc_course hR x) (fun d I R hR x => zm_course hR x)⟩
  intro T V h H g G hT hV hh hg l16 l3
  cases hxx : sp_is x (sp_n V) with
  | false =>
    exact sp_P_r hV hh hg _ _ (by decide) (fun d I R hR hC hF => rc_course_no hR hC hT hV hxx) (fun d I R hR hM => rm_course_no hR hM hT hV hxx)
  | true =>
    obtain ⟨f, hf, rfl⟩ := sp_is_nI hxx
    exact sp_P_r hV hh hg _ _ (by decide) (fun d I R hR hC hF => rc_course hR hC hT hV hf) (fun d I R hR hM => rm_course hR hM hT hV hf)
theorem p_folly {x : Int32} {y : Int32} : sp_PP Value.int M_Fs_folly M_Mo_folly [.int x, .int y] := by
  refine ⟨?_, sp_P_0 _ _ (by decide) (fun d I R hR x => zc_folly hR x) (fun d I R hR x => zm_folly hR x)⟩
  intro T V h H g G hT hV hh hg l16 l3
  cases hxx : sp_is x (sp_n V) with
  | false =>
    exact sp_P_r hV hh hg _ _ (by decide) (fun d I R hR hC hF => rc_folly_no hR hC hT hV hxx) (fun d I R hR hM => rm_folly_no hR hM hT hV hxx)
  | true =>
    obtain ⟨f, hf, rfl⟩ := sp_is_nI hxx
    cases hxy : sp_is y 6 with
    | false =>
      exact sp_P_r hV hh hg _ _ (by decide) (fun d I R hR hC hF => rc_folly_w hR hC hT hV hf hxy) (fun d I R hR hM => rm_folly_w hR hM hT hV hf hxy)
    | true =>
      obtain ⟨k, hk, rfl⟩ := sp_is_nI hxy
      exact sp_P_r hV hh hg _ _ (by decide) (fun d I R hR hC hF => rc_folly hR hC hT hV hf hk) (fun d I R hR hM => rm_folly hR hM hT hV hf hk)
theorem p_estate {x : Int32} {y : Int32} : sp_PP Value.int M_Fs_estate M_Mo_estate [.int x, .int y] := by
  refine ⟨?_, sp_P_0 _ _ (by decide) (fun d I R hR x => zc_estate hR x) (fun d I R hR x => zm_estate hR x)⟩
  intro T V h H g G hT hV hh hg l16 l3
  cases hxx : sp_is x (st_ne T) with
  | false =>
    exact sp_P_r hV hh hg _ _ (by decide) (fun d I R hR hC hF => rc_estate_no hR hC hT hV hxx) (fun d I R hR hM => rm_estate_no hR hM hT hV hxx)
  | true =>
    obtain ⟨f, hf, rfl⟩ := sp_is_nI hxx
    cases hxy : sp_is y 3 with
    | false =>
      exact sp_P_r hV hh hg _ _ (by decide) (fun d I R hR hC hF => rc_estate_w hR hC hT hV hf hxy) (fun d I R hR hM => rm_estate_w hR hM hT hV hf hxy)
    | true =>
      obtain ⟨k, hk, rfl⟩ := sp_is_nI hxy
      exact sp_P_r hV hh hg _ _ (by decide) (fun d I R hR hC hF => rc_estate hR hC hT hV hf hk) (fun d I R hR hM => rm_estate hR hM hT hV hf hk)
theorem p_courseAt {x : Int32} {y : Bool} {z : Int32} : sp_PP Value.int M_Fs_courseAt M_Mo_courseAt [.int x, .int (sp_jb y), .int z] := by
  refine ⟨?_, sp_P_0 _ _ (by decide) (fun d I R hR x => zc_courseAt hR x) (fun d I R hR x => zm_courseAt hR x)⟩
  intro T V h H g G hT hV hh hg l16 l3
  cases hxx : sp_is x (sp_n V) with
  | false =>
    exact sp_P_r hV hh hg _ _ (by decide) (fun d I R hR hC hF => rc_courseAt_no hR hC hT hV hxx) (fun d I R hR hM => rm_courseAt_no hR hM hT hV hxx)
  | true =>
    obtain ⟨f, hf, rfl⟩ := sp_is_nI hxx
    cases hxz : sp_is z (sp_go V 6 0 f y).1.length with
    | false =>
      exact sp_P_r hV hh hg _ _ (by decide) (fun d I R hR hC hF => rc_courseAt_i hR hC hT hV hf hxz) (fun d I R hR hM => rm_courseAt_i hR hM hT hV hf hxz)
    | true =>
      obtain ⟨k, hk, rfl⟩ := sp_is_nI hxz
      exact sp_P_r hV hh hg _ _ (by decide) (fun d I R hR hC hF => rc_courseAt hR hC hT hV hf hk) (fun d I R hR hM => rm_courseAt hR hM hT hV hf hk)
theorem p_served : sp_PP Value.int M_Fs_served M_Mo_served [] := by
  refine ⟨?_, sp_P_0 _ _ (by decide) (fun d I R hR x => zc_served hR x) (fun d I R hR x => zm_served hR x)⟩
  intro T V h H g G hT hV hh hg l16 l3
  exact sp_P_r hV hh hg _ _ (by decide) (fun d I R hR hC hF => rc_served hR hC hT hV) (fun d I R hR hM => rm_served hR hM hT hV)
theorem p_rounds : sp_PP Value.int M_Fs_rounds M_Mo_rounds [] := by
  refine ⟨?_, sp_P_0 _ _ (by decide) (fun d I R hR x => zc_rounds hR x) (fun d I R hR x => zm_rounds hR x)⟩
  intro T V h H g G hT hV hh hg l16 l3
  exact sp_P_r hV hh hg _ _ (by decide) (fun d I R hR hC hF => rc_rounds hR hC hT hV) (fun d I R hR hM => rm_rounds hR hM hT hV)
theorem p_idle : sp_PP Value.int M_Fs_idle M_Mo_idle [] := by
  refine ⟨?_, sp_P_0 _ _ (by decide) (fun d I R hR x => zc_idle hR x) (fun d I R hR x => zm_idle hR x)⟩
  intro T V h H g G hT hV hh hg l16 l3
  exact sp_P_r hV hh hg _ _ (by decide) (fun d I R hR hC hF => rc_idle hR hC hT hV) (fun d I R hR hM => rm_idle hR hM hT hV)
theorem p_widest : sp_PP Value.int M_Fs_widest M_Mo_widest [] := by
  refine ⟨?_, sp_P_0 _ _ (by decide) (fun d I R hR x => zc_widest hR x) (fun d I R hR x => zm_widest hR x)⟩
  intro T V h H g G hT hV hh hg l16 l3
  exact sp_P_r hV hh hg _ _ (by decide) (fun d I R hR hC hF => rc_widest hR hC hT hV) (fun d I R hR hM => rm_widest hR hM hT hV)
theorem p_change : sp_PP Value.int M_Fs_change M_Mo_change [] := by
  refine ⟨?_, sp_P_0 _ _ (by decide) (fun d I R hR x => zc_change hR x) (fun d I R hR x => zm_change hR x)⟩
  intro T V h H g G hT hV hh hg l16 l3
  exact sp_P_r hV hh hg _ _ (by decide) (fun d I R hR hC hF => rc_change hR hC hT hV) (fun d I R hR hM => rm_change hR hM hT hV)
theorem p_changeServes : sp_PP Value.int M_Fs_changeServes M_Mo_changeServes [] := by
  refine ⟨?_, sp_P_0 _ _ (by decide) (fun d I R hR x => zc_changeServes hR x) (fun d I R hR x => zm_changeServes hR x)⟩
  intro T V h H g G hT hV hh hg l16 l3
  exact sp_P_r hV hh hg _ _ (by decide) (fun d I R hR hC hF => rc_changeServes hR hC hT hV) (fun d I R hR hM => rm_changeServes hR hM hT hV)
theorem p_keep : sp_PP Value.int M_Fs_keep M_Mo_keep [] := by
  refine ⟨?_, sp_P_0 _ _ (by decide) (fun d I R hR x => zc_keep hR x) (fun d I R hR x => zm_keep hR x)⟩
  intro T V h H g G hT hV hh hg l16 l3
  exact sp_P_r hV hh hg _ _ (by decide) (fun d I R hR hC hF => rc_keep hR hC hT hV) (fun d I R hR hM => rm_keep hR hM hT hV)
theorem p_pillar : sp_PP Value.int M_Fs_pillar M_Mo_pillar [] := by
  refine ⟨?_, sp_P_0 _ _ (by decide) (fun d I R hR x => zc_pillar hR x) (fun d I R hR x => zm_pillar hR x)⟩
  intro T V h H g G hT hV hh hg l16 l3
  exact sp_P_r hV hh hg _ _ (by decide) (fun d I R hR hC hF => rc_pillar hR hC hT hV) (fun d I R hR hM => rm_pillar hR hM hT hV)
theorem p_rule : sp_PP Value.int M_Fs_rule M_Mo_rule [] := by
  refine ⟨?_, sp_P_0 _ _ (by decide) (fun d I R hR x => zc_rule hR x) (fun d I R hR x => zm_rule hR x)⟩
  intro T V h H g G hT hV hh hg l16 l3
  exact sp_P_r hV hh hg _ _ (by decide) (fun d I R hR hC hF => rc_rule hR hC hT hV) (fun d I R hR hM => rm_rule hR hM hT hV)
theorem p_fits : sp_PP Value.int M_Fs_fits M_Mo_fits [] := by
  refine ⟨?_, sp_P_0 _ _ (by decide) (fun d I R hR x => zc_fits hR x) (fun d I R hR x => zm_fits hR x)⟩
  intro T V h H g G hT hV hh hg l16 l3
  exact sp_P_r hV hh hg _ _ (by decide) (fun d I R hR hC hF => rc_fits hR hC hT hV hF) (fun d I R hR hM => rm_fits hR hM hT hV)
theorem p_tryLetter : sp_PP Value.int M_Fs_tryLetter M_Mo_tryLetter [] := by
  refine ⟨?_, sp_P_0 _ _ (by decide) (fun d I R hR x => zc_tryLetter hR x) (fun d I R hR x => zm_tryLetter hR x)⟩
  intro T V h H g G hT hV hh hg l16 l3
  exact sp_P_r hV hh hg _ _ (by decide) (fun d I R hR hC hF => rc_tryLetter hR hC hT hV hF) (fun d I R hR hM => rm_tryLetter hR hM hT hV)
theorem p_tryLeaves : sp_PP Value.int M_Fs_tryLeaves M_Mo_tryLeaves [] := by
  refine ⟨?_, sp_P_0 _ _ (by decide) (fun d I R hR x => zc_tryLeaves hR x) (fun d I R hR x => zm_tryLeaves hR x)⟩
  intro T V h H g G hT hV hh hg l16 l3
  exact sp_P_r hV hh hg _ _ (by decide) (fun d I R hR hC hF => rc_tryLeaves hR hC hT hV hF) (fun d I R hR hM => rm_tryLeaves hR hM hT hV)
theorem p_judge : sp_PP Value.int M_Fs_judge M_Mo_judge [] := by
  refine ⟨?_, sp_P_0 _ _ (by decide) (fun d I R hR x => zc_judge hR x) (fun d I R hR x => zm_judge hR x)⟩
  intro T V h H g G hT hV hh hg l16 l3
  exact sp_P_r hV hh hg _ _ (by decide) (fun d I R hR hC hF => rc_judge hR hC hT hV hF) (fun d I R hR hM => rm_judge hR hM hT hV)
theorem p_serves {x : Int32} : sp_PP Value.int M_Fs_serves M_Mo_serves [.int x] := by
  refine ⟨?_, sp_P_0 _ _ (by decide) (fun d I R hR x => zc_serves hR x) (fun d I R hR x => zm_serves hR x)⟩
  intro T V h H g G hT hV hh hg l16 l3
  cases hxx : sp_is x (st_ne T) with
  | false =>
    exact sp_P_r hV hh hg _ _ (by decide) (fun d I R hR hC hF => rc_serves_no hR hC hT hV hxx) (fun d I R hR hM => rm_serves_no hR hM hT hV hxx)
  | true =>
    obtain ⟨f, hf, rfl⟩ := sp_is_nI hxx
    exact sp_P_r hV hh hg _ _ (by decide) (fun d I R hR hC hF => rc_serves hR hC hT hV hf) (fun d I R hR hM => rm_serves hR hM hT hV hf)
theorem p_best {x : Int32} : sp_PP Value.int M_Fs_best M_Mo_best [.int x] := by
  refine ⟨?_, sp_P_0 _ _ (by decide) (fun d I R hR x => zc_best hR x) (fun d I R hR x => zm_best hR x)⟩
  intro T V h H g G hT hV hh hg l16 l3
  cases hxx : sp_is x (st_ne T) with
  | false =>
    exact sp_P_r hV hh hg _ _ (by decide) (fun d I R hR hC hF => rc_best_no hR hC hT hV hxx) (fun d I R hR hM => rm_best_no hR hM hT hV hxx)
  | true =>
    obtain ⟨f, hf, rfl⟩ := sp_is_nI hxx
    exact sp_P_r hV hh hg _ _ (by decide) (fun d I R hR hC hF => rc_best hR hC hT hV hf) (fun d I R hR hM => rm_best hR hM hT hV hf)
theorem p_shortest {x : Int32} : sp_PP Value.int M_Fs_shortest M_Mo_shortest [.int x] := by
  refine ⟨?_, sp_P_0 _ _ (by decide) (fun d I R hR x => zc_shortest hR x) (fun d I R hR x => zm_shortest hR x)⟩
  intro T V h H g G hT hV hh hg l16 l3
  cases hxx : sp_is x (st_ne T) with
  | false =>
    exact sp_P_r hV hh hg _ _ (by decide) (fun d I R hR hC hF => rc_shortest_no hR hC hT hV hxx) (fun d I R hR hM => rm_shortest_no hR hM hT hV hxx)
  | true =>
    obtain ⟨f, hf, rfl⟩ := sp_is_nI hxx
    exact sp_P_r hV hh hg _ _ (by decide) (fun d I R hR hC hF => rc_shortest hR hC hT hV hf) (fun d I R hR hM => rm_shortest hR hM hT hV hf)
theorem p_firstServed {x : Int32} : sp_PP Value.int M_Fs_firstServed M_Mo_firstServed [.int x] := by
  refine ⟨?_, sp_P_0 _ _ (by decide) (fun d I R hR x => zc_firstServed hR x) (fun d I R hR x => zm_firstServed hR x)⟩
  intro T V h H g G hT hV hh hg l16 l3
  cases hxx : sp_is x (st_ne T) with
  | false =>
    exact sp_P_r hV hh hg _ _ (by decide) (fun d I R hR hC hF => rc_firstServed_no hR hC hT hV hxx) (fun d I R hR hM => rm_firstServed_no hR hM hT hV hxx)
  | true =>
    obtain ⟨f, hf, rfl⟩ := sp_is_nI hxx
    exact sp_P_r hV hh hg _ _ (by decide) (fun d I R hR hC hF => rc_firstServed hR hC hT hV hf) (fun d I R hR hM => rm_firstServed hR hM hT hV hf)
theorem p_lastServed {x : Int32} : sp_PP Value.int M_Fs_lastServed M_Mo_lastServed [.int x] := by
  refine ⟨?_, sp_P_0 _ _ (by decide) (fun d I R hR x => zc_lastServed hR x) (fun d I R hR x => zm_lastServed hR x)⟩
  intro T V h H g G hT hV hh hg l16 l3
  cases hxx : sp_is x (st_ne T) with
  | false =>
    exact sp_P_r hV hh hg _ _ (by decide) (fun d I R hR hC hF => rc_lastServed_no hR hC hT hV hxx) (fun d I R hR hM => rm_lastServed_no hR hM hT hV hxx)
  | true =>
    obtain ⟨f, hf, rfl⟩ := sp_is_nI hxx
    exact sp_P_r hV hh hg _ _ (by decide) (fun d I R hR hC hF => rc_lastServed hR hC hT hV hf) (fun d I R hR hM => rm_lastServed hR hM hT hV hf)
theorem p_servedIf {x : Int32} {y : Int32} : sp_PP Value.int M_Fs_servedIf M_Mo_servedIf [.int x, .int y] := by
  refine ⟨?_, sp_P_0 _ _ (by decide) (fun d I R hR x => zc_servedIf hR x) (fun d I R hR x => zm_servedIf hR x)⟩
  intro T V h H g G hT hV hh hg l16 l3
  cases hxx : sp_is x (sp_n V) with
  | false =>
    exact sp_P_r hV hh hg _ _ (by decide) (fun d I R hR hC hF => rc_servedIf_no hR hC hT hV hxx) (fun d I R hR hM => rm_servedIf_no hR hM hT hV hxx)
  | true =>
    obtain ⟨f, hf, rfl⟩ := sp_is_nI hxx
    cases hxy : sp_is y (sp_n V) with
    | false =>
      exact sp_P_r hV hh hg _ _ (by decide) (fun d I R hR hC hF => rc_servedIf_no2 hR hC hT hV hf hxy) (fun d I R hR hM => rm_servedIf_no2 hR hM hT hV hf hxy)
    | true =>
      obtain ⟨t, ht, rfl⟩ := sp_is_nI hxy
      exact sp_P_r hV hh hg _ _ (by decide) (fun d I R hR hC hF => rc_servedIf hR hC hT hV hf ht) (fun d I R hR hM => rm_servedIf hR hM hT hV hf ht)
theorem p_signsIn {x : Int32} {y : Bool} {z : Int32} : sp_PP Value.int M_Fs_signsIn M_Mo_signsIn [.int x, .int (sp_jb y), .int z] := by
  refine ⟨?_, sp_P_0 _ _ (by decide) (fun d I R hR x => zc_signsIn hR x) (fun d I R hR x => zm_signsIn hR x)⟩
  intro T V h H g G hT hV hh hg l16 l3
  cases hxx : sp_is x (sp_n V) with
  | false =>
    exact sp_P_r hV hh hg _ _ (by decide) (fun d I R hR hC hF => rc_signsIn_no hR hC hT hV hxx) (fun d I R hR hM => rm_signsIn_no hR hM hT hV hxx)
  | true =>
    obtain ⟨f, hf, rfl⟩ := sp_is_nI hxx
    cases hbz : sp_bt z 0 60 with
    | false =>
      exact sp_P_r hV hh hg _ _ (by decide) (fun d I R hR hC hF => rc_signsIn_z hR hC hT hV hf hbz) (fun d I R hR hM => rm_signsIn_z hR hM hT hV hf hbz)
    | true =>
      obtain ⟨n, hn1, hn2, rfl⟩ := sp_bt_nI hbz
      exact sp_P_r hV hh hg _ _ (by decide) (fun d I R hR hC hF => rc_signsIn hR hC hT hV hf hn2) (fun d I R hR hM => rm_signsIn hR hM hT hV hf hn2)
theorem p_servedIn {z : Int32} : sp_PP Value.int M_Fs_servedIn M_Mo_servedIn [.int z] := by
  refine ⟨?_, sp_P_0 _ _ (by decide) (fun d I R hR x => zc_servedIn hR x) (fun d I R hR x => zm_servedIn hR x)⟩
  intro T V h H g G hT hV hh hg l16 l3
  cases hbz : sp_bt z 0 60 with
  | false =>
    exact sp_P_r hV hh hg _ _ (by decide) (fun d I R hR hC hF => rc_servedIn_z hR hC hT hV hbz) (fun d I R hR hM => rm_servedIn_z hR hM hT hV hbz)
  | true =>
    obtain ⟨n, hn1, hn2, rfl⟩ := sp_bt_nI hbz
    exact sp_P_r hV hh hg _ _ (by decide) (fun d I R hR hC hF => rc_servedIn hR hC hT hV hn2) (fun d I R hR hM => rm_servedIn hR hM hT hV hn2)
theorem p_plan {z : Int32} : sp_PP Value.int M_Fs_plan M_Mo_plan [.int z] := by
  refine ⟨?_, sp_P_0 _ _ (by decide) (fun d I R hR x => zc_plan hR x) (fun d I R hR x => zm_plan hR x)⟩
  intro T V h H g G hT hV hh hg l16 l3
  cases hbz : sp_bt z 1 4 with
  | false =>
    exact sp_P_r hV hh hg _ _ (by decide) (fun d I R hR hC hF => rc_plan_z hR hC hT hV hbz) (fun d I R hR hM => rm_plan_z hR hM hT hV hbz)
  | true =>
    obtain ⟨n, hn1, hn2, rfl⟩ := sp_bt_nI hbz
    exact sp_P_r hV hh hg _ _ (by decide) (fun d I R hR hC hF => rc_plan hR hC hT hV hn1 hn2) (fun d I R hR hM => rm_plan hR hM hT hV hn1 hn2)
theorem p_planServes {z : Int32} : sp_PP Value.int M_Fs_planServes M_Mo_planServes [.int z] := by
  refine ⟨?_, sp_P_0 _ _ (by decide) (fun d I R hR x => zc_planServes hR x) (fun d I R hR x => zm_planServes hR x)⟩
  intro T V h H g G hT hV hh hg l16 l3
  cases hbz : sp_bt z 1 4 with
  | false =>
    exact sp_P_r hV hh hg _ _ (by decide) (fun d I R hR hC hF => rc_planServes_z hR hC hT hV hbz) (fun d I R hR hM => rm_planServes_z hR hM hT hV hbz)
  | true =>
    obtain ⟨n, hn1, hn2, rfl⟩ := sp_bt_nI hbz
    exact sp_P_r hV hh hg _ _ (by decide) (fun d I R hR hC hF => rc_planServes hR hC hT hV hn1 hn2) (fun d I R hR hM => rm_planServes hR hM hT hV hn1 hn2)
theorem p_fitAt {x : Int32} {y : Int32} : sp_PP Value.int M_Fs_fitAt M_Mo_fitAt [.int x, .int y] := by
  refine ⟨?_, sp_P_0 _ _ (by decide) (fun d I R hR x => zc_fitAt hR x) (fun d I R hR x => zm_fitAt hR x)⟩
  intro T V h H g G hT hV hh hg l16 l3
  cases hx : (sp_is x (sp_flk T (sp_nf T)).length && sp_is y (st_nv T)) with
  | false =>
    exact sp_P_r hV hh hg _ _ (by decide) (fun d I R hR hC hF => rc_fitAt_no hR hC hT hV hF hx) (fun d I R hR hM => rm_fitAt_no hR hM hT hV hx)
  | true =>
    obtain ⟨h1, h2⟩ := (by simpa [Bool.and_eq_true] using hx : sp_is x (sp_flk T (sp_nf T)).length = true ∧ sp_is y (st_nv T) = true)
    obtain ⟨i, hi, rfl⟩ := sp_is_nI h1
    obtain ⟨k, hk, rfl⟩ := sp_is_nI h2
    exact sp_P_r hV hh hg _ _ (by decide) (fun d I R hR hC hF => rc_fitAt hR hC hT hV hF hi hk) (fun d I R hR hM => rm_fitAt hR hM hT hV hi hk)
theorem p_shapedBy {x : Int32} {z : Int32} : sp_PP Value.int M_Fs_shapedBy M_Mo_shapedBy [.int x, .int z] := by
  refine ⟨?_, sp_P_0 _ _ (by decide) (fun d I R hR x => zc_shapedBy hR x) (fun d I R hR x => zm_shapedBy hR x)⟩
  intro T V h H g G hT hV hh hg l16 l3
  cases hxx : sp_is x (st_nv T) with
  | false =>
    exact sp_P_r hV hh hg _ _ (by decide) (fun d I R hR hC hF => rc_shapedBy_no hR hC hT hV hF hxx) (fun d I R hR hM => rm_shapedBy_no hR hM hT hV hxx)
  | true =>
    obtain ⟨k, hk, rfl⟩ := sp_is_nI hxx
    cases hbz : sp_bt z 0 4 with
    | false =>
      exact sp_P_r hV hh hg _ _ (by decide) (fun d I R hR hC hF => rc_shapedBy_z hR hC hT hV hF hk hbz) (fun d I R hR hM => rm_shapedBy_z hR hM hT hV hk hbz)
    | true =>
      obtain ⟨n, hn1, hn2, rfl⟩ := sp_bt_nI hbz
      exact sp_P_r hV hh hg _ _ (by decide) (fun d I R hR hC hF => rc_shapedBy hR hC hT hV hF hk (by omega)) (fun d I R hR hM => rm_shapedBy hR hM hT hV hk (by omega))
theorem p_power {x : Int32} {y : Bool} : sp_PP Value.long M_Fs_power M_Mo_power [.int x, .int (sp_jb y)] := by
  refine ⟨?_, sp_P_0 _ _ (by decide) (fun d I R hR x => zc_power hR x) (fun d I R hR x => zm_power hR x)⟩
  intro T V h H g G hT hV hh hg l16 l3
  cases hxx : sp_is x (st_ne T) with
  | false =>
    exact sp_P_r hV hh hg _ _ (by decide) (fun d I R hR hC hF => rc_power_no hR hC hT hV hxx) (fun d I R hR hM => rm_power_no hR hM hT hV hxx)
  | true =>
    obtain ⟨f, hf, rfl⟩ := sp_is_nI hxx
    exact sp_P_r hV hh hg _ _ (by decide) (fun d I R hR hC hF => rc_power hR hC hT hV hf) (fun d I R hR hM => rm_power hR hM hT hV hf)
theorem p_sues {z : Int32} {y : Bool} {t : Bool} {u : Bool} : sp_PP Value.int M_Fs_sues M_Mo_sues [.int z, .int (sp_jb y), .int (sp_jb t), .int (sp_jb u)] := by
  refine ⟨?_, sp_P_0 _ _ (by decide) (fun d I R hR x => zc_sues hR x) (fun d I R hR x => zm_sues hR x)⟩
  intro T V h H g G hT hV hh hg l16 l3
  cases hbz : sp_bt z 0 9 with
  | false =>
    exact sp_P_r hV hh hg _ _ (by decide) (fun d I R hR hC hF => rc_sues_z hR hC hT hV hbz) (fun d I R hR hM => rm_sues_z hR hM hT hV hbz)
  | true =>
    obtain ⟨n, hn1, hn2, rfl⟩ := sp_bt_nI hbz
    exact sp_P_r hV hh hg _ _ (by decide) (fun d I R hR hC hF => rc_sues hR hC hT hV hn2) (fun d I R hR hM => rm_sues hR hM hT hV hn2)
theorem p_rests {z : Int32} : sp_PP Value.int M_Fs_rests M_Mo_rests [.int z] := by
  refine ⟨?_, sp_P_0 _ _ (by decide) (fun d I R hR x => zc_rests hR x) (fun d I R hR x => zm_rests hR x)⟩
  intro T V h H g G hT hV hh hg l16 l3
  cases hbz : sp_bt z 0 9 with
  | false =>
    exact sp_P_r hV hh hg _ _ (by decide) (fun d I R hR hC hF => rc_rests_z hR hC hT hV hbz) (fun d I R hR hM => rm_rests_z hR hM hT hV hbz)
  | true =>
    obtain ⟨n, hn1, hn2, rfl⟩ := sp_bt_nI hbz
    exact sp_P_r hV hh hg _ _ (by decide) (fun d I R hR hC hF => rc_rests hR hC hT hV hn2) (fun d I R hR hM => rm_rests hR hM hT hV hn2)
theorem p_rest {z : Int32} : sp_PP Value.int M_Fs_rest M_Mo_rest [.int z] := by
  refine ⟨?_, sp_P_0 _ _ (by decide) (fun d I R hR x => zc_rest hR x) (fun d I R hR x => zm_rest hR x)⟩
  intro T V h H g G hT hV hh hg l16 l3
  cases hbz : sp_bt z 0 9 with
  | false =>
    exact sp_P_r hV hh hg _ _ (by decide) (fun d I R hR hC hF => rc_rest_z hR hC hT hV hbz) (fun d I R hR hM => rm_rest_z hR hM hT hV hbz)
  | true =>
    obtain ⟨n, hn1, hn2, rfl⟩ := sp_bt_nI hbz
    exact sp_P_r hV hh hg _ _ (by decide) (fun d I R hR hC hF => rc_rest hR hC hT hV hn2) (fun d I R hR hM => rm_rest hR hM hT hV hn2)
theorem p_odds {x : Int32} {y : Bool} {z : Bool} {u : Bool} : sp_PP Value.long M_Fs_odds M_Mo_odds [.int x, .int (sp_jb y), .int (sp_jb z), .int (sp_jb u)] := by
  refine ⟨?_, sp_P_0 _ _ (by decide) (fun d I R hR x => zc_odds hR x) (fun d I R hR x => zm_odds hR x)⟩
  intro T V h H g G hT hV hh hg l16 l3
  cases hxx : sp_is x (sp_n V) with
  | false =>
    exact sp_P_r hV hh hg _ _ (by decide) (fun d I R hR hC hF => rc_odds_no hR hC hT hV hxx) (fun d I R hR hM => rm_odds_no hR hM hT hV hxx)
  | true =>
    obtain ⟨f, hf, rfl⟩ := sp_is_nI hxx
    exact sp_P_r hV hh hg _ _ (by decide) (fun d I R hR hC hF => rc_odds hR hC hT hV hf) (fun d I R hR hM => rm_odds hR hM hT hV hf)
theorem p_lostOdds {x : Int32} {y : Bool} {u : Bool} : sp_PP Value.long M_Fs_lostOdds M_Mo_lostOdds [.int x, .int (sp_jb y), .int (sp_jb u)] := by
  refine ⟨?_, sp_P_0 _ _ (by decide) (fun d I R hR x => zc_lostOdds hR x) (fun d I R hR x => zm_lostOdds hR x)⟩
  intro T V h H g G hT hV hh hg l16 l3
  cases hxx : sp_is x (sp_n V) with
  | false =>
    exact sp_P_r hV hh hg _ _ (by decide) (fun d I R hR hC hF => rc_lostOdds_no hR hC hT hV hxx) (fun d I R hR hM => rm_lostOdds_no hR hM hT hV hxx)
  | true =>
    obtain ⟨f, hf, rfl⟩ := sp_is_nI hxx
    exact sp_P_r hV hh hg _ _ (by decide) (fun d I R hR hC hF => rc_lostOdds hR hC hT hV hf) (fun d I R hR hM => rm_lostOdds hR hM hT hV hf)
theorem p_blown {x : Int32} {y : Bool} {z : Int32} : sp_PP Value.int M_Fs_blown M_Mo_blown [.int x, .int (sp_jb y), .int z] := by
  refine ⟨?_, sp_P_0 _ _ (by decide) (fun d I R hR x => zc_blown hR x) (fun d I R hR x => zm_blown hR x)⟩
  intro T V h H g G hT hV hh hg l16 l3
  cases hxx : sp_is x (sp_n V) with
  | false =>
    exact sp_P_r hV hh hg _ _ (by decide) (fun d I R hR hC hF => rc_blown_no hR hC hT hV hxx) (fun d I R hR hM => rm_blown_no hR hM hT hV hxx)
  | true =>
    obtain ⟨f, hf, rfl⟩ := sp_is_nI hxx
    cases hbz : sp_bt z 0 65536 with
    | false =>
      exact sp_P_r hV hh hg _ _ (by decide) (fun d I R hR hC hF => rc_blown_z hR hC hT hV hf hbz) (fun d I R hR hM => rm_blown_z hR hM hT hV hf hbz)
    | true =>
      obtain ⟨n, hn1, hn2, rfl⟩ := sp_bt_nI hbz
      exact sp_P_r hV hh hg _ _ (by decide) (fun d I R hR hC hF => rc_blown hR hC hT hV hf hn2) (fun d I R hR hM => rm_blown hR hM hT hV hf hn2)
theorem p_yeses {x : Int32} {y : Bool} {z : Int32} {u : Int32} : sp_PP Value.int M_Fs_yeses M_Mo_yeses [.int x, .int (sp_jb y), .int z, .int u] := by
  refine ⟨?_, sp_P_0 _ _ (by decide) (fun d I R hR x => zc_yeses hR x) (fun d I R hR x => zm_yeses hR x)⟩
  intro T V h H g G hT hV hh hg l16 l3
  cases hxx : sp_is x (sp_n V) with
  | false =>
    exact sp_P_r hV hh hg _ _ (by decide) (fun d I R hR hC hF => rc_yeses_no hR hC hT hV hxx) (fun d I R hR hM => rm_yeses_no hR hM hT hV hxx)
  | true =>
    obtain ⟨f, hf, rfl⟩ := sp_is_nI hxx
    cases hbz : sp_bt z 0 65536 with
    | false =>
      exact sp_P_r hV hh hg _ _ (by decide) (fun d I R hR hC hF => rc_yeses_s hR hC hT hV hf hbz) (fun d I R hR hM => rm_yeses_s hR hM hT hV hf hbz)
    | true =>
      obtain ⟨s, hs1, hs2, rfl⟩ := sp_bt_nI hbz
      cases hbu : sp_bt u 0 60 with
      | false =>
        exact sp_P_r hV hh hg _ _ (by decide) (fun d I R hR hC hF => rc_yeses_z hR hC hT hV hf hs2 hbu) (fun d I R hR hM => rm_yeses_z hR hM hT hV hf hs2 hbu)
      | true =>
        obtain ⟨n, hn1, hn2, rfl⟩ := sp_bt_nI hbu
        exact sp_P_r hV hh hg _ _ (by decide) (fun d I R hR hC hF => rc_yeses hR hC hT hV hf hs2 hn2) (fun d I R hR hM => rm_yeses hR hM hT hV hf hs2 hn2)
theorem p_year : sp_PP Value.int M_Fs_year M_Mo_year [] := by
  refine ⟨?_, sp_P_0 _ _ (by decide) (fun d I R hR x => zc_year hR x) (fun d I R hR x => zm_year hR x)⟩
  intro T V h H g G hT hV hh hg l16 l3
  by_cases hy : sp_y V < 999
  · exact sp_P_s (st_age1 hV hy) (st_ph l16 hV hh) hg _ _ (by decide) (fun d I R hR x => kc_year hR x hT hV hy) (fun d I R hR x => km_year hR x hT hV hy)
  · exact sp_P_s hV hh hg _ _ (by decide) (fun d I R hR x => kc_year_z hR x hT hV hy) (fun d I R hR x => km_year_z hR x hT hV hy)
theorem p_mend {x : Int32} : sp_PP Value.int M_Fs_mend M_Mo_mend [.int x] := by
  refine ⟨?_, sp_P_0 _ _ (by decide) (fun d I R hR x => zc_mend hR x) (fun d I R hR x => zm_mend hR x)⟩
  intro T V h H g G hT hV hh hg l16 l3
  cases hxx : sp_is x (sp_n V) with
  | false =>
    exact sp_P_s hV hh hg _ _ (by decide) (fun d I R hR x => kc_mend_no hR x hT hV hxx) (fun d I R hR x => km_mend_no hR x hT hV hxx)
  | true =>
    obtain ⟨f, hf, rfl⟩ := sp_is_nI hxx
    by_cases hs : sp_so V f = sp_so (st_v T) f
    · exact sp_P_s hV hh hg _ _ (by decide) (fun d I R hR x => kc_mend_z hR x hT hV hf hs) (fun d I R hR x => km_mend_z hR x hT hV hf hs)
    · exact sp_P_s (st_mend hT hV hf) (st_ph l16 hV hh) hg _ _ (by decide) (fun d I R hR x => kc_mend hR x hT hV hf hs) (fun d I R hR x => km_mend hR x hT hV hf hs)
theorem p_hire {x : Int32} : sp_PP Value.int M_Fs_hire M_Mo_hire [.int x] := by
  refine ⟨?_, sp_P_0 _ _ (by decide) (fun d I R hR x => zc_hire hR x) (fun d I R hR x => zm_hire hR x)⟩
  intro T V h H g G hT hV hh hg l16 l3
  cases hxx : sp_is x (sp_n V) with
  | false =>
    exact sp_P_s hV hh hg _ _ (by decide) (fun d I R hR x => kc_hire_no hR x hT hV hxx) (fun d I R hR x => km_hire_no hR x hT hV hxx)
  | true =>
    obtain ⟨f, hf, rfl⟩ := sp_is_nI hxx
    exact sp_P_s (st_hire hV (by have := st_now_n hV; omega)) (st_ph l16 hV hh) hg _ _ (by decide) (fun d I R hR x => kc_hire hR x hT hV hf) (fun d I R hR x => km_hire hR x hT hV hf)
theorem p_send {x : Int32} {y : Int32} : sp_PP Value.int M_Fs_send M_Mo_send [.int x, .int y] := by
  refine ⟨?_, sp_P_0 _ _ (by decide) (fun d I R hR x => zc_send hR x) (fun d I R hR x => zm_send hR x)⟩
  intro T V h H g G hT hV hh hg l16 l3
  cases hxx : sp_is x (sp_n V) with
  | false =>
    exact sp_P_s hV hh hg _ _ (by decide) (fun d I R hR x => kc_send_no hR x hT hV hxx) (fun d I R hR x => km_send_no hR x hT hV hxx)
  | true =>
    obtain ⟨f, hf, rfl⟩ := sp_is_nI hxx
    cases hxy : sp_is y (sp_n V) with
    | false =>
      exact sp_P_s hV hh hg _ _ (by decide) (fun d I R hR x => kc_send_no2 hR x hT hV hf hxy) (fun d I R hR x => km_send_no2 hR x hT hV hf hxy)
    | true =>
      obtain ⟨t, ht, rfl⟩ := sp_is_nI hxy
      by_cases hs : sp_to V f = sp_swt f t
      · exact sp_P_s hV hh hg _ _ (by decide) (fun d I R hR x => kc_send_z hR x hT hV hf ht hs) (fun d I R hR x => km_send_z hR x hT hV hf ht hs)
      · exact sp_P_s (st_send hV (sp_swt_le ht)) (st_ph l16 hV hh) hg _ _ (by decide) (fun d I R hR x => kc_send hR x hT hV hf ht hs) (fun d I R hR x => km_send hR x hT hV hf ht hs)
theorem p_undo : sp_PP Value.int M_Fs_undo M_Mo_undo [] := by
  refine ⟨?_, 0, 6, by decide, fun d I R hR x => zc_undo hR x.2.2.2.1, fun d I R hR x => zm_undo hR x.2.1⟩
  intro T V h H g G hT hV hh hg l16 l3
  cases h with
  | zero =>
    exact sp_P_s hV hh hg _ _ (by decide) (fun d I R hR x => kc_undo_z hR x hT hV rfl) (fun d I R hR x => km_undo_z hR x hT hV rfl)
  | succ k =>
    exact sp_P_s (hh k (by omega)) (fun i hi => hh i (by omega)) hg _ _ (by decide) (fun d I R hR x => kc_undo hR x hT hV rfl hh) (fun d I R hR x => km_undo hR x hT hV rfl hh)
theorem p_image : sp_PP Value.int M_Fs_image M_Mo_image [] := by
  refine ⟨?_, sp_P_0 _ _ (by decide) (fun d I R hR x => zc_image hR x) (fun d I R hR x => zm_image hR x)⟩
  intro T V h H g G hT hV hh hg l16 l3
  by_cases h3 : g < 3
  · exact sp_P_s hV hh (fun i hi => by by_cases hc : i = g; (rw [if_pos hc]; exact hV); (rw [if_neg hc]; exact hg i (by omega))) _ _ (by decide) (fun d I R hR x => kc_image hR x hT hV h3) (fun d I R hR x => km_image hR x hT hV h3)
  · exact sp_P_s hV hh hg _ _ (by decide) (fun d I R hR x => kc_image_z hR x hT hV (by omega)) (fun d I R hR x => km_image_z hR x hT hV (by omega))
theorem p_back {x : Int32} : sp_PP Value.int M_Fs_back M_Mo_back [.int x] := by
  refine ⟨?_, 0, 1, by decide, fun d I R hR x => zc_back hR x.2.2.2.2, fun d I R hR x => zm_back hR x.2.2⟩
  intro T V h H g G hT hV hh hg l16 l3
  cases hxx : sp_is x g with
  | false =>
    exact sp_P_s hV hh hg _ _ (by decide) (fun d I R hR x => kc_back_z hR x hT hV hxx) (fun d I R hR x => km_back_z hR x hT hV hxx)
  | true =>
    obtain ⟨k, hk, rfl⟩ := sp_is_nI hxx
    exact sp_P_s (hg k hk) (fun i hi => absurd hi (Nat.not_lt_zero _)) hg _ _ (by decide) (fun d I R hR x => kc_back hR x hT hV hk hg) (fun d I R hR x => km_back hR x hT hV hk hg)
