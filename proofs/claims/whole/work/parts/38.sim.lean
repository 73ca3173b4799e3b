/-! Own rows: follies that answer alike; the reference's rows of work. -/
/-- alike as far as letters can tell -/
def sp_sim (V W : sp_V) : Prop := sp_n V = sp_n W ∧ sp_y V % 2 = sp_y W % 2 ∧ ∀ f, f < sp_n V → (sp_h V).testBit f = (sp_h W).testBit f ∧ sp_sh V f = sp_sh W f ∧ (sp_so V f = 0 ↔ sp_so W f = 0) ∧ sp_to V f = sp_to W f
theorem sp_sim_rf {V : sp_V} : sp_sim V V := ⟨rfl, rfl, fun _ _ => ⟨rfl, rfl, Iff.rfl, rfl⟩⟩
theorem sp_sim_sym {V W : sp_V} (h : sp_sim V W) : sp_sim W V := ⟨h.1.symm, h.2.1.symm, fun f hf => by
  obtain ⟨a, b, c, d⟩ := h.2.2 f (by rw [h.1]; exact hf)
  exact ⟨a.symm, b.symm, c.symm, d.symm⟩⟩
theorem sp_sim_tr {V W X : sp_V} (h : sp_sim V W) (h2 : sp_sim W X) : sp_sim V X := ⟨h.1.trans h2.1, h.2.1.trans h2.2.1, fun f hf => by
  obtain ⟨a, b, c, d⟩ := h.2.2 f hf
  obtain ⟨a2, b2, c2, d2⟩ := h2.2.2 f (by rw [← h.1]; exact hf)
  exact ⟨a.trans a2, b.trans b2, c.trans c2, d.trans d2⟩⟩
theorem sp_rep_sim {V W : sp_V} (h : sp_sim V W) {f : Nat} (hf : f < sp_n V) (b : Bool) : sp_rep V f b = sp_rep W f b := by
  obtain ⟨h1, h2, h3⟩ := h
  obtain ⟨a1, a2, a3, a4⟩ := h3 f hf
  unfold sp_rep
  rw [a1, a2, h2]
  by_cases hz : sp_so V f = 0
  · rw [if_pos hz, if_pos (a3.mp hz)]
  · rw [if_neg hz, if_neg (fun q => hz (a3.mpr q))]
theorem sp_go_sim {V W : sp_V} (hV : sp_ok V) (h : sp_sim V W) : ∀ (k m f : Nat) (b : Bool), f < sp_n V → sp_go V k m f b = sp_go W k m f b := by
  intro k
  induction k with
  | zero => intro m f b _; rw [sp_go, sp_go]
  | succ k ih =>
    intro m f b hf
    rw [sp_go, sp_go, ← sp_rep_sim h hf b, ← (h.2.2 f hf).2.2.2]
    by_cases hb : m.testBit f
    · rw [if_pos hb, if_pos hb]
    · rw [if_neg hb, if_neg hb]
      cases sp_rep V f b with
      | none => rfl
      | some c =>
        dsimp only
        by_cases ht : sp_to V f = 0
        · rw [if_pos ht, if_pos ht]
        · rw [if_neg ht, if_neg ht, ih _ (sp_to V f - 1) c (by have := (hV.2.2.2 f hf).2.2; omega)]
theorem sp_gl_sim {V W : sp_V} (hV : sp_ok V) (h : sp_sim V W) {l : Nat} (hl : l < 2 * sp_n V) : sp_gl V l = sp_gl W l := sp_go_sim hV h 6 0 (l / 2) _ (by omega)
theorem sp_sv_sim {V W : sp_V} (hV : sp_ok V) (h : sp_sim V W) {eo : Nat → Nat} {l : Nat} (hl : l < 2 * sp_n V) : sp_sv V eo l = sp_sv W eo l := by
  unfold sp_sv
  rw [sp_gl_sim hV h hl]
theorem sp_all_sim {V W : sp_V} (hV : sp_ok V) (h : sp_sim V W) {eo : Nat → Nat} : ∀ k, k ≤ 2 * sp_n V → sp_all V eo k = sp_all W eo k := by
  intro k
  induction k with
  | zero => intro _; rfl
  | succ k ih =>
    intro hk
    rw [sp_all, sp_all, ih (by omega), sp_sv_sim hV h (by omega)]
/-- all estates that are served, as bits -/
def sp_bits (V : sp_V) (eo : Nat → Nat) : Nat := sp_all V eo (2 * sp_n V)
theorem sp_bits_sim {V W : sp_V} (hV : sp_ok V) (h : sp_sim V W) {eo : Nat → Nat} : sp_bits V eo = sp_bits W eo := by
  unfold sp_bits
  rw [← h.1]
  exact sp_all_sim hV h _ (Nat.le_refl _)
theorem sp_bits_lt {V : sp_V} {eo : Nat → Nat} (hV : sp_ok V) (hE : sp_eok V eo) : sp_bits V eo < 32 := sp_all_lt hV hE _ (Nat.le_refl _)
/-- estates' bits that agree on the follies that there are -/
theorem sp_all_eo {V : sp_V} (hV : sp_ok V) {eo eo2 : Nat → Nat} (h : ∀ g, g < sp_n V → eo g = eo2 g) : ∀ k, k ≤ 2 * sp_n V → sp_all V eo k = sp_all V eo2 k := by
  intro k
  induction k with
  | zero => intro _; rfl
  | succ k ih =>
    intro hk
    rw [sp_all, sp_all, ih (by omega)]
    congr 1
    unfold sp_sv
    cases hg : (sp_gl V k).2.2 with
    | none => rfl
    | some q =>
      obtain ⟨g, c⟩ := q
      cases c with
      | false => rfl
      | true => exact h g ((sp_gl_in hV (l := k) (by omega)).1 g true hg)
/-- the reference's copying -/
theorem c_Mo_copy {d : Nat} {I : Nat → Nat → Int32} {J : Nat → Nat → Int64} {R : Nat → Nat → Option Nat} {Q : Option Value → ow_H → Prop} {a b i j n : Nat} (hR : ow_RF R) (a1 : a < 85) (a2 : ow_kd a = 14) (b1 : b < 85) (b2 : ow_kd b = 14) (hab : a ≠ b) (ha : i + n ≤ ow_ln a) (hb : j + n ≤ ow_ln b) (hla : ow_ln a < 1000) (hlb : ow_ln b < 1000)
    (hQ : ∀ I2 : Nat → Nat → Int32, sp_eq [b] I I2 → (∀ k, I2 b k = if j ≤ k ∧ k < j + n then I a (i + (k - j)) else I b k) → Q none (85, I2, J, R)) : ow_AM M_Mo_copy (d + 1) [.ref a, .int (nI i), .ref b, .int (nI j), .int (nI n)] (85, I, J, R) Q := by
  apply t_Mo_copy a1 a2 b1 b2 hR
  refine sp_up (N := n) (G := fun t I1 => ow_AW ow_Y0 (ow_Z Q) M_Mo_copy (d + 1) 0 0 3 [(0, .ref a), (1, .int (nI i)), (2, .ref b), (3, .int (nI j)), (4, .int (nI n)), (5, .int (nI t))] [] (85, I1, J, R) 0 0) (Inv := fun t I1 => sp_eq [b] I I1 ∧ ∀ k, I1 b k = if j ≤ k ∧ k < j + t then I a (i + (k - j)) else I b k) ?_ ?_ 0 I (Nat.zero_le _) ⟨sp_eq_rf, fun k => by rw [if_neg (by omega)]⟩
  · intro I1 ⟨he, x⟩
    apply t_Mo_copy_3 a1 a2 b1 b2 hR
    exact ⟨fun _ => hQ I1 he x, fun c => absurd (Int32.le_refl _) c⟩
  · intro t I1 ht ⟨he, x⟩ ih
    apply t_Mo_copy_3 a1 a2 b1 b2 hR
    rw [nI_add, nI_add, nI_1, sp_cl (by omega), sp_cl (by omega)]
    refine ⟨fun c => absurd c (nI_ge ht (by omega)), fun _ => ⟨vp_in_nI (by omega) (by omega), vp_in_nI (by omega) (by omega), fun I2 e2 => ?_⟩⟩
    refine ih I2 ⟨sp_eq_tr he (sp_eq_ue e2 (by simp)), fun k => ?_⟩
    rw [e2, he a (by simp [hab])]
    by_cases hk : k = j + t
    · subst hk
      rw [ow_u_at, if_pos (by omega)]
      congr 1
      omega
    · rw [ow_u_nk hk, x k]
      by_cases h : j ≤ k ∧ k < j + t
      · rw [if_pos h, if_pos (by omega)]
      · rw [if_neg h, if_neg (by omega)]
/-- a row without the shapes -/
def sp_Mw (I : Nat → Nat → Int32) (a : Nat) (V : sp_V) : Prop := (∀ f, f < sp_n V → I a f = nI (sp_so V f) ∧ I a (6 + f) = nI (sp_to V f)) ∧ I a 12 = nI (sp_h V) ∧ I a 13 = nI (sp_y V)
def sp_Mh (I : Nat → Nat → Int32) (V : sp_V) : Prop := ∀ f, f < sp_n V → I 80 f = nI (sp_sh V f)
def sp_Mq (I : Nat → Nat → Int32) (V : sp_V) : Prop := ∀ f, f < sp_n V → I 73 (7 + 2 * f) = nI (sp_sh V f)
theorem sp_Mr_of {I : Nat → Nat → Int32} {a : Nat} {V : sp_V} (h1 : sp_Mw I a V) (h2 : sp_Mh I V) : sp_Mr I a V := ⟨fun f hf => ⟨(h1.1 f hf).1, (h1.1 f hf).2, h2 f hf⟩, h1.2⟩
theorem sp_Mw_k {I I2 : Nat → Nat → Int32} {a : Nat} {V : sp_V} (h : sp_Mw I a V) (h1 : I2 a = I a) : sp_Mw I2 a V := by
  unfold sp_Mw at h ⊢
  rw [h1]
  exact h
theorem sp_Mh_k {I I2 : Nat → Nat → Int32} {V : sp_V} (h : sp_Mh I V) (h1 : I2 80 = I 80) : sp_Mh I2 V := by
  unfold sp_Mh at h ⊢
  rw [h1]
  exact h
theorem sp_Mq_k {I I2 : Nat → Nat → Int32} {V : sp_V} (h : sp_Mq I V) (h1 : I2 73 = I 73) : sp_Mq I2 V := by
  unfold sp_Mq at h ⊢
  rw [h1]
  exact h
theorem sp_Mr_w {I : Nat → Nat → Int32} {a : Nat} {V : sp_V} (h : sp_Mr I a V) : sp_Mw I a V := ⟨fun f hf => ⟨(h.1 f hf).1, (h.1 f hf).2.1⟩, h.2⟩
theorem c_Mo_asToldShapes {d : Nat} {I : Nat → Nat → Int32} {J : Nat → Nat → Int64} {R : Nat → Nat → Option Nat} {Q : Option Value → ow_H → Prop} {V : sp_V} (hR : ow_RF R) (hn : I 73 2 = nI (sp_n V)) (hn6 : sp_n V ≤ 6) (hq : sp_Mq I V)
    (hQ : ∀ I2 : Nat → Nat → Int32, sp_eq [80] I I2 → sp_Mh I2 V → Q none (85, I2, J, R)) : ow_AM M_Mo_asToldShapes (d + 1) [.ref 70] (85, I, J, R) Q := by
  apply t_Mo_asToldShapes hR
  refine sp_up (N := sp_n V) (G := fun i I1 => ow_AW ow_Y0 (ow_Z Q) M_Mo_asToldShapes (d + 1) 0 0 2 [(0, .ref 70), (1, .int (nI i))] [] (85, I1, J, R) 0 0) (Inv := fun i I1 => sp_eq [80] I I1 ∧ ∀ f, f < i → I1 80 f = nI (sp_sh V f)) ?_ ?_ 0 I (Nat.zero_le _) ⟨sp_eq_rf, fun f hf => absurd hf (Nat.not_lt_zero _)⟩
  · intro I1 ⟨he, x⟩
    apply t_Mo_asToldShapes_2 hR
    rw [he 73 (by decide), hn]
    exact ⟨fun _ => hQ I1 he x, fun c => absurd (Int32.le_refl _) c⟩
  · intro i I1 hi ⟨he, x⟩ ih
    apply t_Mo_asToldShapes_2 hR
    rw [he 73 (by decide), hn, show (7 : Int32) + 2 * nI i = nI (7 + 2 * i) from sp_ix, sp_cl (by omega), sp_cl (by omega), hq i hi, nI_1]
    refine ⟨fun c => absurd c (nI_ge hi (by omega)), fun _ => ⟨vp_in_nI (by omega) (by decide), vp_in_nI (by omega) (by decide), fun I2 e2 => ?_⟩⟩
    refine ih I2 ⟨sp_eq_tr he (sp_eq_ue e2 (by simp)), fun f hf => ?_⟩
    rw [e2]
    by_cases hfi : f = i
    · subst hfi; rw [ow_u_at]
    · rw [ow_u_nk hfi]; exact x f (by omega)
theorem c_Mo_yearOn {d : Nat} {I : Nat → Nat → Int32} {J : Nat → Nat → Int64} {R : Nat → Nat → Option Nat} {Q : Option Value → ow_H → Prop} {a r : Nat} {V : sp_V} (hR : ow_RF R) (ha : a ∈ [75, 76, 77, 82]) (hn : I 73 2 = nI (sp_n V)) (hr : I 73 1 = nI r) (hr9 : r < 10) (hw : sp_Mw I a V) (hn6 : sp_n V ≤ 6) (hso : ∀ f, f < sp_n V → sp_so V f < 100)
    (hQ : ∀ I2 : Nat → Nat → Int32, sp_eq [a] I I2 → sp_Mw I2 a (sp_age V r 1) → Q none (85, I2, J, R)) : ow_AM M_Mo_yearOn (d + 1) [.ref 70, .ref a] (85, I, J, R) Q := by
  obtain ⟨n71, n82, n81, n74⟩ := sp_rwne a ha
  have n74' : (73 : Nat) ∉ [a] := by simp; exact fun q => n74 q.symm
  obtain ⟨w1, w2, w3⟩ := hw
  apply t_Mo_yearOn ha hR
  refine sp_up (N := sp_n V) (G := fun i I1 => ow_AW ow_Y0 (ow_Z Q) M_Mo_yearOn (d + 1) 0 0 2 [(0, .ref 70), (1, .ref a), (2, .int (nI i))] [] (85, I1, J, R) 0 0) (Inv := fun i I1 => sp_eq [a] I I1 ∧ ∀ k, I1 a k = if k < i then nI (sp_so V k - r * 1) else I a k) ?_ ?_ 0 I (Nat.zero_le _) ⟨sp_eq_rf, fun k => by rw [if_neg (Nat.not_lt_zero _)]⟩
  · intro I1 ⟨he, x⟩
    apply t_Mo_yearOn_2 ha hR
    rw [he 73 n74', hn]
    refine ⟨fun _ I2 e2 => ?_, fun c => absurd (Int32.le_refl _) c⟩
    rw [x 13, if_neg (by omega), w3, nI_1] at e2
    refine hQ I2 (sp_eq_tr he (sp_eq_ue e2 (by simp))) ⟨fun f hf => ?_, ?_, ?_⟩
    · have hf : f < sp_n V := hf
      rw [e2, ow_u_nk (by omega), ow_u_nk (by omega), x f, x (6 + f), if_pos hf, if_neg (by omega)]
      exact ⟨rfl, (w1 f hf).2⟩
    · rw [e2, ow_u_nk (by decide), x 12, if_neg (by omega)]; exact w2
    · rw [e2, ow_u_at]; rfl
  · intro i I1 hi ⟨he, x⟩ ih
    have hin : vp_in (nI i) 14 := vp_in_nI (by omega) (by decide)
    have hs := hso i hi
    apply t_Mo_yearOn_2 ha hR
    rw [he 73 n74', hn, hr, sp_cl (by omega), x i, if_neg (Nat.lt_irrefl _), (w1 i hi).1, nI_1]
    have nxt : ∀ I2 : Nat → Nat → Int32, I2 = ow_u I1 a i (nI (sp_so V i - r * 1)) → ow_AW ow_Y0 (ow_Z Q) M_Mo_yearOn (d + 1) 0 0 2 [(0, .ref 70), (1, .ref a), (2, .int (nI (i + 1)))] [] (85, I2, J, R) 0 0 := by
      intro I2 e2
      refine ih I2 ⟨sp_eq_tr he (sp_eq_ue e2 (by simp)), fun k => ?_⟩
      rw [e2]
      by_cases hk : k = i
      · subst hk; rw [ow_u_at, if_pos (Nat.lt_succ_self _)]
      · rw [ow_u_nk hk, x k]
        by_cases h : k < i
        · rw [if_pos h, if_pos (by omega)]
        · rw [if_neg h, if_neg (by omega)]
    refine ⟨fun c => absurd c (nI_ge hi (by omega)), fun _ => ⟨hin, fun c => ⟨hin, fun I2 e2 => nxt I2 ?_⟩, fun c => ⟨hin, hin, fun I2 e2 => nxt I2 ?_⟩⟩⟩
    · have := (nI_leI (by omega) (by omega)).mp c
      rw [e2, show sp_so V i - r * 1 = 0 by omega]
      rfl
    · have : ¬ sp_so V i ≤ r := fun z => c ((nI_leI (by omega) (by omega)).mpr z)
      rw [e2, pk_sub (by omega), show sp_so V i - r = sp_so V i - r * 1 by omega]
