/-! Own rows: small methods of the reference. -/
theorem sp_age_s (V : sp_V) (r k : Nat) : sp_age (sp_age V r k) r 1 = sp_age V r (k + 1) := by
  have e : (fun f => sp_so V f - r * k - r * 1) = fun f => sp_so V f - r * (k + 1) := by
    funext f
    rw [Nat.mul_add r k 1]
    omega
  show (sp_n V, sp_y V + k + 1, sp_h V, sp_sh V, (fun f => sp_so V f - r * k - r * 1), sp_to V) = (sp_n V, sp_y V + (k + 1), sp_h V, sp_sh V, (fun f => sp_so V f - r * (k + 1)), sp_to V)
  rw [e]
  rfl
theorem sp_age_0 (V : sp_V) (r : Nat) : sp_sim (sp_age V r 0) V := ⟨rfl, rfl, fun _ _ => ⟨rfl, rfl, Iff.rfl, rfl⟩⟩
theorem sp_Mw_age0 {I : Nat → Nat → Int32} {a r : Nat} {V : sp_V} (h : sp_Mw I a V) : sp_Mw I a (sp_age V r 0) := h
section SMALL
variable {d : Nat} {I : Nat → Nat → Int32} {J : Nat → Nat → Int64} {R : Nat → Nat → Option Nat} {Q : Option Value → ow_H → Prop}
theorem c_Mo_copyT (hR : ow_RF R) {V : sp_V} (hw : sp_Mw I 77 V) (hn6 : sp_n V ≤ 6)
    (hQ : ∀ I2 : Nat → Nat → Int32, sp_eq [82] I I2 → sp_Mw I2 82 V → Q none (85, I2, J, R)) : ow_AM M_Mo_copy (d + 1) [.ref 77, .int 0, .ref 82, .int 0, .int 14] (85, I, J, R) Q := by
  refine c_Mo_copy (i := 0) (j := 0) (n := 14) hR (by decide) (by decide) (by decide) (by decide) (by decide) (by decide) (by decide) (by decide) (by decide) ?_
  intro I2 he x
  refine hQ I2 he ⟨fun f hf => ?_, ?_, ?_⟩
  · rw [x f, x (6 + f), if_pos (by omega), if_pos (by omega), show 0 + (f - 0) = f by omega, show 0 + (6 + f - 0) = 6 + f by omega]
    exact hw.1 f hf
  · rw [x 12, if_pos (by omega)]; exact hw.2.1
  · rw [x 13, if_pos (by omega)]; exact hw.2.2
theorem c_Mo_yearsOn {k r : Nat} {V : sp_V} (hR : ow_RF R) (hn : I 73 2 = nI (sp_n V)) (hr : I 73 1 = nI r) (hr9 : r < 10) (hw : sp_Mw I 77 V) (hq : sp_Mq I V) (hn6 : sp_n V ≤ 6) (hso : ∀ f, f < sp_n V → sp_so V f < 100) (hk : k < 1000)
    (hQ : ∀ I2 : Nat → Nat → Int32, sp_eq [80, 82] I I2 → sp_Mr I2 82 (sp_age V r k) → Q none (85, I2, J, R)) : ow_AM M_Mo_yearsOn (d + 2) [.ref 70, .int (nI k)] (85, I, J, R) Q := by
  apply t_Mo_yearsOn hR
  refine c_Mo_asToldShapes hR hn hn6 hq ?_
  intro I2 g0 g1
  refine ⟨I2, J, R, rfl, rfl, hR, ?_⟩
  refine c_Mo_copyT hR (sp_Mw_k hw (g0 77 (by decide))) hn6 ?_
  intro I3 g2 g3
  refine ⟨I3, J, R, rfl, rfl, hR, ?_⟩
  have g02 : sp_eq [80, 82] I I3 := sp_eq_tr (sp_eq_mono g0 (by simp)) (sp_eq_mono g2 (by simp))
  refine sp_up (N := k) (G := fun i I1 => ow_AW ow_Y0 (ow_Z Q) M_Mo_yearsOn (d + 2) 0 0 21 [(0, .ref 70), (1, .int (nI k)), (2, .int (nI i))] [] (85, I1, J, R) 0 0) (Inv := fun i I1 => sp_eq [80, 82] I I1 ∧ sp_Mh I1 V ∧ sp_Mw I1 82 (sp_age V r i)) ?_ ?_ 0 I3 (Nat.zero_le _) ⟨g02, sp_Mh_k g1 (g2 80 (by decide)), sp_Mw_age0 g3⟩
  · intro I1 ⟨he, x1, x2⟩
    apply t_Mo_yearsOn_21 hR
    exact ⟨fun _ => hQ I1 he (sp_Mr_of x2 x1), fun c => absurd (Int32.le_refl _) c⟩
  · intro i I1 hi ⟨he, x1, x2⟩ ih
    apply t_Mo_yearsOn_21 hR
    rw [nI_1]
    refine ⟨fun c => absurd c (nI_ge hi (by omega)), fun _ => ?_⟩
    refine c_Mo_yearOn (V := sp_age V r i) (r := r) hR (by decide) (by rw [he 73 (by decide)]; exact hn) (by rw [he 73 (by decide)]; exact hr) hr9 x2 hn6 (fun f hf => Nat.lt_of_le_of_lt (Nat.sub_le _ _) (hso f hf)) ?_
    intro I4 g4 g5
    refine ⟨I4, J, R, rfl, rfl, hR, ?_⟩
    rw [sp_age_s] at g5
    exact ih I4 ⟨sp_eq_tr he (sp_eq_mono g4 (by simp)), sp_Mh_k x1 (g4 80 (by decide)), g5⟩
/-- a folly sends elsewhere -/
def sp_send (V : sp_V) (f t : Nat) : sp_V := (sp_n V, sp_y V, sp_h V, sp_sh V, sp_so V, fun g => if g = f then t else sp_to V g)
theorem sp_send_ok {V : sp_V} (hV : sp_ok V) {f t : Nat} (ht : t ≤ sp_n V) : sp_ok (sp_send V f t) := ⟨hV.1, hV.2.1, hV.2.2.1, fun g hg => ⟨(hV.2.2.2 g hg).1, (hV.2.2.2 g hg).2.1, by
  show (if g = f then t else sp_to V g) ≤ sp_n V
  by_cases h : g = f
  · rw [if_pos h]; exact ht
  · rw [if_neg h]; exact (hV.2.2.2 g hg).2.2⟩⟩
/-- how many are served if f sends to t (its own number: nowhere) -/
def sp_swt (f t : Nat) : Nat := if t = f then 0 else t + 1
theorem c_Mo_servedWith {f t ne : Nat} {V : sp_V} {ef : Nat → Nat} (hR : ow_RF R) (hw : sp_Mw I 77 V) (hh : sp_Mh I V) (hT : sp_MT I V ne ef) (hV : sp_ok V) (hf : f < sp_n V) (ht : t < sp_n V)
    (hQ : ∀ I2 : Nat → Nat → Int32, sp_fr [81, 82] [(70, 26), (70, 27), (70, 28), (70, 29)] I I2 → Q (some (.int (nI (sp_pc (sp_bits (sp_send V f (sp_swt f t)) (sp_eo ne ef)))))) (85, I2, J, R)) : ow_AM M_Mo_servedWith (d + 6) [.ref 70, .int (nI f), .int (nI t)] (85, I, J, R) Q := by
  have hn6 := hV.1
  apply t_Mo_servedWith hR
  refine c_Mo_copyT hR hw hn6 ?_
  intro I2 g0 g1
  refine ⟨I2, J, R, rfl, rfl, hR, ?_⟩
  have e6 : (6 : Int32) + nI f = nI (6 + f) := nI_add 6 f
  rw [e6, sp_cl (by omega), nI_1]
  have K : ∀ I9 : Nat → Nat → Int32, I9 = ow_u I2 82 (6 + f) (nI (sp_swt f t)) → ow_AM M_Mo_servedOn (d + 5) [.ref 70, .ref 82] (85, I9, J, R) (fun r h' => ∃ (r10 : Int32) (I10 : Nat → Nat → Int32) (J10 : Nat → Nat → Int64) (R10 : Nat → Nat → Option Nat), r = some (.int r10) ∧ h' = (85, I10, J10, R10) ∧ ow_RF R10 ∧ (ow_AM M_Mo_ones (d + 5) [.int r10] (85, I10, J10, R10) (fun r h' => ∃ (r11 : Int32) (I11 : Nat → Nat → Int32) (J11 : Nat → Nat → Int64) (R11 : Nat → Nat → Option Nat), r = some (.int r11) ∧ h' = (85, I11, J11, R11) ∧ ow_RF R11 ∧ Q (some (.int r11)) (85, I11, J11, R11)))) := by
    intro I9 e9
    have hle : sp_swt f t ≤ sp_n V := by
      unfold sp_swt
      by_cases h : t = f
      · rw [if_pos h]; omega
      · rw [if_neg h]; omega
    have hV2 := sp_send_ok (f := f) hV hle
    have h9 : sp_eq [82] I I9 := sp_eq_tr g0 (sp_eq_ue e9 (by simp))
    have hw9 : sp_Mw I9 82 (sp_send V f (sp_swt f t)) := by
      refine ⟨fun g hg => ?_, ?_, ?_⟩
      · have hg : g < sp_n V := hg
        rw [e9, ow_u_nk (by omega)]
        refine ⟨(g1.1 g hg).1, ?_⟩
        show _ = nI (if g = f then sp_swt f t else sp_to V g)
        by_cases h : g = f
        · subst h; rw [ow_u_at, if_pos rfl]
        · rw [ow_u_nk (by omega), if_neg h]; exact (g1.1 g hg).2
      · rw [e9, ow_u_nk (by omega)]; exact g1.2.1
      · rw [e9, ow_u_nk (by omega)]; exact g1.2.2
    refine c_Mo_servedOn hR (by decide) (sp_Mr_of hw9 (sp_Mh_k (V := sp_send V f (sp_swt f t)) hh (h9 80 (by decide)))) (sp_MT_k (V := sp_send V f (sp_swt f t)) hT (h9 73 (by decide))) hV2 ?_
    intro I10 g2
    refine ⟨_, I10, J, R, rfl, rfl, hR, ?_⟩
    refine c_Mo_ones hR (Nat.lt_trans (sp_bits_lt hV2 (sp_eo_ok hT.2.2.1)) (by decide)) ⟨_, I10, J, R, rfl, rfl, hR, ?_⟩
    exact hQ I10 (sp_fr_tr (sp_frq (sp_eq_mono h9 (by simp))) (sp_fr_mono g2 (by simp) (by simp)))
  refine ⟨fun c => ⟨vp_in_nI (by omega) (by decide), fun I9 e9 => K I9 ?_⟩, fun c => ⟨vp_in_nI (by omega) (by decide), fun I9 e9 => K I9 ?_⟩⟩
  · have c2 : ¬ t = f := fun h => c (by rw [h])
    rw [e9]; unfold sp_swt; rw [if_neg c2]
  · have c2 : t = f := (nI_eq (by omega) (by omega)).mp c
    rw [e9]; unfold sp_swt; rw [if_pos c2]; rfl
/-- all but those of a set are ruins -/
def sp_ruin (V : sp_V) (m : Nat) : sp_V := (sp_n V, sp_y V, sp_h V, sp_sh V, fun g => if m.testBit g then sp_so V g else 0, sp_to V)
theorem sp_ruin_ok {V : sp_V} (hV : sp_ok V) {m : Nat} : sp_ok (sp_ruin V m) := ⟨hV.1, hV.2.1, hV.2.2.1, fun g hg => ⟨(hV.2.2.2 g hg).1, by
  show (if m.testBit g then sp_so V g else 0) < 100
  by_cases h : m.testBit g
  · rw [if_pos h]; exact (hV.2.2.2 g hg).2.1
  · rw [if_neg h]; omega, (hV.2.2.2 g hg).2.2⟩⟩
theorem c_Mo_servedWithOnly {m ne : Nat} {V : sp_V} {ef : Nat → Nat} (hR : ow_RF R) (hw : sp_Mw I 77 V) (hh : sp_Mh I V) (hT : sp_MT I V ne ef) (hV : sp_ok V) (hm : m < 64)
    (hQ : ∀ I2 : Nat → Nat → Int32, sp_fr [81, 82] [(70, 26), (70, 27), (70, 28), (70, 29)] I I2 → Q (some (.int (nI (sp_bits (sp_ruin V m) (sp_eo ne ef))))) (85, I2, J, R)) : ow_AM M_Mo_servedWithOnly (d + 6) [.ref 70, .int (nI m)] (85, I, J, R) Q := by
  have hn6 := hV.1
  apply t_Mo_servedWithOnly hR
  refine c_Mo_copyT hR hw hn6 ?_
  intro I2 g0 g1
  refine ⟨I2, J, R, rfl, rfl, hR, ?_⟩
  refine sp_up (N := sp_n V) (G := fun i I1 => ow_AW ow_Y0 (ow_Z Q) M_Mo_servedWithOnly (d + 6) 0 0 17 [(0, .ref 70), (1, .int (nI m)), (2, .int (nI i))] [] (85, I1, J, R) 0 0) (Inv := fun i I1 => sp_eq [82] I I1 ∧ ∀ k, I1 82 k = if k < i ∧ m.testBit k = false then 0 else I2 82 k) ?_ ?_ 0 I2 (Nat.zero_le _) ⟨g0, fun k => by rw [if_neg (by omega)]⟩
  · intro I1 ⟨he, x⟩
    apply t_Mo_servedWithOnly_17 hR
    rw [he 73 (by decide), hT.1]
    refine ⟨fun _ => ?_, fun c => absurd (Int32.le_refl _) c⟩
    have hw9 : sp_Mw I1 82 (sp_ruin V m) := by
      refine ⟨fun g hg => ?_, ?_, ?_⟩
      · have hg : g < sp_n V := hg
        rw [x g, x (6 + g), if_neg (show ¬ (6 + g < sp_n V ∧ _) by omega)]
        refine ⟨?_, (g1.1 g hg).2⟩
        show _ = nI (if m.testBit g then sp_so V g else 0)
        cases hb : m.testBit g with
        | true => rw [if_neg (by simp), if_pos rfl]; exact (g1.1 g hg).1
        | false => rw [if_pos ⟨hg, rfl⟩, if_neg (by decide)]; rfl
      · rw [x 12, if_neg (by omega)]; exact g1.2.1
      · rw [x 13, if_neg (by omega)]; exact g1.2.2
    refine c_Mo_servedOn hR (by decide) (sp_Mr_of hw9 (sp_Mh_k (V := sp_ruin V m) hh (he 80 (by decide)))) (sp_MT_k (V := sp_ruin V m) hT (he 73 (by decide))) (sp_ruin_ok hV) ?_
    intro I10 g2
    exact ⟨_, I10, J, R, rfl, rfl, hR, hQ I10 (sp_fr_tr (sp_frq (sp_eq_mono he (by simp))) (sp_fr_mono g2 (by simp) (by simp)))⟩
  · intro i I1 hi ⟨he, x⟩ ih
    apply t_Mo_servedWithOnly_17 hR
    rw [he 73 (by decide), hT.1, nI_1]
    refine ⟨fun c => absurd c (nI_ge hi (by omega)), fun _ => ?_⟩
    refine c_Mo_hasBit hR hm (by omega) ⟨_, I1, J, R, rfl, rfl, hR, ?_⟩
    cases hb : m.testBit i with
    | true =>
      refine ⟨fun _ => ih I1 ⟨he, fun k => ?_⟩, fun c => absurd c (by decide)⟩
      rw [x k]
      by_cases h : k = i
      · subst h; rw [if_neg (by omega), if_neg (by rw [hb]; simp)]
      · by_cases h2 : k < i ∧ m.testBit k = false
        · rw [if_pos h2, if_pos ⟨by omega, h2.2⟩]
        · rw [if_neg h2, if_neg (fun q => h2 ⟨by omega, q.2⟩)]
    | false =>
      refine ⟨fun c => absurd rfl c, fun _ => ⟨vp_in_nI (by omega) (by decide), fun I3 e3 => ih I3 ⟨?_, fun k => ?_⟩⟩⟩
      · exact sp_eq_tr he (sp_eq_ue e3 (by simp))
      · rw [e3, sp_cl (by omega)]
        by_cases h : k = i
        · subst h; rw [ow_u_at, if_pos ⟨by omega, hb⟩]
        · rw [ow_u_nk h, x k]
          by_cases h2 : k < i ∧ m.testBit k = false
          · rw [if_pos h2, if_pos ⟨by omega, h2.2⟩]
          · rw [if_neg h2, if_neg (fun q => h2 ⟨by omega, q.2⟩)]
theorem c_Mo_comesBack {f : Nat} {V : sp_V} (hR : ow_RF R) (hw : sp_Mw I 77 V) (hV : sp_ok V) (hf : f < sp_n V) (hQ : Q (some (.int (sp_jb (sp_cb V f 6 (sp_to V f))))) (85, I, J, R)) : ow_AM M_Mo_comesBack (d + 1) [.ref 70, .int (nI f)] (85, I, J, R) Q := by
  have hn6 := hV.1
  apply t_Mo_comesBack hR
  have K : ∀ (k i t : Nat), i + k = 6 → t < sp_n V → Q (some (.int (sp_jb (sp_cb V f k (sp_to V t))))) (85, I, J, R) → ow_AW ow_Y0 (ow_Z Q) M_Mo_comesBack (d + 1) 0 0 4 [(0, .ref 70), (1, .int (nI f)), (2, .int (nI t)), (3, .int (nI i))] [] (85, I, J, R) 0 0 := by
    intro k
    induction k with
    | zero =>
      intro i t hi ht hQ
      apply t_Mo_comesBack_4 hR
      rw [show i = 6 by omega]
      exact ⟨fun _ => hQ, fun c => absurd (by decide) c⟩
    | succ k ih =>
      intro i t hi ht hQ
      have hto := (hV.2.2.2 t ht).2.2
      apply t_Mo_comesBack_4 hR
      have hin : vp_in (nI (6 + t)) 14 := vp_in_nI (by omega) (by decide)
      rw [show (6 : Int32) + nI t = nI (6 + t) from nI_add 6 t, sp_cl (by omega), (hw.1 t ht).2, nI_1]
      refine ⟨fun c => absurd c (nI_ge (b := 6) (by omega) (by decide)), fun _ => ⟨hin, fun c => ⟨hin, ?_⟩, fun c => ?_⟩⟩
      · have c2 : sp_to V t ≠ 0 := fun h => c (by rw [h]; rfl)
        obtain ⟨u, hu⟩ : ∃ u, sp_to V t = u + 1 := ⟨sp_to V t - 1, by omega⟩
        rw [hu] at hQ ⊢
        rw [sp_cb] at hQ
        rw [nI_pred]
        refine ⟨fun c3 => ?_, fun c3 => ?_⟩
        · rw [if_neg (fun h => c3 (by rw [h]))] at hQ
          exact ih (i + 1) u (by omega) (by omega) hQ
        · rw [if_pos ((nI_eq (by omega) (by omega)).mp c3)] at hQ
          exact hQ
      · rw [(sp_z (by omega)).mp c] at hQ
        rw [sp_cb] at hQ
        exact hQ
  exact K 6 0 f rfl hf hQ
end SMALL
