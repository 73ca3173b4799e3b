/-! Own rows, by program: winds by draws. -/
def sp_nx (s : Nat) : Nat := (75 * s + 74) % 65537
def sp_wz (wd s : Nat) (c : Bool) : Bool := if s % 100 < wd then !c else c
/-- a letter by draws: with what it is signed, the seed then -/
def sp_dr (V : sp_V) (wd : Nat) : Nat → Nat → Nat → Bool → Nat → Option Bool × Nat
  | 0, _, _, _, s => (none, s)
  | k + 1, m, f, b, s => if m.testBit f = true then (none, s) else match sp_rep V f b with
    | none => (none, s)
    | some c => if sp_to V f = 0 then (some (sp_wz wd (sp_nx s) c), sp_nx s) else sp_dr V wd k (m ||| 2 ^ f) (sp_to V f - 1) (sp_wz wd (sp_nx s) c) (sp_nx s)
/-- the same over a way that is known -/
def sp_wk (V : sp_V) (wd : Nat) : List Nat → Bool → Nat → Bool × Nat
  | [], b, s => (b, s)
  | f :: r, b, s => sp_wk V wd r (sp_wz wd (sp_nx s) ((sp_rep V f b).getD false)) (sp_nx s)
theorem sp_nx_lt (s : Nat) : sp_nx s < 65537 := Nat.mod_lt _ (by decide)
theorem sp_rep_s {V : sp_V} {f : Nat} {b c : Bool} (e : Bool) (h : sp_rep V f b = some c) : ∃ g, sp_rep V f e = some g := by
  have h1 := sp_rep_n (V := V) (f := f) b e
  rw [h] at h1
  cases h2 : sp_rep V f e with
  | none => rw [h2] at h1; simp at h1
  | some g => exact ⟨g, rfl⟩
theorem sp_rep_0 {V : sp_V} {f : Nat} {b : Bool} (e : Bool) (h : sp_rep V f b = none) : sp_rep V f e = none := by
  have h1 := sp_rep_n (V := V) (f := f) b e
  rw [h] at h1
  cases h2 : sp_rep V f e with
  | none => rfl
  | some g => rw [h2] at h1; simp at h1
/-- all on the way of a letter that is signed answer something -/
theorem sp_go_all {V : sp_V} : ∀ (k m f : Nat) (b : Bool) (q : Nat × Bool), (sp_go V k m f b).2.2 = some q → ∀ g ∈ (sp_go V k m f b).1, ∀ e, ∃ c, sp_rep V g e = some c := by
  intro k
  induction k with
  | zero => intro m f b q h; rw [sp_go] at h; cases h
  | succ k ih =>
    intro m f b q h g hg e
    rw [sp_go] at h hg
    by_cases hb : m.testBit f = true
    · rw [if_pos hb] at h; cases h
    · rw [if_neg hb] at h hg
      cases hr : sp_rep V f b with
      | none => rw [hr] at h; cases h
      | some c =>
        rw [hr] at h hg
        dsimp only at h hg
        by_cases ht : sp_to V f = 0
        · rw [if_pos ht] at hg
          rw [List.mem_singleton.mp hg]
          exact sp_rep_s e hr
        · rw [if_neg ht] at h hg
          rcases List.mem_cons.mp hg with h1 | h1
          · rw [h1]
            exact sp_rep_s e hr
          · exact ih _ _ _ q h g h1 e
/-- lost on the way: lost by draws -/
theorem sp_dr_no {V : sp_V} {wd : Nat} : ∀ (k m f : Nat) (b e : Bool) (s : Nat), (sp_go V k m f b).2.2 = none → (sp_dr V wd k m f e s).1 = none := by
  intro k
  induction k with
  | zero => intro m f b e s _; rw [sp_dr]
  | succ k ih =>
    intro m f b e s h
    rw [sp_go] at h
    rw [sp_dr]
    by_cases hb : m.testBit f = true
    · rw [if_pos hb]
    · rw [if_neg hb] at h ⊢
      cases hr : sp_rep V f b with
      | none => rw [sp_rep_0 e hr]
      | some c =>
        obtain ⟨g, hg⟩ := sp_rep_s e hr
        rw [hr] at h
        rw [hg]
        dsimp only at h ⊢
        by_cases ht : sp_to V f = 0
        · rw [if_pos ht] at h; cases h
        · rw [if_neg ht] at h ⊢
          exact ih _ _ c _ _ h
/-- signed on the way: by draws as over the way -/
theorem sp_dr_ok {V : sp_V} {wd : Nat} : ∀ (k m f : Nat) (b e : Bool) (s : Nat) (q : Nat × Bool), (sp_go V k m f b).2.2 = some q → sp_dr V wd k m f e s = (some (sp_wk V wd (sp_go V k m f b).1 e s).1, (sp_wk V wd (sp_go V k m f b).1 e s).2) := by
  intro k
  induction k with
  | zero => intro m f b e s q h; rw [sp_go] at h; cases h
  | succ k ih =>
    intro m f b e s q h
    rw [sp_go] at h ⊢
    rw [sp_dr]
    by_cases hb : m.testBit f = true
    · rw [if_pos hb] at h; cases h
    · rw [if_neg hb] at h
      rw [if_neg hb, if_neg hb]
      cases hr : sp_rep V f b with
      | none => rw [hr] at h; cases h
      | some c =>
        obtain ⟨g, hg⟩ := sp_rep_s e hr
        rw [hr] at h
        rw [hg]
        dsimp only at h ⊢
        by_cases ht : sp_to V f = 0
        · rw [if_pos ht, if_pos ht]
          rw [sp_wk, hg]
          rfl
        · rw [if_neg ht] at h
          rw [if_neg ht, if_neg ht]
          rw [ih _ _ c _ _ q h]
          dsimp only
          rw [sp_wk, hg]
          rfl
theorem sp_nxI {s : Nat} (h : s < 65537) : ((75 : Int32) * nI s + 74) - ((75 : Int32) * nI s + 74) / 65537 * 65537 = nI (sp_nx s) := by
  rw [show (75 : Int32) * nI s = nI (75 * s) from pk_mul 75 s, show nI (75 * s) + 74 = nI (75 * s + 74) from nI_add _ 74]
  exact pk_rem (d := 65537) (by omega) (by decide) (by decide)
theorem sp_rem100 {s : Nat} (h : s < 65537) : nI s - nI s / 100 * 100 = nI (s % 100) := pk_rem (d := 100) (by omega) (by decide) (by decide)
theorem sp_drop {L : List Nat} {i : Nat} (h : i < L.length) : L.drop i = L.getD i 0 :: L.drop (i + 1) := by
  rw [List.drop_eq_getElem_cons h]
  congr 1
  rw [List.getD_eq_getElem?_getD, List.getElem?_eq_getElem h]
  rfl
/-- n letters one behind the other: yeses, the seed -/
def sp_yc (V : sp_V) (wd f : Nat) (b : Bool) (s : Nat) : Nat → Nat × Nat
  | 0 => (0, s)
  | i + 1 => ((sp_yc V wd f b s i).1 + (if (sp_dr V wd 6 0 f b (sp_yc V wd f b s i).2).1 = some true then 1 else 0), (sp_dr V wd 6 0 f b (sp_yc V wd f b s i).2).2)
theorem sp_yc_le {V : sp_V} {wd f : Nat} {b : Bool} {s : Nat} : ∀ i, (sp_yc V wd f b s i).1 ≤ i := by
  intro i
  induction i with
  | zero => exact Nat.le_refl _
  | succ i ih =>
    rw [sp_yc]
    dsimp only
    by_cases h : (sp_dr V wd 6 0 f b (sp_yc V wd f b s i).2).1 = some true
    · rw [if_pos h]; omega
    · rw [if_neg h]; omega
theorem sp_dr_lt {V : sp_V} {wd : Nat} : ∀ (k m f : Nat) (e : Bool) (s : Nat), s < 65537 → (sp_dr V wd k m f e s).2 < 65537 := by
  intro k
  induction k with
  | zero => intro m f e s h; rw [sp_dr]; exact h
  | succ k ih =>
    intro m f e s h
    rw [sp_dr]
    by_cases hb : m.testBit f = true
    · rw [if_pos hb]; exact h
    · rw [if_neg hb]
      cases hr : sp_rep V f e with
      | none => exact h
      | some c =>
        dsimp only
        by_cases ht : sp_to V f = 0
        · rw [if_pos ht]; exact sp_nx_lt s
        · rw [if_neg ht]; exact ih _ _ _ _ (sp_nx_lt s)
theorem sp_yc_lt {V : sp_V} {wd f : Nat} {b : Bool} {s : Nat} (h : s < 65537) : ∀ i, (sp_yc V wd f b s i).2 < 65537 := by
  intro i
  induction i with
  | zero => exact h
  | succ i ih =>
    rw [sp_yc]
    exact sp_dr_lt _ _ _ _ _ ih
theorem sp_yc_0 {V : sp_V} {wd f : Nat} {b : Bool} {s : Nat} (h : (sp_go V 6 0 f b).2.2 = none) : ∀ i, (sp_yc V wd f b s i).1 = 0 := by
  intro i
  induction i with
  | zero => rfl
  | succ i ih =>
    rw [sp_yc]
    dsimp only
    rw [ih, sp_dr_no 6 0 f b b _ h, if_neg (by decide)]
section WIND1
variable {d : Nat} {I : Nat → Nat → Int32} {J : Nat → Nat → Int64} {R : Nat → Nat → Option Nat} {Q : Option Value → ow_H → Prop} {V : sp_V}
theorem c_Winds_blow {wd f s : Nat} {b : Bool} (hR : ow_RF R) (hS : sp_S I 29 V) (hV : sp_ok V) (hf : f < sp_n V) (hwd : I 2 0 = nI wd) (hw : wd ≤ 100) (hs : I 63 2 = nI s) (hs2 : s < 65537)
    (hQ : ∀ I2 : Nat → Nat → Int32, sp_fr [64, 65] [(63, 2)] I I2 → ((sp_go V 6 0 f b).2.2 ≠ none → I2 63 2 = nI (sp_dr V wd 6 0 f b s).2) → (∃ s8, I2 63 2 = nI s8 ∧ s8 < 65537) → Q (some (.int (sp_jo (sp_dr V wd 6 0 f b s).1))) (85, I2, J, R)) : ow_AM M_Winds_blow (d + 3) [.ref 63, .ref 29, .int (nI f), .int (sp_jb b)] (85, I, J, R) Q := by
  have hn6 := hV.1
  apply t_Winds_blow hR
  refine c_Course_run hR (by decide) (by decide) hS hV hf rfl ?_
  intro I4 k0 k1 k2 k3 k4 k5
  refine ⟨I4, J, R, rfl, rfl, hR, ?_⟩
  have f4 : sp_fr [64, 65] [(63, 2)] I I4 := sp_frq k0
  rw [k4]
  cases hq : (sp_go V 6 0 f b).2.2 with
  | none =>
    refine ⟨fun c => absurd rfl c, fun _ => ?_⟩
    have h1 := sp_dr_no (wd := wd) 6 0 f b b s hq
    have K := hQ I4 f4 (fun h => absurd hq h) ⟨s, by rw [k0 63 (by decide)]; exact hs, hs2⟩
    rw [h1] at K
    exact K
  | some q =>
    have hl := (sp_go_in hV 6 0 f b hf).2.2.1
    have hin := (sp_go_in hV 6 0 f b hf).2.1
    have hall := sp_go_all 6 0 f b q hq
    have hd := sp_dr_ok (wd := wd) 6 0 f b b s q hq
    have s4 : I4 63 2 = nI s := by rw [k0 63 (by decide)]; exact hs
    have KL : ow_AW ow_Y0 (ow_Z Q) M_Winds_blow (d + 3) 0 0 39 [(0, .ref 63), (1, .ref 29), (4, .int (sp_jb b)), (5, .int (nI 0))] [] (85, I4, J, R) 0 0 := by
      refine sp_up (σ := (Nat → Nat → Int32) × Bool × Nat) (N := (sp_go V 6 0 f b).1.length) (G := fun i q => ow_AW ow_Y0 (ow_Z Q) M_Winds_blow (d + 3) 0 0 39 [(0, .ref 63), (1, .ref 29), (4, .int (sp_jb q.2.1)), (5, .int (nI i))] [] (85, q.1, J, R) 0 0) (Inv := fun i q => sp_fr [] [(63, 2)] I4 q.1 ∧ q.1 63 2 = nI q.2.2 ∧ q.2.2 < 65537 ∧ sp_wk V wd ((sp_go V 6 0 f b).1.drop i) q.2.1 q.2.2 = sp_wk V wd (sp_go V 6 0 f b).1 b s) ?_ ?_ 0 (I4, b, s) (Nat.zero_le _) ⟨sp_fr_rf, s4, hs2, rfl⟩
      · intro ⟨I1, b1, s1⟩ ⟨a0, a1, a2, a3⟩
        dsimp only at a0 a1 a2 a3 ⊢
        rw [List.drop_length] at a3
        have a3 : (b1, s1) = sp_wk V wd (sp_go V 6 0 f b).1 b s := a3
        apply t_Winds_blow_39 hR
        rw [a0 64 (by decide) 1 (by decide), k1]
        refine ⟨fun _ => ?_, fun c => absurd (Int32.le_refl _) c⟩
        have K := hQ I1 (sp_fr_tr f4 (sp_fr_mono a0 (by decide) (by decide))) (fun _ => by rw [hd, ← a3]; exact a1) ⟨s1, a1, a2⟩
        rw [hd, ← a3] at K
        exact K
      · intro i ⟨I1, b1, s1⟩ hi ⟨a0, a1, a2, a3⟩ ih
        dsimp only at a0 a1 a2 a3 ⊢
        have hg : I1 65 i = nI ((sp_go V 6 0 f b).1.getD i 0) := by rw [sp_fr_row a0 (by decide) (by simp)]; exact k5 i hi
        have hmem : (sp_go V 6 0 f b).1.getD i 0 ∈ (sp_go V 6 0 f b).1 := sp_gd_mem hi
        obtain ⟨c, hc⟩ := hall _ hmem b1
        have hgn := hin _ hmem
        have hS1 : sp_S I1 29 V := sp_S_kr hS (by rw [sp_fr_row a0 (by decide) (by simp), k0 29 (by decide)]) (by rw [sp_fr_row a0 (by decide) (by simp), k0 30 (by decide)]) (by rw [sp_fr_row a0 (by decide) (by simp), k0 31 (by decide)]) (by rw [sp_fr_row a0 (by decide) (by simp), k0 32 (by decide)])
        apply t_Winds_blow_39 hR
        rw [a0 64 (by decide) 1 (by decide), k1, sp_cl (n := i) (by omega), hg]
        refine ⟨fun c => absurd c (nI_ge hi (by omega)), fun _ => ⟨vp_in_nI (by omega) (by decide), ?_⟩⟩
        refine c_Scene_reply hR (by decide) hS1 hV hgn ⟨_, I1, J, R, rfl, rfl, hR, ?_⟩
        rw [hc, a1, sp_nxI a2]
        intro I3 e3
        have w3 : I3 2 0 = nI wd := by rw [e3, ow_u_ne (by decide), a0 2 (by decide) 0 (by decide), k0 2 (by decide)]; exact hwd
        have b3 : I3 63 2 = nI (sp_nx s1) := by rw [e3, ow_u_at]
        have hlt := sp_nx_lt s1
        have f3 : sp_fr [] [(63, 2)] I4 I3 := sp_fr_tr a0 (sp_fr_ue e3 (by simp))
        have hmod := Nat.mod_lt (sp_nx s1) (show 0 < 100 by decide)
        rw [w3, b3, sp_rem100 hlt, nI_leI (a := wd) (by omega) (by omega), nI_1]
        rw [sp_drop hi, sp_wk, hc] at a3
        rw [show sp_jo (some c) = sp_jb c from rfl]
        refine ⟨fun c1 => ?_, fun c1 => ?_⟩
        · have e1 : sp_wz wd (sp_nx s1) ((some c).getD false) = c := by unfold sp_wz; rw [if_neg (by omega)]; rfl
          rw [e1] at a3
          exact ih (I3, c, sp_nx s1) ⟨f3, b3, hlt, a3⟩
        · have e1 : sp_wz wd (sp_nx s1) ((some c).getD false) = !c := by unfold sp_wz; rw [if_pos (by omega)]; rfl
          rw [e1] at a3
          rw [sp_neg]
          exact ih (I3, !c, sp_nx s1) ⟨f3, b3, hlt, a3⟩
    refine ⟨fun _ => ?_, fun c => absurd c (show ¬ sp_jb q.2 = -2 by cases q.2 <;> decide)⟩
    cases b with
    | false => exact ⟨fun _ => KL, fun c => absurd rfl c⟩
    | true => exact ⟨fun c => absurd c (by decide), fun _ => KL⟩
theorem c_Mo_blownLoop {wd : Nat} (hR : ow_RF R) (hS : sp_Mr I 77 V) (hV : sp_ok V) (hwd : I 73 0 = nI wd) (hw : wd ≤ 100) : ∀ (k m f : Nat) (b : Bool) (s : Nat) (I1 : Nat → Nat → Int32), m < 64 → f < sp_n V → sp_pc m + k = 6 → sp_fr [] [(70, 40)] I I1 → I1 70 40 = nI s → s < 65537 →
    (∀ I2 : Nat → Nat → Int32, sp_fr [] [(70, 40)] I I2 → I2 70 40 = nI (sp_dr V wd k m f b s).2 → Q (some (.int (sp_jo (sp_dr V wd k m f b s).1))) (85, I2, J, R)) → ow_AW ow_Y0 (ow_Z Q) M_Mo_blownOf (d + 3) 0 0 16 [(0, .ref 70), (3, .int (nI f)), (4, .int (sp_jb b)), (5, .int (nI m))] [] (85, I1, J, R) 0 0 := by
  have hn6 := hV.1
  intro k
  induction k with
  | zero =>
    intro m f b s I1 hm hf hpc he h1 h2 hQ
    rw [sp_dr] at hQ
    apply t_Mo_blownOf_16 hR
    refine c_Mo_hasBit hR hm (by omega) ⟨_, I1, J, R, rfl, rfl, hR, ?_⟩
    rw [sp_pc_6 m hm (by omega) f (by omega)]
    exact ⟨fun _ => hQ I1 he h1, fun c => absurd c (by decide)⟩
  | succ k ih =>
    intro m f b s I1 hm hf hpc he h1 h2 hQ
    rw [sp_dr] at hQ
    apply t_Mo_blownOf_16 hR
    refine c_Mo_hasBit hR hm (by omega) ⟨_, I1, J, R, rfl, rfl, hR, ?_⟩
    cases hb : m.testBit f with
    | true =>
      rw [hb, if_pos rfl] at hQ
      exact ⟨fun _ => hQ I1 he h1, fun c => absurd c (by decide)⟩
    | false =>
      rw [hb, if_neg (by decide)] at hQ
      refine ⟨fun c => absurd rfl c, fun _ => ?_⟩
      have hS1 := sp_Mr_keep hS (sp_fr_row he (by decide) (by simp)) (sp_fr_row he (by decide) (by simp))
      refine c_Mo_answerOf hR (by decide) hS1 hV hf ⟨_, I1, J, R, rfl, rfl, hR, ?_⟩
      cases hr : sp_rep V f b with
      | none =>
        rw [hr] at hQ
        exact ⟨fun c => absurd c (by decide), fun _ => hQ I1 he h1⟩
      | some c =>
        rw [hr] at hQ
        dsimp only at hQ
        rw [h1, sp_nxI h2]
        refine ⟨fun _ => ?_, fun q => absurd (by cases c <;> decide) q⟩
        intro I3 e3
        have f3 : sp_fr [] [(70, 40)] I I3 := sp_fr_tr he (sp_fr_ue e3 (by simp))
        have w3 : I3 73 0 = nI wd := by rw [f3 73 (by decide) 0 (by decide)]; exact hwd
        have b3 : I3 70 40 = nI (sp_nx s) := by rw [e3, ow_u_at]
        have hlt := sp_nx_lt s
        have hmod := Nat.mod_lt (sp_nx s) (show 0 < 100 by decide)
        have t3 : I3 77 (6 + f) = nI (sp_to V f) := by rw [sp_fr_row f3 (by decide) (by simp)]; exact (hS.1 f hf).2.1
        have hto := (hV.2.2.2 f hf).2.2
        rw [w3, b3, sp_rem100 hlt, nI_leI (a := wd) (by omega) (by omega), show (6 : Int32) + nI f = nI (6 + f) from nI_add 6 f, sp_cl (by omega), t3, (sp_or m hm f (by omega)).1, show sp_jo (some c) = sp_jb c from rfl, sp_neg]
        have Z := sp_z (n := sp_to V f) (by omega)
        rw [Z]
        have hpc2 : sp_pc (m ||| 2 ^ f) + k = 6 := by rw [sp_pc_s m hm f (by omega) hb]; omega
        have KE : sp_to V f = 0 → Q (some (.int (sp_jb (sp_wz wd (sp_nx s) c)))) (85, I3, J, R) := by
          intro ht
          rw [if_pos ht] at hQ
          exact hQ I3 f3 b3
        have KG : ¬ sp_to V f = 0 → ow_AW ow_Y0 (ow_Z Q) M_Mo_blownOf (d + 3) 0 0 16 [(0, .ref 70), (3, .int (nI (sp_to V f) - 1)), (4, .int (sp_jb (sp_wz wd (sp_nx s) c))), (5, .int (nI (m ||| 2 ^ f)))] [] (85, I3, J, R) 0 0 := by
          intro ht
          rw [if_neg ht] at hQ
          rw [show nI (sp_to V f) - 1 = nI (sp_to V f - 1) from pk_sub (b := 1) (by omega)]
          exact ih (m ||| 2 ^ f) (sp_to V f - 1) _ (sp_nx s) I3 (sp_or m hm f (by omega)).2 (by omega) hpc2 f3 b3 hlt hQ
        refine ⟨fun c1 => ⟨vp_in_nI (by omega) (by decide), fun c2 => ⟨vp_in_nI (by omega) (by decide), ?_⟩, fun c2 => ?_⟩, fun c1 => ⟨vp_in_nI (by omega) (by decide), fun c2 => ⟨vp_in_nI (by omega) (by decide), ?_⟩, fun c2 => ?_⟩⟩
        · have K := KG c2
          rw [show sp_wz wd (sp_nx s) c = c from by unfold sp_wz; rw [if_neg (by omega)]] at K
          exact K
        · have K := KE c2
          rw [show sp_wz wd (sp_nx s) c = c from by unfold sp_wz; rw [if_neg (by omega)]] at K
          exact K
        · have K := KG c2
          rw [show sp_wz wd (sp_nx s) c = !c from by unfold sp_wz; rw [if_pos (by omega)]] at K
          exact K
        · have K := KE c2
          rw [show sp_wz wd (sp_nx s) c = !c from by unfold sp_wz; rw [if_pos (by omega)]] at K
          exact K
theorem c_Mo_blownOf {wd f s : Nat} {b : Bool} (hR : ow_RF R) (hS : sp_Mr I 77 V) (hV : sp_ok V) (hf : f < sp_n V) (hwd : I 73 0 = nI wd) (hw : wd ≤ 100) (hs : I 70 40 = nI s) (hs2 : s < 65537)
    (hQ : ∀ I2 : Nat → Nat → Int32, sp_fr [] [(70, 40)] I I2 → I2 70 40 = nI (sp_dr V wd 6 0 f b s).2 → Q (some (.int (sp_jo (sp_dr V wd 6 0 f b s).1))) (85, I2, J, R)) : ow_AM M_Mo_blownOf (d + 3) [.ref 70, .int (nI f), .int (sp_jb b)] (85, I, J, R) Q := by
  apply t_Mo_blownOf hR
  have K := c_Mo_blownLoop (d := d) (J := J) (Q := Q) hR hS hV hwd hw 6 0 f b s I (by decide) hf (by decide) sp_fr_rf hs hs2 hQ
  cases b with
  | false => exact ⟨fun _ => K, fun c => absurd rfl c⟩
  | true => exact ⟨fun c => absurd c (by decide), fun _ => K⟩
theorem sp_jo1 (q : Option Bool) : sp_jo q = 1 ↔ q = some true := by
  cases q with
  | none => exact ⟨fun c => absurd c (by decide), fun c => by cases c⟩
  | some b => cases b with
    | false => exact ⟨fun c => absurd c (by decide), fun c => by cases c⟩
    | true => exact ⟨fun _ => rfl, fun _ => rfl⟩
end WIND1
section PUB60
variable {d : Nat} {I : Nat → Nat → Int32} {R : Nat → Nat → Option Nat} {T : sp_T} {V : sp_V}
theorem rc_blown {f s : Nat} {b : Bool} (hR : ow_RF R) (hC : sp_CN I T V) (hT : st_ok T) (hV : st_now T V) (hf : f < sp_n V) (hs : s ≤ 65536) : sp_rc M_Fs_blown (d + 12) [.ref 0, .int (nI f), .int (sp_jb b), .int (nI s)] I R (some (.int (sp_jo (sp_dr V (st_wd T) 6 0 f b s).1))) 0 := by
  intro J Q hQ
  apply t_Fs_blown hR
  refine c_Fs_lacksFolly hR hC.1 (show I 29 0 = nI (sp_n V) from hC.2.2.1) (by have := st_n6 hV; omega) ?_
  intro I2 g0 g1
  have hx : sp_is (nI f) (sp_n V) = true := decide_eq_true (by have := st_n6 hV; rw [nI_toInt (by omega)]; omega)
  rw [hx] at g1 ⊢
  have hC2 := sp_CN_k hC (sp_cm g0)
  refine ⟨_, I2, J, R, rfl, rfl, hR, ?_⟩
  first | refine ⟨fun _ => ?_, fun c => absurd rfl c⟩ | refine ⟨fun c => absurd rfl c, fun _ => ?_⟩
  refine c_Fs_isOutsideG (a := 0) (b := 65536) hR (by decide) (by decide) ?_
  intro I3 k0 k1
  have hbt : sp_bt (nI s) 0 65536 = true := sp_bt_of (Nat.zero_le _) hs (by decide)
  rw [hbt] at k1 ⊢
  rw [if_pos rfl] at k1
  have f3 : sp_fr sp_cS sp_cE I I3 := sp_fr_tr (sp_cm g0) (sp_cm k0)
  have hC3 := sp_CN_k hC f3
  refine ⟨_, I3, J, R, rfl, rfl, hR, ?_⟩
  first | refine ⟨fun _ => ?_, fun c => absurd rfl c⟩ | refine ⟨fun c => absurd rfl c, fun _ => ?_⟩
  intro I7 e7
  have f7 : sp_fr sp_cS sp_cE I I7 := sp_fr_tr f3 (sp_fr_ue e7 (by decide))
  have hC7 := sp_CN_k hC f7
  have s7 : I7 63 2 = nI s := by rw [e7, ow_u_at]
  have t7 : I7 0 15 = 0 := by rw [e7, ow_u_ne (by decide)]; exact k1
  refine c_Winds_blow (wd := st_wd T) hR hC7.2.2 hV.1 hf hC7.2.1.1 hT.2.2.2.1 s7 (by omega) ?_
  intro I8 m0 _ _
  exact ⟨_, I8, J, R, rfl, rfl, hR, hQ I8 J (sp_fr_tr f7 (sp_fr_mono m0 (by decide) (by decide))) (by rw [m0 0 (by decide) 15 (by decide)]; exact t7)⟩
theorem rc_blown_z {f : Nat} {y z : Int32} (hR : ow_RF R) (hC : sp_CN I T V) (hT : st_ok T) (hV : st_now T V) (hf : f < sp_n V) (hz : sp_bt z 0 65536 = false) : sp_rc M_Fs_blown (d + 12) [.ref 0, .int (nI f), .int y, .int z] I R (some (.int (-1))) 2 := by
  intro J Q hQ
  apply t_Fs_blown hR
  refine c_Fs_lacksFolly hR hC.1 (show I 29 0 = nI (sp_n V) from hC.2.2.1) (by have := st_n6 hV; omega) ?_
  intro I2 g0 g1
  have hx : sp_is (nI f) (sp_n V) = true := decide_eq_true (by have := st_n6 hV; rw [nI_toInt (by omega)]; omega)
  rw [hx] at g1 ⊢
  have hC2 := sp_CN_k hC (sp_cm g0)
  refine ⟨_, I2, J, R, rfl, rfl, hR, ?_⟩
  first | refine ⟨fun _ => ?_, fun c => absurd rfl c⟩ | refine ⟨fun c => absurd rfl c, fun _ => ?_⟩
  refine c_Fs_isOutsideG (a := 0) (b := 65536) hR (by decide) (by decide) ?_
  intro I3 k0 k1
  rw [hz] at k1 ⊢
  rw [if_neg (by decide)] at k1
  refine ⟨_, I3, J, R, rfl, rfl, hR, ?_⟩
  first | refine ⟨fun _ => ?_, fun c => absurd c (by decide)⟩ | refine ⟨fun c => absurd c (by decide), fun _ => ?_⟩
  exact hQ I3 J (sp_fr_tr (sp_cm g0) (sp_cm k0)) k1
theorem rc_blown_no {x : Int32} {y : Int32} {z : Int32} (hR : ow_RF R) (hC : sp_CN I T V) (hT : st_ok T) (hV : st_now T V) (hx : sp_is x (sp_n V) = false) : sp_rc M_Fs_blown (d + 12) [.ref 0, .int x, .int y, .int z] I R (some (.int (-1))) 1 := by
  intro J Q hQ
  apply t_Fs_blown hR
  refine c_Fs_lacksFolly hR hC.1 (show I 29 0 = nI (sp_n V) from hC.2.2.1) (by have := st_n6 hV; omega) ?_
  intro I2 g0 g1
  rw [hx] at g1 ⊢
  refine ⟨_, I2, J, R, rfl, rfl, hR, ?_⟩
  first | exact ⟨fun c => absurd c (by decide), fun _ => hQ I2 J (sp_cm g0) g1⟩ | exact ⟨fun _ => hQ I2 J (sp_cm g0) g1, fun c => absurd c (by decide)⟩
theorem rm_blown {f s : Nat} {b : Bool} (hR : ow_RF R) (hM : sp_MN I T V) (hT : st_ok T) (hV : st_now T V) (hf : f < sp_n V) (hs : s ≤ 65536) : sp_rm M_Mo_blown (d + 12) [.ref 70, .int (nI f), .int (sp_jb b), .int (nI s)] I R (some (.int (sp_jo (sp_dr V (st_wd T) 6 0 f b s).1))) 0 := by
  intro J Q hQ
  apply t_Mo_blown hR
  refine c_Mo_good hR ?_
  intro I2 g0 g1 g2
  refine ⟨I2, J, R, rfl, rfl, hR, ?_⟩
  have h2 := sp_MN_k hM (sp_mm g0)
  refine c_Mo_isFolly hR h2.1 (sp_MN_n h2 hV) (by have := st_n6 hV; omega) ?_
  refine ⟨_, I2, J, R, rfl, rfl, hR, ?_⟩
  refine c_Mo_inG (a := 0) (b := 65536) hR (by decide) (by decide) ?_
  refine ⟨_, I2, J, R, rfl, rfl, hR, ?_⟩
  refine c_Mo_why hR ?_
  refine ⟨_, I2, J, R, rfl, rfl, hR, ?_⟩
  have hx : sp_is (nI f) (sp_n V) = true := decide_eq_true (by have := st_n6 hV; rw [nI_toInt (by omega)]; omega)
  rw [hx]
  have hbt : sp_bt (nI s) 0 65536 = true := sp_bt_of (Nat.zero_le _) hs (by decide)
  rw [hbt, if_pos rfl, if_pos rfl]
  first | refine ⟨fun _ => ?_, fun c => absurd rfl c⟩ | refine ⟨fun c => absurd rfl c, fun _ => ?_⟩
  refine c_Mo_asToldShapes hR (sp_MN_n h2 hV) (st_n6 hV) (sp_MN_q h2 hV) ?_
  intro I3 g3 g4
  refine ⟨I3, J, R, rfl, rfl, hR, ?_⟩
  intro I4 e4
  have f4 : sp_fr sp_mS sp_mE I I4 := sp_fr_tr (sp_fr_tr (sp_mm g0) (sp_mh g3)) (sp_fr_ue e4 (by decide))
  have h4 := sp_MN_k hM f4
  have q4 : sp_Mh I4 V := sp_Mh_k g4 (by rw [e4]; exact ow_u_ne (by decide))
  have r4 : sp_Mr I4 77 V := sp_Mr_of h4.2.2 q4
  have s4 : I4 70 40 = nI s := by rw [e4, ow_u_at]
  have t4 : I4 70 11 = 0 := by rw [e4, ow_u_nk (by decide), g3 70 (by decide)]; exact g2
  refine c_Mo_blownOf (wd := st_wd T) hR r4 hV.1 hf h4.2.1.1 hT.2.2.2.1 s4 (by omega) ?_
  intro I8 m0 _
  exact ⟨_, I8, J, R, rfl, rfl, hR, hQ I8 J (sp_fr_tr f4 (sp_fr_mono m0 (by decide) (by decide))) (by rw [m0 70 (by decide) 11 (by decide)]; exact t4)⟩
theorem rm_blown_z {f : Nat} {y z : Int32} (hR : ow_RF R) (hM : sp_MN I T V) (hT : st_ok T) (hV : st_now T V) (hf : f < sp_n V) (hz : sp_bt z 0 65536 = false) : sp_rm M_Mo_blown (d + 12) [.ref 70, .int (nI f), .int y, .int z] I R (some (.int (-1))) 2 := by
  intro J Q hQ
  apply t_Mo_blown hR
  refine c_Mo_good hR ?_
  intro I2 g0 g1 g2
  refine ⟨I2, J, R, rfl, rfl, hR, ?_⟩
  have h2 := sp_MN_k hM (sp_mm g0)
  refine c_Mo_isFolly hR h2.1 (sp_MN_n h2 hV) (by have := st_n6 hV; omega) ?_
  refine ⟨_, I2, J, R, rfl, rfl, hR, ?_⟩
  refine c_Mo_inG (a := 0) (b := 65536) hR (by decide) (by decide) ?_
  refine ⟨_, I2, J, R, rfl, rfl, hR, ?_⟩
  refine c_Mo_why hR ?_
  refine ⟨_, I2, J, R, rfl, rfl, hR, ?_⟩
  have hx : sp_is (nI f) (sp_n V) = true := decide_eq_true (by have := st_n6 hV; rw [nI_toInt (by omega)]; omega)
  rw [hx]
  rw [hz, if_pos rfl, if_neg (by decide)]
  first | refine ⟨fun _ => ?_, fun c => absurd c (by decide)⟩ | refine ⟨fun c => absurd c (by decide), fun _ => ?_⟩
  refine c_Mo_no hR ?_
  intro I9 n3 n4
  exact ⟨_, I9, J, R, rfl, rfl, hR, hQ I9 J (sp_fr_tr (sp_mm g0) (sp_mm1 n3)) n4⟩
theorem rm_blown_no {x y z : Int32} (hR : ow_RF R) (hM : sp_MN I T V) (hT : st_ok T) (hV : st_now T V) (hx : sp_is x (sp_n V) = false) : sp_rm M_Mo_blown (d + 12) [.ref 70, .int x, .int y, .int z] I R (some (.int (-1))) 1 := by
  intro J Q hQ
  apply t_Mo_blown hR
  refine c_Mo_good hR ?_
  intro I2 g0 g1 g2
  refine ⟨I2, J, R, rfl, rfl, hR, ?_⟩
  have h2 := sp_MN_k hM (sp_mm g0)
  refine c_Mo_isFolly hR h2.1 (sp_MN_n h2 hV) (by have := st_n6 hV; omega) ?_
  refine ⟨_, I2, J, R, rfl, rfl, hR, ?_⟩
  refine c_Mo_inG (a := 0) (b := 65536) hR (by decide) (by decide) ?_
  refine ⟨_, I2, J, R, rfl, rfl, hR, ?_⟩
  refine c_Mo_why hR ?_
  refine ⟨_, I2, J, R, rfl, rfl, hR, ?_⟩
  rw [hx, if_neg (by decide)]
  first | refine ⟨fun _ => ?_, fun c => absurd c (by decide)⟩ | refine ⟨fun c => absurd c (by decide), fun _ => ?_⟩
  refine c_Mo_no hR ?_
  intro I9 n3 n4
  exact ⟨_, I9, J, R, rfl, rfl, hR, hQ I9 J (sp_fr_tr (sp_mm g0) (sp_mm1 n3)) n4⟩
theorem rc_yeses {f s n : Nat} {b : Bool} (hR : ow_RF R) (hC : sp_CN I T V) (hT : st_ok T) (hV : st_now T V) (hf : f < sp_n V) (hs : s ≤ 65536) (hn : n ≤ 60) : sp_rc M_Fs_yeses (d + 12) [.ref 0, .int (nI f), .int (sp_jb b), .int (nI s), .int (nI n)] I R (some (.int (nI (sp_yc V (st_wd T) f b s n).1))) 0 := by
  intro J Q hQ
  apply t_Fs_yeses hR
  refine c_Fs_lacksFolly hR hC.1 (show I 29 0 = nI (sp_n V) from hC.2.2.1) (by have := st_n6 hV; omega) ?_
  intro I2 g0 g1
  have hx : sp_is (nI f) (sp_n V) = true := decide_eq_true (by have := st_n6 hV; rw [nI_toInt (by omega)]; omega)
  rw [hx] at g1 ⊢
  have hC2 := sp_CN_k hC (sp_cm g0)
  refine ⟨_, I2, J, R, rfl, rfl, hR, ?_⟩
  first | refine ⟨fun _ => ?_, fun c => absurd rfl c⟩ | refine ⟨fun c => absurd rfl c, fun _ => ?_⟩
  refine c_Fs_isOutsideG (a := 0) (b := 65536) hR (by decide) (by decide) ?_
  intro I3 k0 k1
  have hbt : sp_bt (nI s) 0 65536 = true := sp_bt_of (Nat.zero_le _) hs (by decide)
  rw [hbt] at k1 ⊢
  rw [if_pos rfl] at k1
  have f3 : sp_fr sp_cS sp_cE I I3 := sp_fr_tr (sp_cm g0) (sp_cm k0)
  have hC3 := sp_CN_k hC f3
  refine ⟨_, I3, J, R, rfl, rfl, hR, ?_⟩
  first | refine ⟨fun _ => ?_, fun c => absurd rfl c⟩ | refine ⟨fun c => absurd rfl c, fun _ => ?_⟩
  refine c_Fs_isOutsideG (a := 0) (b := 60) hR (by decide) (by decide) ?_
  intro I5 p0 p1
  have hbt2 : sp_bt (nI n) 0 60 = true := sp_bt_of (Nat.zero_le _) hn (by decide)
  rw [hbt2] at p1 ⊢
  rw [if_pos rfl] at p1
  have f5 : sp_fr sp_cS sp_cE I I5 := sp_fr_tr f3 (sp_cm p0)
  refine ⟨_, I5, J, R, rfl, rfl, hR, ?_⟩
  first | refine ⟨fun _ => ?_, fun c => absurd rfl c⟩ | refine ⟨fun c => absurd rfl c, fun _ => ?_⟩
  intro I7 e7
  have f7 : sp_fr sp_cS sp_cE I I7 := sp_fr_tr f5 (sp_fr_ue e7 (by decide))
  have hC7 := sp_CN_k hC f7
  have s7 : I7 63 2 = nI s := by rw [e7, ow_u_at]
  have t7 : I7 0 15 = 0 := by rw [e7, ow_u_ne (by decide)]; exact p1
  refine sp_up (N := n) (G := fun i I1 => ow_AW ow_Y0 (ow_Z Q) M_Fs_yeses (d + 12) 0 0 48 [(0, .ref 0), (1, .int (nI f)), (2, .int (sp_jb b)), (4, .int (nI n)), (5, .int (nI (sp_yc V (st_wd T) f b s i).1)), (6, .int (nI i))] [] (85, I1, J, R) 0 0) (Inv := fun i I1 => sp_fr sp_cS sp_cE I I1 ∧ I1 0 15 = 0 ∧ ∃ s1, I1 63 2 = nI s1 ∧ s1 < 65537 ∧ ((sp_go V 6 0 f b).2.2 ≠ none → s1 = (sp_yc V (st_wd T) f b s i).2)) ?_ ?_ 0 I7 (Nat.zero_le _) ⟨f7, t7, s, s7, by omega, fun _ => rfl⟩
  · intro I1 ⟨a0, a1, _⟩
    apply t_Fs_yeses_48 hR
    exact ⟨fun _ => hQ I1 J a0 a1, fun c => absurd (Int32.le_refl _) c⟩
  · intro i I1 hi ⟨a0, a1, s1, a2, a3, a4⟩ ih
    have hC1 := sp_CN_k hC a0
    apply t_Fs_yeses_48 hR
    refine ⟨fun c => absurd c (nI_ge hi (by omega)), fun _ => ?_⟩
    refine c_Winds_blow (wd := st_wd T) hR hC1.2.2 hV.1 hf hC1.2.1.1 hT.2.2.2.1 a2 a3 ?_
    intro I8 m0 m1 m2
    refine ⟨_, I8, J, R, rfl, rfl, hR, ?_⟩
    have f8 : sp_fr sp_cS sp_cE I I8 := sp_fr_tr a0 (sp_fr_mono m0 (by decide) (by decide))
    have t8 : I8 0 15 = 0 := by rw [m0 0 (by decide) 15 (by decide)]; exact a1
    rw [nI_1, nI_1]
    cases hq : (sp_go V 6 0 f b).2.2 with
    | none =>
      have h0 := sp_dr_no (wd := st_wd T) 6 0 f b b s1 hq
      rw [h0]
      refine ⟨fun _ => ?_, fun c => absurd c (by decide)⟩
      obtain ⟨s8, c8, d8⟩ := m2
      have K := ih I8 ⟨f8, t8, s8, c8, d8, fun h => absurd hq h⟩
      rw [sp_yc_0 hq] at K ⊢
      exact K
    | some q =>
      have hne : (sp_go V 6 0 f b).2.2 ≠ none := by rw [hq]; exact fun c => by cases c
      have e1 := a4 hne
      rw [e1] at m1 ⊢
      have K := ih I8 ⟨f8, t8, _, m1 hne, sp_dr_lt _ _ _ _ _ (by rw [← e1]; exact a3), fun _ => rfl⟩
      rw [sp_yc] at K
      dsimp only at K
      rw [sp_jo1]
      refine ⟨fun c => ?_, fun c => ?_⟩
      · rw [if_neg c] at K
        exact K
      · rw [if_pos c] at K
        exact K
theorem rc_yeses_s {f : Nat} {y z u : Int32} (hR : ow_RF R) (hC : sp_CN I T V) (hT : st_ok T) (hV : st_now T V) (hf : f < sp_n V) (hz : sp_bt z 0 65536 = false) : sp_rc M_Fs_yeses (d + 12) [.ref 0, .int (nI f), .int y, .int z, .int u] I R (some (.int (-1))) 2 := by
  intro J Q hQ
  apply t_Fs_yeses hR
  refine c_Fs_lacksFolly hR hC.1 (show I 29 0 = nI (sp_n V) from hC.2.2.1) (by have := st_n6 hV; omega) ?_
  intro I2 g0 g1
  have hx : sp_is (nI f) (sp_n V) = true := decide_eq_true (by have := st_n6 hV; rw [nI_toInt (by omega)]; omega)
  rw [hx] at g1 ⊢
  have hC2 := sp_CN_k hC (sp_cm g0)
  refine ⟨_, I2, J, R, rfl, rfl, hR, ?_⟩
  first | refine ⟨fun _ => ?_, fun c => absurd rfl c⟩ | refine ⟨fun c => absurd rfl c, fun _ => ?_⟩
  refine c_Fs_isOutsideG (a := 0) (b := 65536) hR (by decide) (by decide) ?_
  intro I3 k0 k1
  rw [hz] at k1 ⊢
  rw [if_neg (by decide)] at k1
  refine ⟨_, I3, J, R, rfl, rfl, hR, ?_⟩
  first | refine ⟨fun _ => ?_, fun c => absurd c (by decide)⟩ | refine ⟨fun c => absurd c (by decide), fun _ => ?_⟩
  exact hQ I3 J (sp_fr_tr (sp_cm g0) (sp_cm k0)) k1
theorem rc_yeses_z {f s : Nat} {y z : Int32} (hR : ow_RF R) (hC : sp_CN I T V) (hT : st_ok T) (hV : st_now T V) (hf : f < sp_n V) (hs : s ≤ 65536) (hz : sp_bt z 0 60 = false) : sp_rc M_Fs_yeses (d + 12) [.ref 0, .int (nI f), .int y, .int (nI s), .int z] I R (some (.int (-1))) 2 := by
  intro J Q hQ
  apply t_Fs_yeses hR
  refine c_Fs_lacksFolly hR hC.1 (show I 29 0 = nI (sp_n V) from hC.2.2.1) (by have := st_n6 hV; omega) ?_
  intro I2 g0 g1
  have hx : sp_is (nI f) (sp_n V) = true := decide_eq_true (by have := st_n6 hV; rw [nI_toInt (by omega)]; omega)
  rw [hx] at g1 ⊢
  have hC2 := sp_CN_k hC (sp_cm g0)
  refine ⟨_, I2, J, R, rfl, rfl, hR, ?_⟩
  first | refine ⟨fun _ => ?_, fun c => absurd rfl c⟩ | refine ⟨fun c => absurd rfl c, fun _ => ?_⟩
  refine c_Fs_isOutsideG (a := 0) (b := 65536) hR (by decide) (by decide) ?_
  intro I3 k0 k1
  have hbt : sp_bt (nI s) 0 65536 = true := sp_bt_of (Nat.zero_le _) hs (by decide)
  rw [hbt] at k1 ⊢
  rw [if_pos rfl] at k1
  have f3 : sp_fr sp_cS sp_cE I I3 := sp_fr_tr (sp_cm g0) (sp_cm k0)
  have hC3 := sp_CN_k hC f3
  refine ⟨_, I3, J, R, rfl, rfl, hR, ?_⟩
  first | refine ⟨fun _ => ?_, fun c => absurd rfl c⟩ | refine ⟨fun c => absurd rfl c, fun _ => ?_⟩
  refine c_Fs_isOutsideG (a := 0) (b := 60) hR (by decide) (by decide) ?_
  intro I5 p0 p1
  rw [hz] at p1 ⊢
  rw [if_neg (by decide)] at p1
  refine ⟨_, I5, J, R, rfl, rfl, hR, ?_⟩
  first | refine ⟨fun _ => ?_, fun c => absurd c (by decide)⟩ | refine ⟨fun c => absurd c (by decide), fun _ => ?_⟩
  exact hQ I5 J (sp_fr_tr f3 (sp_cm p0)) p1
theorem rc_yeses_no {x : Int32} {y : Int32} {z : Int32} {u : Int32} (hR : ow_RF R) (hC : sp_CN I T V) (hT : st_ok T) (hV : st_now T V) (hx : sp_is x (sp_n V) = false) : sp_rc M_Fs_yeses (d + 12) [.ref 0, .int x, .int y, .int z, .int u] I R (some (.int (-1))) 1 := by
  intro J Q hQ
  apply t_Fs_yeses hR
  refine c_Fs_lacksFolly hR hC.1 (show I 29 0 = nI (sp_n V) from hC.2.2.1) (by have := st_n6 hV; omega) ?_
  intro I2 g0 g1
  rw [hx] at g1 ⊢
  refine ⟨_, I2, J, R, rfl, rfl, hR, ?_⟩
  first | exact ⟨fun c => absurd c (by decide), fun _ => hQ I2 J (sp_cm g0) g1⟩ | exact ⟨fun _ => hQ I2 J (sp_cm g0) g1, fun c => absurd c (by decide)⟩
theorem rm_yeses {f s n : Nat} {b : Bool} (hR : ow_RF R) (hM : sp_MN I T V) (hT : st_ok T) (hV : st_now T V) (hf : f < sp_n V) (hs : s ≤ 65536) (hn : n ≤ 60) : sp_rm M_Mo_yeses (d + 12) [.ref 70, .int (nI f), .int (sp_jb b), .int (nI s), .int (nI n)] I R (some (.int (nI (sp_yc V (st_wd T) f b s n).1))) 0 := by
  intro J Q hQ
  apply t_Mo_yeses hR
  refine c_Mo_good hR ?_
  intro I2 g0 g1 g2
  refine ⟨I2, J, R, rfl, rfl, hR, ?_⟩
  have h2 := sp_MN_k hM (sp_mm g0)
  refine c_Mo_isFolly hR h2.1 (sp_MN_n h2 hV) (by have := st_n6 hV; omega) ?_
  refine ⟨_, I2, J, R, rfl, rfl, hR, ?_⟩
  refine c_Mo_inG (a := 0) (b := 65536) hR (by decide) (by decide) ?_
  refine ⟨_, I2, J, R, rfl, rfl, hR, ?_⟩
  have hx : sp_is (nI f) (sp_n V) = true := decide_eq_true (by have := st_n6 hV; rw [nI_toInt (by omega)]; omega)
  rw [hx]
  have hbt : sp_bt (nI s) 0 65536 = true := sp_bt_of (Nat.zero_le _) hs (by decide)
  rw [hbt]
  refine ⟨fun c => absurd c (by decide), fun _ => ?_⟩
  refine c_Mo_inG (a := 0) (b := 60) hR (by decide) (by decide) ?_
  refine ⟨_, I2, J, R, rfl, rfl, hR, ?_⟩
  have hbt2 : sp_bt (nI n) 0 60 = true := sp_bt_of (Nat.zero_le _) hn (by decide)
  rw [hbt2]
  refine ⟨fun c => absurd c (by decide), fun _ => ?_⟩
  refine c_Mo_why (a := true) (b := true) hR ?_
  refine ⟨_, I2, J, R, rfl, rfl, hR, ?_⟩
  rw [if_pos rfl, if_pos rfl]
  first | refine ⟨fun _ => ?_, fun c => absurd rfl c⟩ | refine ⟨fun c => absurd rfl c, fun _ => ?_⟩
  refine c_Mo_asToldShapes hR (sp_MN_n h2 hV) (st_n6 hV) (sp_MN_q h2 hV) ?_
  intro I3 g3 g4
  refine ⟨I3, J, R, rfl, rfl, hR, ?_⟩
  intro I4 e4
  have f4 : sp_fr sp_mS sp_mE I I4 := sp_fr_tr (sp_fr_tr (sp_mm g0) (sp_mh g3)) (sp_fr_ue e4 (by decide))
  have h4 := sp_MN_k hM f4
  have q4 : sp_Mh I4 V := sp_Mh_k g4 (by rw [e4]; exact ow_u_ne (by decide))
  have r4 : sp_Mr I4 77 V := sp_Mr_of h4.2.2 q4
  have s4 : I4 70 40 = nI s := by rw [e4, ow_u_at]
  have t4 : I4 70 11 = 0 := by rw [e4, ow_u_nk (by decide), g3 70 (by decide)]; exact g2
  refine sp_up (N := n) (G := fun i I1 => ow_AW ow_Y0 (ow_Z Q) M_Mo_yeses (d + 12) 0 0 69 [(0, .ref 70), (1, .int (nI f)), (2, .int (sp_jb b)), (4, .int (nI n)), (6, .int (nI (sp_yc V (st_wd T) f b s i).1)), (7, .int (nI i))] [] (85, I1, J, R) 0 0) (Inv := fun i I1 => sp_fr [] [(70, 40)] I4 I1 ∧ I1 70 40 = nI (sp_yc V (st_wd T) f b s i).2) ?_ ?_ 0 I4 (Nat.zero_le _) ⟨sp_fr_rf, s4⟩
  · intro I1 ⟨a0, _⟩
    apply t_Mo_yeses_69 hR
    exact ⟨fun _ => hQ I1 J (sp_fr_tr f4 (sp_fr_mono a0 (by decide) (by decide))) (by rw [a0 70 (by decide) 11 (by decide)]; exact t4), fun c => absurd (Int32.le_refl _) c⟩
  · intro i I1 hi ⟨a0, a1⟩ ih
    have r1 : sp_Mr I1 77 V := sp_Mr_keep r4 (sp_fr_row a0 (by decide) (by simp)) (sp_fr_row a0 (by decide) (by simp))
    apply t_Mo_yeses_69 hR
    refine ⟨fun c => absurd c (nI_ge hi (by omega)), fun _ => ?_⟩
    refine c_Mo_blownOf (wd := st_wd T) hR r1 hV.1 hf (by rw [a0 73 (by decide) 0 (by decide)]; exact h4.2.1.1) hT.2.2.2.1 a1 (sp_yc_lt (by omega) i) ?_
    intro I8 m0 m1
    refine ⟨_, I8, J, R, rfl, rfl, hR, ?_⟩
    have K := ih I8 ⟨sp_fr_tr a0 m0, m1⟩
    rw [sp_yc] at K
    dsimp only at K
    rw [nI_1, nI_1, sp_jo1]
    refine ⟨fun c => ?_, fun c => ?_⟩
    · rw [if_neg c] at K
      rw [show nI (sp_yc V (st_wd T) f b s i).1 + 0 = nI ((sp_yc V (st_wd T) f b s i).1 + 0) from nI_add _ 0]
      exact K
    · rw [if_pos c] at K
      exact K
theorem rm_yeses_s {f : Nat} {y z u : Int32} (hR : ow_RF R) (hM : sp_MN I T V) (hT : st_ok T) (hV : st_now T V) (hf : f < sp_n V) (hz : sp_bt z 0 65536 = false) : sp_rm M_Mo_yeses (d + 12) [.ref 70, .int (nI f), .int y, .int z, .int u] I R (some (.int (-1))) 2 := by
  intro J Q hQ
  apply t_Mo_yeses hR
  refine c_Mo_good hR ?_
  intro I2 g0 g1 g2
  refine ⟨I2, J, R, rfl, rfl, hR, ?_⟩
  have h2 := sp_MN_k hM (sp_mm g0)
  refine c_Mo_isFolly hR h2.1 (sp_MN_n h2 hV) (by have := st_n6 hV; omega) ?_
  refine ⟨_, I2, J, R, rfl, rfl, hR, ?_⟩
  refine c_Mo_inG (a := 0) (b := 65536) hR (by decide) (by decide) ?_
  refine ⟨_, I2, J, R, rfl, rfl, hR, ?_⟩
  have hx : sp_is (nI f) (sp_n V) = true := decide_eq_true (by have := st_n6 hV; rw [nI_toInt (by omega)]; omega)
  rw [hx]
  rw [hz]
  refine ⟨fun _ => ?_, fun c => absurd rfl c⟩
  refine c_Mo_why (a := true) (b := false) hR ?_
  refine ⟨_, I2, J, R, rfl, rfl, hR, ?_⟩
  rw [if_pos rfl, if_neg (by decide)]
  first | refine ⟨fun _ => ?_, fun c => absurd c (by decide)⟩ | refine ⟨fun c => absurd c (by decide), fun _ => ?_⟩
  refine c_Mo_no hR ?_
  intro I9 n3 n4
  exact ⟨_, I9, J, R, rfl, rfl, hR, hQ I9 J (sp_fr_tr (sp_mm g0) (sp_mm1 n3)) n4⟩
theorem rm_yeses_z {f s : Nat} {y z : Int32} (hR : ow_RF R) (hM : sp_MN I T V) (hT : st_ok T) (hV : st_now T V) (hf : f < sp_n V) (hs : s ≤ 65536) (hz : sp_bt z 0 60 = false) : sp_rm M_Mo_yeses (d + 12) [.ref 70, .int (nI f), .int y, .int (nI s), .int z] I R (some (.int (-1))) 2 := by
  intro J Q hQ
  apply t_Mo_yeses hR
  refine c_Mo_good hR ?_
  intro I2 g0 g1 g2
  refine ⟨I2, J, R, rfl, rfl, hR, ?_⟩
  have h2 := sp_MN_k hM (sp_mm g0)
  refine c_Mo_isFolly hR h2.1 (sp_MN_n h2 hV) (by have := st_n6 hV; omega) ?_
  refine ⟨_, I2, J, R, rfl, rfl, hR, ?_⟩
  refine c_Mo_inG (a := 0) (b := 65536) hR (by decide) (by decide) ?_
  refine ⟨_, I2, J, R, rfl, rfl, hR, ?_⟩
  have hx : sp_is (nI f) (sp_n V) = true := decide_eq_true (by have := st_n6 hV; rw [nI_toInt (by omega)]; omega)
  rw [hx]
  have hbt : sp_bt (nI s) 0 65536 = true := sp_bt_of (Nat.zero_le _) hs (by decide)
  rw [hbt]
  refine ⟨fun c => absurd c (by decide), fun _ => ?_⟩
  refine c_Mo_inG (a := 0) (b := 60) hR (by decide) (by decide) ?_
  refine ⟨_, I2, J, R, rfl, rfl, hR, ?_⟩
  rw [hz]
  refine ⟨fun _ => ?_, fun c => absurd rfl c⟩
  refine c_Mo_why (a := true) (b := false) hR ?_
  refine ⟨_, I2, J, R, rfl, rfl, hR, ?_⟩
  rw [if_pos rfl, if_neg (by decide)]
  first | refine ⟨fun _ => ?_, fun c => absurd c (by decide)⟩ | refine ⟨fun c => absurd c (by decide), fun _ => ?_⟩
  refine c_Mo_no hR ?_
  intro I9 n3 n4
  exact ⟨_, I9, J, R, rfl, rfl, hR, hQ I9 J (sp_fr_tr (sp_mm g0) (sp_mm1 n3)) n4⟩
theorem rm_yeses_no {x y z u : Int32} (hR : ow_RF R) (hM : sp_MN I T V) (hT : st_ok T) (hV : st_now T V) (hx : sp_is x (sp_n V) = false) : sp_rm M_Mo_yeses (d + 12) [.ref 70, .int x, .int y, .int z, .int u] I R (some (.int (-1))) 1 := by
  intro J Q hQ
  apply t_Mo_yeses hR
  refine c_Mo_good hR ?_
  intro I2 g0 g1 g2
  refine ⟨I2, J, R, rfl, rfl, hR, ?_⟩
  have h2 := sp_MN_k hM (sp_mm g0)
  refine c_Mo_isFolly hR h2.1 (sp_MN_n h2 hV) (by have := st_n6 hV; omega) ?_
  refine ⟨_, I2, J, R, rfl, rfl, hR, ?_⟩
  refine c_Mo_inG (a := 0) (b := 65536) hR (by decide) (by decide) ?_
  refine ⟨_, I2, J, R, rfl, rfl, hR, ?_⟩
  rw [hx]
  cases h1 : sp_bt z 0 65536 with
  | false =>
    refine ⟨fun _ => ?_, fun c => absurd rfl c⟩
    refine c_Mo_why (a := false) (b := false) hR ?_
    refine ⟨_, I2, J, R, rfl, rfl, hR, ?_⟩
    rw [if_neg (by decide)]
    first | refine ⟨fun _ => ?_, fun c => absurd c (by decide)⟩ | refine ⟨fun c => absurd c (by decide), fun _ => ?_⟩
    refine c_Mo_no hR ?_
    intro I9 n3 n4
    exact ⟨_, I9, J, R, rfl, rfl, hR, hQ I9 J (sp_fr_tr (sp_mm g0) (sp_mm1 n3)) n4⟩
  | true =>
    refine ⟨fun c => absurd c (by decide), fun _ => ?_⟩
    refine c_Mo_inG (a := 0) (b := 60) hR (by decide) (by decide) ?_
    refine ⟨_, I2, J, R, rfl, rfl, hR, ?_⟩
    cases h2 : sp_bt u 0 60 with
    | false =>
      refine ⟨fun _ => ?_, fun c => absurd rfl c⟩
      refine c_Mo_why (a := false) (b := false) hR ?_
      refine ⟨_, I2, J, R, rfl, rfl, hR, ?_⟩
      rw [if_neg (by decide)]
      first | refine ⟨fun _ => ?_, fun c => absurd c (by decide)⟩ | refine ⟨fun c => absurd c (by decide), fun _ => ?_⟩
      refine c_Mo_no hR ?_
      intro I9 n3 n4
      exact ⟨_, I9, J, R, rfl, rfl, hR, hQ I9 J (sp_fr_tr (sp_mm g0) (sp_mm1 n3)) n4⟩
    | true =>
      refine ⟨fun c => absurd c (by decide), fun _ => ?_⟩
      refine c_Mo_why (a := false) (b := true) hR ?_
      refine ⟨_, I2, J, R, rfl, rfl, hR, ?_⟩
      rw [if_neg (by decide)]
      first | refine ⟨fun _ => ?_, fun c => absurd c (by decide)⟩ | refine ⟨fun c => absurd c (by decide), fun _ => ?_⟩
      refine c_Mo_no hR ?_
      intro I9 n3 n4
      exact ⟨_, I9, J, R, rfl, rfl, hR, hQ I9 J (sp_fr_tr (sp_mm g0) (sp_mm1 n3)) n4⟩
end PUB60
