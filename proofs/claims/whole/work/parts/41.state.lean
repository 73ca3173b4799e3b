/-! Own rows: what is told and what is now, as the two hold it. -/
/-- what a text tells: the follies in year 0, wind and rot, estates (how many, their follies, their debts), the veiled, the letters signed (how many, which, how they came back) -/
abbrev sp_T : Type := sp_V × (Nat × Nat) × (Nat × (Nat → Nat) × (Nat → Nat)) × (Nat × (Nat → Nat)) × (Nat × (Nat → Nat) × (Nat → Option Bool))
def st_v (T : sp_T) : sp_V := T.1
def st_n (T : sp_T) : Nat := sp_n T.1
def st_wd (T : sp_T) : Nat := T.2.1.1
def st_rt (T : sp_T) : Nat := T.2.1.2
def st_ne (T : sp_T) : Nat := T.2.2.1.1
def st_ef (T : sp_T) : Nat → Nat := T.2.2.1.2.1
def st_de (T : sp_T) : Nat → Nat := T.2.2.1.2.2
def st_nv (T : sp_T) : Nat := T.2.2.2.1.1
def st_vf (T : sp_T) : Nat → Nat := T.2.2.2.1.2
def st_ns (T : sp_T) : Nat := T.2.2.2.2.1
def st_sl (T : sp_T) : Nat → Nat := T.2.2.2.2.2.1
def st_sa (T : sp_T) : Nat → Option Bool := T.2.2.2.2.2.2
def st_ok (T : sp_T) : Prop := sp_ok (st_v T) ∧ 1 ≤ st_n T ∧ sp_y (st_v T) = 0 ∧ st_wd T ≤ 100 ∧ st_rt T < 10 ∧ st_ne T ≤ 5 ∧ (∀ e, e < st_ne T → st_ef T e < st_n T ∧ st_de T e < 100) ∧ st_nv T ≤ 3 ∧ (∀ k, k < st_nv T → st_vf T k < st_n T) ∧ (∀ i j, i < st_nv T → j < st_nv T → st_vf T i = st_vf T j → i = j) ∧ st_ns T ≤ 5 ∧ ∀ k, k < st_ns T → st_sl T k < 2 * st_n T
def st_eo (T : sp_T) : Nat → Nat := sp_eo (st_ne T) (st_ef T)
/-- the reference holds T -/
def sp_mt (I : Nat → Nat → Int32) (T : sp_T) : Prop := I 73 0 = nI (st_wd T) ∧ I 73 1 = nI (st_rt T) ∧ I 73 2 = nI (st_n T) ∧ I 73 3 = nI (st_ne T) ∧ I 73 4 = nI (st_nv T) ∧ I 73 5 = nI (st_ns T) ∧ (∀ f, f < st_n T → I 73 (7 + 2 * f) = nI (sp_sh (st_v T) f) ∧ I 73 (8 + 2 * f) = nI (sp_so (st_v T) f)) ∧ (∀ e, e < st_ne T → I 73 (19 + 2 * e) = nI (st_ef T e) ∧ I 73 (20 + 2 * e) = nI (st_de T e)) ∧ (∀ k, k < st_nv T → I 73 (29 + k) = nI (st_vf T k)) ∧ (∀ k, k < st_ns T → I 73 (32 + 3 * k) = nI (st_sl T k / 2) ∧ I 73 (33 + 3 * k) = nI (st_sl T k % 2) ∧ I 73 (34 + 3 * k) = sp_jo (st_sa T k)) ∧ sp_Mw I 75 (st_v T)
/-- the object holds T -/
def sp_ct (I : Nat → Nat → Int32) (T : sp_T) : Prop := I 2 0 = nI (st_wd T) ∧ I 2 1 = nI (st_rt T) ∧ I 2 3 = nI (st_ne T) ∧ I 2 7 = nI (st_nv T) ∧ I 2 9 = nI (st_ns T) ∧ sp_S I 3 (st_v T) ∧ (∀ e, e < st_ne T → I 7 e = nI (st_ef T e) ∧ I 8 e = nI (st_de T e)) ∧ (∀ g, g < st_n T → I 9 g = nI (st_eo T g)) ∧ (∀ k, k < st_nv T → I 10 k = nI (st_vf T k)) ∧ ∀ k, k < st_ns T → I 11 k = nI (st_sl T k) ∧ I 12 k = sp_jo (st_sa T k)
/-- what is now goes with what is told -/
def st_now (T : sp_T) (V : sp_V) : Prop := sp_ok V ∧ sp_n V = st_n T ∧ sp_y V < 1000 ∧ ∀ f, f < st_n T → sp_sh V f = sp_sh (st_v T) f
/-- cells and slots of work: of the object, of the reference -/
def sp_cS : List Nat := [33, 34, 35, 36, 37, 38, 40, 41, 42, 43, 44, 45, 47, 48, 49, 50, 51, 52, 53, 55, 56, 57, 58, 59, 60, 64, 65]
def sp_cE : List (Nat × Nat) := [(0, 15), (39, 3), (39, 4), (39, 5), (39, 6), (46, 6), (46, 7), (46, 8), (54, 5), (54, 6), (63, 2)]
def sp_mS : List Nat := [80, 81, 82, 83]
def sp_mE : List (Nat × Nat) := [(70, 0), (70, 11), (70, 26), (70, 27), (70, 28), (70, 29), (70, 30), (70, 32), (70, 33), (70, 35), (70, 36), (70, 40)]
theorem sp_rows {S : List Nat} {E : List (Nat × Nat)} {I I2 : Nat → Nat → Int32} (h : sp_fr S E I I2) (L : List Nat) (hL : ∀ a ∈ L, a ∉ S ∧ a ∉ E.map (fun q => q.1)) : ∀ a ∈ L, I2 a = I a := fun a ha => sp_fr_row h (hL a ha).1 (fun k q => (hL a ha).2 (List.mem_map.mpr ⟨_, q, rfl⟩))
theorem sp_ct_k {I I2 : Nat → Nat → Int32} {T : sp_T} (h : sp_ct I T) (hr : ∀ a ∈ [2, 3, 4, 5, 6, 7, 8, 9, 10, 11, 12], I2 a = I a) : sp_ct I2 T := by
  unfold sp_ct sp_S at h ⊢
  rw [hr 2 (by decide), hr 3 (by decide), hr (3 + 1) (by decide), hr (3 + 2) (by decide), hr (3 + 3) (by decide), hr 7 (by decide), hr 8 (by decide), hr 9 (by decide), hr 10 (by decide), hr 11 (by decide), hr 12 (by decide)]
  exact h
theorem sp_mt_k {I I2 : Nat → Nat → Int32} {T : sp_T} (h : sp_mt I T) (h1 : I2 73 = I 73) (h2 : I2 75 = I 75) : sp_mt I2 T := by
  unfold sp_mt sp_Mw at h ⊢
  rw [h1, h2]
  exact h
/-- of the reference's method: what it answers, and TROUBLE then; the rest as it was -/
def sp_rm (M : ow_M) (d : Nat) (av : List Value) (I : Nat → Nat → Int32) (R : Nat → Nat → Option Nat) (res : Option Value) (tr : Int32) : Prop := ∀ (J : Nat → Nat → Int64) (Q : Option Value → ow_H → Prop), (∀ (I2 : Nat → Nat → Int32) (J2 : Nat → Nat → Int64), sp_fr sp_mS sp_mE I I2 → I2 70 11 = tr → Q res (85, I2, J2, R)) → ow_AM M d av (85, I, J, R) Q
def sp_rc (M : ow_M) (d : Nat) (av : List Value) (I : Nat → Nat → Int32) (R : Nat → Nat → Option Nat) (res : Option Value) (tr : Int32) : Prop := ∀ (J : Nat → Nat → Int64) (Q : Option Value → ow_H → Prop), (∀ (I2 : Nat → Nat → Int32) (J2 : Nat → Nat → Int64), sp_fr sp_cS sp_cE I I2 → I2 0 15 = tr → Q res (85, I2, J2, R)) → ow_AM M d av (85, I, J, R) Q
/-- the reference as it stands with a shire -/
def sp_MN (I : Nat → Nat → Int32) (T : sp_T) (V : sp_V) : Prop := I 70 14 = 1 ∧ sp_mt I T ∧ sp_Mw I 77 V
theorem sp_MN_k {I I2 : Nat → Nat → Int32} {T : sp_T} {V : sp_V} (h : sp_MN I T V) (hf : sp_fr sp_mS sp_mE I I2) : sp_MN I2 T V := ⟨by rw [hf 70 (by decide) 14 (by decide)]; exact h.1, sp_mt_k h.2.1 (sp_fr_row hf (by decide) (by simp [sp_mE])) (sp_fr_row hf (by decide) (by simp [sp_mE])), sp_Mw_k h.2.2 (sp_fr_row hf (by decide) (by simp [sp_mE]))⟩
theorem sp_MN_T {I : Nat → Nat → Int32} {T : sp_T} {V : sp_V} (h : sp_MN I T V) (hT : st_ok T) (hV : st_now T V) : sp_MT I V (st_ne T) (st_ef T) := ⟨by rw [hV.2.1]; exact h.2.1.2.2.1, h.2.1.2.2.2.1, hT.2.2.2.2.2.1, fun e he => ⟨(h.2.1.2.2.2.2.2.2.2.1 e he).1, by rw [hV.2.1]; exact (hT.2.2.2.2.2.2.1 e he).1⟩⟩
theorem sp_MN_q {I : Nat → Nat → Int32} {T : sp_T} {V : sp_V} (h : sp_MN I T V) (hV : st_now T V) : sp_Mq I V := fun f hf => by rw [hV.2.2.2 f (by rw [← hV.2.1]; exact hf)]; exact (h.2.1.2.2.2.2.2.2.1 f (by rw [← hV.2.1]; exact hf)).1
theorem sp_MN_n {I : Nat → Nat → Int32} {T : sp_T} {V : sp_V} (h : sp_MN I T V) (hV : st_now T V) : I 73 2 = nI (sp_n V) := by rw [hV.2.1]; exact h.2.1.2.2.1
/-- the object as it stands with a shire -/
def sp_CN (I : Nat → Nat → Int32) (T : sp_T) (V : sp_V) : Prop := I 0 14 = 1 ∧ sp_ct I T ∧ sp_S I 29 V
theorem sp_CN_k {I I2 : Nat → Nat → Int32} {T : sp_T} {V : sp_V} (h : sp_CN I T V) (hf : sp_fr sp_cS sp_cE I I2) : sp_CN I2 T V := by
  have hr := sp_rows hf [2, 3, 4, 5, 6, 7, 8, 9, 10, 11, 12, 29, 30, 31, 32] (by decide)
  refine ⟨by rw [hf 0 (by decide) 14 (by decide)]; exact h.1, sp_ct_k h.2.1 (fun a ha => hr a ?_), sp_S_kr h.2.2 (hr 29 (by decide)) (hr 30 (by decide)) (hr 31 (by decide)) (hr 32 (by decide))⟩
  simp only [List.mem_cons, List.not_mem_nil, or_false] at ha ⊢
  omega
theorem sp_CN_E {I : Nat → Nat → Int32} {T : sp_T} {V : sp_V} (h : sp_CN I T V) (hV : st_now T V) : sp_EO I V (st_eo T) := fun g hg => h.2.1.2.2.2.2.2.2.2.1 g (by rw [← hV.2.1]; exact hg)
theorem st_eok {T : sp_T} {V : sp_V} (hT : st_ok T) : sp_eok V (st_eo T) := sp_eo_ok hT.2.2.2.2.2.1
section SMALL2
variable {d : Nat} {I : Nat → Nat → Int32} {J : Nat → Nat → Int64} {R : Nat → Nat → Option Nat} {Q : Option Value → ow_H → Prop}
theorem c_Mo_good (hR : ow_RF R) (hQ : ∀ I2 : Nat → Nat → Int32, sp_fr [] [(70, 0), (70, 11)] I I2 → I2 70 0 = 0 → I2 70 11 = 0 → Q none (85, I2, J, R)) : ow_AM M_Mo_good (d + 1) [.ref 70] (85, I, J, R) Q := by
  apply t_Mo_good hR
  intro I3 e3 I4 e4
  exact hQ I4 (sp_fr_tr (sp_fr_ue e3 (by simp)) (sp_fr_ue e4 (by simp))) (by rw [e4, ow_u_nk (by decide), e3, ow_u_at]) (by rw [e4, ow_u_at])
theorem c_Mo_no {x : Int32} (hR : ow_RF R) (hQ : ∀ I2 : Nat → Nat → Int32, sp_fr [] [(70, 11)] I I2 → I2 70 11 = x → Q (some (.int (-1))) (85, I2, J, R)) : ow_AM M_Mo_no (d + 1) [.ref 70, .int x] (85, I, J, R) Q := by
  apply t_Mo_no hR
  intro I2 e2
  exact hQ I2 (sp_fr_ue e2 (by simp)) (by rw [e2, ow_u_at])
/-- x is one of the first n numbers -/
def sp_is (x : Int32) (n : Nat) : Bool := decide (0 ≤ x.toInt ∧ x.toInt < n)
theorem sp_is_nI {x : Int32} {n : Nat} (h : sp_is x n = true) : ∃ f, f < n ∧ x = nI f := by
  have h := of_decide_eq_true h
  refine ⟨x.toInt.toNat, by omega, ?_⟩
  apply Int32.toInt_inj.mp
  have hx := x.toInt_lt
  rw [nI_toInt (by omega)]
  omega
theorem c_Mo_in {x : Int32} {n : Nat} (hR : ow_RF R) (hn : n < 2147483648) (hQ : Q (some (.int (sp_jb (sp_is x n)))) (85, I, J, R)) : ow_AM M_Mo_in (d + 1) [.int x, .int 0, .int (nI n - 1)] (85, I, J, R) Q := by
  have e1 : (nI n - 1).toInt = (n : Int) - 1 := by
    rcases Nat.eq_zero_or_pos n with h | h
    · subst h; decide
    · rw [show nI n - 1 = nI (n - 1) from pk_sub (b := 1) h, nI_toInt (by omega)]; omega
  apply t_Mo_in hR
  unfold sp_is at hQ
  refine ⟨fun c => ?_, fun c => ⟨fun c2 => ?_, fun c2 => ?_⟩⟩
  · have := Int32.lt_iff_toInt_lt.mp c
    rw [Int32.toInt_zero] at this
    rw [decide_eq_false (by omega)] at hQ
    exact hQ
  · have := Int32.lt_iff_toInt_lt.mp c2
    rw [e1] at this
    rw [decide_eq_false (by omega)] at hQ
    exact hQ
  · have h1 : ¬ x.toInt < 0 := fun z => c (Int32.lt_iff_toInt_lt.mpr (by rw [Int32.toInt_zero]; exact z))
    have h2 : ¬ (n : Int) - 1 < x.toInt := fun z => c2 (Int32.lt_iff_toInt_lt.mpr (by rw [e1]; exact z))
    rw [decide_eq_true (by omega)] at hQ
    exact hQ
theorem c_Mo_isFolly {x : Int32} {n : Nat} (hR : ow_RF R) (h1 : I 70 14 = 1) (h2 : I 73 2 = nI n) (hn : n < 100) (hQ : Q (some (.int (sp_jb (sp_is x n)))) (85, I, J, R)) : ow_AM M_Mo_isFolly (d + 2) [.ref 70, .int x] (85, I, J, R) Q := by
  apply t_Mo_isFolly hR
  rw [h1, h2]
  refine ⟨fun c => absurd c (by decide), fun _ => ?_⟩
  refine c_Mo_in hR (by omega) ⟨_, I, J, R, rfl, rfl, hR, ?_⟩
  cases hb : sp_is x n with
  | false => rw [hb] at hQ; exact ⟨fun _ => hQ, fun c => absurd rfl c⟩
  | true => rw [hb] at hQ; exact ⟨fun c => absurd c (by decide), fun _ => hQ⟩
theorem c_Mo_isEstate {x : Int32} {n : Nat} (hR : ow_RF R) (h1 : I 70 14 = 1) (h2 : I 73 3 = nI n) (hn : n < 100) (hQ : Q (some (.int (sp_jb (sp_is x n)))) (85, I, J, R)) : ow_AM M_Mo_isEstate (d + 2) [.ref 70, .int x] (85, I, J, R) Q := by
  apply t_Mo_isEstate hR
  rw [h1, h2]
  refine ⟨fun c => absurd c (by decide), fun _ => ?_⟩
  refine c_Mo_in hR (by omega) ⟨_, I, J, R, rfl, rfl, hR, ?_⟩
  cases hb : sp_is x n with
  | false => rw [hb] at hQ; exact ⟨fun _ => hQ, fun c => absurd rfl c⟩
  | true => rw [hb] at hQ; exact ⟨fun c => absurd c (by decide), fun _ => hQ⟩
theorem c_Mo_letterOf {f : Nat} {y : Int32} (hR : ow_RF R) (hQ : Q (some (.int (nI (2 * f + (decide (¬ y = 0)).toNat)))) (85, I, J, R)) : ow_AM M_Mo_letterOf (d + 1) [.ref 70, .int (nI f), .int y] (85, I, J, R) Q := by
  apply t_Mo_letterOf hR
  rw [show (2 : Int32) * nI f = nI (2 * f) from pk_mul 2 f]
  refine ⟨fun c => ?_, fun c => ?_⟩
  · rw [decide_eq_false (fun q => q c)] at hQ
    exact sp_q hQ (nI_add (2 * f) 0).symm
  · rw [decide_eq_true c] at hQ
    exact sp_q hQ (nI_add (2 * f) 1).symm
theorem c_Fs_refused {x : Int32} (hR : ow_RF R) (hQ : ∀ I2 : Nat → Nat → Int32, sp_fr [] [(0, 15)] I I2 → I2 0 15 = x → Q (some (.int (-1))) (85, I2, J, R)) : ow_AM M_Fs_refused (d + 1) [.ref 0, .int x] (85, I, J, R) Q := by
  apply t_Fs_refused hR
  intro I2 e2
  exact hQ I2 (sp_fr_ue e2 (by simp)) (by rw [e2, ow_u_at])
theorem c_Fs_lacksShire (hR : ow_RF R) (h1 : I 0 14 = 1) (hQ : ∀ I2 : Nat → Nat → Int32, sp_fr [] [(0, 15)] I I2 → I2 0 15 = 0 → Q (some (.int 0)) (85, I2, J, R)) : ow_AM M_Fs_lacksShire (d + 1) [.ref 0] (85, I, J, R) Q := by
  apply t_Fs_lacksShire hR
  rw [h1]
  refine ⟨fun c => absurd c (by decide), fun _ I4 e4 => ?_⟩
  have : I4 0 14 = 1 := by rw [e4, ow_u_nk (by decide)]; exact h1
  rw [this]
  exact ⟨fun _ => hQ I4 (sp_fr_ue e4 (by simp)) (by rw [e4, ow_u_at]), fun c => absurd c (by decide)⟩
theorem sp_is_lt {x : Int32} {n : Nat} (hn : n < 100) : sp_is x n = decide (¬ x < 0 ∧ x < nI n) := by
  unfold sp_is
  have e0 : x < 0 ↔ x.toInt < 0 := by rw [Int32.lt_iff_toInt_lt, Int32.toInt_zero]
  have e1 : x < nI n ↔ x.toInt < n := by rw [Int32.lt_iff_toInt_lt, nI_toInt (by omega)]
  apply decide_eq_decide.mpr
  rw [e0, e1]
  omega
theorem c_Fs_lacksFolly {x : Int32} {n : Nat} (hR : ow_RF R) (h1 : I 0 14 = 1) (h2 : I 29 0 = nI n) (hn : n < 100) (hQ : ∀ I2 : Nat → Nat → Int32, sp_fr [] [(0, 15)] I I2 → I2 0 15 = sp_jb (!sp_is x n) → Q (some (.int (sp_jb (!sp_is x n)))) (85, I2, J, R)) : ow_AM M_Fs_lacksFolly (d + 1) [.ref 0, .int x] (85, I, J, R) Q := by
  apply t_Fs_lacksFolly hR
  rw [h1, h2]
  rw [sp_is_lt hn] at hQ
  refine ⟨fun c => absurd c (by decide), fun _ => ⟨fun c I2 e2 => ?_, fun c => ⟨fun c2 I2 e2 => ?_, fun c2 I2 e2 => ?_⟩⟩⟩
  · have K := hQ I2 (sp_fr_ue e2 (by simp))
    rw [decide_eq_false (fun q => q.1 c)] at K
    exact K (by rw [e2, ow_u_at]; rfl)
  · have K := hQ I2 (sp_fr_ue e2 (by simp))
    rw [decide_eq_true ⟨c, c2⟩] at K
    exact K (by rw [e2, ow_u_at]; rfl)
  · have K := hQ I2 (sp_fr_ue e2 (by simp))
    rw [decide_eq_false (fun q => c2 q.2)] at K
    exact K (by rw [e2, ow_u_at]; rfl)
theorem c_Fs_lacksEstate {x : Int32} {n : Nat} (hR : ow_RF R) (h1 : I 0 14 = 1) (h2 : I 2 3 = nI n) (hn : n < 100) (hQ : ∀ I2 : Nat → Nat → Int32, sp_fr [] [(0, 15)] I I2 → I2 0 15 = sp_jb (!sp_is x n) → Q (some (.int (sp_jb (!sp_is x n)))) (85, I2, J, R)) : ow_AM M_Fs_lacksEstate (d + 1) [.ref 0, .int x] (85, I, J, R) Q := by
  apply t_Fs_lacksEstate hR
  rw [h1, h2]
  rw [sp_is_lt hn] at hQ
  refine ⟨fun c => absurd c (by decide), fun _ => ⟨fun c I2 e2 => ?_, fun c => ⟨fun c2 I2 e2 => ?_, fun c2 I2 e2 => ?_⟩⟩⟩
  · have K := hQ I2 (sp_fr_ue e2 (by simp))
    rw [decide_eq_false (fun q => q.1 c)] at K
    exact K (by rw [e2, ow_u_at]; rfl)
  · have K := hQ I2 (sp_fr_ue e2 (by simp))
    rw [decide_eq_true ⟨c, c2⟩] at K
    exact K (by rw [e2, ow_u_at]; rfl)
  · have K := hQ I2 (sp_fr_ue e2 (by simp))
    rw [decide_eq_false (fun q => c2 q.2)] at K
    exact K (by rw [e2, ow_u_at]; rfl)
end SMALL2
