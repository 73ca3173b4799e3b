/-! Own rows: rows that are kept, for undo and as images. -/
theorem sp_r_at {α : Type} {f : Nat → Nat → α} {o : Nat} {g : Nat → α} {k : Nat} : ow_r f o g o k = g k := by unfold ow_r; rw [if_pos rfl]
theorem sp_r_ne {α : Type} {f : Nat → Nat → α} {o a : Nat} {g : Nat → α} (h : a ≠ o) : ow_r f o g a = f a := by unfold ow_r; rw [if_neg h]
/-- the i-th row that is kept is W: of the object, of the reference -/
def sp_rwC (I : Nat → Nat → Int32) (a i : Nat) (W : sp_V) (n : Nat) : Prop := I a (i * 14) = nI (sp_y W) ∧ I a (i * 14 + 1) = nI (sp_h W) ∧ ∀ f, f < n → I a (i * 14 + 2 + f) = nI (sp_so W f) ∧ I a (i * 14 + 8 + f) = sp_tg (sp_to W f)
def sp_rwM (I : Nat → Nat → Int32) (a i : Nat) (W : sp_V) (n : Nat) : Prop := (∀ f, f < n → I a (14 * i + f) = nI (sp_so W f) ∧ I a (14 * i + 6 + f) = nI (sp_to W f)) ∧ I a (14 * i + 12) = nI (sp_h W) ∧ I a (14 * i + 13) = nI (sp_y W)
theorem sp_rwC_s {I I2 : Nat → Nat → Int32} {a i j : Nat} {W : sp_V} {n : Nat} (hn : n ≤ 6) (h : sp_rwC I a i W n) (hr : ∀ t, t < 14 → I2 a (j * 14 + t) = I a (i * 14 + t)) : sp_rwC I2 a j W n := by
  obtain ⟨h1, h2, h3⟩ := h
  refine ⟨by rw [show j * 14 = j * 14 + 0 from rfl, hr 0 (by decide)]; exact h1, by rw [hr 1 (by decide)]; exact h2, fun f hf => ?_⟩
  have e1 := hr (2 + f) (by omega)
  have e2 := hr (8 + f) (by omega)
  rw [← Nat.add_assoc, ← Nat.add_assoc] at e1 e2
  rw [e1, e2]
  exact h3 f hf
theorem sp_rwM_s {I I2 : Nat → Nat → Int32} {a i j : Nat} {W : sp_V} {n : Nat} (hn : n ≤ 6) (h : sp_rwM I a i W n) (hr : ∀ t, t < 14 → I2 a (14 * j + t) = I a (14 * i + t)) : sp_rwM I2 a j W n := by
  obtain ⟨h1, h2, h3⟩ := h
  refine ⟨fun f hf => ?_, by rw [hr 12 (by decide)]; exact h2, by rw [hr 13 (by decide)]; exact h3⟩
  have e1 := hr f (by omega)
  have e2 := hr (6 + f) (by omega)
  rw [← Nat.add_assoc, ← Nat.add_assoc] at e2
  rw [e1, e2]
  exact h1 f hf
theorem sp_rwC_k {I I2 : Nat → Nat → Int32} {a i : Nat} {W : sp_V} {n : Nat} (h : sp_rwC I a i W n) (hr : I2 a = I a) : sp_rwC I2 a i W n := by
  unfold sp_rwC at h ⊢
  rw [hr]
  exact h
theorem sp_rwM_k {I I2 : Nat → Nat → Int32} {a i : Nat} {W : sp_V} {n : Nat} (h : sp_rwM I a i W n) (hr : I2 a = I a) : sp_rwM I2 a i W n := by
  unfold sp_rwM at h ⊢
  rw [hr]
  exact h
/-- one more is kept: of too many the oldest is dropped -/
def sp_ph (m h : Nat) : Nat := if h = m then m else h + 1
def sp_pH (m h : Nat) (H : Nat → sp_V) (V : sp_V) : Nat → sp_V := if h = m then (fun i => if i + 1 = m then V else H (i + 1)) else (fun i => if i = h then V else H i)
theorem sp_pushW {I I3 I4 I5 I6 I7 : Nat → Nat → Int32} {z a k n : Nat} {V : sp_V} {v : Int32} (hza : a ≠ z) (h29 : a ≠ 29) (h31 : a ≠ 31) (h32 : a ≠ 32) (z29 : z ≠ 29) (z31 : z ≠ 31) (z32 : z ≠ 32) (hS : sp_S I 29 V) (hn : sp_n V = n) (n6 : n ≤ 6) (e3 : I3 = ow_u I a (k * 14) (I 29 1)) (e4 : I4 = ow_u I3 a (k * 14 + 1) (I3 29 2)) (e5 : I5 = ow_r I4 a (va_cpy (I4 31) (I4 a) 0 (k * 14 + 2) 6)) (e6 : I6 = ow_r I5 a (va_cpy (I5 32) (I5 a) 0 (k * 14 + 2 + 6) 6)) (e7 : I7 = ow_u I6 z 2 v) :
    sp_fr [a] [(z, 2)] I I7 ∧ I7 z 2 = v ∧ (∀ j, j < k * 14 → I7 a j = I a j) ∧ sp_rwC I7 a k V n := by
  have r7 : ∀ j, I7 a j = va_cpy (I5 32) (I5 a) 0 (k * 14 + 2 + 6) 6 j := fun j => by rw [e7, ow_u_ne hza, e6, sp_r_at]
  have r5 : ∀ j, I5 a j = va_cpy (I4 31) (I4 a) 0 (k * 14 + 2) 6 j := fun j => by rw [e5, sp_r_at]
  have x32 : I5 32 = I 32 := by rw [e5, sp_r_ne (Ne.symm h32), e4, ow_u_ne (Ne.symm h32), e3, ow_u_ne (Ne.symm h32)]
  have x31 : I4 31 = I 31 := by rw [e4, ow_u_ne (Ne.symm h31), e3, ow_u_ne (Ne.symm h31)]
  have x29 : I3 29 = I 29 := by rw [e3, ow_u_ne (Ne.symm h29)]
  obtain ⟨s0, s1, s2, s3⟩ := hS
  refine ⟨?_, by rw [e7, ow_u_at], fun j hj => ?_, ?_, ?_, fun f hf => ⟨?_, ?_⟩⟩
  · refine sp_fr_tr (sp_fr_tr (sp_fr_tr (sp_fr_tr (sp_fr_ue e3 (by simp)) (sp_fr_ue e4 (by simp))) (sp_fr_re e5 (by simp))) (sp_fr_re e6 (by simp))) (sp_fr_ue e7 (by simp))
  · rw [r7, pk_cpy_out (by omega), r5, pk_cpy_out (by omega), e4, ow_u_nk (by omega), e3, ow_u_nk (by omega)]
  · rw [r7, pk_cpy_out (by omega), r5, pk_cpy_out (by omega), e4, ow_u_nk (by omega), e3, ow_u_at]; exact s1
  · rw [r7, pk_cpy_out (by omega), r5, pk_cpy_out (by omega), e4, ow_u_at, x29]; exact s2
  · rw [r7, pk_cpy_out (by omega), r5, pk_cpy_in (by omega) (by omega), x31, show 0 + (k * 14 + 2 + f - (k * 14 + 2)) = f by omega]
    exact (s3 f (by omega)).2.1
  · rw [r7, pk_cpy_in (by omega) (by omega), x32, show 0 + (k * 14 + 8 + f - (k * 14 + 2 + 6)) = f by omega]
    exact (s3 f (by omega)).2.2
theorem sp_snr : ∀ z ∈ [66, 68], (z + 1 ≠ z ∧ z + 1 ≠ 29 ∧ z + 1 ≠ 31 ∧ z + 1 ≠ 32 ∧ z ≠ 29 ∧ z ≠ 31 ∧ z ≠ 32) := by decide
def sp_room (z : Nat) : Nat := if z = 66 then 16 else 3
theorem sp_rm_ok : ∀ z ∈ [66, 68], (ow_ln (z + 1) = sp_room z * 14 ∧ 1 ≤ sp_room z ∧ sp_room z ≤ 16) := by decide
section KEPT
variable {d : Nat} {I : Nat → Nat → Int32} {J : Nat → Nat → Int64} {R : Nat → Nat → Option Nat} {Q : Option Value → ow_H → Prop} {V W : sp_V}
theorem c_Snaps_push {z h n : Nat} {H : Nat → sp_V} (hR : ow_RF R) (hz : z ∈ [66, 68]) (hS : sp_S I 29 V) (hn : sp_n V = n) (n6 : n ≤ 6) (h0 : I z 0 = nI (sp_room z)) (h2 : I z 2 = nI h) (hh : h ≤ sp_room z) (hr : ∀ i, i < h → sp_rwC I (z + 1) i (H i) n)
    (hQ : ∀ I2 : Nat → Nat → Int32, sp_fr [z + 1] [(z, 2)] I I2 → I2 z 2 = nI (sp_ph (sp_room z) h) → (∀ i, i < sp_ph (sp_room z) h → sp_rwC I2 (z + 1) i (sp_pH (sp_room z) h H V i) n) → Q none (85, I2, J, R)) : ow_AM M_Snaps_push (d + 1) [.ref z, .ref 29] (85, I, J, R) Q := by
  obtain ⟨g1, g2, g3, g4, g5, g6, g7⟩ := sp_snr z hz
  obtain ⟨l1, l2, l3⟩ := sp_rm_ok z hz
  apply t_Snaps_push hz hR
  rw [h0, h2, l1, nI_ltI (a := h) (b := sp_room z) (by omega) (by omega), show nI h * 14 = nI (h * 14) from pk_mul h 14, show nI (sp_room z) - 1 = nI (sp_room z - 1) from pk_sub (b := 1) l2, show nI (sp_room z - 1) * 14 = nI ((sp_room z - 1) * 14) from pk_mul _ 14, sp_cl (n := (sp_room z - 1) * 14) (by omega)]
  refine ⟨fun c9 => ?_, fun c9 => ⟨nI_pos (by omega), by omega, by omega, ?_⟩⟩
  · have c : ¬ h = sp_room z := by omega
    rw [nI_1, show nI (h * 14) + 2 = nI (h * 14 + 2) from nI_add _ 2, show nI (h * 14 + 2) + 6 = nI (h * 14 + 2 + 6) from nI_add _ 6, sp_cl (by omega), sp_cl (by omega), sp_cl (by omega), sp_cl (by omega)]
    refine ⟨vp_in_nI (by omega) (by omega), fun I3 e3 => ⟨vp_in_nI (by omega) (by omega), fun I4 e4 => ⟨nI_pos (by omega), by omega, fun I5 e5 => ⟨nI_pos (by omega), by omega, fun I6 e6 I7 e7 => ?_⟩⟩⟩⟩
    obtain ⟨w1, w2, w3, w4⟩ := sp_pushW g1 g2 g3 g4 g5 g6 g7 hS hn n6 e3 e4 e5 e6 e7
    have x62 : I6 z 2 = nI h := by rw [e6, sp_r_ne (Ne.symm g1), e5, sp_r_ne (Ne.symm g1), e4, ow_u_ne (Ne.symm g1), e3, ow_u_ne (Ne.symm g1)]; exact h2
    rw [x62, nI_1] at w2
    unfold sp_ph sp_pH at hQ
    rw [if_neg c, if_neg c] at hQ
    refine hQ I7 w1 w2 (fun i hi => ?_)
    by_cases hih : i = h
    · rw [if_pos hih, hih]
      exact w4
    · rw [if_neg hih]
      exact sp_rwC_s n6 (hr i (by omega)) (fun t ht => w3 _ (by omega))
  · intro I1 e1 I2 e2
    have c : h = sp_room z := by omega
    have x1 : I1 z 0 = nI (sp_room z) := by rw [e1, sp_r_ne (Ne.symm g1)]; exact h0
    rw [x1, show nI (sp_room z) - 1 = nI (sp_room z - 1) from pk_sub (b := 1) l2] at e2
    have x2 : I2 z 2 = nI (sp_room z - 1) := by rw [e2, ow_u_at]
    have xa : ∀ j, j < (sp_room z - 1) * 14 → I2 (z + 1) j = I (z + 1) (14 + j) := by
      intro j hj
      rw [e2, ow_u_ne g1, e1, sp_r_at, pk_cpy_in (Nat.zero_le _) (by omega)]
      rfl
    have fS : ∀ o, o ≠ z → o ≠ z + 1 → I2 o = I o := fun o a b => by rw [e2, ow_u_ne a, e1, sp_r_ne b]
    have hS2 : sp_S I2 29 V := sp_S_kr hS (fS 29 (Ne.symm g5) (Ne.symm g2)) (fS 30 (by rcases List.mem_cons.mp hz with q | q; rw [q]; decide; rw [List.mem_singleton.mp q]; decide) (by rcases List.mem_cons.mp hz with q | q; rw [q]; decide; rw [List.mem_singleton.mp q]; decide)) (fS 31 (Ne.symm g6) (Ne.symm g3)) (fS 32 (Ne.symm g7) (Ne.symm g4))
    rw [x2, show nI (sp_room z - 1) * 14 = nI ((sp_room z - 1) * 14) from pk_mul _ 14, nI_1, show nI ((sp_room z - 1) * 14) + 2 = nI ((sp_room z - 1) * 14 + 2) from nI_add _ 2, show nI ((sp_room z - 1) * 14 + 2) + 6 = nI ((sp_room z - 1) * 14 + 2 + 6) from nI_add _ 6, sp_cl (by omega), sp_cl (by omega), sp_cl (by omega), sp_cl (by omega)]
    refine ⟨vp_in_nI (by omega) (by omega), fun I3 e3 => ⟨vp_in_nI (by omega) (by omega), fun I4 e4 => ⟨nI_pos (by omega), by omega, fun I5 e5 => ⟨nI_pos (by omega), by omega, fun I6 e6 I7 e7 => ?_⟩⟩⟩⟩
    obtain ⟨w1, w2, w3, w4⟩ := sp_pushW g1 g2 g3 g4 g5 g6 g7 hS2 hn n6 e3 e4 e5 e6 e7
    have x62 : I6 z 2 = nI (sp_room z - 1) := by rw [e6, sp_r_ne (Ne.symm g1), e5, sp_r_ne (Ne.symm g1), e4, ow_u_ne (Ne.symm g1), e3, ow_u_ne (Ne.symm g1)]; exact x2
    rw [x62, nI_1, show sp_room z - 1 + 1 = sp_room z by omega] at w2
    unfold sp_ph sp_pH at hQ
    rw [if_pos c, if_pos c] at hQ
    refine hQ I7 (sp_fr_tr (sp_fr_tr (sp_fr_re e1 (by simp)) (sp_fr_ue e2 (by simp))) w1) w2 (fun i hi => ?_)
    by_cases hih : i + 1 = sp_room z
    · rw [if_pos hih, show i = sp_room z - 1 by omega]
      exact w4
    · rw [if_neg hih]
      refine sp_rwC_s n6 (hr (i + 1) (by omega)) (fun t ht => ?_)
      rw [w3 _ (by omega), xa _ (by omega)]
      congr 1
      omega
theorem c_Snaps_show {z i n : Nat} (hR : ow_RF R) (hz : z ∈ [66, 68]) (hS : sp_S I 29 V) (hn : sp_n V = n) (hn2 : sp_n W = n) (n6 : n ≤ 6) (hsh : ∀ f, f < n → sp_sh V f = sp_sh W f) (h0 : I z 0 = nI (sp_room z)) (hi : i < sp_room z) (hr : sp_rwC I (z + 1) i W n)
    (hQ : ∀ I2 : Nat → Nat → Int32, sp_fr [31, 32] [(29, 1), (29, 2)] I I2 → sp_S I2 29 W → Q none (85, I2, J, R)) : ow_AM M_Snaps_show (d + 1) [.ref z, .int (nI i), .ref 29] (85, I, J, R) Q := by
  obtain ⟨g1, g2, g3, g4, g5, g6, g7⟩ := sp_snr z hz
  obtain ⟨l1, l2, l3⟩ := sp_rm_ok z hz
  obtain ⟨s0, s1, s2, s3⟩ := hS
  obtain ⟨r1, r2, r3⟩ := hr
  apply t_Snaps_show hz hR
  rw [h0, l1, show nI i * 14 = nI (i * 14) from pk_mul i 14, nI_1, show nI (i * 14) + 2 = nI (i * 14 + 2) from nI_add _ 2, show nI (i * 14 + 2) + 6 = nI (i * 14 + 2 + 6) from nI_add _ 6, sp_cl (n := i * 14) (by omega), sp_cl (n := i * 14 + 1) (by omega), sp_cl (n := i * 14 + 2) (by omega), sp_cl (n := i * 14 + 2 + 6) (by omega)]
  refine ⟨fun c => absurd c (nI_pos (by omega)), fun _ => ⟨fun _ => ?_, fun c => absurd (nI_lt hi (by omega)) c⟩⟩
  refine ⟨vp_in_nI (by omega) (by omega), fun I5 e5 => ⟨vp_in_nI (by omega) (by omega), fun I6 e6 => ⟨nI_pos (by omega), by omega, fun I7 e7 => ⟨nI_pos (by omega), by omega, fun I8 e8 => ?_⟩⟩⟩⟩
  have x5 : I5 (z + 1) = I (z + 1) := by rw [e5, ow_u_ne g2]
  have x6 : I6 (z + 1) = I (z + 1) := by rw [e6, ow_u_ne g2, x5]
  have x7 : I7 (z + 1) = I (z + 1) := by rw [e7, sp_r_ne g3, x6]
  refine hQ I8 ?_ ⟨?_, ?_, ?_, fun f hf => ⟨?_, ?_, ?_⟩⟩
  · exact sp_fr_tr (sp_fr_tr (sp_fr_tr (sp_fr_ue e5 (by simp)) (sp_fr_ue e6 (by simp))) (sp_fr_re e7 (by simp))) (sp_fr_re e8 (by simp))
  · rw [e8, sp_r_ne (by decide), e7, sp_r_ne (by decide), e6, ow_u_nk (by decide), e5, ow_u_nk (by decide), hn2, ← hn]; exact s0
  · rw [e8, sp_r_ne (by decide), e7, sp_r_ne (by decide), e6, ow_u_nk (by decide), e5, ow_u_at]; exact r1
  · rw [e8, sp_r_ne (by decide), e7, sp_r_ne (by decide), e6, ow_u_at, x5]; exact r2
  · rw [e8, sp_r_ne (by decide), e7, sp_r_ne (by decide), e6, ow_u_ne (by decide), e5, ow_u_ne (by decide), ← hsh f (by omega)]; exact (s3 f (by omega)).1
  · rw [e8, sp_r_ne (by decide), e7, sp_r_at, pk_cpy_in (Nat.zero_le _) (by omega), x6]; exact (r3 f (by omega)).1
  · rw [e8, sp_r_at, pk_cpy_in (Nat.zero_le _) (by omega), x7]; exact (r3 f (by omega)).2
theorem c_Snaps_pop {z h n : Nat} (hR : ow_RF R) (hz : z ∈ [66, 68]) (hS : sp_S I 29 V) (hn : sp_n V = n) (hn2 : sp_n W = n) (n6 : n ≤ 6) (hsh : ∀ f, f < n → sp_sh V f = sp_sh W f) (h0 : I z 0 = nI (sp_room z)) (h2 : I z 2 = nI (h + 1)) (hh : h < sp_room z) (hr : sp_rwC I (z + 1) h W n)
    (hQ : ∀ I2 : Nat → Nat → Int32, sp_fr [31, 32] [(29, 1), (29, 2), (z, 2)] I I2 → I2 z 2 = nI h → sp_S I2 29 W → Q none (85, I2, J, R)) : ow_AM M_Snaps_pop (d + 2) [.ref z, .ref 29] (85, I, J, R) Q := by
  obtain ⟨g1, g2, g3, g4, g5, g6, g7⟩ := sp_snr z hz
  obtain ⟨l1, l2, l3⟩ := sp_rm_ok z hz
  have z30 : (30 : Nat) ≠ z := by rcases List.mem_cons.mp hz with q | q; rw [q]; decide; rw [List.mem_singleton.mp q]; decide
  apply t_Snaps_pop hz hR
  rw [h2]
  refine ⟨fun c => absurd c (nI_nle (by omega) (by omega)), fun _ I3 e3 => ?_⟩
  rw [show nI (h + 1) - 1 = nI h from nI_pred h] at e3
  have x3 : I3 z 2 = nI h := by rw [e3, ow_u_at]
  rw [x3]
  refine c_Snaps_show (V := V) (W := W) hR hz (sp_S_kr hS (by rw [e3, ow_u_ne (Ne.symm g5)]) (by rw [e3, ow_u_ne z30]) (by rw [e3, ow_u_ne (Ne.symm g6)]) (by rw [e3, ow_u_ne (Ne.symm g7)])) hn hn2 n6 hsh (by rw [e3, ow_u_nk (by decide)]; exact h0) hh (sp_rwC_k hr (by rw [e3, ow_u_ne g1])) ?_
  intro I4 k0 k1
  refine ⟨I4, J, R, rfl, rfl, hR, hQ I4 (sp_fr_tr (sp_fr_ue e3 (by simp)) (sp_fr_mono k0 (by simp) (fun q hq => Or.inl (by simp at hq ⊢; rcases hq with q | q <;> simp [q])))) ?_ k1⟩
  rw [k0 z (by simp [g6, g7]) 2 (by simp [g5])]
  exact x3
theorem c_Snaps_clear {z : Nat} (hR : ow_RF R) (hz : z ∈ [66, 68]) (hQ : ∀ I2 : Nat → Nat → Int32, sp_fr [] [(z, 2)] I I2 → I2 z 2 = 0 → Q none (85, I2, J, R)) : ow_AM M_Snaps_clear (d + 1) [.ref z] (85, I, J, R) Q := by
  apply t_Snaps_clear hz hR
  intro I2 e2
  exact hQ I2 (sp_fr_ue e2 (by simp)) (by rw [e2, ow_u_at])
/-- the reference's rows: one more is copied there -/
theorem sp_cpM {I I2 : Nat → Nat → Int32} {a k n : Nat} (n6 : n ≤ 6) (hn : sp_n V = n) (hw : sp_Mw I 77 V) (x : ∀ j, I2 a j = if 14 * k ≤ j ∧ j < 14 * k + 14 then I 77 (0 + (j - 14 * k)) else I a j) : (∀ j, j < 14 * k → I2 a j = I a j) ∧ sp_rwM I2 a k V n := by
  refine ⟨fun j hj => by rw [x, if_neg (by omega)], fun f hf => ⟨?_, ?_⟩, ?_, ?_⟩
  · rw [x, if_pos (by omega), show 0 + (14 * k + f - 14 * k) = f by omega]; exact (hw.1 f (by omega)).1
  · rw [x, if_pos (by omega), show 0 + (14 * k + 6 + f - 14 * k) = 6 + f by omega]; exact (hw.1 f (by omega)).2
  · rw [x, if_pos (by omega), show 0 + (14 * k + 12 - 14 * k) = 12 by omega]; exact hw.2.1
  · rw [x, if_pos (by omega), show 0 + (14 * k + 13 - 14 * k) = 13 by omega]; exact hw.2.2
theorem sp_cpB {I I2 : Nat → Nat → Int32} {a k n : Nat} (n6 : n ≤ 6) (hn : sp_n W = n) (hr : sp_rwM I a k W n) (x : ∀ j, I2 77 j = if 0 ≤ j ∧ j < 0 + 14 then I a (14 * k + (j - 0)) else I 77 j) : sp_Mw I2 77 W := by
  obtain ⟨r1, r2, r3⟩ := hr
  refine ⟨fun f hf => ⟨?_, ?_⟩, ?_, ?_⟩
  · rw [x, if_pos (by omega)]; exact (r1 f (by omega)).1
  · rw [x, if_pos (by omega), show 14 * k + (6 + f - 0) = 14 * k + 6 + f by omega]; exact (r1 f (by omega)).2
  · rw [x, if_pos (by omega)]; exact r2
  · rw [x, if_pos (by omega)]; exact r3
theorem c_Mo_note {h n : Nat} {H : Nat → sp_V} (hR : ow_RF R) (hw : sp_Mw I 77 V) (hn : sp_n V = n) (n6 : n ≤ 6) (h2 : I 70 22 = nI h) (hh : h ≤ 16) (hr : ∀ i, i < h → sp_rwM I 78 i (H i) n)
    (hQ : ∀ I2 : Nat → Nat → Int32, sp_fr [78] [(70, 22)] I I2 → I2 70 22 = nI (sp_ph 16 h) → (∀ i, i < sp_ph 16 h → sp_rwM I2 78 i (sp_pH 16 h H V i) n) → Q none (85, I2, J, R)) : ow_AM M_Mo_note (d + 2) [.ref 70] (85, I, J, R) Q := by
  apply t_Mo_note hR
  rw [h2, show (nI h = 16) = (nI h = nI 16) from rfl, nI_eq (by omega) (by omega), show (14 : Int32) * nI h = nI (14 * h) from pk_mul 14 h]
  refine ⟨fun c => ?_, fun c => ?_⟩
  · refine c_Mo_copy (i := 0) (j := 14 * h) (n := 14) hR (by decide) (by decide) (by decide) (by decide) (by decide) (by decide) (show 14 * h + 14 ≤ 224 by omega) (by decide) (by decide) ?_
    intro I3 he x
    refine ⟨I3, J, R, rfl, rfl, hR, ?_⟩
    intro I4 e4
    rw [he 70 (by decide), h2, nI_1] at e4
    obtain ⟨w1, w2⟩ := sp_cpM (V := V) n6 hn hw x
    have xx : I4 78 = I3 78 := by rw [e4, ow_u_ne (by decide)]
    unfold sp_ph sp_pH at hQ
    rw [if_neg c, if_neg c] at hQ
    refine hQ I4 (sp_fr_tr (sp_frq he) (sp_fr_ue e4 (by simp))) (by rw [e4, ow_u_at]) (fun i hi => ?_)
    by_cases hih : i = h
    · rw [if_pos hih, hih]
      exact sp_rwM_k w2 xx
    · rw [if_neg hih]
      exact sp_rwM_s n6 (hr i (by omega)) (fun t ht => by rw [xx, w1 _ (by omega)])
  · subst c
    refine sp_up (N := 210) (G := fun i I1 => ow_AW ow_Y0 (ow_Z Q) M_Mo_note (d + 2) 0 0 11 [(0, .ref 70), (1, .int (nI i))] [] (85, I1, J, R) 0 0) (Inv := fun i I1 => sp_eq [78] I I1 ∧ ∀ j, I1 78 j = if j < i then I 78 (j + 14) else I 78 j) ?_ ?_ 0 I (Nat.zero_le _) ⟨sp_eq_rf, fun j => by rw [if_neg (Nat.not_lt_zero _)]⟩
    · intro I1 ⟨he, x⟩
      apply t_Mo_note_11 hR
      refine ⟨fun _ I3 e3 => ?_, fun c => absurd (by decide) c⟩
      rw [he 70 (by decide), h2, show nI 16 - 1 = nI 15 from nI_pred 15] at e3
      have x3 : I3 70 22 = nI 15 := by rw [e3, ow_u_at]
      rw [x3, show (14 : Int32) * nI 15 = nI (14 * 15) from pk_mul 14 15]
      have f3 : sp_fr [78] [(70, 22)] I I3 := sp_fr_tr (sp_frq he) (sp_fr_ue e3 (by simp))
      refine c_Mo_copy (i := 0) (j := 14 * 15) (n := 14) hR (by decide) (by decide) (by decide) (by decide) (by decide) (by decide) (by decide) (by decide) (by decide) ?_
      intro I4 he4 x4
      refine ⟨I4, J, R, rfl, rfl, hR, ?_⟩
      intro I5 e5
      rw [he4 70 (by decide), x3, nI_1] at e5
      obtain ⟨w1, w2⟩ := sp_cpM (V := V) n6 hn (sp_Mw_k hw (sp_fr_row f3 (by decide) (by simp))) x4
      have xx : I5 78 = I4 78 := by rw [e5, ow_u_ne (by decide)]
      unfold sp_ph sp_pH at hQ
      rw [if_pos rfl, if_pos rfl] at hQ
      refine hQ I5 (sp_fr_tr (sp_fr_tr f3 (sp_frq he4)) (sp_fr_ue e5 (by simp))) (by rw [e5, ow_u_at]) (fun i hi => ?_)
      by_cases hih : i + 1 = 16
      · rw [if_pos hih, show i = 15 by omega]
        exact sp_rwM_k w2 xx
      · rw [if_neg hih]
        refine sp_rwM_s n6 (hr (i + 1) (by omega)) (fun t ht => ?_)
        rw [xx, w1 _ (by omega), e3, ow_u_ne (by decide), x, if_pos (by omega)]
        congr 1
        omega
    · intro i I1 hi ⟨he, x⟩ ih
      apply t_Mo_note_11 hR
      rw [show nI i + 14 = nI (i + 14) from nI_add i 14, nI_1, sp_cl (by omega), sp_cl (by omega), x (i + 14), if_neg (by omega)]
      refine ⟨fun c => absurd c (nI_ge (b := 210) hi (by decide)), fun _ => ⟨vp_in_nI (by omega) (by decide), vp_in_nI (by omega) (by decide), fun I2 e2 => ?_⟩⟩
      refine ih I2 ⟨sp_eq_tr he (sp_eq_ue e2 (by simp)), fun j => ?_⟩
      rw [e2]
      by_cases hj : j = i
      · subst hj
        rw [ow_u_at, if_pos (Nat.lt_succ_self _)]
      · rw [ow_u_nk hj, x j]
        by_cases h : j < i
        · rw [if_pos h, if_pos (by omega)]
        · rw [if_neg h, if_neg (by omega)]
/-- the ruins, as bits -/
def sp_ru (V : sp_V) : Nat → Nat
  | 0 => 0
  | k + 1 => if sp_so V k = 0 then sp_ru V k ||| 2 ^ k else sp_ru V k
theorem sp_ru_lt {V : sp_V} : ∀ k, k ≤ 6 → sp_ru V k < 64 := by
  intro k
  induction k with
  | zero => intro _; exact (show 0 < 64 by decide)
  | succ k ih =>
    intro hk
    rw [sp_ru]
    by_cases h : sp_so V k = 0
    · rw [if_pos h]; exact (sp_or _ (ih (by omega)) k (by omega)).2
    · rw [if_neg h]; exact ih (by omega)
theorem c_Mo_ruins (hR : ow_RF R) (hn : I 73 2 = nI (sp_n V)) (hw : sp_Mw I 77 V) (hV : sp_ok V) (hQ : Q (some (.int (nI (sp_ru V (sp_n V))))) (85, I, J, R)) : ow_AM M_Mo_ruins (d + 1) [.ref 70] (85, I, J, R) Q := by
  have n6 := hV.1
  apply t_Mo_ruins hR
  refine sp_up (σ := Unit) (N := sp_n V) (G := fun i _ => ow_AW ow_Y0 (ow_Z Q) M_Mo_ruins (d + 1) 0 0 4 [(0, .ref 70), (1, .int (nI (sp_ru V i))), (2, .int (nI i))] [] (85, I, J, R) 0 0) (Inv := fun _ _ => True) ?_ ?_ 0 () (Nat.zero_le _) trivial
  · intro _ _
    apply t_Mo_ruins_4 hR
    rw [hn]
    exact ⟨fun _ => hQ, fun c => absurd (Int32.le_refl _) c⟩
  · intro i _ hi _ ih
    have K := ih () trivial
    rw [sp_ru] at K
    have hlt := sp_ru_lt (V := V) i (by omega)
    have hso := (hV.2.2.2 i hi).2.1
    apply t_Mo_ruins_4 hR
    rw [hn, sp_cl (by omega), (hw.1 i hi).1, sp_z (n := sp_so V i) (by omega), sp_or0 _ hlt, (sp_or _ hlt i (by omega)).1, nI_1]
    refine ⟨fun c => absurd c (nI_ge hi (by omega)), fun _ => ⟨vp_in_nI (by omega) (by decide), fun c => ?_, fun c => ?_⟩⟩
    · rw [if_neg c] at K
      exact K
    · rw [if_pos c] at K
      exact K
end KEPT
