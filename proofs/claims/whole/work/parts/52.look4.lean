/-! Own rows, by program: methods with a number between bounds. -/
/-- x is a number from a to b -/
def sp_bt (x : Int32) (a b : Nat) : Bool := decide ((a : Int) ≤ x.toInt ∧ x.toInt ≤ b)
theorem sp_bt_nI {x : Int32} {a b : Nat} (h : sp_bt x a b = true) : ∃ n, a ≤ n ∧ n ≤ b ∧ x = nI n := by
  have h := of_decide_eq_true h
  refine ⟨x.toInt.toNat, by omega, by omega, ?_⟩
  apply Int32.toInt_inj.mp
  have hx := x.toInt_lt
  rw [nI_toInt (by omega)]
  omega
theorem sp_bt_of {a b n : Nat} (h1 : a ≤ n) (h2 : n ≤ b) (hb : b < 100000) : sp_bt (nI n) a b = true := decide_eq_true (by rw [nI_toInt (by omega)]; omega)
section PUB4
variable {d : Nat} {I : Nat → Nat → Int32} {R : Nat → Nat → Option Nat} {T : sp_T} {V : sp_V}
theorem c_Fs_isOutsideG {J : Nat → Nat → Int64} {Q : Option Value → ow_H → Prop} {x : Int32} {a b : Nat} (hR : ow_RF R) (ha : a < 100000) (hb : b < 100000) (hQ : ∀ I2 : Nat → Nat → Int32, sp_fr [] [(0, 15)] I I2 → I2 0 15 = (if sp_bt x a b = true then 0 else 2) → Q (some (.int (sp_jb (!sp_bt x a b)))) (85, I2, J, R)) : ow_AM M_Fs_isOutside (d + 1) [.ref 0, .int x, .int (nI a), .int (nI b)] (85, I, J, R) Q := by
  apply t_Fs_isOutside hR
  have e0 : x < nI a ↔ x.toInt < a := by rw [Int32.lt_iff_toInt_lt, nI_toInt (by omega)]
  have e1 : x ≤ nI b ↔ x.toInt ≤ b := by rw [Int32.le_iff_toInt_le, nI_toInt (by omega)]
  unfold sp_bt at hQ
  rw [e0, e1]
  refine ⟨fun c I2 e2 => ?_, fun c => ⟨fun c2 I2 e2 => ?_, fun c2 I2 e2 => ?_⟩⟩
  · have K := hQ I2 (sp_fr_ue e2 (by simp))
    rw [decide_eq_false (by omega)] at K
    exact K (by rw [e2, ow_u_at]; rfl)
  · have K := hQ I2 (sp_fr_ue e2 (by simp))
    rw [decide_eq_true (by omega)] at K
    exact K (by rw [e2, ow_u_at]; rfl)
  · have K := hQ I2 (sp_fr_ue e2 (by simp))
    rw [decide_eq_false (by omega)] at K
    exact K (by rw [e2, ow_u_at]; rfl)
theorem c_Mo_inG {J : Nat → Nat → Int64} {Q : Option Value → ow_H → Prop} {x : Int32} {a b : Nat} (hR : ow_RF R) (ha : a < 100000) (hb : b < 100000) (hQ : Q (some (.int (sp_jb (sp_bt x a b)))) (85, I, J, R)) : ow_AM M_Mo_in (d + 1) [.int x, .int (nI a), .int (nI b)] (85, I, J, R) Q := by
  apply t_Mo_in hR
  have e0 : x < nI a ↔ x.toInt < a := by rw [Int32.lt_iff_toInt_lt, nI_toInt (by omega)]
  have e1 : nI b < x ↔ b < x.toInt := by rw [Int32.lt_iff_toInt_lt, nI_toInt (by omega)]
  unfold sp_bt at hQ
  rw [e0, e1]
  refine ⟨fun c => ?_, fun c => ⟨fun c2 => ?_, fun c2 => ?_⟩⟩
  · rw [decide_eq_false (by omega)] at hQ
    exact hQ
  · rw [decide_eq_false (by omega)] at hQ
    exact hQ
  · rw [decide_eq_true (by omega)] at hQ
    exact hQ
theorem rc_signsIn {f n : Nat} {b : Bool} (hR : ow_RF R) (hC : sp_CN I T V) (hT : st_ok T) (hV : st_now T V) (hf : f < sp_n V) (hn : n ≤ 60) : sp_rc M_Fs_signsIn (d + 12) [.ref 0, .int (nI f), .int (sp_jb b), .int (nI n)] I R (some (.int (sp_out (sp_go (sp_age V (st_rt T) n) 6 0 f b).2.2))) 0 := by
  intro J Q hQ
  apply t_Fs_signsIn hR
  refine c_Fs_lacksFolly hR hC.1 (show I 29 0 = nI (sp_n V) from hC.2.2.1) (by have := st_n6 hV; omega) ?_
  intro I2 g0 g1
  have hx : sp_is (nI f) (sp_n V) = true := decide_eq_true (by have := st_n6 hV; rw [nI_toInt (by omega)]; omega)
  rw [hx] at g1 ⊢
  have hC2 := sp_CN_k hC (sp_cm g0)
  refine ⟨_, I2, J, R, rfl, rfl, hR, ?_⟩
  first | refine ⟨fun _ => ?_, fun c => absurd rfl c⟩ | refine ⟨fun c => absurd rfl c, fun _ => ?_⟩
  refine c_Fs_isOutsideG (a := 0) (b := 60) hR (by decide) (by decide) ?_
  intro I3 k0 k1
  have hbt : sp_bt (nI n) 0 60 = true := sp_bt_of (Nat.zero_le _) hn (by decide)
  rw [hbt] at k1 ⊢
  rw [if_pos rfl] at k1
  have f3 : sp_fr sp_cS sp_cE I I3 := sp_fr_tr (sp_cm g0) (sp_cm k0)
  have hC3 := sp_CN_k hC f3
  refine ⟨_, I3, J, R, rfl, rfl, hR, ?_⟩
  first | refine ⟨fun _ => ?_, fun c => absurd rfl c⟩ | refine ⟨fun c => absurd rfl c, fun _ => ?_⟩
  have hW : sp_ok (sp_age V (st_rt T) n) := sp_age_ok hV.1 (by have := hV.2.2.1; omega)
  refine c_Fs_lookAhead hR hC3 hT hV (by omega) ?_
  intro I4 m0 m1
  refine ⟨I4, J, R, rfl, rfl, hR, ?_⟩
  refine c_Course_run hR (by decide) (by decide) m1 hW hf rfl ?_
  intro I5 p0 p1 p2 p3 p4 p5
  refine ⟨I5, J, R, rfl, rfl, hR, ?_⟩
  rw [p4]
  exact hQ I5 J (sp_fr_tr (sp_fr_tr f3 (sp_cw m0 (by decide))) (sp_cw p0 (by decide))) (by rw [p0 0 (by decide), m0 0 (by decide)]; exact k1)
theorem rc_signsIn_z {f : Nat} {y z : Int32} (hR : ow_RF R) (hC : sp_CN I T V) (hT : st_ok T) (hV : st_now T V) (hf : f < sp_n V) (hz : sp_bt z 0 60 = false) : sp_rc M_Fs_signsIn (d + 12) [.ref 0, .int (nI f), .int y, .int z] I R (some (.int (-1))) 2 := by
  intro J Q hQ
  apply t_Fs_signsIn hR
  refine c_Fs_lacksFolly hR hC.1 (show I 29 0 = nI (sp_n V) from hC.2.2.1) (by have := st_n6 hV; omega) ?_
  intro I2 g0 g1
  have hx : sp_is (nI f) (sp_n V) = true := decide_eq_true (by have := st_n6 hV; rw [nI_toInt (by omega)]; omega)
  rw [hx] at g1 ⊢
  have hC2 := sp_CN_k hC (sp_cm g0)
  refine ⟨_, I2, J, R, rfl, rfl, hR, ?_⟩
  first | refine ⟨fun _ => ?_, fun c => absurd rfl c⟩ | refine ⟨fun c => absurd rfl c, fun _ => ?_⟩
  refine c_Fs_isOutsideG (a := 0) (b := 60) hR (by decide) (by decide) ?_
  intro I3 k0 k1
  rw [hz] at k1 ⊢
  rw [if_neg (by decide)] at k1
  refine ⟨_, I3, J, R, rfl, rfl, hR, ?_⟩
  first | refine ⟨fun _ => ?_, fun c => absurd c (by decide)⟩ | refine ⟨fun c => absurd c (by decide), fun _ => ?_⟩
  exact hQ I3 J (sp_fr_tr (sp_cm g0) (sp_cm k0)) k1
theorem rc_signsIn_no {x : Int32} {y : Int32} {z : Int32} (hR : ow_RF R) (hC : sp_CN I T V) (hT : st_ok T) (hV : st_now T V) (hx : sp_is x (sp_n V) = false) : sp_rc M_Fs_signsIn (d + 12) [.ref 0, .int x, .int y, .int z] I R (some (.int (-1))) 1 := by
  intro J Q hQ
  apply t_Fs_signsIn hR
  refine c_Fs_lacksFolly hR hC.1 (show I 29 0 = nI (sp_n V) from hC.2.2.1) (by have := st_n6 hV; omega) ?_
  intro I2 g0 g1
  rw [hx] at g1 ⊢
  refine ⟨_, I2, J, R, rfl, rfl, hR, ?_⟩
  first | exact ⟨fun c => absurd c (by decide), fun _ => hQ I2 J (sp_cm g0) g1⟩ | exact ⟨fun _ => hQ I2 J (sp_cm g0) g1, fun c => absurd c (by decide)⟩
theorem rm_signsIn {f n : Nat} {b : Bool} (hR : ow_RF R) (hM : sp_MN I T V) (hT : st_ok T) (hV : st_now T V) (hf : f < sp_n V) (hn : n ≤ 60) : sp_rm M_Mo_signsIn (d + 12) [.ref 70, .int (nI f), .int (sp_jb b), .int (nI n)] I R (some (.int (sp_out (sp_go (sp_age V (st_rt T) n) 6 0 f b).2.2))) 0 := by
  intro J Q hQ
  apply t_Mo_signsIn hR
  refine c_Mo_good hR ?_
  intro I2 g0 g1 g2
  refine ⟨I2, J, R, rfl, rfl, hR, ?_⟩
  have h2 := sp_MN_k hM (sp_mm g0)
  refine c_Mo_isFolly hR h2.1 (sp_MN_n h2 hV) (by have := st_n6 hV; omega) ?_
  refine ⟨_, I2, J, R, rfl, rfl, hR, ?_⟩
  refine c_Mo_inG (a := 0) (b := 60) hR (by decide) (by decide) ?_
  refine ⟨_, I2, J, R, rfl, rfl, hR, ?_⟩
  refine c_Mo_why hR ?_
  refine ⟨_, I2, J, R, rfl, rfl, hR, ?_⟩
  have hx : sp_is (nI f) (sp_n V) = true := decide_eq_true (by have := st_n6 hV; rw [nI_toInt (by omega)]; omega)
  rw [hx]
  have hbt : sp_bt (nI n) 0 60 = true := sp_bt_of (Nat.zero_le _) hn (by decide)
  rw [hbt, if_pos rfl, if_pos rfl]
  first | refine ⟨fun _ => ?_, fun c => absurd rfl c⟩ | refine ⟨fun c => absurd rfl c, fun _ => ?_⟩
  have hW : sp_ok (sp_age V (st_rt T) n) := sp_age_ok hV.1 (by have := hV.2.2.1; omega)
  refine c_Mo_yearsOn (k := n) (r := st_rt T) hR (sp_MN_n h2 hV) h2.2.1.2.1 hT.2.2.2.2.1 h2.2.2 (sp_MN_q h2 hV) (st_n6 hV) (fun f hf => (hV.1.2.2.2 f hf).2.1) (by omega) ?_
  intro I3 g3 r3
  refine ⟨I3, J, R, rfl, rfl, hR, ?_⟩
  have f3 : sp_fr sp_mS sp_mE I I3 := sp_fr_tr (sp_mm g0) (sp_fr_mono (E := []) (sp_frq g3) (by decide) (by decide))
  have t3 : I3 70 11 = 0 := by rw [g3 70 (by decide)]; exact g2
  refine c_Mo_letterOf hR ⟨_, I3, J, R, rfl, rfl, hR, ?_⟩
  have hb : decide (¬ sp_jb b = 0) = b := by cases b <;> decide
  rw [hb]
  refine t_Mo_signsOf (by decide) hR ?_
  refine c_Mo_goOver hR (by decide) r3 hW hf rfl ?_
  intro I4 k0 k1 k2 k3 k4 k5
  refine ⟨I4, J, R, rfl, rfl, hR, ?_⟩
  have f4 : sp_fr sp_mS sp_mE I I4 := sp_fr_tr f3 (sp_mg k0)
  have t4 : I4 70 11 = 0 := by rw [k0 70 (by decide) 11 (by decide)]; exact t3
  rw [k4]
  exact ⟨_, I4, J, R, rfl, rfl, hR, hQ I4 J f4 t4⟩
theorem rm_signsIn_z {f : Nat} {y z : Int32} (hR : ow_RF R) (hM : sp_MN I T V) (hT : st_ok T) (hV : st_now T V) (hf : f < sp_n V) (hz : sp_bt z 0 60 = false) : sp_rm M_Mo_signsIn (d + 12) [.ref 70, .int (nI f), .int y, .int z] I R (some (.int (-1))) 2 := by
  intro J Q hQ
  apply t_Mo_signsIn hR
  refine c_Mo_good hR ?_
  intro I2 g0 g1 g2
  refine ⟨I2, J, R, rfl, rfl, hR, ?_⟩
  have h2 := sp_MN_k hM (sp_mm g0)
  refine c_Mo_isFolly hR h2.1 (sp_MN_n h2 hV) (by have := st_n6 hV; omega) ?_
  refine ⟨_, I2, J, R, rfl, rfl, hR, ?_⟩
  refine c_Mo_inG (a := 0) (b := 60) hR (by decide) (by decide) ?_
  refine ⟨_, I2, J, R, rfl, rfl, hR, ?_⟩
  refine c_Mo_why hR ?_
  refine ⟨_, I2, J, R, rfl, rfl, hR, ?_⟩
  have hx : sp_is (nI f) (sp_n V) = true := decide_eq_true (by have := st_n6 hV; rw [nI_toInt (by omega)]; omega)
  rw [hx]
  rw [hz, if_pos rfl, if_neg (by decide)]
  first | refine ⟨fun _ => ?_, fun c => absurd c (by decide)⟩ | refine ⟨fun c => absurd c (by decide), fun _ => ?_⟩
  refine c_Mo_no hR ?_
  intro I9 n3 n4
  exact ⟨_, I9, J, R, rfl, rfl, hR, hQ I9 J (sp_fr_tr (sp_mm g0) (sp_mm1 n3)) n4⟩
theorem rm_signsIn_no {x y z : Int32} (hR : ow_RF R) (hM : sp_MN I T V) (hT : st_ok T) (hV : st_now T V) (hx : sp_is x (sp_n V) = false) : sp_rm M_Mo_signsIn (d + 12) [.ref 70, .int x, .int y, .int z] I R (some (.int (-1))) 1 := by
  intro J Q hQ
  apply t_Mo_signsIn hR
  refine c_Mo_good hR ?_
  intro I2 g0 g1 g2
  refine ⟨I2, J, R, rfl, rfl, hR, ?_⟩
  have h2 := sp_MN_k hM (sp_mm g0)
  refine c_Mo_isFolly hR h2.1 (sp_MN_n h2 hV) (by have := st_n6 hV; omega) ?_
  refine ⟨_, I2, J, R, rfl, rfl, hR, ?_⟩
  refine c_Mo_inG (a := 0) (b := 60) hR (by decide) (by decide) ?_
  refine ⟨_, I2, J, R, rfl, rfl, hR, ?_⟩
  refine c_Mo_why hR ?_
  refine ⟨_, I2, J, R, rfl, rfl, hR, ?_⟩
  rw [hx, if_neg (by decide)]
  first | refine ⟨fun _ => ?_, fun c => absurd c (by decide)⟩ | refine ⟨fun c => absurd c (by decide), fun _ => ?_⟩
  refine c_Mo_no hR ?_
  intro I9 n3 n4
  exact ⟨_, I9, J, R, rfl, rfl, hR, hQ I9 J (sp_fr_tr (sp_mm g0) (sp_mm1 n3)) n4⟩
theorem rc_servedIn {n : Nat} (hR : ow_RF R) (hC : sp_CN I T V) (hT : st_ok T) (hV : st_now T V) (hn : n ≤ 60) : sp_rc M_Fs_servedIn (d + 12) [.ref 0, .int (nI n)] I R (some (.int (nI (sp_bits (sp_age V (st_rt T) n) (st_eo T))))) 0 := by
  intro J Q hQ
  apply t_Fs_servedIn hR
  refine c_Fs_lacksShire hR hC.1 ?_
  intro I2 g0 g1
  have hC2 := sp_CN_k hC (sp_cm g0)
  refine ⟨_, I2, J, R, rfl, rfl, hR, ?_⟩
  first | refine ⟨fun _ => ?_, fun c => absurd rfl c⟩ | refine ⟨fun c => absurd rfl c, fun _ => ?_⟩
  refine c_Fs_isOutsideG (a := 0) (b := 60) hR (by decide) (by decide) ?_
  intro I3 k0 k1
  have hbt : sp_bt (nI n) 0 60 = true := sp_bt_of (Nat.zero_le _) hn (by decide)
  rw [hbt] at k1 ⊢
  rw [if_pos rfl] at k1
  have f3 : sp_fr sp_cS sp_cE I I3 := sp_fr_tr (sp_cm g0) (sp_cm k0)
  have hC3 := sp_CN_k hC f3
  refine ⟨_, I3, J, R, rfl, rfl, hR, ?_⟩
  first | refine ⟨fun _ => ?_, fun c => absurd rfl c⟩ | refine ⟨fun c => absurd rfl c, fun _ => ?_⟩
  have hW : sp_ok (sp_age V (st_rt T) n) := sp_age_ok hV.1 (by have := hV.2.2.1; omega)
  refine c_Fs_lookAhead hR hC3 hT hV (by omega) ?_
  intro I4 m0 m1
  refine ⟨I4, J, R, rfl, rfl, hR, ?_⟩
  refine c_Serving_bitsServed hR (by decide) m1 hW (fun g hg => by rw [m0 9 (by decide)]; exact sp_CN_E hC3 hV g hg) (st_eok hT) ?_
  intro I5 p0
  exact ⟨_, I5, J, R, rfl, rfl, hR, hQ I5 J (sp_fr_tr (sp_fr_tr f3 (sp_cw m0 (by decide))) (sp_cw p0 (by decide))) (by rw [p0 0 (by decide), m0 0 (by decide)]; exact k1)⟩
theorem rc_servedIn_z {z : Int32} (hR : ow_RF R) (hC : sp_CN I T V) (hT : st_ok T) (hV : st_now T V) (hz : sp_bt z 0 60 = false) : sp_rc M_Fs_servedIn (d + 12) [.ref 0, .int z] I R (some (.int (-1))) 2 := by
  intro J Q hQ
  apply t_Fs_servedIn hR
  refine c_Fs_lacksShire hR hC.1 ?_
  intro I2 g0 g1
  have hC2 := sp_CN_k hC (sp_cm g0)
  refine ⟨_, I2, J, R, rfl, rfl, hR, ?_⟩
  first | refine ⟨fun _ => ?_, fun c => absurd rfl c⟩ | refine ⟨fun c => absurd rfl c, fun _ => ?_⟩
  refine c_Fs_isOutsideG (a := 0) (b := 60) hR (by decide) (by decide) ?_
  intro I3 k0 k1
  rw [hz] at k1 ⊢
  rw [if_neg (by decide)] at k1
  refine ⟨_, I3, J, R, rfl, rfl, hR, ?_⟩
  first | refine ⟨fun _ => ?_, fun c => absurd c (by decide)⟩ | refine ⟨fun c => absurd c (by decide), fun _ => ?_⟩
  exact hQ I3 J (sp_fr_tr (sp_cm g0) (sp_cm k0)) k1
theorem rm_servedIn {n : Nat} (hR : ow_RF R) (hM : sp_MN I T V) (hT : st_ok T) (hV : st_now T V) (hn : n ≤ 60) : sp_rm M_Mo_servedIn (d + 12) [.ref 70, .int (nI n)] I R (some (.int (nI (sp_bits (sp_age V (st_rt T) n) (st_eo T))))) 0 := by
  intro J Q hQ
  apply t_Mo_servedIn hR
  refine c_Mo_good hR ?_
  intro I2 g0 g1 g2
  refine ⟨I2, J, R, rfl, rfl, hR, ?_⟩
  have h2 := sp_MN_k hM (sp_mm g0)
  refine c_Mo_inG (a := 0) (b := 60) hR (by decide) (by decide) ?_
  refine ⟨_, I2, J, R, rfl, rfl, hR, ?_⟩
  rw [show I2 70 14 = sp_jb true from h2.1]
  refine c_Mo_why hR ?_
  refine ⟨_, I2, J, R, rfl, rfl, hR, ?_⟩
  have hbt : sp_bt (nI n) 0 60 = true := sp_bt_of (Nat.zero_le _) hn (by decide)
  rw [hbt, if_pos rfl, if_pos rfl]
  first | refine ⟨fun _ => ?_, fun c => absurd rfl c⟩ | refine ⟨fun c => absurd rfl c, fun _ => ?_⟩
  have hW : sp_ok (sp_age V (st_rt T) n) := sp_age_ok hV.1 (by have := hV.2.2.1; omega)
  refine c_Mo_yearsOn (k := n) (r := st_rt T) hR (sp_MN_n h2 hV) h2.2.1.2.1 hT.2.2.2.2.1 h2.2.2 (sp_MN_q h2 hV) (st_n6 hV) (fun f hf => (hV.1.2.2.2 f hf).2.1) (by omega) ?_
  intro I3 g3 r3
  refine ⟨I3, J, R, rfl, rfl, hR, ?_⟩
  have f3 : sp_fr sp_mS sp_mE I I3 := sp_fr_tr (sp_mm g0) (sp_fr_mono (E := []) (sp_frq g3) (by decide) (by decide))
  have t3 : I3 70 11 = 0 := by rw [g3 70 (by decide)]; exact g2
  have hMT : sp_MT I3 (sp_age V (st_rt T) n) (st_ne T) (st_ef T) := (sp_MT_k (sp_MN_T h2 hT hV) (g3 73 (by decide)) : sp_MT I3 V (st_ne T) (st_ef T))
  refine c_Mo_servedOn hR (by decide) r3 hMT hW ?_
  intro I4 k0
  exact ⟨_, I4, J, R, rfl, rfl, hR, hQ I4 J (sp_fr_tr f3 (sp_mg k0)) (by rw [k0 70 (by decide) 11 (by decide)]; exact t3)⟩
theorem rm_servedIn_z {z : Int32} (hR : ow_RF R) (hM : sp_MN I T V) (hT : st_ok T) (hV : st_now T V) (hz : sp_bt z 0 60 = false) : sp_rm M_Mo_servedIn (d + 12) [.ref 70, .int z] I R (some (.int (-1))) 2 := by
  intro J Q hQ
  apply t_Mo_servedIn hR
  refine c_Mo_good hR ?_
  intro I2 g0 g1 g2
  refine ⟨I2, J, R, rfl, rfl, hR, ?_⟩
  have h2 := sp_MN_k hM (sp_mm g0)
  refine c_Mo_inG (a := 0) (b := 60) hR (by decide) (by decide) ?_
  refine ⟨_, I2, J, R, rfl, rfl, hR, ?_⟩
  rw [show I2 70 14 = sp_jb true from h2.1]
  refine c_Mo_why hR ?_
  refine ⟨_, I2, J, R, rfl, rfl, hR, ?_⟩
  rw [hz, if_pos rfl, if_neg (by decide)]
  first | refine ⟨fun _ => ?_, fun c => absurd c (by decide)⟩ | refine ⟨fun c => absurd c (by decide), fun _ => ?_⟩
  refine c_Mo_no hR ?_
  intro I9 n3 n4
  exact ⟨_, I9, J, R, rfl, rfl, hR, hQ I9 J (sp_fr_tr (sp_mm g0) (sp_mm1 n3)) n4⟩
theorem rc_plan {n : Nat} (hR : ow_RF R) (hC : sp_CN I T V) (hT : st_ok T) (hV : st_now T V) (h1 : 1 ≤ n) (hn : n ≤ 4) : sp_rc M_Fs_plan (d + 12) [.ref 0, .int (nI n)] I R (some (.int (sp_p1 (sp_pf (sp_pv T V n) (10 ^ n))))) 0 := by
  intro J Q hQ
  apply t_Fs_plan hR
  refine c_Fs_lacksShire hR hC.1 ?_
  intro I2 g0 g1
  have hC2 := sp_CN_k hC (sp_cm g0)
  refine ⟨_, I2, J, R, rfl, rfl, hR, ?_⟩
  first | refine ⟨fun _ => ?_, fun c => absurd rfl c⟩ | refine ⟨fun c => absurd rfl c, fun _ => ?_⟩
  refine c_Fs_isOutsideG (a := 1) (b := 4) hR (by decide) (by decide) ?_
  intro I3 k0 k1
  have hbt : sp_bt (nI n) 1 4 = true := sp_bt_of h1 hn (by decide)
  rw [hbt] at k1 ⊢
  rw [if_pos rfl] at k1
  have f3 : sp_fr sp_cS sp_cE I I3 := sp_fr_tr (sp_cm g0) (sp_cm k0)
  have hC3 := sp_CN_k hC f3
  refine ⟨_, I3, J, R, rfl, rfl, hR, ?_⟩
  first | refine ⟨fun _ => ?_, fun c => absurd rfl c⟩ | refine ⟨fun c => absurd rfl c, fun _ => ?_⟩
  refine c_Planner_search hR hC3 hT hV hn ?_
  intro I4 m0 m1 m2
  refine ⟨I4, J, R, rfl, rfl, hR, ?_⟩
  rw [m1]
  exact hQ I4 J (sp_fr_tr f3 (sp_fr_mono m0 (by decide) (by decide))) (by rw [m0 0 (by decide) 15 (by decide)]; exact k1)
theorem rc_plan_z {z : Int32} (hR : ow_RF R) (hC : sp_CN I T V) (hT : st_ok T) (hV : st_now T V) (hz : sp_bt z 1 4 = false) : sp_rc M_Fs_plan (d + 12) [.ref 0, .int z] I R (some (.int (-1))) 2 := by
  intro J Q hQ
  apply t_Fs_plan hR
  refine c_Fs_lacksShire hR hC.1 ?_
  intro I2 g0 g1
  have hC2 := sp_CN_k hC (sp_cm g0)
  refine ⟨_, I2, J, R, rfl, rfl, hR, ?_⟩
  first | refine ⟨fun _ => ?_, fun c => absurd rfl c⟩ | refine ⟨fun c => absurd rfl c, fun _ => ?_⟩
  refine c_Fs_isOutsideG (a := 1) (b := 4) hR (by decide) (by decide) ?_
  intro I3 k0 k1
  rw [hz] at k1 ⊢
  rw [if_neg (by decide)] at k1
  refine ⟨_, I3, J, R, rfl, rfl, hR, ?_⟩
  first | refine ⟨fun _ => ?_, fun c => absurd c (by decide)⟩ | refine ⟨fun c => absurd c (by decide), fun _ => ?_⟩
  exact hQ I3 J (sp_fr_tr (sp_cm g0) (sp_cm k0)) k1
theorem rm_plan {n : Nat} (hR : ow_RF R) (hM : sp_MN I T V) (hT : st_ok T) (hV : st_now T V) (h1 : 1 ≤ n) (hn : n ≤ 4) : sp_rm M_Mo_plan (d + 12) [.ref 70, .int (nI n)] I R (some (.int (sp_p1 (sp_pf (sp_pv T V n) (10 ^ n))))) 0 := by
  intro J Q hQ
  apply t_Mo_plan hR
  refine c_Mo_good hR ?_
  intro I2 g0 g1 g2
  refine ⟨I2, J, R, rfl, rfl, hR, ?_⟩
  have h2 := sp_MN_k hM (sp_mm g0)
  refine c_Mo_inG (a := 1) (b := 4) hR (by decide) (by decide) ?_
  refine ⟨_, I2, J, R, rfl, rfl, hR, ?_⟩
  rw [show I2 70 14 = sp_jb true from h2.1]
  refine c_Mo_why hR ?_
  refine ⟨_, I2, J, R, rfl, rfl, hR, ?_⟩
  have hbt : sp_bt (nI n) 1 4 = true := sp_bt_of h1 hn (by decide)
  rw [hbt, if_pos rfl, if_pos rfl]
  first | refine ⟨fun _ => ?_, fun c => absurd rfl c⟩ | refine ⟨fun c => absurd rfl c, fun _ => ?_⟩
  refine c_Mo_planOf hR h2 hT hV h1 hn ?_
  intro I4 k0 k1
  refine ⟨_, I4, J, R, rfl, rfl, hR, ?_⟩
  exact hQ I4 J (sp_fr_tr (sp_mm g0) (sp_mg3 k0)) (by rw [k0 70 (by decide) 11 (by decide)]; exact g2)
theorem rm_plan_z {z : Int32} (hR : ow_RF R) (hM : sp_MN I T V) (hT : st_ok T) (hV : st_now T V) (hz : sp_bt z 1 4 = false) : sp_rm M_Mo_plan (d + 12) [.ref 70, .int z] I R (some (.int (-1))) 2 := by
  intro J Q hQ
  apply t_Mo_plan hR
  refine c_Mo_good hR ?_
  intro I2 g0 g1 g2
  refine ⟨I2, J, R, rfl, rfl, hR, ?_⟩
  have h2 := sp_MN_k hM (sp_mm g0)
  refine c_Mo_inG (a := 1) (b := 4) hR (by decide) (by decide) ?_
  refine ⟨_, I2, J, R, rfl, rfl, hR, ?_⟩
  rw [show I2 70 14 = sp_jb true from h2.1]
  refine c_Mo_why hR ?_
  refine ⟨_, I2, J, R, rfl, rfl, hR, ?_⟩
  rw [hz, if_pos rfl, if_neg (by decide)]
  first | refine ⟨fun _ => ?_, fun c => absurd c (by decide)⟩ | refine ⟨fun c => absurd c (by decide), fun _ => ?_⟩
  refine c_Mo_no hR ?_
  intro I9 n3 n4
  exact ⟨_, I9, J, R, rfl, rfl, hR, hQ I9 J (sp_fr_tr (sp_mm g0) (sp_mm1 n3)) n4⟩
theorem rc_planServes {n : Nat} (hR : ow_RF R) (hC : sp_CN I T V) (hT : st_ok T) (hV : st_now T V) (h1 : 1 ≤ n) (hn : n ≤ 4) : sp_rc M_Fs_planServes (d + 12) [.ref 0, .int (nI n)] I R (some (.int (sp_p2 (sp_pf (sp_pv T V n) (10 ^ n))))) 0 := by
  intro J Q hQ
  apply t_Fs_planServes hR
  refine c_Fs_lacksShire hR hC.1 ?_
  intro I2 g0 g1
  have hC2 := sp_CN_k hC (sp_cm g0)
  refine ⟨_, I2, J, R, rfl, rfl, hR, ?_⟩
  first | refine ⟨fun _ => ?_, fun c => absurd rfl c⟩ | refine ⟨fun c => absurd rfl c, fun _ => ?_⟩
  refine c_Fs_isOutsideG (a := 1) (b := 4) hR (by decide) (by decide) ?_
  intro I3 k0 k1
  have hbt : sp_bt (nI n) 1 4 = true := sp_bt_of h1 hn (by decide)
  rw [hbt] at k1 ⊢
  rw [if_pos rfl] at k1
  have f3 : sp_fr sp_cS sp_cE I I3 := sp_fr_tr (sp_cm g0) (sp_cm k0)
  have hC3 := sp_CN_k hC f3
  refine ⟨_, I3, J, R, rfl, rfl, hR, ?_⟩
  first | refine ⟨fun _ => ?_, fun c => absurd rfl c⟩ | refine ⟨fun c => absurd rfl c, fun _ => ?_⟩
  refine c_Planner_search hR hC3 hT hV hn ?_
  intro I4 m0 m1 m2
  refine ⟨I4, J, R, rfl, rfl, hR, ?_⟩
  rw [m2]
  exact hQ I4 J (sp_fr_tr f3 (sp_fr_mono m0 (by decide) (by decide))) (by rw [m0 0 (by decide) 15 (by decide)]; exact k1)
theorem rc_planServes_z {z : Int32} (hR : ow_RF R) (hC : sp_CN I T V) (hT : st_ok T) (hV : st_now T V) (hz : sp_bt z 1 4 = false) : sp_rc M_Fs_planServes (d + 12) [.ref 0, .int z] I R (some (.int (-1))) 2 := by
  intro J Q hQ
  apply t_Fs_planServes hR
  refine c_Fs_lacksShire hR hC.1 ?_
  intro I2 g0 g1
  have hC2 := sp_CN_k hC (sp_cm g0)
  refine ⟨_, I2, J, R, rfl, rfl, hR, ?_⟩
  first | refine ⟨fun _ => ?_, fun c => absurd rfl c⟩ | refine ⟨fun c => absurd rfl c, fun _ => ?_⟩
  refine c_Fs_isOutsideG (a := 1) (b := 4) hR (by decide) (by decide) ?_
  intro I3 k0 k1
  rw [hz] at k1 ⊢
  rw [if_neg (by decide)] at k1
  refine ⟨_, I3, J, R, rfl, rfl, hR, ?_⟩
  first | refine ⟨fun _ => ?_, fun c => absurd c (by decide)⟩ | refine ⟨fun c => absurd c (by decide), fun _ => ?_⟩
  exact hQ I3 J (sp_fr_tr (sp_cm g0) (sp_cm k0)) k1
theorem rm_planServes {n : Nat} (hR : ow_RF R) (hM : sp_MN I T V) (hT : st_ok T) (hV : st_now T V) (h1 : 1 ≤ n) (hn : n ≤ 4) : sp_rm M_Mo_planServes (d + 12) [.ref 70, .int (nI n)] I R (some (.int (sp_p2 (sp_pf (sp_pv T V n) (10 ^ n))))) 0 := by
  intro J Q hQ
  apply t_Mo_planServes hR
  refine c_Mo_good hR ?_
  intro I2 g0 g1 g2
  refine ⟨I2, J, R, rfl, rfl, hR, ?_⟩
  have h2 := sp_MN_k hM (sp_mm g0)
  refine c_Mo_inG (a := 1) (b := 4) hR (by decide) (by decide) ?_
  refine ⟨_, I2, J, R, rfl, rfl, hR, ?_⟩
  rw [show I2 70 14 = sp_jb true from h2.1]
  refine c_Mo_why hR ?_
  refine ⟨_, I2, J, R, rfl, rfl, hR, ?_⟩
  have hbt : sp_bt (nI n) 1 4 = true := sp_bt_of h1 hn (by decide)
  rw [hbt, if_pos rfl, if_pos rfl]
  first | refine ⟨fun _ => ?_, fun c => absurd rfl c⟩ | refine ⟨fun c => absurd rfl c, fun _ => ?_⟩
  refine c_Mo_planOf hR h2 hT hV h1 hn ?_
  intro I4 k0 k1
  refine ⟨_, I4, J, R, rfl, rfl, hR, ?_⟩
  rw [k1]
  exact hQ I4 J (sp_fr_tr (sp_mm g0) (sp_mg3 k0)) (by rw [k0 70 (by decide) 11 (by decide)]; exact g2)
theorem rm_planServes_z {z : Int32} (hR : ow_RF R) (hM : sp_MN I T V) (hT : st_ok T) (hV : st_now T V) (hz : sp_bt z 1 4 = false) : sp_rm M_Mo_planServes (d + 12) [.ref 70, .int z] I R (some (.int (-1))) 2 := by
  intro J Q hQ
  apply t_Mo_planServes hR
  refine c_Mo_good hR ?_
  intro I2 g0 g1 g2
  refine ⟨I2, J, R, rfl, rfl, hR, ?_⟩
  have h2 := sp_MN_k hM (sp_mm g0)
  refine c_Mo_inG (a := 1) (b := 4) hR (by decide) (by decide) ?_
  refine ⟨_, I2, J, R, rfl, rfl, hR, ?_⟩
  rw [show I2 70 14 = sp_jb true from h2.1]
  refine c_Mo_why hR ?_
  refine ⟨_, I2, J, R, rfl, rfl, hR, ?_⟩
  rw [hz, if_pos rfl, if_neg (by decide)]
  first | refine ⟨fun _ => ?_, fun c => absurd c (by decide)⟩ | refine ⟨fun c => absurd c (by decide), fun _ => ?_⟩
  refine c_Mo_no hR ?_
  intro I9 n3 n4
  exact ⟨_, I9, J, R, rfl, rfl, hR, hQ I9 J (sp_fr_tr (sp_mm g0) (sp_mm1 n3)) n4⟩
end PUB4
