/-! Own rows, by program: the law's loop. -/
section LOOP
variable {L : Nat} {xs : Nat → Int32}
set_option maxRecDepth 4000 in
theorem lw_switch {i k n j : Nat} {I : Nat → Nat → Int32} {J : Nat → Nat → Int64} {R : Nat → Nat → Option Nat} (hR : ow_RF R) (hW : sp_W I) (hkn : k + 1 ≤ 601024 ∧ n + 6 ≤ 7293034) (hv : ∀ j, j < 6 → vp_in (nI i + nI j) L) (hj : j < 64) (next : ∀ (I2 : Nat → Nat → Int32) (J2 : Nat → Nat → Int64) (R2 : Nat → Nat → Option Nat) (k2 n2 : Nat), ow_RF R2 → sp_W I2 → k2 ≤ k + 1 → n2 ≤ n + 6 → ow_AW ow_Y1 (ow_Zw L xs) M_Law_law 40 601024 7293034 2084 [(0, .ref 980), (1, .ref 0), (2, .ref 70), (3, .ref 84), (4, .int (nI i))] [] (85, I2, J2, R2) k2 n2) : ow_AW ow_Y1 (ow_Zw L xs) M_Law_law 40 601024 7293034 40 [(0, .ref 980), (1, .ref 0), (2, .ref 70), (3, .ref 84), (4, .int (nI i))] [.int (nI j)] (85, I, J, R) k n := by
  have hk0 : k ≤ 601024 ∧ n ≤ 7293034 := ⟨by omega, by omega⟩
  by_cases c0 : j = 0
  · rw [c0]
    exact ow_tabIn (off := 232) (tgt := 272) d_Law_law_40 (by decide) (by decide) rfl (by decide) (lw_case_0 hR hW hk0 hv next)
  by_cases c1 : j = 1
  · rw [c1]
    exact ow_tabIn (off := 305) (tgt := 345) d_Law_law_40 (by decide) (by decide) rfl (by decide) (lw_case_1 hR hW hk0 hv next)
  by_cases c2 : j = 2
  · rw [c2]
    exact ow_tabIn (off := 330) (tgt := 370) d_Law_law_40 (by decide) (by decide) rfl (by decide) (lw_case_2 hR hW hk0 hv next)
  by_cases c3 : j = 3
  · rw [c3]
    exact ow_tabIn (off := 343) (tgt := 383) d_Law_law_40 (by decide) (by decide) rfl (by decide) (lw_case_3 hR hW hk0 hv next)
  by_cases c4 : j = 4
  · rw [c4]
    exact ow_tabIn (off := 356) (tgt := 396) d_Law_law_40 (by decide) (by decide) rfl (by decide) (lw_case_4 hR hW hk0 hv next)
  by_cases c5 : j = 5
  · rw [c5]
    exact ow_tabIn (off := 393) (tgt := 433) d_Law_law_40 (by decide) (by decide) rfl (by decide) (lw_case_5 hR hW hk0 hv next)
  by_cases c6 : j = 6
  · rw [c6]
    exact ow_tabIn (off := 430) (tgt := 470) d_Law_law_40 (by decide) (by decide) rfl (by decide) (lw_case_6 hR hW hk0 hv next)
  by_cases c7 : j = 7
  · rw [c7]
    exact ow_tabIn (off := 483) (tgt := 523) d_Law_law_40 (by decide) (by decide) rfl (by decide) (lw_case_7 hR hW hk0 hv next)
  by_cases c8 : j = 8
  · rw [c8]
    exact ow_tabIn (off := 536) (tgt := 576) d_Law_law_40 (by decide) (by decide) rfl (by decide) (lw_case_8 hR hW hk0 hv next)
  by_cases c9 : j = 9
  · rw [c9]
    exact ow_tabIn (off := 589) (tgt := 629) d_Law_law_40 (by decide) (by decide) rfl (by decide) (lw_case_9 hR hW hk0 hv next)
  by_cases c10 : j = 10
  · rw [c10]
    exact ow_tabIn (off := 642) (tgt := 682) d_Law_law_40 (by decide) (by decide) rfl (by decide) (lw_case_10 hR hW hk0 hv next)
  by_cases c11 : j = 11
  · rw [c11]
    exact ow_tabIn (off := 707) (tgt := 747) d_Law_law_40 (by decide) (by decide) rfl (by decide) (lw_case_11 hR hW hk0 hv next)
  by_cases c12 : j = 12
  · rw [c12]
    exact ow_tabIn (off := 720) (tgt := 760) d_Law_law_40 (by decide) (by decide) rfl (by decide) (lw_case_12 hR hW hk0 hv next)
  by_cases c13 : j = 13
  · rw [c13]
    exact ow_tabIn (off := 733) (tgt := 773) d_Law_law_40 (by decide) (by decide) rfl (by decide) (lw_case_13 hR hW hk0 hv next)
  by_cases c14 : j = 14
  · rw [c14]
    exact ow_tabIn (off := 746) (tgt := 786) d_Law_law_40 (by decide) (by decide) rfl (by decide) (lw_case_14 hR hW hk0 hv next)
  by_cases c15 : j = 15
  · rw [c15]
    exact ow_tabIn (off := 771) (tgt := 811) d_Law_law_40 (by decide) (by decide) rfl (by decide) (lw_case_15 hR hW hk0 hv next)
  by_cases c16 : j = 16
  · rw [c16]
    exact ow_tabIn (off := 796) (tgt := 836) d_Law_law_40 (by decide) (by decide) rfl (by decide) (lw_case_16 hR hW hk0 hv next)
  by_cases c17 : j = 17
  · rw [c17]
    exact ow_tabIn (off := 821) (tgt := 861) d_Law_law_40 (by decide) (by decide) rfl (by decide) (lw_case_17 hR hW hk0 hv next)
  by_cases c18 : j = 18
  · rw [c18]
    exact ow_tabIn (off := 834) (tgt := 874) d_Law_law_40 (by decide) (by decide) rfl (by decide) (lw_case_18 hR hW hk0 hv next)
  by_cases c19 : j = 19
  · rw [c19]
    exact ow_tabIn (off := 847) (tgt := 887) d_Law_law_40 (by decide) (by decide) rfl (by decide) (lw_case_19 hR hW hk0 hv next)
  by_cases c20 : j = 20
  · rw [c20]
    exact ow_tabIn (off := 860) (tgt := 900) d_Law_law_40 (by decide) (by decide) rfl (by decide) (lw_case_20 hR hW hk0 hv next)
  by_cases c21 : j = 21
  · rw [c21]
    exact ow_tabIn (off := 897) (tgt := 937) d_Law_law_40 (by decide) (by decide) rfl (by decide) (lw_case_21 hR hW hk0 hv next)
  by_cases c22 : j = 22
  · rw [c22]
    exact ow_tabIn (off := 962) (tgt := 1002) d_Law_law_40 (by decide) (by decide) rfl (by decide) (lw_case_22 hR hW hk0 hv next)
  by_cases c23 : j = 23
  · rw [c23]
    exact ow_tabIn (off := 987) (tgt := 1027) d_Law_law_40 (by decide) (by decide) rfl (by decide) (lw_case_23 hR hW hk0 hv next)
  by_cases c24 : j = 24
  · rw [c24]
    exact ow_tabIn (off := 1012) (tgt := 1052) d_Law_law_40 (by decide) (by decide) rfl (by decide) (lw_case_24 hR hW hk0 hv next)
  by_cases c25 : j = 25
  · rw [c25]
    exact ow_tabIn (off := 1037) (tgt := 1077) d_Law_law_40 (by decide) (by decide) rfl (by decide) (lw_case_25 hR hW hk0 hv next)
  by_cases c26 : j = 26
  · rw [c26]
    exact ow_tabIn (off := 1062) (tgt := 1102) d_Law_law_40 (by decide) (by decide) rfl (by decide) (lw_case_26 hR hW hk0 hv next)
  by_cases c27 : j = 27
  · rw [c27]
    exact ow_tabIn (off := 1087) (tgt := 1127) d_Law_law_40 (by decide) (by decide) rfl (by decide) (lw_case_27 hR hW hk0 hv next)
  by_cases c28 : j = 28
  · rw [c28]
    exact ow_tabIn (off := 1100) (tgt := 1140) d_Law_law_40 (by decide) (by decide) rfl (by decide) (lw_case_28 hR hW hk0 hv next)
  by_cases c29 : j = 29
  · rw [c29]
    exact ow_tabIn (off := 1113) (tgt := 1153) d_Law_law_40 (by decide) (by decide) rfl (by decide) (lw_case_29 hR hW hk0 hv next)
  by_cases c30 : j = 30
  · rw [c30]
    exact ow_tabIn (off := 1126) (tgt := 1166) d_Law_law_40 (by decide) (by decide) rfl (by decide) (lw_case_30 hR hW hk0 hv next)
  by_cases c31 : j = 31
  · rw [c31]
    exact ow_tabIn (off := 1163) (tgt := 1203) d_Law_law_40 (by decide) (by decide) rfl (by decide) (lw_case_31 hR hW hk0 hv next)
  by_cases c32 : j = 32
  · rw [c32]
    exact ow_tabIn (off := 1200) (tgt := 1240) d_Law_law_40 (by decide) (by decide) rfl (by decide) (lw_case_32 hR hW hk0 hv next)
  by_cases c33 : j = 33
  · rw [c33]
    exact ow_tabIn (off := 1213) (tgt := 1253) d_Law_law_40 (by decide) (by decide) rfl (by decide) (lw_case_33 hR hW hk0 hv next)
  by_cases c34 : j = 34
  · rw [c34]
    exact ow_tabIn (off := 1226) (tgt := 1266) d_Law_law_40 (by decide) (by decide) rfl (by decide) (lw_case_34 hR hW hk0 hv next)
  by_cases c35 : j = 35
  · rw [c35]
    exact ow_tabIn (off := 1239) (tgt := 1279) d_Law_law_40 (by decide) (by decide) rfl (by decide) (lw_case_35 hR hW hk0 hv next)
  by_cases c36 : j = 36
  · rw [c36]
    exact ow_tabIn (off := 1293) (tgt := 1333) d_Law_law_40 (by decide) (by decide) rfl (by decide) (lw_case_36 hR hW hk0 hv next)
  by_cases c37 : j = 37
  · rw [c37]
    exact ow_tabIn (off := 1306) (tgt := 1346) d_Law_law_40 (by decide) (by decide) rfl (by decide) (lw_case_37 hR hW hk0 hv next)
  by_cases c38 : j = 38
  · rw [c38]
    exact ow_tabIn (off := 1415) (tgt := 1455) d_Law_law_40 (by decide) (by decide) rfl (by decide) (lw_case_38 hR hW hk0 hv next)
  by_cases c39 : j = 39
  · rw [c39]
    exact ow_tabIn (off := 1440) (tgt := 1480) d_Law_law_40 (by decide) (by decide) rfl (by decide) (lw_case_39 hR hW hk0 hv next)
  by_cases c40 : j = 40
  · rw [c40]
    exact ow_tabIn (off := 1465) (tgt := 1505) d_Law_law_40 (by decide) (by decide) rfl (by decide) (lw_case_40 hR hW hk0 hv next)
  by_cases c41 : j = 41
  · rw [c41]
    exact ow_tabIn (off := 1575) (tgt := 1615) d_Law_law_40 (by decide) (by decide) rfl (by decide) (lw_case_41 hR hW hk0 hv next)
  by_cases c42 : j = 42
  · rw [c42]
    exact ow_tabIn (off := 1657) (tgt := 1697) d_Law_law_40 (by decide) (by decide) rfl (by decide) (lw_case_42 hR hW hk0 hv next)
  by_cases c43 : j = 43
  · rw [c43]
    exact ow_tabIn (off := 1722) (tgt := 1762) d_Law_law_40 (by decide) (by decide) rfl (by decide) (lw_case_43 hR hW hk0 hv next)
  by_cases c44 : j = 44
  · rw [c44]
    exact ow_tabIn (off := 1799) (tgt := 1839) d_Law_law_40 (by decide) (by decide) rfl (by decide) (lw_case_44 hR hW hk0 hv next)
  by_cases c45 : j = 45
  · rw [c45]
    exact ow_tabIn (off := 1812) (tgt := 1852) d_Law_law_40 (by decide) (by decide) rfl (by decide) (lw_case_45 hR hW hk0 hv next)
  by_cases c46 : j = 46
  · rw [c46]
    exact ow_tabIn (off := 1837) (tgt := 1877) d_Law_law_40 (by decide) (by decide) rfl (by decide) (lw_case_46 hR hW hk0 hv next)
  by_cases c47 : j = 47
  · rw [c47]
    exact ow_tabIn (off := 1862) (tgt := 1902) d_Law_law_40 (by decide) (by decide) rfl (by decide) (lw_case_47 hR hW hk0 hv next)
  by_cases c48 : j = 48
  · rw [c48]
    exact ow_tabIn (off := 1899) (tgt := 1939) d_Law_law_40 (by decide) (by decide) rfl (by decide) (lw_case_48 hR hW hk0 hv next)
  by_cases c49 : j = 49
  · rw [c49]
    exact ow_tabIn (off := 1912) (tgt := 1952) d_Law_law_40 (by decide) (by decide) rfl (by decide) (lw_case_49 hR hW hk0 hv next)
  by_cases c50 : j = 50
  · rw [c50]
    exact ow_tabIn (off := 1925) (tgt := 1965) d_Law_law_40 (by decide) (by decide) rfl (by decide) (lw_case_50 hR hW hk0 hv next)
  by_cases c51 : j = 51
  · rw [c51]
    exact ow_tabIn (off := 1950) (tgt := 1990) d_Law_law_40 (by decide) (by decide) rfl (by decide) (lw_case_51 hR hW hkn hv next)
  by_cases c52 : j = 52
  · rw [c52]
    exact ow_tabIn (off := 2006) (tgt := 2046) d_Law_law_40 (by decide) (by decide) rfl (by decide) (lw_case_52 hR hW hk0 hv next)
  by_cases c53 : j = 53
  · rw [c53]
    exact ow_tabIn (off := 2031) (tgt := 2071) d_Law_law_40 (by decide) (by decide) rfl (by decide) (lw_case_53 hR hW hk0 hv next)
  refine ow_tabOut (tgt := 2084) d_Law_law_40 (Or.inr ?_) (by decide) (next I J R k n hR hW (Nat.le_succ _) (Nat.le_add_right _ _))
  rw [nI_toInt (by omega)]
  omega
theorem lw_loop (hL : L ≤ 3072) : ∀ (f i : Nat) (I : Nat → Nat → Int32) (J : Nat → Nat → Int64) (R : Nat → Nat → Option Nat) (k n : Nat), L + 6 - i < f → i ≤ L + 6 → ow_RF R → sp_W I → k ≤ 100 + i → n ≤ 5000 + 6 * i → ow_AW ow_Y1 (ow_Zw L xs) M_Law_law 40 601024 7293034 23 [(0, .ref 980), (1, .ref 0), (2, .ref 70), (3, .ref 84), (4, .int (nI i))] [] (85, I, J, R) k n := by
  intro f
  induction f with
  | zero => intro i I J R k n hf; exact absurd hf (Nat.not_lt_zero _)
  | succ f ih =>
    intro i I J R k n hf hi hR hW hk hn
    refine ow_iload 4 rfl d_Law_law_23 ?_
    refine ow_aload_n 0 rfl d_Law_law_25 ?_
    refine ow_scrlen d_Law_law_26 ?_
    refine ow_bipush (v := 6) (by decide) d_Law_law_27 ?_
    refine ow_isub d_Law_law_29 ?_
    have E : (nI L - 6 < nI i) ↔ L < i + 6 := by
      rw [Int32.lt_iff_toInt_lt, show (nI L - 6).toInt = (L : Int) - (6 : Nat) from pk_sub_toInt (a := L) (b := 6) (by omega) (by decide), nI_toInt (by omega)]
      omega
    refine ow_icmp_gt (tgt := 2090) d_Law_law_30 (by decide) (fun c => ?_) (fun c => ?_)
    · refine ow_iconst (v := 1) (by decide) d_Law_law_2090 ?_
      exact ow_retW d_Law_law_2091 (by omega) (by omega)
    · have hiL : i + 6 ≤ L := Nat.not_lt.mp (fun q => c (E.mpr q))
      have hv : ∀ j, j < 6 → vp_in (nI i + nI j) L := fun j hj => by
        rw [nI_add]
        exact vp_in_nI (by omega) (by omega)
      refine ow_aload_n 0 rfl d_Law_law_33 ?_
      refine ow_iload 4 rfl d_Law_law_34 ?_
      refine ow_sld d_Law_law_36 (vp_in_nI (by omega) (by omega)) ?_
      refine ow_bipush (v := 63) (by decide) d_Law_law_37 ?_
      refine ow_iand d_Law_law_39 ?_
      obtain ⟨j, hj, ej⟩ := pk_andE (xs (nI i).toNatClampNeg) (m := 63) 6 (by decide)
      rw [ej]
      refine lw_switch hR hW ⟨by omega, by omega⟩ hv hj ?_
      intro I2 J2 R2 k2 n2 hR2 hW2 hk2 hn2
      refine ow_iinc 4 (v := (nI i + 6)) (ls2 := [(4, .int (nI i + 6)), (0, .ref 980), (1, .ref 0), (2, .ref 70), (3, .ref 84)]) d_Law_law_2084 rfl rfl (by decide) rfl ?_
      refine ow_goto (tgt := 23) d_Law_law_2087 (by decide) ?_
      refine ow_sub [1, 2, 3, 4, 0] rfl ?_
      rw [show nI i + 6 = nI (i + 6) from nI_add i 6]
      exact ih (i + 6) I2 J2 R2 k2 n2 (by omega) (by omega) hR2 hW2 (by omega) (by omega)
end LOOP
