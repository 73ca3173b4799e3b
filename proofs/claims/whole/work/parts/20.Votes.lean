/-! Own rows, by program: Votes_countSetsOfOthers Votes_countSwung Votes_fewestRuling Votes_hasMost -/
theorem d_Votes_countSetsOfOthers_0 : decode M_Votes_countSetsOfOthers.2.1 0 = .ok (.aload_n 0, 1) := by decide +kernel
theorem d_Votes_countSetsOfOthers_1 : decode M_Votes_countSetsOfOthers.2.1 1 = .ok (.getfield 9, 3) := by decide +kernel
theorem d_Votes_countSetsOfOthers_4 : decode M_Votes_countSetsOfOthers.2.1 4 = .ok (.getfield 15, 3) := by decide +kernel
theorem d_Votes_countSetsOfOthers_7 : decode M_Votes_countSetsOfOthers.2.1 7 = .ok (.ifCond .le 17, 3) := by decide +kernel
theorem d_Votes_countSetsOfOthers_10 : decode M_Votes_countSetsOfOthers.2.1 10 = .ok (.iconst 1, 1) := by decide +kernel
theorem d_Votes_countSetsOfOthers_11 : decode M_Votes_countSetsOfOthers.2.1 11 = .ok (.aload_n 0, 1) := by decide +kernel
theorem d_Votes_countSetsOfOthers_12 : decode M_Votes_countSetsOfOthers.2.1 12 = .ok (.getfield 9, 3) := by decide +kernel
theorem d_Votes_countSetsOfOthers_15 : decode M_Votes_countSetsOfOthers.2.1 15 = .ok (.getfield 15, 3) := by decide +kernel
theorem d_Votes_countSetsOfOthers_18 : decode M_Votes_countSetsOfOthers.2.1 18 = .ok (.iconst 1, 1) := by decide +kernel
theorem d_Votes_countSetsOfOthers_19 : decode M_Votes_countSetsOfOthers.2.1 19 = .ok (.isub, 1) := by decide +kernel
theorem d_Votes_countSetsOfOthers_20 : decode M_Votes_countSetsOfOthers.2.1 20 = .ok (.ishl, 1) := by decide +kernel
theorem d_Votes_countSetsOfOthers_21 : decode M_Votes_countSetsOfOthers.2.1 21 = .ok (.goto 4, 3) := by decide +kernel
theorem d_Votes_countSetsOfOthers_24 : decode M_Votes_countSetsOfOthers.2.1 24 = .ok (.iconst 1, 1) := by decide +kernel
theorem d_Votes_countSetsOfOthers_25 : decode M_Votes_countSetsOfOthers.2.1 25 = .ok (.ireturn, 1) := by decide +kernel
theorem d_Votes_countSwung_0 : decode M_Votes_countSwung.2.1 0 = .ok (.iconst 0, 1) := by decide +kernel
theorem d_Votes_countSwung_1 : decode M_Votes_countSwung.2.1 1 = .ok (.istore_n 2, 1) := by decide +kernel
theorem d_Votes_countSwung_2 : decode M_Votes_countSwung.2.1 2 = .ok (.iconst 0, 1) := by decide +kernel
theorem d_Votes_countSwung_3 : decode M_Votes_countSwung.2.1 3 = .ok (.istore_n 3, 1) := by decide +kernel
theorem d_Votes_countSwung_4 : decode M_Votes_countSwung.2.1 4 = .ok (.iload_n 3, 1) := by decide +kernel
theorem d_Votes_countSwung_5 : decode M_Votes_countSwung.2.1 5 = .ok (.iconst 1, 1) := by decide +kernel
theorem d_Votes_countSwung_6 : decode M_Votes_countSwung.2.1 6 = .ok (.aload_n 0, 1) := by decide +kernel
theorem d_Votes_countSwung_7 : decode M_Votes_countSwung.2.1 7 = .ok (.getfield 9, 3) := by decide +kernel
theorem d_Votes_countSwung_10 : decode M_Votes_countSwung.2.1 10 = .ok (.getfield 15, 3) := by decide +kernel
theorem d_Votes_countSwung_13 : decode M_Votes_countSwung.2.1 13 = .ok (.ishl, 1) := by decide +kernel
theorem d_Votes_countSwung_14 : decode M_Votes_countSwung.2.1 14 = .ok (.if_icmp .ge 52, 3) := by decide +kernel
theorem d_Votes_countSwung_17 : decode M_Votes_countSwung.2.1 17 = .ok (.iload_n 3, 1) := by decide +kernel
theorem d_Votes_countSwung_18 : decode M_Votes_countSwung.2.1 18 = .ok (.iload_n 1, 1) := by decide +kernel
theorem d_Votes_countSwung_19 : decode M_Votes_countSwung.2.1 19 = .ok (.ishr, 1) := by decide +kernel
theorem d_Votes_countSwung_20 : decode M_Votes_countSwung.2.1 20 = .ok (.iconst 1, 1) := by decide +kernel
theorem d_Votes_countSwung_21 : decode M_Votes_countSwung.2.1 21 = .ok (.iand, 1) := by decide +kernel
theorem d_Votes_countSwung_22 : decode M_Votes_countSwung.2.1 22 = .ok (.ifCond .ne 7, 3) := by decide +kernel
theorem d_Votes_countSwung_25 : decode M_Votes_countSwung.2.1 25 = .ok (.iconst 1, 1) := by decide +kernel
theorem d_Votes_countSwung_26 : decode M_Votes_countSwung.2.1 26 = .ok (.goto 4, 3) := by decide +kernel
theorem d_Votes_countSwung_29 : decode M_Votes_countSwung.2.1 29 = .ok (.iconst 0, 1) := by decide +kernel
theorem d_Votes_countSwung_30 : decode M_Votes_countSwung.2.1 30 = .ok (.istore 4, 2) := by decide +kernel
theorem d_Votes_countSwung_32 : decode M_Votes_countSwung.2.1 32 = .ok (.iload 4, 2) := by decide +kernel
theorem d_Votes_countSwung_34 : decode M_Votes_countSwung.2.1 34 = .ok (.ifCond .eq 26, 3) := by decide +kernel
theorem d_Votes_countSwung_37 : decode M_Votes_countSwung.2.1 37 = .ok (.aload_n 0, 1) := by decide +kernel
theorem d_Votes_countSwung_38 : decode M_Votes_countSwung.2.1 38 = .ok (.iload_n 3, 1) := by decide +kernel
theorem d_Votes_countSwung_39 : decode M_Votes_countSwung.2.1 39 = .ok (.invokevirtual 21, 3) := by decide +kernel
theorem d_Votes_countSwung_42 : decode M_Votes_countSwung.2.1 42 = .ok (.ifCond .ne 18, 3) := by decide +kernel
theorem d_Votes_countSwung_45 : decode M_Votes_countSwung.2.1 45 = .ok (.aload_n 0, 1) := by decide +kernel
theorem d_Votes_countSwung_46 : decode M_Votes_countSwung.2.1 46 = .ok (.iload_n 3, 1) := by decide +kernel
theorem d_Votes_countSwung_47 : decode M_Votes_countSwung.2.1 47 = .ok (.iconst 1, 1) := by decide +kernel
theorem d_Votes_countSwung_48 : decode M_Votes_countSwung.2.1 48 = .ok (.iload_n 1, 1) := by decide +kernel
theorem d_Votes_countSwung_49 : decode M_Votes_countSwung.2.1 49 = .ok (.ishl, 1) := by decide +kernel
theorem d_Votes_countSwung_50 : decode M_Votes_countSwung.2.1 50 = .ok (.ior, 1) := by decide +kernel
theorem d_Votes_countSwung_51 : decode M_Votes_countSwung.2.1 51 = .ok (.invokevirtual 21, 3) := by decide +kernel
theorem d_Votes_countSwung_54 : decode M_Votes_countSwung.2.1 54 = .ok (.ifCond .eq 6, 3) := by decide +kernel
theorem d_Votes_countSwung_57 : decode M_Votes_countSwung.2.1 57 = .ok (.iinc 2 1, 3) := by decide +kernel
theorem d_Votes_countSwung_60 : decode M_Votes_countSwung.2.1 60 = .ok (.iinc 3 1, 3) := by decide +kernel
theorem d_Votes_countSwung_63 : decode M_Votes_countSwung.2.1 63 = .ok (.goto (-59), 3) := by decide +kernel
theorem d_Votes_countSwung_66 : decode M_Votes_countSwung.2.1 66 = .ok (.iload_n 2, 1) := by decide +kernel
theorem d_Votes_countSwung_67 : decode M_Votes_countSwung.2.1 67 = .ok (.ireturn, 1) := by decide +kernel
theorem d_Votes_fewestRuling_0 : decode M_Votes_fewestRuling.2.1 0 = .ok (.bipush (-2), 2) := by decide +kernel
theorem d_Votes_fewestRuling_2 : decode M_Votes_fewestRuling.2.1 2 = .ok (.istore_n 1, 1) := by decide +kernel
theorem d_Votes_fewestRuling_3 : decode M_Votes_fewestRuling.2.1 3 = .ok (.bipush 6, 2) := by decide +kernel
theorem d_Votes_fewestRuling_5 : decode M_Votes_fewestRuling.2.1 5 = .ok (.istore_n 2, 1) := by decide +kernel
theorem d_Votes_fewestRuling_6 : decode M_Votes_fewestRuling.2.1 6 = .ok (.iconst 0, 1) := by decide +kernel
theorem d_Votes_fewestRuling_7 : decode M_Votes_fewestRuling.2.1 7 = .ok (.istore_n 3, 1) := by decide +kernel
theorem d_Votes_fewestRuling_8 : decode M_Votes_fewestRuling.2.1 8 = .ok (.iload_n 3, 1) := by decide +kernel
theorem d_Votes_fewestRuling_9 : decode M_Votes_fewestRuling.2.1 9 = .ok (.iconst 1, 1) := by decide +kernel
theorem d_Votes_fewestRuling_10 : decode M_Votes_fewestRuling.2.1 10 = .ok (.aload_n 0, 1) := by decide +kernel
theorem d_Votes_fewestRuling_11 : decode M_Votes_fewestRuling.2.1 11 = .ok (.getfield 9, 3) := by decide +kernel
theorem d_Votes_fewestRuling_14 : decode M_Votes_fewestRuling.2.1 14 = .ok (.getfield 15, 3) := by decide +kernel
theorem d_Votes_fewestRuling_17 : decode M_Votes_fewestRuling.2.1 17 = .ok (.ishl, 1) := by decide +kernel
theorem d_Votes_fewestRuling_18 : decode M_Votes_fewestRuling.2.1 18 = .ok (.if_icmp .ge 32, 3) := by decide +kernel
theorem d_Votes_fewestRuling_21 : decode M_Votes_fewestRuling.2.1 21 = .ok (.iload_n 3, 1) := by decide +kernel
theorem d_Votes_fewestRuling_22 : decode M_Votes_fewestRuling.2.1 22 = .ok (.invokestatic 25, 3) := by decide +kernel
theorem d_Votes_fewestRuling_25 : decode M_Votes_fewestRuling.2.1 25 = .ok (.iload_n 2, 1) := by decide +kernel
theorem d_Votes_fewestRuling_26 : decode M_Votes_fewestRuling.2.1 26 = .ok (.if_icmp .ge 18, 3) := by decide +kernel
theorem d_Votes_fewestRuling_29 : decode M_Votes_fewestRuling.2.1 29 = .ok (.aload_n 0, 1) := by decide +kernel
theorem d_Votes_fewestRuling_30 : decode M_Votes_fewestRuling.2.1 30 = .ok (.iload_n 3, 1) := by decide +kernel
theorem d_Votes_fewestRuling_31 : decode M_Votes_fewestRuling.2.1 31 = .ok (.invokevirtual 21, 3) := by decide +kernel
theorem d_Votes_fewestRuling_34 : decode M_Votes_fewestRuling.2.1 34 = .ok (.ifCond .eq 10, 3) := by decide +kernel
theorem d_Votes_fewestRuling_37 : decode M_Votes_fewestRuling.2.1 37 = .ok (.iload_n 3, 1) := by decide +kernel
theorem d_Votes_fewestRuling_38 : decode M_Votes_fewestRuling.2.1 38 = .ok (.istore_n 1, 1) := by decide +kernel
theorem d_Votes_fewestRuling_39 : decode M_Votes_fewestRuling.2.1 39 = .ok (.iload_n 3, 1) := by decide +kernel
theorem d_Votes_fewestRuling_40 : decode M_Votes_fewestRuling.2.1 40 = .ok (.invokestatic 25, 3) := by decide +kernel
theorem d_Votes_fewestRuling_43 : decode M_Votes_fewestRuling.2.1 43 = .ok (.istore_n 2, 1) := by decide +kernel
theorem d_Votes_fewestRuling_44 : decode M_Votes_fewestRuling.2.1 44 = .ok (.iinc 3 1, 3) := by decide +kernel
theorem d_Votes_fewestRuling_47 : decode M_Votes_fewestRuling.2.1 47 = .ok (.goto (-39), 3) := by decide +kernel
theorem d_Votes_fewestRuling_50 : decode M_Votes_fewestRuling.2.1 50 = .ok (.iload_n 1, 1) := by decide +kernel
theorem d_Votes_fewestRuling_51 : decode M_Votes_fewestRuling.2.1 51 = .ok (.ireturn, 1) := by decide +kernel
theorem d_Votes_hasMost_0 : decode M_Votes_hasMost.2.1 0 = .ok (.iconst 0, 1) := by decide +kernel
theorem d_Votes_hasMost_1 : decode M_Votes_hasMost.2.1 1 = .ok (.istore_n 2, 1) := by decide +kernel
theorem d_Votes_hasMost_2 : decode M_Votes_hasMost.2.1 2 = .ok (.iconst 0, 1) := by decide +kernel
theorem d_Votes_hasMost_3 : decode M_Votes_hasMost.2.1 3 = .ok (.istore_n 3, 1) := by decide +kernel
theorem d_Votes_hasMost_4 : decode M_Votes_hasMost.2.1 4 = .ok (.iconst 0, 1) := by decide +kernel
theorem d_Votes_hasMost_5 : decode M_Votes_hasMost.2.1 5 = .ok (.istore 4, 2) := by decide +kernel
theorem d_Votes_hasMost_7 : decode M_Votes_hasMost.2.1 7 = .ok (.iload 4, 2) := by decide +kernel
theorem d_Votes_hasMost_9 : decode M_Votes_hasMost.2.1 9 = .ok (.aload_n 0, 1) := by decide +kernel
theorem d_Votes_hasMost_10 : decode M_Votes_hasMost.2.1 10 = .ok (.getfield 9, 3) := by decide +kernel
theorem d_Votes_hasMost_13 : decode M_Votes_hasMost.2.1 13 = .ok (.getfield 15, 3) := by decide +kernel
theorem d_Votes_hasMost_16 : decode M_Votes_hasMost.2.1 16 = .ok (.if_icmp .ge 44, 3) := by decide +kernel
theorem d_Votes_hasMost_19 : decode M_Votes_hasMost.2.1 19 = .ok (.iload_n 3, 1) := by decide +kernel
theorem d_Votes_hasMost_20 : decode M_Votes_hasMost.2.1 20 = .ok (.aload_n 0, 1) := by decide +kernel
theorem d_Votes_hasMost_21 : decode M_Votes_hasMost.2.1 21 = .ok (.getfield 9, 3) := by decide +kernel
theorem d_Votes_hasMost_24 : decode M_Votes_hasMost.2.1 24 = .ok (.getfield 31, 3) := by decide +kernel
theorem d_Votes_hasMost_27 : decode M_Votes_hasMost.2.1 27 = .ok (.iload 4, 2) := by decide +kernel
theorem d_Votes_hasMost_29 : decode M_Votes_hasMost.2.1 29 = .ok (.iaload, 1) := by decide +kernel
theorem d_Votes_hasMost_30 : decode M_Votes_hasMost.2.1 30 = .ok (.iadd, 1) := by decide +kernel
theorem d_Votes_hasMost_31 : decode M_Votes_hasMost.2.1 31 = .ok (.istore_n 3, 1) := by decide +kernel
theorem d_Votes_hasMost_32 : decode M_Votes_hasMost.2.1 32 = .ok (.iload_n 1, 1) := by decide +kernel
theorem d_Votes_hasMost_33 : decode M_Votes_hasMost.2.1 33 = .ok (.iload 4, 2) := by decide +kernel
theorem d_Votes_hasMost_35 : decode M_Votes_hasMost.2.1 35 = .ok (.ishr, 1) := by decide +kernel
theorem d_Votes_hasMost_36 : decode M_Votes_hasMost.2.1 36 = .ok (.iconst 1, 1) := by decide +kernel
theorem d_Votes_hasMost_37 : decode M_Votes_hasMost.2.1 37 = .ok (.iand, 1) := by decide +kernel
theorem d_Votes_hasMost_38 : decode M_Votes_hasMost.2.1 38 = .ok (.ifCond .eq 16, 3) := by decide +kernel
theorem d_Votes_hasMost_41 : decode M_Votes_hasMost.2.1 41 = .ok (.iload_n 2, 1) := by decide +kernel
theorem d_Votes_hasMost_42 : decode M_Votes_hasMost.2.1 42 = .ok (.aload_n 0, 1) := by decide +kernel
theorem d_Votes_hasMost_43 : decode M_Votes_hasMost.2.1 43 = .ok (.getfield 9, 3) := by decide +kernel
theorem d_Votes_hasMost_46 : decode M_Votes_hasMost.2.1 46 = .ok (.getfield 31, 3) := by decide +kernel
theorem d_Votes_hasMost_49 : decode M_Votes_hasMost.2.1 49 = .ok (.iload 4, 2) := by decide +kernel
theorem d_Votes_hasMost_51 : decode M_Votes_hasMost.2.1 51 = .ok (.iaload, 1) := by decide +kernel
theorem d_Votes_hasMost_52 : decode M_Votes_hasMost.2.1 52 = .ok (.iadd, 1) := by decide +kernel
theorem d_Votes_hasMost_53 : decode M_Votes_hasMost.2.1 53 = .ok (.istore_n 2, 1) := by decide +kernel
theorem d_Votes_hasMost_54 : decode M_Votes_hasMost.2.1 54 = .ok (.iinc 4 1, 3) := by decide +kernel
theorem d_Votes_hasMost_57 : decode M_Votes_hasMost.2.1 57 = .ok (.goto (-50), 3) := by decide +kernel
theorem d_Votes_hasMost_60 : decode M_Votes_hasMost.2.1 60 = .ok (.iconst 2, 1) := by decide +kernel
theorem d_Votes_hasMost_61 : decode M_Votes_hasMost.2.1 61 = .ok (.iload_n 2, 1) := by decide +kernel
theorem d_Votes_hasMost_62 : decode M_Votes_hasMost.2.1 62 = .ok (.imul, 1) := by decide +kernel
theorem d_Votes_hasMost_63 : decode M_Votes_hasMost.2.1 63 = .ok (.iload_n 3, 1) := by decide +kernel
theorem d_Votes_hasMost_64 : decode M_Votes_hasMost.2.1 64 = .ok (.if_icmp .le 7, 3) := by decide +kernel
theorem d_Votes_hasMost_67 : decode M_Votes_hasMost.2.1 67 = .ok (.iconst 1, 1) := by decide +kernel
theorem d_Votes_hasMost_68 : decode M_Votes_hasMost.2.1 68 = .ok (.goto 4, 3) := by decide +kernel
theorem d_Votes_hasMost_71 : decode M_Votes_hasMost.2.1 71 = .ok (.iconst 0, 1) := by decide +kernel
theorem d_Votes_hasMost_72 : decode M_Votes_hasMost.2.1 72 = .ok (.ireturn, 1) := by decide +kernel
set_option maxRecDepth 4000 in
theorem t_Votes_countSetsOfOthers {d : Nat} {I : Nat → Nat → Int32} {J : Nat → Nat → Int64} {R : Nat → Nat → Option Nat} {Q : Option Value → ow_H → Prop}   (hR : ow_RF R) (T : (((I 2 3) ≤ 0 → Q (some (.int 1)) (85, I, J, R)) ∧ (¬ (I 2 3) ≤ 0 → Q (some (.int ((1 : Int32) <<< (((I 2 3) - 1) &&& 31)))) (85, I, J, R)))) : ow_AM M_Votes_countSetsOfOthers (d + 1) [.ref 62] (85, I, J, R) Q := by
  refine ow_enter (by decide) (Nat.le_of_ble_eq_true rfl) ?_
  show ow_AW ow_Y0 (ow_Z Q) M_Votes_countSetsOfOthers (d + 1) 0 0 0 [(0, .ref 62)] [] (85, I, J, R) 0 0
  refine ow_aload_n 0 rfl d_Votes_countSetsOfOthers_0 ?_
  refine ow_gR (a := 2) 136 d_Votes_countSetsOfOthers_1 rfl rfl (by decide) rfl ⟨rfl, hR 62 0 (by decide)⟩ ?_
  refine ow_gI 39 d_Votes_countSetsOfOthers_4 rfl rfl (by decide) rfl (Or.inl rfl) ?_
  refine ow_if_le (tgt := 24) d_Votes_countSetsOfOthers_7 (by decide) (fun c => ?_) (fun c => ?_)
  · replace T := T.1 c
    refine ow_iconst (v := 1) (by decide) d_Votes_countSetsOfOthers_24 ?_
    exact ow_iret d_Votes_countSetsOfOthers_25 rfl T
  · replace T := T.2 c
    refine ow_iconst (v := 1) (by decide) d_Votes_countSetsOfOthers_10 ?_
    refine ow_aload_n 0 rfl d_Votes_countSetsOfOthers_11 ?_
    refine ow_gR (a := 2) 136 d_Votes_countSetsOfOthers_12 rfl rfl (by decide) rfl ⟨rfl, hR 62 0 (by decide)⟩ ?_
    refine ow_gI 39 d_Votes_countSetsOfOthers_15 rfl rfl (by decide) rfl (Or.inl rfl) ?_
    refine ow_iconst (v := 1) (by decide) d_Votes_countSetsOfOthers_18 ?_
    refine ow_isub d_Votes_countSetsOfOthers_19 ?_
    refine ow_ishl d_Votes_countSetsOfOthers_20 ?_
    refine ow_goto (tgt := 25) d_Votes_countSetsOfOthers_21 (by decide) ?_
    exact ow_iret d_Votes_countSetsOfOthers_25 rfl T
set_option maxRecDepth 4000 in
theorem t_Votes_countSwung_4 {d : Nat} {I : Nat → Nat → Int32} {J : Nat → Nat → Int64} {R : Nat → Nat → Option Nat} {Q : Option Value → ow_H → Prop}  {v1 : Int32} {v2 : Int32} {v3 : Int32}  (hR : ow_RF R) (T : ((((1 : Int32) <<< ((I 2 3) &&& 31)) ≤ v3 → Q (some (.int v2)) (85, I, J, R)) ∧ (¬ ((1 : Int32) <<< ((I 2 3) &&& 31)) ≤ v3 → ((¬ ((v3 >>> (v1 &&& 31)) &&& 1) = 0 → ow_AW ow_Y0 (ow_Z Q) M_Votes_countSwung (d + 1) 0 0 4 [(0, .ref 62), (1, .int v1), (2, .int v2), (3, .int (v3 + 1))] [] (85, I, J, R) 0 0) ∧ (((v3 >>> (v1 &&& 31)) &&& 1) = 0 → (ow_AM M_Votes_hasMost d [.ref 62, .int v3] (85, I, J, R) (fun r h' => ∃ (r1 : Int32) (I1 : Nat → Nat → Int32) (J1 : Nat → Nat → Int64) (R1 : Nat → Nat → Option Nat), r = some (.int r1) ∧ h' = (85, I1, J1, R1) ∧ ow_RF R1 ∧ ((¬ r1 = 0 → ow_AW ow_Y0 (ow_Z Q) M_Votes_countSwung (d + 1) 0 0 4 [(0, .ref 62), (1, .int v1), (2, .int v2), (3, .int (v3 + 1))] [] (85, I1, J1, R1) 0 0) ∧ (r1 = 0 → (ow_AM M_Votes_hasMost d [.ref 62, .int (v3 ||| ((1 : Int32) <<< (v1 &&& 31)))] (85, I1, J1, R1) (fun r h' => ∃ (r2 : Int32) (I2 : Nat → Nat → Int32) (J2 : Nat → Nat → Int64) (R2 : Nat → Nat → Option Nat), r = some (.int r2) ∧ h' = (85, I2, J2, R2) ∧ ow_RF R2 ∧ ((r2 = 0 → ow_AW ow_Y0 (ow_Z Q) M_Votes_countSwung (d + 1) 0 0 4 [(0, .ref 62), (1, .int v1), (2, .int v2), (3, .int (v3 + 1))] [] (85, I2, J2, R2) 0 0) ∧ (¬ r2 = 0 → ow_AW ow_Y0 (ow_Z Q) M_Votes_countSwung (d + 1) 0 0 4 [(0, .ref 62), (1, .int v1), (2, .int (v2 + 1)), (3, .int (v3 + 1))] [] (85, I2, J2, R2) 0 0))))))))))))) : ow_AW ow_Y0 (ow_Z Q) M_Votes_countSwung (d + 1) 0 0 4 [(0, .ref 62), (1, .int v1), (2, .int v2), (3, .int v3)] [] (85, I, J, R) 0 0 := by
  refine ow_iload_n 3 rfl d_Votes_countSwung_4 ?_
  refine ow_iconst (v := 1) (by decide) d_Votes_countSwung_5 ?_
  refine ow_aload_n 0 rfl d_Votes_countSwung_6 ?_
  refine ow_gR (a := 2) 136 d_Votes_countSwung_7 rfl rfl (by decide) rfl ⟨rfl, hR 62 0 (by decide)⟩ ?_
  refine ow_gI 39 d_Votes_countSwung_10 rfl rfl (by decide) rfl (Or.inl rfl) ?_
  refine ow_ishl d_Votes_countSwung_13 ?_
  refine ow_icmp_ge (tgt := 66) d_Votes_countSwung_14 (by decide) (fun c => ?_) (fun c => ?_)
  · replace T := T.1 c
    refine ow_iload_n 2 rfl d_Votes_countSwung_66 ?_
    exact ow_iret d_Votes_countSwung_67 rfl T
  · replace T := T.2 c
    refine ow_iload_n 3 rfl d_Votes_countSwung_17 ?_
    refine ow_iload_n 1 rfl d_Votes_countSwung_18 ?_
    refine ow_ishr d_Votes_countSwung_19 ?_
    refine ow_iconst (v := 1) (by decide) d_Votes_countSwung_20 ?_
    refine ow_iand d_Votes_countSwung_21 ?_
    refine ow_if_ne (tgt := 29) d_Votes_countSwung_22 (by decide) (fun c => ?_) (fun c => ?_)
    · replace T := T.1 c
      refine ow_iconst (v := 0) (by decide) d_Votes_countSwung_29 ?_
      refine ow_istore (ls2 := [(4, .int 0), (0, .ref 62), (1, .int v1), (2, .int v2), (3, .int v3)]) d_Votes_countSwung_30 (by decide) rfl ?_
      refine ow_iload 0 rfl d_Votes_countSwung_32 ?_
      refine ow_if_eq (tgt := 60) d_Votes_countSwung_34 (by decide) (fun c => ?_) (fun c => ?_)
      · clear c
        refine ow_iinc 4 (v := (v3 + 1)) (ls2 := [(3, .int (v3 + 1)), (4, .int 0), (0, .ref 62), (1, .int v1), (2, .int v2)]) d_Votes_countSwung_60 rfl rfl (by decide) rfl ?_
        refine ow_goto (tgt := 4) d_Votes_countSwung_63 (by decide) ?_
        refine ow_sub [2, 3, 4, 0] rfl ?_
        exact T
      · exact absurd c (by decide)
    · replace T := T.2 c
      refine ow_iconst (v := 1) (by decide) d_Votes_countSwung_25 ?_
      refine ow_goto (tgt := 30) d_Votes_countSwung_26 (by decide) ?_
      refine ow_istore (ls2 := [(4, .int 1), (0, .ref 62), (1, .int v1), (2, .int v2), (3, .int v3)]) d_Votes_countSwung_30 (by decide) rfl ?_
      refine ow_iload 0 rfl d_Votes_countSwung_32 ?_
      refine ow_if_eq (tgt := 60) d_Votes_countSwung_34 (by decide) (fun c => ?_) (fun c => ?_)
      · exact absurd c (by decide)
      · clear c
        refine ow_aload_n 1 rfl d_Votes_countSwung_37 ?_
        refine ow_iload_n 4 rfl d_Votes_countSwung_38 ?_
        refine ow_callV (b := 62) (cq := 9) (As := [.int v3]) (rest := []) (d2 := d) d_Votes_countSwung_39 l_Votes_21 v_Votes_hasMost (show 62 < 85 by decide) rfl (by decide) rfl (Nat.le_of_ble_eq_true rfl) (Nat.le_refl _) ⟨Nat.le_refl _, Nat.le_refl _⟩ (ow_mono T ?_)
        rintro r h' ⟨r1, I1, J1, R1, rfl, rfl, hR1, T⟩
        show ow_AW ow_Y0 (ow_Z Q) M_Votes_countSwung (d + 1) 0 0 42 [(4, .int 1), (0, .ref 62), (1, .int v1), (2, .int v2), (3, .int v3)] [.int r1] (85, I1, J1, R1) 0 0
        refine ow_if_ne (tgt := 60) d_Votes_countSwung_42 (by decide) (fun c => ?_) (fun c => ?_)
        · replace T := T.1 c
          refine ow_iinc 4 (v := (v3 + 1)) (ls2 := [(3, .int (v3 + 1)), (4, .int 1), (0, .ref 62), (1, .int v1), (2, .int v2)]) d_Votes_countSwung_60 rfl rfl (by decide) rfl ?_
          refine ow_goto (tgt := 4) d_Votes_countSwung_63 (by decide) ?_
          refine ow_sub [2, 3, 4, 0] rfl ?_
          exact T
        · replace T := T.2 c
          refine ow_aload_n 1 rfl d_Votes_countSwung_45 ?_
          refine ow_iload_n 4 rfl d_Votes_countSwung_46 ?_
          refine ow_iconst (v := 1) (by decide) d_Votes_countSwung_47 ?_
          refine ow_iload_n 2 rfl d_Votes_countSwung_48 ?_
          refine ow_ishl d_Votes_countSwung_49 ?_
          refine ow_ior d_Votes_countSwung_50 ?_
          refine ow_callV (b := 62) (cq := 9) (As := [.int (v3 ||| ((1 : Int32) <<< (v1 &&& 31)))]) (rest := []) (d2 := d) d_Votes_countSwung_51 l_Votes_21 v_Votes_hasMost (show 62 < 85 by decide) rfl (by decide) rfl (Nat.le_of_ble_eq_true rfl) (Nat.le_refl _) ⟨Nat.le_refl _, Nat.le_refl _⟩ (ow_mono T ?_)
          rintro r h' ⟨r2, I2, J2, R2, rfl, rfl, hR2, T⟩
          show ow_AW ow_Y0 (ow_Z Q) M_Votes_countSwung (d + 1) 0 0 54 [(4, .int 1), (0, .ref 62), (1, .int v1), (2, .int v2), (3, .int v3)] [.int r2] (85, I2, J2, R2) 0 0
          refine ow_if_eq (tgt := 60) d_Votes_countSwung_54 (by decide) (fun c => ?_) (fun c => ?_)
          · replace T := T.1 c
            refine ow_iinc 4 (v := (v3 + 1)) (ls2 := [(3, .int (v3 + 1)), (4, .int 1), (0, .ref 62), (1, .int v1), (2, .int v2)]) d_Votes_countSwung_60 rfl rfl (by decide) rfl ?_
            refine ow_goto (tgt := 4) d_Votes_countSwung_63 (by decide) ?_
            refine ow_sub [2, 3, 4, 0] rfl ?_
            exact T
          · replace T := T.2 c
            refine ow_iinc 3 (v := (v2 + 1)) (ls2 := [(2, .int (v2 + 1)), (4, .int 1), (0, .ref 62), (1, .int v1), (3, .int v3)]) d_Votes_countSwung_57 rfl rfl (by decide) rfl ?_
            refine ow_iinc 4 (v := (v3 + 1)) (ls2 := [(3, .int (v3 + 1)), (2, .int (v2 + 1)), (4, .int 1), (0, .ref 62), (1, .int v1)]) d_Votes_countSwung_60 rfl rfl (by decide) rfl ?_
            refine ow_goto (tgt := 4) d_Votes_countSwung_63 (by decide) ?_
            refine ow_sub [3, 4, 1, 0] rfl ?_
            exact T
set_option maxRecDepth 4000 in
theorem t_Votes_countSwung {d : Nat} {I : Nat → Nat → Int32} {J : Nat → Nat → Int64} {R : Nat → Nat → Option Nat} {Q : Option Value → ow_H → Prop} {p1 : Int32}  (hR : ow_RF R) (T : ow_AW ow_Y0 (ow_Z Q) M_Votes_countSwung (d + 1) 0 0 4 [(0, .ref 62), (1, .int p1), (2, .int 0), (3, .int 0)] [] (85, I, J, R) 0 0) : ow_AM M_Votes_countSwung (d + 1) [.ref 62, .int p1] (85, I, J, R) Q := by
  refine ow_enter (by decide) (Nat.le_of_ble_eq_true rfl) ?_
  show ow_AW ow_Y0 (ow_Z Q) M_Votes_countSwung (d + 1) 0 0 0 [(0, .ref 62), (1, .int p1)] [] (85, I, J, R) 0 0
  refine ow_iconst (v := 0) (by decide) d_Votes_countSwung_0 ?_
  refine ow_istore_n (ls2 := [(2, .int 0), (0, .ref 62), (1, .int p1)]) d_Votes_countSwung_1 (by decide) rfl ?_
  refine ow_iconst (v := 0) (by decide) d_Votes_countSwung_2 ?_
  refine ow_istore_n (ls2 := [(3, .int 0), (2, .int 0), (0, .ref 62), (1, .int p1)]) d_Votes_countSwung_3 (by decide) rfl ?_
  refine ow_sub [2, 3, 1, 0] rfl ?_
  exact T
set_option maxRecDepth 4000 in
theorem t_Votes_fewestRuling_8 {d : Nat} {I : Nat → Nat → Int32} {J : Nat → Nat → Int64} {R : Nat → Nat → Option Nat} {Q : Option Value → ow_H → Prop}  {v1 : Int32} {v2 : Int32} {v3 : Int32}  (hR : ow_RF R) (T : ((((1 : Int32) <<< ((I 2 3) &&& 31)) ≤ v3 → Q (some (.int v1)) (85, I, J, R)) ∧ (¬ ((1 : Int32) <<< ((I 2 3) &&& 31)) ≤ v3 → (ow_AM M_Integer_bitCount d [.int v3] (85, I, J, R) (fun r h' => ∃ (r1 : Int32) (I1 : Nat → Nat → Int32) (J1 : Nat → Nat → Int64) (R1 : Nat → Nat → Option Nat), r = some (.int r1) ∧ h' = (85, I1, J1, R1) ∧ ow_RF R1 ∧ ((v2 ≤ r1 → ow_AW ow_Y0 (ow_Z Q) M_Votes_fewestRuling (d + 1) 0 0 8 [(0, .ref 62), (1, .int v1), (2, .int v2), (3, .int (v3 + 1))] [] (85, I1, J1, R1) 0 0) ∧ (¬ v2 ≤ r1 → (ow_AM M_Votes_hasMost d [.ref 62, .int v3] (85, I1, J1, R1) (fun r h' => ∃ (r2 : Int32) (I2 : Nat → Nat → Int32) (J2 : Nat → Nat → Int64) (R2 : Nat → Nat → Option Nat), r = some (.int r2) ∧ h' = (85, I2, J2, R2) ∧ ow_RF R2 ∧ ((r2 = 0 → ow_AW ow_Y0 (ow_Z Q) M_Votes_fewestRuling (d + 1) 0 0 8 [(0, .ref 62), (1, .int v1), (2, .int v2), (3, .int (v3 + 1))] [] (85, I2, J2, R2) 0 0) ∧ (¬ r2 = 0 → (ow_AM M_Integer_bitCount d [.int v3] (85, I2, J2, R2) (fun r h' => ∃ (r3 : Int32) (I3 : Nat → Nat → Int32) (J3 : Nat → Nat → Int64) (R3 : Nat → Nat → Option Nat), r = some (.int r3) ∧ h' = (85, I3, J3, R3) ∧ ow_RF R3 ∧ ow_AW ow_Y0 (ow_Z Q) M_Votes_fewestRuling (d + 1) 0 0 8 [(0, .ref 62), (1, .int v3), (2, .int r3), (3, .int (v3 + 1))] [] (85, I3, J3, R3) 0 0))))))))))))) : ow_AW ow_Y0 (ow_Z Q) M_Votes_fewestRuling (d + 1) 0 0 8 [(0, .ref 62), (1, .int v1), (2, .int v2), (3, .int v3)] [] (85, I, J, R) 0 0 := by
  refine ow_iload_n 3 rfl d_Votes_fewestRuling_8 ?_
  refine ow_iconst (v := 1) (by decide) d_Votes_fewestRuling_9 ?_
  refine ow_aload_n 0 rfl d_Votes_fewestRuling_10 ?_
  refine ow_gR (a := 2) 136 d_Votes_fewestRuling_11 rfl rfl (by decide) rfl ⟨rfl, hR 62 0 (by decide)⟩ ?_
  refine ow_gI 39 d_Votes_fewestRuling_14 rfl rfl (by decide) rfl (Or.inl rfl) ?_
  refine ow_ishl d_Votes_fewestRuling_17 ?_
  refine ow_icmp_ge (tgt := 50) d_Votes_fewestRuling_18 (by decide) (fun c => ?_) (fun c => ?_)
  · replace T := T.1 c
    refine ow_iload_n 1 rfl d_Votes_fewestRuling_50 ?_
    exact ow_iret d_Votes_fewestRuling_51 rfl T
  · replace T := T.2 c
    refine ow_iload_n 3 rfl d_Votes_fewestRuling_21 ?_
    refine ow_callS (As := [.int v3]) (rest := []) (d2 := d) d_Votes_fewestRuling_22 l_Votes_25 v_Integer_bitCount (Nat.le_of_ble_eq_true rfl) (Nat.le_refl _) ⟨Nat.le_refl _, Nat.le_refl _⟩ (ow_mono T ?_)
    rintro r h' ⟨r1, I1, J1, R1, rfl, rfl, hR1, T⟩
    show ow_AW ow_Y0 (ow_Z Q) M_Votes_fewestRuling (d + 1) 0 0 25 [(0, .ref 62), (1, .int v1), (2, .int v2), (3, .int v3)] [.int r1] (85, I1, J1, R1) 0 0
    refine ow_iload_n 2 rfl d_Votes_fewestRuling_25 ?_
    refine ow_icmp_ge (tgt := 44) d_Votes_fewestRuling_26 (by decide) (fun c => ?_) (fun c => ?_)
    · replace T := T.1 c
      refine ow_iinc 3 (v := (v3 + 1)) (ls2 := [(3, .int (v3 + 1)), (0, .ref 62), (1, .int v1), (2, .int v2)]) d_Votes_fewestRuling_44 rfl rfl (by decide) rfl ?_
      refine ow_goto (tgt := 8) d_Votes_fewestRuling_47 (by decide) ?_
      refine ow_sub [1, 2, 3, 0] rfl ?_
      exact T
    · replace T := T.2 c
      refine ow_aload_n 0 rfl d_Votes_fewestRuling_29 ?_
      refine ow_iload_n 3 rfl d_Votes_fewestRuling_30 ?_
      refine ow_callV (b := 62) (cq := 9) (As := [.int v3]) (rest := []) (d2 := d) d_Votes_fewestRuling_31 l_Votes_21 v_Votes_hasMost (show 62 < 85 by decide) rfl (by decide) rfl (Nat.le_of_ble_eq_true rfl) (Nat.le_refl _) ⟨Nat.le_refl _, Nat.le_refl _⟩ (ow_mono T ?_)
      rintro r h' ⟨r2, I2, J2, R2, rfl, rfl, hR2, T⟩
      show ow_AW ow_Y0 (ow_Z Q) M_Votes_fewestRuling (d + 1) 0 0 34 [(0, .ref 62), (1, .int v1), (2, .int v2), (3, .int v3)] [.int r2] (85, I2, J2, R2) 0 0
      refine ow_if_eq (tgt := 44) d_Votes_fewestRuling_34 (by decide) (fun c => ?_) (fun c => ?_)
      · replace T := T.1 c
        refine ow_iinc 3 (v := (v3 + 1)) (ls2 := [(3, .int (v3 + 1)), (0, .ref 62), (1, .int v1), (2, .int v2)]) d_Votes_fewestRuling_44 rfl rfl (by decide) rfl ?_
        refine ow_goto (tgt := 8) d_Votes_fewestRuling_47 (by decide) ?_
        refine ow_sub [1, 2, 3, 0] rfl ?_
        exact T
      · replace T := T.2 c
        refine ow_iload_n 3 rfl d_Votes_fewestRuling_37 ?_
        refine ow_istore_n (ls2 := [(1, .int v3), (0, .ref 62), (2, .int v2), (3, .int v3)]) d_Votes_fewestRuling_38 (by decide) rfl ?_
        refine ow_iload_n 3 rfl d_Votes_fewestRuling_39 ?_
        refine ow_callS (As := [.int v3]) (rest := []) (d2 := d) d_Votes_fewestRuling_40 l_Votes_25 v_Integer_bitCount (Nat.le_of_ble_eq_true rfl) (Nat.le_refl _) ⟨Nat.le_refl _, Nat.le_refl _⟩ (ow_mono T ?_)
        rintro r h' ⟨r3, I3, J3, R3, rfl, rfl, hR3, T⟩
        show ow_AW ow_Y0 (ow_Z Q) M_Votes_fewestRuling (d + 1) 0 0 43 [(1, .int v3), (0, .ref 62), (2, .int v2), (3, .int v3)] [.int r3] (85, I3, J3, R3) 0 0
        refine ow_istore_n (ls2 := [(2, .int r3), (1, .int v3), (0, .ref 62), (3, .int v3)]) d_Votes_fewestRuling_43 (by decide) rfl ?_
        refine ow_iinc 3 (v := (v3 + 1)) (ls2 := [(3, .int (v3 + 1)), (2, .int r3), (1, .int v3), (0, .ref 62)]) d_Votes_fewestRuling_44 rfl rfl (by decide) rfl ?_
        refine ow_goto (tgt := 8) d_Votes_fewestRuling_47 (by decide) ?_
        refine ow_sub [3, 2, 1, 0] rfl ?_
        exact T
set_option maxRecDepth 4000 in
theorem t_Votes_fewestRuling {d : Nat} {I : Nat → Nat → Int32} {J : Nat → Nat → Int64} {R : Nat → Nat → Option Nat} {Q : Option Value → ow_H → Prop}   (hR : ow_RF R) (T : ow_AW ow_Y0 (ow_Z Q) M_Votes_fewestRuling (d + 1) 0 0 8 [(0, .ref 62), (1, .int (-2)), (2, .int 6), (3, .int 0)] [] (85, I, J, R) 0 0) : ow_AM M_Votes_fewestRuling (d + 1) [.ref 62] (85, I, J, R) Q := by
  refine ow_enter (by decide) (Nat.le_of_ble_eq_true rfl) ?_
  show ow_AW ow_Y0 (ow_Z Q) M_Votes_fewestRuling (d + 1) 0 0 0 [(0, .ref 62)] [] (85, I, J, R) 0 0
  refine ow_bipush (v := (-2)) (by decide) d_Votes_fewestRuling_0 ?_
  refine ow_istore_n (ls2 := [(1, .int (-2)), (0, .ref 62)]) d_Votes_fewestRuling_2 (by decide) rfl ?_
  refine ow_bipush (v := 6) (by decide) d_Votes_fewestRuling_3 ?_
  refine ow_istore_n (ls2 := [(2, .int 6), (1, .int (-2)), (0, .ref 62)]) d_Votes_fewestRuling_5 (by decide) rfl ?_
  refine ow_iconst (v := 0) (by decide) d_Votes_fewestRuling_6 ?_
  refine ow_istore_n (ls2 := [(3, .int 0), (2, .int 6), (1, .int (-2)), (0, .ref 62)]) d_Votes_fewestRuling_7 (by decide) rfl ?_
  refine ow_sub [3, 2, 1, 0] rfl ?_
  exact T
set_option maxRecDepth 4000 in
theorem t_Votes_hasMost_7 {d : Nat} {I : Nat → Nat → Int32} {J : Nat → Nat → Int64} {R : Nat → Nat → Option Nat} {Q : Option Value → ow_H → Prop}  {v1 : Int32} {v2 : Int32} {v3 : Int32} {v4 : Int32}  (hR : ow_RF R) (T : (((I 2 3) ≤ v4 → (((2 * v2) ≤ v3 → Q (some (.int 0)) (85, I, J, R)) ∧ (¬ (2 * v2) ≤ v3 → Q (some (.int 1)) (85, I, J, R)))) ∧ (¬ (I 2 3) ≤ v4 → (vp_in v4 5 ∧ ((((v1 >>> (v4 &&& 31)) &&& 1) = 0 → ow_AW ow_Y0 (ow_Z Q) M_Votes_hasMost (d + 1) 0 0 7 [(0, .ref 62), (1, .int v1), (2, .int v2), (3, .int (v3 + (I 8 v4.toNatClampNeg))), (4, .int (v4 + 1))] [] (85, I, J, R) 0 0) ∧ (¬ ((v1 >>> (v4 &&& 31)) &&& 1) = 0 → (vp_in v4 5 ∧ ow_AW ow_Y0 (ow_Z Q) M_Votes_hasMost (d + 1) 0 0 7 [(0, .ref 62), (1, .int v1), (2, .int (v2 + (I 8 v4.toNatClampNeg))), (3, .int (v3 + (I 8 v4.toNatClampNeg))), (4, .int (v4 + 1))] [] (85, I, J, R) 0 0))))))) : ow_AW ow_Y0 (ow_Z Q) M_Votes_hasMost (d + 1) 0 0 7 [(0, .ref 62), (1, .int v1), (2, .int v2), (3, .int v3), (4, .int v4)] [] (85, I, J, R) 0 0 := by
  refine ow_iload 4 rfl d_Votes_hasMost_7 ?_
  refine ow_aload_n 0 rfl d_Votes_hasMost_9 ?_
  refine ow_gR (a := 2) 136 d_Votes_hasMost_10 rfl rfl (by decide) rfl ⟨rfl, hR 62 0 (by decide)⟩ ?_
  refine ow_gI 39 d_Votes_hasMost_13 rfl rfl (by decide) rfl (Or.inl rfl) ?_
  refine ow_icmp_ge (tgt := 60) d_Votes_hasMost_16 (by decide) (fun c => ?_) (fun c => ?_)
  · replace T := T.1 c
    refine ow_iconst (v := 2) (by decide) d_Votes_hasMost_60 ?_
    refine ow_iload_n 2 rfl d_Votes_hasMost_61 ?_
    refine ow_imul d_Votes_hasMost_62 ?_
    refine ow_iload_n 3 rfl d_Votes_hasMost_63 ?_
    refine ow_icmp_le (tgt := 71) d_Votes_hasMost_64 (by decide) (fun c => ?_) (fun c => ?_)
    · replace T := T.1 c
      refine ow_iconst (v := 0) (by decide) d_Votes_hasMost_71 ?_
      exact ow_zret d_Votes_hasMost_72 rfl (by decide) T
    · replace T := T.2 c
      refine ow_iconst (v := 1) (by decide) d_Votes_hasMost_67 ?_
      refine ow_goto (tgt := 72) d_Votes_hasMost_68 (by decide) ?_
      exact ow_zret d_Votes_hasMost_72 rfl (by decide) T
  · replace T := T.2 c
    refine ow_iload_n 3 rfl d_Votes_hasMost_19 ?_
    refine ow_aload_n 0 rfl d_Votes_hasMost_20 ?_
    refine ow_gR (a := 2) 136 d_Votes_hasMost_21 rfl rfl (by decide) rfl ⟨rfl, hR 62 0 (by decide)⟩ ?_
    refine ow_gR (a := 8) 46 d_Votes_hasMost_24 rfl rfl (by decide) rfl ⟨rfl, hR 2 5 (by decide)⟩ ?_
    refine ow_iload 4 rfl d_Votes_hasMost_27 ?_
    obtain ⟨cI, T⟩ := T
    refine ow_hiaload d_Votes_hasMost_29 (by decide) rfl rfl cI ?_
    refine ow_iadd d_Votes_hasMost_30 ?_
    refine ow_istore_n (ls2 := [(3, .int (v3 + (I 8 v4.toNatClampNeg))), (0, .ref 62), (1, .int v1), (2, .int v2), (4, .int v4)]) d_Votes_hasMost_31 (by decide) rfl ?_
    refine ow_iload_n 2 rfl d_Votes_hasMost_32 ?_
    refine ow_iload 4 rfl d_Votes_hasMost_33 ?_
    refine ow_ishr d_Votes_hasMost_35 ?_
    refine ow_iconst (v := 1) (by decide) d_Votes_hasMost_36 ?_
    refine ow_iand d_Votes_hasMost_37 ?_
    refine ow_if_eq (tgt := 54) d_Votes_hasMost_38 (by decide) (fun c => ?_) (fun c => ?_)
    · replace T := T.1 c
      refine ow_iinc 4 (v := (v4 + 1)) (ls2 := [(4, .int (v4 + 1)), (3, .int (v3 + (I 8 v4.toNatClampNeg))), (0, .ref 62), (1, .int v1), (2, .int v2)]) d_Votes_hasMost_54 rfl rfl (by decide) rfl ?_
      refine ow_goto (tgt := 7) d_Votes_hasMost_57 (by decide) ?_
      refine ow_sub [2, 3, 4, 1, 0] rfl ?_
      exact T
    · replace T := T.2 c
      refine ow_iload_n 3 rfl d_Votes_hasMost_41 ?_
      refine ow_aload_n 1 rfl d_Votes_hasMost_42 ?_
      refine ow_gR (a := 2) 136 d_Votes_hasMost_43 rfl rfl (by decide) rfl ⟨rfl, hR 62 0 (by decide)⟩ ?_
      refine ow_gR (a := 8) 46 d_Votes_hasMost_46 rfl rfl (by decide) rfl ⟨rfl, hR 2 5 (by decide)⟩ ?_
      refine ow_iload 4 rfl d_Votes_hasMost_49 ?_
      obtain ⟨cI, T⟩ := T
      refine ow_hiaload d_Votes_hasMost_51 (by decide) rfl rfl cI ?_
      refine ow_iadd d_Votes_hasMost_52 ?_
      refine ow_istore_n (ls2 := [(2, .int (v2 + (I 8 v4.toNatClampNeg))), (3, .int (v3 + (I 8 v4.toNatClampNeg))), (0, .ref 62), (1, .int v1), (4, .int v4)]) d_Votes_hasMost_53 (by decide) rfl ?_
      refine ow_iinc 4 (v := (v4 + 1)) (ls2 := [(4, .int (v4 + 1)), (2, .int (v2 + (I 8 v4.toNatClampNeg))), (3, .int (v3 + (I 8 v4.toNatClampNeg))), (0, .ref 62), (1, .int v1)]) d_Votes_hasMost_54 rfl rfl (by decide) rfl ?_
      refine ow_goto (tgt := 7) d_Votes_hasMost_57 (by decide) ?_
      refine ow_sub [3, 4, 1, 2, 0] rfl ?_
      exact T
set_option maxRecDepth 4000 in
theorem t_Votes_hasMost {d : Nat} {I : Nat → Nat → Int32} {J : Nat → Nat → Int64} {R : Nat → Nat → Option Nat} {Q : Option Value → ow_H → Prop} {p1 : Int32}  (hR : ow_RF R) (T : ow_AW ow_Y0 (ow_Z Q) M_Votes_hasMost (d + 1) 0 0 7 [(0, .ref 62), (1, .int p1), (2, .int 0), (3, .int 0), (4, .int 0)] [] (85, I, J, R) 0 0) : ow_AM M_Votes_hasMost (d + 1) [.ref 62, .int p1] (85, I, J, R) Q := by
  refine ow_enter (by decide) (Nat.le_of_ble_eq_true rfl) ?_
  show ow_AW ow_Y0 (ow_Z Q) M_Votes_hasMost (d + 1) 0 0 0 [(0, .ref 62), (1, .int p1)] [] (85, I, J, R) 0 0
  refine ow_iconst (v := 0) (by decide) d_Votes_hasMost_0 ?_
  refine ow_istore_n (ls2 := [(2, .int 0), (0, .ref 62), (1, .int p1)]) d_Votes_hasMost_1 (by decide) rfl ?_
  refine ow_iconst (v := 0) (by decide) d_Votes_hasMost_2 ?_
  refine ow_istore_n (ls2 := [(3, .int 0), (2, .int 0), (0, .ref 62), (1, .int p1)]) d_Votes_hasMost_3 (by decide) rfl ?_
  refine ow_iconst (v := 0) (by decide) d_Votes_hasMost_4 ?_
  refine ow_istore (ls2 := [(4, .int 0), (3, .int 0), (2, .int 0), (0, .ref 62), (1, .int p1)]) d_Votes_hasMost_5 (by decide) rfl ?_
  refine ow_sub [3, 4, 2, 1, 0] rfl ?_
  exact T
