/-! Own rows, by program: Snaps_clear Snaps_push Snaps_pop Snaps_show -/
theorem d_Snaps_clear_0 : decode M_Snaps_clear.2.1 0 = .ok (.aload_n 0, 1) := by decide +kernel
theorem d_Snaps_clear_1 : decode M_Snaps_clear.2.1 1 = .ok (.iconst 0, 1) := by decide +kernel
theorem d_Snaps_clear_2 : decode M_Snaps_clear.2.1 2 = .ok (.putfield 19, 3) := by decide +kernel
theorem d_Snaps_clear_5 : decode M_Snaps_clear.2.1 5 = .ok (.return_, 1) := by decide +kernel
theorem d_Snaps_push_0 : decode M_Snaps_push.2.1 0 = .ok (.aload_n 0, 1) := by decide +kernel
theorem d_Snaps_push_1 : decode M_Snaps_push.2.1 1 = .ok (.getfield 19, 3) := by decide +kernel
theorem d_Snaps_push_4 : decode M_Snaps_push.2.1 4 = .ok (.aload_n 0, 1) := by decide +kernel
theorem d_Snaps_push_5 : decode M_Snaps_push.2.1 5 = .ok (.getfield 9, 3) := by decide +kernel
theorem d_Snaps_push_8 : decode M_Snaps_push.2.1 8 = .ok (.if_icmp .lt 36, 3) := by decide +kernel
theorem d_Snaps_push_11 : decode M_Snaps_push.2.1 11 = .ok (.aload_n 0, 1) := by decide +kernel
theorem d_Snaps_push_12 : decode M_Snaps_push.2.1 12 = .ok (.getfield 15, 3) := by decide +kernel
theorem d_Snaps_push_15 : decode M_Snaps_push.2.1 15 = .ok (.bipush 14, 2) := by decide +kernel
theorem d_Snaps_push_17 : decode M_Snaps_push.2.1 17 = .ok (.aload_n 0, 1) := by decide +kernel
theorem d_Snaps_push_18 : decode M_Snaps_push.2.1 18 = .ok (.getfield 15, 3) := by decide +kernel
theorem d_Snaps_push_21 : decode M_Snaps_push.2.1 21 = .ok (.iconst 0, 1) := by decide +kernel
theorem d_Snaps_push_22 : decode M_Snaps_push.2.1 22 = .ok (.aload_n 0, 1) := by decide +kernel
theorem d_Snaps_push_23 : decode M_Snaps_push.2.1 23 = .ok (.getfield 9, 3) := by decide +kernel
theorem d_Snaps_push_26 : decode M_Snaps_push.2.1 26 = .ok (.iconst 1, 1) := by decide +kernel
theorem d_Snaps_push_27 : decode M_Snaps_push.2.1 27 = .ok (.isub, 1) := by decide +kernel
theorem d_Snaps_push_28 : decode M_Snaps_push.2.1 28 = .ok (.bipush 14, 2) := by decide +kernel
theorem d_Snaps_push_30 : decode M_Snaps_push.2.1 30 = .ok (.imul, 1) := by decide +kernel
theorem d_Snaps_push_31 : decode M_Snaps_push.2.1 31 = .ok (.invokestatic 22, 3) := by decide +kernel
theorem d_Snaps_push_34 : decode M_Snaps_push.2.1 34 = .ok (.aload_n 0, 1) := by decide +kernel
theorem d_Snaps_push_35 : decode M_Snaps_push.2.1 35 = .ok (.aload_n 0, 1) := by decide +kernel
theorem d_Snaps_push_36 : decode M_Snaps_push.2.1 36 = .ok (.getfield 9, 3) := by decide +kernel
theorem d_Snaps_push_39 : decode M_Snaps_push.2.1 39 = .ok (.iconst 1, 1) := by decide +kernel
theorem d_Snaps_push_40 : decode M_Snaps_push.2.1 40 = .ok (.isub, 1) := by decide +kernel
theorem d_Snaps_push_41 : decode M_Snaps_push.2.1 41 = .ok (.putfield 19, 3) := by decide +kernel
theorem d_Snaps_push_44 : decode M_Snaps_push.2.1 44 = .ok (.aload_n 0, 1) := by decide +kernel
theorem d_Snaps_push_45 : decode M_Snaps_push.2.1 45 = .ok (.getfield 19, 3) := by decide +kernel
theorem d_Snaps_push_48 : decode M_Snaps_push.2.1 48 = .ok (.bipush 14, 2) := by decide +kernel
theorem d_Snaps_push_50 : decode M_Snaps_push.2.1 50 = .ok (.imul, 1) := by decide +kernel
theorem d_Snaps_push_51 : decode M_Snaps_push.2.1 51 = .ok (.istore_n 2, 1) := by decide +kernel
theorem d_Snaps_push_52 : decode M_Snaps_push.2.1 52 = .ok (.aload_n 0, 1) := by decide +kernel
theorem d_Snaps_push_53 : decode M_Snaps_push.2.1 53 = .ok (.getfield 15, 3) := by decide +kernel
theorem d_Snaps_push_56 : decode M_Snaps_push.2.1 56 = .ok (.iload_n 2, 1) := by decide +kernel
theorem d_Snaps_push_57 : decode M_Snaps_push.2.1 57 = .ok (.aload_n 1, 1) := by decide +kernel
theorem d_Snaps_push_58 : decode M_Snaps_push.2.1 58 = .ok (.getfield 28, 3) := by decide +kernel
theorem d_Snaps_push_61 : decode M_Snaps_push.2.1 61 = .ok (.iastore, 1) := by decide +kernel
theorem d_Snaps_push_62 : decode M_Snaps_push.2.1 62 = .ok (.aload_n 0, 1) := by decide +kernel
theorem d_Snaps_push_63 : decode M_Snaps_push.2.1 63 = .ok (.getfield 15, 3) := by decide +kernel
theorem d_Snaps_push_66 : decode M_Snaps_push.2.1 66 = .ok (.iload_n 2, 1) := by decide +kernel
theorem d_Snaps_push_67 : decode M_Snaps_push.2.1 67 = .ok (.iconst 1, 1) := by decide +kernel
theorem d_Snaps_push_68 : decode M_Snaps_push.2.1 68 = .ok (.iadd, 1) := by decide +kernel
theorem d_Snaps_push_69 : decode M_Snaps_push.2.1 69 = .ok (.aload_n 1, 1) := by decide +kernel
theorem d_Snaps_push_70 : decode M_Snaps_push.2.1 70 = .ok (.getfield 33, 3) := by decide +kernel
theorem d_Snaps_push_73 : decode M_Snaps_push.2.1 73 = .ok (.iastore, 1) := by decide +kernel
theorem d_Snaps_push_74 : decode M_Snaps_push.2.1 74 = .ok (.aload_n 1, 1) := by decide +kernel
theorem d_Snaps_push_75 : decode M_Snaps_push.2.1 75 = .ok (.getfield 36, 3) := by decide +kernel
theorem d_Snaps_push_78 : decode M_Snaps_push.2.1 78 = .ok (.iconst 0, 1) := by decide +kernel
theorem d_Snaps_push_79 : decode M_Snaps_push.2.1 79 = .ok (.aload_n 0, 1) := by decide +kernel
theorem d_Snaps_push_80 : decode M_Snaps_push.2.1 80 = .ok (.getfield 15, 3) := by decide +kernel
theorem d_Snaps_push_83 : decode M_Snaps_push.2.1 83 = .ok (.iload_n 2, 1) := by decide +kernel
theorem d_Snaps_push_84 : decode M_Snaps_push.2.1 84 = .ok (.iconst 2, 1) := by decide +kernel
theorem d_Snaps_push_85 : decode M_Snaps_push.2.1 85 = .ok (.iadd, 1) := by decide +kernel
theorem d_Snaps_push_86 : decode M_Snaps_push.2.1 86 = .ok (.bipush 6, 2) := by decide +kernel
theorem d_Snaps_push_88 : decode M_Snaps_push.2.1 88 = .ok (.invokestatic 22, 3) := by decide +kernel
theorem d_Snaps_push_91 : decode M_Snaps_push.2.1 91 = .ok (.aload_n 1, 1) := by decide +kernel
theorem d_Snaps_push_92 : decode M_Snaps_push.2.1 92 = .ok (.getfield 39, 3) := by decide +kernel
theorem d_Snaps_push_95 : decode M_Snaps_push.2.1 95 = .ok (.iconst 0, 1) := by decide +kernel
theorem d_Snaps_push_96 : decode M_Snaps_push.2.1 96 = .ok (.aload_n 0, 1) := by decide +kernel
theorem d_Snaps_push_97 : decode M_Snaps_push.2.1 97 = .ok (.getfield 15, 3) := by decide +kernel
theorem d_Snaps_push_100 : decode M_Snaps_push.2.1 100 = .ok (.iload_n 2, 1) := by decide +kernel
theorem d_Snaps_push_101 : decode M_Snaps_push.2.1 101 = .ok (.iconst 2, 1) := by decide +kernel
theorem d_Snaps_push_102 : decode M_Snaps_push.2.1 102 = .ok (.iadd, 1) := by decide +kernel
theorem d_Snaps_push_103 : decode M_Snaps_push.2.1 103 = .ok (.bipush 6, 2) := by decide +kernel
theorem d_Snaps_push_105 : decode M_Snaps_push.2.1 105 = .ok (.iadd, 1) := by decide +kernel
theorem d_Snaps_push_106 : decode M_Snaps_push.2.1 106 = .ok (.bipush 6, 2) := by decide +kernel
theorem d_Snaps_push_108 : decode M_Snaps_push.2.1 108 = .ok (.invokestatic 22, 3) := by decide +kernel
theorem d_Snaps_push_111 : decode M_Snaps_push.2.1 111 = .ok (.aload_n 0, 1) := by decide +kernel
theorem d_Snaps_push_112 : decode M_Snaps_push.2.1 112 = .ok (.dup, 1) := by decide +kernel
theorem d_Snaps_push_113 : decode M_Snaps_push.2.1 113 = .ok (.getfield 19, 3) := by decide +kernel
theorem d_Snaps_push_116 : decode M_Snaps_push.2.1 116 = .ok (.iconst 1, 1) := by decide +kernel
theorem d_Snaps_push_117 : decode M_Snaps_push.2.1 117 = .ok (.iadd, 1) := by decide +kernel
theorem d_Snaps_push_118 : decode M_Snaps_push.2.1 118 = .ok (.putfield 19, 3) := by decide +kernel
theorem d_Snaps_push_121 : decode M_Snaps_push.2.1 121 = .ok (.return_, 1) := by decide +kernel
theorem d_Snaps_pop_0 : decode M_Snaps_pop.2.1 0 = .ok (.aload_n 0, 1) := by decide +kernel
theorem d_Snaps_pop_1 : decode M_Snaps_pop.2.1 1 = .ok (.getfield 19, 3) := by decide +kernel
theorem d_Snaps_pop_4 : decode M_Snaps_pop.2.1 4 = .ok (.ifCond .le 22, 3) := by decide +kernel
theorem d_Snaps_pop_7 : decode M_Snaps_pop.2.1 7 = .ok (.aload_n 0, 1) := by decide +kernel
theorem d_Snaps_pop_8 : decode M_Snaps_pop.2.1 8 = .ok (.dup, 1) := by decide +kernel
theorem d_Snaps_pop_9 : decode M_Snaps_pop.2.1 9 = .ok (.getfield 19, 3) := by decide +kernel
theorem d_Snaps_pop_12 : decode M_Snaps_pop.2.1 12 = .ok (.iconst 1, 1) := by decide +kernel
theorem d_Snaps_pop_13 : decode M_Snaps_pop.2.1 13 = .ok (.isub, 1) := by decide +kernel
theorem d_Snaps_pop_14 : decode M_Snaps_pop.2.1 14 = .ok (.putfield 19, 3) := by decide +kernel
theorem d_Snaps_pop_17 : decode M_Snaps_pop.2.1 17 = .ok (.aload_n 0, 1) := by decide +kernel
theorem d_Snaps_pop_18 : decode M_Snaps_pop.2.1 18 = .ok (.aload_n 0, 1) := by decide +kernel
theorem d_Snaps_pop_19 : decode M_Snaps_pop.2.1 19 = .ok (.getfield 19, 3) := by decide +kernel
theorem d_Snaps_pop_22 : decode M_Snaps_pop.2.1 22 = .ok (.aload_n 1, 1) := by decide +kernel
theorem d_Snaps_pop_23 : decode M_Snaps_pop.2.1 23 = .ok (.invokevirtual 42, 3) := by decide +kernel
theorem d_Snaps_pop_26 : decode M_Snaps_pop.2.1 26 = .ok (.return_, 1) := by decide +kernel
theorem d_Snaps_show_0 : decode M_Snaps_show.2.1 0 = .ok (.iload_n 1, 1) := by decide +kernel
theorem d_Snaps_show_1 : decode M_Snaps_show.2.1 1 = .ok (.ifCond .lt 11, 3) := by decide +kernel
theorem d_Snaps_show_4 : decode M_Snaps_show.2.1 4 = .ok (.iload_n 1, 1) := by decide +kernel
theorem d_Snaps_show_5 : decode M_Snaps_show.2.1 5 = .ok (.aload_n 0, 1) := by decide +kernel
theorem d_Snaps_show_6 : decode M_Snaps_show.2.1 6 = .ok (.getfield 9, 3) := by decide +kernel
theorem d_Snaps_show_9 : decode M_Snaps_show.2.1 9 = .ok (.if_icmp .lt 4, 3) := by decide +kernel
theorem d_Snaps_show_12 : decode M_Snaps_show.2.1 12 = .ok (.return_, 1) := by decide +kernel
theorem d_Snaps_show_13 : decode M_Snaps_show.2.1 13 = .ok (.iload_n 1, 1) := by decide +kernel
theorem d_Snaps_show_14 : decode M_Snaps_show.2.1 14 = .ok (.bipush 14, 2) := by decide +kernel
theorem d_Snaps_show_16 : decode M_Snaps_show.2.1 16 = .ok (.imul, 1) := by decide +kernel
theorem d_Snaps_show_17 : decode M_Snaps_show.2.1 17 = .ok (.istore_n 3, 1) := by decide +kernel
theorem d_Snaps_show_18 : decode M_Snaps_show.2.1 18 = .ok (.aload_n 2, 1) := by decide +kernel
theorem d_Snaps_show_19 : decode M_Snaps_show.2.1 19 = .ok (.aload_n 0, 1) := by decide +kernel
theorem d_Snaps_show_20 : decode M_Snaps_show.2.1 20 = .ok (.getfield 15, 3) := by decide +kernel
theorem d_Snaps_show_23 : decode M_Snaps_show.2.1 23 = .ok (.iload_n 3, 1) := by decide +kernel
theorem d_Snaps_show_24 : decode M_Snaps_show.2.1 24 = .ok (.iaload, 1) := by decide +kernel
theorem d_Snaps_show_25 : decode M_Snaps_show.2.1 25 = .ok (.putfield 28, 3) := by decide +kernel
theorem d_Snaps_show_28 : decode M_Snaps_show.2.1 28 = .ok (.aload_n 2, 1) := by decide +kernel
theorem d_Snaps_show_29 : decode M_Snaps_show.2.1 29 = .ok (.aload_n 0, 1) := by decide +kernel
theorem d_Snaps_show_30 : decode M_Snaps_show.2.1 30 = .ok (.getfield 15, 3) := by decide +kernel
theorem d_Snaps_show_33 : decode M_Snaps_show.2.1 33 = .ok (.iload_n 3, 1) := by decide +kernel
theorem d_Snaps_show_34 : decode M_Snaps_show.2.1 34 = .ok (.iconst 1, 1) := by decide +kernel
theorem d_Snaps_show_35 : decode M_Snaps_show.2.1 35 = .ok (.iadd, 1) := by decide +kernel
theorem d_Snaps_show_36 : decode M_Snaps_show.2.1 36 = .ok (.iaload, 1) := by decide +kernel
theorem d_Snaps_show_37 : decode M_Snaps_show.2.1 37 = .ok (.putfield 33, 3) := by decide +kernel
theorem d_Snaps_show_40 : decode M_Snaps_show.2.1 40 = .ok (.aload_n 0, 1) := by decide +kernel
theorem d_Snaps_show_41 : decode M_Snaps_show.2.1 41 = .ok (.getfield 15, 3) := by decide +kernel
theorem d_Snaps_show_44 : decode M_Snaps_show.2.1 44 = .ok (.iload_n 3, 1) := by decide +kernel
theorem d_Snaps_show_45 : decode M_Snaps_show.2.1 45 = .ok (.iconst 2, 1) := by decide +kernel
theorem d_Snaps_show_46 : decode M_Snaps_show.2.1 46 = .ok (.iadd, 1) := by decide +kernel
theorem d_Snaps_show_47 : decode M_Snaps_show.2.1 47 = .ok (.aload_n 2, 1) := by decide +kernel
theorem d_Snaps_show_48 : decode M_Snaps_show.2.1 48 = .ok (.getfield 36, 3) := by decide +kernel
theorem d_Snaps_show_51 : decode M_Snaps_show.2.1 51 = .ok (.iconst 0, 1) := by decide +kernel
theorem d_Snaps_show_52 : decode M_Snaps_show.2.1 52 = .ok (.bipush 6, 2) := by decide +kernel
theorem d_Snaps_show_54 : decode M_Snaps_show.2.1 54 = .ok (.invokestatic 22, 3) := by decide +kernel
theorem d_Snaps_show_57 : decode M_Snaps_show.2.1 57 = .ok (.aload_n 0, 1) := by decide +kernel
theorem d_Snaps_show_58 : decode M_Snaps_show.2.1 58 = .ok (.getfield 15, 3) := by decide +kernel
theorem d_Snaps_show_61 : decode M_Snaps_show.2.1 61 = .ok (.iload_n 3, 1) := by decide +kernel
theorem d_Snaps_show_62 : decode M_Snaps_show.2.1 62 = .ok (.iconst 2, 1) := by decide +kernel
theorem d_Snaps_show_63 : decode M_Snaps_show.2.1 63 = .ok (.iadd, 1) := by decide +kernel
theorem d_Snaps_show_64 : decode M_Snaps_show.2.1 64 = .ok (.bipush 6, 2) := by decide +kernel
theorem d_Snaps_show_66 : decode M_Snaps_show.2.1 66 = .ok (.iadd, 1) := by decide +kernel
theorem d_Snaps_show_67 : decode M_Snaps_show.2.1 67 = .ok (.aload_n 2, 1) := by decide +kernel
theorem d_Snaps_show_68 : decode M_Snaps_show.2.1 68 = .ok (.getfield 39, 3) := by decide +kernel
theorem d_Snaps_show_71 : decode M_Snaps_show.2.1 71 = .ok (.iconst 0, 1) := by decide +kernel
theorem d_Snaps_show_72 : decode M_Snaps_show.2.1 72 = .ok (.bipush 6, 2) := by decide +kernel
theorem d_Snaps_show_74 : decode M_Snaps_show.2.1 74 = .ok (.invokestatic 22, 3) := by decide +kernel
theorem d_Snaps_show_77 : decode M_Snaps_show.2.1 77 = .ok (.return_, 1) := by decide +kernel
set_option maxRecDepth 4000 in
theorem t_Snaps_clear {d : Nat} {I : Nat → Nat → Int32} {J : Nat → Nat → Int64} {R : Nat → Nat → Option Nat} {Q : Option Value → ow_H → Prop} {z : Nat} (hz : z ∈ [66, 68]) (hR : ow_RF R) (T : (∀ (I2 : Nat → Nat → Int32), I2 = ow_u I z 2 0 → Q none (85, I2, J, R))) : ow_AM M_Snaps_clear (d + 1) [.ref z] (85, I, J, R) Q := by
  refine ow_enter (by decide) (Nat.le_of_ble_eq_true rfl) ?_
  show ow_AW ow_Y0 (ow_Z Q) M_Snaps_clear (d + 1) 0 0 0 [(0, .ref z)] [] (85, I, J, R) 0 0
  obtain ⟨z_lt, z_kd, z_r1, z_k1⟩ := ow_sn_ok z hz
  refine ow_aload_n 0 rfl d_Snaps_clear_0 ?_
  refine ow_iconst (v := 0) (by decide) d_Snaps_clear_1 ?_
  refine ow_pI 149 d_Snaps_clear_2 rfl rfl (by omega) z_kd rfl rfl ?_
  obtain ⟨I2, eI2⟩ : ∃ uu, uu = ow_u I z 2 0 := ⟨_, rfl⟩
  replace T := T I2 eI2
  rw [← eI2]
  exact ow_vret d_Snaps_clear_5 rfl T
set_option maxRecDepth 4000 in
theorem t_Snaps_push {d : Nat} {I : Nat → Nat → Int32} {J : Nat → Nat → Int64} {R : Nat → Nat → Option Nat} {Q : Option Value → ow_H → Prop} {z : Nat} (hz : z ∈ [66, 68]) (hR : ow_RF R) (T : (((I z 2) < (I z 0) → (vp_in ((I z 2) * 14) (ow_ln (z + 1)) ∧ (∀ (I13 : Nat → Nat → Int32), I13 = ow_u I (z + 1) (((I z 2) * 14).toNatClampNeg) (I 29 1) → (vp_in (((I z 2) * 14) + 1) (ow_ln (z + 1)) ∧ (∀ (I14 : Nat → Nat → Int32), I14 = ow_u I13 (z + 1) ((((I z 2) * 14) + 1).toNatClampNeg) (I13 29 2) → (¬ (((I z 2) * 14) + 2) < 0 ∧ (((I z 2) * 14) + 2).toNatClampNeg + 6 ≤ (ow_ln (z + 1)) ∧ (∀ (I15 : Nat → Nat → Int32), I15 = ow_r I14 (z + 1) (va_cpy (I14 31) (I14 (z + 1)) 0 (((I z 2) * 14) + 2).toNatClampNeg 6) → (¬ ((((I z 2) * 14) + 2) + 6) < 0 ∧ ((((I z 2) * 14) + 2) + 6).toNatClampNeg + 6 ≤ (ow_ln (z + 1)) ∧ (∀ (I16 : Nat → Nat → Int32), I16 = ow_r I15 (z + 1) (va_cpy (I15 32) (I15 (z + 1)) 0 ((((I z 2) * 14) + 2) + 6).toNatClampNeg 6) → (∀ (I17 : Nat → Nat → Int32), I17 = ow_u I16 z 2 ((I16 z 2) + 1) → Q none (85, I17, J, R))))))))))) ∧ (¬ (I z 2) < (I z 0) → (¬ (((I z 0) - 1) * 14) < 0 ∧ 14 + (((I z 0) - 1) * 14).toNatClampNeg ≤ (ow_ln (z + 1)) ∧ 0 + (((I z 0) - 1) * 14).toNatClampNeg ≤ (ow_ln (z + 1)) ∧ (∀ (I18 : Nat → Nat → Int32), I18 = ow_r I (z + 1) (va_cpy (I (z + 1)) (I (z + 1)) 14 0 (((I z 0) - 1) * 14).toNatClampNeg) → (∀ (I19 : Nat → Nat → Int32), I19 = ow_u I18 z 2 ((I18 z 0) - 1) → (vp_in ((I19 z 2) * 14) (ow_ln (z + 1)) ∧ (∀ (I20 : Nat → Nat → Int32), I20 = ow_u I19 (z + 1) (((I19 z 2) * 14).toNatClampNeg) (I19 29 1) → (vp_in (((I19 z 2) * 14) + 1) (ow_ln (z + 1)) ∧ (∀ (I21 : Nat → Nat → Int32), I21 = ow_u I20 (z + 1) ((((I19 z 2) * 14) + 1).toNatClampNeg) (I20 29 2) → (¬ (((I19 z 2) * 14) + 2) < 0 ∧ (((I19 z 2) * 14) + 2).toNatClampNeg + 6 ≤ (ow_ln (z + 1)) ∧ (∀ (I22 : Nat → Nat → Int32), I22 = ow_r I21 (z + 1) (va_cpy (I21 31) (I21 (z + 1)) 0 (((I19 z 2) * 14) + 2).toNatClampNeg 6) → (¬ ((((I19 z 2) * 14) + 2) + 6) < 0 ∧ ((((I19 z 2) * 14) + 2) + 6).toNatClampNeg + 6 ≤ (ow_ln (z + 1)) ∧ (∀ (I23 : Nat → Nat → Int32), I23 = ow_r I22 (z + 1) (va_cpy (I22 32) (I22 (z + 1)) 0 ((((I19 z 2) * 14) + 2) + 6).toNatClampNeg 6) → (∀ (I24 : Nat → Nat → Int32), I24 = ow_u I23 z 2 ((I23 z 2) + 1) → Q none (85, I24, J, R)))))))))))))))) : ow_AM M_Snaps_push (d + 1) [.ref z, .ref 29] (85, I, J, R) Q := by
  refine ow_enter (by decide) (Nat.le_of_ble_eq_true rfl) ?_
  show ow_AW ow_Y0 (ow_Z Q) M_Snaps_push (d + 1) 0 0 0 [(0, .ref z), (1, .ref 29)] [] (85, I, J, R) 0 0
  obtain ⟨z_lt, z_kd, z_r1, z_k1⟩ := ow_sn_ok z hz
  refine ow_aload_n 0 rfl d_Snaps_push_0 ?_
  refine ow_gI 149 d_Snaps_push_1 rfl rfl (by omega) z_kd (Or.inl rfl) ?_
  refine ow_aload_n 0 rfl d_Snaps_push_4 ?_
  refine ow_gI 147 d_Snaps_push_5 rfl rfl (by omega) z_kd (Or.inl rfl) ?_
  refine ow_icmp_lt (tgt := 44) d_Snaps_push_8 (by decide) (fun c => ?_) (fun c => ?_)
  · replace T := T.1 c
    refine ow_aload_n 0 rfl d_Snaps_push_44 ?_
    refine ow_gI 149 d_Snaps_push_45 rfl rfl (by omega) z_kd (Or.inl rfl) ?_
    refine ow_bipush (v := 14) (by decide) d_Snaps_push_48 ?_
    refine ow_imul d_Snaps_push_50 ?_
    refine ow_istore_n (ls2 := [(2, .int ((I z 2) * 14)), (0, .ref z), (1, .ref 29)]) d_Snaps_push_51 (by decide) rfl ?_
    refine ow_aload_n 1 rfl d_Snaps_push_52 ?_
    refine ow_gR (a := z + 1) 148 d_Snaps_push_53 rfl rfl (by omega) z_kd ⟨rfl, (hR _ _ (fun q => absurd q.2 (by decide))).trans z_r1⟩ ?_
    refine ow_iload_n 0 rfl d_Snaps_push_56 ?_
    refine ow_aload_n 2 rfl d_Snaps_push_57 ?_
    refine ow_gI 7 d_Snaps_push_58 rfl rfl (by decide) rfl (Or.inl rfl) ?_
    obtain ⟨cI, T⟩ := T
    refine ow_hiastore d_Snaps_push_61 (by omega) z_k1 rfl cI ?_
    obtain ⟨I13, eI13⟩ : ∃ uu, uu = ow_u I (z + 1) (((I z 2) * 14).toNatClampNeg) (I 29 1) := ⟨_, rfl⟩
    replace T := T I13 eI13
    rw [← eI13]
    refine ow_aload_n 1 rfl d_Snaps_push_62 ?_
    refine ow_gR (a := z + 1) 148 d_Snaps_push_63 rfl rfl (by omega) z_kd ⟨rfl, (hR _ _ (fun q => absurd q.2 (by decide))).trans z_r1⟩ ?_
    refine ow_iload_n 0 rfl d_Snaps_push_66 ?_
    refine ow_iconst (v := 1) (by decide) d_Snaps_push_67 ?_
    refine ow_iadd d_Snaps_push_68 ?_
    refine ow_aload_n 2 rfl d_Snaps_push_69 ?_
    refine ow_gI 10 d_Snaps_push_70 rfl rfl (by decide) rfl (Or.inl rfl) ?_
    obtain ⟨cI, T⟩ := T
    refine ow_hiastore d_Snaps_push_73 (by omega) z_k1 rfl cI ?_
    obtain ⟨I14, eI14⟩ : ∃ uu, uu = ow_u I13 (z + 1) ((((I z 2) * 14) + 1).toNatClampNeg) (I13 29 2) := ⟨_, rfl⟩
    replace T := T I14 eI14
    rw [← eI14]
    refine ow_aload_n 2 rfl d_Snaps_push_74 ?_
    refine ow_gR (a := 31) 17 d_Snaps_push_75 rfl rfl (by decide) rfl ⟨rfl, hR 29 4 (by decide)⟩ ?_
    refine ow_iconst (v := 0) (by decide) d_Snaps_push_78 ?_
    refine ow_aload_n 1 rfl d_Snaps_push_79 ?_
    refine ow_gR (a := z + 1) 148 d_Snaps_push_80 rfl rfl (by omega) z_kd ⟨rfl, (hR _ _ (fun q => absurd q.2 (by decide))).trans z_r1⟩ ?_
    refine ow_iload_n 0 rfl d_Snaps_push_83 ?_
    refine ow_iconst (v := 2) (by decide) d_Snaps_push_84 ?_
    refine ow_iadd d_Snaps_push_85 ?_
    refine ow_bipush (v := 6) (by decide) d_Snaps_push_86 ?_
    obtain ⟨c1, c2, T⟩ := T
    refine ow_acopy d_Snaps_push_88 l_Snaps_22 (by decide) rfl (by omega) z_k1 rfl rfl (by decide) c1 (by decide) (by decide) c2 (Nat.succ_le_succ (Nat.zero_le _)) (Nat.le_of_ble_eq_true rfl) ?_
    obtain ⟨I15, eI15⟩ : ∃ uu, uu = ow_r I14 (z + 1) (va_cpy (I14 31) (I14 (z + 1)) 0 (((I z 2) * 14) + 2).toNatClampNeg 6) := ⟨_, rfl⟩
    replace T := T I15 eI15
    show ow_AW ow_Y0 (ow_Z Q) M_Snaps_push (d + 1) 0 0 91 [(2, .int ((I z 2) * 14)), (0, .ref z), (1, .ref 29)] [] (85, (ow_r I14 (z + 1) (va_cpy (I14 31) (I14 (z + 1)) 0 (((I z 2) * 14) + 2).toNatClampNeg 6)), J, R) 0 0
    rw [← eI15]
    refine ow_aload_n 2 rfl d_Snaps_push_91 ?_
    refine ow_gR (a := 32) 23 d_Snaps_push_92 rfl rfl (by decide) rfl ⟨rfl, hR 29 5 (by decide)⟩ ?_
    refine ow_iconst (v := 0) (by decide) d_Snaps_push_95 ?_
    refine ow_aload_n 1 rfl d_Snaps_push_96 ?_
    refine ow_gR (a := z + 1) 148 d_Snaps_push_97 rfl rfl (by omega) z_kd ⟨rfl, (hR _ _ (fun q => absurd q.2 (by decide))).trans z_r1⟩ ?_
    refine ow_iload_n 0 rfl d_Snaps_push_100 ?_
    refine ow_iconst (v := 2) (by decide) d_Snaps_push_101 ?_
    refine ow_iadd d_Snaps_push_102 ?_
    refine ow_bipush (v := 6) (by decide) d_Snaps_push_103 ?_
    refine ow_iadd d_Snaps_push_105 ?_
    refine ow_bipush (v := 6) (by decide) d_Snaps_push_106 ?_
    obtain ⟨c1, c2, T⟩ := T
    refine ow_acopy d_Snaps_push_108 l_Snaps_22 (by decide) rfl (by omega) z_k1 rfl rfl (by decide) c1 (by decide) (by decide) c2 (Nat.succ_le_succ (Nat.zero_le _)) (Nat.le_of_ble_eq_true rfl) ?_
    obtain ⟨I16, eI16⟩ : ∃ uu, uu = ow_r I15 (z + 1) (va_cpy (I15 32) (I15 (z + 1)) 0 ((((I z 2) * 14) + 2) + 6).toNatClampNeg 6) := ⟨_, rfl⟩
    replace T := T I16 eI16
    show ow_AW ow_Y0 (ow_Z Q) M_Snaps_push (d + 1) 0 0 111 [(2, .int ((I z 2) * 14)), (0, .ref z), (1, .ref 29)] [] (85, (ow_r I15 (z + 1) (va_cpy (I15 32) (I15 (z + 1)) 0 ((((I z 2) * 14) + 2) + 6).toNatClampNeg 6)), J, R) 0 0
    rw [← eI16]
    refine ow_aload_n 1 rfl d_Snaps_push_111 ?_
    refine ow_dup rfl d_Snaps_push_112 ?_
    refine ow_gI 149 d_Snaps_push_113 rfl rfl (by omega) z_kd (Or.inl rfl) ?_
    refine ow_iconst (v := 1) (by decide) d_Snaps_push_116 ?_
    refine ow_iadd d_Snaps_push_117 ?_
    refine ow_pI 149 d_Snaps_push_118 rfl rfl (by omega) z_kd rfl rfl ?_
    obtain ⟨I17, eI17⟩ : ∃ uu, uu = ow_u I16 z 2 ((I16 z 2) + 1) := ⟨_, rfl⟩
    replace T := T I17 eI17
    rw [← eI17]
    exact ow_vret d_Snaps_push_121 rfl T
  · replace T := T.2 c
    refine ow_aload_n 0 rfl d_Snaps_push_11 ?_
    refine ow_gR (a := z + 1) 148 d_Snaps_push_12 rfl rfl (by omega) z_kd ⟨rfl, (hR _ _ (fun q => absurd q.2 (by decide))).trans z_r1⟩ ?_
    refine ow_bipush (v := 14) (by decide) d_Snaps_push_15 ?_
    refine ow_aload_n 0 rfl d_Snaps_push_17 ?_
    refine ow_gR (a := z + 1) 148 d_Snaps_push_18 rfl rfl (by omega) z_kd ⟨rfl, (hR _ _ (fun q => absurd q.2 (by decide))).trans z_r1⟩ ?_
    refine ow_iconst (v := 0) (by decide) d_Snaps_push_21 ?_
    refine ow_aload_n 0 rfl d_Snaps_push_22 ?_
    refine ow_gI 147 d_Snaps_push_23 rfl rfl (by omega) z_kd (Or.inl rfl) ?_
    refine ow_iconst (v := 1) (by decide) d_Snaps_push_26 ?_
    refine ow_isub d_Snaps_push_27 ?_
    refine ow_bipush (v := 14) (by decide) d_Snaps_push_28 ?_
    refine ow_imul d_Snaps_push_30 ?_
    obtain ⟨c1, c2, c3, T⟩ := T
    refine ow_acopy d_Snaps_push_31 l_Snaps_22 (by omega) z_k1 (by omega) z_k1 rfl rfl (by decide) (by decide) c1 c2 c3 (Nat.succ_le_succ (Nat.zero_le _)) (Nat.le_of_ble_eq_true rfl) ?_
    obtain ⟨I18, eI18⟩ : ∃ uu, uu = ow_r I (z + 1) (va_cpy (I (z + 1)) (I (z + 1)) 14 0 (((I z 0) - 1) * 14).toNatClampNeg) := ⟨_, rfl⟩
    replace T := T I18 eI18
    show ow_AW ow_Y0 (ow_Z Q) M_Snaps_push (d + 1) 0 0 34 [(0, .ref z), (1, .ref 29)] [] (85, (ow_r I (z + 1) (va_cpy (I (z + 1)) (I (z + 1)) 14 0 (((I z 0) - 1) * 14).toNatClampNeg)), J, R) 0 0
    rw [← eI18]
    refine ow_aload_n 0 rfl d_Snaps_push_34 ?_
    refine ow_aload_n 0 rfl d_Snaps_push_35 ?_
    refine ow_gI 147 d_Snaps_push_36 rfl rfl (by omega) z_kd (Or.inl rfl) ?_
    refine ow_iconst (v := 1) (by decide) d_Snaps_push_39 ?_
    refine ow_isub d_Snaps_push_40 ?_
    refine ow_pI 149 d_Snaps_push_41 rfl rfl (by omega) z_kd rfl rfl ?_
    obtain ⟨I19, eI19⟩ : ∃ uu, uu = ow_u I18 z 2 ((I18 z 0) - 1) := ⟨_, rfl⟩
    replace T := T I19 eI19
    rw [← eI19]
    refine ow_aload_n 0 rfl d_Snaps_push_44 ?_
    refine ow_gI 149 d_Snaps_push_45 rfl rfl (by omega) z_kd (Or.inl rfl) ?_
    refine ow_bipush (v := 14) (by decide) d_Snaps_push_48 ?_
    refine ow_imul d_Snaps_push_50 ?_
    refine ow_istore_n (ls2 := [(2, .int ((I19 z 2) * 14)), (0, .ref z), (1, .ref 29)]) d_Snaps_push_51 (by decide) rfl ?_
    refine ow_aload_n 1 rfl d_Snaps_push_52 ?_
    refine ow_gR (a := z + 1) 148 d_Snaps_push_53 rfl rfl (by omega) z_kd ⟨rfl, (hR _ _ (fun q => absurd q.2 (by decide))).trans z_r1⟩ ?_
    refine ow_iload_n 0 rfl d_Snaps_push_56 ?_
    refine ow_aload_n 2 rfl d_Snaps_push_57 ?_
    refine ow_gI 7 d_Snaps_push_58 rfl rfl (by decide) rfl (Or.inl rfl) ?_
    obtain ⟨cI, T⟩ := T
    refine ow_hiastore d_Snaps_push_61 (by omega) z_k1 rfl cI ?_
    obtain ⟨I20, eI20⟩ : ∃ uu, uu = ow_u I19 (z + 1) (((I19 z 2) * 14).toNatClampNeg) (I19 29 1) := ⟨_, rfl⟩
    replace T := T I20 eI20
    rw [← eI20]
    refine ow_aload_n 1 rfl d_Snaps_push_62 ?_
    refine ow_gR (a := z + 1) 148 d_Snaps_push_63 rfl rfl (by omega) z_kd ⟨rfl, (hR _ _ (fun q => absurd q.2 (by decide))).trans z_r1⟩ ?_
    refine ow_iload_n 0 rfl d_Snaps_push_66 ?_
    refine ow_iconst (v := 1) (by decide) d_Snaps_push_67 ?_
    refine ow_iadd d_Snaps_push_68 ?_
    refine ow_aload_n 2 rfl d_Snaps_push_69 ?_
    refine ow_gI 10 d_Snaps_push_70 rfl rfl (by decide) rfl (Or.inl rfl) ?_
    obtain ⟨cI, T⟩ := T
    refine ow_hiastore d_Snaps_push_73 (by omega) z_k1 rfl cI ?_
    obtain ⟨I21, eI21⟩ : ∃ uu, uu = ow_u I20 (z + 1) ((((I19 z 2) * 14) + 1).toNatClampNeg) (I20 29 2) := ⟨_, rfl⟩
    replace T := T I21 eI21
    rw [← eI21]
    refine ow_aload_n 2 rfl d_Snaps_push_74 ?_
    refine ow_gR (a := 31) 17 d_Snaps_push_75 rfl rfl (by decide) rfl ⟨rfl, hR 29 4 (by decide)⟩ ?_
    refine ow_iconst (v := 0) (by decide) d_Snaps_push_78 ?_
    refine ow_aload_n 1 rfl d_Snaps_push_79 ?_
    refine ow_gR (a := z + 1) 148 d_Snaps_push_80 rfl rfl (by omega) z_kd ⟨rfl, (hR _ _ (fun q => absurd q.2 (by decide))).trans z_r1⟩ ?_
    refine ow_iload_n 0 rfl d_Snaps_push_83 ?_
    refine ow_iconst (v := 2) (by decide) d_Snaps_push_84 ?_
    refine ow_iadd d_Snaps_push_85 ?_
    refine ow_bipush (v := 6) (by decide) d_Snaps_push_86 ?_
    obtain ⟨c1, c2, T⟩ := T
    refine ow_acopy d_Snaps_push_88 l_Snaps_22 (by decide) rfl (by omega) z_k1 rfl rfl (by decide) c1 (by decide) (by decide) c2 (Nat.succ_le_succ (Nat.zero_le _)) (Nat.le_of_ble_eq_true rfl) ?_
    obtain ⟨I22, eI22⟩ : ∃ uu, uu = ow_r I21 (z + 1) (va_cpy (I21 31) (I21 (z + 1)) 0 (((I19 z 2) * 14) + 2).toNatClampNeg 6) := ⟨_, rfl⟩
    replace T := T I22 eI22
    show ow_AW ow_Y0 (ow_Z Q) M_Snaps_push (d + 1) 0 0 91 [(2, .int ((I19 z 2) * 14)), (0, .ref z), (1, .ref 29)] [] (85, (ow_r I21 (z + 1) (va_cpy (I21 31) (I21 (z + 1)) 0 (((I19 z 2) * 14) + 2).toNatClampNeg 6)), J, R) 0 0
    rw [← eI22]
    refine ow_aload_n 2 rfl d_Snaps_push_91 ?_
    refine ow_gR (a := 32) 23 d_Snaps_push_92 rfl rfl (by decide) rfl ⟨rfl, hR 29 5 (by decide)⟩ ?_
    refine ow_iconst (v := 0) (by decide) d_Snaps_push_95 ?_
    refine ow_aload_n 1 rfl d_Snaps_push_96 ?_
    refine ow_gR (a := z + 1) 148 d_Snaps_push_97 rfl rfl (by omega) z_kd ⟨rfl, (hR _ _ (fun q => absurd q.2 (by decide))).trans z_r1⟩ ?_
    refine ow_iload_n 0 rfl d_Snaps_push_100 ?_
    refine ow_iconst (v := 2) (by decide) d_Snaps_push_101 ?_
    refine ow_iadd d_Snaps_push_102 ?_
    refine ow_bipush (v := 6) (by decide) d_Snaps_push_103 ?_
    refine ow_iadd d_Snaps_push_105 ?_
    refine ow_bipush (v := 6) (by decide) d_Snaps_push_106 ?_
    obtain ⟨c1, c2, T⟩ := T
    refine ow_acopy d_Snaps_push_108 l_Snaps_22 (by decide) rfl (by omega) z_k1 rfl rfl (by decide) c1 (by decide) (by decide) c2 (Nat.succ_le_succ (Nat.zero_le _)) (Nat.le_of_ble_eq_true rfl) ?_
    obtain ⟨I23, eI23⟩ : ∃ uu, uu = ow_r I22 (z + 1) (va_cpy (I22 32) (I22 (z + 1)) 0 ((((I19 z 2) * 14) + 2) + 6).toNatClampNeg 6) := ⟨_, rfl⟩
    replace T := T I23 eI23
    show ow_AW ow_Y0 (ow_Z Q) M_Snaps_push (d + 1) 0 0 111 [(2, .int ((I19 z 2) * 14)), (0, .ref z), (1, .ref 29)] [] (85, (ow_r I22 (z + 1) (va_cpy (I22 32) (I22 (z + 1)) 0 ((((I19 z 2) * 14) + 2) + 6).toNatClampNeg 6)), J, R) 0 0
    rw [← eI23]
    refine ow_aload_n 1 rfl d_Snaps_push_111 ?_
    refine ow_dup rfl d_Snaps_push_112 ?_
    refine ow_gI 149 d_Snaps_push_113 rfl rfl (by omega) z_kd (Or.inl rfl) ?_
    refine ow_iconst (v := 1) (by decide) d_Snaps_push_116 ?_
    refine ow_iadd d_Snaps_push_117 ?_
    refine ow_pI 149 d_Snaps_push_118 rfl rfl (by omega) z_kd rfl rfl ?_
    obtain ⟨I24, eI24⟩ : ∃ uu, uu = ow_u I23 z 2 ((I23 z 2) + 1) := ⟨_, rfl⟩
    replace T := T I24 eI24
    rw [← eI24]
    exact ow_vret d_Snaps_push_121 rfl T
set_option maxRecDepth 4000 in
theorem t_Snaps_pop {d : Nat} {I : Nat → Nat → Int32} {J : Nat → Nat → Int64} {R : Nat → Nat → Option Nat} {Q : Option Value → ow_H → Prop} {z : Nat} (hz : z ∈ [66, 68]) (hR : ow_RF R) (T : (((I z 2) ≤ 0 → Q none (85, I, J, R)) ∧ (¬ (I z 2) ≤ 0 → (∀ (I3 : Nat → Nat → Int32), I3 = ow_u I z 2 ((I z 2) - 1) → (ow_AM M_Snaps_show d [.ref z, .int (I3 z 2), .ref 29] (85, I3, J, R) (fun r h' => ∃ (I4 : Nat → Nat → Int32) (J4 : Nat → Nat → Int64) (R4 : Nat → Nat → Option Nat), r = none ∧ h' = (85, I4, J4, R4) ∧ ow_RF R4 ∧ Q none (85, I4, J4, R4))))))) : ow_AM M_Snaps_pop (d + 1) [.ref z, .ref 29] (85, I, J, R) Q := by
  refine ow_enter (by decide) (Nat.le_of_ble_eq_true rfl) ?_
  show ow_AW ow_Y0 (ow_Z Q) M_Snaps_pop (d + 1) 0 0 0 [(0, .ref z), (1, .ref 29)] [] (85, I, J, R) 0 0
  obtain ⟨z_lt, z_kd, z_r1, z_k1⟩ := ow_sn_ok z hz
  refine ow_aload_n 0 rfl d_Snaps_pop_0 ?_
  refine ow_gI 149 d_Snaps_pop_1 rfl rfl (by omega) z_kd (Or.inl rfl) ?_
  refine ow_if_le (tgt := 26) d_Snaps_pop_4 (by decide) (fun c => ?_) (fun c => ?_)
  · replace T := T.1 c
    exact ow_vret d_Snaps_pop_26 rfl T
  · replace T := T.2 c
    refine ow_aload_n 0 rfl d_Snaps_pop_7 ?_
    refine ow_dup rfl d_Snaps_pop_8 ?_
    refine ow_gI 149 d_Snaps_pop_9 rfl rfl (by omega) z_kd (Or.inl rfl) ?_
    refine ow_iconst (v := 1) (by decide) d_Snaps_pop_12 ?_
    refine ow_isub d_Snaps_pop_13 ?_
    refine ow_pI 149 d_Snaps_pop_14 rfl rfl (by omega) z_kd rfl rfl ?_
    obtain ⟨I3, eI3⟩ : ∃ uu, uu = ow_u I z 2 ((I z 2) - 1) := ⟨_, rfl⟩
    replace T := T I3 eI3
    rw [← eI3]
    refine ow_aload_n 0 rfl d_Snaps_pop_17 ?_
    refine ow_aload_n 0 rfl d_Snaps_pop_18 ?_
    refine ow_gI 149 d_Snaps_pop_19 rfl rfl (by omega) z_kd (Or.inl rfl) ?_
    refine ow_aload_n 1 rfl d_Snaps_pop_22 ?_
    refine ow_callV (b := z) (cq := 6) (As := [.int (I3 z 2), .ref 29]) (rest := []) (d2 := d) d_Snaps_pop_23 l_Snaps_42 v_Snaps_show (show z < 85 by omega) z_kd (by decide) rfl (Nat.le_of_ble_eq_true rfl) (Nat.le_refl _) ⟨Nat.le_refl _, Nat.le_refl _⟩ (ow_mono T ?_)
    rintro r h' ⟨I4, J4, R4, rfl, rfl, hR4, T⟩
    show ow_AW ow_Y0 (ow_Z Q) M_Snaps_pop (d + 1) 0 0 26 [(0, .ref z), (1, .ref 29)] [] (85, I4, J4, R4) 0 0
    exact ow_vret d_Snaps_pop_26 rfl T
set_option maxRecDepth 4000 in
theorem t_Snaps_show {d : Nat} {I : Nat → Nat → Int32} {J : Nat → Nat → Int64} {R : Nat → Nat → Option Nat} {Q : Option Value → ow_H → Prop} {z : Nat} {p1 : Int32} (hz : z ∈ [66, 68]) (hR : ow_RF R) (T : ((p1 < 0 → Q none (85, I, J, R)) ∧ (¬ p1 < 0 → ((p1 < (I z 0) → (vp_in (p1 * 14) (ow_ln (z + 1)) ∧ (∀ (I5 : Nat → Nat → Int32), I5 = ow_u I 29 1 (I (z + 1) (p1 * 14).toNatClampNeg) → (vp_in ((p1 * 14) + 1) (ow_ln (z + 1)) ∧ (∀ (I6 : Nat → Nat → Int32), I6 = ow_u I5 29 2 (I5 (z + 1) ((p1 * 14) + 1).toNatClampNeg) → (¬ ((p1 * 14) + 2) < 0 ∧ ((p1 * 14) + 2).toNatClampNeg + 6 ≤ (ow_ln (z + 1)) ∧ (∀ (I7 : Nat → Nat → Int32), I7 = ow_r I6 31 (va_cpy (I6 (z + 1)) (I6 31) ((p1 * 14) + 2).toNatClampNeg 0 6) → (¬ (((p1 * 14) + 2) + 6) < 0 ∧ (((p1 * 14) + 2) + 6).toNatClampNeg + 6 ≤ (ow_ln (z + 1)) ∧ (∀ (I8 : Nat → Nat → Int32), I8 = ow_r I7 32 (va_cpy (I7 (z + 1)) (I7 32) (((p1 * 14) + 2) + 6).toNatClampNeg 0 6) → Q none (85, I8, J, R)))))))))) ∧ (¬ p1 < (I z 0) → Q none (85, I, J, R)))))) : ow_AM M_Snaps_show (d + 1) [.ref z, .int p1, .ref 29] (85, I, J, R) Q := by
  refine ow_enter (by decide) (Nat.le_of_ble_eq_true rfl) ?_
  show ow_AW ow_Y0 (ow_Z Q) M_Snaps_show (d + 1) 0 0 0 [(0, .ref z), (1, .int p1), (2, .ref 29)] [] (85, I, J, R) 0 0
  obtain ⟨z_lt, z_kd, z_r1, z_k1⟩ := ow_sn_ok z hz
  refine ow_iload_n 1 rfl d_Snaps_show_0 ?_
  refine ow_if_lt (tgt := 12) d_Snaps_show_1 (by decide) (fun c => ?_) (fun c => ?_)
  · replace T := T.1 c
    exact ow_vret d_Snaps_show_12 rfl T
  · replace T := T.2 c
    refine ow_iload_n 1 rfl d_Snaps_show_4 ?_
    refine ow_aload_n 0 rfl d_Snaps_show_5 ?_
    refine ow_gI 147 d_Snaps_show_6 rfl rfl (by omega) z_kd (Or.inl rfl) ?_
    refine ow_icmp_lt (tgt := 13) d_Snaps_show_9 (by decide) (fun c => ?_) (fun c => ?_)
    · replace T := T.1 c
      refine ow_iload_n 1 rfl d_Snaps_show_13 ?_
      refine ow_bipush (v := 14) (by decide) d_Snaps_show_14 ?_
      refine ow_imul d_Snaps_show_16 ?_
      refine ow_istore_n (ls2 := [(3, .int (p1 * 14)), (0, .ref z), (1, .int p1), (2, .ref 29)]) d_Snaps_show_17 (by decide) rfl ?_
      refine ow_aload_n 3 rfl d_Snaps_show_18 ?_
      refine ow_aload_n 1 rfl d_Snaps_show_19 ?_
      refine ow_gR (a := z + 1) 148 d_Snaps_show_20 rfl rfl (by omega) z_kd ⟨rfl, (hR _ _ (fun q => absurd q.2 (by decide))).trans z_r1⟩ ?_
      refine ow_iload_n 0 rfl d_Snaps_show_23 ?_
      obtain ⟨cI, T⟩ := T
      refine ow_hiaload d_Snaps_show_24 (by omega) z_k1 rfl cI ?_
      refine ow_pI 7 d_Snaps_show_25 rfl rfl (by decide) rfl rfl rfl ?_
      obtain ⟨I5, eI5⟩ : ∃ uu, uu = ow_u I 29 1 (I (z + 1) (p1 * 14).toNatClampNeg) := ⟨_, rfl⟩
      replace T := T I5 eI5
      rw [← eI5]
      refine ow_aload_n 3 rfl d_Snaps_show_28 ?_
      refine ow_aload_n 1 rfl d_Snaps_show_29 ?_
      refine ow_gR (a := z + 1) 148 d_Snaps_show_30 rfl rfl (by omega) z_kd ⟨rfl, (hR _ _ (fun q => absurd q.2 (by decide))).trans z_r1⟩ ?_
      refine ow_iload_n 0 rfl d_Snaps_show_33 ?_
      refine ow_iconst (v := 1) (by decide) d_Snaps_show_34 ?_
      refine ow_iadd d_Snaps_show_35 ?_
      obtain ⟨cI, T⟩ := T
      refine ow_hiaload d_Snaps_show_36 (by omega) z_k1 rfl cI ?_
      refine ow_pI 10 d_Snaps_show_37 rfl rfl (by decide) rfl rfl rfl ?_
      obtain ⟨I6, eI6⟩ : ∃ uu, uu = ow_u I5 29 2 (I5 (z + 1) ((p1 * 14) + 1).toNatClampNeg) := ⟨_, rfl⟩
      replace T := T I6 eI6
      rw [← eI6]
      refine ow_aload_n 1 rfl d_Snaps_show_40 ?_
      refine ow_gR (a := z + 1) 148 d_Snaps_show_41 rfl rfl (by omega) z_kd ⟨rfl, (hR _ _ (fun q => absurd q.2 (by decide))).trans z_r1⟩ ?_
      refine ow_iload_n 0 rfl d_Snaps_show_44 ?_
      refine ow_iconst (v := 2) (by decide) d_Snaps_show_45 ?_
      refine ow_iadd d_Snaps_show_46 ?_
      refine ow_aload_n 3 rfl d_Snaps_show_47 ?_
      refine ow_gR (a := 31) 17 d_Snaps_show_48 rfl rfl (by decide) rfl ⟨rfl, hR 29 4 (by decide)⟩ ?_
      refine ow_iconst (v := 0) (by decide) d_Snaps_show_51 ?_
      refine ow_bipush (v := 6) (by decide) d_Snaps_show_52 ?_
      obtain ⟨c1, c2, T⟩ := T
      refine ow_acopy d_Snaps_show_54 l_Snaps_22 (by omega) z_k1 (by decide) rfl rfl rfl c1 (by decide) (by decide) c2 (by decide) (Nat.succ_le_succ (Nat.zero_le _)) (Nat.le_of_ble_eq_true rfl) ?_
      obtain ⟨I7, eI7⟩ : ∃ uu, uu = ow_r I6 31 (va_cpy (I6 (z + 1)) (I6 31) ((p1 * 14) + 2).toNatClampNeg 0 6) := ⟨_, rfl⟩
      replace T := T I7 eI7
      show ow_AW ow_Y0 (ow_Z Q) M_Snaps_show (d + 1) 0 0 57 [(3, .int (p1 * 14)), (0, .ref z), (1, .int p1), (2, .ref 29)] [] (85, (ow_r I6 31 (va_cpy (I6 (z + 1)) (I6 31) ((p1 * 14) + 2).toNatClampNeg 0 6)), J, R) 0 0
      rw [← eI7]
      refine ow_aload_n 1 rfl d_Snaps_show_57 ?_
      refine ow_gR (a := z + 1) 148 d_Snaps_show_58 rfl rfl (by omega) z_kd ⟨rfl, (hR _ _ (fun q => absurd q.2 (by decide))).trans z_r1⟩ ?_
      refine ow_iload_n 0 rfl d_Snaps_show_61 ?_
      refine ow_iconst (v := 2) (by decide) d_Snaps_show_62 ?_
      refine ow_iadd d_Snaps_show_63 ?_
      refine ow_bipush (v := 6) (by decide) d_Snaps_show_64 ?_
      refine ow_iadd d_Snaps_show_66 ?_
      refine ow_aload_n 3 rfl d_Snaps_show_67 ?_
      refine ow_gR (a := 32) 23 d_Snaps_show_68 rfl rfl (by decide) rfl ⟨rfl, hR 29 5 (by decide)⟩ ?_
      refine ow_iconst (v := 0) (by decide) d_Snaps_show_71 ?_
      refine ow_bipush (v := 6) (by decide) d_Snaps_show_72 ?_
      obtain ⟨c1, c2, T⟩ := T
      refine ow_acopy d_Snaps_show_74 l_Snaps_22 (by omega) z_k1 (by decide) rfl rfl rfl c1 (by decide) (by decide) c2 (by decide) (Nat.succ_le_succ (Nat.zero_le _)) (Nat.le_of_ble_eq_true rfl) ?_
      obtain ⟨I8, eI8⟩ : ∃ uu, uu = ow_r I7 32 (va_cpy (I7 (z + 1)) (I7 32) (((p1 * 14) + 2) + 6).toNatClampNeg 0 6) := ⟨_, rfl⟩
      replace T := T I8 eI8
      show ow_AW ow_Y0 (ow_Z Q) M_Snaps_show (d + 1) 0 0 77 [(3, .int (p1 * 14)), (0, .ref z), (1, .int p1), (2, .ref 29)] [] (85, (ow_r I7 32 (va_cpy (I7 (z + 1)) (I7 32) (((p1 * 14) + 2) + 6).toNatClampNeg 0 6)), J, R) 0 0
      rw [← eI8]
      exact ow_vret d_Snaps_show_77 rfl T
    · replace T := T.2 c
      exact ow_vret d_Snaps_show_12 rfl T
