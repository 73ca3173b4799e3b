/-! Own rows, by program: Told_clear Told_take Told_addEstate Told_addVeiled Told_addSigned -/
theorem d_Told_clear_0 : decode M_Told_clear.2.1 0 = .ok (.aload_n 0, 1) := by decide +kernel
theorem d_Told_clear_1 : decode M_Told_clear.2.1 1 = .ok (.iconst 0, 1) := by decide +kernel
theorem d_Told_clear_2 : decode M_Told_clear.2.1 2 = .ok (.putfield 37, 3) := by decide +kernel
theorem d_Told_clear_5 : decode M_Told_clear.2.1 5 = .ok (.aload_n 0, 1) := by decide +kernel
theorem d_Told_clear_6 : decode M_Told_clear.2.1 6 = .ok (.iconst 0, 1) := by decide +kernel
theorem d_Told_clear_7 : decode M_Told_clear.2.1 7 = .ok (.putfield 41, 3) := by decide +kernel
theorem d_Told_clear_10 : decode M_Told_clear.2.1 10 = .ok (.aload_n 0, 1) := by decide +kernel
theorem d_Told_clear_11 : decode M_Told_clear.2.1 11 = .ok (.getfield 12, 3) := by decide +kernel
theorem d_Told_clear_14 : decode M_Told_clear.2.1 14 = .ok (.invokevirtual 44, 3) := by decide +kernel
theorem d_Told_clear_17 : decode M_Told_clear.2.1 17 = .ok (.aload_n 0, 1) := by decide +kernel
theorem d_Told_clear_18 : decode M_Told_clear.2.1 18 = .ok (.iconst 0, 1) := by decide +kernel
theorem d_Told_clear_19 : decode M_Told_clear.2.1 19 = .ok (.putfield 47, 3) := by decide +kernel
theorem d_Told_clear_22 : decode M_Told_clear.2.1 22 = .ok (.aload_n 0, 1) := by decide +kernel
theorem d_Told_clear_23 : decode M_Told_clear.2.1 23 = .ok (.iconst 0, 1) := by decide +kernel
theorem d_Told_clear_24 : decode M_Told_clear.2.1 24 = .ok (.putfield 50, 3) := by decide +kernel
theorem d_Told_clear_27 : decode M_Told_clear.2.1 27 = .ok (.aload_n 0, 1) := by decide +kernel
theorem d_Told_clear_28 : decode M_Told_clear.2.1 28 = .ok (.iconst 0, 1) := by decide +kernel
theorem d_Told_clear_29 : decode M_Told_clear.2.1 29 = .ok (.putfield 53, 3) := by decide +kernel
theorem d_Told_clear_32 : decode M_Told_clear.2.1 32 = .ok (.iconst 0, 1) := by decide +kernel
theorem d_Told_clear_33 : decode M_Told_clear.2.1 33 = .ok (.istore_n 1, 1) := by decide +kernel
theorem d_Told_clear_34 : decode M_Told_clear.2.1 34 = .ok (.iload_n 1, 1) := by decide +kernel
theorem d_Told_clear_35 : decode M_Told_clear.2.1 35 = .ok (.bipush 6, 2) := by decide +kernel
theorem d_Told_clear_37 : decode M_Told_clear.2.1 37 = .ok (.if_icmp .ge 16, 3) := by decide +kernel
theorem d_Told_clear_40 : decode M_Told_clear.2.1 40 = .ok (.aload_n 0, 1) := by decide +kernel
theorem d_Told_clear_41 : decode M_Told_clear.2.1 41 = .ok (.getfield 25, 3) := by decide +kernel
theorem d_Told_clear_44 : decode M_Told_clear.2.1 44 = .ok (.iload_n 1, 1) := by decide +kernel
theorem d_Told_clear_45 : decode M_Told_clear.2.1 45 = .ok (.iconst 0, 1) := by decide +kernel
theorem d_Told_clear_46 : decode M_Told_clear.2.1 46 = .ok (.iastore, 1) := by decide +kernel
theorem d_Told_clear_47 : decode M_Told_clear.2.1 47 = .ok (.iinc 1 1, 3) := by decide +kernel
theorem d_Told_clear_50 : decode M_Told_clear.2.1 50 = .ok (.goto (-16), 3) := by decide +kernel
theorem d_Told_clear_53 : decode M_Told_clear.2.1 53 = .ok (.return_, 1) := by decide +kernel
theorem d_Told_take_0 : decode M_Told_take.2.1 0 = .ok (.aload_n 0, 1) := by decide +kernel
theorem d_Told_take_1 : decode M_Told_take.2.1 1 = .ok (.aload_n 1, 1) := by decide +kernel
theorem d_Told_take_2 : decode M_Told_take.2.1 2 = .ok (.getfield 37, 3) := by decide +kernel
theorem d_Told_take_5 : decode M_Told_take.2.1 5 = .ok (.putfield 37, 3) := by decide +kernel
theorem d_Told_take_8 : decode M_Told_take.2.1 8 = .ok (.aload_n 0, 1) := by decide +kernel
theorem d_Told_take_9 : decode M_Told_take.2.1 9 = .ok (.aload_n 1, 1) := by decide +kernel
theorem d_Told_take_10 : decode M_Told_take.2.1 10 = .ok (.getfield 41, 3) := by decide +kernel
theorem d_Told_take_13 : decode M_Told_take.2.1 13 = .ok (.putfield 41, 3) := by decide +kernel
theorem d_Told_take_16 : decode M_Told_take.2.1 16 = .ok (.aload_n 0, 1) := by decide +kernel
theorem d_Told_take_17 : decode M_Told_take.2.1 17 = .ok (.getfield 12, 3) := by decide +kernel
theorem d_Told_take_20 : decode M_Told_take.2.1 20 = .ok (.aload_n 1, 1) := by decide +kernel
theorem d_Told_take_21 : decode M_Told_take.2.1 21 = .ok (.getfield 12, 3) := by decide +kernel
theorem d_Told_take_24 : decode M_Told_take.2.1 24 = .ok (.invokevirtual 56, 3) := by decide +kernel
theorem d_Told_take_27 : decode M_Told_take.2.1 27 = .ok (.aload_n 0, 1) := by decide +kernel
theorem d_Told_take_28 : decode M_Told_take.2.1 28 = .ok (.aload_n 1, 1) := by decide +kernel
theorem d_Told_take_29 : decode M_Told_take.2.1 29 = .ok (.getfield 47, 3) := by decide +kernel
theorem d_Told_take_32 : decode M_Told_take.2.1 32 = .ok (.putfield 47, 3) := by decide +kernel
theorem d_Told_take_35 : decode M_Told_take.2.1 35 = .ok (.aload_n 0, 1) := by decide +kernel
theorem d_Told_take_36 : decode M_Told_take.2.1 36 = .ok (.aload_n 1, 1) := by decide +kernel
theorem d_Told_take_37 : decode M_Told_take.2.1 37 = .ok (.getfield 50, 3) := by decide +kernel
theorem d_Told_take_40 : decode M_Told_take.2.1 40 = .ok (.putfield 50, 3) := by decide +kernel
theorem d_Told_take_43 : decode M_Told_take.2.1 43 = .ok (.aload_n 0, 1) := by decide +kernel
theorem d_Told_take_44 : decode M_Told_take.2.1 44 = .ok (.aload_n 1, 1) := by decide +kernel
theorem d_Told_take_45 : decode M_Told_take.2.1 45 = .ok (.getfield 53, 3) := by decide +kernel
theorem d_Told_take_48 : decode M_Told_take.2.1 48 = .ok (.putfield 53, 3) := by decide +kernel
theorem d_Told_take_51 : decode M_Told_take.2.1 51 = .ok (.aload_n 1, 1) := by decide +kernel
theorem d_Told_take_52 : decode M_Told_take.2.1 52 = .ok (.getfield 18, 3) := by decide +kernel
theorem d_Told_take_55 : decode M_Told_take.2.1 55 = .ok (.iconst 0, 1) := by decide +kernel
theorem d_Told_take_56 : decode M_Told_take.2.1 56 = .ok (.aload_n 0, 1) := by decide +kernel
theorem d_Told_take_57 : decode M_Told_take.2.1 57 = .ok (.getfield 18, 3) := by decide +kernel
theorem d_Told_take_60 : decode M_Told_take.2.1 60 = .ok (.iconst 0, 1) := by decide +kernel
theorem d_Told_take_61 : decode M_Told_take.2.1 61 = .ok (.iconst 5, 1) := by decide +kernel
theorem d_Told_take_62 : decode M_Told_take.2.1 62 = .ok (.invokestatic 60, 3) := by decide +kernel
theorem d_Told_take_65 : decode M_Told_take.2.1 65 = .ok (.aload_n 1, 1) := by decide +kernel
theorem d_Told_take_66 : decode M_Told_take.2.1 66 = .ok (.getfield 22, 3) := by decide +kernel
theorem d_Told_take_69 : decode M_Told_take.2.1 69 = .ok (.iconst 0, 1) := by decide +kernel
theorem d_Told_take_70 : decode M_Told_take.2.1 70 = .ok (.aload_n 0, 1) := by decide +kernel
theorem d_Told_take_71 : decode M_Told_take.2.1 71 = .ok (.getfield 22, 3) := by decide +kernel
theorem d_Told_take_74 : decode M_Told_take.2.1 74 = .ok (.iconst 0, 1) := by decide +kernel
theorem d_Told_take_75 : decode M_Told_take.2.1 75 = .ok (.iconst 5, 1) := by decide +kernel
theorem d_Told_take_76 : decode M_Told_take.2.1 76 = .ok (.invokestatic 60, 3) := by decide +kernel
theorem d_Told_take_79 : decode M_Told_take.2.1 79 = .ok (.aload_n 1, 1) := by decide +kernel
theorem d_Told_take_80 : decode M_Told_take.2.1 80 = .ok (.getfield 25, 3) := by decide +kernel
theorem d_Told_take_83 : decode M_Told_take.2.1 83 = .ok (.iconst 0, 1) := by decide +kernel
theorem d_Told_take_84 : decode M_Told_take.2.1 84 = .ok (.aload_n 0, 1) := by decide +kernel
theorem d_Told_take_85 : decode M_Told_take.2.1 85 = .ok (.getfield 25, 3) := by decide +kernel
theorem d_Told_take_88 : decode M_Told_take.2.1 88 = .ok (.iconst 0, 1) := by decide +kernel
theorem d_Told_take_89 : decode M_Told_take.2.1 89 = .ok (.bipush 6, 2) := by decide +kernel
theorem d_Told_take_91 : decode M_Told_take.2.1 91 = .ok (.invokestatic 60, 3) := by decide +kernel
theorem d_Told_take_94 : decode M_Told_take.2.1 94 = .ok (.aload_n 1, 1) := by decide +kernel
theorem d_Told_take_95 : decode M_Told_take.2.1 95 = .ok (.getfield 28, 3) := by decide +kernel
theorem d_Told_take_98 : decode M_Told_take.2.1 98 = .ok (.iconst 0, 1) := by decide +kernel
theorem d_Told_take_99 : decode M_Told_take.2.1 99 = .ok (.aload_n 0, 1) := by decide +kernel
theorem d_Told_take_100 : decode M_Told_take.2.1 100 = .ok (.getfield 28, 3) := by decide +kernel
theorem d_Told_take_103 : decode M_Told_take.2.1 103 = .ok (.iconst 0, 1) := by decide +kernel
theorem d_Told_take_104 : decode M_Told_take.2.1 104 = .ok (.iconst 3, 1) := by decide +kernel
theorem d_Told_take_105 : decode M_Told_take.2.1 105 = .ok (.invokestatic 60, 3) := by decide +kernel
theorem d_Told_take_108 : decode M_Told_take.2.1 108 = .ok (.aload_n 1, 1) := by decide +kernel
theorem d_Told_take_109 : decode M_Told_take.2.1 109 = .ok (.getfield 31, 3) := by decide +kernel
theorem d_Told_take_112 : decode M_Told_take.2.1 112 = .ok (.iconst 0, 1) := by decide +kernel
theorem d_Told_take_113 : decode M_Told_take.2.1 113 = .ok (.aload_n 0, 1) := by decide +kernel
theorem d_Told_take_114 : decode M_Told_take.2.1 114 = .ok (.getfield 31, 3) := by decide +kernel
theorem d_Told_take_117 : decode M_Told_take.2.1 117 = .ok (.iconst 0, 1) := by decide +kernel
theorem d_Told_take_118 : decode M_Told_take.2.1 118 = .ok (.iconst 5, 1) := by decide +kernel
theorem d_Told_take_119 : decode M_Told_take.2.1 119 = .ok (.invokestatic 60, 3) := by decide +kernel
theorem d_Told_take_122 : decode M_Told_take.2.1 122 = .ok (.aload_n 1, 1) := by decide +kernel
theorem d_Told_take_123 : decode M_Told_take.2.1 123 = .ok (.getfield 34, 3) := by decide +kernel
theorem d_Told_take_126 : decode M_Told_take.2.1 126 = .ok (.iconst 0, 1) := by decide +kernel
theorem d_Told_take_127 : decode M_Told_take.2.1 127 = .ok (.aload_n 0, 1) := by decide +kernel
theorem d_Told_take_128 : decode M_Told_take.2.1 128 = .ok (.getfield 34, 3) := by decide +kernel
theorem d_Told_take_131 : decode M_Told_take.2.1 131 = .ok (.iconst 0, 1) := by decide +kernel
theorem d_Told_take_132 : decode M_Told_take.2.1 132 = .ok (.iconst 5, 1) := by decide +kernel
theorem d_Told_take_133 : decode M_Told_take.2.1 133 = .ok (.invokestatic 60, 3) := by decide +kernel
theorem d_Told_take_136 : decode M_Told_take.2.1 136 = .ok (.return_, 1) := by decide +kernel
theorem d_Told_addEstate_0 : decode M_Told_addEstate.2.1 0 = .ok (.aload_n 0, 1) := by decide +kernel
theorem d_Told_addEstate_1 : decode M_Told_addEstate.2.1 1 = .ok (.getfield 47, 3) := by decide +kernel
theorem d_Told_addEstate_4 : decode M_Told_addEstate.2.1 4 = .ok (.iconst 5, 1) := by decide +kernel
theorem d_Told_addEstate_5 : decode M_Told_addEstate.2.1 5 = .ok (.if_icmp .ge 59, 3) := by decide +kernel
theorem d_Told_addEstate_8 : decode M_Told_addEstate.2.1 8 = .ok (.aload_n 0, 1) := by decide +kernel
theorem d_Told_addEstate_9 : decode M_Told_addEstate.2.1 9 = .ok (.getfield 12, 3) := by decide +kernel
theorem d_Told_addEstate_12 : decode M_Told_addEstate.2.1 12 = .ok (.iload_n 1, 1) := by decide +kernel
theorem d_Told_addEstate_13 : decode M_Told_addEstate.2.1 13 = .ok (.invokevirtual 66, 3) := by decide +kernel
theorem d_Told_addEstate_16 : decode M_Told_addEstate.2.1 16 = .ok (.ifCond .eq 48, 3) := by decide +kernel
theorem d_Told_addEstate_19 : decode M_Told_addEstate.2.1 19 = .ok (.aload_n 0, 1) := by decide +kernel
theorem d_Told_addEstate_20 : decode M_Told_addEstate.2.1 20 = .ok (.getfield 18, 3) := by decide +kernel
theorem d_Told_addEstate_23 : decode M_Told_addEstate.2.1 23 = .ok (.aload_n 0, 1) := by decide +kernel
theorem d_Told_addEstate_24 : decode M_Told_addEstate.2.1 24 = .ok (.getfield 47, 3) := by decide +kernel
theorem d_Told_addEstate_27 : decode M_Told_addEstate.2.1 27 = .ok (.iload_n 1, 1) := by decide +kernel
theorem d_Told_addEstate_28 : decode M_Told_addEstate.2.1 28 = .ok (.iastore, 1) := by decide +kernel
theorem d_Told_addEstate_29 : decode M_Told_addEstate.2.1 29 = .ok (.aload_n 0, 1) := by decide +kernel
theorem d_Told_addEstate_30 : decode M_Told_addEstate.2.1 30 = .ok (.getfield 22, 3) := by decide +kernel
theorem d_Told_addEstate_33 : decode M_Told_addEstate.2.1 33 = .ok (.aload_n 0, 1) := by decide +kernel
theorem d_Told_addEstate_34 : decode M_Told_addEstate.2.1 34 = .ok (.getfield 47, 3) := by decide +kernel
theorem d_Told_addEstate_37 : decode M_Told_addEstate.2.1 37 = .ok (.iload_n 2, 1) := by decide +kernel
theorem d_Told_addEstate_38 : decode M_Told_addEstate.2.1 38 = .ok (.iastore, 1) := by decide +kernel
theorem d_Told_addEstate_39 : decode M_Told_addEstate.2.1 39 = .ok (.aload_n 0, 1) := by decide +kernel
theorem d_Told_addEstate_40 : decode M_Told_addEstate.2.1 40 = .ok (.getfield 25, 3) := by decide +kernel
theorem d_Told_addEstate_43 : decode M_Told_addEstate.2.1 43 = .ok (.iload_n 1, 1) := by decide +kernel
theorem d_Told_addEstate_44 : decode M_Told_addEstate.2.1 44 = .ok (.dup2, 1) := by decide +kernel
theorem d_Told_addEstate_45 : decode M_Told_addEstate.2.1 45 = .ok (.iaload, 1) := by decide +kernel
theorem d_Told_addEstate_46 : decode M_Told_addEstate.2.1 46 = .ok (.iconst 1, 1) := by decide +kernel
theorem d_Told_addEstate_47 : decode M_Told_addEstate.2.1 47 = .ok (.aload_n 0, 1) := by decide +kernel
theorem d_Told_addEstate_48 : decode M_Told_addEstate.2.1 48 = .ok (.getfield 47, 3) := by decide +kernel
theorem d_Told_addEstate_51 : decode M_Told_addEstate.2.1 51 = .ok (.ishl, 1) := by decide +kernel
theorem d_Told_addEstate_52 : decode M_Told_addEstate.2.1 52 = .ok (.ior, 1) := by decide +kernel
theorem d_Told_addEstate_53 : decode M_Told_addEstate.2.1 53 = .ok (.iastore, 1) := by decide +kernel
theorem d_Told_addEstate_54 : decode M_Told_addEstate.2.1 54 = .ok (.aload_n 0, 1) := by decide +kernel
theorem d_Told_addEstate_55 : decode M_Told_addEstate.2.1 55 = .ok (.dup, 1) := by decide +kernel
theorem d_Told_addEstate_56 : decode M_Told_addEstate.2.1 56 = .ok (.getfield 47, 3) := by decide +kernel
theorem d_Told_addEstate_59 : decode M_Told_addEstate.2.1 59 = .ok (.iconst 1, 1) := by decide +kernel
theorem d_Told_addEstate_60 : decode M_Told_addEstate.2.1 60 = .ok (.iadd, 1) := by decide +kernel
theorem d_Told_addEstate_61 : decode M_Told_addEstate.2.1 61 = .ok (.putfield 47, 3) := by decide +kernel
theorem d_Told_addEstate_64 : decode M_Told_addEstate.2.1 64 = .ok (.return_, 1) := by decide +kernel
theorem d_Told_addVeiled_0 : decode M_Told_addVeiled.2.1 0 = .ok (.aload_n 0, 1) := by decide +kernel
theorem d_Told_addVeiled_1 : decode M_Told_addVeiled.2.1 1 = .ok (.getfield 50, 3) := by decide +kernel
theorem d_Told_addVeiled_4 : decode M_Told_addVeiled.2.1 4 = .ok (.iconst 3, 1) := by decide +kernel
theorem d_Told_addVeiled_5 : decode M_Told_addVeiled.2.1 5 = .ok (.if_icmp .ge 23, 3) := by decide +kernel
theorem d_Told_addVeiled_8 : decode M_Told_addVeiled.2.1 8 = .ok (.aload_n 0, 1) := by decide +kernel
theorem d_Told_addVeiled_9 : decode M_Told_addVeiled.2.1 9 = .ok (.getfield 28, 3) := by decide +kernel
theorem d_Told_addVeiled_12 : decode M_Told_addVeiled.2.1 12 = .ok (.aload_n 0, 1) := by decide +kernel
theorem d_Told_addVeiled_13 : decode M_Told_addVeiled.2.1 13 = .ok (.getfield 50, 3) := by decide +kernel
theorem d_Told_addVeiled_16 : decode M_Told_addVeiled.2.1 16 = .ok (.iload_n 1, 1) := by decide +kernel
theorem d_Told_addVeiled_17 : decode M_Told_addVeiled.2.1 17 = .ok (.iastore, 1) := by decide +kernel
theorem d_Told_addVeiled_18 : decode M_Told_addVeiled.2.1 18 = .ok (.aload_n 0, 1) := by decide +kernel
theorem d_Told_addVeiled_19 : decode M_Told_addVeiled.2.1 19 = .ok (.dup, 1) := by decide +kernel
theorem d_Told_addVeiled_20 : decode M_Told_addVeiled.2.1 20 = .ok (.getfield 50, 3) := by decide +kernel
theorem d_Told_addVeiled_23 : decode M_Told_addVeiled.2.1 23 = .ok (.iconst 1, 1) := by decide +kernel
theorem d_Told_addVeiled_24 : decode M_Told_addVeiled.2.1 24 = .ok (.iadd, 1) := by decide +kernel
theorem d_Told_addVeiled_25 : decode M_Told_addVeiled.2.1 25 = .ok (.putfield 50, 3) := by decide +kernel
theorem d_Told_addVeiled_28 : decode M_Told_addVeiled.2.1 28 = .ok (.return_, 1) := by decide +kernel
theorem d_Told_addSigned_0 : decode M_Told_addSigned.2.1 0 = .ok (.aload_n 0, 1) := by decide +kernel
theorem d_Told_addSigned_1 : decode M_Told_addSigned.2.1 1 = .ok (.getfield 53, 3) := by decide +kernel
theorem d_Told_addSigned_4 : decode M_Told_addSigned.2.1 4 = .ok (.iconst 5, 1) := by decide +kernel
theorem d_Told_addSigned_5 : decode M_Told_addSigned.2.1 5 = .ok (.if_icmp .ge 33, 3) := by decide +kernel
theorem d_Told_addSigned_8 : decode M_Told_addSigned.2.1 8 = .ok (.aload_n 0, 1) := by decide +kernel
theorem d_Told_addSigned_9 : decode M_Told_addSigned.2.1 9 = .ok (.getfield 31, 3) := by decide +kernel
theorem d_Told_addSigned_12 : decode M_Told_addSigned.2.1 12 = .ok (.aload_n 0, 1) := by decide +kernel
theorem d_Told_addSigned_13 : decode M_Told_addSigned.2.1 13 = .ok (.getfield 53, 3) := by decide +kernel
theorem d_Told_addSigned_16 : decode M_Told_addSigned.2.1 16 = .ok (.iload_n 1, 1) := by decide +kernel
theorem d_Told_addSigned_17 : decode M_Told_addSigned.2.1 17 = .ok (.iastore, 1) := by decide +kernel
theorem d_Told_addSigned_18 : decode M_Told_addSigned.2.1 18 = .ok (.aload_n 0, 1) := by decide +kernel
theorem d_Told_addSigned_19 : decode M_Told_addSigned.2.1 19 = .ok (.getfield 34, 3) := by decide +kernel
theorem d_Told_addSigned_22 : decode M_Told_addSigned.2.1 22 = .ok (.aload_n 0, 1) := by decide +kernel
theorem d_Told_addSigned_23 : decode M_Told_addSigned.2.1 23 = .ok (.getfield 53, 3) := by decide +kernel
theorem d_Told_addSigned_26 : decode M_Told_addSigned.2.1 26 = .ok (.iload_n 2, 1) := by decide +kernel
theorem d_Told_addSigned_27 : decode M_Told_addSigned.2.1 27 = .ok (.iastore, 1) := by decide +kernel
theorem d_Told_addSigned_28 : decode M_Told_addSigned.2.1 28 = .ok (.aload_n 0, 1) := by decide +kernel
theorem d_Told_addSigned_29 : decode M_Told_addSigned.2.1 29 = .ok (.dup, 1) := by decide +kernel
theorem d_Told_addSigned_30 : decode M_Told_addSigned.2.1 30 = .ok (.getfield 53, 3) := by decide +kernel
theorem d_Told_addSigned_33 : decode M_Told_addSigned.2.1 33 = .ok (.iconst 1, 1) := by decide +kernel
theorem d_Told_addSigned_34 : decode M_Told_addSigned.2.1 34 = .ok (.iadd, 1) := by decide +kernel
theorem d_Told_addSigned_35 : decode M_Told_addSigned.2.1 35 = .ok (.putfield 53, 3) := by decide +kernel
theorem d_Told_addSigned_38 : decode M_Told_addSigned.2.1 38 = .ok (.return_, 1) := by decide +kernel
set_option maxRecDepth 4000 in
theorem t_Told_clear_34 {d : Nat} {I : Nat → Nat → Int32} {J : Nat → Nat → Int64} {R : Nat → Nat → Option Nat} {Q : Option Value → ow_H → Prop}  {v1 : Int32}  (hR : ow_RF R) (T : ((6 ≤ v1 → Q none (85, I, J, R)) ∧ (¬ 6 ≤ v1 → (vp_in v1 6 ∧ (∀ (I7 : Nat → Nat → Int32), I7 = ow_u I 21 (v1.toNatClampNeg) 0 → ow_AW ow_Y0 (ow_Z Q) M_Told_clear (d + 1) 0 0 34 [(0, .ref 14), (1, .int (v1 + 1))] [] (85, I7, J, R) 0 0))))) : ow_AW ow_Y0 (ow_Z Q) M_Told_clear (d + 1) 0 0 34 [(0, .ref 14), (1, .int v1)] [] (85, I, J, R) 0 0 := by
  refine ow_iload_n 1 rfl d_Told_clear_34 ?_
  refine ow_bipush (v := 6) (by decide) d_Told_clear_35 ?_
  refine ow_icmp_ge (tgt := 53) d_Told_clear_37 (by decide) (fun c => ?_) (fun c => ?_)
  · replace T := T.1 c
    exact ow_vret d_Told_clear_53 rfl T
  · replace T := T.2 c
    refine ow_aload_n 0 rfl d_Told_clear_40 ?_
    refine ow_gR (a := 21) 48 d_Told_clear_41 rfl rfl (by decide) rfl ⟨rfl, hR 14 6 (by decide)⟩ ?_
    refine ow_iload_n 1 rfl d_Told_clear_44 ?_
    refine ow_iconst (v := 0) (by decide) d_Told_clear_45 ?_
    obtain ⟨cI, T⟩ := T
    refine ow_hiastore d_Told_clear_46 (by decide) rfl rfl cI ?_
    obtain ⟨I7, eI7⟩ : ∃ uu, uu = ow_u I 21 (v1.toNatClampNeg) 0 := ⟨_, rfl⟩
    replace T := T I7 eI7
    rw [← eI7]
    refine ow_iinc 1 (v := (v1 + 1)) (ls2 := [(1, .int (v1 + 1)), (0, .ref 14)]) d_Told_clear_47 rfl rfl (by decide) rfl ?_
    refine ow_goto (tgt := 34) d_Told_clear_50 (by decide) ?_
    refine ow_sub [1, 0] rfl ?_
    exact T
set_option maxRecDepth 4000 in
theorem t_Told_clear {d : Nat} {I : Nat → Nat → Int32} {J : Nat → Nat → Int64} {R : Nat → Nat → Option Nat} {Q : Option Value → ow_H → Prop}   (hR : ow_RF R) (T : (∀ (I8 : Nat → Nat → Int32), I8 = ow_u I 14 0 0 → (∀ (I9 : Nat → Nat → Int32), I9 = ow_u I8 14 1 0 → (ow_AM M_Scene_clear d [.ref 15] (85, I9, J, R) (fun r h' => ∃ (I10 : Nat → Nat → Int32) (J10 : Nat → Nat → Int64) (R10 : Nat → Nat → Option Nat), r = none ∧ h' = (85, I10, J10, R10) ∧ ow_RF R10 ∧ (∀ (I11 : Nat → Nat → Int32), I11 = ow_u I10 14 3 0 → (∀ (I12 : Nat → Nat → Int32), I12 = ow_u I11 14 7 0 → (∀ (I13 : Nat → Nat → Int32), I13 = ow_u I12 14 9 0 → ow_AW ow_Y0 (ow_Z Q) M_Told_clear (d + 1) 0 0 34 [(0, .ref 14), (1, .int 0)] [] (85, I13, J10, R10) 0 0)))))))) : ow_AM M_Told_clear (d + 1) [.ref 14] (85, I, J, R) Q := by
  refine ow_enter (by decide) (Nat.le_of_ble_eq_true rfl) ?_
  show ow_AW ow_Y0 (ow_Z Q) M_Told_clear (d + 1) 0 0 0 [(0, .ref 14)] [] (85, I, J, R) 0 0
  refine ow_aload_n 0 rfl d_Told_clear_0 ?_
  refine ow_iconst (v := 0) (by decide) d_Told_clear_1 ?_
  refine ow_pI 26 d_Told_clear_2 rfl rfl (by decide) rfl rfl rfl ?_
  obtain ⟨I8, eI8⟩ : ∃ uu, uu = ow_u I 14 0 0 := ⟨_, rfl⟩
  replace T := T I8 eI8
  rw [← eI8]
  refine ow_aload_n 0 rfl d_Told_clear_5 ?_
  refine ow_iconst (v := 0) (by decide) d_Told_clear_6 ?_
  refine ow_pI 30 d_Told_clear_7 rfl rfl (by decide) rfl rfl rfl ?_
  obtain ⟨I9, eI9⟩ : ∃ uu, uu = ow_u I8 14 1 0 := ⟨_, rfl⟩
  replace T := T I9 eI9
  rw [← eI9]
  refine ow_aload_n 0 rfl d_Told_clear_10 ?_
  refine ow_gR (a := 15) 34 d_Told_clear_11 rfl rfl (by decide) rfl ⟨rfl, hR 14 2 (by decide)⟩ ?_
  refine ow_callV (b := 15) (cq := 4) (As := []) (rest := []) (d2 := d) d_Told_clear_14 l_Told_44 v_Scene_clear (show 15 < 85 by decide) rfl (by decide) rfl (Nat.le_of_ble_eq_true rfl) (Nat.le_refl _) ⟨Nat.le_refl _, Nat.le_refl _⟩ (ow_mono T ?_)
  rintro r h' ⟨I10, J10, R10, rfl, rfl, hR10, T⟩
  show ow_AW ow_Y0 (ow_Z Q) M_Told_clear (d + 1) 0 0 17 [(0, .ref 14)] [] (85, I10, J10, R10) 0 0
  refine ow_aload_n 0 rfl d_Told_clear_17 ?_
  refine ow_iconst (v := 0) (by decide) d_Told_clear_18 ?_
  refine ow_pI 40 d_Told_clear_19 rfl rfl (by decide) rfl rfl rfl ?_
  obtain ⟨I11, eI11⟩ : ∃ uu, uu = ow_u I10 14 3 0 := ⟨_, rfl⟩
  replace T := T I11 eI11
  rw [← eI11]
  refine ow_aload_n 0 rfl d_Told_clear_22 ?_
  refine ow_iconst (v := 0) (by decide) d_Told_clear_23 ?_
  refine ow_pI 52 d_Told_clear_24 rfl rfl (by decide) rfl rfl rfl ?_
  obtain ⟨I12, eI12⟩ : ∃ uu, uu = ow_u I11 14 7 0 := ⟨_, rfl⟩
  replace T := T I12 eI12
  rw [← eI12]
  refine ow_aload_n 0 rfl d_Told_clear_27 ?_
  refine ow_iconst (v := 0) (by decide) d_Told_clear_28 ?_
  refine ow_pI 57 d_Told_clear_29 rfl rfl (by decide) rfl rfl rfl ?_
  obtain ⟨I13, eI13⟩ : ∃ uu, uu = ow_u I12 14 9 0 := ⟨_, rfl⟩
  replace T := T I13 eI13
  rw [← eI13]
  refine ow_iconst (v := 0) (by decide) d_Told_clear_32 ?_
  refine ow_istore_n (ls2 := [(1, .int 0), (0, .ref 14)]) d_Told_clear_33 (by decide) rfl ?_
  refine ow_sub [1, 0] rfl ?_
  exact T
set_option maxRecDepth 4000 in
theorem t_Told_take {d : Nat} {I : Nat → Nat → Int32} {J : Nat → Nat → Int64} {R : Nat → Nat → Option Nat} {Q : Option Value → ow_H → Prop}   (hR : ow_RF R) (T : (∀ (I13 : Nat → Nat → Int32), I13 = ow_u I 2 0 (I 14 0) → (∀ (I14 : Nat → Nat → Int32), I14 = ow_u I13 2 1 (I13 14 1) → (ow_AM M_Scene_take d [.ref 3, .ref 15] (85, I14, J, R) (fun r h' => ∃ (I15 : Nat → Nat → Int32) (J15 : Nat → Nat → Int64) (R15 : Nat → Nat → Option Nat), r = none ∧ h' = (85, I15, J15, R15) ∧ ow_RF R15 ∧ (∀ (I16 : Nat → Nat → Int32), I16 = ow_u I15 2 3 (I15 14 3) → (∀ (I17 : Nat → Nat → Int32), I17 = ow_u I16 2 7 (I16 14 7) → (∀ (I18 : Nat → Nat → Int32), I18 = ow_u I17 2 9 (I17 14 9) → (∀ (I19 : Nat → Nat → Int32), I19 = ow_r I18 7 (va_cpy (I18 19) (I18 7) 0 0 5) → (∀ (I20 : Nat → Nat → Int32), I20 = ow_r I19 8 (va_cpy (I19 20) (I19 8) 0 0 5) → (∀ (I21 : Nat → Nat → Int32), I21 = ow_r I20 9 (va_cpy (I20 21) (I20 9) 0 0 6) → (∀ (I22 : Nat → Nat → Int32), I22 = ow_r I21 10 (va_cpy (I21 22) (I21 10) 0 0 3) → (∀ (I23 : Nat → Nat → Int32), I23 = ow_r I22 11 (va_cpy (I22 23) (I22 11) 0 0 5) → (∀ (I24 : Nat → Nat → Int32), I24 = ow_r I23 12 (va_cpy (I23 24) (I23 12) 0 0 5) → Q none (85, I24, J15, R15))))))))))))))) : ow_AM M_Told_take (d + 1) [.ref 2, .ref 14] (85, I, J, R) Q := by
  refine ow_enter (by decide) (Nat.le_of_ble_eq_true rfl) ?_
  show ow_AW ow_Y0 (ow_Z Q) M_Told_take (d + 1) 0 0 0 [(0, .ref 2), (1, .ref 14)] [] (85, I, J, R) 0 0
  refine ow_aload_n 0 rfl d_Told_take_0 ?_
  refine ow_aload_n 1 rfl d_Told_take_1 ?_
  refine ow_gI 26 d_Told_take_2 rfl rfl (by decide) rfl (Or.inl rfl) ?_
  refine ow_pI 26 d_Told_take_5 rfl rfl (by decide) rfl rfl rfl ?_
  obtain ⟨I13, eI13⟩ : ∃ uu, uu = ow_u I 2 0 (I 14 0) := ⟨_, rfl⟩
  replace T := T I13 eI13
  rw [← eI13]
  refine ow_aload_n 0 rfl d_Told_take_8 ?_
  refine ow_aload_n 1 rfl d_Told_take_9 ?_
  refine ow_gI 30 d_Told_take_10 rfl rfl (by decide) rfl (Or.inl rfl) ?_
  refine ow_pI 30 d_Told_take_13 rfl rfl (by decide) rfl rfl rfl ?_
  obtain ⟨I14, eI14⟩ : ∃ uu, uu = ow_u I13 2 1 (I13 14 1) := ⟨_, rfl⟩
  replace T := T I14 eI14
  rw [← eI14]
  refine ow_aload_n 0 rfl d_Told_take_16 ?_
  refine ow_gR (a := 3) 34 d_Told_take_17 rfl rfl (by decide) rfl ⟨rfl, hR 2 2 (by decide)⟩ ?_
  refine ow_aload_n 1 rfl d_Told_take_20 ?_
  refine ow_gR (a := 15) 34 d_Told_take_21 rfl rfl (by decide) rfl ⟨rfl, hR 14 2 (by decide)⟩ ?_
  refine ow_callV (b := 3) (cq := 4) (As := [.ref 15]) (rest := []) (d2 := d) d_Told_take_24 l_Told_56 v_Scene_take (show 3 < 85 by decide) rfl (by decide) rfl (Nat.le_of_ble_eq_true rfl) (Nat.le_refl _) ⟨Nat.le_refl _, Nat.le_refl _⟩ (ow_mono T ?_)
  rintro r h' ⟨I15, J15, R15, rfl, rfl, hR15, T⟩
  show ow_AW ow_Y0 (ow_Z Q) M_Told_take (d + 1) 0 0 27 [(0, .ref 2), (1, .ref 14)] [] (85, I15, J15, R15) 0 0
  refine ow_aload_n 0 rfl d_Told_take_27 ?_
  refine ow_aload_n 1 rfl d_Told_take_28 ?_
  refine ow_gI 40 d_Told_take_29 rfl rfl (by decide) rfl (Or.inl rfl) ?_
  refine ow_pI 40 d_Told_take_32 rfl rfl (by decide) rfl rfl rfl ?_
  obtain ⟨I16, eI16⟩ : ∃ uu, uu = ow_u I15 2 3 (I15 14 3) := ⟨_, rfl⟩
  replace T := T I16 eI16
  rw [← eI16]
  refine ow_aload_n 0 rfl d_Told_take_35 ?_
  refine ow_aload_n 1 rfl d_Told_take_36 ?_
  refine ow_gI 52 d_Told_take_37 rfl rfl (by decide) rfl (Or.inl rfl) ?_
  refine ow_pI 52 d_Told_take_40 rfl rfl (by decide) rfl rfl rfl ?_
  obtain ⟨I17, eI17⟩ : ∃ uu, uu = ow_u I16 2 7 (I16 14 7) := ⟨_, rfl⟩
  replace T := T I17 eI17
  rw [← eI17]
  refine ow_aload_n 0 rfl d_Told_take_43 ?_
  refine ow_aload_n 1 rfl d_Told_take_44 ?_
  refine ow_gI 57 d_Told_take_45 rfl rfl (by decide) rfl (Or.inl rfl) ?_
  refine ow_pI 57 d_Told_take_48 rfl rfl (by decide) rfl rfl rfl ?_
  obtain ⟨I18, eI18⟩ : ∃ uu, uu = ow_u I17 2 9 (I17 14 9) := ⟨_, rfl⟩
  replace T := T I18 eI18
  rw [← eI18]
  refine ow_aload_n 1 rfl d_Told_take_51 ?_
  refine ow_gR (a := 19) 43 d_Told_take_52 rfl rfl (by decide) rfl ⟨rfl, hR15 14 4 (by decide)⟩ ?_
  refine ow_iconst (v := 0) (by decide) d_Told_take_55 ?_
  refine ow_aload_n 0 rfl d_Told_take_56 ?_
  refine ow_gR (a := 7) 43 d_Told_take_57 rfl rfl (by decide) rfl ⟨rfl, hR15 2 4 (by decide)⟩ ?_
  refine ow_iconst (v := 0) (by decide) d_Told_take_60 ?_
  refine ow_iconst (v := 5) (by decide) d_Told_take_61 ?_
  refine ow_acopy d_Told_take_62 l_Told_60 (by decide) rfl (by decide) rfl rfl rfl (by decide) (by decide) (by decide) (by decide) (by decide) (Nat.succ_le_succ (Nat.zero_le _)) (Nat.le_of_ble_eq_true rfl) ?_
  obtain ⟨I19, eI19⟩ : ∃ uu, uu = ow_r I18 7 (va_cpy (I18 19) (I18 7) 0 0 5) := ⟨_, rfl⟩
  replace T := T I19 eI19
  show ow_AW ow_Y0 (ow_Z Q) M_Told_take (d + 1) 0 0 65 [(0, .ref 2), (1, .ref 14)] [] (85, (ow_r I18 7 (va_cpy (I18 19) (I18 7) 0 0 5)), J15, R15) 0 0
  rw [← eI19]
  refine ow_aload_n 1 rfl d_Told_take_65 ?_
  refine ow_gR (a := 20) 45 d_Told_take_66 rfl rfl (by decide) rfl ⟨rfl, hR15 14 5 (by decide)⟩ ?_
  refine ow_iconst (v := 0) (by decide) d_Told_take_69 ?_
  refine ow_aload_n 0 rfl d_Told_take_70 ?_
  refine ow_gR (a := 8) 45 d_Told_take_71 rfl rfl (by decide) rfl ⟨rfl, hR15 2 5 (by decide)⟩ ?_
  refine ow_iconst (v := 0) (by decide) d_Told_take_74 ?_
  refine ow_iconst (v := 5) (by decide) d_Told_take_75 ?_
  refine ow_acopy d_Told_take_76 l_Told_60 (by decide) rfl (by decide) rfl rfl rfl (by decide) (by decide) (by decide) (by decide) (by decide) (Nat.succ_le_succ (Nat.zero_le _)) (Nat.le_of_ble_eq_true rfl) ?_
  obtain ⟨I20, eI20⟩ : ∃ uu, uu = ow_r I19 8 (va_cpy (I19 20) (I19 8) 0 0 5) := ⟨_, rfl⟩
  replace T := T I20 eI20
  show ow_AW ow_Y0 (ow_Z Q) M_Told_take (d + 1) 0 0 79 [(0, .ref 2), (1, .ref 14)] [] (85, (ow_r I19 8 (va_cpy (I19 20) (I19 8) 0 0 5)), J15, R15) 0 0
  rw [← eI20]
  refine ow_aload_n 1 rfl d_Told_take_79 ?_
  refine ow_gR (a := 21) 48 d_Told_take_80 rfl rfl (by decide) rfl ⟨rfl, hR15 14 6 (by decide)⟩ ?_
  refine ow_iconst (v := 0) (by decide) d_Told_take_83 ?_
  refine ow_aload_n 0 rfl d_Told_take_84 ?_
  refine ow_gR (a := 9) 48 d_Told_take_85 rfl rfl (by decide) rfl ⟨rfl, hR15 2 6 (by decide)⟩ ?_
  refine ow_iconst (v := 0) (by decide) d_Told_take_88 ?_
  refine ow_bipush (v := 6) (by decide) d_Told_take_89 ?_
  refine ow_acopy d_Told_take_91 l_Told_60 (by decide) rfl (by decide) rfl rfl rfl (by decide) (by decide) (by decide) (by decide) (by decide) (Nat.succ_le_succ (Nat.zero_le _)) (Nat.le_of_ble_eq_true rfl) ?_
  obtain ⟨I21, eI21⟩ : ∃ uu, uu = ow_r I20 9 (va_cpy (I20 21) (I20 9) 0 0 6) := ⟨_, rfl⟩
  replace T := T I21 eI21
  show ow_AW ow_Y0 (ow_Z Q) M_Told_take (d + 1) 0 0 94 [(0, .ref 2), (1, .ref 14)] [] (85, (ow_r I20 9 (va_cpy (I20 21) (I20 9) 0 0 6)), J15, R15) 0 0
  rw [← eI21]
  refine ow_aload_n 1 rfl d_Told_take_94 ?_
  refine ow_gR (a := 22) 55 d_Told_take_95 rfl rfl (by decide) rfl ⟨rfl, hR15 14 8 (by decide)⟩ ?_
  refine ow_iconst (v := 0) (by decide) d_Told_take_98 ?_
  refine ow_aload_n 0 rfl d_Told_take_99 ?_
  refine ow_gR (a := 10) 55 d_Told_take_100 rfl rfl (by decide) rfl ⟨rfl, hR15 2 8 (by decide)⟩ ?_
  refine ow_iconst (v := 0) (by decide) d_Told_take_103 ?_
  refine ow_iconst (v := 3) (by decide) d_Told_take_104 ?_
  refine ow_acopy d_Told_take_105 l_Told_60 (by decide) rfl (by decide) rfl rfl rfl (by decide) (by decide) (by decide) (by decide) (by decide) (Nat.succ_le_succ (Nat.zero_le _)) (Nat.le_of_ble_eq_true rfl) ?_
  obtain ⟨I22, eI22⟩ : ∃ uu, uu = ow_r I21 10 (va_cpy (I21 22) (I21 10) 0 0 3) := ⟨_, rfl⟩
  replace T := T I22 eI22
  show ow_AW ow_Y0 (ow_Z Q) M_Told_take (d + 1) 0 0 108 [(0, .ref 2), (1, .ref 14)] [] (85, (ow_r I21 10 (va_cpy (I21 22) (I21 10) 0 0 3)), J15, R15) 0 0
  rw [← eI22]
  refine ow_aload_n 1 rfl d_Told_take_108 ?_
  refine ow_gR (a := 23) 61 d_Told_take_109 rfl rfl (by decide) rfl ⟨rfl, hR15 14 10 (by decide)⟩ ?_
  refine ow_iconst (v := 0) (by decide) d_Told_take_112 ?_
  refine ow_aload_n 0 rfl d_Told_take_113 ?_
  refine ow_gR (a := 11) 61 d_Told_take_114 rfl rfl (by decide) rfl ⟨rfl, hR15 2 10 (by decide)⟩ ?_
  refine ow_iconst (v := 0) (by decide) d_Told_take_117 ?_
  refine ow_iconst (v := 5) (by decide) d_Told_take_118 ?_
  refine ow_acopy d_Told_take_119 l_Told_60 (by decide) rfl (by decide) rfl rfl rfl (by decide) (by decide) (by decide) (by decide) (by decide) (Nat.succ_le_succ (Nat.zero_le _)) (Nat.le_of_ble_eq_true rfl) ?_
  obtain ⟨I23, eI23⟩ : ∃ uu, uu = ow_r I22 11 (va_cpy (I22 23) (I22 11) 0 0 5) := ⟨_, rfl⟩
  replace T := T I23 eI23
  show ow_AW ow_Y0 (ow_Z Q) M_Told_take (d + 1) 0 0 122 [(0, .ref 2), (1, .ref 14)] [] (85, (ow_r I22 11 (va_cpy (I22 23) (I22 11) 0 0 5)), J15, R15) 0 0
  rw [← eI23]
  refine ow_aload_n 1 rfl d_Told_take_122 ?_
  refine ow_gR (a := 24) 63 d_Told_take_123 rfl rfl (by decide) rfl ⟨rfl, hR15 14 11 (by decide)⟩ ?_
  refine ow_iconst (v := 0) (by decide) d_Told_take_126 ?_
  refine ow_aload_n 0 rfl d_Told_take_127 ?_
  refine ow_gR (a := 12) 63 d_Told_take_128 rfl rfl (by decide) rfl ⟨rfl, hR15 2 11 (by decide)⟩ ?_
  refine ow_iconst (v := 0) (by decide) d_Told_take_131 ?_
  refine ow_iconst (v := 5) (by decide) d_Told_take_132 ?_
  refine ow_acopy d_Told_take_133 l_Told_60 (by decide) rfl (by decide) rfl rfl rfl (by decide) (by decide) (by decide) (by decide) (by decide) (Nat.succ_le_succ (Nat.zero_le _)) (Nat.le_of_ble_eq_true rfl) ?_
  obtain ⟨I24, eI24⟩ : ∃ uu, uu = ow_r I23 12 (va_cpy (I23 24) (I23 12) 0 0 5) := ⟨_, rfl⟩
  replace T := T I24 eI24
  show ow_AW ow_Y0 (ow_Z Q) M_Told_take (d + 1) 0 0 136 [(0, .ref 2), (1, .ref 14)] [] (85, (ow_r I23 12 (va_cpy (I23 24) (I23 12) 0 0 5)), J15, R15) 0 0
  rw [← eI24]
  exact ow_vret d_Told_take_136 rfl T
set_option maxRecDepth 4000 in
theorem t_Told_addEstate {d : Nat} {I : Nat → Nat → Int32} {J : Nat → Nat → Int64} {R : Nat → Nat → Option Nat} {Q : Option Value → ow_H → Prop} {p1 : Int32} {p2 : Int32}  (hR : ow_RF R) (T : ((5 ≤ (I 14 3) → Q none (85, I, J, R)) ∧ (¬ 5 ≤ (I 14 3) → (ow_AM M_Scene_has d [.ref 15, .int p1] (85, I, J, R) (fun r h' => ∃ (r6 : Int32) (I6 : Nat → Nat → Int32) (J6 : Nat → Nat → Int64) (R6 : Nat → Nat → Option Nat), r = some (.int r6) ∧ h' = (85, I6, J6, R6) ∧ ow_RF R6 ∧ ((r6 = 0 → Q none (85, I6, J6, R6)) ∧ (¬ r6 = 0 → (vp_in (I6 14 3) 5 ∧ (∀ (I7 : Nat → Nat → Int32), I7 = ow_u I6 19 ((I6 14 3).toNatClampNeg) p1 → (vp_in (I7 14 3) 5 ∧ (∀ (I8 : Nat → Nat → Int32), I8 = ow_u I7 20 ((I7 14 3).toNatClampNeg) p2 → (vp_in p1 6 ∧ (vp_in p1 6 ∧ (∀ (I9 : Nat → Nat → Int32), I9 = ow_u I8 21 (p1.toNatClampNeg) ((I8 21 p1.toNatClampNeg) ||| ((1 : Int32) <<< ((I8 14 3) &&& 31))) → (∀ (I10 : Nat → Nat → Int32), I10 = ow_u I9 14 3 ((I9 14 3) + 1) → Q none (85, I10, J6, R6)))))))))))))))) : ow_AM M_Told_addEstate (d + 1) [.ref 14, .int p1, .int p2] (85, I, J, R) Q := by
  refine ow_enter (by decide) (Nat.le_of_ble_eq_true rfl) ?_
  show ow_AW ow_Y0 (ow_Z Q) M_Told_addEstate (d + 1) 0 0 0 [(0, .ref 14), (1, .int p1), (2, .int p2)] [] (85, I, J, R) 0 0
  refine ow_aload_n 0 rfl d_Told_addEstate_0 ?_
  refine ow_gI 40 d_Told_addEstate_1 rfl rfl (by decide) rfl (Or.inl rfl) ?_
  refine ow_iconst (v := 5) (by decide) d_Told_addEstate_4 ?_
  refine ow_icmp_ge (tgt := 64) d_Told_addEstate_5 (by decide) (fun c => ?_) (fun c => ?_)
  · replace T := T.1 c
    exact ow_vret d_Told_addEstate_64 rfl T
  · replace T := T.2 c
    refine ow_aload_n 0 rfl d_Told_addEstate_8 ?_
    refine ow_gR (a := 15) 34 d_Told_addEstate_9 rfl rfl (by decide) rfl ⟨rfl, hR 14 2 (by decide)⟩ ?_
    refine ow_iload_n 1 rfl d_Told_addEstate_12 ?_
    refine ow_callV (b := 15) (cq := 4) (As := [.int p1]) (rest := []) (d2 := d) d_Told_addEstate_13 l_Told_66 v_Scene_has (show 15 < 85 by decide) rfl (by decide) rfl (Nat.le_of_ble_eq_true rfl) (Nat.le_refl _) ⟨Nat.le_refl _, Nat.le_refl _⟩ (ow_mono T ?_)
    rintro r h' ⟨r6, I6, J6, R6, rfl, rfl, hR6, T⟩
    show ow_AW ow_Y0 (ow_Z Q) M_Told_addEstate (d + 1) 0 0 16 [(0, .ref 14), (1, .int p1), (2, .int p2)] [.int r6] (85, I6, J6, R6) 0 0
    refine ow_if_eq (tgt := 64) d_Told_addEstate_16 (by decide) (fun c => ?_) (fun c => ?_)
    · replace T := T.1 c
      exact ow_vret d_Told_addEstate_64 rfl T
    · replace T := T.2 c
      refine ow_aload_n 0 rfl d_Told_addEstate_19 ?_
      refine ow_gR (a := 19) 43 d_Told_addEstate_20 rfl rfl (by decide) rfl ⟨rfl, hR6 14 4 (by decide)⟩ ?_
      refine ow_aload_n 0 rfl d_Told_addEstate_23 ?_
      refine ow_gI 40 d_Told_addEstate_24 rfl rfl (by decide) rfl (Or.inl rfl) ?_
      refine ow_iload_n 1 rfl d_Told_addEstate_27 ?_
      obtain ⟨cI, T⟩ := T
      refine ow_hiastore d_Told_addEstate_28 (by decide) rfl rfl cI ?_
      obtain ⟨I7, eI7⟩ : ∃ uu, uu = ow_u I6 19 ((I6 14 3).toNatClampNeg) p1 := ⟨_, rfl⟩
      replace T := T I7 eI7
      rw [← eI7]
      refine ow_aload_n 0 rfl d_Told_addEstate_29 ?_
      refine ow_gR (a := 20) 45 d_Told_addEstate_30 rfl rfl (by decide) rfl ⟨rfl, hR6 14 5 (by decide)⟩ ?_
      refine ow_aload_n 0 rfl d_Told_addEstate_33 ?_
      refine ow_gI 40 d_Told_addEstate_34 rfl rfl (by decide) rfl (Or.inl rfl) ?_
      refine ow_iload_n 2 rfl d_Told_addEstate_37 ?_
      obtain ⟨cI, T⟩ := T
      refine ow_hiastore d_Told_addEstate_38 (by decide) rfl rfl cI ?_
      obtain ⟨I8, eI8⟩ : ∃ uu, uu = ow_u I7 20 ((I7 14 3).toNatClampNeg) p2 := ⟨_, rfl⟩
      replace T := T I8 eI8
      rw [← eI8]
      refine ow_aload_n 0 rfl d_Told_addEstate_39 ?_
      refine ow_gR (a := 21) 48 d_Told_addEstate_40 rfl rfl (by decide) rfl ⟨rfl, hR6 14 6 (by decide)⟩ ?_
      refine ow_iload_n 1 rfl d_Told_addEstate_43 ?_
      refine ow_dup2_11 rfl rfl d_Told_addEstate_44 ?_
      obtain ⟨cI, T⟩ := T
      refine ow_hiaload d_Told_addEstate_45 (by decide) rfl rfl cI ?_
      refine ow_iconst (v := 1) (by decide) d_Told_addEstate_46 ?_
      refine ow_aload_n 0 rfl d_Told_addEstate_47 ?_
      refine ow_gI 40 d_Told_addEstate_48 rfl rfl (by decide) rfl (Or.inl rfl) ?_
      refine ow_ishl d_Told_addEstate_51 ?_
      refine ow_ior d_Told_addEstate_52 ?_
      obtain ⟨cI, T⟩ := T
      refine ow_hiastore d_Told_addEstate_53 (by decide) rfl rfl cI ?_
      obtain ⟨I9, eI9⟩ : ∃ uu, uu = ow_u I8 21 (p1.toNatClampNeg) ((I8 21 p1.toNatClampNeg) ||| ((1 : Int32) <<< ((I8 14 3) &&& 31))) := ⟨_, rfl⟩
      replace T := T I9 eI9
      rw [← eI9]
      refine ow_aload_n 0 rfl d_Told_addEstate_54 ?_
      refine ow_dup rfl d_Told_addEstate_55 ?_
      refine ow_gI 40 d_Told_addEstate_56 rfl rfl (by decide) rfl (Or.inl rfl) ?_
      refine ow_iconst (v := 1) (by decide) d_Told_addEstate_59 ?_
      refine ow_iadd d_Told_addEstate_60 ?_
      refine ow_pI 40 d_Told_addEstate_61 rfl rfl (by decide) rfl rfl rfl ?_
      obtain ⟨I10, eI10⟩ : ∃ uu, uu = ow_u I9 14 3 ((I9 14 3) + 1) := ⟨_, rfl⟩
      replace T := T I10 eI10
      rw [← eI10]
      exact ow_vret d_Told_addEstate_64 rfl T
set_option maxRecDepth 4000 in
theorem t_Told_addVeiled {d : Nat} {I : Nat → Nat → Int32} {J : Nat → Nat → Int64} {R : Nat → Nat → Option Nat} {Q : Option Value → ow_H → Prop} {p1 : Int32}  (hR : ow_RF R) (T : ((3 ≤ (I 14 7) → Q none (85, I, J, R)) ∧ (¬ 3 ≤ (I 14 7) → (vp_in (I 14 7) 3 ∧ (∀ (I3 : Nat → Nat → Int32), I3 = ow_u I 22 ((I 14 7).toNatClampNeg) p1 → (∀ (I4 : Nat → Nat → Int32), I4 = ow_u I3 14 7 ((I3 14 7) + 1) → Q none (85, I4, J, R))))))) : ow_AM M_Told_addVeiled (d + 1) [.ref 14, .int p1] (85, I, J, R) Q := by
  refine ow_enter (by decide) (Nat.le_of_ble_eq_true rfl) ?_
  show ow_AW ow_Y0 (ow_Z Q) M_Told_addVeiled (d + 1) 0 0 0 [(0, .ref 14), (1, .int p1)] [] (85, I, J, R) 0 0
  refine ow_aload_n 0 rfl d_Told_addVeiled_0 ?_
  refine ow_gI 52 d_Told_addVeiled_1 rfl rfl (by decide) rfl (Or.inl rfl) ?_
  refine ow_iconst (v := 3) (by decide) d_Told_addVeiled_4 ?_
  refine ow_icmp_ge (tgt := 28) d_Told_addVeiled_5 (by decide) (fun c => ?_) (fun c => ?_)
  · replace T := T.1 c
    exact ow_vret d_Told_addVeiled_28 rfl T
  · replace T := T.2 c
    refine ow_aload_n 0 rfl d_Told_addVeiled_8 ?_
    refine ow_gR (a := 22) 55 d_Told_addVeiled_9 rfl rfl (by decide) rfl ⟨rfl, hR 14 8 (by decide)⟩ ?_
    refine ow_aload_n 0 rfl d_Told_addVeiled_12 ?_
    refine ow_gI 52 d_Told_addVeiled_13 rfl rfl (by decide) rfl (Or.inl rfl) ?_
    refine ow_iload_n 1 rfl d_Told_addVeiled_16 ?_
    obtain ⟨cI, T⟩ := T
    refine ow_hiastore d_Told_addVeiled_17 (by decide) rfl rfl cI ?_
    obtain ⟨I3, eI3⟩ : ∃ uu, uu = ow_u I 22 ((I 14 7).toNatClampNeg) p1 := ⟨_, rfl⟩
    replace T := T I3 eI3
    rw [← eI3]
    refine ow_aload_n 0 rfl d_Told_addVeiled_18 ?_
    refine ow_dup rfl d_Told_addVeiled_19 ?_
    refine ow_gI 52 d_Told_addVeiled_20 rfl rfl (by decide) rfl (Or.inl rfl) ?_
    refine ow_iconst (v := 1) (by decide) d_Told_addVeiled_23 ?_
    refine ow_iadd d_Told_addVeiled_24 ?_
    refine ow_pI 52 d_Told_addVeiled_25 rfl rfl (by decide) rfl rfl rfl ?_
    obtain ⟨I4, eI4⟩ : ∃ uu, uu = ow_u I3 14 7 ((I3 14 7) + 1) := ⟨_, rfl⟩
    replace T := T I4 eI4
    rw [← eI4]
    exact ow_vret d_Told_addVeiled_28 rfl T
set_option maxRecDepth 4000 in
theorem t_Told_addSigned {d : Nat} {I : Nat → Nat → Int32} {J : Nat → Nat → Int64} {R : Nat → Nat → Option Nat} {Q : Option Value → ow_H → Prop} {p1 : Int32} {p2 : Int32}  (hR : ow_RF R) (T : ((5 ≤ (I 14 9) → Q none (85, I, J, R)) ∧ (¬ 5 ≤ (I 14 9) → (vp_in (I 14 9) 5 ∧ (∀ (I4 : Nat → Nat → Int32), I4 = ow_u I 23 ((I 14 9).toNatClampNeg) p1 → (vp_in (I4 14 9) 5 ∧ (∀ (I5 : Nat → Nat → Int32), I5 = ow_u I4 24 ((I4 14 9).toNatClampNeg) p2 → (∀ (I6 : Nat → Nat → Int32), I6 = ow_u I5 14 9 ((I5 14 9) + 1) → Q none (85, I6, J, R))))))))) : ow_AM M_Told_addSigned (d + 1) [.ref 14, .int p1, .int p2] (85, I, J, R) Q := by
  refine ow_enter (by decide) (Nat.le_of_ble_eq_true rfl) ?_
  show ow_AW ow_Y0 (ow_Z Q) M_Told_addSigned (d + 1) 0 0 0 [(0, .ref 14), (1, .int p1), (2, .int p2)] [] (85, I, J, R) 0 0
  refine ow_aload_n 0 rfl d_Told_addSigned_0 ?_
  refine ow_gI 57 d_Told_addSigned_1 rfl rfl (by decide) rfl (Or.inl rfl) ?_
  refine ow_iconst (v := 5) (by decide) d_Told_addSigned_4 ?_
  refine ow_icmp_ge (tgt := 38) d_Told_addSigned_5 (by decide) (fun c => ?_) (fun c => ?_)
  · replace T := T.1 c
    exact ow_vret d_Told_addSigned_38 rfl T
  · replace T := T.2 c
    refine ow_aload_n 0 rfl d_Told_addSigned_8 ?_
    refine ow_gR (a := 23) 61 d_Told_addSigned_9 rfl rfl (by decide) rfl ⟨rfl, hR 14 10 (by decide)⟩ ?_
    refine ow_aload_n 0 rfl d_Told_addSigned_12 ?_
    refine ow_gI 57 d_Told_addSigned_13 rfl rfl (by decide) rfl (Or.inl rfl) ?_
    refine ow_iload_n 1 rfl d_Told_addSigned_16 ?_
    obtain ⟨cI, T⟩ := T
    refine ow_hiastore d_Told_addSigned_17 (by decide) rfl rfl cI ?_
    obtain ⟨I4, eI4⟩ : ∃ uu, uu = ow_u I 23 ((I 14 9).toNatClampNeg) p1 := ⟨_, rfl⟩
    replace T := T I4 eI4
    rw [← eI4]
    refine ow_aload_n 0 rfl d_Told_addSigned_18 ?_
    refine ow_gR (a := 24) 63 d_Told_addSigned_19 rfl rfl (by decide) rfl ⟨rfl, hR 14 11 (by decide)⟩ ?_
    refine ow_aload_n 0 rfl d_Told_addSigned_22 ?_
    refine ow_gI 57 d_Told_addSigned_23 rfl rfl (by decide) rfl (Or.inl rfl) ?_
    refine ow_iload_n 2 rfl d_Told_addSigned_26 ?_
    obtain ⟨cI, T⟩ := T
    refine ow_hiastore d_Told_addSigned_27 (by decide) rfl rfl cI ?_
    obtain ⟨I5, eI5⟩ : ∃ uu, uu = ow_u I4 24 ((I4 14 9).toNatClampNeg) p2 := ⟨_, rfl⟩
    replace T := T I5 eI5
    rw [← eI5]
    refine ow_aload_n 0 rfl d_Told_addSigned_28 ?_
    refine ow_dup rfl d_Told_addSigned_29 ?_
    refine ow_gI 57 d_Told_addSigned_30 rfl rfl (by decide) rfl (Or.inl rfl) ?_
    refine ow_iconst (v := 1) (by decide) d_Told_addSigned_33 ?_
    refine ow_iadd d_Told_addSigned_34 ?_
    refine ow_pI 57 d_Told_addSigned_35 rfl rfl (by decide) rfl rfl rfl ?_
    obtain ⟨I6, eI6⟩ : ∃ uu, uu = ow_u I5 14 9 ((I5 14 9) + 1) := ⟨_, rfl⟩
    replace T := T I6 eI6
    rw [← eI6]
    exact ow_vret d_Told_addSigned_38 rfl T
