/-! Own rows, by program: Scene_clear Scene_has Scene_add Scene_take Scene_reply Scene_age Scene_bitsSound Scene_standBy Scene_aim Scene_countSending Scene_comesBack -/
theorem d_Scene_clear_0 : decode M_Scene_clear.2.1 0 = .ok (.aload_n 0, 1) := by decide +kernel
theorem d_Scene_clear_1 : decode M_Scene_clear.2.1 1 = .ok (.iconst 0, 1) := by decide +kernel
theorem d_Scene_clear_2 : decode M_Scene_clear.2.1 2 = .ok (.putfield 21, 3) := by decide +kernel
theorem d_Scene_clear_5 : decode M_Scene_clear.2.1 5 = .ok (.aload_n 0, 1) := by decide +kernel
theorem d_Scene_clear_6 : decode M_Scene_clear.2.1 6 = .ok (.iconst 0, 1) := by decide +kernel
theorem d_Scene_clear_7 : decode M_Scene_clear.2.1 7 = .ok (.putfield 25, 3) := by decide +kernel
theorem d_Scene_clear_10 : decode M_Scene_clear.2.1 10 = .ok (.aload_n 0, 1) := by decide +kernel
theorem d_Scene_clear_11 : decode M_Scene_clear.2.1 11 = .ok (.iconst 0, 1) := by decide +kernel
theorem d_Scene_clear_12 : decode M_Scene_clear.2.1 12 = .ok (.putfield 28, 3) := by decide +kernel
theorem d_Scene_clear_15 : decode M_Scene_clear.2.1 15 = .ok (.return_, 1) := by decide +kernel
theorem d_Scene_has_0 : decode M_Scene_has.2.1 0 = .ok (.iload_n 1, 1) := by decide +kernel
theorem d_Scene_has_1 : decode M_Scene_has.2.1 1 = .ok (.ifCond .lt 15, 3) := by decide +kernel
theorem d_Scene_has_4 : decode M_Scene_has.2.1 4 = .ok (.iload_n 1, 1) := by decide +kernel
theorem d_Scene_has_5 : decode M_Scene_has.2.1 5 = .ok (.aload_n 0, 1) := by decide +kernel
theorem d_Scene_has_6 : decode M_Scene_has.2.1 6 = .ok (.getfield 21, 3) := by decide +kernel
theorem d_Scene_has_9 : decode M_Scene_has.2.1 9 = .ok (.if_icmp .ge 7, 3) := by decide +kernel
theorem d_Scene_has_12 : decode M_Scene_has.2.1 12 = .ok (.iconst 1, 1) := by decide +kernel
theorem d_Scene_has_13 : decode M_Scene_has.2.1 13 = .ok (.goto 4, 3) := by decide +kernel
theorem d_Scene_has_16 : decode M_Scene_has.2.1 16 = .ok (.iconst 0, 1) := by decide +kernel
theorem d_Scene_has_17 : decode M_Scene_has.2.1 17 = .ok (.ireturn, 1) := by decide +kernel
theorem d_Scene_add_0 : decode M_Scene_add.2.1 0 = .ok (.aload_n 0, 1) := by decide +kernel
theorem d_Scene_add_1 : decode M_Scene_add.2.1 1 = .ok (.getfield 21, 3) := by decide +kernel
theorem d_Scene_add_4 : decode M_Scene_add.2.1 4 = .ok (.bipush 6, 2) := by decide +kernel
theorem d_Scene_add_6 : decode M_Scene_add.2.1 6 = .ok (.if_icmp .ge 44, 3) := by decide +kernel
theorem d_Scene_add_9 : decode M_Scene_add.2.1 9 = .ok (.aload_n 0, 1) := by decide +kernel
theorem d_Scene_add_10 : decode M_Scene_add.2.1 10 = .ok (.getfield 9, 3) := by decide +kernel
theorem d_Scene_add_13 : decode M_Scene_add.2.1 13 = .ok (.aload_n 0, 1) := by decide +kernel
theorem d_Scene_add_14 : decode M_Scene_add.2.1 14 = .ok (.getfield 21, 3) := by decide +kernel
theorem d_Scene_add_17 : decode M_Scene_add.2.1 17 = .ok (.iload_n 1, 1) := by decide +kernel
theorem d_Scene_add_18 : decode M_Scene_add.2.1 18 = .ok (.iastore, 1) := by decide +kernel
theorem d_Scene_add_19 : decode M_Scene_add.2.1 19 = .ok (.aload_n 0, 1) := by decide +kernel
theorem d_Scene_add_20 : decode M_Scene_add.2.1 20 = .ok (.getfield 15, 3) := by decide +kernel
theorem d_Scene_add_23 : decode M_Scene_add.2.1 23 = .ok (.aload_n 0, 1) := by decide +kernel
theorem d_Scene_add_24 : decode M_Scene_add.2.1 24 = .ok (.getfield 21, 3) := by decide +kernel
theorem d_Scene_add_27 : decode M_Scene_add.2.1 27 = .ok (.iload_n 2, 1) := by decide +kernel
theorem d_Scene_add_28 : decode M_Scene_add.2.1 28 = .ok (.iastore, 1) := by decide +kernel
theorem d_Scene_add_29 : decode M_Scene_add.2.1 29 = .ok (.aload_n 0, 1) := by decide +kernel
theorem d_Scene_add_30 : decode M_Scene_add.2.1 30 = .ok (.getfield 18, 3) := by decide +kernel
theorem d_Scene_add_33 : decode M_Scene_add.2.1 33 = .ok (.aload_n 0, 1) := by decide +kernel
theorem d_Scene_add_34 : decode M_Scene_add.2.1 34 = .ok (.getfield 21, 3) := by decide +kernel
theorem d_Scene_add_37 : decode M_Scene_add.2.1 37 = .ok (.bipush (-2), 2) := by decide +kernel
theorem d_Scene_add_39 : decode M_Scene_add.2.1 39 = .ok (.iastore, 1) := by decide +kernel
theorem d_Scene_add_40 : decode M_Scene_add.2.1 40 = .ok (.aload_n 0, 1) := by decide +kernel
theorem d_Scene_add_41 : decode M_Scene_add.2.1 41 = .ok (.dup, 1) := by decide +kernel
theorem d_Scene_add_42 : decode M_Scene_add.2.1 42 = .ok (.getfield 21, 3) := by decide +kernel
theorem d_Scene_add_45 : decode M_Scene_add.2.1 45 = .ok (.iconst 1, 1) := by decide +kernel
theorem d_Scene_add_46 : decode M_Scene_add.2.1 46 = .ok (.iadd, 1) := by decide +kernel
theorem d_Scene_add_47 : decode M_Scene_add.2.1 47 = .ok (.putfield 21, 3) := by decide +kernel
theorem d_Scene_add_50 : decode M_Scene_add.2.1 50 = .ok (.return_, 1) := by decide +kernel
theorem d_Scene_take_0 : decode M_Scene_take.2.1 0 = .ok (.aload_n 0, 1) := by decide +kernel
theorem d_Scene_take_1 : decode M_Scene_take.2.1 1 = .ok (.aload_n 1, 1) := by decide +kernel
theorem d_Scene_take_2 : decode M_Scene_take.2.1 2 = .ok (.getfield 21, 3) := by decide +kernel
theorem d_Scene_take_5 : decode M_Scene_take.2.1 5 = .ok (.putfield 21, 3) := by decide +kernel
theorem d_Scene_take_8 : decode M_Scene_take.2.1 8 = .ok (.aload_n 0, 1) := by decide +kernel
theorem d_Scene_take_9 : decode M_Scene_take.2.1 9 = .ok (.aload_n 1, 1) := by decide +kernel
theorem d_Scene_take_10 : decode M_Scene_take.2.1 10 = .ok (.getfield 25, 3) := by decide +kernel
theorem d_Scene_take_13 : decode M_Scene_take.2.1 13 = .ok (.putfield 25, 3) := by decide +kernel
theorem d_Scene_take_16 : decode M_Scene_take.2.1 16 = .ok (.aload_n 0, 1) := by decide +kernel
theorem d_Scene_take_17 : decode M_Scene_take.2.1 17 = .ok (.aload_n 1, 1) := by decide +kernel
theorem d_Scene_take_18 : decode M_Scene_take.2.1 18 = .ok (.getfield 28, 3) := by decide +kernel
theorem d_Scene_take_21 : decode M_Scene_take.2.1 21 = .ok (.putfield 28, 3) := by decide +kernel
theorem d_Scene_take_24 : decode M_Scene_take.2.1 24 = .ok (.iconst 0, 1) := by decide +kernel
theorem d_Scene_take_25 : decode M_Scene_take.2.1 25 = .ok (.istore_n 2, 1) := by decide +kernel
theorem d_Scene_take_26 : decode M_Scene_take.2.1 26 = .ok (.iload_n 2, 1) := by decide +kernel
theorem d_Scene_take_27 : decode M_Scene_take.2.1 27 = .ok (.bipush 6, 2) := by decide +kernel
theorem d_Scene_take_29 : decode M_Scene_take.2.1 29 = .ok (.if_icmp .ge 45, 3) := by decide +kernel
theorem d_Scene_take_32 : decode M_Scene_take.2.1 32 = .ok (.aload_n 0, 1) := by decide +kernel
theorem d_Scene_take_33 : decode M_Scene_take.2.1 33 = .ok (.getfield 9, 3) := by decide +kernel
theorem d_Scene_take_36 : decode M_Scene_take.2.1 36 = .ok (.iload_n 2, 1) := by decide +kernel
theorem d_Scene_take_37 : decode M_Scene_take.2.1 37 = .ok (.aload_n 1, 1) := by decide +kernel
theorem d_Scene_take_38 : decode M_Scene_take.2.1 38 = .ok (.getfield 9, 3) := by decide +kernel
theorem d_Scene_take_41 : decode M_Scene_take.2.1 41 = .ok (.iload_n 2, 1) := by decide +kernel
theorem d_Scene_take_42 : decode M_Scene_take.2.1 42 = .ok (.iaload, 1) := by decide +kernel
theorem d_Scene_take_43 : decode M_Scene_take.2.1 43 = .ok (.iastore, 1) := by decide +kernel
theorem d_Scene_take_44 : decode M_Scene_take.2.1 44 = .ok (.aload_n 0, 1) := by decide +kernel
theorem d_Scene_take_45 : decode M_Scene_take.2.1 45 = .ok (.getfield 15, 3) := by decide +kernel
theorem d_Scene_take_48 : decode M_Scene_take.2.1 48 = .ok (.iload_n 2, 1) := by decide +kernel
theorem d_Scene_take_49 : decode M_Scene_take.2.1 49 = .ok (.aload_n 1, 1) := by decide +kernel
theorem d_Scene_take_50 : decode M_Scene_take.2.1 50 = .ok (.getfield 15, 3) := by decide +kernel
theorem d_Scene_take_53 : decode M_Scene_take.2.1 53 = .ok (.iload_n 2, 1) := by decide +kernel
theorem d_Scene_take_54 : decode M_Scene_take.2.1 54 = .ok (.iaload, 1) := by decide +kernel
theorem d_Scene_take_55 : decode M_Scene_take.2.1 55 = .ok (.iastore, 1) := by decide +kernel
theorem d_Scene_take_56 : decode M_Scene_take.2.1 56 = .ok (.aload_n 0, 1) := by decide +kernel
theorem d_Scene_take_57 : decode M_Scene_take.2.1 57 = .ok (.getfield 18, 3) := by decide +kernel
theorem d_Scene_take_60 : decode M_Scene_take.2.1 60 = .ok (.iload_n 2, 1) := by decide +kernel
theorem d_Scene_take_61 : decode M_Scene_take.2.1 61 = .ok (.aload_n 1, 1) := by decide +kernel
theorem d_Scene_take_62 : decode M_Scene_take.2.1 62 = .ok (.getfield 18, 3) := by decide +kernel
theorem d_Scene_take_65 : decode M_Scene_take.2.1 65 = .ok (.iload_n 2, 1) := by decide +kernel
theorem d_Scene_take_66 : decode M_Scene_take.2.1 66 = .ok (.iaload, 1) := by decide +kernel
theorem d_Scene_take_67 : decode M_Scene_take.2.1 67 = .ok (.iastore, 1) := by decide +kernel
theorem d_Scene_take_68 : decode M_Scene_take.2.1 68 = .ok (.iinc 2 1, 3) := by decide +kernel
theorem d_Scene_take_71 : decode M_Scene_take.2.1 71 = .ok (.goto (-45), 3) := by decide +kernel
theorem d_Scene_take_74 : decode M_Scene_take.2.1 74 = .ok (.return_, 1) := by decide +kernel
theorem d_Scene_reply_0 : decode M_Scene_reply.2.1 0 = .ok (.iload_n 1, 1) := by decide +kernel
theorem d_Scene_reply_1 : decode M_Scene_reply.2.1 1 = .ok (.ifCond .lt 20, 3) := by decide +kernel
theorem d_Scene_reply_4 : decode M_Scene_reply.2.1 4 = .ok (.iload_n 1, 1) := by decide +kernel
theorem d_Scene_reply_5 : decode M_Scene_reply.2.1 5 = .ok (.aload_n 0, 1) := by decide +kernel
theorem d_Scene_reply_6 : decode M_Scene_reply.2.1 6 = .ok (.getfield 21, 3) := by decide +kernel
theorem d_Scene_reply_9 : decode M_Scene_reply.2.1 9 = .ok (.if_icmp .ge 12, 3) := by decide +kernel
theorem d_Scene_reply_12 : decode M_Scene_reply.2.1 12 = .ok (.aload_n 0, 1) := by decide +kernel
theorem d_Scene_reply_13 : decode M_Scene_reply.2.1 13 = .ok (.getfield 15, 3) := by decide +kernel
theorem d_Scene_reply_16 : decode M_Scene_reply.2.1 16 = .ok (.iload_n 1, 1) := by decide +kernel
theorem d_Scene_reply_17 : decode M_Scene_reply.2.1 17 = .ok (.iaload, 1) := by decide +kernel
theorem d_Scene_reply_18 : decode M_Scene_reply.2.1 18 = .ok (.ifCond .ne 6, 3) := by decide +kernel
theorem d_Scene_reply_21 : decode M_Scene_reply.2.1 21 = .ok (.bipush (-2), 2) := by decide +kernel
theorem d_Scene_reply_23 : decode M_Scene_reply.2.1 23 = .ok (.ireturn, 1) := by decide +kernel
theorem d_Scene_reply_24 : decode M_Scene_reply.2.1 24 = .ok (.aload_n 0, 1) := by decide +kernel
theorem d_Scene_reply_25 : decode M_Scene_reply.2.1 25 = .ok (.getfield 28, 3) := by decide +kernel
theorem d_Scene_reply_28 : decode M_Scene_reply.2.1 28 = .ok (.iload_n 1, 1) := by decide +kernel
theorem d_Scene_reply_29 : decode M_Scene_reply.2.1 29 = .ok (.ishr, 1) := by decide +kernel
theorem d_Scene_reply_30 : decode M_Scene_reply.2.1 30 = .ok (.iconst 1, 1) := by decide +kernel
theorem d_Scene_reply_31 : decode M_Scene_reply.2.1 31 = .ok (.iand, 1) := by decide +kernel
theorem d_Scene_reply_32 : decode M_Scene_reply.2.1 32 = .ok (.ifCond .eq 5, 3) := by decide +kernel
theorem d_Scene_reply_35 : decode M_Scene_reply.2.1 35 = .ok (.iconst 0, 1) := by decide +kernel
theorem d_Scene_reply_36 : decode M_Scene_reply.2.1 36 = .ok (.ireturn, 1) := by decide +kernel
theorem d_Scene_reply_37 : decode M_Scene_reply.2.1 37 = .ok (.aload_n 0, 1) := by decide +kernel
theorem d_Scene_reply_38 : decode M_Scene_reply.2.1 38 = .ok (.getfield 9, 3) := by decide +kernel
theorem d_Scene_reply_41 : decode M_Scene_reply.2.1 41 = .ok (.iload_n 1, 1) := by decide +kernel
theorem d_Scene_reply_42 : decode M_Scene_reply.2.1 42 = .ok (.iaload, 1) := by decide +kernel
theorem d_Scene_reply_43 : decode M_Scene_reply.2.1 43 = .ok (.tableswitch 54 0 3 #[29, 31, 35, 37], 29) := by decide +kernel
theorem d_Scene_reply_72 : decode M_Scene_reply.2.1 72 = .ok (.iload_n 2, 1) := by decide +kernel
theorem d_Scene_reply_73 : decode M_Scene_reply.2.1 73 = .ok (.ireturn, 1) := by decide +kernel
theorem d_Scene_reply_74 : decode M_Scene_reply.2.1 74 = .ok (.iconst 1, 1) := by decide +kernel
theorem d_Scene_reply_75 : decode M_Scene_reply.2.1 75 = .ok (.iload_n 2, 1) := by decide +kernel
theorem d_Scene_reply_76 : decode M_Scene_reply.2.1 76 = .ok (.isub, 1) := by decide +kernel
theorem d_Scene_reply_77 : decode M_Scene_reply.2.1 77 = .ok (.ireturn, 1) := by decide +kernel
theorem d_Scene_reply_78 : decode M_Scene_reply.2.1 78 = .ok (.iconst 1, 1) := by decide +kernel
theorem d_Scene_reply_79 : decode M_Scene_reply.2.1 79 = .ok (.ireturn, 1) := by decide +kernel
theorem d_Scene_reply_80 : decode M_Scene_reply.2.1 80 = .ok (.aload_n 0, 1) := by decide +kernel
theorem d_Scene_reply_81 : decode M_Scene_reply.2.1 81 = .ok (.getfield 25, 3) := by decide +kernel
theorem d_Scene_reply_84 : decode M_Scene_reply.2.1 84 = .ok (.iconst 1, 1) := by decide +kernel
theorem d_Scene_reply_85 : decode M_Scene_reply.2.1 85 = .ok (.iand, 1) := by decide +kernel
theorem d_Scene_reply_86 : decode M_Scene_reply.2.1 86 = .ok (.ifCond .ne 7, 3) := by decide +kernel
theorem d_Scene_reply_89 : decode M_Scene_reply.2.1 89 = .ok (.iload_n 2, 1) := by decide +kernel
theorem d_Scene_reply_90 : decode M_Scene_reply.2.1 90 = .ok (.goto 6, 3) := by decide +kernel
theorem d_Scene_reply_93 : decode M_Scene_reply.2.1 93 = .ok (.iconst 1, 1) := by decide +kernel
theorem d_Scene_reply_94 : decode M_Scene_reply.2.1 94 = .ok (.iload_n 2, 1) := by decide +kernel
theorem d_Scene_reply_95 : decode M_Scene_reply.2.1 95 = .ok (.isub, 1) := by decide +kernel
theorem d_Scene_reply_96 : decode M_Scene_reply.2.1 96 = .ok (.ireturn, 1) := by decide +kernel
theorem d_Scene_reply_97 : decode M_Scene_reply.2.1 97 = .ok (.bipush (-2), 2) := by decide +kernel
theorem d_Scene_reply_99 : decode M_Scene_reply.2.1 99 = .ok (.ireturn, 1) := by decide +kernel
theorem d_Scene_age_0 : decode M_Scene_age.2.1 0 = .ok (.aload_n 0, 1) := by decide +kernel
theorem d_Scene_age_1 : decode M_Scene_age.2.1 1 = .ok (.dup, 1) := by decide +kernel
theorem d_Scene_age_2 : decode M_Scene_age.2.1 2 = .ok (.getfield 25, 3) := by decide +kernel
theorem d_Scene_age_5 : decode M_Scene_age.2.1 5 = .ok (.iload_n 2, 1) := by decide +kernel
theorem d_Scene_age_6 : decode M_Scene_age.2.1 6 = .ok (.iadd, 1) := by decide +kernel
theorem d_Scene_age_7 : decode M_Scene_age.2.1 7 = .ok (.putfield 25, 3) := by decide +kernel
theorem d_Scene_age_10 : decode M_Scene_age.2.1 10 = .ok (.iconst 0, 1) := by decide +kernel
theorem d_Scene_age_11 : decode M_Scene_age.2.1 11 = .ok (.istore_n 3, 1) := by decide +kernel
theorem d_Scene_age_12 : decode M_Scene_age.2.1 12 = .ok (.iload_n 3, 1) := by decide +kernel
theorem d_Scene_age_13 : decode M_Scene_age.2.1 13 = .ok (.aload_n 0, 1) := by decide +kernel
theorem d_Scene_age_14 : decode M_Scene_age.2.1 14 = .ok (.getfield 21, 3) := by decide +kernel
theorem d_Scene_age_17 : decode M_Scene_age.2.1 17 = .ok (.if_icmp .ge 29, 3) := by decide +kernel
theorem d_Scene_age_20 : decode M_Scene_age.2.1 20 = .ok (.aload_n 0, 1) := by decide +kernel
theorem d_Scene_age_21 : decode M_Scene_age.2.1 21 = .ok (.getfield 15, 3) := by decide +kernel
theorem d_Scene_age_24 : decode M_Scene_age.2.1 24 = .ok (.iload_n 3, 1) := by decide +kernel
theorem d_Scene_age_25 : decode M_Scene_age.2.1 25 = .ok (.iconst 0, 1) := by decide +kernel
theorem d_Scene_age_26 : decode M_Scene_age.2.1 26 = .ok (.aload_n 0, 1) := by decide +kernel
theorem d_Scene_age_27 : decode M_Scene_age.2.1 27 = .ok (.getfield 15, 3) := by decide +kernel
theorem d_Scene_age_30 : decode M_Scene_age.2.1 30 = .ok (.iload_n 3, 1) := by decide +kernel
theorem d_Scene_age_31 : decode M_Scene_age.2.1 31 = .ok (.iaload, 1) := by decide +kernel
theorem d_Scene_age_32 : decode M_Scene_age.2.1 32 = .ok (.iload_n 1, 1) := by decide +kernel
theorem d_Scene_age_33 : decode M_Scene_age.2.1 33 = .ok (.iload_n 2, 1) := by decide +kernel
theorem d_Scene_age_34 : decode M_Scene_age.2.1 34 = .ok (.imul, 1) := by decide +kernel
theorem d_Scene_age_35 : decode M_Scene_age.2.1 35 = .ok (.isub, 1) := by decide +kernel
theorem d_Scene_age_36 : decode M_Scene_age.2.1 36 = .ok (.invokestatic 31, 3) := by decide +kernel
theorem d_Scene_age_39 : decode M_Scene_age.2.1 39 = .ok (.iastore, 1) := by decide +kernel
theorem d_Scene_age_40 : decode M_Scene_age.2.1 40 = .ok (.iinc 3 1, 3) := by decide +kernel
theorem d_Scene_age_43 : decode M_Scene_age.2.1 43 = .ok (.goto (-31), 3) := by decide +kernel
theorem d_Scene_age_46 : decode M_Scene_age.2.1 46 = .ok (.return_, 1) := by decide +kernel
theorem d_Scene_bitsSound_0 : decode M_Scene_bitsSound.2.1 0 = .ok (.iconst 0, 1) := by decide +kernel
theorem d_Scene_bitsSound_1 : decode M_Scene_bitsSound.2.1 1 = .ok (.istore_n 1, 1) := by decide +kernel
theorem d_Scene_bitsSound_2 : decode M_Scene_bitsSound.2.1 2 = .ok (.iconst 0, 1) := by decide +kernel
theorem d_Scene_bitsSound_3 : decode M_Scene_bitsSound.2.1 3 = .ok (.istore_n 2, 1) := by decide +kernel
theorem d_Scene_bitsSound_4 : decode M_Scene_bitsSound.2.1 4 = .ok (.iload_n 2, 1) := by decide +kernel
theorem d_Scene_bitsSound_5 : decode M_Scene_bitsSound.2.1 5 = .ok (.aload_n 0, 1) := by decide +kernel
theorem d_Scene_bitsSound_6 : decode M_Scene_bitsSound.2.1 6 = .ok (.getfield 21, 3) := by decide +kernel
theorem d_Scene_bitsSound_9 : decode M_Scene_bitsSound.2.1 9 = .ok (.if_icmp .ge 24, 3) := by decide +kernel
theorem d_Scene_bitsSound_12 : decode M_Scene_bitsSound.2.1 12 = .ok (.aload_n 0, 1) := by decide +kernel
theorem d_Scene_bitsSound_13 : decode M_Scene_bitsSound.2.1 13 = .ok (.getfield 15, 3) := by decide +kernel
theorem d_Scene_bitsSound_16 : decode M_Scene_bitsSound.2.1 16 = .ok (.iload_n 2, 1) := by decide +kernel
theorem d_Scene_bitsSound_17 : decode M_Scene_bitsSound.2.1 17 = .ok (.iaload, 1) := by decide +kernel
theorem d_Scene_bitsSound_18 : decode M_Scene_bitsSound.2.1 18 = .ok (.ifCond .le 9, 3) := by decide +kernel
theorem d_Scene_bitsSound_21 : decode M_Scene_bitsSound.2.1 21 = .ok (.iload_n 1, 1) := by decide +kernel
theorem d_Scene_bitsSound_22 : decode M_Scene_bitsSound.2.1 22 = .ok (.iconst 1, 1) := by decide +kernel
theorem d_Scene_bitsSound_23 : decode M_Scene_bitsSound.2.1 23 = .ok (.iload_n 2, 1) := by decide +kernel
theorem d_Scene_bitsSound_24 : decode M_Scene_bitsSound.2.1 24 = .ok (.ishl, 1) := by decide +kernel
theorem d_Scene_bitsSound_25 : decode M_Scene_bitsSound.2.1 25 = .ok (.ior, 1) := by decide +kernel
theorem d_Scene_bitsSound_26 : decode M_Scene_bitsSound.2.1 26 = .ok (.istore_n 1, 1) := by decide +kernel
theorem d_Scene_bitsSound_27 : decode M_Scene_bitsSound.2.1 27 = .ok (.iinc 2 1, 3) := by decide +kernel
theorem d_Scene_bitsSound_30 : decode M_Scene_bitsSound.2.1 30 = .ok (.goto (-26), 3) := by decide +kernel
theorem d_Scene_bitsSound_33 : decode M_Scene_bitsSound.2.1 33 = .ok (.iload_n 1, 1) := by decide +kernel
theorem d_Scene_bitsSound_34 : decode M_Scene_bitsSound.2.1 34 = .ok (.ireturn, 1) := by decide +kernel
theorem d_Scene_standBy_0 : decode M_Scene_standBy.2.1 0 = .ok (.iconst 0, 1) := by decide +kernel
theorem d_Scene_standBy_1 : decode M_Scene_standBy.2.1 1 = .ok (.istore_n 2, 1) := by decide +kernel
theorem d_Scene_standBy_2 : decode M_Scene_standBy.2.1 2 = .ok (.iload_n 2, 1) := by decide +kernel
theorem d_Scene_standBy_3 : decode M_Scene_standBy.2.1 3 = .ok (.aload_n 0, 1) := by decide +kernel
theorem d_Scene_standBy_4 : decode M_Scene_standBy.2.1 4 = .ok (.getfield 21, 3) := by decide +kernel
theorem d_Scene_standBy_7 : decode M_Scene_standBy.2.1 7 = .ok (.if_icmp .ge 20, 3) := by decide +kernel
theorem d_Scene_standBy_10 : decode M_Scene_standBy.2.1 10 = .ok (.aload_n 0, 1) := by decide +kernel
theorem d_Scene_standBy_11 : decode M_Scene_standBy.2.1 11 = .ok (.getfield 15, 3) := by decide +kernel
theorem d_Scene_standBy_14 : decode M_Scene_standBy.2.1 14 = .ok (.iload_n 2, 1) := by decide +kernel
theorem d_Scene_standBy_15 : decode M_Scene_standBy.2.1 15 = .ok (.iload_n 1, 1) := by decide +kernel
theorem d_Scene_standBy_16 : decode M_Scene_standBy.2.1 16 = .ok (.iload_n 2, 1) := by decide +kernel
theorem d_Scene_standBy_17 : decode M_Scene_standBy.2.1 17 = .ok (.ishr, 1) := by decide +kernel
theorem d_Scene_standBy_18 : decode M_Scene_standBy.2.1 18 = .ok (.iconst 1, 1) := by decide +kernel
theorem d_Scene_standBy_19 : decode M_Scene_standBy.2.1 19 = .ok (.iand, 1) := by decide +kernel
theorem d_Scene_standBy_20 : decode M_Scene_standBy.2.1 20 = .ok (.iastore, 1) := by decide +kernel
theorem d_Scene_standBy_21 : decode M_Scene_standBy.2.1 21 = .ok (.iinc 2 1, 3) := by decide +kernel
theorem d_Scene_standBy_24 : decode M_Scene_standBy.2.1 24 = .ok (.goto (-22), 3) := by decide +kernel
theorem d_Scene_standBy_27 : decode M_Scene_standBy.2.1 27 = .ok (.return_, 1) := by decide +kernel
theorem d_Scene_aim_0 : decode M_Scene_aim.2.1 0 = .ok (.aload_n 0, 1) := by decide +kernel
theorem d_Scene_aim_1 : decode M_Scene_aim.2.1 1 = .ok (.iload_n 1, 1) := by decide +kernel
theorem d_Scene_aim_2 : decode M_Scene_aim.2.1 2 = .ok (.invokevirtual 37, 3) := by decide +kernel
theorem d_Scene_aim_5 : decode M_Scene_aim.2.1 5 = .ok (.ifCond .eq 20, 3) := by decide +kernel
theorem d_Scene_aim_8 : decode M_Scene_aim.2.1 8 = .ok (.aload_n 0, 1) := by decide +kernel
theorem d_Scene_aim_9 : decode M_Scene_aim.2.1 9 = .ok (.getfield 18, 3) := by decide +kernel
theorem d_Scene_aim_12 : decode M_Scene_aim.2.1 12 = .ok (.iload_n 1, 1) := by decide +kernel
theorem d_Scene_aim_13 : decode M_Scene_aim.2.1 13 = .ok (.iload_n 2, 1) := by decide +kernel
theorem d_Scene_aim_14 : decode M_Scene_aim.2.1 14 = .ok (.iload_n 1, 1) := by decide +kernel
theorem d_Scene_aim_15 : decode M_Scene_aim.2.1 15 = .ok (.if_icmp .ne 8, 3) := by decide +kernel
theorem d_Scene_aim_18 : decode M_Scene_aim.2.1 18 = .ok (.bipush (-2), 2) := by decide +kernel
theorem d_Scene_aim_20 : decode M_Scene_aim.2.1 20 = .ok (.goto 4, 3) := by decide +kernel
theorem d_Scene_aim_23 : decode M_Scene_aim.2.1 23 = .ok (.iload_n 2, 1) := by decide +kernel
theorem d_Scene_aim_24 : decode M_Scene_aim.2.1 24 = .ok (.iastore, 1) := by decide +kernel
theorem d_Scene_aim_25 : decode M_Scene_aim.2.1 25 = .ok (.return_, 1) := by decide +kernel
theorem d_Scene_countSending_0 : decode M_Scene_countSending.2.1 0 = .ok (.iconst 0, 1) := by decide +kernel
theorem d_Scene_countSending_1 : decode M_Scene_countSending.2.1 1 = .ok (.istore_n 1, 1) := by decide +kernel
theorem d_Scene_countSending_2 : decode M_Scene_countSending.2.1 2 = .ok (.iconst 0, 1) := by decide +kernel
theorem d_Scene_countSending_3 : decode M_Scene_countSending.2.1 3 = .ok (.istore_n 2, 1) := by decide +kernel
theorem d_Scene_countSending_4 : decode M_Scene_countSending.2.1 4 = .ok (.iload_n 2, 1) := by decide +kernel
theorem d_Scene_countSending_5 : decode M_Scene_countSending.2.1 5 = .ok (.aload_n 0, 1) := by decide +kernel
theorem d_Scene_countSending_6 : decode M_Scene_countSending.2.1 6 = .ok (.getfield 21, 3) := by decide +kernel
theorem d_Scene_countSending_9 : decode M_Scene_countSending.2.1 9 = .ok (.if_icmp .ge 23, 3) := by decide +kernel
theorem d_Scene_countSending_12 : decode M_Scene_countSending.2.1 12 = .ok (.aload_n 0, 1) := by decide +kernel
theorem d_Scene_countSending_13 : decode M_Scene_countSending.2.1 13 = .ok (.getfield 18, 3) := by decide +kernel
theorem d_Scene_countSending_16 : decode M_Scene_countSending.2.1 16 = .ok (.iload_n 2, 1) := by decide +kernel
theorem d_Scene_countSending_17 : decode M_Scene_countSending.2.1 17 = .ok (.iaload, 1) := by decide +kernel
theorem d_Scene_countSending_18 : decode M_Scene_countSending.2.1 18 = .ok (.bipush (-2), 2) := by decide +kernel
theorem d_Scene_countSending_20 : decode M_Scene_countSending.2.1 20 = .ok (.if_icmp .eq 6, 3) := by decide +kernel
theorem d_Scene_countSending_23 : decode M_Scene_countSending.2.1 23 = .ok (.iinc 1 1, 3) := by decide +kernel
theorem d_Scene_countSending_26 : decode M_Scene_countSending.2.1 26 = .ok (.iinc 2 1, 3) := by decide +kernel
theorem d_Scene_countSending_29 : decode M_Scene_countSending.2.1 29 = .ok (.goto (-25), 3) := by decide +kernel
theorem d_Scene_countSending_32 : decode M_Scene_countSending.2.1 32 = .ok (.iload_n 1, 1) := by decide +kernel
theorem d_Scene_countSending_33 : decode M_Scene_countSending.2.1 33 = .ok (.ireturn, 1) := by decide +kernel
theorem d_Scene_comesBack_0 : decode M_Scene_comesBack.2.1 0 = .ok (.iload_n 1, 1) := by decide +kernel
theorem d_Scene_comesBack_1 : decode M_Scene_comesBack.2.1 1 = .ok (.istore_n 2, 1) := by decide +kernel
theorem d_Scene_comesBack_2 : decode M_Scene_comesBack.2.1 2 = .ok (.iconst 0, 1) := by decide +kernel
theorem d_Scene_comesBack_3 : decode M_Scene_comesBack.2.1 3 = .ok (.istore_n 3, 1) := by decide +kernel
theorem d_Scene_comesBack_4 : decode M_Scene_comesBack.2.1 4 = .ok (.iload_n 3, 1) := by decide +kernel
theorem d_Scene_comesBack_5 : decode M_Scene_comesBack.2.1 5 = .ok (.aload_n 0, 1) := by decide +kernel
theorem d_Scene_comesBack_6 : decode M_Scene_comesBack.2.1 6 = .ok (.getfield 21, 3) := by decide +kernel
theorem d_Scene_comesBack_9 : decode M_Scene_comesBack.2.1 9 = .ok (.if_icmp .ge 31, 3) := by decide +kernel
theorem d_Scene_comesBack_12 : decode M_Scene_comesBack.2.1 12 = .ok (.aload_n 0, 1) := by decide +kernel
theorem d_Scene_comesBack_13 : decode M_Scene_comesBack.2.1 13 = .ok (.iload_n 2, 1) := by decide +kernel
theorem d_Scene_comesBack_14 : decode M_Scene_comesBack.2.1 14 = .ok (.invokevirtual 37, 3) := by decide +kernel
theorem d_Scene_comesBack_17 : decode M_Scene_comesBack.2.1 17 = .ok (.ifCond .eq 23, 3) := by decide +kernel
theorem d_Scene_comesBack_20 : decode M_Scene_comesBack.2.1 20 = .ok (.aload_n 0, 1) := by decide +kernel
theorem d_Scene_comesBack_21 : decode M_Scene_comesBack.2.1 21 = .ok (.getfield 18, 3) := by decide +kernel
theorem d_Scene_comesBack_24 : decode M_Scene_comesBack.2.1 24 = .ok (.iload_n 2, 1) := by decide +kernel
theorem d_Scene_comesBack_25 : decode M_Scene_comesBack.2.1 25 = .ok (.iaload, 1) := by decide +kernel
theorem d_Scene_comesBack_26 : decode M_Scene_comesBack.2.1 26 = .ok (.istore_n 2, 1) := by decide +kernel
theorem d_Scene_comesBack_27 : decode M_Scene_comesBack.2.1 27 = .ok (.iload_n 2, 1) := by decide +kernel
theorem d_Scene_comesBack_28 : decode M_Scene_comesBack.2.1 28 = .ok (.iload_n 1, 1) := by decide +kernel
theorem d_Scene_comesBack_29 : decode M_Scene_comesBack.2.1 29 = .ok (.if_icmp .ne 5, 3) := by decide +kernel
theorem d_Scene_comesBack_32 : decode M_Scene_comesBack.2.1 32 = .ok (.iconst 1, 1) := by decide +kernel
theorem d_Scene_comesBack_33 : decode M_Scene_comesBack.2.1 33 = .ok (.ireturn, 1) := by decide +kernel
theorem d_Scene_comesBack_34 : decode M_Scene_comesBack.2.1 34 = .ok (.iinc 3 1, 3) := by decide +kernel
theorem d_Scene_comesBack_37 : decode M_Scene_comesBack.2.1 37 = .ok (.goto (-33), 3) := by decide +kernel
theorem d_Scene_comesBack_40 : decode M_Scene_comesBack.2.1 40 = .ok (.iconst 0, 1) := by decide +kernel
theorem d_Scene_comesBack_41 : decode M_Scene_comesBack.2.1 41 = .ok (.ireturn, 1) := by decide +kernel
set_option maxRecDepth 4000 in
theorem t_Scene_clear {d : Nat} {I : Nat → Nat → Int32} {J : Nat → Nat → Int64} {R : Nat → Nat → Option Nat} {Q : Option Value → ow_H → Prop} {o : Nat} (ho : o ∈ [3, 15, 29, 33, 42, 47, 57]) (hR : ow_RF R) (T : (∀ (I4 : Nat → Nat → Int32), I4 = ow_u I o 0 0 → (∀ (I5 : Nat → Nat → Int32), I5 = ow_u I4 o 1 0 → (∀ (I6 : Nat → Nat → Int32), I6 = ow_u I5 o 2 0 → Q none (85, I6, J, R))))) : ow_AM M_Scene_clear (d + 1) [.ref o] (85, I, J, R) Q := by
  refine ow_enter (by decide) (Nat.le_of_ble_eq_true rfl) ?_
  show ow_AW ow_Y0 (ow_Z Q) M_Scene_clear (d + 1) 0 0 0 [(0, .ref o)] [] (85, I, J, R) 0 0
  obtain ⟨o_lt, o_kd, o_r3, o_r4, o_r5, o_k1, o_k2, o_k3, o_n1, o_n2, o_n3⟩ := ow_sc_ok o ho
  refine ow_aload_n 0 rfl d_Scene_clear_0 ?_
  refine ow_iconst (v := 0) (by decide) d_Scene_clear_1 ?_
  refine ow_pI 0 d_Scene_clear_2 rfl rfl (by omega) o_kd rfl rfl ?_
  obtain ⟨I4, eI4⟩ : ∃ uu, uu = ow_u I o 0 0 := ⟨_, rfl⟩
  replace T := T I4 eI4
  rw [← eI4]
  refine ow_aload_n 0 rfl d_Scene_clear_5 ?_
  refine ow_iconst (v := 0) (by decide) d_Scene_clear_6 ?_
  refine ow_pI 6 d_Scene_clear_7 rfl rfl (by omega) o_kd rfl rfl ?_
  obtain ⟨I5, eI5⟩ : ∃ uu, uu = ow_u I4 o 1 0 := ⟨_, rfl⟩
  replace T := T I5 eI5
  rw [← eI5]
  refine ow_aload_n 0 rfl d_Scene_clear_10 ?_
  refine ow_iconst (v := 0) (by decide) d_Scene_clear_11 ?_
  refine ow_pI 9 d_Scene_clear_12 rfl rfl (by omega) o_kd rfl rfl ?_
  obtain ⟨I6, eI6⟩ : ∃ uu, uu = ow_u I5 o 2 0 := ⟨_, rfl⟩
  replace T := T I6 eI6
  rw [← eI6]
  exact ow_vret d_Scene_clear_15 rfl T
set_option maxRecDepth 4000 in
theorem t_Scene_has {d : Nat} {I : Nat → Nat → Int32} {J : Nat → Nat → Int64} {R : Nat → Nat → Option Nat} {Q : Option Value → ow_H → Prop} {o : Nat} {p1 : Int32} (ho : o ∈ [3, 15, 29, 33, 42, 47, 57]) (hR : ow_RF R) (T : ((p1 < 0 → Q (some (.int 0)) (85, I, J, R)) ∧ (¬ p1 < 0 → (((I o 0) ≤ p1 → Q (some (.int 0)) (85, I, J, R)) ∧ (¬ (I o 0) ≤ p1 → Q (some (.int 1)) (85, I, J, R)))))) : ow_AM M_Scene_has (d + 1) [.ref o, .int p1] (85, I, J, R) Q := by
  refine ow_enter (by decide) (Nat.le_of_ble_eq_true rfl) ?_
  show ow_AW ow_Y0 (ow_Z Q) M_Scene_has (d + 1) 0 0 0 [(0, .ref o), (1, .int p1)] [] (85, I, J, R) 0 0
  obtain ⟨o_lt, o_kd, o_r3, o_r4, o_r5, o_k1, o_k2, o_k3, o_n1, o_n2, o_n3⟩ := ow_sc_ok o ho
  refine ow_iload_n 1 rfl d_Scene_has_0 ?_
  refine ow_if_lt (tgt := 16) d_Scene_has_1 (by decide) (fun c => ?_) (fun c => ?_)
  · replace T := T.1 c
    refine ow_iconst (v := 0) (by decide) d_Scene_has_16 ?_
    exact ow_zret d_Scene_has_17 rfl (by decide) T
  · replace T := T.2 c
    refine ow_iload_n 1 rfl d_Scene_has_4 ?_
    refine ow_aload_n 0 rfl d_Scene_has_5 ?_
    refine ow_gI 0 d_Scene_has_6 rfl rfl (by omega) o_kd (Or.inl rfl) ?_
    refine ow_icmp_ge (tgt := 16) d_Scene_has_9 (by decide) (fun c => ?_) (fun c => ?_)
    · replace T := T.1 c
      refine ow_iconst (v := 0) (by decide) d_Scene_has_16 ?_
      exact ow_zret d_Scene_has_17 rfl (by decide) T
    · replace T := T.2 c
      refine ow_iconst (v := 1) (by decide) d_Scene_has_12 ?_
      refine ow_goto (tgt := 17) d_Scene_has_13 (by decide) ?_
      exact ow_zret d_Scene_has_17 rfl (by decide) T
set_option maxRecDepth 4000 in
theorem t_Scene_add {d : Nat} {I : Nat → Nat → Int32} {J : Nat → Nat → Int64} {R : Nat → Nat → Option Nat} {Q : Option Value → ow_H → Prop} {o : Nat} {p1 : Int32} {p2 : Int32} (ho : o ∈ [3, 15, 29, 33, 42, 47, 57]) (hR : ow_RF R) (T : ((6 ≤ (I o 0) → Q none (85, I, J, R)) ∧ (¬ 6 ≤ (I o 0) → (vp_in (I o 0) 6 ∧ (∀ (I5 : Nat → Nat → Int32), I5 = ow_u I (o + 1) ((I o 0).toNatClampNeg) p1 → (vp_in (I5 o 0) 6 ∧ (∀ (I6 : Nat → Nat → Int32), I6 = ow_u I5 (o + 2) ((I5 o 0).toNatClampNeg) p2 → (vp_in (I6 o 0) 6 ∧ (∀ (I7 : Nat → Nat → Int32), I7 = ow_u I6 (o + 3) ((I6 o 0).toNatClampNeg) (-2) → (∀ (I8 : Nat → Nat → Int32), I8 = ow_u I7 o 0 ((I7 o 0) + 1) → Q none (85, I8, J, R))))))))))) : ow_AM M_Scene_add (d + 1) [.ref o, .int p1, .int p2] (85, I, J, R) Q := by
  refine ow_enter (by decide) (Nat.le_of_ble_eq_true rfl) ?_
  show ow_AW ow_Y0 (ow_Z Q) M_Scene_add (d + 1) 0 0 0 [(0, .ref o), (1, .int p1), (2, .int p2)] [] (85, I, J, R) 0 0
  obtain ⟨o_lt, o_kd, o_r3, o_r4, o_r5, o_k1, o_k2, o_k3, o_n1, o_n2, o_n3⟩ := ow_sc_ok o ho
  refine ow_aload_n 0 rfl d_Scene_add_0 ?_
  refine ow_gI 0 d_Scene_add_1 rfl rfl (by omega) o_kd (Or.inl rfl) ?_
  refine ow_bipush (v := 6) (by decide) d_Scene_add_4 ?_
  refine ow_icmp_ge (tgt := 50) d_Scene_add_6 (by decide) (fun c => ?_) (fun c => ?_)
  · replace T := T.1 c
    exact ow_vret d_Scene_add_50 rfl T
  · replace T := T.2 c
    refine ow_aload_n 0 rfl d_Scene_add_9 ?_
    refine ow_gR (a := o + 1) 13 d_Scene_add_10 rfl rfl (by omega) o_kd ⟨rfl, (hR _ _ (fun q => absurd q.2 (by decide))).trans o_r3⟩ ?_
    refine ow_aload_n 0 rfl d_Scene_add_13 ?_
    refine ow_gI 0 d_Scene_add_14 rfl rfl (by omega) o_kd (Or.inl rfl) ?_
    refine ow_iload_n 1 rfl d_Scene_add_17 ?_
    obtain ⟨cI, T⟩ := T
    refine ow_hiastore d_Scene_add_18 (by omega) o_k1 o_n1 cI ?_
    obtain ⟨I5, eI5⟩ : ∃ uu, uu = ow_u I (o + 1) ((I o 0).toNatClampNeg) p1 := ⟨_, rfl⟩
    replace T := T I5 eI5
    rw [← eI5]
    refine ow_aload_n 0 rfl d_Scene_add_19 ?_
    refine ow_gR (a := o + 2) 16 d_Scene_add_20 rfl rfl (by omega) o_kd ⟨rfl, (hR _ _ (fun q => absurd q.2 (by decide))).trans o_r4⟩ ?_
    refine ow_aload_n 0 rfl d_Scene_add_23 ?_
    refine ow_gI 0 d_Scene_add_24 rfl rfl (by omega) o_kd (Or.inl rfl) ?_
    refine ow_iload_n 2 rfl d_Scene_add_27 ?_
    obtain ⟨cI, T⟩ := T
    refine ow_hiastore d_Scene_add_28 (by omega) o_k2 o_n2 cI ?_
    obtain ⟨I6, eI6⟩ : ∃ uu, uu = ow_u I5 (o + 2) ((I5 o 0).toNatClampNeg) p2 := ⟨_, rfl⟩
    replace T := T I6 eI6
    rw [← eI6]
    refine ow_aload_n 0 rfl d_Scene_add_29 ?_
    refine ow_gR (a := o + 3) 21 d_Scene_add_30 rfl rfl (by omega) o_kd ⟨rfl, (hR _ _ (fun q => absurd q.2 (by decide))).trans o_r5⟩ ?_
    refine ow_aload_n 0 rfl d_Scene_add_33 ?_
    refine ow_gI 0 d_Scene_add_34 rfl rfl (by omega) o_kd (Or.inl rfl) ?_
    refine ow_bipush (v := (-2)) (by decide) d_Scene_add_37 ?_
    obtain ⟨cI, T⟩ := T
    refine ow_hiastore d_Scene_add_39 (by omega) o_k3 o_n3 cI ?_
    obtain ⟨I7, eI7⟩ : ∃ uu, uu = ow_u I6 (o + 3) ((I6 o 0).toNatClampNeg) (-2) := ⟨_, rfl⟩
    replace T := T I7 eI7
    rw [← eI7]
    refine ow_aload_n 0 rfl d_Scene_add_40 ?_
    refine ow_dup rfl d_Scene_add_41 ?_
    refine ow_gI 0 d_Scene_add_42 rfl rfl (by omega) o_kd (Or.inl rfl) ?_
    refine ow_iconst (v := 1) (by decide) d_Scene_add_45 ?_
    refine ow_iadd d_Scene_add_46 ?_
    refine ow_pI 0 d_Scene_add_47 rfl rfl (by omega) o_kd rfl rfl ?_
    obtain ⟨I8, eI8⟩ : ∃ uu, uu = ow_u I7 o 0 ((I7 o 0) + 1) := ⟨_, rfl⟩
    replace T := T I8 eI8
    rw [← eI8]
    exact ow_vret d_Scene_add_50 rfl T
set_option maxRecDepth 4000 in
theorem t_Scene_take_26 {d : Nat} {I : Nat → Nat → Int32} {J : Nat → Nat → Int64} {R : Nat → Nat → Option Nat} {Q : Option Value → ow_H → Prop} {o : Nat} {q : Nat} {v2 : Int32} (ho : o ∈ [3, 15, 29, 33, 42, 47, 57]) (hq : q ∈ [3, 15, 29, 33, 42, 47, 57]) (hR : ow_RF R) (T : ((6 ≤ v2 → Q none (85, I, J, R)) ∧ (¬ 6 ≤ v2 → (vp_in v2 6 ∧ (vp_in v2 6 ∧ (∀ (I4 : Nat → Nat → Int32), I4 = ow_u I (o + 1) (v2.toNatClampNeg) (I (q + 1) v2.toNatClampNeg) → (vp_in v2 6 ∧ (vp_in v2 6 ∧ (∀ (I5 : Nat → Nat → Int32), I5 = ow_u I4 (o + 2) (v2.toNatClampNeg) (I4 (q + 2) v2.toNatClampNeg) → (vp_in v2 6 ∧ (vp_in v2 6 ∧ (∀ (I6 : Nat → Nat → Int32), I6 = ow_u I5 (o + 3) (v2.toNatClampNeg) (I5 (q + 3) v2.toNatClampNeg) → ow_AW ow_Y0 (ow_Z Q) M_Scene_take (d + 1) 0 0 26 [(0, .ref o), (1, .ref q), (2, .int (v2 + 1))] [] (85, I6, J, R) 0 0)))))))))))) : ow_AW ow_Y0 (ow_Z Q) M_Scene_take (d + 1) 0 0 26 [(0, .ref o), (1, .ref q), (2, .int v2)] [] (85, I, J, R) 0 0 := by
  obtain ⟨o_lt, o_kd, o_r3, o_r4, o_r5, o_k1, o_k2, o_k3, o_n1, o_n2, o_n3⟩ := ow_sc_ok o ho
  obtain ⟨q_lt, q_kd, q_r3, q_r4, q_r5, q_k1, q_k2, q_k3, q_n1, q_n2, q_n3⟩ := ow_sc_ok q hq
  refine ow_iload_n 2 rfl d_Scene_take_26 ?_
  refine ow_bipush (v := 6) (by decide) d_Scene_take_27 ?_
  refine ow_icmp_ge (tgt := 74) d_Scene_take_29 (by decide) (fun c => ?_) (fun c => ?_)
  · replace T := T.1 c
    exact ow_vret d_Scene_take_74 rfl T
  · replace T := T.2 c
    refine ow_aload_n 0 rfl d_Scene_take_32 ?_
    refine ow_gR (a := o + 1) 13 d_Scene_take_33 rfl rfl (by omega) o_kd ⟨rfl, (hR _ _ (fun q => absurd q.2 (by decide))).trans o_r3⟩ ?_
    refine ow_iload_n 2 rfl d_Scene_take_36 ?_
    refine ow_aload_n 1 rfl d_Scene_take_37 ?_
    refine ow_gR (a := q + 1) 13 d_Scene_take_38 rfl rfl (by omega) q_kd ⟨rfl, (hR _ _ (fun q => absurd q.2 (by decide))).trans q_r3⟩ ?_
    refine ow_iload_n 2 rfl d_Scene_take_41 ?_
    obtain ⟨cI, T⟩ := T
    refine ow_hiaload d_Scene_take_42 (by omega) q_k1 q_n1 cI ?_
    obtain ⟨cI, T⟩ := T
    refine ow_hiastore d_Scene_take_43 (by omega) o_k1 o_n1 cI ?_
    obtain ⟨I4, eI4⟩ : ∃ uu, uu = ow_u I (o + 1) (v2.toNatClampNeg) (I (q + 1) v2.toNatClampNeg) := ⟨_, rfl⟩
    replace T := T I4 eI4
    rw [← eI4]
    refine ow_aload_n 0 rfl d_Scene_take_44 ?_
    refine ow_gR (a := o + 2) 16 d_Scene_take_45 rfl rfl (by omega) o_kd ⟨rfl, (hR _ _ (fun q => absurd q.2 (by decide))).trans o_r4⟩ ?_
    refine ow_iload_n 2 rfl d_Scene_take_48 ?_
    refine ow_aload_n 1 rfl d_Scene_take_49 ?_
    refine ow_gR (a := q + 2) 16 d_Scene_take_50 rfl rfl (by omega) q_kd ⟨rfl, (hR _ _ (fun q => absurd q.2 (by decide))).trans q_r4⟩ ?_
    refine ow_iload_n 2 rfl d_Scene_take_53 ?_
    obtain ⟨cI, T⟩ := T
    refine ow_hiaload d_Scene_take_54 (by omega) q_k2 q_n2 cI ?_
    obtain ⟨cI, T⟩ := T
    refine ow_hiastore d_Scene_take_55 (by omega) o_k2 o_n2 cI ?_
    obtain ⟨I5, eI5⟩ : ∃ uu, uu = ow_u I4 (o + 2) (v2.toNatClampNeg) (I4 (q + 2) v2.toNatClampNeg) := ⟨_, rfl⟩
    replace T := T I5 eI5
    rw [← eI5]
    refine ow_aload_n 0 rfl d_Scene_take_56 ?_
    refine ow_gR (a := o + 3) 21 d_Scene_take_57 rfl rfl (by omega) o_kd ⟨rfl, (hR _ _ (fun q => absurd q.2 (by decide))).trans o_r5⟩ ?_
    refine ow_iload_n 2 rfl d_Scene_take_60 ?_
    refine ow_aload_n 1 rfl d_Scene_take_61 ?_
    refine ow_gR (a := q + 3) 21 d_Scene_take_62 rfl rfl (by omega) q_kd ⟨rfl, (hR _ _ (fun q => absurd q.2 (by decide))).trans q_r5⟩ ?_
    refine ow_iload_n 2 rfl d_Scene_take_65 ?_
    obtain ⟨cI, T⟩ := T
    refine ow_hiaload d_Scene_take_66 (by omega) q_k3 q_n3 cI ?_
    obtain ⟨cI, T⟩ := T
    refine ow_hiastore d_Scene_take_67 (by omega) o_k3 o_n3 cI ?_
    obtain ⟨I6, eI6⟩ : ∃ uu, uu = ow_u I5 (o + 3) (v2.toNatClampNeg) (I5 (q + 3) v2.toNatClampNeg) := ⟨_, rfl⟩
    replace T := T I6 eI6
    rw [← eI6]
    refine ow_iinc 2 (v := (v2 + 1)) (ls2 := [(2, .int (v2 + 1)), (0, .ref o), (1, .ref q)]) d_Scene_take_68 rfl rfl (by decide) rfl ?_
    refine ow_goto (tgt := 26) d_Scene_take_71 (by decide) ?_
    refine ow_sub [1, 2, 0] rfl ?_
    exact T
set_option maxRecDepth 4000 in
theorem t_Scene_take {d : Nat} {I : Nat → Nat → Int32} {J : Nat → Nat → Int64} {R : Nat → Nat → Option Nat} {Q : Option Value → ow_H → Prop} {o : Nat} {q : Nat} (ho : o ∈ [3, 15, 29, 33, 42, 47, 57]) (hq : q ∈ [3, 15, 29, 33, 42, 47, 57]) (hR : ow_RF R) (T : (∀ (I7 : Nat → Nat → Int32), I7 = ow_u I o 0 (I q 0) → (∀ (I8 : Nat → Nat → Int32), I8 = ow_u I7 o 1 (I7 q 1) → (∀ (I9 : Nat → Nat → Int32), I9 = ow_u I8 o 2 (I8 q 2) → ow_AW ow_Y0 (ow_Z Q) M_Scene_take (d + 1) 0 0 26 [(0, .ref o), (1, .ref q), (2, .int 0)] [] (85, I9, J, R) 0 0)))) : ow_AM M_Scene_take (d + 1) [.ref o, .ref q] (85, I, J, R) Q := by
  refine ow_enter (by decide) (Nat.le_of_ble_eq_true rfl) ?_
  show ow_AW ow_Y0 (ow_Z Q) M_Scene_take (d + 1) 0 0 0 [(0, .ref o), (1, .ref q)] [] (85, I, J, R) 0 0
  obtain ⟨o_lt, o_kd, o_r3, o_r4, o_r5, o_k1, o_k2, o_k3, o_n1, o_n2, o_n3⟩ := ow_sc_ok o ho
  obtain ⟨q_lt, q_kd, q_r3, q_r4, q_r5, q_k1, q_k2, q_k3, q_n1, q_n2, q_n3⟩ := ow_sc_ok q hq
  refine ow_aload_n 0 rfl d_Scene_take_0 ?_
  refine ow_aload_n 1 rfl d_Scene_take_1 ?_
  refine ow_gI 0 d_Scene_take_2 rfl rfl (by omega) q_kd (Or.inl rfl) ?_
  refine ow_pI 0 d_Scene_take_5 rfl rfl (by omega) o_kd rfl rfl ?_
  obtain ⟨I7, eI7⟩ : ∃ uu, uu = ow_u I o 0 (I q 0) := ⟨_, rfl⟩
  replace T := T I7 eI7
  rw [← eI7]
  refine ow_aload_n 0 rfl d_Scene_take_8 ?_
  refine ow_aload_n 1 rfl d_Scene_take_9 ?_
  refine ow_gI 6 d_Scene_take_10 rfl rfl (by omega) q_kd (Or.inl rfl) ?_
  refine ow_pI 6 d_Scene_take_13 rfl rfl (by omega) o_kd rfl rfl ?_
  obtain ⟨I8, eI8⟩ : ∃ uu, uu = ow_u I7 o 1 (I7 q 1) := ⟨_, rfl⟩
  replace T := T I8 eI8
  rw [← eI8]
  refine ow_aload_n 0 rfl d_Scene_take_16 ?_
  refine ow_aload_n 1 rfl d_Scene_take_17 ?_
  refine ow_gI 9 d_Scene_take_18 rfl rfl (by omega) q_kd (Or.inl rfl) ?_
  refine ow_pI 9 d_Scene_take_21 rfl rfl (by omega) o_kd rfl rfl ?_
  obtain ⟨I9, eI9⟩ : ∃ uu, uu = ow_u I8 o 2 (I8 q 2) := ⟨_, rfl⟩
  replace T := T I9 eI9
  rw [← eI9]
  refine ow_iconst (v := 0) (by decide) d_Scene_take_24 ?_
  refine ow_istore_n (ls2 := [(2, .int 0), (0, .ref o), (1, .ref q)]) d_Scene_take_25 (by decide) rfl ?_
  refine ow_sub [1, 2, 0] rfl ?_
  exact T
set_option maxRecDepth 4000 in
theorem t_Scene_reply {d : Nat} {I : Nat → Nat → Int32} {J : Nat → Nat → Int64} {R : Nat → Nat → Option Nat} {Q : Option Value → ow_H → Prop} {o : Nat} {p1 : Int32} {p2 : Int32} (ho : o ∈ [3, 15, 29, 33, 42, 47, 57]) (hR : ow_RF R) (T : ((p1 < 0 → Q (some (.int (-2))) (85, I, J, R)) ∧ (¬ p1 < 0 → (((I o 0) ≤ p1 → Q (some (.int (-2))) (85, I, J, R)) ∧ (¬ (I o 0) ≤ p1 → (vp_in p1 6 ∧ ((¬ (I (o + 2) p1.toNatClampNeg) = 0 → (((((I o 2) >>> (p1 &&& 31)) &&& 1) = 0 → (vp_in p1 6 ∧ (((I (o + 1) p1.toNatClampNeg) = 0 → Q (some (.int p2)) (85, I, J, R)) ∧ (((I (o + 1) p1.toNatClampNeg) = 1 → Q (some (.int (1 - p2))) (85, I, J, R)) ∧ (((I (o + 1) p1.toNatClampNeg) = 2 → Q (some (.int 1)) (85, I, J, R)) ∧ (((I (o + 1) p1.toNatClampNeg) = 3 → ((¬ ((I o 1) &&& 1) = 0 → Q (some (.int (1 - p2))) (85, I, J, R)) ∧ (((I o 1) &&& 1) = 0 → Q (some (.int p2)) (85, I, J, R)))) ∧ (¬ (I (o + 1) p1.toNatClampNeg) = 0 ∧ ¬ (I (o + 1) p1.toNatClampNeg) = 1 ∧ ¬ (I (o + 1) p1.toNatClampNeg) = 2 ∧ ¬ (I (o + 1) p1.toNatClampNeg) = 3 → Q (some (.int (-2))) (85, I, J, R)))))))) ∧ (¬ (((I o 2) >>> (p1 &&& 31)) &&& 1) = 0 → Q (some (.int 0)) (85, I, J, R)))) ∧ ((I (o + 2) p1.toNatClampNeg) = 0 → Q (some (.int (-2))) (85, I, J, R))))))))) : ow_AM M_Scene_reply (d + 1) [.ref o, .int p1, .int p2] (85, I, J, R) Q := by
  refine ow_enter (by decide) (Nat.le_of_ble_eq_true rfl) ?_
  show ow_AW ow_Y0 (ow_Z Q) M_Scene_reply (d + 1) 0 0 0 [(0, .ref o), (1, .int p1), (2, .int p2)] [] (85, I, J, R) 0 0
  obtain ⟨o_lt, o_kd, o_r3, o_r4, o_r5, o_k1, o_k2, o_k3, o_n1, o_n2, o_n3⟩ := ow_sc_ok o ho
  refine ow_iload_n 1 rfl d_Scene_reply_0 ?_
  refine ow_if_lt (tgt := 21) d_Scene_reply_1 (by decide) (fun c => ?_) (fun c => ?_)
  · replace T := T.1 c
    refine ow_bipush (v := (-2)) (by decide) d_Scene_reply_21 ?_
    exact ow_iret d_Scene_reply_23 rfl T
  · replace T := T.2 c
    refine ow_iload_n 1 rfl d_Scene_reply_4 ?_
    refine ow_aload_n 0 rfl d_Scene_reply_5 ?_
    refine ow_gI 0 d_Scene_reply_6 rfl rfl (by omega) o_kd (Or.inl rfl) ?_
    refine ow_icmp_ge (tgt := 21) d_Scene_reply_9 (by decide) (fun c => ?_) (fun c => ?_)
    · replace T := T.1 c
      refine ow_bipush (v := (-2)) (by decide) d_Scene_reply_21 ?_
      exact ow_iret d_Scene_reply_23 rfl T
    · replace T := T.2 c
      refine ow_aload_n 0 rfl d_Scene_reply_12 ?_
      refine ow_gR (a := o + 2) 16 d_Scene_reply_13 rfl rfl (by omega) o_kd ⟨rfl, (hR _ _ (fun q => absurd q.2 (by decide))).trans o_r4⟩ ?_
      refine ow_iload_n 1 rfl d_Scene_reply_16 ?_
      obtain ⟨cI, T⟩ := T
      refine ow_hiaload d_Scene_reply_17 (by omega) o_k2 o_n2 cI ?_
      refine ow_if_ne (tgt := 24) d_Scene_reply_18 (by decide) (fun c => ?_) (fun c => ?_)
      · replace T := T.1 c
        refine ow_aload_n 0 rfl d_Scene_reply_24 ?_
        refine ow_gI 9 d_Scene_reply_25 rfl rfl (by omega) o_kd (Or.inl rfl) ?_
        refine ow_iload_n 1 rfl d_Scene_reply_28 ?_
        refine ow_ishr d_Scene_reply_29 ?_
        refine ow_iconst (v := 1) (by decide) d_Scene_reply_30 ?_
        refine ow_iand d_Scene_reply_31 ?_
        refine ow_if_eq (tgt := 37) d_Scene_reply_32 (by decide) (fun c => ?_) (fun c => ?_)
        · replace T := T.1 c
          refine ow_aload_n 0 rfl d_Scene_reply_37 ?_
          refine ow_gR (a := o + 1) 13 d_Scene_reply_38 rfl rfl (by omega) o_kd ⟨rfl, (hR _ _ (fun q => absurd q.2 (by decide))).trans o_r3⟩ ?_
          refine ow_iload_n 1 rfl d_Scene_reply_41 ?_
          obtain ⟨cI, T⟩ := T
          refine ow_hiaload d_Scene_reply_42 (by omega) o_k1 o_n1 cI ?_
          by_cases c0 : (I (o + 1) p1.toNatClampNeg) = 0
          · replace T := T.1 c0
            refine ow_tabIn (off := 29) (tgt := 72) d_Scene_reply_43 (by rw [c0]; decide) (by rw [c0]; decide) (by rw [c0]; rfl) (by decide) ?_
            refine ow_iload_n 2 rfl d_Scene_reply_72 ?_
            exact ow_iret d_Scene_reply_73 rfl T
          replace T := T.2
          by_cases c1 : (I (o + 1) p1.toNatClampNeg) = 1
          · replace T := T.1 c1
            refine ow_tabIn (off := 31) (tgt := 74) d_Scene_reply_43 (by rw [c1]; decide) (by rw [c1]; decide) (by rw [c1]; rfl) (by decide) ?_
            refine ow_iconst (v := 1) (by decide) d_Scene_reply_74 ?_
            refine ow_iload_n 2 rfl d_Scene_reply_75 ?_
            refine ow_isub d_Scene_reply_76 ?_
            exact ow_iret d_Scene_reply_77 rfl T
          replace T := T.2
          by_cases c2 : (I (o + 1) p1.toNatClampNeg) = 2
          · replace T := T.1 c2
            refine ow_tabIn (off := 35) (tgt := 78) d_Scene_reply_43 (by rw [c2]; decide) (by rw [c2]; decide) (by rw [c2]; rfl) (by decide) ?_
            refine ow_iconst (v := 1) (by decide) d_Scene_reply_78 ?_
            exact ow_iret d_Scene_reply_79 rfl T
          replace T := T.2
          by_cases c3 : (I (o + 1) p1.toNatClampNeg) = 3
          · replace T := T.1 c3
            refine ow_tabIn (off := 37) (tgt := 80) d_Scene_reply_43 (by rw [c3]; decide) (by rw [c3]; decide) (by rw [c3]; rfl) (by decide) ?_
            refine ow_aload_n 0 rfl d_Scene_reply_80 ?_
            refine ow_gI 6 d_Scene_reply_81 rfl rfl (by omega) o_kd (Or.inl rfl) ?_
            refine ow_iconst (v := 1) (by decide) d_Scene_reply_84 ?_
            refine ow_iand d_Scene_reply_85 ?_
            refine ow_if_ne (tgt := 93) d_Scene_reply_86 (by decide) (fun c => ?_) (fun c => ?_)
            · replace T := T.1 c
              refine ow_iconst (v := 1) (by decide) d_Scene_reply_93 ?_
              refine ow_iload_n 2 rfl d_Scene_reply_94 ?_
              refine ow_isub d_Scene_reply_95 ?_
              exact ow_iret d_Scene_reply_96 rfl T
            · replace T := T.2 c
              refine ow_iload_n 2 rfl d_Scene_reply_89 ?_
              refine ow_goto (tgt := 96) d_Scene_reply_90 (by decide) ?_
              exact ow_iret d_Scene_reply_96 rfl T
          replace T := T.2
          replace T := T ⟨c0, c1, c2, c3⟩
          replace c0 := ow_ne (z := 0) c0 rfl
          replace c1 := ow_ne (z := 1) c1 rfl
          replace c2 := ow_ne (z := 2) c2 rfl
          replace c3 := ow_ne (z := 3) c3 rfl
          refine ow_tabOut (tgt := 97) d_Scene_reply_43 (by omega) (by decide) ?_
          refine ow_bipush (v := (-2)) (by decide) d_Scene_reply_97 ?_
          exact ow_iret d_Scene_reply_99 rfl T
        · replace T := T.2 c
          refine ow_iconst (v := 0) (by decide) d_Scene_reply_35 ?_
          exact ow_iret d_Scene_reply_36 rfl T
      · replace T := T.2 c
        refine ow_bipush (v := (-2)) (by decide) d_Scene_reply_21 ?_
        exact ow_iret d_Scene_reply_23 rfl T
set_option maxRecDepth 4000 in
theorem t_Scene_age_12 {d : Nat} {I : Nat → Nat → Int32} {J : Nat → Nat → Int64} {R : Nat → Nat → Option Nat} {Q : Option Value → ow_H → Prop} {o : Nat} {v1 : Int32} {v2 : Int32} {v3 : Int32} (ho : o ∈ [3, 15, 29, 33, 42, 47, 57]) (hR : ow_RF R) (T : (((I o 0) ≤ v3 → Q none (85, I, J, R)) ∧ (¬ (I o 0) ≤ v3 → (vp_in v3 6 ∧ (vp_in v3 6 ∧ (∀ (I2 : Nat → Nat → Int32), I2 = ow_u I (o + 2) (v3.toNatClampNeg) (if 0 < ((I (o + 2) v3.toNatClampNeg) - (v1 * v2)) then ((I (o + 2) v3.toNatClampNeg) - (v1 * v2)) else 0) → ow_AW ow_Y0 (ow_Z Q) M_Scene_age (d + 1) 0 0 12 [(0, .ref o), (1, .int v1), (2, .int v2), (3, .int (v3 + 1))] [] (85, I2, J, R) 0 0)))))) : ow_AW ow_Y0 (ow_Z Q) M_Scene_age (d + 1) 0 0 12 [(0, .ref o), (1, .int v1), (2, .int v2), (3, .int v3)] [] (85, I, J, R) 0 0 := by
  obtain ⟨o_lt, o_kd, o_r3, o_r4, o_r5, o_k1, o_k2, o_k3, o_n1, o_n2, o_n3⟩ := ow_sc_ok o ho
  refine ow_iload_n 3 rfl d_Scene_age_12 ?_
  refine ow_aload_n 0 rfl d_Scene_age_13 ?_
  refine ow_gI 0 d_Scene_age_14 rfl rfl (by omega) o_kd (Or.inl rfl) ?_
  refine ow_icmp_ge (tgt := 46) d_Scene_age_17 (by decide) (fun c => ?_) (fun c => ?_)
  · replace T := T.1 c
    exact ow_vret d_Scene_age_46 rfl T
  · replace T := T.2 c
    refine ow_aload_n 0 rfl d_Scene_age_20 ?_
    refine ow_gR (a := o + 2) 16 d_Scene_age_21 rfl rfl (by omega) o_kd ⟨rfl, (hR _ _ (fun q => absurd q.2 (by decide))).trans o_r4⟩ ?_
    refine ow_iload_n 3 rfl d_Scene_age_24 ?_
    refine ow_iconst (v := 0) (by decide) d_Scene_age_25 ?_
    refine ow_aload_n 0 rfl d_Scene_age_26 ?_
    refine ow_gR (a := o + 2) 16 d_Scene_age_27 rfl rfl (by omega) o_kd ⟨rfl, (hR _ _ (fun q => absurd q.2 (by decide))).trans o_r4⟩ ?_
    refine ow_iload_n 3 rfl d_Scene_age_30 ?_
    obtain ⟨cI, T⟩ := T
    refine ow_hiaload d_Scene_age_31 (by omega) o_k2 o_n2 cI ?_
    refine ow_iload_n 1 rfl d_Scene_age_32 ?_
    refine ow_iload_n 2 rfl d_Scene_age_33 ?_
    refine ow_imul d_Scene_age_34 ?_
    refine ow_isub d_Scene_age_35 ?_
    refine ow_mmax d_Scene_age_36 l_Scene_31 (Nat.succ_le_succ (Nat.zero_le _)) (Nat.le_of_ble_eq_true rfl) ⟨Nat.le_refl _, Nat.le_refl _⟩ ?_
    obtain ⟨cI, T⟩ := T
    refine ow_hiastore d_Scene_age_39 (by omega) o_k2 o_n2 cI ?_
    obtain ⟨I2, eI2⟩ : ∃ uu, uu = ow_u I (o + 2) (v3.toNatClampNeg) (if 0 < ((I (o + 2) v3.toNatClampNeg) - (v1 * v2)) then ((I (o + 2) v3.toNatClampNeg) - (v1 * v2)) else 0) := ⟨_, rfl⟩
    replace T := T I2 eI2
    rw [← eI2]
    refine ow_iinc 3 (v := (v3 + 1)) (ls2 := [(3, .int (v3 + 1)), (0, .ref o), (1, .int v1), (2, .int v2)]) d_Scene_age_40 rfl rfl (by decide) rfl ?_
    refine ow_goto (tgt := 12) d_Scene_age_43 (by decide) ?_
    refine ow_sub [1, 2, 3, 0] rfl ?_
    exact T
set_option maxRecDepth 4000 in
theorem t_Scene_age {d : Nat} {I : Nat → Nat → Int32} {J : Nat → Nat → Int64} {R : Nat → Nat → Option Nat} {Q : Option Value → ow_H → Prop} {o : Nat} {p1 : Int32} {p2 : Int32} (ho : o ∈ [3, 15, 29, 33, 42, 47, 57]) (hR : ow_RF R) (T : (∀ (I3 : Nat → Nat → Int32), I3 = ow_u I o 1 ((I o 1) + p2) → ow_AW ow_Y0 (ow_Z Q) M_Scene_age (d + 1) 0 0 12 [(0, .ref o), (1, .int p1), (2, .int p2), (3, .int 0)] [] (85, I3, J, R) 0 0)) : ow_AM M_Scene_age (d + 1) [.ref o, .int p1, .int p2] (85, I, J, R) Q := by
  refine ow_enter (by decide) (Nat.le_of_ble_eq_true rfl) ?_
  show ow_AW ow_Y0 (ow_Z Q) M_Scene_age (d + 1) 0 0 0 [(0, .ref o), (1, .int p1), (2, .int p2)] [] (85, I, J, R) 0 0
  obtain ⟨o_lt, o_kd, o_r3, o_r4, o_r5, o_k1, o_k2, o_k3, o_n1, o_n2, o_n3⟩ := ow_sc_ok o ho
  refine ow_aload_n 0 rfl d_Scene_age_0 ?_
  refine ow_dup rfl d_Scene_age_1 ?_
  refine ow_gI 6 d_Scene_age_2 rfl rfl (by omega) o_kd (Or.inl rfl) ?_
  refine ow_iload_n 2 rfl d_Scene_age_5 ?_
  refine ow_iadd d_Scene_age_6 ?_
  refine ow_pI 6 d_Scene_age_7 rfl rfl (by omega) o_kd rfl rfl ?_
  obtain ⟨I3, eI3⟩ : ∃ uu, uu = ow_u I o 1 ((I o 1) + p2) := ⟨_, rfl⟩
  replace T := T I3 eI3
  rw [← eI3]
  refine ow_iconst (v := 0) (by decide) d_Scene_age_10 ?_
  refine ow_istore_n (ls2 := [(3, .int 0), (0, .ref o), (1, .int p1), (2, .int p2)]) d_Scene_age_11 (by decide) rfl ?_
  refine ow_sub [1, 2, 3, 0] rfl ?_
  exact T
set_option maxRecDepth 4000 in
theorem t_Scene_bitsSound_4 {d : Nat} {I : Nat → Nat → Int32} {J : Nat → Nat → Int64} {R : Nat → Nat → Option Nat} {Q : Option Value → ow_H → Prop} {o : Nat} {v1 : Int32} {v2 : Int32} (ho : o ∈ [3, 15, 29, 33, 42, 47, 57]) (hR : ow_RF R) (T : (((I o 0) ≤ v2 → Q (some (.int v1)) (85, I, J, R)) ∧ (¬ (I o 0) ≤ v2 → (vp_in v2 6 ∧ (((I (o + 2) v2.toNatClampNeg) ≤ 0 → ow_AW ow_Y0 (ow_Z Q) M_Scene_bitsSound (d + 1) 0 0 4 [(0, .ref o), (1, .int v1), (2, .int (v2 + 1))] [] (85, I, J, R) 0 0) ∧ (¬ (I (o + 2) v2.toNatClampNeg) ≤ 0 → ow_AW ow_Y0 (ow_Z Q) M_Scene_bitsSound (d + 1) 0 0 4 [(0, .ref o), (1, .int (v1 ||| ((1 : Int32) <<< (v2 &&& 31)))), (2, .int (v2 + 1))] [] (85, I, J, R) 0 0)))))) : ow_AW ow_Y0 (ow_Z Q) M_Scene_bitsSound (d + 1) 0 0 4 [(0, .ref o), (1, .int v1), (2, .int v2)] [] (85, I, J, R) 0 0 := by
  obtain ⟨o_lt, o_kd, o_r3, o_r4, o_r5, o_k1, o_k2, o_k3, o_n1, o_n2, o_n3⟩ := ow_sc_ok o ho
  refine ow_iload_n 2 rfl d_Scene_bitsSound_4 ?_
  refine ow_aload_n 0 rfl d_Scene_bitsSound_5 ?_
  refine ow_gI 0 d_Scene_bitsSound_6 rfl rfl (by omega) o_kd (Or.inl rfl) ?_
  refine ow_icmp_ge (tgt := 33) d_Scene_bitsSound_9 (by decide) (fun c => ?_) (fun c => ?_)
  · replace T := T.1 c
    refine ow_iload_n 1 rfl d_Scene_bitsSound_33 ?_
    exact ow_iret d_Scene_bitsSound_34 rfl T
  · replace T := T.2 c
    refine ow_aload_n 0 rfl d_Scene_bitsSound_12 ?_
    refine ow_gR (a := o + 2) 16 d_Scene_bitsSound_13 rfl rfl (by omega) o_kd ⟨rfl, (hR _ _ (fun q => absurd q.2 (by decide))).trans o_r4⟩ ?_
    refine ow_iload_n 2 rfl d_Scene_bitsSound_16 ?_
    obtain ⟨cI, T⟩ := T
    refine ow_hiaload d_Scene_bitsSound_17 (by omega) o_k2 o_n2 cI ?_
    refine ow_if_le (tgt := 27) d_Scene_bitsSound_18 (by decide) (fun c => ?_) (fun c => ?_)
    · replace T := T.1 c
      refine ow_iinc 2 (v := (v2 + 1)) (ls2 := [(2, .int (v2 + 1)), (0, .ref o), (1, .int v1)]) d_Scene_bitsSound_27 rfl rfl (by decide) rfl ?_
      refine ow_goto (tgt := 4) d_Scene_bitsSound_30 (by decide) ?_
      refine ow_sub [1, 2, 0] rfl ?_
      exact T
    · replace T := T.2 c
      refine ow_iload_n 1 rfl d_Scene_bitsSound_21 ?_
      refine ow_iconst (v := 1) (by decide) d_Scene_bitsSound_22 ?_
      refine ow_iload_n 2 rfl d_Scene_bitsSound_23 ?_
      refine ow_ishl d_Scene_bitsSound_24 ?_
      refine ow_ior d_Scene_bitsSound_25 ?_
      refine ow_istore_n (ls2 := [(1, .int (v1 ||| ((1 : Int32) <<< (v2 &&& 31)))), (0, .ref o), (2, .int v2)]) d_Scene_bitsSound_26 (by decide) rfl ?_
      refine ow_iinc 2 (v := (v2 + 1)) (ls2 := [(2, .int (v2 + 1)), (1, .int (v1 ||| ((1 : Int32) <<< (v2 &&& 31)))), (0, .ref o)]) d_Scene_bitsSound_27 rfl rfl (by decide) rfl ?_
      refine ow_goto (tgt := 4) d_Scene_bitsSound_30 (by decide) ?_
      refine ow_sub [2, 1, 0] rfl ?_
      exact T
set_option maxRecDepth 4000 in
theorem t_Scene_bitsSound {d : Nat} {I : Nat → Nat → Int32} {J : Nat → Nat → Int64} {R : Nat → Nat → Option Nat} {Q : Option Value → ow_H → Prop} {o : Nat} (ho : o ∈ [3, 15, 29, 33, 42, 47, 57]) (hR : ow_RF R) (T : ow_AW ow_Y0 (ow_Z Q) M_Scene_bitsSound (d + 1) 0 0 4 [(0, .ref o), (1, .int 0), (2, .int 0)] [] (85, I, J, R) 0 0) : ow_AM M_Scene_bitsSound (d + 1) [.ref o] (85, I, J, R) Q := by
  refine ow_enter (by decide) (Nat.le_of_ble_eq_true rfl) ?_
  show ow_AW ow_Y0 (ow_Z Q) M_Scene_bitsSound (d + 1) 0 0 0 [(0, .ref o)] [] (85, I, J, R) 0 0
  obtain ⟨o_lt, o_kd, o_r3, o_r4, o_r5, o_k1, o_k2, o_k3, o_n1, o_n2, o_n3⟩ := ow_sc_ok o ho
  refine ow_iconst (v := 0) (by decide) d_Scene_bitsSound_0 ?_
  refine ow_istore_n (ls2 := [(1, .int 0), (0, .ref o)]) d_Scene_bitsSound_1 (by decide) rfl ?_
  refine ow_iconst (v := 0) (by decide) d_Scene_bitsSound_2 ?_
  refine ow_istore_n (ls2 := [(2, .int 0), (1, .int 0), (0, .ref o)]) d_Scene_bitsSound_3 (by decide) rfl ?_
  refine ow_sub [2, 1, 0] rfl ?_
  exact T
set_option maxRecDepth 4000 in
theorem t_Scene_standBy_2 {d : Nat} {I : Nat → Nat → Int32} {J : Nat → Nat → Int64} {R : Nat → Nat → Option Nat} {Q : Option Value → ow_H → Prop} {o : Nat} {v1 : Int32} {v2 : Int32} (ho : o ∈ [3, 15, 29, 33, 42, 47, 57]) (hR : ow_RF R) (T : (((I o 0) ≤ v2 → Q none (85, I, J, R)) ∧ (¬ (I o 0) ≤ v2 → (vp_in v2 6 ∧ (∀ (I1 : Nat → Nat → Int32), I1 = ow_u I (o + 2) (v2.toNatClampNeg) ((v1 >>> (v2 &&& 31)) &&& 1) → ow_AW ow_Y0 (ow_Z Q) M_Scene_standBy (d + 1) 0 0 2 [(0, .ref o), (1, .int v1), (2, .int (v2 + 1))] [] (85, I1, J, R) 0 0))))) : ow_AW ow_Y0 (ow_Z Q) M_Scene_standBy (d + 1) 0 0 2 [(0, .ref o), (1, .int v1), (2, .int v2)] [] (85, I, J, R) 0 0 := by
  obtain ⟨o_lt, o_kd, o_r3, o_r4, o_r5, o_k1, o_k2, o_k3, o_n1, o_n2, o_n3⟩ := ow_sc_ok o ho
  refine ow_iload_n 2 rfl d_Scene_standBy_2 ?_
  refine ow_aload_n 0 rfl d_Scene_standBy_3 ?_
  refine ow_gI 0 d_Scene_standBy_4 rfl rfl (by omega) o_kd (Or.inl rfl) ?_
  refine ow_icmp_ge (tgt := 27) d_Scene_standBy_7 (by decide) (fun c => ?_) (fun c => ?_)
  · replace T := T.1 c
    exact ow_vret d_Scene_standBy_27 rfl T
  · replace T := T.2 c
    refine ow_aload_n 0 rfl d_Scene_standBy_10 ?_
    refine ow_gR (a := o + 2) 16 d_Scene_standBy_11 rfl rfl (by omega) o_kd ⟨rfl, (hR _ _ (fun q => absurd q.2 (by decide))).trans o_r4⟩ ?_
    refine ow_iload_n 2 rfl d_Scene_standBy_14 ?_
    refine ow_iload_n 1 rfl d_Scene_standBy_15 ?_
    refine ow_iload_n 2 rfl d_Scene_standBy_16 ?_
    refine ow_ishr d_Scene_standBy_17 ?_
    refine ow_iconst (v := 1) (by decide) d_Scene_standBy_18 ?_
    refine ow_iand d_Scene_standBy_19 ?_
    obtain ⟨cI, T⟩ := T
    refine ow_hiastore d_Scene_standBy_20 (by omega) o_k2 o_n2 cI ?_
    obtain ⟨I1, eI1⟩ : ∃ uu, uu = ow_u I (o + 2) (v2.toNatClampNeg) ((v1 >>> (v2 &&& 31)) &&& 1) := ⟨_, rfl⟩
    replace T := T I1 eI1
    rw [← eI1]
    refine ow_iinc 2 (v := (v2 + 1)) (ls2 := [(2, .int (v2 + 1)), (0, .ref o), (1, .int v1)]) d_Scene_standBy_21 rfl rfl (by decide) rfl ?_
    refine ow_goto (tgt := 2) d_Scene_standBy_24 (by decide) ?_
    refine ow_sub [1, 2, 0] rfl ?_
    exact T
set_option maxRecDepth 4000 in
theorem t_Scene_standBy {d : Nat} {I : Nat → Nat → Int32} {J : Nat → Nat → Int64} {R : Nat → Nat → Option Nat} {Q : Option Value → ow_H → Prop} {o : Nat} {p1 : Int32} (ho : o ∈ [3, 15, 29, 33, 42, 47, 57]) (hR : ow_RF R) (T : ow_AW ow_Y0 (ow_Z Q) M_Scene_standBy (d + 1) 0 0 2 [(0, .ref o), (1, .int p1), (2, .int 0)] [] (85, I, J, R) 0 0) : ow_AM M_Scene_standBy (d + 1) [.ref o, .int p1] (85, I, J, R) Q := by
  refine ow_enter (by decide) (Nat.le_of_ble_eq_true rfl) ?_
  show ow_AW ow_Y0 (ow_Z Q) M_Scene_standBy (d + 1) 0 0 0 [(0, .ref o), (1, .int p1)] [] (85, I, J, R) 0 0
  obtain ⟨o_lt, o_kd, o_r3, o_r4, o_r5, o_k1, o_k2, o_k3, o_n1, o_n2, o_n3⟩ := ow_sc_ok o ho
  refine ow_iconst (v := 0) (by decide) d_Scene_standBy_0 ?_
  refine ow_istore_n (ls2 := [(2, .int 0), (0, .ref o), (1, .int p1)]) d_Scene_standBy_1 (by decide) rfl ?_
  refine ow_sub [1, 2, 0] rfl ?_
  exact T
set_option maxRecDepth 4000 in
theorem t_Scene_aim {d : Nat} {I : Nat → Nat → Int32} {J : Nat → Nat → Int64} {R : Nat → Nat → Option Nat} {Q : Option Value → ow_H → Prop} {o : Nat} {p1 : Int32} {p2 : Int32} (ho : o ∈ [3, 15, 29, 33, 42, 47, 57]) (hR : ow_RF R) (T : (ow_AM M_Scene_has d [.ref o, .int p1] (85, I, J, R) (fun r h' => ∃ (r4 : Int32) (I4 : Nat → Nat → Int32) (J4 : Nat → Nat → Int64) (R4 : Nat → Nat → Option Nat), r = some (.int r4) ∧ h' = (85, I4, J4, R4) ∧ ow_RF R4 ∧ ((r4 = 0 → Q none (85, I4, J4, R4)) ∧ (¬ r4 = 0 → ((¬ p2 = p1 → (vp_in p1 6 ∧ (∀ (I5 : Nat → Nat → Int32), I5 = ow_u I4 (o + 3) (p1.toNatClampNeg) p2 → Q none (85, I5, J4, R4)))) ∧ (p2 = p1 → (vp_in p1 6 ∧ (∀ (I6 : Nat → Nat → Int32), I6 = ow_u I4 (o + 3) (p1.toNatClampNeg) (-2) → Q none (85, I6, J4, R4)))))))))) : ow_AM M_Scene_aim (d + 1) [.ref o, .int p1, .int p2] (85, I, J, R) Q := by
  refine ow_enter (by decide) (Nat.le_of_ble_eq_true rfl) ?_
  show ow_AW ow_Y0 (ow_Z Q) M_Scene_aim (d + 1) 0 0 0 [(0, .ref o), (1, .int p1), (2, .int p2)] [] (85, I, J, R) 0 0
  obtain ⟨o_lt, o_kd, o_r3, o_r4, o_r5, o_k1, o_k2, o_k3, o_n1, o_n2, o_n3⟩ := ow_sc_ok o ho
  refine ow_aload_n 0 rfl d_Scene_aim_0 ?_
  refine ow_iload_n 1 rfl d_Scene_aim_1 ?_
  refine ow_callV (b := o) (cq := 4) (As := [.int p1]) (rest := []) (d2 := d) d_Scene_aim_2 l_Scene_37 v_Scene_has (show o < 85 by omega) o_kd (by decide) rfl (Nat.le_of_ble_eq_true rfl) (Nat.le_refl _) ⟨Nat.le_refl _, Nat.le_refl _⟩ (ow_mono T ?_)
  rintro r h' ⟨r4, I4, J4, R4, rfl, rfl, hR4, T⟩
  show ow_AW ow_Y0 (ow_Z Q) M_Scene_aim (d + 1) 0 0 5 [(0, .ref o), (1, .int p1), (2, .int p2)] [.int r4] (85, I4, J4, R4) 0 0
  refine ow_if_eq (tgt := 25) d_Scene_aim_5 (by decide) (fun c => ?_) (fun c => ?_)
  · replace T := T.1 c
    exact ow_vret d_Scene_aim_25 rfl T
  · replace T := T.2 c
    refine ow_aload_n 0 rfl d_Scene_aim_8 ?_
    refine ow_gR (a := o + 3) 21 d_Scene_aim_9 rfl rfl (by omega) o_kd ⟨rfl, (hR4 _ _ (fun q => absurd q.2 (by decide))).trans o_r5⟩ ?_
    refine ow_iload_n 1 rfl d_Scene_aim_12 ?_
    refine ow_iload_n 2 rfl d_Scene_aim_13 ?_
    refine ow_iload_n 1 rfl d_Scene_aim_14 ?_
    refine ow_icmp_ne (tgt := 23) d_Scene_aim_15 (by decide) (fun c => ?_) (fun c => ?_)
    · replace T := T.1 c
      refine ow_iload_n 2 rfl d_Scene_aim_23 ?_
      obtain ⟨cI, T⟩ := T
      refine ow_hiastore d_Scene_aim_24 (by omega) o_k3 o_n3 cI ?_
      obtain ⟨I5, eI5⟩ : ∃ uu, uu = ow_u I4 (o + 3) (p1.toNatClampNeg) p2 := ⟨_, rfl⟩
      replace T := T I5 eI5
      rw [← eI5]
      exact ow_vret d_Scene_aim_25 rfl T
    · replace T := T.2 c
      refine ow_bipush (v := (-2)) (by decide) d_Scene_aim_18 ?_
      refine ow_goto (tgt := 24) d_Scene_aim_20 (by decide) ?_
      obtain ⟨cI, T⟩ := T
      refine ow_hiastore d_Scene_aim_24 (by omega) o_k3 o_n3 cI ?_
      obtain ⟨I6, eI6⟩ : ∃ uu, uu = ow_u I4 (o + 3) (p1.toNatClampNeg) (-2) := ⟨_, rfl⟩
      replace T := T I6 eI6
      rw [← eI6]
      exact ow_vret d_Scene_aim_25 rfl T
set_option maxRecDepth 4000 in
theorem t_Scene_countSending_4 {d : Nat} {I : Nat → Nat → Int32} {J : Nat → Nat → Int64} {R : Nat → Nat → Option Nat} {Q : Option Value → ow_H → Prop} {o : Nat} {v1 : Int32} {v2 : Int32} (ho : o ∈ [3, 15, 29, 33, 42, 47, 57]) (hR : ow_RF R) (T : (((I o 0) ≤ v2 → Q (some (.int v1)) (85, I, J, R)) ∧ (¬ (I o 0) ≤ v2 → (vp_in v2 6 ∧ (((I (o + 3) v2.toNatClampNeg) = (-2) → ow_AW ow_Y0 (ow_Z Q) M_Scene_countSending (d + 1) 0 0 4 [(0, .ref o), (1, .int v1), (2, .int (v2 + 1))] [] (85, I, J, R) 0 0) ∧ (¬ (I (o + 3) v2.toNatClampNeg) = (-2) → ow_AW ow_Y0 (ow_Z Q) M_Scene_countSending (d + 1) 0 0 4 [(0, .ref o), (1, .int (v1 + 1)), (2, .int (v2 + 1))] [] (85, I, J, R) 0 0)))))) : ow_AW ow_Y0 (ow_Z Q) M_Scene_countSending (d + 1) 0 0 4 [(0, .ref o), (1, .int v1), (2, .int v2)] [] (85, I, J, R) 0 0 := by
  obtain ⟨o_lt, o_kd, o_r3, o_r4, o_r5, o_k1, o_k2, o_k3, o_n1, o_n2, o_n3⟩ := ow_sc_ok o ho
  refine ow_iload_n 2 rfl d_Scene_countSending_4 ?_
  refine ow_aload_n 0 rfl d_Scene_countSending_5 ?_
  refine ow_gI 0 d_Scene_countSending_6 rfl rfl (by omega) o_kd (Or.inl rfl) ?_
  refine ow_icmp_ge (tgt := 32) d_Scene_countSending_9 (by decide) (fun c => ?_) (fun c => ?_)
  · replace T := T.1 c
    refine ow_iload_n 1 rfl d_Scene_countSending_32 ?_
    exact ow_iret d_Scene_countSending_33 rfl T
  · replace T := T.2 c
    refine ow_aload_n 0 rfl d_Scene_countSending_12 ?_
    refine ow_gR (a := o + 3) 21 d_Scene_countSending_13 rfl rfl (by omega) o_kd ⟨rfl, (hR _ _ (fun q => absurd q.2 (by decide))).trans o_r5⟩ ?_
    refine ow_iload_n 2 rfl d_Scene_countSending_16 ?_
    obtain ⟨cI, T⟩ := T
    refine ow_hiaload d_Scene_countSending_17 (by omega) o_k3 o_n3 cI ?_
    refine ow_bipush (v := (-2)) (by decide) d_Scene_countSending_18 ?_
    refine ow_icmp_eq (tgt := 26) d_Scene_countSending_20 (by decide) (fun c => ?_) (fun c => ?_)
    · replace T := T.1 c
      refine ow_iinc 2 (v := (v2 + 1)) (ls2 := [(2, .int (v2 + 1)), (0, .ref o), (1, .int v1)]) d_Scene_countSending_26 rfl rfl (by decide) rfl ?_
      refine ow_goto (tgt := 4) d_Scene_countSending_29 (by decide) ?_
      refine ow_sub [1, 2, 0] rfl ?_
      exact T
    · replace T := T.2 c
      refine ow_iinc 1 (v := (v1 + 1)) (ls2 := [(1, .int (v1 + 1)), (0, .ref o), (2, .int v2)]) d_Scene_countSending_23 rfl rfl (by decide) rfl ?_
      refine ow_iinc 2 (v := (v2 + 1)) (ls2 := [(2, .int (v2 + 1)), (1, .int (v1 + 1)), (0, .ref o)]) d_Scene_countSending_26 rfl rfl (by decide) rfl ?_
      refine ow_goto (tgt := 4) d_Scene_countSending_29 (by decide) ?_
      refine ow_sub [2, 1, 0] rfl ?_
      exact T
set_option maxRecDepth 4000 in
theorem t_Scene_countSending {d : Nat} {I : Nat → Nat → Int32} {J : Nat → Nat → Int64} {R : Nat → Nat → Option Nat} {Q : Option Value → ow_H → Prop} {o : Nat} (ho : o ∈ [3, 15, 29, 33, 42, 47, 57]) (hR : ow_RF R) (T : ow_AW ow_Y0 (ow_Z Q) M_Scene_countSending (d + 1) 0 0 4 [(0, .ref o), (1, .int 0), (2, .int 0)] [] (85, I, J, R) 0 0) : ow_AM M_Scene_countSending (d + 1) [.ref o] (85, I, J, R) Q := by
  refine ow_enter (by decide) (Nat.le_of_ble_eq_true rfl) ?_
  show ow_AW ow_Y0 (ow_Z Q) M_Scene_countSending (d + 1) 0 0 0 [(0, .ref o)] [] (85, I, J, R) 0 0
  obtain ⟨o_lt, o_kd, o_r3, o_r4, o_r5, o_k1, o_k2, o_k3, o_n1, o_n2, o_n3⟩ := ow_sc_ok o ho
  refine ow_iconst (v := 0) (by decide) d_Scene_countSending_0 ?_
  refine ow_istore_n (ls2 := [(1, .int 0), (0, .ref o)]) d_Scene_countSending_1 (by decide) rfl ?_
  refine ow_iconst (v := 0) (by decide) d_Scene_countSending_2 ?_
  refine ow_istore_n (ls2 := [(2, .int 0), (1, .int 0), (0, .ref o)]) d_Scene_countSending_3 (by decide) rfl ?_
  refine ow_sub [2, 1, 0] rfl ?_
  exact T
set_option maxRecDepth 4000 in
theorem t_Scene_comesBack_4 {d : Nat} {I : Nat → Nat → Int32} {J : Nat → Nat → Int64} {R : Nat → Nat → Option Nat} {Q : Option Value → ow_H → Prop} {o : Nat} {v1 : Int32} {v2 : Int32} {v3 : Int32} (ho : o ∈ [3, 15, 29, 33, 42, 47, 57]) (hR : ow_RF R) (T : (((I o 0) ≤ v3 → Q (some (.int 0)) (85, I, J, R)) ∧ (¬ (I o 0) ≤ v3 → (ow_AM M_Scene_has d [.ref o, .int v2] (85, I, J, R) (fun r h' => ∃ (r1 : Int32) (I1 : Nat → Nat → Int32) (J1 : Nat → Nat → Int64) (R1 : Nat → Nat → Option Nat), r = some (.int r1) ∧ h' = (85, I1, J1, R1) ∧ ow_RF R1 ∧ ((r1 = 0 → Q (some (.int 0)) (85, I1, J1, R1)) ∧ (¬ r1 = 0 → (vp_in v2 6 ∧ ((¬ (I1 (o + 3) v2.toNatClampNeg) = v1 → ow_AW ow_Y0 (ow_Z Q) M_Scene_comesBack (d + 1) 0 0 4 [(0, .ref o), (1, .int v1), (2, .int (I1 (o + 3) v2.toNatClampNeg)), (3, .int (v3 + 1))] [] (85, I1, J1, R1) 0 0) ∧ ((I1 (o + 3) v2.toNatClampNeg) = v1 → Q (some (.int 1)) (85, I1, J1, R1))))))))))) : ow_AW ow_Y0 (ow_Z Q) M_Scene_comesBack (d + 1) 0 0 4 [(0, .ref o), (1, .int v1), (2, .int v2), (3, .int v3)] [] (85, I, J, R) 0 0 := by
  obtain ⟨o_lt, o_kd, o_r3, o_r4, o_r5, o_k1, o_k2, o_k3, o_n1, o_n2, o_n3⟩ := ow_sc_ok o ho
  refine ow_iload_n 3 rfl d_Scene_comesBack_4 ?_
  refine ow_aload_n 0 rfl d_Scene_comesBack_5 ?_
  refine ow_gI 0 d_Scene_comesBack_6 rfl rfl (by omega) o_kd (Or.inl rfl) ?_
  refine ow_icmp_ge (tgt := 40) d_Scene_comesBack_9 (by decide) (fun c => ?_) (fun c => ?_)
  · replace T := T.1 c
    refine ow_iconst (v := 0) (by decide) d_Scene_comesBack_40 ?_
    exact ow_zret d_Scene_comesBack_41 rfl (by decide) T
  · replace T := T.2 c
    refine ow_aload_n 0 rfl d_Scene_comesBack_12 ?_
    refine ow_iload_n 2 rfl d_Scene_comesBack_13 ?_
    refine ow_callV (b := o) (cq := 4) (As := [.int v2]) (rest := []) (d2 := d) d_Scene_comesBack_14 l_Scene_37 v_Scene_has (show o < 85 by omega) o_kd (by decide) rfl (Nat.le_of_ble_eq_true rfl) (Nat.le_refl _) ⟨Nat.le_refl _, Nat.le_refl _⟩ (ow_mono T ?_)
    rintro r h' ⟨r1, I1, J1, R1, rfl, rfl, hR1, T⟩
    show ow_AW ow_Y0 (ow_Z Q) M_Scene_comesBack (d + 1) 0 0 17 [(0, .ref o), (1, .int v1), (2, .int v2), (3, .int v3)] [.int r1] (85, I1, J1, R1) 0 0
    refine ow_if_eq (tgt := 40) d_Scene_comesBack_17 (by decide) (fun c => ?_) (fun c => ?_)
    · replace T := T.1 c
      refine ow_iconst (v := 0) (by decide) d_Scene_comesBack_40 ?_
      exact ow_zret d_Scene_comesBack_41 rfl (by decide) T
    · replace T := T.2 c
      refine ow_aload_n 0 rfl d_Scene_comesBack_20 ?_
      refine ow_gR (a := o + 3) 21 d_Scene_comesBack_21 rfl rfl (by omega) o_kd ⟨rfl, (hR1 _ _ (fun q => absurd q.2 (by decide))).trans o_r5⟩ ?_
      refine ow_iload_n 2 rfl d_Scene_comesBack_24 ?_
      obtain ⟨cI, T⟩ := T
      refine ow_hiaload d_Scene_comesBack_25 (by omega) o_k3 o_n3 cI ?_
      refine ow_istore_n (ls2 := [(2, .int (I1 (o + 3) v2.toNatClampNeg)), (0, .ref o), (1, .int v1), (3, .int v3)]) d_Scene_comesBack_26 (by decide) rfl ?_
      refine ow_iload_n 0 rfl d_Scene_comesBack_27 ?_
      refine ow_iload_n 2 rfl d_Scene_comesBack_28 ?_
      refine ow_icmp_ne (tgt := 34) d_Scene_comesBack_29 (by decide) (fun c => ?_) (fun c => ?_)
      · replace T := T.1 c
        refine ow_iinc 3 (v := (v3 + 1)) (ls2 := [(3, .int (v3 + 1)), (2, .int (I1 (o + 3) v2.toNatClampNeg)), (0, .ref o), (1, .int v1)]) d_Scene_comesBack_34 rfl rfl (by decide) rfl ?_
        refine ow_goto (tgt := 4) d_Scene_comesBack_37 (by decide) ?_
        refine ow_sub [2, 3, 1, 0] rfl ?_
        exact T
      · replace T := T.2 c
        refine ow_iconst (v := 1) (by decide) d_Scene_comesBack_32 ?_
        exact ow_zret d_Scene_comesBack_33 rfl (by decide) T
set_option maxRecDepth 4000 in
theorem t_Scene_comesBack {d : Nat} {I : Nat → Nat → Int32} {J : Nat → Nat → Int64} {R : Nat → Nat → Option Nat} {Q : Option Value → ow_H → Prop} {o : Nat} {p1 : Int32} (ho : o ∈ [3, 15, 29, 33, 42, 47, 57]) (hR : ow_RF R) (T : ow_AW ow_Y0 (ow_Z Q) M_Scene_comesBack (d + 1) 0 0 4 [(0, .ref o), (1, .int p1), (2, .int p1), (3, .int 0)] [] (85, I, J, R) 0 0) : ow_AM M_Scene_comesBack (d + 1) [.ref o, .int p1] (85, I, J, R) Q := by
  refine ow_enter (by decide) (Nat.le_of_ble_eq_true rfl) ?_
  show ow_AW ow_Y0 (ow_Z Q) M_Scene_comesBack (d + 1) 0 0 0 [(0, .ref o), (1, .int p1)] [] (85, I, J, R) 0 0
  obtain ⟨o_lt, o_kd, o_r3, o_r4, o_r5, o_k1, o_k2, o_k3, o_n1, o_n2, o_n3⟩ := ow_sc_ok o ho
  refine ow_iload_n 1 rfl d_Scene_comesBack_0 ?_
  refine ow_istore_n (ls2 := [(2, .int p1), (0, .ref o), (1, .int p1)]) d_Scene_comesBack_1 (by decide) rfl ?_
  refine ow_iconst (v := 0) (by decide) d_Scene_comesBack_2 ?_
  refine ow_istore_n (ls2 := [(3, .int 0), (2, .int p1), (0, .ref o), (1, .int p1)]) d_Scene_comesBack_3 (by decide) rfl ?_
  refine ow_sub [2, 3, 1, 0] rfl ?_
  exact T
