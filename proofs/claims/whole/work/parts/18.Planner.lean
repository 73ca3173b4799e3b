/-! Own rows, by program: Planner_search Planner_prepare Planner_bitsSoundAfter Planner_soundBehindRow Planner_countBehind Planner_rowAsDigits Planner_turnRow -/
theorem d_Planner_search_0 : decode M_Planner_search.2.1 0 = .ok (.aload_n 0, 1) := by decide +kernel
theorem d_Planner_search_1 : decode M_Planner_search.2.1 1 = .ok (.aload_n 1, 1) := by decide +kernel
theorem d_Planner_search_2 : decode M_Planner_search.2.1 2 = .ok (.iload_n 2, 1) := by decide +kernel
theorem d_Planner_search_3 : decode M_Planner_search.2.1 3 = .ok (.invokevirtual 36, 3) := by decide +kernel
theorem d_Planner_search_6 : decode M_Planner_search.2.1 6 = .ok (.aload_n 0, 1) := by decide +kernel
theorem d_Planner_search_7 : decode M_Planner_search.2.1 7 = .ok (.iconst (-1), 1) := by decide +kernel
theorem d_Planner_search_8 : decode M_Planner_search.2.1 8 = .ok (.putfield 40, 3) := by decide +kernel
theorem d_Planner_search_11 : decode M_Planner_search.2.1 11 = .ok (.iconst 1, 1) := by decide +kernel
theorem d_Planner_search_12 : decode M_Planner_search.2.1 12 = .ok (.istore_n 3, 1) := by decide +kernel
theorem d_Planner_search_13 : decode M_Planner_search.2.1 13 = .ok (.iconst 0, 1) := by decide +kernel
theorem d_Planner_search_14 : decode M_Planner_search.2.1 14 = .ok (.istore 4, 2) := by decide +kernel
theorem d_Planner_search_16 : decode M_Planner_search.2.1 16 = .ok (.iload 4, 2) := by decide +kernel
theorem d_Planner_search_18 : decode M_Planner_search.2.1 18 = .ok (.sipush 2401, 3) := by decide +kernel
theorem d_Planner_search_21 : decode M_Planner_search.2.1 21 = .ok (.if_icmp .ge 54, 3) := by decide +kernel
theorem d_Planner_search_24 : decode M_Planner_search.2.1 24 = .ok (.iload_n 3, 1) := by decide +kernel
theorem d_Planner_search_25 : decode M_Planner_search.2.1 25 = .ok (.ifCond .eq 50, 3) := by decide +kernel
theorem d_Planner_search_28 : decode M_Planner_search.2.1 28 = .ok (.aload_n 0, 1) := by decide +kernel
theorem d_Planner_search_29 : decode M_Planner_search.2.1 29 = .ok (.aload_n 0, 1) := by decide +kernel
theorem d_Planner_search_30 : decode M_Planner_search.2.1 30 = .ok (.iload_n 2, 1) := by decide +kernel
theorem d_Planner_search_31 : decode M_Planner_search.2.1 31 = .ok (.invokevirtual 44, 3) := by decide +kernel
theorem d_Planner_search_34 : decode M_Planner_search.2.1 34 = .ok (.invokevirtual 48, 3) := by decide +kernel
theorem d_Planner_search_37 : decode M_Planner_search.2.1 37 = .ok (.istore 5, 2) := by decide +kernel
theorem d_Planner_search_39 : decode M_Planner_search.2.1 39 = .ok (.iload 5, 2) := by decide +kernel
theorem d_Planner_search_41 : decode M_Planner_search.2.1 41 = .ok (.aload_n 0, 1) := by decide +kernel
theorem d_Planner_search_42 : decode M_Planner_search.2.1 42 = .ok (.getfield 40, 3) := by decide +kernel
theorem d_Planner_search_45 : decode M_Planner_search.2.1 45 = .ok (.if_icmp .le 18, 3) := by decide +kernel
theorem d_Planner_search_48 : decode M_Planner_search.2.1 48 = .ok (.aload_n 0, 1) := by decide +kernel
theorem d_Planner_search_49 : decode M_Planner_search.2.1 49 = .ok (.iload 5, 2) := by decide +kernel
theorem d_Planner_search_51 : decode M_Planner_search.2.1 51 = .ok (.putfield 40, 3) := by decide +kernel
theorem d_Planner_search_54 : decode M_Planner_search.2.1 54 = .ok (.aload_n 0, 1) := by decide +kernel
theorem d_Planner_search_55 : decode M_Planner_search.2.1 55 = .ok (.aload_n 0, 1) := by decide +kernel
theorem d_Planner_search_56 : decode M_Planner_search.2.1 56 = .ok (.iload_n 2, 1) := by decide +kernel
theorem d_Planner_search_57 : decode M_Planner_search.2.1 57 = .ok (.invokevirtual 51, 3) := by decide +kernel
theorem d_Planner_search_60 : decode M_Planner_search.2.1 60 = .ok (.putfield 54, 3) := by decide +kernel
theorem d_Planner_search_63 : decode M_Planner_search.2.1 63 = .ok (.aload_n 0, 1) := by decide +kernel
theorem d_Planner_search_64 : decode M_Planner_search.2.1 64 = .ok (.iload_n 2, 1) := by decide +kernel
theorem d_Planner_search_65 : decode M_Planner_search.2.1 65 = .ok (.invokevirtual 57, 3) := by decide +kernel
theorem d_Planner_search_68 : decode M_Planner_search.2.1 68 = .ok (.istore_n 3, 1) := by decide +kernel
theorem d_Planner_search_69 : decode M_Planner_search.2.1 69 = .ok (.iinc 4 1, 3) := by decide +kernel
theorem d_Planner_search_72 : decode M_Planner_search.2.1 72 = .ok (.goto (-56), 3) := by decide +kernel
theorem d_Planner_search_75 : decode M_Planner_search.2.1 75 = .ok (.return_, 1) := by decide +kernel
theorem d_Planner_prepare_0 : decode M_Planner_prepare.2.1 0 = .ok (.aload_n 0, 1) := by decide +kernel
theorem d_Planner_prepare_1 : decode M_Planner_prepare.2.1 1 = .ok (.getfield 12, 3) := by decide +kernel
theorem d_Planner_prepare_4 : decode M_Planner_prepare.2.1 4 = .ok (.aload_n 1, 1) := by decide +kernel
theorem d_Planner_prepare_5 : decode M_Planner_prepare.2.1 5 = .ok (.invokevirtual 61, 3) := by decide +kernel
theorem d_Planner_prepare_8 : decode M_Planner_prepare.2.1 8 = .ok (.aload_n 0, 1) := by decide +kernel
theorem d_Planner_prepare_9 : decode M_Planner_prepare.2.1 9 = .ok (.getfield 12, 3) := by decide +kernel
theorem d_Planner_prepare_12 : decode M_Planner_prepare.2.1 12 = .ok (.aload_n 0, 1) := by decide +kernel
theorem d_Planner_prepare_13 : decode M_Planner_prepare.2.1 13 = .ok (.getfield 28, 3) := by decide +kernel
theorem d_Planner_prepare_16 : decode M_Planner_prepare.2.1 16 = .ok (.getfield 65, 3) := by decide +kernel
theorem d_Planner_prepare_19 : decode M_Planner_prepare.2.1 19 = .ok (.iload_n 2, 1) := by decide +kernel
theorem d_Planner_prepare_20 : decode M_Planner_prepare.2.1 20 = .ok (.invokevirtual 70, 3) := by decide +kernel
theorem d_Planner_prepare_23 : decode M_Planner_prepare.2.1 23 = .ok (.aload_n 0, 1) := by decide +kernel
theorem d_Planner_prepare_24 : decode M_Planner_prepare.2.1 24 = .ok (.aload_n 0, 1) := by decide +kernel
theorem d_Planner_prepare_25 : decode M_Planner_prepare.2.1 25 = .ok (.getfield 12, 3) := by decide +kernel
theorem d_Planner_prepare_28 : decode M_Planner_prepare.2.1 28 = .ok (.invokevirtual 74, 3) := by decide +kernel
theorem d_Planner_prepare_31 : decode M_Planner_prepare.2.1 31 = .ok (.putfield 78, 3) := by decide +kernel
theorem d_Planner_prepare_34 : decode M_Planner_prepare.2.1 34 = .ok (.iconst 0, 1) := by decide +kernel
theorem d_Planner_prepare_35 : decode M_Planner_prepare.2.1 35 = .ok (.istore_n 3, 1) := by decide +kernel
theorem d_Planner_prepare_36 : decode M_Planner_prepare.2.1 36 = .ok (.iload_n 3, 1) := by decide +kernel
theorem d_Planner_prepare_37 : decode M_Planner_prepare.2.1 37 = .ok (.bipush 64, 2) := by decide +kernel
theorem d_Planner_prepare_39 : decode M_Planner_prepare.2.1 39 = .ok (.if_icmp .ge 16, 3) := by decide +kernel
theorem d_Planner_prepare_42 : decode M_Planner_prepare.2.1 42 = .ok (.aload_n 0, 1) := by decide +kernel
theorem d_Planner_prepare_43 : decode M_Planner_prepare.2.1 43 = .ok (.getfield 25, 3) := by decide +kernel
theorem d_Planner_prepare_46 : decode M_Planner_prepare.2.1 46 = .ok (.iload_n 3, 1) := by decide +kernel
theorem d_Planner_prepare_47 : decode M_Planner_prepare.2.1 47 = .ok (.iconst (-1), 1) := by decide +kernel
theorem d_Planner_prepare_48 : decode M_Planner_prepare.2.1 48 = .ok (.iastore, 1) := by decide +kernel
theorem d_Planner_prepare_49 : decode M_Planner_prepare.2.1 49 = .ok (.iinc 3 1, 3) := by decide +kernel
theorem d_Planner_prepare_52 : decode M_Planner_prepare.2.1 52 = .ok (.goto (-16), 3) := by decide +kernel
theorem d_Planner_prepare_55 : decode M_Planner_prepare.2.1 55 = .ok (.iconst 0, 1) := by decide +kernel
theorem d_Planner_prepare_56 : decode M_Planner_prepare.2.1 56 = .ok (.istore_n 3, 1) := by decide +kernel
theorem d_Planner_prepare_57 : decode M_Planner_prepare.2.1 57 = .ok (.iload_n 3, 1) := by decide +kernel
theorem d_Planner_prepare_58 : decode M_Planner_prepare.2.1 58 = .ok (.iload_n 2, 1) := by decide +kernel
theorem d_Planner_prepare_59 : decode M_Planner_prepare.2.1 59 = .ok (.if_icmp .ge 29, 3) := by decide +kernel
theorem d_Planner_prepare_62 : decode M_Planner_prepare.2.1 62 = .ok (.aload_n 0, 1) := by decide +kernel
theorem d_Planner_prepare_63 : decode M_Planner_prepare.2.1 63 = .ok (.getfield 18, 3) := by decide +kernel
theorem d_Planner_prepare_66 : decode M_Planner_prepare.2.1 66 = .ok (.iload_n 3, 1) := by decide +kernel
theorem d_Planner_prepare_67 : decode M_Planner_prepare.2.1 67 = .ok (.iconst 0, 1) := by decide +kernel
theorem d_Planner_prepare_68 : decode M_Planner_prepare.2.1 68 = .ok (.iastore, 1) := by decide +kernel
theorem d_Planner_prepare_69 : decode M_Planner_prepare.2.1 69 = .ok (.aload_n 0, 1) := by decide +kernel
theorem d_Planner_prepare_70 : decode M_Planner_prepare.2.1 70 = .ok (.getfield 22, 3) := by decide +kernel
theorem d_Planner_prepare_73 : decode M_Planner_prepare.2.1 73 = .ok (.iload_n 3, 1) := by decide +kernel
theorem d_Planner_prepare_74 : decode M_Planner_prepare.2.1 74 = .ok (.aload_n 0, 1) := by decide +kernel
theorem d_Planner_prepare_75 : decode M_Planner_prepare.2.1 75 = .ok (.iload_n 2, 1) := by decide +kernel
theorem d_Planner_prepare_76 : decode M_Planner_prepare.2.1 76 = .ok (.iload_n 3, 1) := by decide +kernel
theorem d_Planner_prepare_77 : decode M_Planner_prepare.2.1 77 = .ok (.isub, 1) := by decide +kernel
theorem d_Planner_prepare_78 : decode M_Planner_prepare.2.1 78 = .ok (.invokevirtual 81, 3) := by decide +kernel
theorem d_Planner_prepare_81 : decode M_Planner_prepare.2.1 81 = .ok (.iastore, 1) := by decide +kernel
theorem d_Planner_prepare_82 : decode M_Planner_prepare.2.1 82 = .ok (.iinc 3 1, 3) := by decide +kernel
theorem d_Planner_prepare_85 : decode M_Planner_prepare.2.1 85 = .ok (.goto (-28), 3) := by decide +kernel
theorem d_Planner_prepare_88 : decode M_Planner_prepare.2.1 88 = .ok (.return_, 1) := by decide +kernel
theorem d_Planner_bitsSoundAfter_0 : decode M_Planner_bitsSoundAfter.2.1 0 = .ok (.iconst 0, 1) := by decide +kernel
theorem d_Planner_bitsSoundAfter_1 : decode M_Planner_bitsSoundAfter.2.1 1 = .ok (.istore_n 2, 1) := by decide +kernel
theorem d_Planner_bitsSoundAfter_2 : decode M_Planner_bitsSoundAfter.2.1 2 = .ok (.iconst 0, 1) := by decide +kernel
theorem d_Planner_bitsSoundAfter_3 : decode M_Planner_bitsSoundAfter.2.1 3 = .ok (.istore_n 3, 1) := by decide +kernel
theorem d_Planner_bitsSoundAfter_4 : decode M_Planner_bitsSoundAfter.2.1 4 = .ok (.iload_n 3, 1) := by decide +kernel
theorem d_Planner_bitsSoundAfter_5 : decode M_Planner_bitsSoundAfter.2.1 5 = .ok (.aload_n 0, 1) := by decide +kernel
theorem d_Planner_bitsSoundAfter_6 : decode M_Planner_bitsSoundAfter.2.1 6 = .ok (.getfield 28, 3) := by decide +kernel
theorem d_Planner_bitsSoundAfter_9 : decode M_Planner_bitsSoundAfter.2.1 9 = .ok (.getfield 84, 3) := by decide +kernel
theorem d_Planner_bitsSoundAfter_12 : decode M_Planner_bitsSoundAfter.2.1 12 = .ok (.getfield 87, 3) := by decide +kernel
theorem d_Planner_bitsSoundAfter_15 : decode M_Planner_bitsSoundAfter.2.1 15 = .ok (.if_icmp .ge 39, 3) := by decide +kernel
theorem d_Planner_bitsSoundAfter_18 : decode M_Planner_bitsSoundAfter.2.1 18 = .ok (.aload_n 0, 1) := by decide +kernel
theorem d_Planner_bitsSoundAfter_19 : decode M_Planner_bitsSoundAfter.2.1 19 = .ok (.getfield 28, 3) := by decide +kernel
theorem d_Planner_bitsSoundAfter_22 : decode M_Planner_bitsSoundAfter.2.1 22 = .ok (.getfield 84, 3) := by decide +kernel
theorem d_Planner_bitsSoundAfter_25 : decode M_Planner_bitsSoundAfter.2.1 25 = .ok (.getfield 90, 3) := by decide +kernel
theorem d_Planner_bitsSoundAfter_28 : decode M_Planner_bitsSoundAfter.2.1 28 = .ok (.iload_n 3, 1) := by decide +kernel
theorem d_Planner_bitsSoundAfter_29 : decode M_Planner_bitsSoundAfter.2.1 29 = .ok (.iaload, 1) := by decide +kernel
theorem d_Planner_bitsSoundAfter_30 : decode M_Planner_bitsSoundAfter.2.1 30 = .ok (.aload_n 0, 1) := by decide +kernel
theorem d_Planner_bitsSoundAfter_31 : decode M_Planner_bitsSoundAfter.2.1 31 = .ok (.getfield 28, 3) := by decide +kernel
theorem d_Planner_bitsSoundAfter_34 : decode M_Planner_bitsSoundAfter.2.1 34 = .ok (.getfield 65, 3) := by decide +kernel
theorem d_Planner_bitsSoundAfter_37 : decode M_Planner_bitsSoundAfter.2.1 37 = .ok (.iload_n 1, 1) := by decide +kernel
theorem d_Planner_bitsSoundAfter_38 : decode M_Planner_bitsSoundAfter.2.1 38 = .ok (.imul, 1) := by decide +kernel
theorem d_Planner_bitsSoundAfter_39 : decode M_Planner_bitsSoundAfter.2.1 39 = .ok (.if_icmp .le 9, 3) := by decide +kernel
theorem d_Planner_bitsSoundAfter_42 : decode M_Planner_bitsSoundAfter.2.1 42 = .ok (.iload_n 2, 1) := by decide +kernel
theorem d_Planner_bitsSoundAfter_43 : decode M_Planner_bitsSoundAfter.2.1 43 = .ok (.iconst 1, 1) := by decide +kernel
theorem d_Planner_bitsSoundAfter_44 : decode M_Planner_bitsSoundAfter.2.1 44 = .ok (.iload_n 3, 1) := by decide +kernel
theorem d_Planner_bitsSoundAfter_45 : decode M_Planner_bitsSoundAfter.2.1 45 = .ok (.ishl, 1) := by decide +kernel
theorem d_Planner_bitsSoundAfter_46 : decode M_Planner_bitsSoundAfter.2.1 46 = .ok (.ior, 1) := by decide +kernel
theorem d_Planner_bitsSoundAfter_47 : decode M_Planner_bitsSoundAfter.2.1 47 = .ok (.istore_n 2, 1) := by decide +kernel
theorem d_Planner_bitsSoundAfter_48 : decode M_Planner_bitsSoundAfter.2.1 48 = .ok (.iinc 3 1, 3) := by decide +kernel
theorem d_Planner_bitsSoundAfter_51 : decode M_Planner_bitsSoundAfter.2.1 51 = .ok (.goto (-47), 3) := by decide +kernel
theorem d_Planner_bitsSoundAfter_54 : decode M_Planner_bitsSoundAfter.2.1 54 = .ok (.iload_n 2, 1) := by decide +kernel
theorem d_Planner_bitsSoundAfter_55 : decode M_Planner_bitsSoundAfter.2.1 55 = .ok (.ireturn, 1) := by decide +kernel
theorem d_Planner_soundBehindRow_0 : decode M_Planner_soundBehindRow.2.1 0 = .ok (.aload_n 0, 1) := by decide +kernel
theorem d_Planner_soundBehindRow_1 : decode M_Planner_soundBehindRow.2.1 1 = .ok (.getfield 78, 3) := by decide +kernel
theorem d_Planner_soundBehindRow_4 : decode M_Planner_soundBehindRow.2.1 4 = .ok (.istore_n 2, 1) := by decide +kernel
theorem d_Planner_soundBehindRow_5 : decode M_Planner_soundBehindRow.2.1 5 = .ok (.iconst 0, 1) := by decide +kernel
theorem d_Planner_soundBehindRow_6 : decode M_Planner_soundBehindRow.2.1 6 = .ok (.istore_n 3, 1) := by decide +kernel
theorem d_Planner_soundBehindRow_7 : decode M_Planner_soundBehindRow.2.1 7 = .ok (.iload_n 3, 1) := by decide +kernel
theorem d_Planner_soundBehindRow_8 : decode M_Planner_soundBehindRow.2.1 8 = .ok (.iload_n 1, 1) := by decide +kernel
theorem d_Planner_soundBehindRow_9 : decode M_Planner_soundBehindRow.2.1 9 = .ok (.if_icmp .ge 47, 3) := by decide +kernel
theorem d_Planner_soundBehindRow_12 : decode M_Planner_soundBehindRow.2.1 12 = .ok (.aload_n 0, 1) := by decide +kernel
theorem d_Planner_soundBehindRow_13 : decode M_Planner_soundBehindRow.2.1 13 = .ok (.getfield 18, 3) := by decide +kernel
theorem d_Planner_soundBehindRow_16 : decode M_Planner_soundBehindRow.2.1 16 = .ok (.iload_n 3, 1) := by decide +kernel
theorem d_Planner_soundBehindRow_17 : decode M_Planner_soundBehindRow.2.1 17 = .ok (.iaload, 1) := by decide +kernel
theorem d_Planner_soundBehindRow_18 : decode M_Planner_soundBehindRow.2.1 18 = .ok (.ifCond .le 32, 3) := by decide +kernel
theorem d_Planner_soundBehindRow_21 : decode M_Planner_soundBehindRow.2.1 21 = .ok (.iconst 1, 1) := by decide +kernel
theorem d_Planner_soundBehindRow_22 : decode M_Planner_soundBehindRow.2.1 22 = .ok (.aload_n 0, 1) := by decide +kernel
theorem d_Planner_soundBehindRow_23 : decode M_Planner_soundBehindRow.2.1 23 = .ok (.getfield 18, 3) := by decide +kernel
theorem d_Planner_soundBehindRow_26 : decode M_Planner_soundBehindRow.2.1 26 = .ok (.iload_n 3, 1) := by decide +kernel
theorem d_Planner_soundBehindRow_27 : decode M_Planner_soundBehindRow.2.1 27 = .ok (.iaload, 1) := by decide +kernel
theorem d_Planner_soundBehindRow_28 : decode M_Planner_soundBehindRow.2.1 28 = .ok (.iconst 1, 1) := by decide +kernel
theorem d_Planner_soundBehindRow_29 : decode M_Planner_soundBehindRow.2.1 29 = .ok (.isub, 1) := by decide +kernel
theorem d_Planner_soundBehindRow_30 : decode M_Planner_soundBehindRow.2.1 30 = .ok (.ishl, 1) := by decide +kernel
theorem d_Planner_soundBehindRow_31 : decode M_Planner_soundBehindRow.2.1 31 = .ok (.istore 4, 2) := by decide +kernel
theorem d_Planner_soundBehindRow_33 : decode M_Planner_soundBehindRow.2.1 33 = .ok (.iload_n 2, 1) := by decide +kernel
theorem d_Planner_soundBehindRow_34 : decode M_Planner_soundBehindRow.2.1 34 = .ok (.iload 4, 2) := by decide +kernel
theorem d_Planner_soundBehindRow_36 : decode M_Planner_soundBehindRow.2.1 36 = .ok (.iconst (-1), 1) := by decide +kernel
theorem d_Planner_soundBehindRow_37 : decode M_Planner_soundBehindRow.2.1 37 = .ok (.ixor, 1) := by decide +kernel
theorem d_Planner_soundBehindRow_38 : decode M_Planner_soundBehindRow.2.1 38 = .ok (.iand, 1) := by decide +kernel
theorem d_Planner_soundBehindRow_39 : decode M_Planner_soundBehindRow.2.1 39 = .ok (.aload_n 0, 1) := by decide +kernel
theorem d_Planner_soundBehindRow_40 : decode M_Planner_soundBehindRow.2.1 40 = .ok (.getfield 22, 3) := by decide +kernel
theorem d_Planner_soundBehindRow_43 : decode M_Planner_soundBehindRow.2.1 43 = .ok (.iload_n 3, 1) := by decide +kernel
theorem d_Planner_soundBehindRow_44 : decode M_Planner_soundBehindRow.2.1 44 = .ok (.iaload, 1) := by decide +kernel
theorem d_Planner_soundBehindRow_45 : decode M_Planner_soundBehindRow.2.1 45 = .ok (.iload 4, 2) := by decide +kernel
theorem d_Planner_soundBehindRow_47 : decode M_Planner_soundBehindRow.2.1 47 = .ok (.iand, 1) := by decide +kernel
theorem d_Planner_soundBehindRow_48 : decode M_Planner_soundBehindRow.2.1 48 = .ok (.ior, 1) := by decide +kernel
theorem d_Planner_soundBehindRow_49 : decode M_Planner_soundBehindRow.2.1 49 = .ok (.istore_n 2, 1) := by decide +kernel
theorem d_Planner_soundBehindRow_50 : decode M_Planner_soundBehindRow.2.1 50 = .ok (.iinc 3 1, 3) := by decide +kernel
theorem d_Planner_soundBehindRow_53 : decode M_Planner_soundBehindRow.2.1 53 = .ok (.goto (-46), 3) := by decide +kernel
theorem d_Planner_soundBehindRow_56 : decode M_Planner_soundBehindRow.2.1 56 = .ok (.iload_n 2, 1) := by decide +kernel
theorem d_Planner_soundBehindRow_57 : decode M_Planner_soundBehindRow.2.1 57 = .ok (.ireturn, 1) := by decide +kernel
theorem d_Planner_countBehind_0 : decode M_Planner_countBehind.2.1 0 = .ok (.iload_n 1, 1) := by decide +kernel
theorem d_Planner_countBehind_1 : decode M_Planner_countBehind.2.1 1 = .ok (.ifCond .lt 9, 3) := by decide +kernel
theorem d_Planner_countBehind_4 : decode M_Planner_countBehind.2.1 4 = .ok (.iload_n 1, 1) := by decide +kernel
theorem d_Planner_countBehind_5 : decode M_Planner_countBehind.2.1 5 = .ok (.bipush 64, 2) := by decide +kernel
theorem d_Planner_countBehind_7 : decode M_Planner_countBehind.2.1 7 = .ok (.if_icmp .lt 5, 3) := by decide +kernel
theorem d_Planner_countBehind_10 : decode M_Planner_countBehind.2.1 10 = .ok (.iconst 0, 1) := by decide +kernel
theorem d_Planner_countBehind_11 : decode M_Planner_countBehind.2.1 11 = .ok (.ireturn, 1) := by decide +kernel
theorem d_Planner_countBehind_12 : decode M_Planner_countBehind.2.1 12 = .ok (.aload_n 0, 1) := by decide +kernel
theorem d_Planner_countBehind_13 : decode M_Planner_countBehind.2.1 13 = .ok (.getfield 25, 3) := by decide +kernel
theorem d_Planner_countBehind_16 : decode M_Planner_countBehind.2.1 16 = .ok (.iload_n 1, 1) := by decide +kernel
theorem d_Planner_countBehind_17 : decode M_Planner_countBehind.2.1 17 = .ok (.iaload, 1) := by decide +kernel
theorem d_Planner_countBehind_18 : decode M_Planner_countBehind.2.1 18 = .ok (.iconst (-1), 1) := by decide +kernel
theorem d_Planner_countBehind_19 : decode M_Planner_countBehind.2.1 19 = .ok (.if_icmp .ne 31, 3) := by decide +kernel
theorem d_Planner_countBehind_22 : decode M_Planner_countBehind.2.1 22 = .ok (.aload_n 0, 1) := by decide +kernel
theorem d_Planner_countBehind_23 : decode M_Planner_countBehind.2.1 23 = .ok (.getfield 12, 3) := by decide +kernel
theorem d_Planner_countBehind_26 : decode M_Planner_countBehind.2.1 26 = .ok (.iload_n 1, 1) := by decide +kernel
theorem d_Planner_countBehind_27 : decode M_Planner_countBehind.2.1 27 = .ok (.invokevirtual 93, 3) := by decide +kernel
theorem d_Planner_countBehind_30 : decode M_Planner_countBehind.2.1 30 = .ok (.aload_n 0, 1) := by decide +kernel
theorem d_Planner_countBehind_31 : decode M_Planner_countBehind.2.1 31 = .ok (.getfield 25, 3) := by decide +kernel
theorem d_Planner_countBehind_34 : decode M_Planner_countBehind.2.1 34 = .ok (.iload_n 1, 1) := by decide +kernel
theorem d_Planner_countBehind_35 : decode M_Planner_countBehind.2.1 35 = .ok (.aload_n 0, 1) := by decide +kernel
theorem d_Planner_countBehind_36 : decode M_Planner_countBehind.2.1 36 = .ok (.getfield 32, 3) := by decide +kernel
theorem d_Planner_countBehind_39 : decode M_Planner_countBehind.2.1 39 = .ok (.aload_n 0, 1) := by decide +kernel
theorem d_Planner_countBehind_40 : decode M_Planner_countBehind.2.1 40 = .ok (.getfield 12, 3) := by decide +kernel
theorem d_Planner_countBehind_43 : decode M_Planner_countBehind.2.1 43 = .ok (.invokevirtual 97, 3) := by decide +kernel
theorem d_Planner_countBehind_46 : decode M_Planner_countBehind.2.1 46 = .ok (.invokestatic 103, 3) := by decide +kernel
theorem d_Planner_countBehind_49 : decode M_Planner_countBehind.2.1 49 = .ok (.iastore, 1) := by decide +kernel
theorem d_Planner_countBehind_50 : decode M_Planner_countBehind.2.1 50 = .ok (.aload_n 0, 1) := by decide +kernel
theorem d_Planner_countBehind_51 : decode M_Planner_countBehind.2.1 51 = .ok (.getfield 25, 3) := by decide +kernel
theorem d_Planner_countBehind_54 : decode M_Planner_countBehind.2.1 54 = .ok (.iload_n 1, 1) := by decide +kernel
theorem d_Planner_countBehind_55 : decode M_Planner_countBehind.2.1 55 = .ok (.iaload, 1) := by decide +kernel
theorem d_Planner_countBehind_56 : decode M_Planner_countBehind.2.1 56 = .ok (.ireturn, 1) := by decide +kernel
theorem d_Planner_rowAsDigits_0 : decode M_Planner_rowAsDigits.2.1 0 = .ok (.iconst 0, 1) := by decide +kernel
theorem d_Planner_rowAsDigits_1 : decode M_Planner_rowAsDigits.2.1 1 = .ok (.istore_n 2, 1) := by decide +kernel
theorem d_Planner_rowAsDigits_2 : decode M_Planner_rowAsDigits.2.1 2 = .ok (.iconst 0, 1) := by decide +kernel
theorem d_Planner_rowAsDigits_3 : decode M_Planner_rowAsDigits.2.1 3 = .ok (.istore_n 3, 1) := by decide +kernel
theorem d_Planner_rowAsDigits_4 : decode M_Planner_rowAsDigits.2.1 4 = .ok (.iload_n 3, 1) := by decide +kernel
theorem d_Planner_rowAsDigits_5 : decode M_Planner_rowAsDigits.2.1 5 = .ok (.iload_n 1, 1) := by decide +kernel
theorem d_Planner_rowAsDigits_6 : decode M_Planner_rowAsDigits.2.1 6 = .ok (.if_icmp .ge 21, 3) := by decide +kernel
theorem d_Planner_rowAsDigits_9 : decode M_Planner_rowAsDigits.2.1 9 = .ok (.iload_n 2, 1) := by decide +kernel
theorem d_Planner_rowAsDigits_10 : decode M_Planner_rowAsDigits.2.1 10 = .ok (.bipush 10, 2) := by decide +kernel
theorem d_Planner_rowAsDigits_12 : decode M_Planner_rowAsDigits.2.1 12 = .ok (.imul, 1) := by decide +kernel
theorem d_Planner_rowAsDigits_13 : decode M_Planner_rowAsDigits.2.1 13 = .ok (.aload_n 0, 1) := by decide +kernel
theorem d_Planner_rowAsDigits_14 : decode M_Planner_rowAsDigits.2.1 14 = .ok (.getfield 18, 3) := by decide +kernel
theorem d_Planner_rowAsDigits_17 : decode M_Planner_rowAsDigits.2.1 17 = .ok (.iload_n 3, 1) := by decide +kernel
theorem d_Planner_rowAsDigits_18 : decode M_Planner_rowAsDigits.2.1 18 = .ok (.iaload, 1) := by decide +kernel
theorem d_Planner_rowAsDigits_19 : decode M_Planner_rowAsDigits.2.1 19 = .ok (.iadd, 1) := by decide +kernel
theorem d_Planner_rowAsDigits_20 : decode M_Planner_rowAsDigits.2.1 20 = .ok (.istore_n 2, 1) := by decide +kernel
theorem d_Planner_rowAsDigits_21 : decode M_Planner_rowAsDigits.2.1 21 = .ok (.iinc 3 1, 3) := by decide +kernel
theorem d_Planner_rowAsDigits_24 : decode M_Planner_rowAsDigits.2.1 24 = .ok (.goto (-20), 3) := by decide +kernel
theorem d_Planner_rowAsDigits_27 : decode M_Planner_rowAsDigits.2.1 27 = .ok (.iload_n 2, 1) := by decide +kernel
theorem d_Planner_rowAsDigits_28 : decode M_Planner_rowAsDigits.2.1 28 = .ok (.ireturn, 1) := by decide +kernel
theorem d_Planner_turnRow_0 : decode M_Planner_turnRow.2.1 0 = .ok (.iload_n 1, 1) := by decide +kernel
theorem d_Planner_turnRow_1 : decode M_Planner_turnRow.2.1 1 = .ok (.iconst 1, 1) := by decide +kernel
theorem d_Planner_turnRow_2 : decode M_Planner_turnRow.2.1 2 = .ok (.isub, 1) := by decide +kernel
theorem d_Planner_turnRow_3 : decode M_Planner_turnRow.2.1 3 = .ok (.istore_n 2, 1) := by decide +kernel
theorem d_Planner_turnRow_4 : decode M_Planner_turnRow.2.1 4 = .ok (.iload_n 2, 1) := by decide +kernel
theorem d_Planner_turnRow_5 : decode M_Planner_turnRow.2.1 5 = .ok (.ifCond .lt 44, 3) := by decide +kernel
theorem d_Planner_turnRow_8 : decode M_Planner_turnRow.2.1 8 = .ok (.aload_n 0, 1) := by decide +kernel
theorem d_Planner_turnRow_9 : decode M_Planner_turnRow.2.1 9 = .ok (.getfield 18, 3) := by decide +kernel
theorem d_Planner_turnRow_12 : decode M_Planner_turnRow.2.1 12 = .ok (.iload_n 2, 1) := by decide +kernel
theorem d_Planner_turnRow_13 : decode M_Planner_turnRow.2.1 13 = .ok (.iaload, 1) := by decide +kernel
theorem d_Planner_turnRow_14 : decode M_Planner_turnRow.2.1 14 = .ok (.aload_n 0, 1) := by decide +kernel
theorem d_Planner_turnRow_15 : decode M_Planner_turnRow.2.1 15 = .ok (.getfield 12, 3) := by decide +kernel
theorem d_Planner_turnRow_18 : decode M_Planner_turnRow.2.1 18 = .ok (.getfield 87, 3) := by decide +kernel
theorem d_Planner_turnRow_21 : decode M_Planner_turnRow.2.1 21 = .ok (.if_icmp .ge 15, 3) := by decide +kernel
theorem d_Planner_turnRow_24 : decode M_Planner_turnRow.2.1 24 = .ok (.aload_n 0, 1) := by decide +kernel
theorem d_Planner_turnRow_25 : decode M_Planner_turnRow.2.1 25 = .ok (.getfield 18, 3) := by decide +kernel
theorem d_Planner_turnRow_28 : decode M_Planner_turnRow.2.1 28 = .ok (.iload_n 2, 1) := by decide +kernel
theorem d_Planner_turnRow_29 : decode M_Planner_turnRow.2.1 29 = .ok (.dup2, 1) := by decide +kernel
theorem d_Planner_turnRow_30 : decode M_Planner_turnRow.2.1 30 = .ok (.iaload, 1) := by decide +kernel
theorem d_Planner_turnRow_31 : decode M_Planner_turnRow.2.1 31 = .ok (.iconst 1, 1) := by decide +kernel
theorem d_Planner_turnRow_32 : decode M_Planner_turnRow.2.1 32 = .ok (.iadd, 1) := by decide +kernel
theorem d_Planner_turnRow_33 : decode M_Planner_turnRow.2.1 33 = .ok (.iastore, 1) := by decide +kernel
theorem d_Planner_turnRow_34 : decode M_Planner_turnRow.2.1 34 = .ok (.iconst 1, 1) := by decide +kernel
theorem d_Planner_turnRow_35 : decode M_Planner_turnRow.2.1 35 = .ok (.ireturn, 1) := by decide +kernel
theorem d_Planner_turnRow_36 : decode M_Planner_turnRow.2.1 36 = .ok (.aload_n 0, 1) := by decide +kernel
theorem d_Planner_turnRow_37 : decode M_Planner_turnRow.2.1 37 = .ok (.getfield 18, 3) := by decide +kernel
theorem d_Planner_turnRow_40 : decode M_Planner_turnRow.2.1 40 = .ok (.iload_n 2, 1) := by decide +kernel
theorem d_Planner_turnRow_41 : decode M_Planner_turnRow.2.1 41 = .ok (.iconst 0, 1) := by decide +kernel
theorem d_Planner_turnRow_42 : decode M_Planner_turnRow.2.1 42 = .ok (.iastore, 1) := by decide +kernel
theorem d_Planner_turnRow_43 : decode M_Planner_turnRow.2.1 43 = .ok (.iinc 2 (-1), 3) := by decide +kernel
theorem d_Planner_turnRow_46 : decode M_Planner_turnRow.2.1 46 = .ok (.goto (-42), 3) := by decide +kernel
theorem d_Planner_turnRow_49 : decode M_Planner_turnRow.2.1 49 = .ok (.iconst 0, 1) := by decide +kernel
theorem d_Planner_turnRow_50 : decode M_Planner_turnRow.2.1 50 = .ok (.ireturn, 1) := by decide +kernel
set_option maxRecDepth 4000 in
theorem t_Planner_search_16 {d : Nat} {I : Nat → Nat → Int32} {J : Nat → Nat → Int64} {R : Nat → Nat → Option Nat} {Q : Option Value → ow_H → Prop}  {v2 : Int32} {v3 : Int32} {v4 : Int32}  (hR : ow_RF R) (T : ((2401 ≤ v4 → Q none (85, I, J, R)) ∧ (¬ 2401 ≤ v4 → ((v3 = 0 → Q none (85, I, J, R)) ∧ (¬ v3 = 0 → (ow_AM M_Planner_soundBehindRow d [.ref 46, .int v2] (85, I, J, R) (fun r h' => ∃ (r3 : Int32) (I3 : Nat → Nat → Int32) (J3 : Nat → Nat → Int64) (R3 : Nat → Nat → Option Nat), r = some (.int r3) ∧ h' = (85, I3, J3, R3) ∧ ow_RF R3 ∧ (ow_AM M_Planner_countBehind d [.ref 46, .int r3] (85, I3, J3, R3) (fun r h' => ∃ (r4 : Int32) (I4 : Nat → Nat → Int32) (J4 : Nat → Nat → Int64) (R4 : Nat → Nat → Option Nat), r = some (.int r4) ∧ h' = (85, I4, J4, R4) ∧ ow_RF R4 ∧ ((r4 ≤ (I4 46 8) → (ow_AM M_Planner_turnRow d [.ref 46, .int v2] (85, I4, J4, R4) (fun r h' => ∃ (r5 : Int32) (I5 : Nat → Nat → Int32) (J5 : Nat → Nat → Int64) (R5 : Nat → Nat → Option Nat), r = some (.int r5) ∧ h' = (85, I5, J5, R5) ∧ ow_RF R5 ∧ ow_AW ow_Y0 (ow_Z Q) M_Planner_search (d + 1) 0 0 16 [(0, .ref 46), (2, .int v2), (3, .int r5), (4, .int (v4 + 1))] [] (85, I5, J5, R5) 0 0))) ∧ (¬ r4 ≤ (I4 46 8) → (∀ (I6 : Nat → Nat → Int32), I6 = ow_u I4 46 8 r4 → (ow_AM M_Planner_rowAsDigits d [.ref 46, .int v2] (85, I6, J4, R4) (fun r h' => ∃ (r7 : Int32) (I7 : Nat → Nat → Int32) (J7 : Nat → Nat → Int64) (R7 : Nat → Nat → Option Nat), r = some (.int r7) ∧ h' = (85, I7, J7, R7) ∧ ow_RF R7 ∧ (∀ (I8 : Nat → Nat → Int32), I8 = ow_u I7 46 7 r7 → (ow_AM M_Planner_turnRow d [.ref 46, .int v2] (85, I8, J7, R7) (fun r h' => ∃ (r9 : Int32) (I9 : Nat → Nat → Int32) (J9 : Nat → Nat → Int64) (R9 : Nat → Nat → Option Nat), r = some (.int r9) ∧ h' = (85, I9, J9, R9) ∧ ow_RF R9 ∧ ow_AW ow_Y0 (ow_Z Q) M_Planner_search (d + 1) 0 0 16 [(0, .ref 46), (2, .int v2), (3, .int r9), (4, .int (v4 + 1))] [] (85, I9, J9, R9) 0 0))))))))))))))))) : ow_AW ow_Y0 (ow_Z Q) M_Planner_search (d + 1) 0 0 16 [(0, .ref 46), (2, .int v2), (3, .int v3), (4, .int v4)] [] (85, I, J, R) 0 0 := by
  refine ow_iload 3 rfl d_Planner_search_16 ?_
  refine ow_sipush (v := 2401) (by decide) d_Planner_search_18 ?_
  refine ow_icmp_ge (tgt := 75) d_Planner_search_21 (by decide) (fun c => ?_) (fun c => ?_)
  · replace T := T.1 c
    exact ow_vret d_Planner_search_75 rfl T
  · replace T := T.2 c
    refine ow_iload_n 2 rfl d_Planner_search_24 ?_
    refine ow_if_eq (tgt := 75) d_Planner_search_25 (by decide) (fun c => ?_) (fun c => ?_)
    · replace T := T.1 c
      exact ow_vret d_Planner_search_75 rfl T
    · replace T := T.2 c
      refine ow_aload_n 0 rfl d_Planner_search_28 ?_
      refine ow_aload_n 0 rfl d_Planner_search_29 ?_
      refine ow_iload_n 1 rfl d_Planner_search_30 ?_
      refine ow_callV (b := 46) (cq := 2) (As := [.int v2]) (rest := [.ref 46]) (d2 := d) d_Planner_search_31 l_Planner_44 v_Planner_soundBehindRow (show 46 < 85 by decide) rfl (by decide) rfl (Nat.le_of_ble_eq_true rfl) (Nat.le_refl _) ⟨Nat.le_refl _, Nat.le_refl _⟩ (ow_mono T ?_)
      rintro r h' ⟨r3, I3, J3, R3, rfl, rfl, hR3, T⟩
      show ow_AW ow_Y0 (ow_Z Q) M_Planner_search (d + 1) 0 0 34 [(0, .ref 46), (2, .int v2), (3, .int v3), (4, .int v4)] [.int r3, .ref 46] (85, I3, J3, R3) 0 0
      refine ow_callV (b := 46) (cq := 2) (As := [.int r3]) (rest := []) (d2 := d) d_Planner_search_34 l_Planner_48 v_Planner_countBehind (show 46 < 85 by decide) rfl (by decide) rfl (Nat.le_of_ble_eq_true rfl) (Nat.le_refl _) ⟨Nat.le_refl _, Nat.le_refl _⟩ (ow_mono T ?_)
      rintro r h' ⟨r4, I4, J4, R4, rfl, rfl, hR4, T⟩
      show ow_AW ow_Y0 (ow_Z Q) M_Planner_search (d + 1) 0 0 37 [(0, .ref 46), (2, .int v2), (3, .int v3), (4, .int v4)] [.int r4] (85, I4, J4, R4) 0 0
      refine ow_istore (ls2 := [(5, .int r4), (0, .ref 46), (2, .int v2), (3, .int v3), (4, .int v4)]) d_Planner_search_37 (by decide) rfl ?_
      refine ow_iload 0 rfl d_Planner_search_39 ?_
      refine ow_aload_n 1 rfl d_Planner_search_41 ?_
      refine ow_gI 123 d_Planner_search_42 rfl rfl (by decide) rfl (Or.inl rfl) ?_
      refine ow_icmp_le (tgt := 63) d_Planner_search_45 (by decide) (fun c => ?_) (fun c => ?_)
      · replace T := T.1 c
        refine ow_aload_n 1 rfl d_Planner_search_63 ?_
        refine ow_iload_n 2 rfl d_Planner_search_64 ?_
        refine ow_callV (b := 46) (cq := 2) (As := [.int v2]) (rest := []) (d2 := d) d_Planner_search_65 l_Planner_57 v_Planner_turnRow (show 46 < 85 by decide) rfl (by decide) rfl (Nat.le_of_ble_eq_true rfl) (Nat.le_refl _) ⟨Nat.le_refl _, Nat.le_refl _⟩ (ow_mono T ?_)
        rintro r h' ⟨r5, I5, J5, R5, rfl, rfl, hR5, T⟩
        show ow_AW ow_Y0 (ow_Z Q) M_Planner_search (d + 1) 0 0 68 [(5, .int r4), (0, .ref 46), (2, .int v2), (3, .int v3), (4, .int v4)] [.int r5] (85, I5, J5, R5) 0 0
        refine ow_istore_n (ls2 := [(3, .int r5), (5, .int r4), (0, .ref 46), (2, .int v2), (4, .int v4)]) d_Planner_search_68 (by decide) rfl ?_
        refine ow_iinc 4 (v := (v4 + 1)) (ls2 := [(4, .int (v4 + 1)), (3, .int r5), (5, .int r4), (0, .ref 46), (2, .int v2)]) d_Planner_search_69 rfl rfl (by decide) rfl ?_
        refine ow_goto (tgt := 16) d_Planner_search_72 (by decide) ?_
        refine ow_sub [3, 4, 1, 0] rfl ?_
        exact T
      · replace T := T.2 c
        refine ow_aload_n 1 rfl d_Planner_search_48 ?_
        refine ow_iload 0 rfl d_Planner_search_49 ?_
        refine ow_pI 123 d_Planner_search_51 rfl rfl (by decide) rfl rfl rfl ?_
        obtain ⟨I6, eI6⟩ : ∃ uu, uu = ow_u I4 46 8 r4 := ⟨_, rfl⟩
        replace T := T I6 eI6
        rw [← eI6]
        refine ow_aload_n 1 rfl d_Planner_search_54 ?_
        refine ow_aload_n 1 rfl d_Planner_search_55 ?_
        refine ow_iload_n 2 rfl d_Planner_search_56 ?_
        refine ow_callV (b := 46) (cq := 2) (As := [.int v2]) (rest := [.ref 46]) (d2 := d) d_Planner_search_57 l_Planner_51 v_Planner_rowAsDigits (show 46 < 85 by decide) rfl (by decide) rfl (Nat.le_of_ble_eq_true rfl) (Nat.le_refl _) ⟨Nat.le_refl _, Nat.le_refl _⟩ (ow_mono T ?_)
        rintro r h' ⟨r7, I7, J7, R7, rfl, rfl, hR7, T⟩
        show ow_AW ow_Y0 (ow_Z Q) M_Planner_search (d + 1) 0 0 60 [(5, .int r4), (0, .ref 46), (2, .int v2), (3, .int v3), (4, .int v4)] [.int r7, .ref 46] (85, I7, J7, R7) 0 0
        refine ow_pI 121 d_Planner_search_60 rfl rfl (by decide) rfl rfl rfl ?_
        obtain ⟨I8, eI8⟩ : ∃ uu, uu = ow_u I7 46 7 r7 := ⟨_, rfl⟩
        replace T := T I8 eI8
        rw [← eI8]
        refine ow_aload_n 1 rfl d_Planner_search_63 ?_
        refine ow_iload_n 2 rfl d_Planner_search_64 ?_
        refine ow_callV (b := 46) (cq := 2) (As := [.int v2]) (rest := []) (d2 := d) d_Planner_search_65 l_Planner_57 v_Planner_turnRow (show 46 < 85 by decide) rfl (by decide) rfl (Nat.le_of_ble_eq_true rfl) (Nat.le_refl _) ⟨Nat.le_refl _, Nat.le_refl _⟩ (ow_mono T ?_)
        rintro r h' ⟨r9, I9, J9, R9, rfl, rfl, hR9, T⟩
        show ow_AW ow_Y0 (ow_Z Q) M_Planner_search (d + 1) 0 0 68 [(5, .int r4), (0, .ref 46), (2, .int v2), (3, .int v3), (4, .int v4)] [.int r9] (85, I9, J9, R9) 0 0
        refine ow_istore_n (ls2 := [(3, .int r9), (5, .int r4), (0, .ref 46), (2, .int v2), (4, .int v4)]) d_Planner_search_68 (by decide) rfl ?_
        refine ow_iinc 4 (v := (v4 + 1)) (ls2 := [(4, .int (v4 + 1)), (3, .int r9), (5, .int r4), (0, .ref 46), (2, .int v2)]) d_Planner_search_69 rfl rfl (by decide) rfl ?_
        refine ow_goto (tgt := 16) d_Planner_search_72 (by decide) ?_
        refine ow_sub [3, 4, 1, 0] rfl ?_
        exact T
set_option maxRecDepth 4000 in
theorem t_Planner_search {d : Nat} {I : Nat → Nat → Int32} {J : Nat → Nat → Int64} {R : Nat → Nat → Option Nat} {Q : Option Value → ow_H → Prop} {p1 : Int32}  (hR : ow_RF R) (T : (ow_AM M_Planner_prepare d [.ref 46, .ref 29, .int p1] (85, I, J, R) (fun r h' => ∃ (I10 : Nat → Nat → Int32) (J10 : Nat → Nat → Int64) (R10 : Nat → Nat → Option Nat), r = none ∧ h' = (85, I10, J10, R10) ∧ ow_RF R10 ∧ (∀ (I11 : Nat → Nat → Int32), I11 = ow_u I10 46 8 (-1) → ow_AW ow_Y0 (ow_Z Q) M_Planner_search (d + 1) 0 0 16 [(0, .ref 46), (2, .int p1), (3, .int 1), (4, .int 0)] [] (85, I11, J10, R10) 0 0)))) : ow_AM M_Planner_search (d + 1) [.ref 46, .ref 29, .int p1] (85, I, J, R) Q := by
  refine ow_enter (by decide) (Nat.le_of_ble_eq_true rfl) ?_
  show ow_AW ow_Y0 (ow_Z Q) M_Planner_search (d + 1) 0 0 0 [(0, .ref 46), (1, .ref 29), (2, .int p1)] [] (85, I, J, R) 0 0
  refine ow_aload_n 0 rfl d_Planner_search_0 ?_
  refine ow_aload_n 1 rfl d_Planner_search_1 ?_
  refine ow_iload_n 2 rfl d_Planner_search_2 ?_
  refine ow_callV (b := 46) (cq := 2) (As := [.ref 29, .int p1]) (rest := []) (d2 := d) d_Planner_search_3 l_Planner_36 v_Planner_prepare (show 46 < 85 by decide) rfl (by decide) rfl (Nat.le_of_ble_eq_true rfl) (Nat.le_refl _) ⟨Nat.le_refl _, Nat.le_refl _⟩ (ow_mono T ?_)
  rintro r h' ⟨I10, J10, R10, rfl, rfl, hR10, T⟩
  show ow_AW ow_Y0 (ow_Z Q) M_Planner_search (d + 1) 0 0 6 [(0, .ref 46), (1, .ref 29), (2, .int p1)] [] (85, I10, J10, R10) 0 0
  refine ow_aload_n 0 rfl d_Planner_search_6 ?_
  refine ow_iconst (v := (-1)) (by decide) d_Planner_search_7 ?_
  refine ow_pI 123 d_Planner_search_8 rfl rfl (by decide) rfl rfl rfl ?_
  obtain ⟨I11, eI11⟩ : ∃ uu, uu = ow_u I10 46 8 (-1) := ⟨_, rfl⟩
  replace T := T I11 eI11
  rw [← eI11]
  refine ow_iconst (v := 1) (by decide) d_Planner_search_11 ?_
  refine ow_istore_n (ls2 := [(3, .int 1), (0, .ref 46), (1, .ref 29), (2, .int p1)]) d_Planner_search_12 (by decide) rfl ?_
  refine ow_iconst (v := 0) (by decide) d_Planner_search_13 ?_
  refine ow_istore (ls2 := [(4, .int 0), (3, .int 1), (0, .ref 46), (1, .ref 29), (2, .int p1)]) d_Planner_search_14 (by decide) rfl ?_
  refine ow_sub [2, 4, 1, 0] rfl ?_
  exact T
set_option maxRecDepth 4000 in
theorem t_Planner_prepare_36 {d : Nat} {I : Nat → Nat → Int32} {J : Nat → Nat → Int64} {R : Nat → Nat → Option Nat} {Q : Option Value → ow_H → Prop}  {v2 : Int32} {v3 : Int32}  (hR : ow_RF R) (T : ((64 ≤ v3 → ow_AW ow_Y0 (ow_Z Q) M_Planner_prepare (d + 1) 0 0 57 [(0, .ref 46), (2, .int v2), (3, .int 0)] [] (85, I, J, R) 0 0) ∧ (¬ 64 ≤ v3 → (vp_in v3 64 ∧ (∀ (I5 : Nat → Nat → Int32), I5 = ow_u I 53 (v3.toNatClampNeg) (-1) → ow_AW ow_Y0 (ow_Z Q) M_Planner_prepare (d + 1) 0 0 36 [(0, .ref 46), (2, .int v2), (3, .int (v3 + 1))] [] (85, I5, J, R) 0 0))))) : ow_AW ow_Y0 (ow_Z Q) M_Planner_prepare (d + 1) 0 0 36 [(0, .ref 46), (2, .int v2), (3, .int v3)] [] (85, I, J, R) 0 0 := by
  refine ow_iload_n 2 rfl d_Planner_prepare_36 ?_
  refine ow_bipush (v := 64) (by decide) d_Planner_prepare_37 ?_
  refine ow_icmp_ge (tgt := 55) d_Planner_prepare_39 (by decide) (fun c => ?_) (fun c => ?_)
  · replace T := T.1 c
    refine ow_iconst (v := 0) (by decide) d_Planner_prepare_55 ?_
    refine ow_istore_n (ls2 := [(3, .int 0), (0, .ref 46), (2, .int v2)]) d_Planner_prepare_56 (by decide) rfl ?_
    refine ow_sub [1, 2, 0] rfl ?_
    exact T
  · replace T := T.2 c
    refine ow_aload_n 0 rfl d_Planner_prepare_42 ?_
    refine ow_gR (a := 53) 119 d_Planner_prepare_43 rfl rfl (by decide) rfl ⟨rfl, hR 46 5 (by decide)⟩ ?_
    refine ow_iload_n 2 rfl d_Planner_prepare_46 ?_
    refine ow_iconst (v := (-1)) (by decide) d_Planner_prepare_47 ?_
    obtain ⟨cI, T⟩ := T
    refine ow_hiastore d_Planner_prepare_48 (by decide) rfl rfl cI ?_
    obtain ⟨I5, eI5⟩ : ∃ uu, uu = ow_u I 53 (v3.toNatClampNeg) (-1) := ⟨_, rfl⟩
    replace T := T I5 eI5
    rw [← eI5]
    refine ow_iinc 2 (v := (v3 + 1)) (ls2 := [(3, .int (v3 + 1)), (0, .ref 46), (2, .int v2)]) d_Planner_prepare_49 rfl rfl (by decide) rfl ?_
    refine ow_goto (tgt := 36) d_Planner_prepare_52 (by decide) ?_
    refine ow_sub [1, 2, 0] rfl ?_
    exact T
set_option maxRecDepth 4000 in
theorem t_Planner_prepare_57 {d : Nat} {I : Nat → Nat → Int32} {J : Nat → Nat → Int64} {R : Nat → Nat → Option Nat} {Q : Option Value → ow_H → Prop}  {v2 : Int32} {v3 : Int32}  (hR : ow_RF R) (T : ((v2 ≤ v3 → Q none (85, I, J, R)) ∧ (¬ v2 ≤ v3 → (vp_in v3 4 ∧ (∀ (I6 : Nat → Nat → Int32), I6 = ow_u I 51 (v3.toNatClampNeg) 0 → (ow_AM M_Planner_bitsSoundAfter d [.ref 46, .int (v2 - v3)] (85, I6, J, R) (fun r h' => ∃ (r7 : Int32) (I7 : Nat → Nat → Int32) (J7 : Nat → Nat → Int64) (R7 : Nat → Nat → Option Nat), r = some (.int r7) ∧ h' = (85, I7, J7, R7) ∧ ow_RF R7 ∧ (vp_in v3 4 ∧ (∀ (I8 : Nat → Nat → Int32), I8 = ow_u I7 52 (v3.toNatClampNeg) r7 → ow_AW ow_Y0 (ow_Z Q) M_Planner_prepare (d + 1) 0 0 57 [(0, .ref 46), (2, .int v2), (3, .int (v3 + 1))] [] (85, I8, J7, R7) 0 0))))))))) : ow_AW ow_Y0 (ow_Z Q) M_Planner_prepare (d + 1) 0 0 57 [(0, .ref 46), (2, .int v2), (3, .int v3)] [] (85, I, J, R) 0 0 := by
  refine ow_iload_n 2 rfl d_Planner_prepare_57 ?_
  refine ow_iload_n 1 rfl d_Planner_prepare_58 ?_
  refine ow_icmp_ge (tgt := 88) d_Planner_prepare_59 (by decide) (fun c => ?_) (fun c => ?_)
  · replace T := T.1 c
    exact ow_vret d_Planner_prepare_88 rfl T
  · replace T := T.2 c
    refine ow_aload_n 0 rfl d_Planner_prepare_62 ?_
    refine ow_gR (a := 51) 117 d_Planner_prepare_63 rfl rfl (by decide) rfl ⟨rfl, hR 46 3 (by decide)⟩ ?_
    refine ow_iload_n 2 rfl d_Planner_prepare_66 ?_
    refine ow_iconst (v := 0) (by decide) d_Planner_prepare_67 ?_
    obtain ⟨cI, T⟩ := T
    refine ow_hiastore d_Planner_prepare_68 (by decide) rfl rfl cI ?_
    obtain ⟨I6, eI6⟩ : ∃ uu, uu = ow_u I 51 (v3.toNatClampNeg) 0 := ⟨_, rfl⟩
    replace T := T I6 eI6
    rw [← eI6]
    refine ow_aload_n 0 rfl d_Planner_prepare_69 ?_
    refine ow_gR (a := 52) 118 d_Planner_prepare_70 rfl rfl (by decide) rfl ⟨rfl, hR 46 4 (by decide)⟩ ?_
    refine ow_iload_n 2 rfl d_Planner_prepare_73 ?_
    refine ow_aload_n 0 rfl d_Planner_prepare_74 ?_
    refine ow_iload_n 1 rfl d_Planner_prepare_75 ?_
    refine ow_iload_n 2 rfl d_Planner_prepare_76 ?_
    refine ow_isub d_Planner_prepare_77 ?_
    refine ow_callV (b := 46) (cq := 2) (As := [.int (v2 - v3)]) (rest := [.int v3, .ref 52]) (d2 := d) d_Planner_prepare_78 l_Planner_81 v_Planner_bitsSoundAfter (show 46 < 85 by decide) rfl (by decide) rfl (Nat.le_of_ble_eq_true rfl) (Nat.le_refl _) ⟨Nat.le_refl _, Nat.le_refl _⟩ (ow_mono T ?_)
    rintro r h' ⟨r7, I7, J7, R7, rfl, rfl, hR7, T⟩
    show ow_AW ow_Y0 (ow_Z Q) M_Planner_prepare (d + 1) 0 0 81 [(0, .ref 46), (2, .int v2), (3, .int v3)] [.int r7, .int v3, .ref 52] (85, I7, J7, R7) 0 0
    obtain ⟨cI, T⟩ := T
    refine ow_hiastore d_Planner_prepare_81 (by decide) rfl rfl cI ?_
    obtain ⟨I8, eI8⟩ : ∃ uu, uu = ow_u I7 52 (v3.toNatClampNeg) r7 := ⟨_, rfl⟩
    replace T := T I8 eI8
    rw [← eI8]
    refine ow_iinc 2 (v := (v3 + 1)) (ls2 := [(3, .int (v3 + 1)), (0, .ref 46), (2, .int v2)]) d_Planner_prepare_82 rfl rfl (by decide) rfl ?_
    refine ow_goto (tgt := 57) d_Planner_prepare_85 (by decide) ?_
    refine ow_sub [1, 2, 0] rfl ?_
    exact T
set_option maxRecDepth 4000 in
theorem t_Planner_prepare {d : Nat} {I : Nat → Nat → Int32} {J : Nat → Nat → Int64} {R : Nat → Nat → Option Nat} {Q : Option Value → ow_H → Prop} {p1 : Int32}  (hR : ow_RF R) (T : (ow_AM M_Scene_take d [.ref 47, .ref 29] (85, I, J, R) (fun r h' => ∃ (I9 : Nat → Nat → Int32) (J9 : Nat → Nat → Int64) (R9 : Nat → Nat → Option Nat), r = none ∧ h' = (85, I9, J9, R9) ∧ ow_RF R9 ∧ (ow_AM M_Scene_age d [.ref 47, .int (I9 2 1), .int p1] (85, I9, J9, R9) (fun r h' => ∃ (I10 : Nat → Nat → Int32) (J10 : Nat → Nat → Int64) (R10 : Nat → Nat → Option Nat), r = none ∧ h' = (85, I10, J10, R10) ∧ ow_RF R10 ∧ (ow_AM M_Scene_bitsSound d [.ref 47] (85, I10, J10, R10) (fun r h' => ∃ (r11 : Int32) (I11 : Nat → Nat → Int32) (J11 : Nat → Nat → Int64) (R11 : Nat → Nat → Option Nat), r = some (.int r11) ∧ h' = (85, I11, J11, R11) ∧ ow_RF R11 ∧ (∀ (I12 : Nat → Nat → Int32), I12 = ow_u I11 46 6 r11 → ow_AW ow_Y0 (ow_Z Q) M_Planner_prepare (d + 1) 0 0 36 [(0, .ref 46), (2, .int p1), (3, .int 0)] [] (85, I12, J11, R11) 0 0)))))))) : ow_AM M_Planner_prepare (d + 1) [.ref 46, .ref 29, .int p1] (85, I, J, R) Q := by
  refine ow_enter (by decide) (Nat.le_of_ble_eq_true rfl) ?_
  show ow_AW ow_Y0 (ow_Z Q) M_Planner_prepare (d + 1) 0 0 0 [(0, .ref 46), (1, .ref 29), (2, .int p1)] [] (85, I, J, R) 0 0
  refine ow_aload_n 0 rfl d_Planner_prepare_0 ?_
  refine ow_gR (a := 47) 116 d_Planner_prepare_1 rfl rfl (by decide) rfl ⟨rfl, hR 46 2 (by decide)⟩ ?_
  refine ow_aload_n 1 rfl d_Planner_prepare_4 ?_
  refine ow_callV (b := 47) (cq := 4) (As := [.ref 29]) (rest := []) (d2 := d) d_Planner_prepare_5 l_Planner_61 v_Scene_take (show 47 < 85 by decide) rfl (by decide) rfl (Nat.le_of_ble_eq_true rfl) (Nat.le_refl _) ⟨Nat.le_refl _, Nat.le_refl _⟩ (ow_mono T ?_)
  rintro r h' ⟨I9, J9, R9, rfl, rfl, hR9, T⟩
  show ow_AW ow_Y0 (ow_Z Q) M_Planner_prepare (d + 1) 0 0 8 [(0, .ref 46), (1, .ref 29), (2, .int p1)] [] (85, I9, J9, R9) 0 0
  refine ow_aload_n 0 rfl d_Planner_prepare_8 ?_
  refine ow_gR (a := 47) 116 d_Planner_prepare_9 rfl rfl (by decide) rfl ⟨rfl, hR9 46 2 (by decide)⟩ ?_
  refine ow_aload_n 0 rfl d_Planner_prepare_12 ?_
  refine ow_gR (a := 2) 114 d_Planner_prepare_13 rfl rfl (by decide) rfl ⟨rfl, hR9 46 0 (by decide)⟩ ?_
  refine ow_gI 31 d_Planner_prepare_16 rfl rfl (by decide) rfl (Or.inl rfl) ?_
  refine ow_iload_n 2 rfl d_Planner_prepare_19 ?_
  refine ow_callV (b := 47) (cq := 4) (As := [.int (I9 2 1), .int p1]) (rest := []) (d2 := d) d_Planner_prepare_20 l_Planner_70 v_Scene_age (show 47 < 85 by decide) rfl (by decide) rfl (Nat.le_of_ble_eq_true rfl) (Nat.le_refl _) ⟨Nat.le_refl _, Nat.le_refl _⟩ (ow_mono T ?_)
  rintro r h' ⟨I10, J10, R10, rfl, rfl, hR10, T⟩
  show ow_AW ow_Y0 (ow_Z Q) M_Planner_prepare (d + 1) 0 0 23 [(0, .ref 46), (1, .ref 29), (2, .int p1)] [] (85, I10, J10, R10) 0 0
  refine ow_aload_n 0 rfl d_Planner_prepare_23 ?_
  refine ow_aload_n 0 rfl d_Planner_prepare_24 ?_
  refine ow_gR (a := 47) 116 d_Planner_prepare_25 rfl rfl (by decide) rfl ⟨rfl, hR10 46 2 (by decide)⟩ ?_
  refine ow_callV (b := 47) (cq := 4) (As := []) (rest := [.ref 46]) (d2 := d) d_Planner_prepare_28 l_Planner_74 v_Scene_bitsSound (show 47 < 85 by decide) rfl (by decide) rfl (Nat.le_of_ble_eq_true rfl) (Nat.le_refl _) ⟨Nat.le_refl _, Nat.le_refl _⟩ (ow_mono T ?_)
  rintro r h' ⟨r11, I11, J11, R11, rfl, rfl, hR11, T⟩
  show ow_AW ow_Y0 (ow_Z Q) M_Planner_prepare (d + 1) 0 0 31 [(0, .ref 46), (1, .ref 29), (2, .int p1)] [.int r11, .ref 46] (85, I11, J11, R11) 0 0
  refine ow_pI 120 d_Planner_prepare_31 rfl rfl (by decide) rfl rfl rfl ?_
  obtain ⟨I12, eI12⟩ : ∃ uu, uu = ow_u I11 46 6 r11 := ⟨_, rfl⟩
  replace T := T I12 eI12
  rw [← eI12]
  refine ow_iconst (v := 0) (by decide) d_Planner_prepare_34 ?_
  refine ow_istore_n (ls2 := [(3, .int 0), (0, .ref 46), (1, .ref 29), (2, .int p1)]) d_Planner_prepare_35 (by decide) rfl ?_
  refine ow_sub [1, 3, 0] rfl ?_
  exact T
set_option maxRecDepth 4000 in
theorem t_Planner_bitsSoundAfter_4 {d : Nat} {I : Nat → Nat → Int32} {J : Nat → Nat → Int64} {R : Nat → Nat → Option Nat} {Q : Option Value → ow_H → Prop}  {v1 : Int32} {v2 : Int32} {v3 : Int32}  (hR : ow_RF R) (T : (((I 3 0) ≤ v3 → Q (some (.int v2)) (85, I, J, R)) ∧ (¬ (I 3 0) ≤ v3 → (vp_in v3 6 ∧ (((I 5 v3.toNatClampNeg) ≤ ((I 2 1) * v1) → ow_AW ow_Y0 (ow_Z Q) M_Planner_bitsSoundAfter (d + 1) 0 0 4 [(0, .ref 46), (1, .int v1), (2, .int v2), (3, .int (v3 + 1))] [] (85, I, J, R) 0 0) ∧ (¬ (I 5 v3.toNatClampNeg) ≤ ((I 2 1) * v1) → ow_AW ow_Y0 (ow_Z Q) M_Planner_bitsSoundAfter (d + 1) 0 0 4 [(0, .ref 46), (1, .int v1), (2, .int (v2 ||| ((1 : Int32) <<< (v3 &&& 31)))), (3, .int (v3 + 1))] [] (85, I, J, R) 0 0)))))) : ow_AW ow_Y0 (ow_Z Q) M_Planner_bitsSoundAfter (d + 1) 0 0 4 [(0, .ref 46), (1, .int v1), (2, .int v2), (3, .int v3)] [] (85, I, J, R) 0 0 := by
  refine ow_iload_n 3 rfl d_Planner_bitsSoundAfter_4 ?_
  refine ow_aload_n 0 rfl d_Planner_bitsSoundAfter_5 ?_
  refine ow_gR (a := 2) 114 d_Planner_bitsSoundAfter_6 rfl rfl (by decide) rfl ⟨rfl, hR 46 0 (by decide)⟩ ?_
  refine ow_gR (a := 3) 38 d_Planner_bitsSoundAfter_9 rfl rfl (by decide) rfl ⟨rfl, hR 2 2 (by decide)⟩ ?_
  refine ow_gI 4 d_Planner_bitsSoundAfter_12 rfl rfl (by decide) rfl (Or.inl rfl) ?_
  refine ow_icmp_ge (tgt := 54) d_Planner_bitsSoundAfter_15 (by decide) (fun c => ?_) (fun c => ?_)
  · replace T := T.1 c
    refine ow_iload_n 2 rfl d_Planner_bitsSoundAfter_54 ?_
    exact ow_iret d_Planner_bitsSoundAfter_55 rfl T
  · replace T := T.2 c
    refine ow_aload_n 0 rfl d_Planner_bitsSoundAfter_18 ?_
    refine ow_gR (a := 2) 114 d_Planner_bitsSoundAfter_19 rfl rfl (by decide) rfl ⟨rfl, hR 46 0 (by decide)⟩ ?_
    refine ow_gR (a := 3) 38 d_Planner_bitsSoundAfter_22 rfl rfl (by decide) rfl ⟨rfl, hR 2 2 (by decide)⟩ ?_
    refine ow_gR (a := 5) 18 d_Planner_bitsSoundAfter_25 rfl rfl (by decide) rfl ⟨rfl, hR 3 4 (by decide)⟩ ?_
    refine ow_iload_n 3 rfl d_Planner_bitsSoundAfter_28 ?_
    obtain ⟨cI, T⟩ := T
    refine ow_hiaload d_Planner_bitsSoundAfter_29 (by decide) rfl rfl cI ?_
    refine ow_aload_n 0 rfl d_Planner_bitsSoundAfter_30 ?_
    refine ow_gR (a := 2) 114 d_Planner_bitsSoundAfter_31 rfl rfl (by decide) rfl ⟨rfl, hR 46 0 (by decide)⟩ ?_
    refine ow_gI 31 d_Planner_bitsSoundAfter_34 rfl rfl (by decide) rfl (Or.inl rfl) ?_
    refine ow_iload_n 1 rfl d_Planner_bitsSoundAfter_37 ?_
    refine ow_imul d_Planner_bitsSoundAfter_38 ?_
    refine ow_icmp_le (tgt := 48) d_Planner_bitsSoundAfter_39 (by decide) (fun c => ?_) (fun c => ?_)
    · replace T := T.1 c
      refine ow_iinc 3 (v := (v3 + 1)) (ls2 := [(3, .int (v3 + 1)), (0, .ref 46), (1, .int v1), (2, .int v2)]) d_Planner_bitsSoundAfter_48 rfl rfl (by decide) rfl ?_
      refine ow_goto (tgt := 4) d_Planner_bitsSoundAfter_51 (by decide) ?_
      refine ow_sub [1, 2, 3, 0] rfl ?_
      exact T
    · replace T := T.2 c
      refine ow_iload_n 2 rfl d_Planner_bitsSoundAfter_42 ?_
      refine ow_iconst (v := 1) (by decide) d_Planner_bitsSoundAfter_43 ?_
      refine ow_iload_n 3 rfl d_Planner_bitsSoundAfter_44 ?_
      refine ow_ishl d_Planner_bitsSoundAfter_45 ?_
      refine ow_ior d_Planner_bitsSoundAfter_46 ?_
      refine ow_istore_n (ls2 := [(2, .int (v2 ||| ((1 : Int32) <<< (v3 &&& 31)))), (0, .ref 46), (1, .int v1), (3, .int v3)]) d_Planner_bitsSoundAfter_47 (by decide) rfl ?_
      refine ow_iinc 3 (v := (v3 + 1)) (ls2 := [(3, .int (v3 + 1)), (2, .int (v2 ||| ((1 : Int32) <<< (v3 &&& 31)))), (0, .ref 46), (1, .int v1)]) d_Planner_bitsSoundAfter_48 rfl rfl (by decide) rfl ?_
      refine ow_goto (tgt := 4) d_Planner_bitsSoundAfter_51 (by decide) ?_
      refine ow_sub [2, 3, 1, 0] rfl ?_
      exact T
set_option maxRecDepth 4000 in
theorem t_Planner_bitsSoundAfter {d : Nat} {I : Nat → Nat → Int32} {J : Nat → Nat → Int64} {R : Nat → Nat → Option Nat} {Q : Option Value → ow_H → Prop} {p1 : Int32}  (hR : ow_RF R) (T : ow_AW ow_Y0 (ow_Z Q) M_Planner_bitsSoundAfter (d + 1) 0 0 4 [(0, .ref 46), (1, .int p1), (2, .int 0), (3, .int 0)] [] (85, I, J, R) 0 0) : ow_AM M_Planner_bitsSoundAfter (d + 1) [.ref 46, .int p1] (85, I, J, R) Q := by
  refine ow_enter (by decide) (Nat.le_of_ble_eq_true rfl) ?_
  show ow_AW ow_Y0 (ow_Z Q) M_Planner_bitsSoundAfter (d + 1) 0 0 0 [(0, .ref 46), (1, .int p1)] [] (85, I, J, R) 0 0
  refine ow_iconst (v := 0) (by decide) d_Planner_bitsSoundAfter_0 ?_
  refine ow_istore_n (ls2 := [(2, .int 0), (0, .ref 46), (1, .int p1)]) d_Planner_bitsSoundAfter_1 (by decide) rfl ?_
  refine ow_iconst (v := 0) (by decide) d_Planner_bitsSoundAfter_2 ?_
  refine ow_istore_n (ls2 := [(3, .int 0), (2, .int 0), (0, .ref 46), (1, .int p1)]) d_Planner_bitsSoundAfter_3 (by decide) rfl ?_
  refine ow_sub [2, 3, 1, 0] rfl ?_
  exact T
set_option maxRecDepth 4000 in
theorem t_Planner_soundBehindRow_7 {d : Nat} {I : Nat → Nat → Int32} {J : Nat → Nat → Int64} {R : Nat → Nat → Option Nat} {Q : Option Value → ow_H → Prop}  {v1 : Int32} {v2 : Int32} {v3 : Int32}  (hR : ow_RF R) (T : ((v1 ≤ v3 → Q (some (.int v2)) (85, I, J, R)) ∧ (¬ v1 ≤ v3 → (vp_in v3 4 ∧ (((I 51 v3.toNatClampNeg) ≤ 0 → ow_AW ow_Y0 (ow_Z Q) M_Planner_soundBehindRow (d + 1) 0 0 7 [(0, .ref 46), (1, .int v1), (2, .int v2), (3, .int (v3 + 1))] [] (85, I, J, R) 0 0) ∧ (¬ (I 51 v3.toNatClampNeg) ≤ 0 → (vp_in v3 4 ∧ (vp_in v3 4 ∧ ow_AW ow_Y0 (ow_Z Q) M_Planner_soundBehindRow (d + 1) 0 0 7 [(0, .ref 46), (1, .int v1), (2, .int ((v2 &&& (((1 : Int32) <<< (((I 51 v3.toNatClampNeg) - 1) &&& 31)) ^^^ (-1))) ||| ((I 52 v3.toNatClampNeg) &&& ((1 : Int32) <<< (((I 51 v3.toNatClampNeg) - 1) &&& 31))))), (3, .int (v3 + 1))] [] (85, I, J, R) 0 0)))))))) : ow_AW ow_Y0 (ow_Z Q) M_Planner_soundBehindRow (d + 1) 0 0 7 [(0, .ref 46), (1, .int v1), (2, .int v2), (3, .int v3)] [] (85, I, J, R) 0 0 := by
  refine ow_iload_n 3 rfl d_Planner_soundBehindRow_7 ?_
  refine ow_iload_n 1 rfl d_Planner_soundBehindRow_8 ?_
  refine ow_icmp_ge (tgt := 56) d_Planner_soundBehindRow_9 (by decide) (fun c => ?_) (fun c => ?_)
  · replace T := T.1 c
    refine ow_iload_n 2 rfl d_Planner_soundBehindRow_56 ?_
    exact ow_iret d_Planner_soundBehindRow_57 rfl T
  · replace T := T.2 c
    refine ow_aload_n 0 rfl d_Planner_soundBehindRow_12 ?_
    refine ow_gR (a := 51) 117 d_Planner_soundBehindRow_13 rfl rfl (by decide) rfl ⟨rfl, hR 46 3 (by decide)⟩ ?_
    refine ow_iload_n 3 rfl d_Planner_soundBehindRow_16 ?_
    obtain ⟨cI, T⟩ := T
    refine ow_hiaload d_Planner_soundBehindRow_17 (by decide) rfl rfl cI ?_
    refine ow_if_le (tgt := 50) d_Planner_soundBehindRow_18 (by decide) (fun c => ?_) (fun c => ?_)
    · replace T := T.1 c
      refine ow_iinc 3 (v := (v3 + 1)) (ls2 := [(3, .int (v3 + 1)), (0, .ref 46), (1, .int v1), (2, .int v2)]) d_Planner_soundBehindRow_50 rfl rfl (by decide) rfl ?_
      refine ow_goto (tgt := 7) d_Planner_soundBehindRow_53 (by decide) ?_
      refine ow_sub [1, 2, 3, 0] rfl ?_
      exact T
    · replace T := T.2 c
      refine ow_iconst (v := 1) (by decide) d_Planner_soundBehindRow_21 ?_
      refine ow_aload_n 0 rfl d_Planner_soundBehindRow_22 ?_
      refine ow_gR (a := 51) 117 d_Planner_soundBehindRow_23 rfl rfl (by decide) rfl ⟨rfl, hR 46 3 (by decide)⟩ ?_
      refine ow_iload_n 3 rfl d_Planner_soundBehindRow_26 ?_
      obtain ⟨cI, T⟩ := T
      refine ow_hiaload d_Planner_soundBehindRow_27 (by decide) rfl rfl cI ?_
      refine ow_iconst (v := 1) (by decide) d_Planner_soundBehindRow_28 ?_
      refine ow_isub d_Planner_soundBehindRow_29 ?_
      refine ow_ishl d_Planner_soundBehindRow_30 ?_
      refine ow_istore (ls2 := [(4, .int ((1 : Int32) <<< (((I 51 v3.toNatClampNeg) - 1) &&& 31))), (0, .ref 46), (1, .int v1), (2, .int v2), (3, .int v3)]) d_Planner_soundBehindRow_31 (by decide) rfl ?_
      refine ow_iload_n 3 rfl d_Planner_soundBehindRow_33 ?_
      refine ow_iload 0 rfl d_Planner_soundBehindRow_34 ?_
      refine ow_iconst (v := (-1)) (by decide) d_Planner_soundBehindRow_36 ?_
      refine ow_ixor d_Planner_soundBehindRow_37 ?_
      refine ow_iand d_Planner_soundBehindRow_38 ?_
      refine ow_aload_n 1 rfl d_Planner_soundBehindRow_39 ?_
      refine ow_gR (a := 52) 118 d_Planner_soundBehindRow_40 rfl rfl (by decide) rfl ⟨rfl, hR 46 4 (by decide)⟩ ?_
      refine ow_iload_n 4 rfl d_Planner_soundBehindRow_43 ?_
      obtain ⟨cI, T⟩ := T
      refine ow_hiaload d_Planner_soundBehindRow_44 (by decide) rfl rfl cI ?_
      refine ow_iload 0 rfl d_Planner_soundBehindRow_45 ?_
      refine ow_iand d_Planner_soundBehindRow_47 ?_
      refine ow_ior d_Planner_soundBehindRow_48 ?_
      refine ow_istore_n (ls2 := [(2, .int ((v2 &&& (((1 : Int32) <<< (((I 51 v3.toNatClampNeg) - 1) &&& 31)) ^^^ (-1))) ||| ((I 52 v3.toNatClampNeg) &&& ((1 : Int32) <<< (((I 51 v3.toNatClampNeg) - 1) &&& 31))))), (4, .int ((1 : Int32) <<< (((I 51 v3.toNatClampNeg) - 1) &&& 31))), (0, .ref 46), (1, .int v1), (3, .int v3)]) d_Planner_soundBehindRow_49 (by decide) rfl ?_
      refine ow_iinc 4 (v := (v3 + 1)) (ls2 := [(3, .int (v3 + 1)), (2, .int ((v2 &&& (((1 : Int32) <<< (((I 51 v3.toNatClampNeg) - 1) &&& 31)) ^^^ (-1))) ||| ((I 52 v3.toNatClampNeg) &&& ((1 : Int32) <<< (((I 51 v3.toNatClampNeg) - 1) &&& 31))))), (4, .int ((1 : Int32) <<< (((I 51 v3.toNatClampNeg) - 1) &&& 31))), (0, .ref 46), (1, .int v1)]) d_Planner_soundBehindRow_50 rfl rfl (by decide) rfl ?_
      refine ow_goto (tgt := 7) d_Planner_soundBehindRow_53 (by decide) ?_
      refine ow_sub [3, 4, 1, 0] rfl ?_
      exact T
set_option maxRecDepth 4000 in
theorem t_Planner_soundBehindRow {d : Nat} {I : Nat → Nat → Int32} {J : Nat → Nat → Int64} {R : Nat → Nat → Option Nat} {Q : Option Value → ow_H → Prop} {p1 : Int32}  (hR : ow_RF R) (T : ow_AW ow_Y0 (ow_Z Q) M_Planner_soundBehindRow (d + 1) 0 0 7 [(0, .ref 46), (1, .int p1), (2, .int (I 46 6)), (3, .int 0)] [] (85, I, J, R) 0 0) : ow_AM M_Planner_soundBehindRow (d + 1) [.ref 46, .int p1] (85, I, J, R) Q := by
  refine ow_enter (by decide) (Nat.le_of_ble_eq_true rfl) ?_
  show ow_AW ow_Y0 (ow_Z Q) M_Planner_soundBehindRow (d + 1) 0 0 0 [(0, .ref 46), (1, .int p1)] [] (85, I, J, R) 0 0
  refine ow_aload_n 0 rfl d_Planner_soundBehindRow_0 ?_
  refine ow_gI 120 d_Planner_soundBehindRow_1 rfl rfl (by decide) rfl (Or.inl rfl) ?_
  refine ow_istore_n (ls2 := [(2, .int (I 46 6)), (0, .ref 46), (1, .int p1)]) d_Planner_soundBehindRow_4 (by decide) rfl ?_
  refine ow_iconst (v := 0) (by decide) d_Planner_soundBehindRow_5 ?_
  refine ow_istore_n (ls2 := [(3, .int 0), (2, .int (I 46 6)), (0, .ref 46), (1, .int p1)]) d_Planner_soundBehindRow_6 (by decide) rfl ?_
  refine ow_sub [2, 3, 1, 0] rfl ?_
  exact T
set_option maxRecDepth 4000 in
theorem t_Planner_countBehind {d : Nat} {I : Nat → Nat → Int32} {J : Nat → Nat → Int64} {R : Nat → Nat → Option Nat} {Q : Option Value → ow_H → Prop} {p1 : Int32}  (hR : ow_RF R) (T : ((p1 < 0 → Q (some (.int 0)) (85, I, J, R)) ∧ (¬ p1 < 0 → ((p1 < 64 → (vp_in p1 64 ∧ ((¬ (I 53 p1.toNatClampNeg) = (-1) → (vp_in p1 64 ∧ Q (some (.int (I 53 p1.toNatClampNeg))) (85, I, J, R))) ∧ ((I 53 p1.toNatClampNeg) = (-1) → (ow_AM M_Scene_standBy d [.ref 47, .int p1] (85, I, J, R) (fun r h' => ∃ (I5 : Nat → Nat → Int32) (J5 : Nat → Nat → Int64) (R5 : Nat → Nat → Option Nat), r = none ∧ h' = (85, I5, J5, R5) ∧ ow_RF R5 ∧ (ow_AM M_Serving_bitsServed d [.ref 39, .ref 47] (85, I5, J5, R5) (fun r h' => ∃ (r6 : Int32) (I6 : Nat → Nat → Int32) (J6 : Nat → Nat → Int64) (R6 : Nat → Nat → Option Nat), r = some (.int r6) ∧ h' = (85, I6, J6, R6) ∧ ow_RF R6 ∧ (ow_AM M_Integer_bitCount d [.int r6] (85, I6, J6, R6) (fun r h' => ∃ (r7 : Int32) (I7 : Nat → Nat → Int32) (J7 : Nat → Nat → Int64) (R7 : Nat → Nat → Option Nat), r = some (.int r7) ∧ h' = (85, I7, J7, R7) ∧ ow_RF R7 ∧ (vp_in p1 64 ∧ (∀ (I8 : Nat → Nat → Int32), I8 = ow_u I7 53 (p1.toNatClampNeg) r7 → (vp_in p1 64 ∧ Q (some (.int (I8 53 p1.toNatClampNeg))) (85, I8, J7, R7)))))))))))))) ∧ (¬ p1 < 64 → Q (some (.int 0)) (85, I, J, R)))))) : ow_AM M_Planner_countBehind (d + 1) [.ref 46, .int p1] (85, I, J, R) Q := by
  refine ow_enter (by decide) (Nat.le_of_ble_eq_true rfl) ?_
  show ow_AW ow_Y0 (ow_Z Q) M_Planner_countBehind (d + 1) 0 0 0 [(0, .ref 46), (1, .int p1)] [] (85, I, J, R) 0 0
  refine ow_iload_n 1 rfl d_Planner_countBehind_0 ?_
  refine ow_if_lt (tgt := 10) d_Planner_countBehind_1 (by decide) (fun c => ?_) (fun c => ?_)
  · replace T := T.1 c
    refine ow_iconst (v := 0) (by decide) d_Planner_countBehind_10 ?_
    exact ow_iret d_Planner_countBehind_11 rfl T
  · replace T := T.2 c
    refine ow_iload_n 1 rfl d_Planner_countBehind_4 ?_
    refine ow_bipush (v := 64) (by decide) d_Planner_countBehind_5 ?_
    refine ow_icmp_lt (tgt := 12) d_Planner_countBehind_7 (by decide) (fun c => ?_) (fun c => ?_)
    · replace T := T.1 c
      refine ow_aload_n 0 rfl d_Planner_countBehind_12 ?_
      refine ow_gR (a := 53) 119 d_Planner_countBehind_13 rfl rfl (by decide) rfl ⟨rfl, hR 46 5 (by decide)⟩ ?_
      refine ow_iload_n 1 rfl d_Planner_countBehind_16 ?_
      obtain ⟨cI, T⟩ := T
      refine ow_hiaload d_Planner_countBehind_17 (by decide) rfl rfl cI ?_
      refine ow_iconst (v := (-1)) (by decide) d_Planner_countBehind_18 ?_
      refine ow_icmp_ne (tgt := 50) d_Planner_countBehind_19 (by decide) (fun c => ?_) (fun c => ?_)
      · replace T := T.1 c
        refine ow_aload_n 0 rfl d_Planner_countBehind_50 ?_
        refine ow_gR (a := 53) 119 d_Planner_countBehind_51 rfl rfl (by decide) rfl ⟨rfl, hR 46 5 (by decide)⟩ ?_
        refine ow_iload_n 1 rfl d_Planner_countBehind_54 ?_
        obtain ⟨cI, T⟩ := T
        refine ow_hiaload d_Planner_countBehind_55 (by decide) rfl rfl cI ?_
        exact ow_iret d_Planner_countBehind_56 rfl T
      · replace T := T.2 c
        refine ow_aload_n 0 rfl d_Planner_countBehind_22 ?_
        refine ow_gR (a := 47) 116 d_Planner_countBehind_23 rfl rfl (by decide) rfl ⟨rfl, hR 46 2 (by decide)⟩ ?_
        refine ow_iload_n 1 rfl d_Planner_countBehind_26 ?_
        refine ow_callV (b := 47) (cq := 4) (As := [.int p1]) (rest := []) (d2 := d) d_Planner_countBehind_27 l_Planner_93 v_Scene_standBy (show 47 < 85 by decide) rfl (by decide) rfl (Nat.le_of_ble_eq_true rfl) (Nat.le_refl _) ⟨Nat.le_refl _, Nat.le_refl _⟩ (ow_mono T ?_)
        rintro r h' ⟨I5, J5, R5, rfl, rfl, hR5, T⟩
        show ow_AW ow_Y0 (ow_Z Q) M_Planner_countBehind (d + 1) 0 0 30 [(0, .ref 46), (1, .int p1)] [] (85, I5, J5, R5) 0 0
        refine ow_aload_n 0 rfl d_Planner_countBehind_30 ?_
        refine ow_gR (a := 53) 119 d_Planner_countBehind_31 rfl rfl (by decide) rfl ⟨rfl, hR5 46 5 (by decide)⟩ ?_
        refine ow_iload_n 1 rfl d_Planner_countBehind_34 ?_
        refine ow_aload_n 0 rfl d_Planner_countBehind_35 ?_
        refine ow_gR (a := 39) 115 d_Planner_countBehind_36 rfl rfl (by decide) rfl ⟨rfl, hR5 46 1 (by decide)⟩ ?_
        refine ow_aload_n 0 rfl d_Planner_countBehind_39 ?_
        refine ow_gR (a := 47) 116 d_Planner_countBehind_40 rfl rfl (by decide) rfl ⟨rfl, hR5 46 2 (by decide)⟩ ?_
        refine ow_callV (b := 39) (cq := 5) (As := [.ref 47]) (rest := [.int p1, .ref 53]) (d2 := d) d_Planner_countBehind_43 l_Planner_97 v_Serving_bitsServed (show 39 < 85 by decide) rfl (by decide) rfl (Nat.le_of_ble_eq_true rfl) (Nat.le_refl _) ⟨Nat.le_refl _, Nat.le_refl _⟩ (ow_mono T ?_)
        rintro r h' ⟨r6, I6, J6, R6, rfl, rfl, hR6, T⟩
        show ow_AW ow_Y0 (ow_Z Q) M_Planner_countBehind (d + 1) 0 0 46 [(0, .ref 46), (1, .int p1)] [.int r6, .int p1, .ref 53] (85, I6, J6, R6) 0 0
        refine ow_callS (As := [.int r6]) (rest := [.int p1, .ref 53]) (d2 := d) d_Planner_countBehind_46 l_Planner_103 v_Integer_bitCount (Nat.le_of_ble_eq_true rfl) (Nat.le_refl _) ⟨Nat.le_refl _, Nat.le_refl _⟩ (ow_mono T ?_)
        rintro r h' ⟨r7, I7, J7, R7, rfl, rfl, hR7, T⟩
        show ow_AW ow_Y0 (ow_Z Q) M_Planner_countBehind (d + 1) 0 0 49 [(0, .ref 46), (1, .int p1)] [.int r7, .int p1, .ref 53] (85, I7, J7, R7) 0 0
        obtain ⟨cI, T⟩ := T
        refine ow_hiastore d_Planner_countBehind_49 (by decide) rfl rfl cI ?_
        obtain ⟨I8, eI8⟩ : ∃ uu, uu = ow_u I7 53 (p1.toNatClampNeg) r7 := ⟨_, rfl⟩
        replace T := T I8 eI8
        rw [← eI8]
        refine ow_aload_n 0 rfl d_Planner_countBehind_50 ?_
        refine ow_gR (a := 53) 119 d_Planner_countBehind_51 rfl rfl (by decide) rfl ⟨rfl, hR7 46 5 (by decide)⟩ ?_
        refine ow_iload_n 1 rfl d_Planner_countBehind_54 ?_
        obtain ⟨cI, T⟩ := T
        refine ow_hiaload d_Planner_countBehind_55 (by decide) rfl rfl cI ?_
        exact ow_iret d_Planner_countBehind_56 rfl T
    · replace T := T.2 c
      refine ow_iconst (v := 0) (by decide) d_Planner_countBehind_10 ?_
      exact ow_iret d_Planner_countBehind_11 rfl T
set_option maxRecDepth 4000 in
theorem t_Planner_rowAsDigits_4 {d : Nat} {I : Nat → Nat → Int32} {J : Nat → Nat → Int64} {R : Nat → Nat → Option Nat} {Q : Option Value → ow_H → Prop}  {v1 : Int32} {v2 : Int32} {v3 : Int32}  (hR : ow_RF R) (T : ((v1 ≤ v3 → Q (some (.int v2)) (85, I, J, R)) ∧ (¬ v1 ≤ v3 → (vp_in v3 4 ∧ ow_AW ow_Y0 (ow_Z Q) M_Planner_rowAsDigits (d + 1) 0 0 4 [(0, .ref 46), (1, .int v1), (2, .int ((v2 * 10) + (I 51 v3.toNatClampNeg))), (3, .int (v3 + 1))] [] (85, I, J, R) 0 0)))) : ow_AW ow_Y0 (ow_Z Q) M_Planner_rowAsDigits (d + 1) 0 0 4 [(0, .ref 46), (1, .int v1), (2, .int v2), (3, .int v3)] [] (85, I, J, R) 0 0 := by
  refine ow_iload_n 3 rfl d_Planner_rowAsDigits_4 ?_
  refine ow_iload_n 1 rfl d_Planner_rowAsDigits_5 ?_
  refine ow_icmp_ge (tgt := 27) d_Planner_rowAsDigits_6 (by decide) (fun c => ?_) (fun c => ?_)
  · replace T := T.1 c
    refine ow_iload_n 2 rfl d_Planner_rowAsDigits_27 ?_
    exact ow_iret d_Planner_rowAsDigits_28 rfl T
  · replace T := T.2 c
    refine ow_iload_n 2 rfl d_Planner_rowAsDigits_9 ?_
    refine ow_bipush (v := 10) (by decide) d_Planner_rowAsDigits_10 ?_
    refine ow_imul d_Planner_rowAsDigits_12 ?_
    refine ow_aload_n 0 rfl d_Planner_rowAsDigits_13 ?_
    refine ow_gR (a := 51) 117 d_Planner_rowAsDigits_14 rfl rfl (by decide) rfl ⟨rfl, hR 46 3 (by decide)⟩ ?_
    refine ow_iload_n 3 rfl d_Planner_rowAsDigits_17 ?_
    obtain ⟨cI, T⟩ := T
    refine ow_hiaload d_Planner_rowAsDigits_18 (by decide) rfl rfl cI ?_
    refine ow_iadd d_Planner_rowAsDigits_19 ?_
    refine ow_istore_n (ls2 := [(2, .int ((v2 * 10) + (I 51 v3.toNatClampNeg))), (0, .ref 46), (1, .int v1), (3, .int v3)]) d_Planner_rowAsDigits_20 (by decide) rfl ?_
    refine ow_iinc 3 (v := (v3 + 1)) (ls2 := [(3, .int (v3 + 1)), (2, .int ((v2 * 10) + (I 51 v3.toNatClampNeg))), (0, .ref 46), (1, .int v1)]) d_Planner_rowAsDigits_21 rfl rfl (by decide) rfl ?_
    refine ow_goto (tgt := 4) d_Planner_rowAsDigits_24 (by decide) ?_
    refine ow_sub [2, 3, 1, 0] rfl ?_
    exact T
set_option maxRecDepth 4000 in
theorem t_Planner_rowAsDigits {d : Nat} {I : Nat → Nat → Int32} {J : Nat → Nat → Int64} {R : Nat → Nat → Option Nat} {Q : Option Value → ow_H → Prop} {p1 : Int32}  (hR : ow_RF R) (T : ow_AW ow_Y0 (ow_Z Q) M_Planner_rowAsDigits (d + 1) 0 0 4 [(0, .ref 46), (1, .int p1), (2, .int 0), (3, .int 0)] [] (85, I, J, R) 0 0) : ow_AM M_Planner_rowAsDigits (d + 1) [.ref 46, .int p1] (85, I, J, R) Q := by
  refine ow_enter (by decide) (Nat.le_of_ble_eq_true rfl) ?_
  show ow_AW ow_Y0 (ow_Z Q) M_Planner_rowAsDigits (d + 1) 0 0 0 [(0, .ref 46), (1, .int p1)] [] (85, I, J, R) 0 0
  refine ow_iconst (v := 0) (by decide) d_Planner_rowAsDigits_0 ?_
  refine ow_istore_n (ls2 := [(2, .int 0), (0, .ref 46), (1, .int p1)]) d_Planner_rowAsDigits_1 (by decide) rfl ?_
  refine ow_iconst (v := 0) (by decide) d_Planner_rowAsDigits_2 ?_
  refine ow_istore_n (ls2 := [(3, .int 0), (2, .int 0), (0, .ref 46), (1, .int p1)]) d_Planner_rowAsDigits_3 (by decide) rfl ?_
  refine ow_sub [2, 3, 1, 0] rfl ?_
  exact T
set_option maxRecDepth 4000 in
theorem t_Planner_turnRow_4 {d : Nat} {I : Nat → Nat → Int32} {J : Nat → Nat → Int64} {R : Nat → Nat → Option Nat} {Q : Option Value → ow_H → Prop}  {v2 : Int32}  (hR : ow_RF R) (T : ((v2 < 0 → Q (some (.int 0)) (85, I, J, R)) ∧ (¬ v2 < 0 → (vp_in v2 4 ∧ (((I 47 0) ≤ (I 51 v2.toNatClampNeg) → (vp_in v2 4 ∧ (∀ (I1 : Nat → Nat → Int32), I1 = ow_u I 51 (v2.toNatClampNeg) 0 → ow_AW ow_Y0 (ow_Z Q) M_Planner_turnRow (d + 1) 0 0 4 [(0, .ref 46), (2, .int (v2 + (-1)))] [] (85, I1, J, R) 0 0))) ∧ (¬ (I 47 0) ≤ (I 51 v2.toNatClampNeg) → (vp_in v2 4 ∧ (vp_in v2 4 ∧ (∀ (I2 : Nat → Nat → Int32), I2 = ow_u I 51 (v2.toNatClampNeg) ((I 51 v2.toNatClampNeg) + 1) → Q (some (.int 1)) (85, I2, J, R)))))))))) : ow_AW ow_Y0 (ow_Z Q) M_Planner_turnRow (d + 1) 0 0 4 [(0, .ref 46), (2, .int v2)] [] (85, I, J, R) 0 0 := by
  refine ow_iload_n 1 rfl d_Planner_turnRow_4 ?_
  refine ow_if_lt (tgt := 49) d_Planner_turnRow_5 (by decide) (fun c => ?_) (fun c => ?_)
  · replace T := T.1 c
    refine ow_iconst (v := 0) (by decide) d_Planner_turnRow_49 ?_
    exact ow_zret d_Planner_turnRow_50 rfl (by decide) T
  · replace T := T.2 c
    refine ow_aload_n 0 rfl d_Planner_turnRow_8 ?_
    refine ow_gR (a := 51) 117 d_Planner_turnRow_9 rfl rfl (by decide) rfl ⟨rfl, hR 46 3 (by decide)⟩ ?_
    refine ow_iload_n 1 rfl d_Planner_turnRow_12 ?_
    obtain ⟨cI, T⟩ := T
    refine ow_hiaload d_Planner_turnRow_13 (by decide) rfl rfl cI ?_
    refine ow_aload_n 0 rfl d_Planner_turnRow_14 ?_
    refine ow_gR (a := 47) 116 d_Planner_turnRow_15 rfl rfl (by decide) rfl ⟨rfl, hR 46 2 (by decide)⟩ ?_
    refine ow_gI 4 d_Planner_turnRow_18 rfl rfl (by decide) rfl (Or.inl rfl) ?_
    refine ow_icmp_ge (tgt := 36) d_Planner_turnRow_21 (by decide) (fun c => ?_) (fun c => ?_)
    · replace T := T.1 c
      refine ow_aload_n 0 rfl d_Planner_turnRow_36 ?_
      refine ow_gR (a := 51) 117 d_Planner_turnRow_37 rfl rfl (by decide) rfl ⟨rfl, hR 46 3 (by decide)⟩ ?_
      refine ow_iload_n 1 rfl d_Planner_turnRow_40 ?_
      refine ow_iconst (v := 0) (by decide) d_Planner_turnRow_41 ?_
      obtain ⟨cI, T⟩ := T
      refine ow_hiastore d_Planner_turnRow_42 (by decide) rfl rfl cI ?_
      obtain ⟨I1, eI1⟩ : ∃ uu, uu = ow_u I 51 (v2.toNatClampNeg) 0 := ⟨_, rfl⟩
      replace T := T I1 eI1
      rw [← eI1]
      refine ow_iinc 1 (v := (v2 + (-1))) (ls2 := [(2, .int (v2 + (-1))), (0, .ref 46)]) d_Planner_turnRow_43 rfl rfl (by decide) rfl ?_
      refine ow_goto (tgt := 4) d_Planner_turnRow_46 (by decide) ?_
      refine ow_sub [1, 0] rfl ?_
      exact T
    · replace T := T.2 c
      refine ow_aload_n 0 rfl d_Planner_turnRow_24 ?_
      refine ow_gR (a := 51) 117 d_Planner_turnRow_25 rfl rfl (by decide) rfl ⟨rfl, hR 46 3 (by decide)⟩ ?_
      refine ow_iload_n 1 rfl d_Planner_turnRow_28 ?_
      refine ow_dup2_11 rfl rfl d_Planner_turnRow_29 ?_
      obtain ⟨cI, T⟩ := T
      refine ow_hiaload d_Planner_turnRow_30 (by decide) rfl rfl cI ?_
      refine ow_iconst (v := 1) (by decide) d_Planner_turnRow_31 ?_
      refine ow_iadd d_Planner_turnRow_32 ?_
      obtain ⟨cI, T⟩ := T
      refine ow_hiastore d_Planner_turnRow_33 (by decide) rfl rfl cI ?_
      obtain ⟨I2, eI2⟩ : ∃ uu, uu = ow_u I 51 (v2.toNatClampNeg) ((I 51 v2.toNatClampNeg) + 1) := ⟨_, rfl⟩
      replace T := T I2 eI2
      rw [← eI2]
      refine ow_iconst (v := 1) (by decide) d_Planner_turnRow_34 ?_
      exact ow_zret d_Planner_turnRow_35 rfl (by decide) T
set_option maxRecDepth 4000 in
theorem t_Planner_turnRow {d : Nat} {I : Nat → Nat → Int32} {J : Nat → Nat → Int64} {R : Nat → Nat → Option Nat} {Q : Option Value → ow_H → Prop} {p1 : Int32}  (hR : ow_RF R) (T : ow_AW ow_Y0 (ow_Z Q) M_Planner_turnRow (d + 1) 0 0 4 [(0, .ref 46), (2, .int (p1 - 1))] [] (85, I, J, R) 0 0) : ow_AM M_Planner_turnRow (d + 1) [.ref 46, .int p1] (85, I, J, R) Q := by
  refine ow_enter (by decide) (Nat.le_of_ble_eq_true rfl) ?_
  show ow_AW ow_Y0 (ow_Z Q) M_Planner_turnRow (d + 1) 0 0 0 [(0, .ref 46), (1, .int p1)] [] (85, I, J, R) 0 0
  refine ow_iload_n 1 rfl d_Planner_turnRow_0 ?_
  refine ow_iconst (v := 1) (by decide) d_Planner_turnRow_1 ?_
  refine ow_isub d_Planner_turnRow_2 ?_
  refine ow_istore_n (ls2 := [(2, .int (p1 - 1)), (0, .ref 46), (1, .int p1)]) d_Planner_turnRow_3 (by decide) rfl ?_
  refine ow_sub [1, 0] rfl ?_
  exact T
