/-! Own rows, by program: Fs_feed Fs_shire Fs_fault Fs_where Fs_folly Fs_estate Fs_answers Fs_signs Fs_signer Fs_course Fs_courseAt Fs_served Fs_rounds Fs_idle Fs_serves Fs_best Fs_shortest Fs_widest Fs_change Fs_changeServes Fs_servedIf Fs_signsIn Fs_servedIn Fs_firstServed Fs_lastServed Fs_plan Fs_planServes Fs_keep Fs_pillar Fs_fits Fs_fitAt Fs_shapedBy -/
theorem d_Fs_feed_0 : decode M_Fs_feed.2.1 0 = .ok (.aload_n 0, 1) := by decide +kernel
theorem d_Fs_feed_1 : decode M_Fs_feed.2.1 1 = .ok (.getfield 95, 3) := by decide +kernel
theorem d_Fs_feed_4 : decode M_Fs_feed.2.1 4 = .ok (.bipush 20, 2) := by decide +kernel
theorem d_Fs_feed_6 : decode M_Fs_feed.2.1 6 = .ok (.iadd, 1) := by decide +kernel
theorem d_Fs_feed_7 : decode M_Fs_feed.2.1 7 = .ok (.sipush 900, 3) := by decide +kernel
theorem d_Fs_feed_10 : decode M_Fs_feed.2.1 10 = .ok (.if_icmp .le 5, 3) := by decide +kernel
theorem d_Fs_feed_13 : decode M_Fs_feed.2.1 13 = .ok (.iconst (-1), 1) := by decide +kernel
theorem d_Fs_feed_14 : decode M_Fs_feed.2.1 14 = .ok (.ireturn, 1) := by decide +kernel
theorem d_Fs_feed_15 : decode M_Fs_feed.2.1 15 = .ok (.aload_n 0, 1) := by decide +kernel
theorem d_Fs_feed_16 : decode M_Fs_feed.2.1 16 = .ok (.iload_n 1, 1) := by decide +kernel
theorem d_Fs_feed_17 : decode M_Fs_feed.2.1 17 = .ok (.invokevirtual 99, 3) := by decide +kernel
theorem d_Fs_feed_20 : decode M_Fs_feed.2.1 20 = .ok (.aload_n 0, 1) := by decide +kernel
theorem d_Fs_feed_21 : decode M_Fs_feed.2.1 21 = .ok (.iload_n 2, 1) := by decide +kernel
theorem d_Fs_feed_22 : decode M_Fs_feed.2.1 22 = .ok (.invokevirtual 99, 3) := by decide +kernel
theorem d_Fs_feed_25 : decode M_Fs_feed.2.1 25 = .ok (.aload_n 0, 1) := by decide +kernel
theorem d_Fs_feed_26 : decode M_Fs_feed.2.1 26 = .ok (.iload_n 3, 1) := by decide +kernel
theorem d_Fs_feed_27 : decode M_Fs_feed.2.1 27 = .ok (.invokevirtual 99, 3) := by decide +kernel
theorem d_Fs_feed_30 : decode M_Fs_feed.2.1 30 = .ok (.aload_n 0, 1) := by decide +kernel
theorem d_Fs_feed_31 : decode M_Fs_feed.2.1 31 = .ok (.iload 4, 2) := by decide +kernel
theorem d_Fs_feed_33 : decode M_Fs_feed.2.1 33 = .ok (.invokevirtual 99, 3) := by decide +kernel
theorem d_Fs_feed_36 : decode M_Fs_feed.2.1 36 = .ok (.aload_n 0, 1) := by decide +kernel
theorem d_Fs_feed_37 : decode M_Fs_feed.2.1 37 = .ok (.iload 5, 2) := by decide +kernel
theorem d_Fs_feed_39 : decode M_Fs_feed.2.1 39 = .ok (.invokevirtual 99, 3) := by decide +kernel
theorem d_Fs_feed_42 : decode M_Fs_feed.2.1 42 = .ok (.aload_n 0, 1) := by decide +kernel
theorem d_Fs_feed_43 : decode M_Fs_feed.2.1 43 = .ok (.getfield 95, 3) := by decide +kernel
theorem d_Fs_feed_46 : decode M_Fs_feed.2.1 46 = .ok (.ireturn, 1) := by decide +kernel
theorem d_Fs_shire_0 : decode M_Fs_shire.2.1 0 = .ok (.iload_n 1, 1) := by decide +kernel
theorem d_Fs_shire_1 : decode M_Fs_shire.2.1 1 = .ok (.ifCond .lt 11, 3) := by decide +kernel
theorem d_Fs_shire_4 : decode M_Fs_shire.2.1 4 = .ok (.iload_n 1, 1) := by decide +kernel
theorem d_Fs_shire_5 : decode M_Fs_shire.2.1 5 = .ok (.aload_n 0, 1) := by decide +kernel
theorem d_Fs_shire_6 : decode M_Fs_shire.2.1 6 = .ok (.getfield 95, 3) := by decide +kernel
theorem d_Fs_shire_9 : decode M_Fs_shire.2.1 9 = .ok (.if_icmp .le 9, 3) := by decide +kernel
theorem d_Fs_shire_12 : decode M_Fs_shire.2.1 12 = .ok (.aload_n 0, 1) := by decide +kernel
theorem d_Fs_shire_13 : decode M_Fs_shire.2.1 13 = .ok (.iconst 2, 1) := by decide +kernel
theorem d_Fs_shire_14 : decode M_Fs_shire.2.1 14 = .ok (.invokevirtual 102, 3) := by decide +kernel
theorem d_Fs_shire_17 : decode M_Fs_shire.2.1 17 = .ok (.ireturn, 1) := by decide +kernel
theorem d_Fs_shire_18 : decode M_Fs_shire.2.1 18 = .ok (.aload_n 0, 1) := by decide +kernel
theorem d_Fs_shire_19 : decode M_Fs_shire.2.1 19 = .ok (.iconst 0, 1) := by decide +kernel
theorem d_Fs_shire_20 : decode M_Fs_shire.2.1 20 = .ok (.putfield 95, 3) := by decide +kernel
theorem d_Fs_shire_23 : decode M_Fs_shire.2.1 23 = .ok (.aload_n 0, 1) := by decide +kernel
theorem d_Fs_shire_24 : decode M_Fs_shire.2.1 24 = .ok (.getfield 23, 3) := by decide +kernel
theorem d_Fs_shire_27 : decode M_Fs_shire.2.1 27 = .ok (.aload_n 0, 1) := by decide +kernel
theorem d_Fs_shire_28 : decode M_Fs_shire.2.1 28 = .ok (.getfield 9, 3) := by decide +kernel
theorem d_Fs_shire_31 : decode M_Fs_shire.2.1 31 = .ok (.iload_n 1, 1) := by decide +kernel
theorem d_Fs_shire_32 : decode M_Fs_shire.2.1 32 = .ok (.invokevirtual 106, 3) := by decide +kernel
theorem d_Fs_shire_35 : decode M_Fs_shire.2.1 35 = .ok (.ifCond .ne 31, 3) := by decide +kernel
theorem d_Fs_shire_38 : decode M_Fs_shire.2.1 38 = .ok (.aload_n 0, 1) := by decide +kernel
theorem d_Fs_shire_39 : decode M_Fs_shire.2.1 39 = .ok (.aload_n 0, 1) := by decide +kernel
theorem d_Fs_shire_40 : decode M_Fs_shire.2.1 40 = .ok (.getfield 23, 3) := by decide +kernel
theorem d_Fs_shire_43 : decode M_Fs_shire.2.1 43 = .ok (.getfield 110, 3) := by decide +kernel
theorem d_Fs_shire_46 : decode M_Fs_shire.2.1 46 = .ok (.putfield 113, 3) := by decide +kernel
theorem d_Fs_shire_49 : decode M_Fs_shire.2.1 49 = .ok (.aload_n 0, 1) := by decide +kernel
theorem d_Fs_shire_50 : decode M_Fs_shire.2.1 50 = .ok (.aload_n 0, 1) := by decide +kernel
theorem d_Fs_shire_51 : decode M_Fs_shire.2.1 51 = .ok (.getfield 23, 3) := by decide +kernel
theorem d_Fs_shire_54 : decode M_Fs_shire.2.1 54 = .ok (.getfield 114, 3) := by decide +kernel
theorem d_Fs_shire_57 : decode M_Fs_shire.2.1 57 = .ok (.putfield 117, 3) := by decide +kernel
theorem d_Fs_shire_60 : decode M_Fs_shire.2.1 60 = .ok (.aload_n 0, 1) := by decide +kernel
theorem d_Fs_shire_61 : decode M_Fs_shire.2.1 61 = .ok (.iconst 4, 1) := by decide +kernel
theorem d_Fs_shire_62 : decode M_Fs_shire.2.1 62 = .ok (.invokevirtual 102, 3) := by decide +kernel
theorem d_Fs_shire_65 : decode M_Fs_shire.2.1 65 = .ok (.ireturn, 1) := by decide +kernel
theorem d_Fs_shire_66 : decode M_Fs_shire.2.1 66 = .ok (.aload_n 0, 1) := by decide +kernel
theorem d_Fs_shire_67 : decode M_Fs_shire.2.1 67 = .ok (.iconst 0, 1) := by decide +kernel
theorem d_Fs_shire_68 : decode M_Fs_shire.2.1 68 = .ok (.putfield 113, 3) := by decide +kernel
theorem d_Fs_shire_71 : decode M_Fs_shire.2.1 71 = .ok (.aload_n 0, 1) := by decide +kernel
theorem d_Fs_shire_72 : decode M_Fs_shire.2.1 72 = .ok (.iconst 0, 1) := by decide +kernel
theorem d_Fs_shire_73 : decode M_Fs_shire.2.1 73 = .ok (.putfield 118, 3) := by decide +kernel
theorem d_Fs_shire_76 : decode M_Fs_shire.2.1 76 = .ok (.aload_n 0, 1) := by decide +kernel
theorem d_Fs_shire_77 : decode M_Fs_shire.2.1 77 = .ok (.getfield 16, 3) := by decide +kernel
theorem d_Fs_shire_80 : decode M_Fs_shire.2.1 80 = .ok (.aload_n 0, 1) := by decide +kernel
theorem d_Fs_shire_81 : decode M_Fs_shire.2.1 81 = .ok (.getfield 23, 3) := by decide +kernel
theorem d_Fs_shire_84 : decode M_Fs_shire.2.1 84 = .ok (.getfield 121, 3) := by decide +kernel
theorem d_Fs_shire_87 : decode M_Fs_shire.2.1 87 = .ok (.invokevirtual 124, 3) := by decide +kernel
theorem d_Fs_shire_90 : decode M_Fs_shire.2.1 90 = .ok (.aload_n 0, 1) := by decide +kernel
theorem d_Fs_shire_91 : decode M_Fs_shire.2.1 91 = .ok (.getfield 30, 3) := by decide +kernel
theorem d_Fs_shire_94 : decode M_Fs_shire.2.1 94 = .ok (.aload_n 0, 1) := by decide +kernel
theorem d_Fs_shire_95 : decode M_Fs_shire.2.1 95 = .ok (.getfield 16, 3) := by decide +kernel
theorem d_Fs_shire_98 : decode M_Fs_shire.2.1 98 = .ok (.getfield 127, 3) := by decide +kernel
theorem d_Fs_shire_101 : decode M_Fs_shire.2.1 101 = .ok (.invokevirtual 130, 3) := by decide +kernel
theorem d_Fs_shire_104 : decode M_Fs_shire.2.1 104 = .ok (.aload_n 0, 1) := by decide +kernel
theorem d_Fs_shire_105 : decode M_Fs_shire.2.1 105 = .ok (.getfield 88, 3) := by decide +kernel
theorem d_Fs_shire_108 : decode M_Fs_shire.2.1 108 = .ok (.invokevirtual 133, 3) := by decide +kernel
theorem d_Fs_shire_111 : decode M_Fs_shire.2.1 111 = .ok (.aload_n 0, 1) := by decide +kernel
theorem d_Fs_shire_112 : decode M_Fs_shire.2.1 112 = .ok (.getfield 92, 3) := by decide +kernel
theorem d_Fs_shire_115 : decode M_Fs_shire.2.1 115 = .ok (.invokevirtual 133, 3) := by decide +kernel
theorem d_Fs_shire_118 : decode M_Fs_shire.2.1 118 = .ok (.aload_n 0, 1) := by decide +kernel
theorem d_Fs_shire_119 : decode M_Fs_shire.2.1 119 = .ok (.getfield 65, 3) := by decide +kernel
theorem d_Fs_shire_122 : decode M_Fs_shire.2.1 122 = .ok (.invokevirtual 136, 3) := by decide +kernel
theorem d_Fs_shire_125 : decode M_Fs_shire.2.1 125 = .ok (.aload_n 0, 1) := by decide +kernel
theorem d_Fs_shire_126 : decode M_Fs_shire.2.1 126 = .ok (.iconst 1, 1) := by decide +kernel
theorem d_Fs_shire_127 : decode M_Fs_shire.2.1 127 = .ok (.putfield 139, 3) := by decide +kernel
theorem d_Fs_shire_130 : decode M_Fs_shire.2.1 130 = .ok (.aload_n 0, 1) := by decide +kernel
theorem d_Fs_shire_131 : decode M_Fs_shire.2.1 131 = .ok (.getfield 30, 3) := by decide +kernel
theorem d_Fs_shire_134 : decode M_Fs_shire.2.1 134 = .ok (.getfield 143, 3) := by decide +kernel
theorem d_Fs_shire_137 : decode M_Fs_shire.2.1 137 = .ok (.ireturn, 1) := by decide +kernel
theorem d_Fs_fault_0 : decode M_Fs_fault.2.1 0 = .ok (.aload_n 0, 1) := by decide +kernel
theorem d_Fs_fault_1 : decode M_Fs_fault.2.1 1 = .ok (.getfield 113, 3) := by decide +kernel
theorem d_Fs_fault_4 : decode M_Fs_fault.2.1 4 = .ok (.ireturn, 1) := by decide +kernel
theorem d_Fs_where_0 : decode M_Fs_where.2.1 0 = .ok (.aload_n 0, 1) := by decide +kernel
theorem d_Fs_where_1 : decode M_Fs_where.2.1 1 = .ok (.getfield 118, 3) := by decide +kernel
theorem d_Fs_where_4 : decode M_Fs_where.2.1 4 = .ok (.iconst 4, 1) := by decide +kernel
theorem d_Fs_where_5 : decode M_Fs_where.2.1 5 = .ok (.if_icmp .ne 10, 3) := by decide +kernel
theorem d_Fs_where_8 : decode M_Fs_where.2.1 8 = .ok (.aload_n 0, 1) := by decide +kernel
theorem d_Fs_where_9 : decode M_Fs_where.2.1 9 = .ok (.getfield 117, 3) := by decide +kernel
theorem d_Fs_where_12 : decode M_Fs_where.2.1 12 = .ok (.goto 4, 3) := by decide +kernel
theorem d_Fs_where_15 : decode M_Fs_where.2.1 15 = .ok (.iconst (-1), 1) := by decide +kernel
theorem d_Fs_where_16 : decode M_Fs_where.2.1 16 = .ok (.ireturn, 1) := by decide +kernel
theorem d_Fs_folly_0 : decode M_Fs_folly.2.1 0 = .ok (.aload_n 0, 1) := by decide +kernel
theorem d_Fs_folly_1 : decode M_Fs_folly.2.1 1 = .ok (.iload_n 1, 1) := by decide +kernel
theorem d_Fs_folly_2 : decode M_Fs_folly.2.1 2 = .ok (.invokevirtual 146, 3) := by decide +kernel
theorem d_Fs_folly_5 : decode M_Fs_folly.2.1 5 = .ok (.ifCond .eq 5, 3) := by decide +kernel
theorem d_Fs_folly_8 : decode M_Fs_folly.2.1 8 = .ok (.iconst (-1), 1) := by decide +kernel
theorem d_Fs_folly_9 : decode M_Fs_folly.2.1 9 = .ok (.ireturn, 1) := by decide +kernel
theorem d_Fs_folly_10 : decode M_Fs_folly.2.1 10 = .ok (.iload_n 2, 1) := by decide +kernel
theorem d_Fs_folly_11 : decode M_Fs_folly.2.1 11 = .ok (.tableswitch 109 0 5 #[37, 47, 57, 69, 79, 89], 37) := by decide +kernel
theorem d_Fs_folly_48 : decode M_Fs_folly.2.1 48 = .ok (.aload_n 0, 1) := by decide +kernel
theorem d_Fs_folly_49 : decode M_Fs_folly.2.1 49 = .ok (.getfield 30, 3) := by decide +kernel
theorem d_Fs_folly_52 : decode M_Fs_folly.2.1 52 = .ok (.getfield 150, 3) := by decide +kernel
theorem d_Fs_folly_55 : decode M_Fs_folly.2.1 55 = .ok (.iload_n 1, 1) := by decide +kernel
theorem d_Fs_folly_56 : decode M_Fs_folly.2.1 56 = .ok (.iaload, 1) := by decide +kernel
theorem d_Fs_folly_57 : decode M_Fs_folly.2.1 57 = .ok (.ireturn, 1) := by decide +kernel
theorem d_Fs_folly_58 : decode M_Fs_folly.2.1 58 = .ok (.aload_n 0, 1) := by decide +kernel
theorem d_Fs_folly_59 : decode M_Fs_folly.2.1 59 = .ok (.getfield 30, 3) := by decide +kernel
theorem d_Fs_folly_62 : decode M_Fs_folly.2.1 62 = .ok (.getfield 154, 3) := by decide +kernel
theorem d_Fs_folly_65 : decode M_Fs_folly.2.1 65 = .ok (.iload_n 1, 1) := by decide +kernel
theorem d_Fs_folly_66 : decode M_Fs_folly.2.1 66 = .ok (.iaload, 1) := by decide +kernel
theorem d_Fs_folly_67 : decode M_Fs_folly.2.1 67 = .ok (.ireturn, 1) := by decide +kernel
theorem d_Fs_folly_68 : decode M_Fs_folly.2.1 68 = .ok (.aload_n 0, 1) := by decide +kernel
theorem d_Fs_folly_69 : decode M_Fs_folly.2.1 69 = .ok (.getfield 30, 3) := by decide +kernel
theorem d_Fs_folly_72 : decode M_Fs_folly.2.1 72 = .ok (.getfield 157, 3) := by decide +kernel
theorem d_Fs_folly_75 : decode M_Fs_folly.2.1 75 = .ok (.iload_n 1, 1) := by decide +kernel
theorem d_Fs_folly_76 : decode M_Fs_folly.2.1 76 = .ok (.ishr, 1) := by decide +kernel
theorem d_Fs_folly_77 : decode M_Fs_folly.2.1 77 = .ok (.iconst 1, 1) := by decide +kernel
theorem d_Fs_folly_78 : decode M_Fs_folly.2.1 78 = .ok (.iand, 1) := by decide +kernel
theorem d_Fs_folly_79 : decode M_Fs_folly.2.1 79 = .ok (.ireturn, 1) := by decide +kernel
theorem d_Fs_folly_80 : decode M_Fs_folly.2.1 80 = .ok (.aload_n 0, 1) := by decide +kernel
theorem d_Fs_folly_81 : decode M_Fs_folly.2.1 81 = .ok (.getfield 30, 3) := by decide +kernel
theorem d_Fs_folly_84 : decode M_Fs_folly.2.1 84 = .ok (.getfield 160, 3) := by decide +kernel
theorem d_Fs_folly_87 : decode M_Fs_folly.2.1 87 = .ok (.iload_n 1, 1) := by decide +kernel
theorem d_Fs_folly_88 : decode M_Fs_folly.2.1 88 = .ok (.iaload, 1) := by decide +kernel
theorem d_Fs_folly_89 : decode M_Fs_folly.2.1 89 = .ok (.ireturn, 1) := by decide +kernel
theorem d_Fs_folly_90 : decode M_Fs_folly.2.1 90 = .ok (.aload_n 0, 1) := by decide +kernel
theorem d_Fs_folly_91 : decode M_Fs_folly.2.1 91 = .ok (.getfield 16, 3) := by decide +kernel
theorem d_Fs_folly_94 : decode M_Fs_folly.2.1 94 = .ok (.getfield 163, 3) := by decide +kernel
theorem d_Fs_folly_97 : decode M_Fs_folly.2.1 97 = .ok (.iload_n 1, 1) := by decide +kernel
theorem d_Fs_folly_98 : decode M_Fs_folly.2.1 98 = .ok (.iaload, 1) := by decide +kernel
theorem d_Fs_folly_99 : decode M_Fs_folly.2.1 99 = .ok (.ireturn, 1) := by decide +kernel
theorem d_Fs_folly_100 : decode M_Fs_folly.2.1 100 = .ok (.aload_n 0, 1) := by decide +kernel
theorem d_Fs_folly_101 : decode M_Fs_folly.2.1 101 = .ok (.getfield 30, 3) := by decide +kernel
theorem d_Fs_folly_104 : decode M_Fs_folly.2.1 104 = .ok (.getfield 154, 3) := by decide +kernel
theorem d_Fs_folly_107 : decode M_Fs_folly.2.1 107 = .ok (.iload_n 1, 1) := by decide +kernel
theorem d_Fs_folly_108 : decode M_Fs_folly.2.1 108 = .ok (.iaload, 1) := by decide +kernel
theorem d_Fs_folly_109 : decode M_Fs_folly.2.1 109 = .ok (.aload_n 0, 1) := by decide +kernel
theorem d_Fs_folly_110 : decode M_Fs_folly.2.1 110 = .ok (.getfield 16, 3) := by decide +kernel
theorem d_Fs_folly_113 : decode M_Fs_folly.2.1 113 = .ok (.getfield 166, 3) := by decide +kernel
theorem d_Fs_folly_116 : decode M_Fs_folly.2.1 116 = .ok (.invokestatic 169, 3) := by decide +kernel
theorem d_Fs_folly_119 : decode M_Fs_folly.2.1 119 = .ok (.ireturn, 1) := by decide +kernel
theorem d_Fs_folly_120 : decode M_Fs_folly.2.1 120 = .ok (.aload_n 0, 1) := by decide +kernel
theorem d_Fs_folly_121 : decode M_Fs_folly.2.1 121 = .ok (.iconst 1, 1) := by decide +kernel
theorem d_Fs_folly_122 : decode M_Fs_folly.2.1 122 = .ok (.invokevirtual 102, 3) := by decide +kernel
theorem d_Fs_folly_125 : decode M_Fs_folly.2.1 125 = .ok (.ireturn, 1) := by decide +kernel
theorem d_Fs_estate_0 : decode M_Fs_estate.2.1 0 = .ok (.aload_n 0, 1) := by decide +kernel
theorem d_Fs_estate_1 : decode M_Fs_estate.2.1 1 = .ok (.iload_n 1, 1) := by decide +kernel
theorem d_Fs_estate_2 : decode M_Fs_estate.2.1 2 = .ok (.invokevirtual 173, 3) := by decide +kernel
theorem d_Fs_estate_5 : decode M_Fs_estate.2.1 5 = .ok (.ifCond .eq 5, 3) := by decide +kernel
theorem d_Fs_estate_8 : decode M_Fs_estate.2.1 8 = .ok (.iconst (-1), 1) := by decide +kernel
theorem d_Fs_estate_9 : decode M_Fs_estate.2.1 9 = .ok (.ireturn, 1) := by decide +kernel
theorem d_Fs_estate_10 : decode M_Fs_estate.2.1 10 = .ok (.iload_n 2, 1) := by decide +kernel
theorem d_Fs_estate_11 : decode M_Fs_estate.2.1 11 = .ok (.tableswitch 61 0 2 #[25, 35, 45], 25) := by decide +kernel
theorem d_Fs_estate_36 : decode M_Fs_estate.2.1 36 = .ok (.aload_n 0, 1) := by decide +kernel
theorem d_Fs_estate_37 : decode M_Fs_estate.2.1 37 = .ok (.getfield 16, 3) := by decide +kernel
theorem d_Fs_estate_40 : decode M_Fs_estate.2.1 40 = .ok (.getfield 176, 3) := by decide +kernel
theorem d_Fs_estate_43 : decode M_Fs_estate.2.1 43 = .ok (.iload_n 1, 1) := by decide +kernel
theorem d_Fs_estate_44 : decode M_Fs_estate.2.1 44 = .ok (.iaload, 1) := by decide +kernel
theorem d_Fs_estate_45 : decode M_Fs_estate.2.1 45 = .ok (.ireturn, 1) := by decide +kernel
theorem d_Fs_estate_46 : decode M_Fs_estate.2.1 46 = .ok (.aload_n 0, 1) := by decide +kernel
theorem d_Fs_estate_47 : decode M_Fs_estate.2.1 47 = .ok (.getfield 16, 3) := by decide +kernel
theorem d_Fs_estate_50 : decode M_Fs_estate.2.1 50 = .ok (.getfield 179, 3) := by decide +kernel
theorem d_Fs_estate_53 : decode M_Fs_estate.2.1 53 = .ok (.iload_n 1, 1) := by decide +kernel
theorem d_Fs_estate_54 : decode M_Fs_estate.2.1 54 = .ok (.iaload, 1) := by decide +kernel
theorem d_Fs_estate_55 : decode M_Fs_estate.2.1 55 = .ok (.ireturn, 1) := by decide +kernel
theorem d_Fs_estate_56 : decode M_Fs_estate.2.1 56 = .ok (.aload_n 0, 1) := by decide +kernel
theorem d_Fs_estate_57 : decode M_Fs_estate.2.1 57 = .ok (.getfield 49, 3) := by decide +kernel
theorem d_Fs_estate_60 : decode M_Fs_estate.2.1 60 = .ok (.aload_n 0, 1) := by decide +kernel
theorem d_Fs_estate_61 : decode M_Fs_estate.2.1 61 = .ok (.getfield 30, 3) := by decide +kernel
theorem d_Fs_estate_64 : decode M_Fs_estate.2.1 64 = .ok (.invokevirtual 182, 3) := by decide +kernel
theorem d_Fs_estate_67 : decode M_Fs_estate.2.1 67 = .ok (.iload_n 1, 1) := by decide +kernel
theorem d_Fs_estate_68 : decode M_Fs_estate.2.1 68 = .ok (.ishr, 1) := by decide +kernel
theorem d_Fs_estate_69 : decode M_Fs_estate.2.1 69 = .ok (.iconst 1, 1) := by decide +kernel
theorem d_Fs_estate_70 : decode M_Fs_estate.2.1 70 = .ok (.iand, 1) := by decide +kernel
theorem d_Fs_estate_71 : decode M_Fs_estate.2.1 71 = .ok (.ireturn, 1) := by decide +kernel
theorem d_Fs_estate_72 : decode M_Fs_estate.2.1 72 = .ok (.aload_n 0, 1) := by decide +kernel
theorem d_Fs_estate_73 : decode M_Fs_estate.2.1 73 = .ok (.iconst 1, 1) := by decide +kernel
theorem d_Fs_estate_74 : decode M_Fs_estate.2.1 74 = .ok (.invokevirtual 102, 3) := by decide +kernel
theorem d_Fs_estate_77 : decode M_Fs_estate.2.1 77 = .ok (.ireturn, 1) := by decide +kernel
theorem d_Fs_answers_0 : decode M_Fs_answers.2.1 0 = .ok (.aload_n 0, 1) := by decide +kernel
theorem d_Fs_answers_1 : decode M_Fs_answers.2.1 1 = .ok (.iload_n 1, 1) := by decide +kernel
theorem d_Fs_answers_2 : decode M_Fs_answers.2.1 2 = .ok (.invokevirtual 146, 3) := by decide +kernel
theorem d_Fs_answers_5 : decode M_Fs_answers.2.1 5 = .ok (.ifCond .eq 5, 3) := by decide +kernel
theorem d_Fs_answers_8 : decode M_Fs_answers.2.1 8 = .ok (.iconst (-1), 1) := by decide +kernel
theorem d_Fs_answers_9 : decode M_Fs_answers.2.1 9 = .ok (.ireturn, 1) := by decide +kernel
theorem d_Fs_answers_10 : decode M_Fs_answers.2.1 10 = .ok (.aload_n 0, 1) := by decide +kernel
theorem d_Fs_answers_11 : decode M_Fs_answers.2.1 11 = .ok (.getfield 30, 3) := by decide +kernel
theorem d_Fs_answers_14 : decode M_Fs_answers.2.1 14 = .ok (.iload_n 1, 1) := by decide +kernel
theorem d_Fs_answers_15 : decode M_Fs_answers.2.1 15 = .ok (.iload_n 2, 1) := by decide +kernel
theorem d_Fs_answers_16 : decode M_Fs_answers.2.1 16 = .ok (.ifCond .eq 7, 3) := by decide +kernel
theorem d_Fs_answers_19 : decode M_Fs_answers.2.1 19 = .ok (.iconst 1, 1) := by decide +kernel
theorem d_Fs_answers_20 : decode M_Fs_answers.2.1 20 = .ok (.goto 4, 3) := by decide +kernel
theorem d_Fs_answers_23 : decode M_Fs_answers.2.1 23 = .ok (.iconst 0, 1) := by decide +kernel
theorem d_Fs_answers_24 : decode M_Fs_answers.2.1 24 = .ok (.invokevirtual 186, 3) := by decide +kernel
theorem d_Fs_answers_27 : decode M_Fs_answers.2.1 27 = .ok (.ireturn, 1) := by decide +kernel
theorem d_Fs_signs_0 : decode M_Fs_signs.2.1 0 = .ok (.aload_n 0, 1) := by decide +kernel
theorem d_Fs_signs_1 : decode M_Fs_signs.2.1 1 = .ok (.iload_n 1, 1) := by decide +kernel
theorem d_Fs_signs_2 : decode M_Fs_signs.2.1 2 = .ok (.invokevirtual 146, 3) := by decide +kernel
theorem d_Fs_signs_5 : decode M_Fs_signs.2.1 5 = .ok (.ifCond .eq 5, 3) := by decide +kernel
theorem d_Fs_signs_8 : decode M_Fs_signs.2.1 8 = .ok (.iconst (-1), 1) := by decide +kernel
theorem d_Fs_signs_9 : decode M_Fs_signs.2.1 9 = .ok (.ireturn, 1) := by decide +kernel
theorem d_Fs_signs_10 : decode M_Fs_signs.2.1 10 = .ok (.aload_n 0, 1) := by decide +kernel
theorem d_Fs_signs_11 : decode M_Fs_signs.2.1 11 = .ok (.getfield 40, 3) := by decide +kernel
theorem d_Fs_signs_14 : decode M_Fs_signs.2.1 14 = .ok (.aload_n 0, 1) := by decide +kernel
theorem d_Fs_signs_15 : decode M_Fs_signs.2.1 15 = .ok (.getfield 30, 3) := by decide +kernel
theorem d_Fs_signs_18 : decode M_Fs_signs.2.1 18 = .ok (.iload_n 1, 1) := by decide +kernel
theorem d_Fs_signs_19 : decode M_Fs_signs.2.1 19 = .ok (.iload_n 2, 1) := by decide +kernel
theorem d_Fs_signs_20 : decode M_Fs_signs.2.1 20 = .ok (.invokevirtual 189, 3) := by decide +kernel
theorem d_Fs_signs_23 : decode M_Fs_signs.2.1 23 = .ok (.aload_n 0, 1) := by decide +kernel
theorem d_Fs_signs_24 : decode M_Fs_signs.2.1 24 = .ok (.getfield 40, 3) := by decide +kernel
theorem d_Fs_signs_27 : decode M_Fs_signs.2.1 27 = .ok (.getfield 193, 3) := by decide +kernel
theorem d_Fs_signs_30 : decode M_Fs_signs.2.1 30 = .ok (.ireturn, 1) := by decide +kernel
theorem d_Fs_signer_0 : decode M_Fs_signer.2.1 0 = .ok (.aload_n 0, 1) := by decide +kernel
theorem d_Fs_signer_1 : decode M_Fs_signer.2.1 1 = .ok (.iload_n 1, 1) := by decide +kernel
theorem d_Fs_signer_2 : decode M_Fs_signer.2.1 2 = .ok (.invokevirtual 146, 3) := by decide +kernel
theorem d_Fs_signer_5 : decode M_Fs_signer.2.1 5 = .ok (.ifCond .eq 5, 3) := by decide +kernel
theorem d_Fs_signer_8 : decode M_Fs_signer.2.1 8 = .ok (.iconst (-1), 1) := by decide +kernel
theorem d_Fs_signer_9 : decode M_Fs_signer.2.1 9 = .ok (.ireturn, 1) := by decide +kernel
theorem d_Fs_signer_10 : decode M_Fs_signer.2.1 10 = .ok (.aload_n 0, 1) := by decide +kernel
theorem d_Fs_signer_11 : decode M_Fs_signer.2.1 11 = .ok (.getfield 40, 3) := by decide +kernel
theorem d_Fs_signer_14 : decode M_Fs_signer.2.1 14 = .ok (.aload_n 0, 1) := by decide +kernel
theorem d_Fs_signer_15 : decode M_Fs_signer.2.1 15 = .ok (.getfield 30, 3) := by decide +kernel
theorem d_Fs_signer_18 : decode M_Fs_signer.2.1 18 = .ok (.iload_n 1, 1) := by decide +kernel
theorem d_Fs_signer_19 : decode M_Fs_signer.2.1 19 = .ok (.iload_n 2, 1) := by decide +kernel
theorem d_Fs_signer_20 : decode M_Fs_signer.2.1 20 = .ok (.invokevirtual 189, 3) := by decide +kernel
theorem d_Fs_signer_23 : decode M_Fs_signer.2.1 23 = .ok (.aload_n 0, 1) := by decide +kernel
theorem d_Fs_signer_24 : decode M_Fs_signer.2.1 24 = .ok (.getfield 40, 3) := by decide +kernel
theorem d_Fs_signer_27 : decode M_Fs_signer.2.1 27 = .ok (.getfield 196, 3) := by decide +kernel
theorem d_Fs_signer_30 : decode M_Fs_signer.2.1 30 = .ok (.ireturn, 1) := by decide +kernel
theorem d_Fs_course_0 : decode M_Fs_course.2.1 0 = .ok (.aload_n 0, 1) := by decide +kernel
theorem d_Fs_course_1 : decode M_Fs_course.2.1 1 = .ok (.iload_n 1, 1) := by decide +kernel
theorem d_Fs_course_2 : decode M_Fs_course.2.1 2 = .ok (.invokevirtual 146, 3) := by decide +kernel
theorem d_Fs_course_5 : decode M_Fs_course.2.1 5 = .ok (.ifCond .eq 5, 3) := by decide +kernel
theorem d_Fs_course_8 : decode M_Fs_course.2.1 8 = .ok (.iconst (-1), 1) := by decide +kernel
theorem d_Fs_course_9 : decode M_Fs_course.2.1 9 = .ok (.ireturn, 1) := by decide +kernel
theorem d_Fs_course_10 : decode M_Fs_course.2.1 10 = .ok (.aload_n 0, 1) := by decide +kernel
theorem d_Fs_course_11 : decode M_Fs_course.2.1 11 = .ok (.getfield 40, 3) := by decide +kernel
theorem d_Fs_course_14 : decode M_Fs_course.2.1 14 = .ok (.aload_n 0, 1) := by decide +kernel
theorem d_Fs_course_15 : decode M_Fs_course.2.1 15 = .ok (.getfield 30, 3) := by decide +kernel
theorem d_Fs_course_18 : decode M_Fs_course.2.1 18 = .ok (.iload_n 1, 1) := by decide +kernel
theorem d_Fs_course_19 : decode M_Fs_course.2.1 19 = .ok (.iload_n 2, 1) := by decide +kernel
theorem d_Fs_course_20 : decode M_Fs_course.2.1 20 = .ok (.invokevirtual 189, 3) := by decide +kernel
theorem d_Fs_course_23 : decode M_Fs_course.2.1 23 = .ok (.aload_n 0, 1) := by decide +kernel
theorem d_Fs_course_24 : decode M_Fs_course.2.1 24 = .ok (.getfield 40, 3) := by decide +kernel
theorem d_Fs_course_27 : decode M_Fs_course.2.1 27 = .ok (.getfield 199, 3) := by decide +kernel
theorem d_Fs_course_30 : decode M_Fs_course.2.1 30 = .ok (.ireturn, 1) := by decide +kernel
theorem d_Fs_courseAt_0 : decode M_Fs_courseAt.2.1 0 = .ok (.aload_n 0, 1) := by decide +kernel
theorem d_Fs_courseAt_1 : decode M_Fs_courseAt.2.1 1 = .ok (.iload_n 1, 1) := by decide +kernel
theorem d_Fs_courseAt_2 : decode M_Fs_courseAt.2.1 2 = .ok (.invokevirtual 146, 3) := by decide +kernel
theorem d_Fs_courseAt_5 : decode M_Fs_courseAt.2.1 5 = .ok (.ifCond .eq 5, 3) := by decide +kernel
theorem d_Fs_courseAt_8 : decode M_Fs_courseAt.2.1 8 = .ok (.iconst (-1), 1) := by decide +kernel
theorem d_Fs_courseAt_9 : decode M_Fs_courseAt.2.1 9 = .ok (.ireturn, 1) := by decide +kernel
theorem d_Fs_courseAt_10 : decode M_Fs_courseAt.2.1 10 = .ok (.aload_n 0, 1) := by decide +kernel
theorem d_Fs_courseAt_11 : decode M_Fs_courseAt.2.1 11 = .ok (.getfield 40, 3) := by decide +kernel
theorem d_Fs_courseAt_14 : decode M_Fs_courseAt.2.1 14 = .ok (.aload_n 0, 1) := by decide +kernel
theorem d_Fs_courseAt_15 : decode M_Fs_courseAt.2.1 15 = .ok (.getfield 30, 3) := by decide +kernel
theorem d_Fs_courseAt_18 : decode M_Fs_courseAt.2.1 18 = .ok (.iload_n 1, 1) := by decide +kernel
theorem d_Fs_courseAt_19 : decode M_Fs_courseAt.2.1 19 = .ok (.iload_n 2, 1) := by decide +kernel
theorem d_Fs_courseAt_20 : decode M_Fs_courseAt.2.1 20 = .ok (.invokevirtual 189, 3) := by decide +kernel
theorem d_Fs_courseAt_23 : decode M_Fs_courseAt.2.1 23 = .ok (.iload_n 3, 1) := by decide +kernel
theorem d_Fs_courseAt_24 : decode M_Fs_courseAt.2.1 24 = .ok (.ifCond .lt 14, 3) := by decide +kernel
theorem d_Fs_courseAt_27 : decode M_Fs_courseAt.2.1 27 = .ok (.iload_n 3, 1) := by decide +kernel
theorem d_Fs_courseAt_28 : decode M_Fs_courseAt.2.1 28 = .ok (.aload_n 0, 1) := by decide +kernel
theorem d_Fs_courseAt_29 : decode M_Fs_courseAt.2.1 29 = .ok (.getfield 40, 3) := by decide +kernel
theorem d_Fs_courseAt_32 : decode M_Fs_courseAt.2.1 32 = .ok (.getfield 202, 3) := by decide +kernel
theorem d_Fs_courseAt_35 : decode M_Fs_courseAt.2.1 35 = .ok (.if_icmp .lt 9, 3) := by decide +kernel
theorem d_Fs_courseAt_38 : decode M_Fs_courseAt.2.1 38 = .ok (.aload_n 0, 1) := by decide +kernel
theorem d_Fs_courseAt_39 : decode M_Fs_courseAt.2.1 39 = .ok (.iconst 1, 1) := by decide +kernel
theorem d_Fs_courseAt_40 : decode M_Fs_courseAt.2.1 40 = .ok (.invokevirtual 102, 3) := by decide +kernel
theorem d_Fs_courseAt_43 : decode M_Fs_courseAt.2.1 43 = .ok (.ireturn, 1) := by decide +kernel
theorem d_Fs_courseAt_44 : decode M_Fs_courseAt.2.1 44 = .ok (.aload_n 0, 1) := by decide +kernel
theorem d_Fs_courseAt_45 : decode M_Fs_courseAt.2.1 45 = .ok (.getfield 40, 3) := by decide +kernel
theorem d_Fs_courseAt_48 : decode M_Fs_courseAt.2.1 48 = .ok (.getfield 205, 3) := by decide +kernel
theorem d_Fs_courseAt_51 : decode M_Fs_courseAt.2.1 51 = .ok (.iload_n 3, 1) := by decide +kernel
theorem d_Fs_courseAt_52 : decode M_Fs_courseAt.2.1 52 = .ok (.iaload, 1) := by decide +kernel
theorem d_Fs_courseAt_53 : decode M_Fs_courseAt.2.1 53 = .ok (.ireturn, 1) := by decide +kernel
theorem d_Fs_served_0 : decode M_Fs_served.2.1 0 = .ok (.aload_n 0, 1) := by decide +kernel
theorem d_Fs_served_1 : decode M_Fs_served.2.1 1 = .ok (.invokevirtual 208, 3) := by decide +kernel
theorem d_Fs_served_4 : decode M_Fs_served.2.1 4 = .ok (.ifCond .eq 5, 3) := by decide +kernel
theorem d_Fs_served_7 : decode M_Fs_served.2.1 7 = .ok (.iconst (-1), 1) := by decide +kernel
theorem d_Fs_served_8 : decode M_Fs_served.2.1 8 = .ok (.ireturn, 1) := by decide +kernel
theorem d_Fs_served_9 : decode M_Fs_served.2.1 9 = .ok (.aload_n 0, 1) := by decide +kernel
theorem d_Fs_served_10 : decode M_Fs_served.2.1 10 = .ok (.getfield 49, 3) := by decide +kernel
theorem d_Fs_served_13 : decode M_Fs_served.2.1 13 = .ok (.aload_n 0, 1) := by decide +kernel
theorem d_Fs_served_14 : decode M_Fs_served.2.1 14 = .ok (.getfield 30, 3) := by decide +kernel
theorem d_Fs_served_17 : decode M_Fs_served.2.1 17 = .ok (.invokevirtual 182, 3) := by decide +kernel
theorem d_Fs_served_20 : decode M_Fs_served.2.1 20 = .ok (.ireturn, 1) := by decide +kernel
theorem d_Fs_rounds_0 : decode M_Fs_rounds.2.1 0 = .ok (.aload_n 0, 1) := by decide +kernel
theorem d_Fs_rounds_1 : decode M_Fs_rounds.2.1 1 = .ok (.invokevirtual 208, 3) := by decide +kernel
theorem d_Fs_rounds_4 : decode M_Fs_rounds.2.1 4 = .ok (.ifCond .eq 5, 3) := by decide +kernel
theorem d_Fs_rounds_7 : decode M_Fs_rounds.2.1 7 = .ok (.iconst (-1), 1) := by decide +kernel
theorem d_Fs_rounds_8 : decode M_Fs_rounds.2.1 8 = .ok (.ireturn, 1) := by decide +kernel
theorem d_Fs_rounds_9 : decode M_Fs_rounds.2.1 9 = .ok (.iconst 0, 1) := by decide +kernel
theorem d_Fs_rounds_10 : decode M_Fs_rounds.2.1 10 = .ok (.istore_n 1, 1) := by decide +kernel
theorem d_Fs_rounds_11 : decode M_Fs_rounds.2.1 11 = .ok (.iconst 0, 1) := by decide +kernel
theorem d_Fs_rounds_12 : decode M_Fs_rounds.2.1 12 = .ok (.istore_n 2, 1) := by decide +kernel
theorem d_Fs_rounds_13 : decode M_Fs_rounds.2.1 13 = .ok (.iload_n 2, 1) := by decide +kernel
theorem d_Fs_rounds_14 : decode M_Fs_rounds.2.1 14 = .ok (.aload_n 0, 1) := by decide +kernel
theorem d_Fs_rounds_15 : decode M_Fs_rounds.2.1 15 = .ok (.getfield 30, 3) := by decide +kernel
theorem d_Fs_rounds_18 : decode M_Fs_rounds.2.1 18 = .ok (.getfield 143, 3) := by decide +kernel
theorem d_Fs_rounds_21 : decode M_Fs_rounds.2.1 21 = .ok (.if_icmp .ge 26, 3) := by decide +kernel
theorem d_Fs_rounds_24 : decode M_Fs_rounds.2.1 24 = .ok (.aload_n 0, 1) := by decide +kernel
theorem d_Fs_rounds_25 : decode M_Fs_rounds.2.1 25 = .ok (.getfield 30, 3) := by decide +kernel
theorem d_Fs_rounds_28 : decode M_Fs_rounds.2.1 28 = .ok (.iload_n 2, 1) := by decide +kernel
theorem d_Fs_rounds_29 : decode M_Fs_rounds.2.1 29 = .ok (.invokevirtual 212, 3) := by decide +kernel
theorem d_Fs_rounds_32 : decode M_Fs_rounds.2.1 32 = .ok (.ifCond .eq 9, 3) := by decide +kernel
theorem d_Fs_rounds_35 : decode M_Fs_rounds.2.1 35 = .ok (.iload_n 1, 1) := by decide +kernel
theorem d_Fs_rounds_36 : decode M_Fs_rounds.2.1 36 = .ok (.iconst 1, 1) := by decide +kernel
theorem d_Fs_rounds_37 : decode M_Fs_rounds.2.1 37 = .ok (.iload_n 2, 1) := by decide +kernel
theorem d_Fs_rounds_38 : decode M_Fs_rounds.2.1 38 = .ok (.ishl, 1) := by decide +kernel
theorem d_Fs_rounds_39 : decode M_Fs_rounds.2.1 39 = .ok (.ior, 1) := by decide +kernel
theorem d_Fs_rounds_40 : decode M_Fs_rounds.2.1 40 = .ok (.istore_n 1, 1) := by decide +kernel
theorem d_Fs_rounds_41 : decode M_Fs_rounds.2.1 41 = .ok (.iinc 2 1, 3) := by decide +kernel
theorem d_Fs_rounds_44 : decode M_Fs_rounds.2.1 44 = .ok (.goto (-31), 3) := by decide +kernel
theorem d_Fs_rounds_47 : decode M_Fs_rounds.2.1 47 = .ok (.iload_n 1, 1) := by decide +kernel
theorem d_Fs_rounds_48 : decode M_Fs_rounds.2.1 48 = .ok (.ireturn, 1) := by decide +kernel
theorem d_Fs_idle_0 : decode M_Fs_idle.2.1 0 = .ok (.aload_n 0, 1) := by decide +kernel
theorem d_Fs_idle_1 : decode M_Fs_idle.2.1 1 = .ok (.invokevirtual 208, 3) := by decide +kernel
theorem d_Fs_idle_4 : decode M_Fs_idle.2.1 4 = .ok (.ifCond .eq 5, 3) := by decide +kernel
theorem d_Fs_idle_7 : decode M_Fs_idle.2.1 7 = .ok (.iconst (-1), 1) := by decide +kernel
theorem d_Fs_idle_8 : decode M_Fs_idle.2.1 8 = .ok (.ireturn, 1) := by decide +kernel
theorem d_Fs_idle_9 : decode M_Fs_idle.2.1 9 = .ok (.aload_n 0, 1) := by decide +kernel
theorem d_Fs_idle_10 : decode M_Fs_idle.2.1 10 = .ok (.getfield 49, 3) := by decide +kernel
theorem d_Fs_idle_13 : decode M_Fs_idle.2.1 13 = .ok (.aload_n 0, 1) := by decide +kernel
theorem d_Fs_idle_14 : decode M_Fs_idle.2.1 14 = .ok (.getfield 30, 3) := by decide +kernel
theorem d_Fs_idle_17 : decode M_Fs_idle.2.1 17 = .ok (.invokevirtual 215, 3) := by decide +kernel
theorem d_Fs_idle_20 : decode M_Fs_idle.2.1 20 = .ok (.istore_n 1, 1) := by decide +kernel
theorem d_Fs_idle_21 : decode M_Fs_idle.2.1 21 = .ok (.iconst 0, 1) := by decide +kernel
theorem d_Fs_idle_22 : decode M_Fs_idle.2.1 22 = .ok (.istore_n 2, 1) := by decide +kernel
theorem d_Fs_idle_23 : decode M_Fs_idle.2.1 23 = .ok (.iload_n 2, 1) := by decide +kernel
theorem d_Fs_idle_24 : decode M_Fs_idle.2.1 24 = .ok (.aload_n 0, 1) := by decide +kernel
theorem d_Fs_idle_25 : decode M_Fs_idle.2.1 25 = .ok (.getfield 30, 3) := by decide +kernel
theorem d_Fs_idle_28 : decode M_Fs_idle.2.1 28 = .ok (.getfield 143, 3) := by decide +kernel
theorem d_Fs_idle_31 : decode M_Fs_idle.2.1 31 = .ok (.if_icmp .ge 33, 3) := by decide +kernel
theorem d_Fs_idle_34 : decode M_Fs_idle.2.1 34 = .ok (.iload_n 1, 1) := by decide +kernel
theorem d_Fs_idle_35 : decode M_Fs_idle.2.1 35 = .ok (.iload_n 2, 1) := by decide +kernel
theorem d_Fs_idle_36 : decode M_Fs_idle.2.1 36 = .ok (.ishr, 1) := by decide +kernel
theorem d_Fs_idle_37 : decode M_Fs_idle.2.1 37 = .ok (.iconst 1, 1) := by decide +kernel
theorem d_Fs_idle_38 : decode M_Fs_idle.2.1 38 = .ok (.iand, 1) := by decide +kernel
theorem d_Fs_idle_39 : decode M_Fs_idle.2.1 39 = .ok (.ifCond .ne 19, 3) := by decide +kernel
theorem d_Fs_idle_42 : decode M_Fs_idle.2.1 42 = .ok (.aload_n 0, 1) := by decide +kernel
theorem d_Fs_idle_43 : decode M_Fs_idle.2.1 43 = .ok (.getfield 30, 3) := by decide +kernel
theorem d_Fs_idle_46 : decode M_Fs_idle.2.1 46 = .ok (.iload_n 2, 1) := by decide +kernel
theorem d_Fs_idle_47 : decode M_Fs_idle.2.1 47 = .ok (.iconst 1, 1) := by decide +kernel
theorem d_Fs_idle_48 : decode M_Fs_idle.2.1 48 = .ok (.invokevirtual 186, 3) := by decide +kernel
theorem d_Fs_idle_51 : decode M_Fs_idle.2.1 51 = .ok (.bipush (-2), 2) := by decide +kernel
theorem d_Fs_idle_53 : decode M_Fs_idle.2.1 53 = .ok (.if_icmp .eq 5, 3) := by decide +kernel
theorem d_Fs_idle_56 : decode M_Fs_idle.2.1 56 = .ok (.iload_n 2, 1) := by decide +kernel
theorem d_Fs_idle_57 : decode M_Fs_idle.2.1 57 = .ok (.ireturn, 1) := by decide +kernel
theorem d_Fs_idle_58 : decode M_Fs_idle.2.1 58 = .ok (.iinc 2 1, 3) := by decide +kernel
theorem d_Fs_idle_61 : decode M_Fs_idle.2.1 61 = .ok (.goto (-38), 3) := by decide +kernel
theorem d_Fs_idle_64 : decode M_Fs_idle.2.1 64 = .ok (.bipush (-2), 2) := by decide +kernel
theorem d_Fs_idle_66 : decode M_Fs_idle.2.1 66 = .ok (.ireturn, 1) := by decide +kernel
theorem d_Fs_serves_0 : decode M_Fs_serves.2.1 0 = .ok (.aload_n 0, 1) := by decide +kernel
theorem d_Fs_serves_1 : decode M_Fs_serves.2.1 1 = .ok (.iload_n 1, 1) := by decide +kernel
theorem d_Fs_serves_2 : decode M_Fs_serves.2.1 2 = .ok (.invokevirtual 173, 3) := by decide +kernel
theorem d_Fs_serves_5 : decode M_Fs_serves.2.1 5 = .ok (.ifCond .eq 5, 3) := by decide +kernel
theorem d_Fs_serves_8 : decode M_Fs_serves.2.1 8 = .ok (.iconst (-1), 1) := by decide +kernel
theorem d_Fs_serves_9 : decode M_Fs_serves.2.1 9 = .ok (.ireturn, 1) := by decide +kernel
theorem d_Fs_serves_10 : decode M_Fs_serves.2.1 10 = .ok (.aload_n 0, 1) := by decide +kernel
theorem d_Fs_serves_11 : decode M_Fs_serves.2.1 11 = .ok (.getfield 49, 3) := by decide +kernel
theorem d_Fs_serves_14 : decode M_Fs_serves.2.1 14 = .ok (.aload_n 0, 1) := by decide +kernel
theorem d_Fs_serves_15 : decode M_Fs_serves.2.1 15 = .ok (.getfield 30, 3) := by decide +kernel
theorem d_Fs_serves_18 : decode M_Fs_serves.2.1 18 = .ok (.iload_n 1, 1) := by decide +kernel
theorem d_Fs_serves_19 : decode M_Fs_serves.2.1 19 = .ok (.invokevirtual 218, 3) := by decide +kernel
theorem d_Fs_serves_22 : decode M_Fs_serves.2.1 22 = .ok (.ireturn, 1) := by decide +kernel
theorem d_Fs_best_0 : decode M_Fs_best.2.1 0 = .ok (.aload_n 0, 1) := by decide +kernel
theorem d_Fs_best_1 : decode M_Fs_best.2.1 1 = .ok (.iload_n 1, 1) := by decide +kernel
theorem d_Fs_best_2 : decode M_Fs_best.2.1 2 = .ok (.invokevirtual 173, 3) := by decide +kernel
theorem d_Fs_best_5 : decode M_Fs_best.2.1 5 = .ok (.ifCond .eq 5, 3) := by decide +kernel
theorem d_Fs_best_8 : decode M_Fs_best.2.1 8 = .ok (.iconst (-1), 1) := by decide +kernel
theorem d_Fs_best_9 : decode M_Fs_best.2.1 9 = .ok (.ireturn, 1) := by decide +kernel
theorem d_Fs_best_10 : decode M_Fs_best.2.1 10 = .ok (.aload_n 0, 1) := by decide +kernel
theorem d_Fs_best_11 : decode M_Fs_best.2.1 11 = .ok (.getfield 49, 3) := by decide +kernel
theorem d_Fs_best_14 : decode M_Fs_best.2.1 14 = .ok (.aload_n 0, 1) := by decide +kernel
theorem d_Fs_best_15 : decode M_Fs_best.2.1 15 = .ok (.getfield 30, 3) := by decide +kernel
theorem d_Fs_best_18 : decode M_Fs_best.2.1 18 = .ok (.iload_n 1, 1) := by decide +kernel
theorem d_Fs_best_19 : decode M_Fs_best.2.1 19 = .ok (.invokevirtual 222, 3) := by decide +kernel
theorem d_Fs_best_22 : decode M_Fs_best.2.1 22 = .ok (.aload_n 0, 1) := by decide +kernel
theorem d_Fs_best_23 : decode M_Fs_best.2.1 23 = .ok (.getfield 49, 3) := by decide +kernel
theorem d_Fs_best_26 : decode M_Fs_best.2.1 26 = .ok (.getfield 226, 3) := by decide +kernel
theorem d_Fs_best_29 : decode M_Fs_best.2.1 29 = .ok (.ireturn, 1) := by decide +kernel
theorem d_Fs_shortest_0 : decode M_Fs_shortest.2.1 0 = .ok (.aload_n 0, 1) := by decide +kernel
theorem d_Fs_shortest_1 : decode M_Fs_shortest.2.1 1 = .ok (.iload_n 1, 1) := by decide +kernel
theorem d_Fs_shortest_2 : decode M_Fs_shortest.2.1 2 = .ok (.invokevirtual 173, 3) := by decide +kernel
theorem d_Fs_shortest_5 : decode M_Fs_shortest.2.1 5 = .ok (.ifCond .eq 5, 3) := by decide +kernel
theorem d_Fs_shortest_8 : decode M_Fs_shortest.2.1 8 = .ok (.iconst (-1), 1) := by decide +kernel
theorem d_Fs_shortest_9 : decode M_Fs_shortest.2.1 9 = .ok (.ireturn, 1) := by decide +kernel
theorem d_Fs_shortest_10 : decode M_Fs_shortest.2.1 10 = .ok (.aload_n 0, 1) := by decide +kernel
theorem d_Fs_shortest_11 : decode M_Fs_shortest.2.1 11 = .ok (.getfield 49, 3) := by decide +kernel
theorem d_Fs_shortest_14 : decode M_Fs_shortest.2.1 14 = .ok (.aload_n 0, 1) := by decide +kernel
theorem d_Fs_shortest_15 : decode M_Fs_shortest.2.1 15 = .ok (.getfield 30, 3) := by decide +kernel
theorem d_Fs_shortest_18 : decode M_Fs_shortest.2.1 18 = .ok (.iload_n 1, 1) := by decide +kernel
theorem d_Fs_shortest_19 : decode M_Fs_shortest.2.1 19 = .ok (.invokevirtual 222, 3) := by decide +kernel
theorem d_Fs_shortest_22 : decode M_Fs_shortest.2.1 22 = .ok (.aload_n 0, 1) := by decide +kernel
theorem d_Fs_shortest_23 : decode M_Fs_shortest.2.1 23 = .ok (.getfield 49, 3) := by decide +kernel
theorem d_Fs_shortest_26 : decode M_Fs_shortest.2.1 26 = .ok (.getfield 229, 3) := by decide +kernel
theorem d_Fs_shortest_29 : decode M_Fs_shortest.2.1 29 = .ok (.ireturn, 1) := by decide +kernel
theorem d_Fs_widest_0 : decode M_Fs_widest.2.1 0 = .ok (.aload_n 0, 1) := by decide +kernel
theorem d_Fs_widest_1 : decode M_Fs_widest.2.1 1 = .ok (.invokevirtual 208, 3) := by decide +kernel
theorem d_Fs_widest_4 : decode M_Fs_widest.2.1 4 = .ok (.ifCond .eq 5, 3) := by decide +kernel
theorem d_Fs_widest_7 : decode M_Fs_widest.2.1 7 = .ok (.iconst (-1), 1) := by decide +kernel
theorem d_Fs_widest_8 : decode M_Fs_widest.2.1 8 = .ok (.ireturn, 1) := by decide +kernel
theorem d_Fs_widest_9 : decode M_Fs_widest.2.1 9 = .ok (.aload_n 0, 1) := by decide +kernel
theorem d_Fs_widest_10 : decode M_Fs_widest.2.1 10 = .ok (.getfield 49, 3) := by decide +kernel
theorem d_Fs_widest_13 : decode M_Fs_widest.2.1 13 = .ok (.aload_n 0, 1) := by decide +kernel
theorem d_Fs_widest_14 : decode M_Fs_widest.2.1 14 = .ok (.getfield 30, 3) := by decide +kernel
theorem d_Fs_widest_17 : decode M_Fs_widest.2.1 17 = .ok (.invokevirtual 232, 3) := by decide +kernel
theorem d_Fs_widest_20 : decode M_Fs_widest.2.1 20 = .ok (.ireturn, 1) := by decide +kernel
theorem d_Fs_change_0 : decode M_Fs_change.2.1 0 = .ok (.aload_n 0, 1) := by decide +kernel
theorem d_Fs_change_1 : decode M_Fs_change.2.1 1 = .ok (.invokevirtual 208, 3) := by decide +kernel
theorem d_Fs_change_4 : decode M_Fs_change.2.1 4 = .ok (.ifCond .eq 5, 3) := by decide +kernel
theorem d_Fs_change_7 : decode M_Fs_change.2.1 7 = .ok (.iconst (-1), 1) := by decide +kernel
theorem d_Fs_change_8 : decode M_Fs_change.2.1 8 = .ok (.ireturn, 1) := by decide +kernel
theorem d_Fs_change_9 : decode M_Fs_change.2.1 9 = .ok (.aload_n 0, 1) := by decide +kernel
theorem d_Fs_change_10 : decode M_Fs_change.2.1 10 = .ok (.getfield 49, 3) := by decide +kernel
theorem d_Fs_change_13 : decode M_Fs_change.2.1 13 = .ok (.aload_n 0, 1) := by decide +kernel
theorem d_Fs_change_14 : decode M_Fs_change.2.1 14 = .ok (.getfield 30, 3) := by decide +kernel
theorem d_Fs_change_17 : decode M_Fs_change.2.1 17 = .ok (.invokevirtual 235, 3) := by decide +kernel
theorem d_Fs_change_20 : decode M_Fs_change.2.1 20 = .ok (.aload_n 0, 1) := by decide +kernel
theorem d_Fs_change_21 : decode M_Fs_change.2.1 21 = .ok (.getfield 49, 3) := by decide +kernel
theorem d_Fs_change_24 : decode M_Fs_change.2.1 24 = .ok (.getfield 238, 3) := by decide +kernel
theorem d_Fs_change_27 : decode M_Fs_change.2.1 27 = .ok (.ireturn, 1) := by decide +kernel
theorem d_Fs_changeServes_0 : decode M_Fs_changeServes.2.1 0 = .ok (.aload_n 0, 1) := by decide +kernel
theorem d_Fs_changeServes_1 : decode M_Fs_changeServes.2.1 1 = .ok (.invokevirtual 208, 3) := by decide +kernel
theorem d_Fs_changeServes_4 : decode M_Fs_changeServes.2.1 4 = .ok (.ifCond .eq 5, 3) := by decide +kernel
theorem d_Fs_changeServes_7 : decode M_Fs_changeServes.2.1 7 = .ok (.iconst (-1), 1) := by decide +kernel
theorem d_Fs_changeServes_8 : decode M_Fs_changeServes.2.1 8 = .ok (.ireturn, 1) := by decide +kernel
theorem d_Fs_changeServes_9 : decode M_Fs_changeServes.2.1 9 = .ok (.aload_n 0, 1) := by decide +kernel
theorem d_Fs_changeServes_10 : decode M_Fs_changeServes.2.1 10 = .ok (.getfield 49, 3) := by decide +kernel
theorem d_Fs_changeServes_13 : decode M_Fs_changeServes.2.1 13 = .ok (.aload_n 0, 1) := by decide +kernel
theorem d_Fs_changeServes_14 : decode M_Fs_changeServes.2.1 14 = .ok (.getfield 30, 3) := by decide +kernel
theorem d_Fs_changeServes_17 : decode M_Fs_changeServes.2.1 17 = .ok (.invokevirtual 235, 3) := by decide +kernel
theorem d_Fs_changeServes_20 : decode M_Fs_changeServes.2.1 20 = .ok (.aload_n 0, 1) := by decide +kernel
theorem d_Fs_changeServes_21 : decode M_Fs_changeServes.2.1 21 = .ok (.getfield 49, 3) := by decide +kernel
theorem d_Fs_changeServes_24 : decode M_Fs_changeServes.2.1 24 = .ok (.getfield 241, 3) := by decide +kernel
theorem d_Fs_changeServes_27 : decode M_Fs_changeServes.2.1 27 = .ok (.ireturn, 1) := by decide +kernel
theorem d_Fs_servedIf_0 : decode M_Fs_servedIf.2.1 0 = .ok (.aload_n 0, 1) := by decide +kernel
theorem d_Fs_servedIf_1 : decode M_Fs_servedIf.2.1 1 = .ok (.iload_n 1, 1) := by decide +kernel
theorem d_Fs_servedIf_2 : decode M_Fs_servedIf.2.1 2 = .ok (.invokevirtual 146, 3) := by decide +kernel
theorem d_Fs_servedIf_5 : decode M_Fs_servedIf.2.1 5 = .ok (.ifCond .ne 11, 3) := by decide +kernel
theorem d_Fs_servedIf_8 : decode M_Fs_servedIf.2.1 8 = .ok (.aload_n 0, 1) := by decide +kernel
theorem d_Fs_servedIf_9 : decode M_Fs_servedIf.2.1 9 = .ok (.iload_n 2, 1) := by decide +kernel
theorem d_Fs_servedIf_10 : decode M_Fs_servedIf.2.1 10 = .ok (.invokevirtual 146, 3) := by decide +kernel
theorem d_Fs_servedIf_13 : decode M_Fs_servedIf.2.1 13 = .ok (.ifCond .eq 5, 3) := by decide +kernel
theorem d_Fs_servedIf_16 : decode M_Fs_servedIf.2.1 16 = .ok (.iconst (-1), 1) := by decide +kernel
theorem d_Fs_servedIf_17 : decode M_Fs_servedIf.2.1 17 = .ok (.ireturn, 1) := by decide +kernel
theorem d_Fs_servedIf_18 : decode M_Fs_servedIf.2.1 18 = .ok (.aload_n 0, 1) := by decide +kernel
theorem d_Fs_servedIf_19 : decode M_Fs_servedIf.2.1 19 = .ok (.getfield 34, 3) := by decide +kernel
theorem d_Fs_servedIf_22 : decode M_Fs_servedIf.2.1 22 = .ok (.aload_n 0, 1) := by decide +kernel
theorem d_Fs_servedIf_23 : decode M_Fs_servedIf.2.1 23 = .ok (.getfield 30, 3) := by decide +kernel
theorem d_Fs_servedIf_26 : decode M_Fs_servedIf.2.1 26 = .ok (.invokevirtual 130, 3) := by decide +kernel
theorem d_Fs_servedIf_29 : decode M_Fs_servedIf.2.1 29 = .ok (.aload_n 0, 1) := by decide +kernel
theorem d_Fs_servedIf_30 : decode M_Fs_servedIf.2.1 30 = .ok (.getfield 34, 3) := by decide +kernel
theorem d_Fs_servedIf_33 : decode M_Fs_servedIf.2.1 33 = .ok (.iload_n 1, 1) := by decide +kernel
theorem d_Fs_servedIf_34 : decode M_Fs_servedIf.2.1 34 = .ok (.iload_n 2, 1) := by decide +kernel
theorem d_Fs_servedIf_35 : decode M_Fs_servedIf.2.1 35 = .ok (.invokevirtual 244, 3) := by decide +kernel
theorem d_Fs_servedIf_38 : decode M_Fs_servedIf.2.1 38 = .ok (.aload_n 0, 1) := by decide +kernel
theorem d_Fs_servedIf_39 : decode M_Fs_servedIf.2.1 39 = .ok (.getfield 49, 3) := by decide +kernel
theorem d_Fs_servedIf_42 : decode M_Fs_servedIf.2.1 42 = .ok (.aload_n 0, 1) := by decide +kernel
theorem d_Fs_servedIf_43 : decode M_Fs_servedIf.2.1 43 = .ok (.getfield 34, 3) := by decide +kernel
theorem d_Fs_servedIf_46 : decode M_Fs_servedIf.2.1 46 = .ok (.invokevirtual 248, 3) := by decide +kernel
theorem d_Fs_servedIf_49 : decode M_Fs_servedIf.2.1 49 = .ok (.ireturn, 1) := by decide +kernel
theorem d_Fs_signsIn_0 : decode M_Fs_signsIn.2.1 0 = .ok (.aload_n 0, 1) := by decide +kernel
theorem d_Fs_signsIn_1 : decode M_Fs_signsIn.2.1 1 = .ok (.iload_n 1, 1) := by decide +kernel
theorem d_Fs_signsIn_2 : decode M_Fs_signsIn.2.1 2 = .ok (.invokevirtual 146, 3) := by decide +kernel
theorem d_Fs_signsIn_5 : decode M_Fs_signsIn.2.1 5 = .ok (.ifCond .ne 14, 3) := by decide +kernel
theorem d_Fs_signsIn_8 : decode M_Fs_signsIn.2.1 8 = .ok (.aload_n 0, 1) := by decide +kernel
theorem d_Fs_signsIn_9 : decode M_Fs_signsIn.2.1 9 = .ok (.iload_n 3, 1) := by decide +kernel
theorem d_Fs_signsIn_10 : decode M_Fs_signsIn.2.1 10 = .ok (.iconst 0, 1) := by decide +kernel
theorem d_Fs_signsIn_11 : decode M_Fs_signsIn.2.1 11 = .ok (.bipush 60, 2) := by decide +kernel
theorem d_Fs_signsIn_13 : decode M_Fs_signsIn.2.1 13 = .ok (.invokevirtual 251, 3) := by decide +kernel
theorem d_Fs_signsIn_16 : decode M_Fs_signsIn.2.1 16 = .ok (.ifCond .eq 5, 3) := by decide +kernel
theorem d_Fs_signsIn_19 : decode M_Fs_signsIn.2.1 19 = .ok (.iconst (-1), 1) := by decide +kernel
theorem d_Fs_signsIn_20 : decode M_Fs_signsIn.2.1 20 = .ok (.ireturn, 1) := by decide +kernel
theorem d_Fs_signsIn_21 : decode M_Fs_signsIn.2.1 21 = .ok (.aload_n 0, 1) := by decide +kernel
theorem d_Fs_signsIn_22 : decode M_Fs_signsIn.2.1 22 = .ok (.iload_n 3, 1) := by decide +kernel
theorem d_Fs_signsIn_23 : decode M_Fs_signsIn.2.1 23 = .ok (.invokevirtual 255, 3) := by decide +kernel
theorem d_Fs_signsIn_26 : decode M_Fs_signsIn.2.1 26 = .ok (.aload_n 0, 1) := by decide +kernel
theorem d_Fs_signsIn_27 : decode M_Fs_signsIn.2.1 27 = .ok (.getfield 40, 3) := by decide +kernel
theorem d_Fs_signsIn_30 : decode M_Fs_signsIn.2.1 30 = .ok (.aload_n 0, 1) := by decide +kernel
theorem d_Fs_signsIn_31 : decode M_Fs_signsIn.2.1 31 = .ok (.getfield 34, 3) := by decide +kernel
theorem d_Fs_signsIn_34 : decode M_Fs_signsIn.2.1 34 = .ok (.iload_n 1, 1) := by decide +kernel
theorem d_Fs_signsIn_35 : decode M_Fs_signsIn.2.1 35 = .ok (.iload_n 2, 1) := by decide +kernel
theorem d_Fs_signsIn_36 : decode M_Fs_signsIn.2.1 36 = .ok (.invokevirtual 189, 3) := by decide +kernel
theorem d_Fs_signsIn_39 : decode M_Fs_signsIn.2.1 39 = .ok (.aload_n 0, 1) := by decide +kernel
theorem d_Fs_signsIn_40 : decode M_Fs_signsIn.2.1 40 = .ok (.getfield 40, 3) := by decide +kernel
theorem d_Fs_signsIn_43 : decode M_Fs_signsIn.2.1 43 = .ok (.getfield 193, 3) := by decide +kernel
theorem d_Fs_signsIn_46 : decode M_Fs_signsIn.2.1 46 = .ok (.ireturn, 1) := by decide +kernel
theorem d_Fs_servedIn_0 : decode M_Fs_servedIn.2.1 0 = .ok (.aload_n 0, 1) := by decide +kernel
theorem d_Fs_servedIn_1 : decode M_Fs_servedIn.2.1 1 = .ok (.invokevirtual 208, 3) := by decide +kernel
theorem d_Fs_servedIn_4 : decode M_Fs_servedIn.2.1 4 = .ok (.ifCond .ne 14, 3) := by decide +kernel
theorem d_Fs_servedIn_7 : decode M_Fs_servedIn.2.1 7 = .ok (.aload_n 0, 1) := by decide +kernel
theorem d_Fs_servedIn_8 : decode M_Fs_servedIn.2.1 8 = .ok (.iload_n 1, 1) := by decide +kernel
theorem d_Fs_servedIn_9 : decode M_Fs_servedIn.2.1 9 = .ok (.iconst 0, 1) := by decide +kernel
theorem d_Fs_servedIn_10 : decode M_Fs_servedIn.2.1 10 = .ok (.bipush 60, 2) := by decide +kernel
theorem d_Fs_servedIn_12 : decode M_Fs_servedIn.2.1 12 = .ok (.invokevirtual 251, 3) := by decide +kernel
theorem d_Fs_servedIn_15 : decode M_Fs_servedIn.2.1 15 = .ok (.ifCond .eq 5, 3) := by decide +kernel
theorem d_Fs_servedIn_18 : decode M_Fs_servedIn.2.1 18 = .ok (.iconst (-1), 1) := by decide +kernel
theorem d_Fs_servedIn_19 : decode M_Fs_servedIn.2.1 19 = .ok (.ireturn, 1) := by decide +kernel
theorem d_Fs_servedIn_20 : decode M_Fs_servedIn.2.1 20 = .ok (.aload_n 0, 1) := by decide +kernel
theorem d_Fs_servedIn_21 : decode M_Fs_servedIn.2.1 21 = .ok (.iload_n 1, 1) := by decide +kernel
theorem d_Fs_servedIn_22 : decode M_Fs_servedIn.2.1 22 = .ok (.invokevirtual 255, 3) := by decide +kernel
theorem d_Fs_servedIn_25 : decode M_Fs_servedIn.2.1 25 = .ok (.aload_n 0, 1) := by decide +kernel
theorem d_Fs_servedIn_26 : decode M_Fs_servedIn.2.1 26 = .ok (.getfield 49, 3) := by decide +kernel
theorem d_Fs_servedIn_29 : decode M_Fs_servedIn.2.1 29 = .ok (.aload_n 0, 1) := by decide +kernel
theorem d_Fs_servedIn_30 : decode M_Fs_servedIn.2.1 30 = .ok (.getfield 34, 3) := by decide +kernel
theorem d_Fs_servedIn_33 : decode M_Fs_servedIn.2.1 33 = .ok (.invokevirtual 182, 3) := by decide +kernel
theorem d_Fs_servedIn_36 : decode M_Fs_servedIn.2.1 36 = .ok (.ireturn, 1) := by decide +kernel
theorem d_Fs_firstServed_0 : decode M_Fs_firstServed.2.1 0 = .ok (.aload_n 0, 1) := by decide +kernel
theorem d_Fs_firstServed_1 : decode M_Fs_firstServed.2.1 1 = .ok (.iload_n 1, 1) := by decide +kernel
theorem d_Fs_firstServed_2 : decode M_Fs_firstServed.2.1 2 = .ok (.invokevirtual 173, 3) := by decide +kernel
theorem d_Fs_firstServed_5 : decode M_Fs_firstServed.2.1 5 = .ok (.ifCond .eq 5, 3) := by decide +kernel
theorem d_Fs_firstServed_8 : decode M_Fs_firstServed.2.1 8 = .ok (.iconst (-1), 1) := by decide +kernel
theorem d_Fs_firstServed_9 : decode M_Fs_firstServed.2.1 9 = .ok (.ireturn, 1) := by decide +kernel
theorem d_Fs_firstServed_10 : decode M_Fs_firstServed.2.1 10 = .ok (.iconst 0, 1) := by decide +kernel
theorem d_Fs_firstServed_11 : decode M_Fs_firstServed.2.1 11 = .ok (.istore_n 2, 1) := by decide +kernel
theorem d_Fs_firstServed_12 : decode M_Fs_firstServed.2.1 12 = .ok (.iload_n 2, 1) := by decide +kernel
theorem d_Fs_firstServed_13 : decode M_Fs_firstServed.2.1 13 = .ok (.bipush 60, 2) := by decide +kernel
theorem d_Fs_firstServed_15 : decode M_Fs_firstServed.2.1 15 = .ok (.if_icmp .gt 20, 3) := by decide +kernel
theorem d_Fs_firstServed_18 : decode M_Fs_firstServed.2.1 18 = .ok (.aload_n 0, 1) := by decide +kernel
theorem d_Fs_firstServed_19 : decode M_Fs_firstServed.2.1 19 = .ok (.iload_n 1, 1) := by decide +kernel
theorem d_Fs_firstServed_20 : decode M_Fs_firstServed.2.1 20 = .ok (.iload_n 2, 1) := by decide +kernel
theorem d_Fs_firstServed_21 : decode M_Fs_firstServed.2.1 21 = .ok (.invokevirtual 258, 3) := by decide +kernel
theorem d_Fs_firstServed_24 : decode M_Fs_firstServed.2.1 24 = .ok (.ifCond .eq 5, 3) := by decide +kernel
theorem d_Fs_firstServed_27 : decode M_Fs_firstServed.2.1 27 = .ok (.iload_n 2, 1) := by decide +kernel
theorem d_Fs_firstServed_28 : decode M_Fs_firstServed.2.1 28 = .ok (.ireturn, 1) := by decide +kernel
theorem d_Fs_firstServed_29 : decode M_Fs_firstServed.2.1 29 = .ok (.iinc 2 1, 3) := by decide +kernel
theorem d_Fs_firstServed_32 : decode M_Fs_firstServed.2.1 32 = .ok (.goto (-20), 3) := by decide +kernel
theorem d_Fs_firstServed_35 : decode M_Fs_firstServed.2.1 35 = .ok (.bipush (-2), 2) := by decide +kernel
theorem d_Fs_firstServed_37 : decode M_Fs_firstServed.2.1 37 = .ok (.ireturn, 1) := by decide +kernel
theorem d_Fs_lastServed_0 : decode M_Fs_lastServed.2.1 0 = .ok (.aload_n 0, 1) := by decide +kernel
theorem d_Fs_lastServed_1 : decode M_Fs_lastServed.2.1 1 = .ok (.iload_n 1, 1) := by decide +kernel
theorem d_Fs_lastServed_2 : decode M_Fs_lastServed.2.1 2 = .ok (.invokevirtual 173, 3) := by decide +kernel
theorem d_Fs_lastServed_5 : decode M_Fs_lastServed.2.1 5 = .ok (.ifCond .eq 5, 3) := by decide +kernel
theorem d_Fs_lastServed_8 : decode M_Fs_lastServed.2.1 8 = .ok (.iconst (-1), 1) := by decide +kernel
theorem d_Fs_lastServed_9 : decode M_Fs_lastServed.2.1 9 = .ok (.ireturn, 1) := by decide +kernel
theorem d_Fs_lastServed_10 : decode M_Fs_lastServed.2.1 10 = .ok (.bipush 60, 2) := by decide +kernel
theorem d_Fs_lastServed_12 : decode M_Fs_lastServed.2.1 12 = .ok (.istore_n 2, 1) := by decide +kernel
theorem d_Fs_lastServed_13 : decode M_Fs_lastServed.2.1 13 = .ok (.iload_n 2, 1) := by decide +kernel
theorem d_Fs_lastServed_14 : decode M_Fs_lastServed.2.1 14 = .ok (.ifCond .lt 20, 3) := by decide +kernel
theorem d_Fs_lastServed_17 : decode M_Fs_lastServed.2.1 17 = .ok (.aload_n 0, 1) := by decide +kernel
theorem d_Fs_lastServed_18 : decode M_Fs_lastServed.2.1 18 = .ok (.iload_n 1, 1) := by decide +kernel
theorem d_Fs_lastServed_19 : decode M_Fs_lastServed.2.1 19 = .ok (.iload_n 2, 1) := by decide +kernel
theorem d_Fs_lastServed_20 : decode M_Fs_lastServed.2.1 20 = .ok (.invokevirtual 258, 3) := by decide +kernel
theorem d_Fs_lastServed_23 : decode M_Fs_lastServed.2.1 23 = .ok (.ifCond .eq 5, 3) := by decide +kernel
theorem d_Fs_lastServed_26 : decode M_Fs_lastServed.2.1 26 = .ok (.iload_n 2, 1) := by decide +kernel
theorem d_Fs_lastServed_27 : decode M_Fs_lastServed.2.1 27 = .ok (.ireturn, 1) := by decide +kernel
theorem d_Fs_lastServed_28 : decode M_Fs_lastServed.2.1 28 = .ok (.iinc 2 (-1), 3) := by decide +kernel
theorem d_Fs_lastServed_31 : decode M_Fs_lastServed.2.1 31 = .ok (.goto (-18), 3) := by decide +kernel
theorem d_Fs_lastServed_34 : decode M_Fs_lastServed.2.1 34 = .ok (.bipush (-2), 2) := by decide +kernel
theorem d_Fs_lastServed_36 : decode M_Fs_lastServed.2.1 36 = .ok (.ireturn, 1) := by decide +kernel
theorem d_Fs_plan_0 : decode M_Fs_plan.2.1 0 = .ok (.aload_n 0, 1) := by decide +kernel
theorem d_Fs_plan_1 : decode M_Fs_plan.2.1 1 = .ok (.invokevirtual 208, 3) := by decide +kernel
theorem d_Fs_plan_4 : decode M_Fs_plan.2.1 4 = .ok (.ifCond .ne 13, 3) := by decide +kernel
theorem d_Fs_plan_7 : decode M_Fs_plan.2.1 7 = .ok (.aload_n 0, 1) := by decide +kernel
theorem d_Fs_plan_8 : decode M_Fs_plan.2.1 8 = .ok (.iload_n 1, 1) := by decide +kernel
theorem d_Fs_plan_9 : decode M_Fs_plan.2.1 9 = .ok (.iconst 1, 1) := by decide +kernel
theorem d_Fs_plan_10 : decode M_Fs_plan.2.1 10 = .ok (.iconst 4, 1) := by decide +kernel
theorem d_Fs_plan_11 : decode M_Fs_plan.2.1 11 = .ok (.invokevirtual 251, 3) := by decide +kernel
theorem d_Fs_plan_14 : decode M_Fs_plan.2.1 14 = .ok (.ifCond .eq 5, 3) := by decide +kernel
theorem d_Fs_plan_17 : decode M_Fs_plan.2.1 17 = .ok (.iconst (-1), 1) := by decide +kernel
theorem d_Fs_plan_18 : decode M_Fs_plan.2.1 18 = .ok (.ireturn, 1) := by decide +kernel
theorem d_Fs_plan_19 : decode M_Fs_plan.2.1 19 = .ok (.aload_n 0, 1) := by decide +kernel
theorem d_Fs_plan_20 : decode M_Fs_plan.2.1 20 = .ok (.getfield 58, 3) := by decide +kernel
theorem d_Fs_plan_23 : decode M_Fs_plan.2.1 23 = .ok (.aload_n 0, 1) := by decide +kernel
theorem d_Fs_plan_24 : decode M_Fs_plan.2.1 24 = .ok (.getfield 30, 3) := by decide +kernel
theorem d_Fs_plan_27 : decode M_Fs_plan.2.1 27 = .ok (.iload_n 1, 1) := by decide +kernel
theorem d_Fs_plan_28 : decode M_Fs_plan.2.1 28 = .ok (.invokevirtual 262, 3) := by decide +kernel
theorem d_Fs_plan_31 : decode M_Fs_plan.2.1 31 = .ok (.aload_n 0, 1) := by decide +kernel
theorem d_Fs_plan_32 : decode M_Fs_plan.2.1 32 = .ok (.getfield 58, 3) := by decide +kernel
theorem d_Fs_plan_35 : decode M_Fs_plan.2.1 35 = .ok (.getfield 265, 3) := by decide +kernel
theorem d_Fs_plan_38 : decode M_Fs_plan.2.1 38 = .ok (.ireturn, 1) := by decide +kernel
theorem d_Fs_planServes_0 : decode M_Fs_planServes.2.1 0 = .ok (.aload_n 0, 1) := by decide +kernel
theorem d_Fs_planServes_1 : decode M_Fs_planServes.2.1 1 = .ok (.invokevirtual 208, 3) := by decide +kernel
theorem d_Fs_planServes_4 : decode M_Fs_planServes.2.1 4 = .ok (.ifCond .ne 13, 3) := by decide +kernel
theorem d_Fs_planServes_7 : decode M_Fs_planServes.2.1 7 = .ok (.aload_n 0, 1) := by decide +kernel
theorem d_Fs_planServes_8 : decode M_Fs_planServes.2.1 8 = .ok (.iload_n 1, 1) := by decide +kernel
theorem d_Fs_planServes_9 : decode M_Fs_planServes.2.1 9 = .ok (.iconst 1, 1) := by decide +kernel
theorem d_Fs_planServes_10 : decode M_Fs_planServes.2.1 10 = .ok (.iconst 4, 1) := by decide +kernel
theorem d_Fs_planServes_11 : decode M_Fs_planServes.2.1 11 = .ok (.invokevirtual 251, 3) := by decide +kernel
theorem d_Fs_planServes_14 : decode M_Fs_planServes.2.1 14 = .ok (.ifCond .eq 5, 3) := by decide +kernel
theorem d_Fs_planServes_17 : decode M_Fs_planServes.2.1 17 = .ok (.iconst (-1), 1) := by decide +kernel
theorem d_Fs_planServes_18 : decode M_Fs_planServes.2.1 18 = .ok (.ireturn, 1) := by decide +kernel
theorem d_Fs_planServes_19 : decode M_Fs_planServes.2.1 19 = .ok (.aload_n 0, 1) := by decide +kernel
theorem d_Fs_planServes_20 : decode M_Fs_planServes.2.1 20 = .ok (.getfield 58, 3) := by decide +kernel
theorem d_Fs_planServes_23 : decode M_Fs_planServes.2.1 23 = .ok (.aload_n 0, 1) := by decide +kernel
theorem d_Fs_planServes_24 : decode M_Fs_planServes.2.1 24 = .ok (.getfield 30, 3) := by decide +kernel
theorem d_Fs_planServes_27 : decode M_Fs_planServes.2.1 27 = .ok (.iload_n 1, 1) := by decide +kernel
theorem d_Fs_planServes_28 : decode M_Fs_planServes.2.1 28 = .ok (.invokevirtual 262, 3) := by decide +kernel
theorem d_Fs_planServes_31 : decode M_Fs_planServes.2.1 31 = .ok (.aload_n 0, 1) := by decide +kernel
theorem d_Fs_planServes_32 : decode M_Fs_planServes.2.1 32 = .ok (.getfield 58, 3) := by decide +kernel
theorem d_Fs_planServes_35 : decode M_Fs_planServes.2.1 35 = .ok (.getfield 268, 3) := by decide +kernel
theorem d_Fs_planServes_38 : decode M_Fs_planServes.2.1 38 = .ok (.ireturn, 1) := by decide +kernel
theorem d_Fs_keep_0 : decode M_Fs_keep.2.1 0 = .ok (.aload_n 0, 1) := by decide +kernel
theorem d_Fs_keep_1 : decode M_Fs_keep.2.1 1 = .ok (.invokevirtual 208, 3) := by decide +kernel
theorem d_Fs_keep_4 : decode M_Fs_keep.2.1 4 = .ok (.ifCond .eq 5, 3) := by decide +kernel
theorem d_Fs_keep_7 : decode M_Fs_keep.2.1 7 = .ok (.iconst (-1), 1) := by decide +kernel
theorem d_Fs_keep_8 : decode M_Fs_keep.2.1 8 = .ok (.ireturn, 1) := by decide +kernel
theorem d_Fs_keep_9 : decode M_Fs_keep.2.1 9 = .ok (.aload_n 0, 1) := by decide +kernel
theorem d_Fs_keep_10 : decode M_Fs_keep.2.1 10 = .ok (.getfield 49, 3) := by decide +kernel
theorem d_Fs_keep_13 : decode M_Fs_keep.2.1 13 = .ok (.aload_n 0, 1) := by decide +kernel
theorem d_Fs_keep_14 : decode M_Fs_keep.2.1 14 = .ok (.getfield 30, 3) := by decide +kernel
theorem d_Fs_keep_17 : decode M_Fs_keep.2.1 17 = .ok (.invokevirtual 271, 3) := by decide +kernel
theorem d_Fs_keep_20 : decode M_Fs_keep.2.1 20 = .ok (.ireturn, 1) := by decide +kernel
theorem d_Fs_pillar_0 : decode M_Fs_pillar.2.1 0 = .ok (.aload_n 0, 1) := by decide +kernel
theorem d_Fs_pillar_1 : decode M_Fs_pillar.2.1 1 = .ok (.invokevirtual 208, 3) := by decide +kernel
theorem d_Fs_pillar_4 : decode M_Fs_pillar.2.1 4 = .ok (.ifCond .eq 5, 3) := by decide +kernel
theorem d_Fs_pillar_7 : decode M_Fs_pillar.2.1 7 = .ok (.iconst (-1), 1) := by decide +kernel
theorem d_Fs_pillar_8 : decode M_Fs_pillar.2.1 8 = .ok (.ireturn, 1) := by decide +kernel
theorem d_Fs_pillar_9 : decode M_Fs_pillar.2.1 9 = .ok (.aload_n 0, 1) := by decide +kernel
theorem d_Fs_pillar_10 : decode M_Fs_pillar.2.1 10 = .ok (.getfield 49, 3) := by decide +kernel
theorem d_Fs_pillar_13 : decode M_Fs_pillar.2.1 13 = .ok (.aload_n 0, 1) := by decide +kernel
theorem d_Fs_pillar_14 : decode M_Fs_pillar.2.1 14 = .ok (.getfield 30, 3) := by decide +kernel
theorem d_Fs_pillar_17 : decode M_Fs_pillar.2.1 17 = .ok (.invokevirtual 274, 3) := by decide +kernel
theorem d_Fs_pillar_20 : decode M_Fs_pillar.2.1 20 = .ok (.ireturn, 1) := by decide +kernel
theorem d_Fs_fits_0 : decode M_Fs_fits.2.1 0 = .ok (.aload_n 0, 1) := by decide +kernel
theorem d_Fs_fits_1 : decode M_Fs_fits.2.1 1 = .ok (.invokevirtual 208, 3) := by decide +kernel
theorem d_Fs_fits_4 : decode M_Fs_fits.2.1 4 = .ok (.ifCond .eq 5, 3) := by decide +kernel
theorem d_Fs_fits_7 : decode M_Fs_fits.2.1 7 = .ok (.iconst (-1), 1) := by decide +kernel
theorem d_Fs_fits_8 : decode M_Fs_fits.2.1 8 = .ok (.ireturn, 1) := by decide +kernel
theorem d_Fs_fits_9 : decode M_Fs_fits.2.1 9 = .ok (.aload_n 0, 1) := by decide +kernel
theorem d_Fs_fits_10 : decode M_Fs_fits.2.1 10 = .ok (.getfield 65, 3) := by decide +kernel
theorem d_Fs_fits_13 : decode M_Fs_fits.2.1 13 = .ok (.getfield 277, 3) := by decide +kernel
theorem d_Fs_fits_16 : decode M_Fs_fits.2.1 16 = .ok (.ireturn, 1) := by decide +kernel
theorem d_Fs_fitAt_0 : decode M_Fs_fitAt.2.1 0 = .ok (.aload_n 0, 1) := by decide +kernel
theorem d_Fs_fitAt_1 : decode M_Fs_fitAt.2.1 1 = .ok (.invokevirtual 208, 3) := by decide +kernel
theorem d_Fs_fitAt_4 : decode M_Fs_fitAt.2.1 4 = .ok (.ifCond .eq 5, 3) := by decide +kernel
theorem d_Fs_fitAt_7 : decode M_Fs_fitAt.2.1 7 = .ok (.iconst (-1), 1) := by decide +kernel
theorem d_Fs_fitAt_8 : decode M_Fs_fitAt.2.1 8 = .ok (.ireturn, 1) := by decide +kernel
theorem d_Fs_fitAt_9 : decode M_Fs_fitAt.2.1 9 = .ok (.iload_n 1, 1) := by decide +kernel
theorem d_Fs_fitAt_10 : decode M_Fs_fitAt.2.1 10 = .ok (.ifCond .lt 29, 3) := by decide +kernel
theorem d_Fs_fitAt_13 : decode M_Fs_fitAt.2.1 13 = .ok (.iload_n 1, 1) := by decide +kernel
theorem d_Fs_fitAt_14 : decode M_Fs_fitAt.2.1 14 = .ok (.aload_n 0, 1) := by decide +kernel
theorem d_Fs_fitAt_15 : decode M_Fs_fitAt.2.1 15 = .ok (.getfield 65, 3) := by decide +kernel
theorem d_Fs_fitAt_18 : decode M_Fs_fitAt.2.1 18 = .ok (.getfield 277, 3) := by decide +kernel
theorem d_Fs_fitAt_21 : decode M_Fs_fitAt.2.1 21 = .ok (.if_icmp .ge 18, 3) := by decide +kernel
theorem d_Fs_fitAt_24 : decode M_Fs_fitAt.2.1 24 = .ok (.iload_n 2, 1) := by decide +kernel
theorem d_Fs_fitAt_25 : decode M_Fs_fitAt.2.1 25 = .ok (.ifCond .lt 14, 3) := by decide +kernel
theorem d_Fs_fitAt_28 : decode M_Fs_fitAt.2.1 28 = .ok (.iload_n 2, 1) := by decide +kernel
theorem d_Fs_fitAt_29 : decode M_Fs_fitAt.2.1 29 = .ok (.aload_n 0, 1) := by decide +kernel
theorem d_Fs_fitAt_30 : decode M_Fs_fitAt.2.1 30 = .ok (.getfield 16, 3) := by decide +kernel
theorem d_Fs_fitAt_33 : decode M_Fs_fitAt.2.1 33 = .ok (.getfield 278, 3) := by decide +kernel
theorem d_Fs_fitAt_36 : decode M_Fs_fitAt.2.1 36 = .ok (.if_icmp .lt 9, 3) := by decide +kernel
theorem d_Fs_fitAt_39 : decode M_Fs_fitAt.2.1 39 = .ok (.aload_n 0, 1) := by decide +kernel
theorem d_Fs_fitAt_40 : decode M_Fs_fitAt.2.1 40 = .ok (.iconst 1, 1) := by decide +kernel
theorem d_Fs_fitAt_41 : decode M_Fs_fitAt.2.1 41 = .ok (.invokevirtual 102, 3) := by decide +kernel
theorem d_Fs_fitAt_44 : decode M_Fs_fitAt.2.1 44 = .ok (.ireturn, 1) := by decide +kernel
theorem d_Fs_fitAt_45 : decode M_Fs_fitAt.2.1 45 = .ok (.aload_n 0, 1) := by decide +kernel
theorem d_Fs_fitAt_46 : decode M_Fs_fitAt.2.1 46 = .ok (.getfield 65, 3) := by decide +kernel
theorem d_Fs_fitAt_49 : decode M_Fs_fitAt.2.1 49 = .ok (.aload_n 0, 1) := by decide +kernel
theorem d_Fs_fitAt_50 : decode M_Fs_fitAt.2.1 50 = .ok (.getfield 65, 3) := by decide +kernel
theorem d_Fs_fitAt_53 : decode M_Fs_fitAt.2.1 53 = .ok (.getfield 281, 3) := by decide +kernel
theorem d_Fs_fitAt_56 : decode M_Fs_fitAt.2.1 56 = .ok (.iload_n 1, 1) := by decide +kernel
theorem d_Fs_fitAt_57 : decode M_Fs_fitAt.2.1 57 = .ok (.iaload, 1) := by decide +kernel
theorem d_Fs_fitAt_58 : decode M_Fs_fitAt.2.1 58 = .ok (.iload_n 2, 1) := by decide +kernel
theorem d_Fs_fitAt_59 : decode M_Fs_fitAt.2.1 59 = .ok (.invokevirtual 284, 3) := by decide +kernel
theorem d_Fs_fitAt_62 : decode M_Fs_fitAt.2.1 62 = .ok (.ireturn, 1) := by decide +kernel
theorem d_Fs_shapedBy_0 : decode M_Fs_shapedBy.2.1 0 = .ok (.aload_n 0, 1) := by decide +kernel
theorem d_Fs_shapedBy_1 : decode M_Fs_shapedBy.2.1 1 = .ok (.invokevirtual 208, 3) := by decide +kernel
theorem d_Fs_shapedBy_4 : decode M_Fs_shapedBy.2.1 4 = .ok (.ifCond .eq 5, 3) := by decide +kernel
theorem d_Fs_shapedBy_7 : decode M_Fs_shapedBy.2.1 7 = .ok (.iconst (-1), 1) := by decide +kernel
theorem d_Fs_shapedBy_8 : decode M_Fs_shapedBy.2.1 8 = .ok (.ireturn, 1) := by decide +kernel
theorem d_Fs_shapedBy_9 : decode M_Fs_shapedBy.2.1 9 = .ok (.iload_n 1, 1) := by decide +kernel
theorem d_Fs_shapedBy_10 : decode M_Fs_shapedBy.2.1 10 = .ok (.ifCond .lt 14, 3) := by decide +kernel
theorem d_Fs_shapedBy_13 : decode M_Fs_shapedBy.2.1 13 = .ok (.iload_n 1, 1) := by decide +kernel
theorem d_Fs_shapedBy_14 : decode M_Fs_shapedBy.2.1 14 = .ok (.aload_n 0, 1) := by decide +kernel
theorem d_Fs_shapedBy_15 : decode M_Fs_shapedBy.2.1 15 = .ok (.getfield 16, 3) := by decide +kernel
theorem d_Fs_shapedBy_18 : decode M_Fs_shapedBy.2.1 18 = .ok (.getfield 278, 3) := by decide +kernel
theorem d_Fs_shapedBy_21 : decode M_Fs_shapedBy.2.1 21 = .ok (.if_icmp .lt 9, 3) := by decide +kernel
theorem d_Fs_shapedBy_24 : decode M_Fs_shapedBy.2.1 24 = .ok (.aload_n 0, 1) := by decide +kernel
theorem d_Fs_shapedBy_25 : decode M_Fs_shapedBy.2.1 25 = .ok (.iconst 1, 1) := by decide +kernel
theorem d_Fs_shapedBy_26 : decode M_Fs_shapedBy.2.1 26 = .ok (.invokevirtual 102, 3) := by decide +kernel
theorem d_Fs_shapedBy_29 : decode M_Fs_shapedBy.2.1 29 = .ok (.ireturn, 1) := by decide +kernel
theorem d_Fs_shapedBy_30 : decode M_Fs_shapedBy.2.1 30 = .ok (.aload_n 0, 1) := by decide +kernel
theorem d_Fs_shapedBy_31 : decode M_Fs_shapedBy.2.1 31 = .ok (.iload_n 2, 1) := by decide +kernel
theorem d_Fs_shapedBy_32 : decode M_Fs_shapedBy.2.1 32 = .ok (.iconst 0, 1) := by decide +kernel
theorem d_Fs_shapedBy_33 : decode M_Fs_shapedBy.2.1 33 = .ok (.iconst 4, 1) := by decide +kernel
theorem d_Fs_shapedBy_34 : decode M_Fs_shapedBy.2.1 34 = .ok (.invokevirtual 251, 3) := by decide +kernel
theorem d_Fs_shapedBy_37 : decode M_Fs_shapedBy.2.1 37 = .ok (.ifCond .eq 5, 3) := by decide +kernel
theorem d_Fs_shapedBy_40 : decode M_Fs_shapedBy.2.1 40 = .ok (.iconst (-1), 1) := by decide +kernel
theorem d_Fs_shapedBy_41 : decode M_Fs_shapedBy.2.1 41 = .ok (.ireturn, 1) := by decide +kernel
theorem d_Fs_shapedBy_42 : decode M_Fs_shapedBy.2.1 42 = .ok (.aload_n 0, 1) := by decide +kernel
theorem d_Fs_shapedBy_43 : decode M_Fs_shapedBy.2.1 43 = .ok (.getfield 65, 3) := by decide +kernel
theorem d_Fs_shapedBy_46 : decode M_Fs_shapedBy.2.1 46 = .ok (.iload_n 1, 1) := by decide +kernel
theorem d_Fs_shapedBy_47 : decode M_Fs_shapedBy.2.1 47 = .ok (.iload_n 2, 1) := by decide +kernel
theorem d_Fs_shapedBy_48 : decode M_Fs_shapedBy.2.1 48 = .ok (.invokevirtual 287, 3) := by decide +kernel
theorem d_Fs_shapedBy_51 : decode M_Fs_shapedBy.2.1 51 = .ok (.ireturn, 1) := by decide +kernel
set_option maxRecDepth 4000 in
theorem t_Fs_feed {d : Nat} {I : Nat → Nat → Int32} {J : Nat → Nat → Int64} {R : Nat → Nat → Option Nat} {Q : Option Value → ow_H → Prop} {p1 : Int32} {p2 : Int32} {p3 : Int32} {p4 : Int32} {p5 : Int32}  (hR : ow_RF R) (T : ((((I 0 1) + 20) ≤ 900 → (ow_AM M_Fs_tapeWord d [.ref 0, .int p1] (85, I, J, R) (fun r h' => ∃ (I6 : Nat → Nat → Int32) (J6 : Nat → Nat → Int64) (R6 : Nat → Nat → Option Nat), r = none ∧ h' = (85, I6, J6, R6) ∧ ow_RF R6 ∧ (ow_AM M_Fs_tapeWord d [.ref 0, .int p2] (85, I6, J6, R6) (fun r h' => ∃ (I7 : Nat → Nat → Int32) (J7 : Nat → Nat → Int64) (R7 : Nat → Nat → Option Nat), r = none ∧ h' = (85, I7, J7, R7) ∧ ow_RF R7 ∧ (ow_AM M_Fs_tapeWord d [.ref 0, .int p3] (85, I7, J7, R7) (fun r h' => ∃ (I8 : Nat → Nat → Int32) (J8 : Nat → Nat → Int64) (R8 : Nat → Nat → Option Nat), r = none ∧ h' = (85, I8, J8, R8) ∧ ow_RF R8 ∧ (ow_AM M_Fs_tapeWord d [.ref 0, .int p4] (85, I8, J8, R8) (fun r h' => ∃ (I9 : Nat → Nat → Int32) (J9 : Nat → Nat → Int64) (R9 : Nat → Nat → Option Nat), r = none ∧ h' = (85, I9, J9, R9) ∧ ow_RF R9 ∧ (ow_AM M_Fs_tapeWord d [.ref 0, .int p5] (85, I9, J9, R9) (fun r h' => ∃ (I10 : Nat → Nat → Int32) (J10 : Nat → Nat → Int64) (R10 : Nat → Nat → Option Nat), r = none ∧ h' = (85, I10, J10, R10) ∧ ow_RF R10 ∧ Q (some (.int (I10 0 1))) (85, I10, J10, R10)))))))))))) ∧ (¬ ((I 0 1) + 20) ≤ 900 → Q (some (.int (-1))) (85, I, J, R)))) : ow_AM M_Fs_feed (d + 1) [.ref 0, .int p1, .int p2, .int p3, .int p4, .int p5] (85, I, J, R) Q := by
  refine ow_enter (by decide) (Nat.le_of_ble_eq_true rfl) ?_
  show ow_AW ow_Y0 (ow_Z Q) M_Fs_feed (d + 1) 0 0 0 [(0, .ref 0), (1, .int p1), (2, .int p2), (3, .int p3), (4, .int p4), (5, .int p5)] [] (85, I, J, R) 0 0
  refine ow_aload_n 0 rfl d_Fs_feed_0 ?_
  refine ow_gI 152 d_Fs_feed_1 rfl rfl (by decide) rfl (Or.inl rfl) ?_
  refine ow_bipush (v := 20) (by decide) d_Fs_feed_4 ?_
  refine ow_iadd d_Fs_feed_6 ?_
  refine ow_sipush (v := 900) (by decide) d_Fs_feed_7 ?_
  refine ow_icmp_le (tgt := 15) d_Fs_feed_10 (by decide) (fun c => ?_) (fun c => ?_)
  · replace T := T.1 c
    refine ow_aload_n 0 rfl d_Fs_feed_15 ?_
    refine ow_iload_n 1 rfl d_Fs_feed_16 ?_
    refine ow_callV (b := 0) (cq := 11) (As := [.int p1]) (rest := []) (d2 := d) d_Fs_feed_17 l_Fs_99 v_Fs_tapeWord (show 0 < 85 by decide) rfl (by decide) rfl (Nat.le_of_ble_eq_true rfl) (Nat.le_refl _) ⟨Nat.le_refl _, Nat.le_refl _⟩ (ow_mono T ?_)
    rintro r h' ⟨I6, J6, R6, rfl, rfl, hR6, T⟩
    show ow_AW ow_Y0 (ow_Z Q) M_Fs_feed (d + 1) 0 0 20 [(0, .ref 0), (1, .int p1), (2, .int p2), (3, .int p3), (4, .int p4), (5, .int p5)] [] (85, I6, J6, R6) 0 0
    refine ow_aload_n 0 rfl d_Fs_feed_20 ?_
    refine ow_iload_n 2 rfl d_Fs_feed_21 ?_
    refine ow_callV (b := 0) (cq := 11) (As := [.int p2]) (rest := []) (d2 := d) d_Fs_feed_22 l_Fs_99 v_Fs_tapeWord (show 0 < 85 by decide) rfl (by decide) rfl (Nat.le_of_ble_eq_true rfl) (Nat.le_refl _) ⟨Nat.le_refl _, Nat.le_refl _⟩ (ow_mono T ?_)
    rintro r h' ⟨I7, J7, R7, rfl, rfl, hR7, T⟩
    show ow_AW ow_Y0 (ow_Z Q) M_Fs_feed (d + 1) 0 0 25 [(0, .ref 0), (1, .int p1), (2, .int p2), (3, .int p3), (4, .int p4), (5, .int p5)] [] (85, I7, J7, R7) 0 0
    refine ow_aload_n 0 rfl d_Fs_feed_25 ?_
    refine ow_iload_n 3 rfl d_Fs_feed_26 ?_
    refine ow_callV (b := 0) (cq := 11) (As := [.int p3]) (rest := []) (d2 := d) d_Fs_feed_27 l_Fs_99 v_Fs_tapeWord (show 0 < 85 by decide) rfl (by decide) rfl (Nat.le_of_ble_eq_true rfl) (Nat.le_refl _) ⟨Nat.le_refl _, Nat.le_refl _⟩ (ow_mono T ?_)
    rintro r h' ⟨I8, J8, R8, rfl, rfl, hR8, T⟩
    show ow_AW ow_Y0 (ow_Z Q) M_Fs_feed (d + 1) 0 0 30 [(0, .ref 0), (1, .int p1), (2, .int p2), (3, .int p3), (4, .int p4), (5, .int p5)] [] (85, I8, J8, R8) 0 0
    refine ow_aload_n 0 rfl d_Fs_feed_30 ?_
    refine ow_iload 4 rfl d_Fs_feed_31 ?_
    refine ow_callV (b := 0) (cq := 11) (As := [.int p4]) (rest := []) (d2 := d) d_Fs_feed_33 l_Fs_99 v_Fs_tapeWord (show 0 < 85 by decide) rfl (by decide) rfl (Nat.le_of_ble_eq_true rfl) (Nat.le_refl _) ⟨Nat.le_refl _, Nat.le_refl _⟩ (ow_mono T ?_)
    rintro r h' ⟨I9, J9, R9, rfl, rfl, hR9, T⟩
    show ow_AW ow_Y0 (ow_Z Q) M_Fs_feed (d + 1) 0 0 36 [(0, .ref 0), (1, .int p1), (2, .int p2), (3, .int p3), (4, .int p4), (5, .int p5)] [] (85, I9, J9, R9) 0 0
    refine ow_aload_n 0 rfl d_Fs_feed_36 ?_
    refine ow_iload 5 rfl d_Fs_feed_37 ?_
    refine ow_callV (b := 0) (cq := 11) (As := [.int p5]) (rest := []) (d2 := d) d_Fs_feed_39 l_Fs_99 v_Fs_tapeWord (show 0 < 85 by decide) rfl (by decide) rfl (Nat.le_of_ble_eq_true rfl) (Nat.le_refl _) ⟨Nat.le_refl _, Nat.le_refl _⟩ (ow_mono T ?_)
    rintro r h' ⟨I10, J10, R10, rfl, rfl, hR10, T⟩
    show ow_AW ow_Y0 (ow_Z Q) M_Fs_feed (d + 1) 0 0 42 [(0, .ref 0), (1, .int p1), (2, .int p2), (3, .int p3), (4, .int p4), (5, .int p5)] [] (85, I10, J10, R10) 0 0
    refine ow_aload_n 0 rfl d_Fs_feed_42 ?_
    refine ow_gI 152 d_Fs_feed_43 rfl rfl (by decide) rfl (Or.inl rfl) ?_
    exact ow_iret d_Fs_feed_46 rfl T
  · replace T := T.2 c
    refine ow_iconst (v := (-1)) (by decide) d_Fs_feed_13 ?_
    exact ow_iret d_Fs_feed_14 rfl T
set_option maxRecDepth 4000 in
theorem t_Fs_shire {d : Nat} {I : Nat → Nat → Int32} {J : Nat → Nat → Int64} {R : Nat → Nat → Option Nat} {Q : Option Value → ow_H → Prop} {p1 : Int32}  (hR : ow_RF R) (T : ((p1 < 0 → (ow_AM M_Fs_refused d [.ref 0, .int 2] (85, I, J, R) (fun r h' => ∃ (r16 : Int32) (I16 : Nat → Nat → Int32) (J16 : Nat → Nat → Int64) (R16 : Nat → Nat → Option Nat), r = some (.int r16) ∧ h' = (85, I16, J16, R16) ∧ ow_RF R16 ∧ Q (some (.int r16)) (85, I16, J16, R16)))) ∧ (¬ p1 < 0 → ((p1 ≤ (I 0 1) → (∀ (I17 : Nat → Nat → Int32), I17 = ow_u I 0 1 0 → (ow_AM M_Reader_read d [.ref 13, .ref 1, .int p1] (85, I17, J, R) (fun r h' => ∃ (r18 : Int32) (I18 : Nat → Nat → Int32) (J18 : Nat → Nat → Int64) (R18 : Nat → Nat → Option Nat), r = some (.int r18) ∧ h' = (85, I18, J18, R18) ∧ ow_RF R18 ∧ ((¬ r18 = 0 → (∀ (I19 : Nat → Nat → Int32), I19 = ow_u I18 0 16 0 → (∀ (I20 : Nat → Nat → Int32), I20 = ow_u I19 0 15 0 → (ow_AM M_Told_take d [.ref 2, .ref 14] (85, I20, J18, R18) (fun r h' => ∃ (I21 : Nat → Nat → Int32) (J21 : Nat → Nat → Int64) (R21 : Nat → Nat → Option Nat), r = none ∧ h' = (85, I21, J21, R21) ∧ ow_RF R21 ∧ (ow_AM M_Scene_take d [.ref 29, .ref 3] (85, I21, J21, R21) (fun r h' => ∃ (I22 : Nat → Nat → Int32) (J22 : Nat → Nat → Int64) (R22 : Nat → Nat → Option Nat), r = none ∧ h' = (85, I22, J22, R22) ∧ ow_RF R22 ∧ (ow_AM M_Snaps_clear d [.ref 66] (85, I22, J22, R22) (fun r h' => ∃ (I23 : Nat → Nat → Int32) (J23 : Nat → Nat → Int64) (R23 : Nat → Nat → Option Nat), r = none ∧ h' = (85, I23, J23, R23) ∧ ow_RF R23 ∧ (ow_AM M_Snaps_clear d [.ref 68] (85, I23, J23, R23) (fun r h' => ∃ (I24 : Nat → Nat → Int32) (J24 : Nat → Nat → Int64) (R24 : Nat → Nat → Option Nat), r = none ∧ h' = (85, I24, J24, R24) ∧ ow_RF R24 ∧ (ow_AM M_Fits_gather d [.ref 54] (85, I24, J24, R24) (fun r h' => ∃ (I25 : Nat → Nat → Int32) (J25 : Nat → Nat → Int64) (R25 : Nat → Nat → Option Nat), r = none ∧ h' = (85, I25, J25, R25) ∧ ow_RF R25 ∧ (∀ (I26 : Nat → Nat → Int32), I26 = ow_u I25 0 14 1 → Q (some (.int (I26 29 0))) (85, I26, J25, R25))))))))))))))) ∧ (r18 = 0 → (∀ (I27 : Nat → Nat → Int32), I27 = ow_u I18 0 16 (I18 13 9) → (∀ (I28 : Nat → Nat → Int32), I28 = ow_u I27 0 17 (I27 13 10) → (ow_AM M_Fs_refused d [.ref 0, .int 4] (85, I28, J18, R18) (fun r h' => ∃ (r29 : Int32) (I29 : Nat → Nat → Int32) (J29 : Nat → Nat → Int64) (R29 : Nat → Nat → Option Nat), r = some (.int r29) ∧ h' = (85, I29, J29, R29) ∧ ow_RF R29 ∧ Q (some (.int r29)) (85, I29, J29, R29))))))))))) ∧ (¬ p1 ≤ (I 0 1) → (ow_AM M_Fs_refused d [.ref 0, .int 2] (85, I, J, R) (fun r h' => ∃ (r30 : Int32) (I30 : Nat → Nat → Int32) (J30 : Nat → Nat → Int64) (R30 : Nat → Nat → Option Nat), r = some (.int r30) ∧ h' = (85, I30, J30, R30) ∧ ow_RF R30 ∧ Q (some (.int r30)) (85, I30, J30, R30)))))))) : ow_AM M_Fs_shire (d + 1) [.ref 0, .int p1] (85, I, J, R) Q := by
  refine ow_enter (by decide) (Nat.le_of_ble_eq_true rfl) ?_
  show ow_AW ow_Y0 (ow_Z Q) M_Fs_shire (d + 1) 0 0 0 [(0, .ref 0), (1, .int p1)] [] (85, I, J, R) 0 0
  refine ow_iload_n 1 rfl d_Fs_shire_0 ?_
  refine ow_if_lt (tgt := 12) d_Fs_shire_1 (by decide) (fun c => ?_) (fun c => ?_)
  · replace T := T.1 c
    refine ow_aload_n 0 rfl d_Fs_shire_12 ?_
    refine ow_iconst (v := 2) (by decide) d_Fs_shire_13 ?_
    refine ow_callV (b := 0) (cq := 11) (As := [.int 2]) (rest := []) (d2 := d) d_Fs_shire_14 l_Fs_102 v_Fs_refused (show 0 < 85 by decide) rfl (by decide) rfl (Nat.le_of_ble_eq_true rfl) (Nat.le_refl _) ⟨Nat.le_refl _, Nat.le_refl _⟩ (ow_mono T ?_)
    rintro r h' ⟨r16, I16, J16, R16, rfl, rfl, hR16, T⟩
    show ow_AW ow_Y0 (ow_Z Q) M_Fs_shire (d + 1) 0 0 17 [(0, .ref 0), (1, .int p1)] [.int r16] (85, I16, J16, R16) 0 0
    exact ow_iret d_Fs_shire_17 rfl T
  · replace T := T.2 c
    refine ow_iload_n 1 rfl d_Fs_shire_4 ?_
    refine ow_aload_n 0 rfl d_Fs_shire_5 ?_
    refine ow_gI 152 d_Fs_shire_6 rfl rfl (by decide) rfl (Or.inl rfl) ?_
    refine ow_icmp_le (tgt := 18) d_Fs_shire_9 (by decide) (fun c => ?_) (fun c => ?_)
    · replace T := T.1 c
      refine ow_aload_n 0 rfl d_Fs_shire_18 ?_
      refine ow_iconst (v := 0) (by decide) d_Fs_shire_19 ?_
      refine ow_pI 152 d_Fs_shire_20 rfl rfl (by decide) rfl rfl rfl ?_
      obtain ⟨I17, eI17⟩ : ∃ uu, uu = ow_u I 0 1 0 := ⟨_, rfl⟩
      replace T := T I17 eI17
      rw [← eI17]
      refine ow_aload_n 0 rfl d_Fs_shire_23 ?_
      refine ow_gR (a := 13) 154 d_Fs_shire_24 rfl rfl (by decide) rfl ⟨rfl, hR 0 3 (by decide)⟩ ?_
      refine ow_aload_n 0 rfl d_Fs_shire_27 ?_
      refine ow_gR (a := 1) 151 d_Fs_shire_28 rfl rfl (by decide) rfl ⟨rfl, hR 0 0 (by decide)⟩ ?_
      refine ow_iload_n 1 rfl d_Fs_shire_31 ?_
      refine ow_callV (b := 13) (cq := 3) (As := [.ref 1, .int p1]) (rest := []) (d2 := d) d_Fs_shire_32 l_Fs_106 v_Reader_read (show 13 < 85 by decide) rfl (by decide) rfl (Nat.le_of_ble_eq_true rfl) (Nat.le_refl _) ⟨Nat.le_refl _, Nat.le_refl _⟩ (ow_mono T ?_)
      rintro r h' ⟨r18, I18, J18, R18, rfl, rfl, hR18, T⟩
      show ow_AW ow_Y0 (ow_Z Q) M_Fs_shire (d + 1) 0 0 35 [(0, .ref 0), (1, .int p1)] [.int r18] (85, I18, J18, R18) 0 0
      refine ow_if_ne (tgt := 66) d_Fs_shire_35 (by decide) (fun c => ?_) (fun c => ?_)
      · replace T := T.1 c
        refine ow_aload_n 0 rfl d_Fs_shire_66 ?_
        refine ow_iconst (v := 0) (by decide) d_Fs_shire_67 ?_
        refine ow_pI 167 d_Fs_shire_68 rfl rfl (by decide) rfl rfl rfl ?_
        obtain ⟨I19, eI19⟩ : ∃ uu, uu = ow_u I18 0 16 0 := ⟨_, rfl⟩
        replace T := T I19 eI19
        rw [← eI19]
        refine ow_aload_n 0 rfl d_Fs_shire_71 ?_
        refine ow_iconst (v := 0) (by decide) d_Fs_shire_72 ?_
        refine ow_pI 166 d_Fs_shire_73 rfl rfl (by decide) rfl rfl rfl ?_
        obtain ⟨I20, eI20⟩ : ∃ uu, uu = ow_u I19 0 15 0 := ⟨_, rfl⟩
        replace T := T I20 eI20
        rw [← eI20]
        refine ow_aload_n 0 rfl d_Fs_shire_76 ?_
        refine ow_gR (a := 2) 153 d_Fs_shire_77 rfl rfl (by decide) rfl ⟨rfl, hR18 0 2 (by decide)⟩ ?_
        refine ow_aload_n 0 rfl d_Fs_shire_80 ?_
        refine ow_gR (a := 13) 154 d_Fs_shire_81 rfl rfl (by decide) rfl ⟨rfl, hR18 0 3 (by decide)⟩ ?_
        refine ow_gR (a := 14) 73 d_Fs_shire_84 rfl rfl (by decide) rfl ⟨rfl, hR18 13 0 (by decide)⟩ ?_
        refine ow_callV (b := 2) (cq := 8) (As := [.ref 14]) (rest := []) (d2 := d) d_Fs_shire_87 l_Fs_124 v_Told_take (show 2 < 85 by decide) rfl (by decide) rfl (Nat.le_of_ble_eq_true rfl) (Nat.le_refl _) ⟨Nat.le_refl _, Nat.le_refl _⟩ (ow_mono T ?_)
        rintro r h' ⟨I21, J21, R21, rfl, rfl, hR21, T⟩
        show ow_AW ow_Y0 (ow_Z Q) M_Fs_shire (d + 1) 0 0 90 [(0, .ref 0), (1, .int p1)] [] (85, I21, J21, R21) 0 0
        refine ow_aload_n 0 rfl d_Fs_shire_90 ?_
        refine ow_gR (a := 29) 155 d_Fs_shire_91 rfl rfl (by decide) rfl ⟨rfl, hR21 0 4 (by decide)⟩ ?_
        refine ow_aload_n 0 rfl d_Fs_shire_94 ?_
        refine ow_gR (a := 2) 153 d_Fs_shire_95 rfl rfl (by decide) rfl ⟨rfl, hR21 0 2 (by decide)⟩ ?_
        refine ow_gR (a := 3) 37 d_Fs_shire_98 rfl rfl (by decide) rfl ⟨rfl, hR21 2 2 (by decide)⟩ ?_
        refine ow_callV (b := 29) (cq := 4) (As := [.ref 3]) (rest := []) (d2 := d) d_Fs_shire_101 l_Fs_130 v_Scene_take (show 29 < 85 by decide) rfl (by decide) rfl (Nat.le_of_ble_eq_true rfl) (Nat.le_refl _) ⟨Nat.le_refl _, Nat.le_refl _⟩ (ow_mono T ?_)
        rintro r h' ⟨I22, J22, R22, rfl, rfl, hR22, T⟩
        show ow_AW ow_Y0 (ow_Z Q) M_Fs_shire (d + 1) 0 0 104 [(0, .ref 0), (1, .int p1)] [] (85, I22, J22, R22) 0 0
        refine ow_aload_n 0 rfl d_Fs_shire_104 ?_
        refine ow_gR (a := 66) 163 d_Fs_shire_105 rfl rfl (by decide) rfl ⟨rfl, hR22 0 12 (by decide)⟩ ?_
        refine ow_callV (b := 66) (cq := 6) (As := []) (rest := []) (d2 := d) d_Fs_shire_108 l_Fs_133 v_Snaps_clear (show 66 < 85 by decide) rfl (by decide) rfl (Nat.le_of_ble_eq_true rfl) (Nat.le_refl _) ⟨Nat.le_refl _, Nat.le_refl _⟩ (ow_mono T ?_)
        rintro r h' ⟨I23, J23, R23, rfl, rfl, hR23, T⟩
        show ow_AW ow_Y0 (ow_Z Q) M_Fs_shire (d + 1) 0 0 111 [(0, .ref 0), (1, .int p1)] [] (85, I23, J23, R23) 0 0
        refine ow_aload_n 0 rfl d_Fs_shire_111 ?_
        refine ow_gR (a := 68) 164 d_Fs_shire_112 rfl rfl (by decide) rfl ⟨rfl, hR23 0 13 (by decide)⟩ ?_
        refine ow_callV (b := 68) (cq := 6) (As := []) (rest := []) (d2 := d) d_Fs_shire_115 l_Fs_133 v_Snaps_clear (show 68 < 85 by decide) rfl (by decide) rfl (Nat.le_of_ble_eq_true rfl) (Nat.le_refl _) ⟨Nat.le_refl _, Nat.le_refl _⟩ (ow_mono T ?_)
        rintro r h' ⟨I24, J24, R24, rfl, rfl, hR24, T⟩
        show ow_AW ow_Y0 (ow_Z Q) M_Fs_shire (d + 1) 0 0 118 [(0, .ref 0), (1, .int p1)] [] (85, I24, J24, R24) 0 0
        refine ow_aload_n 0 rfl d_Fs_shire_118 ?_
        refine ow_gR (a := 54) 160 d_Fs_shire_119 rfl rfl (by decide) rfl ⟨rfl, hR24 0 9 (by decide)⟩ ?_
        refine ow_callV (b := 54) (cq := 1) (As := []) (rest := []) (d2 := d) d_Fs_shire_122 l_Fs_136 v_Fits_gather (show 54 < 85 by decide) rfl (by decide) rfl (Nat.le_of_ble_eq_true rfl) (Nat.le_refl _) ⟨Nat.le_refl _, Nat.le_refl _⟩ (ow_mono T ?_)
        rintro r h' ⟨I25, J25, R25, rfl, rfl, hR25, T⟩
        show ow_AW ow_Y0 (ow_Z Q) M_Fs_shire (d + 1) 0 0 125 [(0, .ref 0), (1, .int p1)] [] (85, I25, J25, R25) 0 0
        refine ow_aload_n 0 rfl d_Fs_shire_125 ?_
        refine ow_iconst (v := 1) (by decide) d_Fs_shire_126 ?_
        refine ow_pZ 165 d_Fs_shire_127 rfl rfl (by decide) rfl ⟨rfl, by decide⟩ rfl ?_
        obtain ⟨I26, eI26⟩ : ∃ uu, uu = ow_u I25 0 14 1 := ⟨_, rfl⟩
        replace T := T I26 eI26
        rw [← eI26]
        refine ow_aload_n 0 rfl d_Fs_shire_130 ?_
        refine ow_gR (a := 29) 155 d_Fs_shire_131 rfl rfl (by decide) rfl ⟨rfl, hR25 0 4 (by decide)⟩ ?_
        refine ow_gI 3 d_Fs_shire_134 rfl rfl (by decide) rfl (Or.inl rfl) ?_
        exact ow_iret d_Fs_shire_137 rfl T
      · replace T := T.2 c
        refine ow_aload_n 0 rfl d_Fs_shire_38 ?_
        refine ow_aload_n 0 rfl d_Fs_shire_39 ?_
        refine ow_gR (a := 13) 154 d_Fs_shire_40 rfl rfl (by decide) rfl ⟨rfl, hR18 0 3 (by decide)⟩ ?_
        refine ow_gI 83 d_Fs_shire_43 rfl rfl (by decide) rfl (Or.inl rfl) ?_
        refine ow_pI 167 d_Fs_shire_46 rfl rfl (by decide) rfl rfl rfl ?_
        obtain ⟨I27, eI27⟩ : ∃ uu, uu = ow_u I18 0 16 (I18 13 9) := ⟨_, rfl⟩
        replace T := T I27 eI27
        rw [← eI27]
        refine ow_aload_n 0 rfl d_Fs_shire_49 ?_
        refine ow_aload_n 0 rfl d_Fs_shire_50 ?_
        refine ow_gR (a := 13) 154 d_Fs_shire_51 rfl rfl (by decide) rfl ⟨rfl, hR18 0 3 (by decide)⟩ ?_
        refine ow_gI 85 d_Fs_shire_54 rfl rfl (by decide) rfl (Or.inl rfl) ?_
        refine ow_pI 168 d_Fs_shire_57 rfl rfl (by decide) rfl rfl rfl ?_
        obtain ⟨I28, eI28⟩ : ∃ uu, uu = ow_u I27 0 17 (I27 13 10) := ⟨_, rfl⟩
        replace T := T I28 eI28
        rw [← eI28]
        refine ow_aload_n 0 rfl d_Fs_shire_60 ?_
        refine ow_iconst (v := 4) (by decide) d_Fs_shire_61 ?_
        refine ow_callV (b := 0) (cq := 11) (As := [.int 4]) (rest := []) (d2 := d) d_Fs_shire_62 l_Fs_102 v_Fs_refused (show 0 < 85 by decide) rfl (by decide) rfl (Nat.le_of_ble_eq_true rfl) (Nat.le_refl _) ⟨Nat.le_refl _, Nat.le_refl _⟩ (ow_mono T ?_)
        rintro r h' ⟨r29, I29, J29, R29, rfl, rfl, hR29, T⟩
        show ow_AW ow_Y0 (ow_Z Q) M_Fs_shire (d + 1) 0 0 65 [(0, .ref 0), (1, .int p1)] [.int r29] (85, I29, J29, R29) 0 0
        exact ow_iret d_Fs_shire_65 rfl T
    · replace T := T.2 c
      refine ow_aload_n 0 rfl d_Fs_shire_12 ?_
      refine ow_iconst (v := 2) (by decide) d_Fs_shire_13 ?_
      refine ow_callV (b := 0) (cq := 11) (As := [.int 2]) (rest := []) (d2 := d) d_Fs_shire_14 l_Fs_102 v_Fs_refused (show 0 < 85 by decide) rfl (by decide) rfl (Nat.le_of_ble_eq_true rfl) (Nat.le_refl _) ⟨Nat.le_refl _, Nat.le_refl _⟩ (ow_mono T ?_)
      rintro r h' ⟨r30, I30, J30, R30, rfl, rfl, hR30, T⟩
      show ow_AW ow_Y0 (ow_Z Q) M_Fs_shire (d + 1) 0 0 17 [(0, .ref 0), (1, .int p1)] [.int r30] (85, I30, J30, R30) 0 0
      exact ow_iret d_Fs_shire_17 rfl T
set_option maxRecDepth 4000 in
theorem t_Fs_fault {d : Nat} {I : Nat → Nat → Int32} {J : Nat → Nat → Int64} {R : Nat → Nat → Option Nat} {Q : Option Value → ow_H → Prop}   (hR : ow_RF R) (T : Q (some (.int (I 0 16))) (85, I, J, R)) : ow_AM M_Fs_fault (d + 1) [.ref 0] (85, I, J, R) Q := by
  refine ow_enter (by decide) (Nat.le_of_ble_eq_true rfl) ?_
  show ow_AW ow_Y0 (ow_Z Q) M_Fs_fault (d + 1) 0 0 0 [(0, .ref 0)] [] (85, I, J, R) 0 0
  refine ow_aload_n 0 rfl d_Fs_fault_0 ?_
  refine ow_gI 167 d_Fs_fault_1 rfl rfl (by decide) rfl (Or.inl rfl) ?_
  exact ow_iret d_Fs_fault_4 rfl T
set_option maxRecDepth 4000 in
theorem t_Fs_where {d : Nat} {I : Nat → Nat → Int32} {J : Nat → Nat → Int64} {R : Nat → Nat → Option Nat} {Q : Option Value → ow_H → Prop}   (hR : ow_RF R) (T : ((¬ (I 0 15) = 4 → Q (some (.int (-1))) (85, I, J, R)) ∧ ((I 0 15) = 4 → Q (some (.int (I 0 17))) (85, I, J, R)))) : ow_AM M_Fs_where (d + 1) [.ref 0] (85, I, J, R) Q := by
  refine ow_enter (by decide) (Nat.le_of_ble_eq_true rfl) ?_
  show ow_AW ow_Y0 (ow_Z Q) M_Fs_where (d + 1) 0 0 0 [(0, .ref 0)] [] (85, I, J, R) 0 0
  refine ow_aload_n 0 rfl d_Fs_where_0 ?_
  refine ow_gI 166 d_Fs_where_1 rfl rfl (by decide) rfl (Or.inl rfl) ?_
  refine ow_iconst (v := 4) (by decide) d_Fs_where_4 ?_
  refine ow_icmp_ne (tgt := 15) d_Fs_where_5 (by decide) (fun c => ?_) (fun c => ?_)
  · replace T := T.1 c
    refine ow_iconst (v := (-1)) (by decide) d_Fs_where_15 ?_
    exact ow_iret d_Fs_where_16 rfl T
  · replace T := T.2 c
    refine ow_aload_n 0 rfl d_Fs_where_8 ?_
    refine ow_gI 168 d_Fs_where_9 rfl rfl (by decide) rfl (Or.inl rfl) ?_
    refine ow_goto (tgt := 16) d_Fs_where_12 (by decide) ?_
    exact ow_iret d_Fs_where_16 rfl T
set_option maxRecDepth 4000 in
theorem t_Fs_folly {d : Nat} {I : Nat → Nat → Int32} {J : Nat → Nat → Int64} {R : Nat → Nat → Option Nat} {Q : Option Value → ow_H → Prop} {p1 : Int32} {p2 : Int32}  (hR : ow_RF R) (T : (ow_AM M_Fs_lacksFolly d [.ref 0, .int p1] (85, I, J, R) (fun r h' => ∃ (r4 : Int32) (I4 : Nat → Nat → Int32) (J4 : Nat → Nat → Int64) (R4 : Nat → Nat → Option Nat), r = some (.int r4) ∧ h' = (85, I4, J4, R4) ∧ ow_RF R4 ∧ ((r4 = 0 → ((p2 = 0 → (vp_in p1 6 ∧ Q (some (.int (I4 30 p1.toNatClampNeg))) (85, I4, J4, R4))) ∧ ((p2 = 1 → (vp_in p1 6 ∧ Q (some (.int (I4 31 p1.toNatClampNeg))) (85, I4, J4, R4))) ∧ ((p2 = 2 → Q (some (.int (((I4 29 2) >>> (p1 &&& 31)) &&& 1))) (85, I4, J4, R4)) ∧ ((p2 = 3 → (vp_in p1 6 ∧ Q (some (.int (I4 32 p1.toNatClampNeg))) (85, I4, J4, R4))) ∧ ((p2 = 4 → (vp_in p1 6 ∧ Q (some (.int (I4 9 p1.toNatClampNeg))) (85, I4, J4, R4))) ∧ ((p2 = 5 → (vp_in p1 6 ∧ (ow_AM M_Fs_yearsToRuin d [.int (I4 31 p1.toNatClampNeg), .int (I4 2 1)] (85, I4, J4, R4) (fun r h' => ∃ (r5 : Int32) (I5 : Nat → Nat → Int32) (J5 : Nat → Nat → Int64) (R5 : Nat → Nat → Option Nat), r = some (.int r5) ∧ h' = (85, I5, J5, R5) ∧ ow_RF R5 ∧ Q (some (.int r5)) (85, I5, J5, R5))))) ∧ (¬ p2 = 0 ∧ ¬ p2 = 1 ∧ ¬ p2 = 2 ∧ ¬ p2 = 3 ∧ ¬ p2 = 4 ∧ ¬ p2 = 5 → (ow_AM M_Fs_refused d [.ref 0, .int 1] (85, I4, J4, R4) (fun r h' => ∃ (r6 : Int32) (I6 : Nat → Nat → Int32) (J6 : Nat → Nat → Int64) (R6 : Nat → Nat → Option Nat), r = some (.int r6) ∧ h' = (85, I6, J6, R6) ∧ ow_RF R6 ∧ Q (some (.int r6)) (85, I6, J6, R6))))))))))) ∧ (¬ r4 = 0 → Q (some (.int (-1))) (85, I4, J4, R4)))))) : ow_AM M_Fs_folly (d + 1) [.ref 0, .int p1, .int p2] (85, I, J, R) Q := by
  refine ow_enter (by decide) (Nat.le_of_ble_eq_true rfl) ?_
  show ow_AW ow_Y0 (ow_Z Q) M_Fs_folly (d + 1) 0 0 0 [(0, .ref 0), (1, .int p1), (2, .int p2)] [] (85, I, J, R) 0 0
  refine ow_aload_n 0 rfl d_Fs_folly_0 ?_
  refine ow_iload_n 1 rfl d_Fs_folly_1 ?_
  refine ow_callV (b := 0) (cq := 11) (As := [.int p1]) (rest := []) (d2 := d) d_Fs_folly_2 l_Fs_146 v_Fs_lacksFolly (show 0 < 85 by decide) rfl (by decide) rfl (Nat.le_of_ble_eq_true rfl) (Nat.le_refl _) ⟨Nat.le_refl _, Nat.le_refl _⟩ (ow_mono T ?_)
  rintro r h' ⟨r4, I4, J4, R4, rfl, rfl, hR4, T⟩
  show ow_AW ow_Y0 (ow_Z Q) M_Fs_folly (d + 1) 0 0 5 [(0, .ref 0), (1, .int p1), (2, .int p2)] [.int r4] (85, I4, J4, R4) 0 0
  refine ow_if_eq (tgt := 10) d_Fs_folly_5 (by decide) (fun c => ?_) (fun c => ?_)
  · replace T := T.1 c
    refine ow_iload_n 2 rfl d_Fs_folly_10 ?_
    by_cases c0 : p2 = 0
    · replace T := T.1 c0
      refine ow_tabIn (off := 37) (tgt := 48) d_Fs_folly_11 (by rw [c0]; decide) (by rw [c0]; decide) (by rw [c0]; rfl) (by decide) ?_
      refine ow_aload_n 0 rfl d_Fs_folly_48 ?_
      refine ow_gR (a := 29) 155 d_Fs_folly_49 rfl rfl (by decide) rfl ⟨rfl, hR4 0 4 (by decide)⟩ ?_
      refine ow_gR (a := 30) 14 d_Fs_folly_52 rfl rfl (by decide) rfl ⟨rfl, hR4 29 3 (by decide)⟩ ?_
      refine ow_iload_n 1 rfl d_Fs_folly_55 ?_
      obtain ⟨cI, T⟩ := T
      refine ow_hiaload d_Fs_folly_56 (by decide) rfl rfl cI ?_
      exact ow_iret d_Fs_folly_57 rfl T
    replace T := T.2
    by_cases c1 : p2 = 1
    · replace T := T.1 c1
      refine ow_tabIn (off := 47) (tgt := 58) d_Fs_folly_11 (by rw [c1]; decide) (by rw [c1]; decide) (by rw [c1]; rfl) (by decide) ?_
      refine ow_aload_n 0 rfl d_Fs_folly_58 ?_
      refine ow_gR (a := 29) 155 d_Fs_folly_59 rfl rfl (by decide) rfl ⟨rfl, hR4 0 4 (by decide)⟩ ?_
      refine ow_gR (a := 31) 19 d_Fs_folly_62 rfl rfl (by decide) rfl ⟨rfl, hR4 29 4 (by decide)⟩ ?_
      refine ow_iload_n 1 rfl d_Fs_folly_65 ?_
      obtain ⟨cI, T⟩ := T
      refine ow_hiaload d_Fs_folly_66 (by decide) rfl rfl cI ?_
      exact ow_iret d_Fs_folly_67 rfl T
    replace T := T.2
    by_cases c2 : p2 = 2
    · replace T := T.1 c2
      refine ow_tabIn (off := 57) (tgt := 68) d_Fs_folly_11 (by rw [c2]; decide) (by rw [c2]; decide) (by rw [c2]; rfl) (by decide) ?_
      refine ow_aload_n 0 rfl d_Fs_folly_68 ?_
      refine ow_gR (a := 29) 155 d_Fs_folly_69 rfl rfl (by decide) rfl ⟨rfl, hR4 0 4 (by decide)⟩ ?_
      refine ow_gI 11 d_Fs_folly_72 rfl rfl (by decide) rfl (Or.inl rfl) ?_
      refine ow_iload_n 1 rfl d_Fs_folly_75 ?_
      refine ow_ishr d_Fs_folly_76 ?_
      refine ow_iconst (v := 1) (by decide) d_Fs_folly_77 ?_
      refine ow_iand d_Fs_folly_78 ?_
      exact ow_iret d_Fs_folly_79 rfl T
    replace T := T.2
    by_cases c3 : p2 = 3
    · replace T := T.1 c3
      refine ow_tabIn (off := 69) (tgt := 80) d_Fs_folly_11 (by rw [c3]; decide) (by rw [c3]; decide) (by rw [c3]; rfl) (by decide) ?_
      refine ow_aload_n 0 rfl d_Fs_folly_80 ?_
      refine ow_gR (a := 29) 155 d_Fs_folly_81 rfl rfl (by decide) rfl ⟨rfl, hR4 0 4 (by decide)⟩ ?_
      refine ow_gR (a := 32) 24 d_Fs_folly_84 rfl rfl (by decide) rfl ⟨rfl, hR4 29 5 (by decide)⟩ ?_
      refine ow_iload_n 1 rfl d_Fs_folly_87 ?_
      obtain ⟨cI, T⟩ := T
      refine ow_hiaload d_Fs_folly_88 (by decide) rfl rfl cI ?_
      exact ow_iret d_Fs_folly_89 rfl T
    replace T := T.2
    by_cases c4 : p2 = 4
    · replace T := T.1 c4
      refine ow_tabIn (off := 79) (tgt := 90) d_Fs_folly_11 (by rw [c4]; decide) (by rw [c4]; decide) (by rw [c4]; rfl) (by decide) ?_
      refine ow_aload_n 0 rfl d_Fs_folly_90 ?_
      refine ow_gR (a := 2) 153 d_Fs_folly_91 rfl rfl (by decide) rfl ⟨rfl, hR4 0 2 (by decide)⟩ ?_
      refine ow_gR (a := 9) 49 d_Fs_folly_94 rfl rfl (by decide) rfl ⟨rfl, hR4 2 6 (by decide)⟩ ?_
      refine ow_iload_n 1 rfl d_Fs_folly_97 ?_
      obtain ⟨cI, T⟩ := T
      refine ow_hiaload d_Fs_folly_98 (by decide) rfl rfl cI ?_
      exact ow_iret d_Fs_folly_99 rfl T
    replace T := T.2
    by_cases c5 : p2 = 5
    · replace T := T.1 c5
      refine ow_tabIn (off := 89) (tgt := 100) d_Fs_folly_11 (by rw [c5]; decide) (by rw [c5]; decide) (by rw [c5]; rfl) (by decide) ?_
      refine ow_aload_n 0 rfl d_Fs_folly_100 ?_
      refine ow_gR (a := 29) 155 d_Fs_folly_101 rfl rfl (by decide) rfl ⟨rfl, hR4 0 4 (by decide)⟩ ?_
      refine ow_gR (a := 31) 19 d_Fs_folly_104 rfl rfl (by decide) rfl ⟨rfl, hR4 29 4 (by decide)⟩ ?_
      refine ow_iload_n 1 rfl d_Fs_folly_107 ?_
      obtain ⟨cI, T⟩ := T
      refine ow_hiaload d_Fs_folly_108 (by decide) rfl rfl cI ?_
      refine ow_aload_n 0 rfl d_Fs_folly_109 ?_
      refine ow_gR (a := 2) 153 d_Fs_folly_110 rfl rfl (by decide) rfl ⟨rfl, hR4 0 2 (by decide)⟩ ?_
      refine ow_gI 33 d_Fs_folly_113 rfl rfl (by decide) rfl (Or.inl rfl) ?_
      refine ow_callS (As := [.int (I4 31 p1.toNatClampNeg), .int (I4 2 1)]) (rest := []) (d2 := d) d_Fs_folly_116 l_Fs_169 v_Fs_yearsToRuin (Nat.le_of_ble_eq_true rfl) (Nat.le_refl _) ⟨Nat.le_refl _, Nat.le_refl _⟩ (ow_mono T ?_)
      rintro r h' ⟨r5, I5, J5, R5, rfl, rfl, hR5, T⟩
      show ow_AW ow_Y0 (ow_Z Q) M_Fs_folly (d + 1) 0 0 119 [(0, .ref 0), (1, .int p1), (2, .int p2)] [.int r5] (85, I5, J5, R5) 0 0
      exact ow_iret d_Fs_folly_119 rfl T
    replace T := T.2
    replace T := T ⟨c0, c1, c2, c3, c4, c5⟩
    replace c0 := ow_ne (z := 0) c0 rfl
    replace c1 := ow_ne (z := 1) c1 rfl
    replace c2 := ow_ne (z := 2) c2 rfl
    replace c3 := ow_ne (z := 3) c3 rfl
    replace c4 := ow_ne (z := 4) c4 rfl
    replace c5 := ow_ne (z := 5) c5 rfl
    refine ow_tabOut (tgt := 120) d_Fs_folly_11 (by omega) (by decide) ?_
    refine ow_aload_n 0 rfl d_Fs_folly_120 ?_
    refine ow_iconst (v := 1) (by decide) d_Fs_folly_121 ?_
    refine ow_callV (b := 0) (cq := 11) (As := [.int 1]) (rest := []) (d2 := d) d_Fs_folly_122 l_Fs_102 v_Fs_refused (show 0 < 85 by decide) rfl (by decide) rfl (Nat.le_of_ble_eq_true rfl) (Nat.le_refl _) ⟨Nat.le_refl _, Nat.le_refl _⟩ (ow_mono T ?_)
    rintro r h' ⟨r6, I6, J6, R6, rfl, rfl, hR6, T⟩
    show ow_AW ow_Y0 (ow_Z Q) M_Fs_folly (d + 1) 0 0 125 [(0, .ref 0), (1, .int p1), (2, .int p2)] [.int r6] (85, I6, J6, R6) 0 0
    exact ow_iret d_Fs_folly_125 rfl T
  · replace T := T.2 c
    refine ow_iconst (v := (-1)) (by decide) d_Fs_folly_8 ?_
    exact ow_iret d_Fs_folly_9 rfl T
set_option maxRecDepth 4000 in
theorem t_Fs_estate {d : Nat} {I : Nat → Nat → Int32} {J : Nat → Nat → Int64} {R : Nat → Nat → Option Nat} {Q : Option Value → ow_H → Prop} {p1 : Int32} {p2 : Int32}  (hR : ow_RF R) (T : (ow_AM M_Fs_lacksEstate d [.ref 0, .int p1] (85, I, J, R) (fun r h' => ∃ (r4 : Int32) (I4 : Nat → Nat → Int32) (J4 : Nat → Nat → Int64) (R4 : Nat → Nat → Option Nat), r = some (.int r4) ∧ h' = (85, I4, J4, R4) ∧ ow_RF R4 ∧ ((r4 = 0 → ((p2 = 0 → (vp_in p1 5 ∧ Q (some (.int (I4 7 p1.toNatClampNeg))) (85, I4, J4, R4))) ∧ ((p2 = 1 → (vp_in p1 5 ∧ Q (some (.int (I4 8 p1.toNatClampNeg))) (85, I4, J4, R4))) ∧ ((p2 = 2 → (ow_AM M_Serving_bitsServed d [.ref 39, .ref 29] (85, I4, J4, R4) (fun r h' => ∃ (r5 : Int32) (I5 : Nat → Nat → Int32) (J5 : Nat → Nat → Int64) (R5 : Nat → Nat → Option Nat), r = some (.int r5) ∧ h' = (85, I5, J5, R5) ∧ ow_RF R5 ∧ Q (some (.int ((r5 >>> (p1 &&& 31)) &&& 1))) (85, I5, J5, R5)))) ∧ (¬ p2 = 0 ∧ ¬ p2 = 1 ∧ ¬ p2 = 2 → (ow_AM M_Fs_refused d [.ref 0, .int 1] (85, I4, J4, R4) (fun r h' => ∃ (r6 : Int32) (I6 : Nat → Nat → Int32) (J6 : Nat → Nat → Int64) (R6 : Nat → Nat → Option Nat), r = some (.int r6) ∧ h' = (85, I6, J6, R6) ∧ ow_RF R6 ∧ Q (some (.int r6)) (85, I6, J6, R6)))))))) ∧ (¬ r4 = 0 → Q (some (.int (-1))) (85, I4, J4, R4)))))) : ow_AM M_Fs_estate (d + 1) [.ref 0, .int p1, .int p2] (85, I, J, R) Q := by
  refine ow_enter (by decide) (Nat.le_of_ble_eq_true rfl) ?_
  show ow_AW ow_Y0 (ow_Z Q) M_Fs_estate (d + 1) 0 0 0 [(0, .ref 0), (1, .int p1), (2, .int p2)] [] (85, I, J, R) 0 0
  refine ow_aload_n 0 rfl d_Fs_estate_0 ?_
  refine ow_iload_n 1 rfl d_Fs_estate_1 ?_
  refine ow_callV (b := 0) (cq := 11) (As := [.int p1]) (rest := []) (d2 := d) d_Fs_estate_2 l_Fs_173 v_Fs_lacksEstate (show 0 < 85 by decide) rfl (by decide) rfl (Nat.le_of_ble_eq_true rfl) (Nat.le_refl _) ⟨Nat.le_refl _, Nat.le_refl _⟩ (ow_mono T ?_)
  rintro r h' ⟨r4, I4, J4, R4, rfl, rfl, hR4, T⟩
  show ow_AW ow_Y0 (ow_Z Q) M_Fs_estate (d + 1) 0 0 5 [(0, .ref 0), (1, .int p1), (2, .int p2)] [.int r4] (85, I4, J4, R4) 0 0
  refine ow_if_eq (tgt := 10) d_Fs_estate_5 (by decide) (fun c => ?_) (fun c => ?_)
  · replace T := T.1 c
    refine ow_iload_n 2 rfl d_Fs_estate_10 ?_
    by_cases c0 : p2 = 0
    · replace T := T.1 c0
      refine ow_tabIn (off := 25) (tgt := 36) d_Fs_estate_11 (by rw [c0]; decide) (by rw [c0]; decide) (by rw [c0]; rfl) (by decide) ?_
      refine ow_aload_n 0 rfl d_Fs_estate_36 ?_
      refine ow_gR (a := 2) 153 d_Fs_estate_37 rfl rfl (by decide) rfl ⟨rfl, hR4 0 2 (by decide)⟩ ?_
      refine ow_gR (a := 7) 44 d_Fs_estate_40 rfl rfl (by decide) rfl ⟨rfl, hR4 2 4 (by decide)⟩ ?_
      refine ow_iload_n 1 rfl d_Fs_estate_43 ?_
      obtain ⟨cI, T⟩ := T
      refine ow_hiaload d_Fs_estate_44 (by decide) rfl rfl cI ?_
      exact ow_iret d_Fs_estate_45 rfl T
    replace T := T.2
    by_cases c1 : p2 = 1
    · replace T := T.1 c1
      refine ow_tabIn (off := 35) (tgt := 46) d_Fs_estate_11 (by rw [c1]; decide) (by rw [c1]; decide) (by rw [c1]; rfl) (by decide) ?_
      refine ow_aload_n 0 rfl d_Fs_estate_46 ?_
      refine ow_gR (a := 2) 153 d_Fs_estate_47 rfl rfl (by decide) rfl ⟨rfl, hR4 0 2 (by decide)⟩ ?_
      refine ow_gR (a := 8) 47 d_Fs_estate_50 rfl rfl (by decide) rfl ⟨rfl, hR4 2 5 (by decide)⟩ ?_
      refine ow_iload_n 1 rfl d_Fs_estate_53 ?_
      obtain ⟨cI, T⟩ := T
      refine ow_hiaload d_Fs_estate_54 (by decide) rfl rfl cI ?_
      exact ow_iret d_Fs_estate_55 rfl T
    replace T := T.2
    by_cases c2 : p2 = 2
    · replace T := T.1 c2
      refine ow_tabIn (off := 45) (tgt := 56) d_Fs_estate_11 (by rw [c2]; decide) (by rw [c2]; decide) (by rw [c2]; rfl) (by decide) ?_
      refine ow_aload_n 0 rfl d_Fs_estate_56 ?_
      refine ow_gR (a := 39) 158 d_Fs_estate_57 rfl rfl (by decide) rfl ⟨rfl, hR4 0 7 (by decide)⟩ ?_
      refine ow_aload_n 0 rfl d_Fs_estate_60 ?_
      refine ow_gR (a := 29) 155 d_Fs_estate_61 rfl rfl (by decide) rfl ⟨rfl, hR4 0 4 (by decide)⟩ ?_
      refine ow_callV (b := 39) (cq := 5) (As := [.ref 29]) (rest := []) (d2 := d) d_Fs_estate_64 l_Fs_182 v_Serving_bitsServed (show 39 < 85 by decide) rfl (by decide) rfl (Nat.le_of_ble_eq_true rfl) (Nat.le_refl _) ⟨Nat.le_refl _, Nat.le_refl _⟩ (ow_mono T ?_)
      rintro r h' ⟨r5, I5, J5, R5, rfl, rfl, hR5, T⟩
      show ow_AW ow_Y0 (ow_Z Q) M_Fs_estate (d + 1) 0 0 67 [(0, .ref 0), (1, .int p1), (2, .int p2)] [.int r5] (85, I5, J5, R5) 0 0
      refine ow_iload_n 1 rfl d_Fs_estate_67 ?_
      refine ow_ishr d_Fs_estate_68 ?_
      refine ow_iconst (v := 1) (by decide) d_Fs_estate_69 ?_
      refine ow_iand d_Fs_estate_70 ?_
      exact ow_iret d_Fs_estate_71 rfl T
    replace T := T.2
    replace T := T ⟨c0, c1, c2⟩
    replace c0 := ow_ne (z := 0) c0 rfl
    replace c1 := ow_ne (z := 1) c1 rfl
    replace c2 := ow_ne (z := 2) c2 rfl
    refine ow_tabOut (tgt := 72) d_Fs_estate_11 (by omega) (by decide) ?_
    refine ow_aload_n 0 rfl d_Fs_estate_72 ?_
    refine ow_iconst (v := 1) (by decide) d_Fs_estate_73 ?_
    refine ow_callV (b := 0) (cq := 11) (As := [.int 1]) (rest := []) (d2 := d) d_Fs_estate_74 l_Fs_102 v_Fs_refused (show 0 < 85 by decide) rfl (by decide) rfl (Nat.le_of_ble_eq_true rfl) (Nat.le_refl _) ⟨Nat.le_refl _, Nat.le_refl _⟩ (ow_mono T ?_)
    rintro r h' ⟨r6, I6, J6, R6, rfl, rfl, hR6, T⟩
    show ow_AW ow_Y0 (ow_Z Q) M_Fs_estate (d + 1) 0 0 77 [(0, .ref 0), (1, .int p1), (2, .int p2)] [.int r6] (85, I6, J6, R6) 0 0
    exact ow_iret d_Fs_estate_77 rfl T
  · replace T := T.2 c
    refine ow_iconst (v := (-1)) (by decide) d_Fs_estate_8 ?_
    exact ow_iret d_Fs_estate_9 rfl T
set_option maxRecDepth 4000 in
theorem t_Fs_answers {d : Nat} {I : Nat → Nat → Int32} {J : Nat → Nat → Int64} {R : Nat → Nat → Option Nat} {Q : Option Value → ow_H → Prop} {p1 : Int32} {p2 : Int32}  (hR : ow_RF R) (T : (ow_AM M_Fs_lacksFolly d [.ref 0, .int p1] (85, I, J, R) (fun r h' => ∃ (r4 : Int32) (I4 : Nat → Nat → Int32) (J4 : Nat → Nat → Int64) (R4 : Nat → Nat → Option Nat), r = some (.int r4) ∧ h' = (85, I4, J4, R4) ∧ ow_RF R4 ∧ ((r4 = 0 → ((p2 = 0 → (ow_AM M_Scene_reply d [.ref 29, .int p1, .int 0] (85, I4, J4, R4) (fun r h' => ∃ (r5 : Int32) (I5 : Nat → Nat → Int32) (J5 : Nat → Nat → Int64) (R5 : Nat → Nat → Option Nat), r = some (.int r5) ∧ h' = (85, I5, J5, R5) ∧ ow_RF R5 ∧ Q (some (.int r5)) (85, I5, J5, R5)))) ∧ (¬ p2 = 0 → (ow_AM M_Scene_reply d [.ref 29, .int p1, .int 1] (85, I4, J4, R4) (fun r h' => ∃ (r6 : Int32) (I6 : Nat → Nat → Int32) (J6 : Nat → Nat → Int64) (R6 : Nat → Nat → Option Nat), r = some (.int r6) ∧ h' = (85, I6, J6, R6) ∧ ow_RF R6 ∧ Q (some (.int r6)) (85, I6, J6, R6)))))) ∧ (¬ r4 = 0 → Q (some (.int (-1))) (85, I4, J4, R4)))))) : ow_AM M_Fs_answers (d + 1) [.ref 0, .int p1, .int p2] (85, I, J, R) Q := by
  refine ow_enter (by decide) (Nat.le_of_ble_eq_true rfl) ?_
  show ow_AW ow_Y0 (ow_Z Q) M_Fs_answers (d + 1) 0 0 0 [(0, .ref 0), (1, .int p1), (2, .int p2)] [] (85, I, J, R) 0 0
  refine ow_aload_n 0 rfl d_Fs_answers_0 ?_
  refine ow_iload_n 1 rfl d_Fs_answers_1 ?_
  refine ow_callV (b := 0) (cq := 11) (As := [.int p1]) (rest := []) (d2 := d) d_Fs_answers_2 l_Fs_146 v_Fs_lacksFolly (show 0 < 85 by decide) rfl (by decide) rfl (Nat.le_of_ble_eq_true rfl) (Nat.le_refl _) ⟨Nat.le_refl _, Nat.le_refl _⟩ (ow_mono T ?_)
  rintro r h' ⟨r4, I4, J4, R4, rfl, rfl, hR4, T⟩
  show ow_AW ow_Y0 (ow_Z Q) M_Fs_answers (d + 1) 0 0 5 [(0, .ref 0), (1, .int p1), (2, .int p2)] [.int r4] (85, I4, J4, R4) 0 0
  refine ow_if_eq (tgt := 10) d_Fs_answers_5 (by decide) (fun c => ?_) (fun c => ?_)
  · replace T := T.1 c
    refine ow_aload_n 0 rfl d_Fs_answers_10 ?_
    refine ow_gR (a := 29) 155 d_Fs_answers_11 rfl rfl (by decide) rfl ⟨rfl, hR4 0 4 (by decide)⟩ ?_
    refine ow_iload_n 1 rfl d_Fs_answers_14 ?_
    refine ow_iload_n 2 rfl d_Fs_answers_15 ?_
    refine ow_if_eq (tgt := 23) d_Fs_answers_16 (by decide) (fun c => ?_) (fun c => ?_)
    · replace T := T.1 c
      refine ow_iconst (v := 0) (by decide) d_Fs_answers_23 ?_
      refine ow_callV (b := 29) (cq := 4) (As := [.int p1, .int 0]) (rest := []) (d2 := d) d_Fs_answers_24 l_Fs_186 v_Scene_reply (show 29 < 85 by decide) rfl (by decide) rfl (Nat.le_of_ble_eq_true rfl) (Nat.le_refl _) ⟨Nat.le_refl _, Nat.le_refl _⟩ (ow_mono T ?_)
      rintro r h' ⟨r5, I5, J5, R5, rfl, rfl, hR5, T⟩
      show ow_AW ow_Y0 (ow_Z Q) M_Fs_answers (d + 1) 0 0 27 [(0, .ref 0), (1, .int p1), (2, .int p2)] [.int r5] (85, I5, J5, R5) 0 0
      exact ow_iret d_Fs_answers_27 rfl T
    · replace T := T.2 c
      refine ow_iconst (v := 1) (by decide) d_Fs_answers_19 ?_
      refine ow_goto (tgt := 24) d_Fs_answers_20 (by decide) ?_
      refine ow_callV (b := 29) (cq := 4) (As := [.int p1, .int 1]) (rest := []) (d2 := d) d_Fs_answers_24 l_Fs_186 v_Scene_reply (show 29 < 85 by decide) rfl (by decide) rfl (Nat.le_of_ble_eq_true rfl) (Nat.le_refl _) ⟨Nat.le_refl _, Nat.le_refl _⟩ (ow_mono T ?_)
      rintro r h' ⟨r6, I6, J6, R6, rfl, rfl, hR6, T⟩
      show ow_AW ow_Y0 (ow_Z Q) M_Fs_answers (d + 1) 0 0 27 [(0, .ref 0), (1, .int p1), (2, .int p2)] [.int r6] (85, I6, J6, R6) 0 0
      exact ow_iret d_Fs_answers_27 rfl T
  · replace T := T.2 c
    refine ow_iconst (v := (-1)) (by decide) d_Fs_answers_8 ?_
    exact ow_iret d_Fs_answers_9 rfl T
set_option maxRecDepth 4000 in
theorem t_Fs_signs {d : Nat} {I : Nat → Nat → Int32} {J : Nat → Nat → Int64} {R : Nat → Nat → Option Nat} {Q : Option Value → ow_H → Prop} {p1 : Int32} {p2 : Int32}  (hR : ow_RF R) (T : (ow_AM M_Fs_lacksFolly d [.ref 0, .int p1] (85, I, J, R) (fun r h' => ∃ (r3 : Int32) (I3 : Nat → Nat → Int32) (J3 : Nat → Nat → Int64) (R3 : Nat → Nat → Option Nat), r = some (.int r3) ∧ h' = (85, I3, J3, R3) ∧ ow_RF R3 ∧ ((r3 = 0 → (ow_AM M_Course_run d [.ref 37, .ref 29, .int p1, .int p2] (85, I3, J3, R3) (fun r h' => ∃ (I4 : Nat → Nat → Int32) (J4 : Nat → Nat → Int64) (R4 : Nat → Nat → Option Nat), r = none ∧ h' = (85, I4, J4, R4) ∧ ow_RF R4 ∧ Q (some (.int (I4 37 4))) (85, I4, J4, R4)))) ∧ (¬ r3 = 0 → Q (some (.int (-1))) (85, I3, J3, R3)))))) : ow_AM M_Fs_signs (d + 1) [.ref 0, .int p1, .int p2] (85, I, J, R) Q := by
  refine ow_enter (by decide) (Nat.le_of_ble_eq_true rfl) ?_
  show ow_AW ow_Y0 (ow_Z Q) M_Fs_signs (d + 1) 0 0 0 [(0, .ref 0), (1, .int p1), (2, .int p2)] [] (85, I, J, R) 0 0
  refine ow_aload_n 0 rfl d_Fs_signs_0 ?_
  refine ow_iload_n 1 rfl d_Fs_signs_1 ?_
  refine ow_callV (b := 0) (cq := 11) (As := [.int p1]) (rest := []) (d2 := d) d_Fs_signs_2 l_Fs_146 v_Fs_lacksFolly (show 0 < 85 by decide) rfl (by decide) rfl (Nat.le_of_ble_eq_true rfl) (Nat.le_refl _) ⟨Nat.le_refl _, Nat.le_refl _⟩ (ow_mono T ?_)
  rintro r h' ⟨r3, I3, J3, R3, rfl, rfl, hR3, T⟩
  show ow_AW ow_Y0 (ow_Z Q) M_Fs_signs (d + 1) 0 0 5 [(0, .ref 0), (1, .int p1), (2, .int p2)] [.int r3] (85, I3, J3, R3) 0 0
  refine ow_if_eq (tgt := 10) d_Fs_signs_5 (by decide) (fun c => ?_) (fun c => ?_)
  · replace T := T.1 c
    refine ow_aload_n 0 rfl d_Fs_signs_10 ?_
    refine ow_gR (a := 37) 157 d_Fs_signs_11 rfl rfl (by decide) rfl ⟨rfl, hR3 0 6 (by decide)⟩ ?_
    refine ow_aload_n 0 rfl d_Fs_signs_14 ?_
    refine ow_gR (a := 29) 155 d_Fs_signs_15 rfl rfl (by decide) rfl ⟨rfl, hR3 0 4 (by decide)⟩ ?_
    refine ow_iload_n 1 rfl d_Fs_signs_18 ?_
    refine ow_iload_n 2 rfl d_Fs_signs_19 ?_
    refine ow_callV (b := 37) (cq := 0) (As := [.ref 29, .int p1, .int p2]) (rest := []) (d2 := d) d_Fs_signs_20 l_Fs_189 v_Course_run (show 37 < 85 by decide) rfl (by decide) rfl (Nat.le_of_ble_eq_true rfl) (Nat.le_refl _) ⟨Nat.le_refl _, Nat.le_refl _⟩ (ow_mono T ?_)
    rintro r h' ⟨I4, J4, R4, rfl, rfl, hR4, T⟩
    show ow_AW ow_Y0 (ow_Z Q) M_Fs_signs (d + 1) 0 0 23 [(0, .ref 0), (1, .int p1), (2, .int p2)] [] (85, I4, J4, R4) 0 0
    refine ow_aload_n 0 rfl d_Fs_signs_23 ?_
    refine ow_gR (a := 37) 157 d_Fs_signs_24 rfl rfl (by decide) rfl ⟨rfl, hR4 0 6 (by decide)⟩ ?_
    refine ow_gI 101 d_Fs_signs_27 rfl rfl (by decide) rfl (Or.inl rfl) ?_
    exact ow_iret d_Fs_signs_30 rfl T
  · replace T := T.2 c
    refine ow_iconst (v := (-1)) (by decide) d_Fs_signs_8 ?_
    exact ow_iret d_Fs_signs_9 rfl T
set_option maxRecDepth 4000 in
theorem t_Fs_signer {d : Nat} {I : Nat → Nat → Int32} {J : Nat → Nat → Int64} {R : Nat → Nat → Option Nat} {Q : Option Value → ow_H → Prop} {p1 : Int32} {p2 : Int32}  (hR : ow_RF R) (T : (ow_AM M_Fs_lacksFolly d [.ref 0, .int p1] (85, I, J, R) (fun r h' => ∃ (r3 : Int32) (I3 : Nat → Nat → Int32) (J3 : Nat → Nat → Int64) (R3 : Nat → Nat → Option Nat), r = some (.int r3) ∧ h' = (85, I3, J3, R3) ∧ ow_RF R3 ∧ ((r3 = 0 → (ow_AM M_Course_run d [.ref 37, .ref 29, .int p1, .int p2] (85, I3, J3, R3) (fun r h' => ∃ (I4 : Nat → Nat → Int32) (J4 : Nat → Nat → Int64) (R4 : Nat → Nat → Option Nat), r = none ∧ h' = (85, I4, J4, R4) ∧ ow_RF R4 ∧ Q (some (.int (I4 37 3))) (85, I4, J4, R4)))) ∧ (¬ r3 = 0 → Q (some (.int (-1))) (85, I3, J3, R3)))))) : ow_AM M_Fs_signer (d + 1) [.ref 0, .int p1, .int p2] (85, I, J, R) Q := by
  refine ow_enter (by decide) (Nat.le_of_ble_eq_true rfl) ?_
  show ow_AW ow_Y0 (ow_Z Q) M_Fs_signer (d + 1) 0 0 0 [(0, .ref 0), (1, .int p1), (2, .int p2)] [] (85, I, J, R) 0 0
  refine ow_aload_n 0 rfl d_Fs_signer_0 ?_
  refine ow_iload_n 1 rfl d_Fs_signer_1 ?_
  refine ow_callV (b := 0) (cq := 11) (As := [.int p1]) (rest := []) (d2 := d) d_Fs_signer_2 l_Fs_146 v_Fs_lacksFolly (show 0 < 85 by decide) rfl (by decide) rfl (Nat.le_of_ble_eq_true rfl) (Nat.le_refl _) ⟨Nat.le_refl _, Nat.le_refl _⟩ (ow_mono T ?_)
  rintro r h' ⟨r3, I3, J3, R3, rfl, rfl, hR3, T⟩
  show ow_AW ow_Y0 (ow_Z Q) M_Fs_signer (d + 1) 0 0 5 [(0, .ref 0), (1, .int p1), (2, .int p2)] [.int r3] (85, I3, J3, R3) 0 0
  refine ow_if_eq (tgt := 10) d_Fs_signer_5 (by decide) (fun c => ?_) (fun c => ?_)
  · replace T := T.1 c
    refine ow_aload_n 0 rfl d_Fs_signer_10 ?_
    refine ow_gR (a := 37) 157 d_Fs_signer_11 rfl rfl (by decide) rfl ⟨rfl, hR3 0 6 (by decide)⟩ ?_
    refine ow_aload_n 0 rfl d_Fs_signer_14 ?_
    refine ow_gR (a := 29) 155 d_Fs_signer_15 rfl rfl (by decide) rfl ⟨rfl, hR3 0 4 (by decide)⟩ ?_
    refine ow_iload_n 1 rfl d_Fs_signer_18 ?_
    refine ow_iload_n 2 rfl d_Fs_signer_19 ?_
    refine ow_callV (b := 37) (cq := 0) (As := [.ref 29, .int p1, .int p2]) (rest := []) (d2 := d) d_Fs_signer_20 l_Fs_189 v_Course_run (show 37 < 85 by decide) rfl (by decide) rfl (Nat.le_of_ble_eq_true rfl) (Nat.le_refl _) ⟨Nat.le_refl _, Nat.le_refl _⟩ (ow_mono T ?_)
    rintro r h' ⟨I4, J4, R4, rfl, rfl, hR4, T⟩
    show ow_AW ow_Y0 (ow_Z Q) M_Fs_signer (d + 1) 0 0 23 [(0, .ref 0), (1, .int p1), (2, .int p2)] [] (85, I4, J4, R4) 0 0
    refine ow_aload_n 0 rfl d_Fs_signer_23 ?_
    refine ow_gR (a := 37) 157 d_Fs_signer_24 rfl rfl (by decide) rfl ⟨rfl, hR4 0 6 (by decide)⟩ ?_
    refine ow_gI 97 d_Fs_signer_27 rfl rfl (by decide) rfl (Or.inl rfl) ?_
    exact ow_iret d_Fs_signer_30 rfl T
  · replace T := T.2 c
    refine ow_iconst (v := (-1)) (by decide) d_Fs_signer_8 ?_
    exact ow_iret d_Fs_signer_9 rfl T
set_option maxRecDepth 4000 in
theorem t_Fs_course {d : Nat} {I : Nat → Nat → Int32} {J : Nat → Nat → Int64} {R : Nat → Nat → Option Nat} {Q : Option Value → ow_H → Prop} {p1 : Int32} {p2 : Int32}  (hR : ow_RF R) (T : (ow_AM M_Fs_lacksFolly d [.ref 0, .int p1] (85, I, J, R) (fun r h' => ∃ (r3 : Int32) (I3 : Nat → Nat → Int32) (J3 : Nat → Nat → Int64) (R3 : Nat → Nat → Option Nat), r = some (.int r3) ∧ h' = (85, I3, J3, R3) ∧ ow_RF R3 ∧ ((r3 = 0 → (ow_AM M_Course_run d [.ref 37, .ref 29, .int p1, .int p2] (85, I3, J3, R3) (fun r h' => ∃ (I4 : Nat → Nat → Int32) (J4 : Nat → Nat → Int64) (R4 : Nat → Nat → Option Nat), r = none ∧ h' = (85, I4, J4, R4) ∧ ow_RF R4 ∧ Q (some (.int (I4 37 2))) (85, I4, J4, R4)))) ∧ (¬ r3 = 0 → Q (some (.int (-1))) (85, I3, J3, R3)))))) : ow_AM M_Fs_course (d + 1) [.ref 0, .int p1, .int p2] (85, I, J, R) Q := by
  refine ow_enter (by decide) (Nat.le_of_ble_eq_true rfl) ?_
  show ow_AW ow_Y0 (ow_Z Q) M_Fs_course (d + 1) 0 0 0 [(0, .ref 0), (1, .int p1), (2, .int p2)] [] (85, I, J, R) 0 0
  refine ow_aload_n 0 rfl d_Fs_course_0 ?_
  refine ow_iload_n 1 rfl d_Fs_course_1 ?_
  refine ow_callV (b := 0) (cq := 11) (As := [.int p1]) (rest := []) (d2 := d) d_Fs_course_2 l_Fs_146 v_Fs_lacksFolly (show 0 < 85 by decide) rfl (by decide) rfl (Nat.le_of_ble_eq_true rfl) (Nat.le_refl _) ⟨Nat.le_refl _, Nat.le_refl _⟩ (ow_mono T ?_)
  rintro r h' ⟨r3, I3, J3, R3, rfl, rfl, hR3, T⟩
  show ow_AW ow_Y0 (ow_Z Q) M_Fs_course (d + 1) 0 0 5 [(0, .ref 0), (1, .int p1), (2, .int p2)] [.int r3] (85, I3, J3, R3) 0 0
  refine ow_if_eq (tgt := 10) d_Fs_course_5 (by decide) (fun c => ?_) (fun c => ?_)
  · replace T := T.1 c
    refine ow_aload_n 0 rfl d_Fs_course_10 ?_
    refine ow_gR (a := 37) 157 d_Fs_course_11 rfl rfl (by decide) rfl ⟨rfl, hR3 0 6 (by decide)⟩ ?_
    refine ow_aload_n 0 rfl d_Fs_course_14 ?_
    refine ow_gR (a := 29) 155 d_Fs_course_15 rfl rfl (by decide) rfl ⟨rfl, hR3 0 4 (by decide)⟩ ?_
    refine ow_iload_n 1 rfl d_Fs_course_18 ?_
    refine ow_iload_n 2 rfl d_Fs_course_19 ?_
    refine ow_callV (b := 37) (cq := 0) (As := [.ref 29, .int p1, .int p2]) (rest := []) (d2 := d) d_Fs_course_20 l_Fs_189 v_Course_run (show 37 < 85 by decide) rfl (by decide) rfl (Nat.le_of_ble_eq_true rfl) (Nat.le_refl _) ⟨Nat.le_refl _, Nat.le_refl _⟩ (ow_mono T ?_)
    rintro r h' ⟨I4, J4, R4, rfl, rfl, hR4, T⟩
    show ow_AW ow_Y0 (ow_Z Q) M_Fs_course (d + 1) 0 0 23 [(0, .ref 0), (1, .int p1), (2, .int p2)] [] (85, I4, J4, R4) 0 0
    refine ow_aload_n 0 rfl d_Fs_course_23 ?_
    refine ow_gR (a := 37) 157 d_Fs_course_24 rfl rfl (by decide) rfl ⟨rfl, hR4 0 6 (by decide)⟩ ?_
    refine ow_gI 94 d_Fs_course_27 rfl rfl (by decide) rfl (Or.inl rfl) ?_
    exact ow_iret d_Fs_course_30 rfl T
  · replace T := T.2 c
    refine ow_iconst (v := (-1)) (by decide) d_Fs_course_8 ?_
    exact ow_iret d_Fs_course_9 rfl T
set_option maxRecDepth 4000 in
theorem t_Fs_courseAt {d : Nat} {I : Nat → Nat → Int32} {J : Nat → Nat → Int64} {R : Nat → Nat → Option Nat} {Q : Option Value → ow_H → Prop} {p1 : Int32} {p2 : Int32} {p3 : Int32}  (hR : ow_RF R) (T : (ow_AM M_Fs_lacksFolly d [.ref 0, .int p1] (85, I, J, R) (fun r h' => ∃ (r5 : Int32) (I5 : Nat → Nat → Int32) (J5 : Nat → Nat → Int64) (R5 : Nat → Nat → Option Nat), r = some (.int r5) ∧ h' = (85, I5, J5, R5) ∧ ow_RF R5 ∧ ((r5 = 0 → (ow_AM M_Course_run d [.ref 37, .ref 29, .int p1, .int p2] (85, I5, J5, R5) (fun r h' => ∃ (I6 : Nat → Nat → Int32) (J6 : Nat → Nat → Int64) (R6 : Nat → Nat → Option Nat), r = none ∧ h' = (85, I6, J6, R6) ∧ ow_RF R6 ∧ ((p3 < 0 → (ow_AM M_Fs_refused d [.ref 0, .int 1] (85, I6, J6, R6) (fun r h' => ∃ (r7 : Int32) (I7 : Nat → Nat → Int32) (J7 : Nat → Nat → Int64) (R7 : Nat → Nat → Option Nat), r = some (.int r7) ∧ h' = (85, I7, J7, R7) ∧ ow_RF R7 ∧ Q (some (.int r7)) (85, I7, J7, R7)))) ∧ (¬ p3 < 0 → ((p3 < (I6 37 1) → (vp_in p3 6 ∧ Q (some (.int (I6 38 p3.toNatClampNeg))) (85, I6, J6, R6))) ∧ (¬ p3 < (I6 37 1) → (ow_AM M_Fs_refused d [.ref 0, .int 1] (85, I6, J6, R6) (fun r h' => ∃ (r8 : Int32) (I8 : Nat → Nat → Int32) (J8 : Nat → Nat → Int64) (R8 : Nat → Nat → Option Nat), r = some (.int r8) ∧ h' = (85, I8, J8, R8) ∧ ow_RF R8 ∧ Q (some (.int r8)) (85, I8, J8, R8)))))))))) ∧ (¬ r5 = 0 → Q (some (.int (-1))) (85, I5, J5, R5)))))) : ow_AM M_Fs_courseAt (d + 1) [.ref 0, .int p1, .int p2, .int p3] (85, I, J, R) Q := by
  refine ow_enter (by decide) (Nat.le_of_ble_eq_true rfl) ?_
  show ow_AW ow_Y0 (ow_Z Q) M_Fs_courseAt (d + 1) 0 0 0 [(0, .ref 0), (1, .int p1), (2, .int p2), (3, .int p3)] [] (85, I, J, R) 0 0
  refine ow_aload_n 0 rfl d_Fs_courseAt_0 ?_
  refine ow_iload_n 1 rfl d_Fs_courseAt_1 ?_
  refine ow_callV (b := 0) (cq := 11) (As := [.int p1]) (rest := []) (d2 := d) d_Fs_courseAt_2 l_Fs_146 v_Fs_lacksFolly (show 0 < 85 by decide) rfl (by decide) rfl (Nat.le_of_ble_eq_true rfl) (Nat.le_refl _) ⟨Nat.le_refl _, Nat.le_refl _⟩ (ow_mono T ?_)
  rintro r h' ⟨r5, I5, J5, R5, rfl, rfl, hR5, T⟩
  show ow_AW ow_Y0 (ow_Z Q) M_Fs_courseAt (d + 1) 0 0 5 [(0, .ref 0), (1, .int p1), (2, .int p2), (3, .int p3)] [.int r5] (85, I5, J5, R5) 0 0
  refine ow_if_eq (tgt := 10) d_Fs_courseAt_5 (by decide) (fun c => ?_) (fun c => ?_)
  · replace T := T.1 c
    refine ow_aload_n 0 rfl d_Fs_courseAt_10 ?_
    refine ow_gR (a := 37) 157 d_Fs_courseAt_11 rfl rfl (by decide) rfl ⟨rfl, hR5 0 6 (by decide)⟩ ?_
    refine ow_aload_n 0 rfl d_Fs_courseAt_14 ?_
    refine ow_gR (a := 29) 155 d_Fs_courseAt_15 rfl rfl (by decide) rfl ⟨rfl, hR5 0 4 (by decide)⟩ ?_
    refine ow_iload_n 1 rfl d_Fs_courseAt_18 ?_
    refine ow_iload_n 2 rfl d_Fs_courseAt_19 ?_
    refine ow_callV (b := 37) (cq := 0) (As := [.ref 29, .int p1, .int p2]) (rest := []) (d2 := d) d_Fs_courseAt_20 l_Fs_189 v_Course_run (show 37 < 85 by decide) rfl (by decide) rfl (Nat.le_of_ble_eq_true rfl) (Nat.le_refl _) ⟨Nat.le_refl _, Nat.le_refl _⟩ (ow_mono T ?_)
    rintro r h' ⟨I6, J6, R6, rfl, rfl, hR6, T⟩
    show ow_AW ow_Y0 (ow_Z Q) M_Fs_courseAt (d + 1) 0 0 23 [(0, .ref 0), (1, .int p1), (2, .int p2), (3, .int p3)] [] (85, I6, J6, R6) 0 0
    refine ow_iload_n 3 rfl d_Fs_courseAt_23 ?_
    refine ow_if_lt (tgt := 38) d_Fs_courseAt_24 (by decide) (fun c => ?_) (fun c => ?_)
    · replace T := T.1 c
      refine ow_aload_n 0 rfl d_Fs_courseAt_38 ?_
      refine ow_iconst (v := 1) (by decide) d_Fs_courseAt_39 ?_
      refine ow_callV (b := 0) (cq := 11) (As := [.int 1]) (rest := []) (d2 := d) d_Fs_courseAt_40 l_Fs_102 v_Fs_refused (show 0 < 85 by decide) rfl (by decide) rfl (Nat.le_of_ble_eq_true rfl) (Nat.le_refl _) ⟨Nat.le_refl _, Nat.le_refl _⟩ (ow_mono T ?_)
      rintro r h' ⟨r7, I7, J7, R7, rfl, rfl, hR7, T⟩
      show ow_AW ow_Y0 (ow_Z Q) M_Fs_courseAt (d + 1) 0 0 43 [(0, .ref 0), (1, .int p1), (2, .int p2), (3, .int p3)] [.int r7] (85, I7, J7, R7) 0 0
      exact ow_iret d_Fs_courseAt_43 rfl T
    · replace T := T.2 c
      refine ow_iload_n 3 rfl d_Fs_courseAt_27 ?_
      refine ow_aload_n 0 rfl d_Fs_courseAt_28 ?_
      refine ow_gR (a := 37) 157 d_Fs_courseAt_29 rfl rfl (by decide) rfl ⟨rfl, hR6 0 6 (by decide)⟩ ?_
      refine ow_gI 91 d_Fs_courseAt_32 rfl rfl (by decide) rfl (Or.inl rfl) ?_
      refine ow_icmp_lt (tgt := 44) d_Fs_courseAt_35 (by decide) (fun c => ?_) (fun c => ?_)
      · replace T := T.1 c
        refine ow_aload_n 0 rfl d_Fs_courseAt_44 ?_
        refine ow_gR (a := 37) 157 d_Fs_courseAt_45 rfl rfl (by decide) rfl ⟨rfl, hR6 0 6 (by decide)⟩ ?_
        refine ow_gR (a := 38) 88 d_Fs_courseAt_48 rfl rfl (by decide) rfl ⟨rfl, hR6 37 0 (by decide)⟩ ?_
        refine ow_iload_n 3 rfl d_Fs_courseAt_51 ?_
        obtain ⟨cI, T⟩ := T
        refine ow_hiaload d_Fs_courseAt_52 (by decide) rfl rfl cI ?_
        exact ow_iret d_Fs_courseAt_53 rfl T
      · replace T := T.2 c
        refine ow_aload_n 0 rfl d_Fs_courseAt_38 ?_
        refine ow_iconst (v := 1) (by decide) d_Fs_courseAt_39 ?_
        refine ow_callV (b := 0) (cq := 11) (As := [.int 1]) (rest := []) (d2 := d) d_Fs_courseAt_40 l_Fs_102 v_Fs_refused (show 0 < 85 by decide) rfl (by decide) rfl (Nat.le_of_ble_eq_true rfl) (Nat.le_refl _) ⟨Nat.le_refl _, Nat.le_refl _⟩ (ow_mono T ?_)
        rintro r h' ⟨r8, I8, J8, R8, rfl, rfl, hR8, T⟩
        show ow_AW ow_Y0 (ow_Z Q) M_Fs_courseAt (d + 1) 0 0 43 [(0, .ref 0), (1, .int p1), (2, .int p2), (3, .int p3)] [.int r8] (85, I8, J8, R8) 0 0
        exact ow_iret d_Fs_courseAt_43 rfl T
  · replace T := T.2 c
    refine ow_iconst (v := (-1)) (by decide) d_Fs_courseAt_8 ?_
    exact ow_iret d_Fs_courseAt_9 rfl T
set_option maxRecDepth 4000 in
theorem t_Fs_served {d : Nat} {I : Nat → Nat → Int32} {J : Nat → Nat → Int64} {R : Nat → Nat → Option Nat} {Q : Option Value → ow_H → Prop}   (hR : ow_RF R) (T : (ow_AM M_Fs_lacksShire d [.ref 0] (85, I, J, R) (fun r h' => ∃ (r3 : Int32) (I3 : Nat → Nat → Int32) (J3 : Nat → Nat → Int64) (R3 : Nat → Nat → Option Nat), r = some (.int r3) ∧ h' = (85, I3, J3, R3) ∧ ow_RF R3 ∧ ((r3 = 0 → (ow_AM M_Serving_bitsServed d [.ref 39, .ref 29] (85, I3, J3, R3) (fun r h' => ∃ (r4 : Int32) (I4 : Nat → Nat → Int32) (J4 : Nat → Nat → Int64) (R4 : Nat → Nat → Option Nat), r = some (.int r4) ∧ h' = (85, I4, J4, R4) ∧ ow_RF R4 ∧ Q (some (.int r4)) (85, I4, J4, R4)))) ∧ (¬ r3 = 0 → Q (some (.int (-1))) (85, I3, J3, R3)))))) : ow_AM M_Fs_served (d + 1) [.ref 0] (85, I, J, R) Q := by
  refine ow_enter (by decide) (Nat.le_of_ble_eq_true rfl) ?_
  show ow_AW ow_Y0 (ow_Z Q) M_Fs_served (d + 1) 0 0 0 [(0, .ref 0)] [] (85, I, J, R) 0 0
  refine ow_aload_n 0 rfl d_Fs_served_0 ?_
  refine ow_callV (b := 0) (cq := 11) (As := []) (rest := []) (d2 := d) d_Fs_served_1 l_Fs_208 v_Fs_lacksShire (show 0 < 85 by decide) rfl (by decide) rfl (Nat.le_of_ble_eq_true rfl) (Nat.le_refl _) ⟨Nat.le_refl _, Nat.le_refl _⟩ (ow_mono T ?_)
  rintro r h' ⟨r3, I3, J3, R3, rfl, rfl, hR3, T⟩
  show ow_AW ow_Y0 (ow_Z Q) M_Fs_served (d + 1) 0 0 4 [(0, .ref 0)] [.int r3] (85, I3, J3, R3) 0 0
  refine ow_if_eq (tgt := 9) d_Fs_served_4 (by decide) (fun c => ?_) (fun c => ?_)
  · replace T := T.1 c
    refine ow_aload_n 0 rfl d_Fs_served_9 ?_
    refine ow_gR (a := 39) 158 d_Fs_served_10 rfl rfl (by decide) rfl ⟨rfl, hR3 0 7 (by decide)⟩ ?_
    refine ow_aload_n 0 rfl d_Fs_served_13 ?_
    refine ow_gR (a := 29) 155 d_Fs_served_14 rfl rfl (by decide) rfl ⟨rfl, hR3 0 4 (by decide)⟩ ?_
    refine ow_callV (b := 39) (cq := 5) (As := [.ref 29]) (rest := []) (d2 := d) d_Fs_served_17 l_Fs_182 v_Serving_bitsServed (show 39 < 85 by decide) rfl (by decide) rfl (Nat.le_of_ble_eq_true rfl) (Nat.le_refl _) ⟨Nat.le_refl _, Nat.le_refl _⟩ (ow_mono T ?_)
    rintro r h' ⟨r4, I4, J4, R4, rfl, rfl, hR4, T⟩
    show ow_AW ow_Y0 (ow_Z Q) M_Fs_served (d + 1) 0 0 20 [(0, .ref 0)] [.int r4] (85, I4, J4, R4) 0 0
    exact ow_iret d_Fs_served_20 rfl T
  · replace T := T.2 c
    refine ow_iconst (v := (-1)) (by decide) d_Fs_served_7 ?_
    exact ow_iret d_Fs_served_8 rfl T
set_option maxRecDepth 4000 in
theorem t_Fs_rounds_13 {d : Nat} {I : Nat → Nat → Int32} {J : Nat → Nat → Int64} {R : Nat → Nat → Option Nat} {Q : Option Value → ow_H → Prop}  {v1 : Int32} {v2 : Int32}  (hR : ow_RF R) (T : (((I 29 0) ≤ v2 → Q (some (.int v1)) (85, I, J, R)) ∧ (¬ (I 29 0) ≤ v2 → (ow_AM M_Scene_comesBack d [.ref 29, .int v2] (85, I, J, R) (fun r h' => ∃ (r2 : Int32) (I2 : Nat → Nat → Int32) (J2 : Nat → Nat → Int64) (R2 : Nat → Nat → Option Nat), r = some (.int r2) ∧ h' = (85, I2, J2, R2) ∧ ow_RF R2 ∧ ((r2 = 0 → ow_AW ow_Y0 (ow_Z Q) M_Fs_rounds (d + 1) 0 0 13 [(0, .ref 0), (1, .int v1), (2, .int (v2 + 1))] [] (85, I2, J2, R2) 0 0) ∧ (¬ r2 = 0 → ow_AW ow_Y0 (ow_Z Q) M_Fs_rounds (d + 1) 0 0 13 [(0, .ref 0), (1, .int (v1 ||| ((1 : Int32) <<< (v2 &&& 31)))), (2, .int (v2 + 1))] [] (85, I2, J2, R2) 0 0))))))) : ow_AW ow_Y0 (ow_Z Q) M_Fs_rounds (d + 1) 0 0 13 [(0, .ref 0), (1, .int v1), (2, .int v2)] [] (85, I, J, R) 0 0 := by
  refine ow_iload_n 2 rfl d_Fs_rounds_13 ?_
  refine ow_aload_n 0 rfl d_Fs_rounds_14 ?_
  refine ow_gR (a := 29) 155 d_Fs_rounds_15 rfl rfl (by decide) rfl ⟨rfl, hR 0 4 (by decide)⟩ ?_
  refine ow_gI 3 d_Fs_rounds_18 rfl rfl (by decide) rfl (Or.inl rfl) ?_
  refine ow_icmp_ge (tgt := 47) d_Fs_rounds_21 (by decide) (fun c => ?_) (fun c => ?_)
  · replace T := T.1 c
    refine ow_iload_n 1 rfl d_Fs_rounds_47 ?_
    exact ow_iret d_Fs_rounds_48 rfl T
  · replace T := T.2 c
    refine ow_aload_n 0 rfl d_Fs_rounds_24 ?_
    refine ow_gR (a := 29) 155 d_Fs_rounds_25 rfl rfl (by decide) rfl ⟨rfl, hR 0 4 (by decide)⟩ ?_
    refine ow_iload_n 2 rfl d_Fs_rounds_28 ?_
    refine ow_callV (b := 29) (cq := 4) (As := [.int v2]) (rest := []) (d2 := d) d_Fs_rounds_29 l_Fs_212 v_Scene_comesBack (show 29 < 85 by decide) rfl (by decide) rfl (Nat.le_of_ble_eq_true rfl) (Nat.le_refl _) ⟨Nat.le_refl _, Nat.le_refl _⟩ (ow_mono T ?_)
    rintro r h' ⟨r2, I2, J2, R2, rfl, rfl, hR2, T⟩
    show ow_AW ow_Y0 (ow_Z Q) M_Fs_rounds (d + 1) 0 0 32 [(0, .ref 0), (1, .int v1), (2, .int v2)] [.int r2] (85, I2, J2, R2) 0 0
    refine ow_if_eq (tgt := 41) d_Fs_rounds_32 (by decide) (fun c => ?_) (fun c => ?_)
    · replace T := T.1 c
      refine ow_iinc 2 (v := (v2 + 1)) (ls2 := [(2, .int (v2 + 1)), (0, .ref 0), (1, .int v1)]) d_Fs_rounds_41 rfl rfl (by decide) rfl ?_
      refine ow_goto (tgt := 13) d_Fs_rounds_44 (by decide) ?_
      refine ow_sub [1, 2, 0] rfl ?_
      exact T
    · replace T := T.2 c
      refine ow_iload_n 1 rfl d_Fs_rounds_35 ?_
      refine ow_iconst (v := 1) (by decide) d_Fs_rounds_36 ?_
      refine ow_iload_n 2 rfl d_Fs_rounds_37 ?_
      refine ow_ishl d_Fs_rounds_38 ?_
      refine ow_ior d_Fs_rounds_39 ?_
      refine ow_istore_n (ls2 := [(1, .int (v1 ||| ((1 : Int32) <<< (v2 &&& 31)))), (0, .ref 0), (2, .int v2)]) d_Fs_rounds_40 (by decide) rfl ?_
      refine ow_iinc 2 (v := (v2 + 1)) (ls2 := [(2, .int (v2 + 1)), (1, .int (v1 ||| ((1 : Int32) <<< (v2 &&& 31)))), (0, .ref 0)]) d_Fs_rounds_41 rfl rfl (by decide) rfl ?_
      refine ow_goto (tgt := 13) d_Fs_rounds_44 (by decide) ?_
      refine ow_sub [2, 1, 0] rfl ?_
      exact T
set_option maxRecDepth 4000 in
theorem t_Fs_rounds {d : Nat} {I : Nat → Nat → Int32} {J : Nat → Nat → Int64} {R : Nat → Nat → Option Nat} {Q : Option Value → ow_H → Prop}   (hR : ow_RF R) (T : (ow_AM M_Fs_lacksShire d [.ref 0] (85, I, J, R) (fun r h' => ∃ (r3 : Int32) (I3 : Nat → Nat → Int32) (J3 : Nat → Nat → Int64) (R3 : Nat → Nat → Option Nat), r = some (.int r3) ∧ h' = (85, I3, J3, R3) ∧ ow_RF R3 ∧ ((r3 = 0 → ow_AW ow_Y0 (ow_Z Q) M_Fs_rounds (d + 1) 0 0 13 [(0, .ref 0), (1, .int 0), (2, .int 0)] [] (85, I3, J3, R3) 0 0) ∧ (¬ r3 = 0 → Q (some (.int (-1))) (85, I3, J3, R3)))))) : ow_AM M_Fs_rounds (d + 1) [.ref 0] (85, I, J, R) Q := by
  refine ow_enter (by decide) (Nat.le_of_ble_eq_true rfl) ?_
  show ow_AW ow_Y0 (ow_Z Q) M_Fs_rounds (d + 1) 0 0 0 [(0, .ref 0)] [] (85, I, J, R) 0 0
  refine ow_aload_n 0 rfl d_Fs_rounds_0 ?_
  refine ow_callV (b := 0) (cq := 11) (As := []) (rest := []) (d2 := d) d_Fs_rounds_1 l_Fs_208 v_Fs_lacksShire (show 0 < 85 by decide) rfl (by decide) rfl (Nat.le_of_ble_eq_true rfl) (Nat.le_refl _) ⟨Nat.le_refl _, Nat.le_refl _⟩ (ow_mono T ?_)
  rintro r h' ⟨r3, I3, J3, R3, rfl, rfl, hR3, T⟩
  show ow_AW ow_Y0 (ow_Z Q) M_Fs_rounds (d + 1) 0 0 4 [(0, .ref 0)] [.int r3] (85, I3, J3, R3) 0 0
  refine ow_if_eq (tgt := 9) d_Fs_rounds_4 (by decide) (fun c => ?_) (fun c => ?_)
  · replace T := T.1 c
    refine ow_iconst (v := 0) (by decide) d_Fs_rounds_9 ?_
    refine ow_istore_n (ls2 := [(1, .int 0), (0, .ref 0)]) d_Fs_rounds_10 (by decide) rfl ?_
    refine ow_iconst (v := 0) (by decide) d_Fs_rounds_11 ?_
    refine ow_istore_n (ls2 := [(2, .int 0), (1, .int 0), (0, .ref 0)]) d_Fs_rounds_12 (by decide) rfl ?_
    refine ow_sub [2, 1, 0] rfl ?_
    exact T
  · replace T := T.2 c
    refine ow_iconst (v := (-1)) (by decide) d_Fs_rounds_7 ?_
    exact ow_iret d_Fs_rounds_8 rfl T
set_option maxRecDepth 4000 in
theorem t_Fs_idle_23 {d : Nat} {I : Nat → Nat → Int32} {J : Nat → Nat → Int64} {R : Nat → Nat → Option Nat} {Q : Option Value → ow_H → Prop}  {v1 : Int32} {v2 : Int32}  (hR : ow_RF R) (T : (((I 29 0) ≤ v2 → Q (some (.int (-2))) (85, I, J, R)) ∧ (¬ (I 29 0) ≤ v2 → ((¬ ((v1 >>> (v2 &&& 31)) &&& 1) = 0 → ow_AW ow_Y0 (ow_Z Q) M_Fs_idle (d + 1) 0 0 23 [(0, .ref 0), (1, .int v1), (2, .int (v2 + 1))] [] (85, I, J, R) 0 0) ∧ (((v1 >>> (v2 &&& 31)) &&& 1) = 0 → (ow_AM M_Scene_reply d [.ref 29, .int v2, .int 1] (85, I, J, R) (fun r h' => ∃ (r3 : Int32) (I3 : Nat → Nat → Int32) (J3 : Nat → Nat → Int64) (R3 : Nat → Nat → Option Nat), r = some (.int r3) ∧ h' = (85, I3, J3, R3) ∧ ow_RF R3 ∧ ((r3 = (-2) → ow_AW ow_Y0 (ow_Z Q) M_Fs_idle (d + 1) 0 0 23 [(0, .ref 0), (1, .int v1), (2, .int (v2 + 1))] [] (85, I3, J3, R3) 0 0) ∧ (¬ r3 = (-2) → Q (some (.int v2)) (85, I3, J3, R3)))))))))) : ow_AW ow_Y0 (ow_Z Q) M_Fs_idle (d + 1) 0 0 23 [(0, .ref 0), (1, .int v1), (2, .int v2)] [] (85, I, J, R) 0 0 := by
  refine ow_iload_n 2 rfl d_Fs_idle_23 ?_
  refine ow_aload_n 0 rfl d_Fs_idle_24 ?_
  refine ow_gR (a := 29) 155 d_Fs_idle_25 rfl rfl (by decide) rfl ⟨rfl, hR 0 4 (by decide)⟩ ?_
  refine ow_gI 3 d_Fs_idle_28 rfl rfl (by decide) rfl (Or.inl rfl) ?_
  refine ow_icmp_ge (tgt := 64) d_Fs_idle_31 (by decide) (fun c => ?_) (fun c => ?_)
  · replace T := T.1 c
    refine ow_bipush (v := (-2)) (by decide) d_Fs_idle_64 ?_
    exact ow_iret d_Fs_idle_66 rfl T
  · replace T := T.2 c
    refine ow_iload_n 1 rfl d_Fs_idle_34 ?_
    refine ow_iload_n 2 rfl d_Fs_idle_35 ?_
    refine ow_ishr d_Fs_idle_36 ?_
    refine ow_iconst (v := 1) (by decide) d_Fs_idle_37 ?_
    refine ow_iand d_Fs_idle_38 ?_
    refine ow_if_ne (tgt := 58) d_Fs_idle_39 (by decide) (fun c => ?_) (fun c => ?_)
    · replace T := T.1 c
      refine ow_iinc 2 (v := (v2 + 1)) (ls2 := [(2, .int (v2 + 1)), (0, .ref 0), (1, .int v1)]) d_Fs_idle_58 rfl rfl (by decide) rfl ?_
      refine ow_goto (tgt := 23) d_Fs_idle_61 (by decide) ?_
      refine ow_sub [1, 2, 0] rfl ?_
      exact T
    · replace T := T.2 c
      refine ow_aload_n 0 rfl d_Fs_idle_42 ?_
      refine ow_gR (a := 29) 155 d_Fs_idle_43 rfl rfl (by decide) rfl ⟨rfl, hR 0 4 (by decide)⟩ ?_
      refine ow_iload_n 2 rfl d_Fs_idle_46 ?_
      refine ow_iconst (v := 1) (by decide) d_Fs_idle_47 ?_
      refine ow_callV (b := 29) (cq := 4) (As := [.int v2, .int 1]) (rest := []) (d2 := d) d_Fs_idle_48 l_Fs_186 v_Scene_reply (show 29 < 85 by decide) rfl (by decide) rfl (Nat.le_of_ble_eq_true rfl) (Nat.le_refl _) ⟨Nat.le_refl _, Nat.le_refl _⟩ (ow_mono T ?_)
      rintro r h' ⟨r3, I3, J3, R3, rfl, rfl, hR3, T⟩
      show ow_AW ow_Y0 (ow_Z Q) M_Fs_idle (d + 1) 0 0 51 [(0, .ref 0), (1, .int v1), (2, .int v2)] [.int r3] (85, I3, J3, R3) 0 0
      refine ow_bipush (v := (-2)) (by decide) d_Fs_idle_51 ?_
      refine ow_icmp_eq (tgt := 58) d_Fs_idle_53 (by decide) (fun c => ?_) (fun c => ?_)
      · replace T := T.1 c
        refine ow_iinc 2 (v := (v2 + 1)) (ls2 := [(2, .int (v2 + 1)), (0, .ref 0), (1, .int v1)]) d_Fs_idle_58 rfl rfl (by decide) rfl ?_
        refine ow_goto (tgt := 23) d_Fs_idle_61 (by decide) ?_
        refine ow_sub [1, 2, 0] rfl ?_
        exact T
      · replace T := T.2 c
        refine ow_iload_n 2 rfl d_Fs_idle_56 ?_
        exact ow_iret d_Fs_idle_57 rfl T
set_option maxRecDepth 4000 in
theorem t_Fs_idle {d : Nat} {I : Nat → Nat → Int32} {J : Nat → Nat → Int64} {R : Nat → Nat → Option Nat} {Q : Option Value → ow_H → Prop}   (hR : ow_RF R) (T : (ow_AM M_Fs_lacksShire d [.ref 0] (85, I, J, R) (fun r h' => ∃ (r4 : Int32) (I4 : Nat → Nat → Int32) (J4 : Nat → Nat → Int64) (R4 : Nat → Nat → Option Nat), r = some (.int r4) ∧ h' = (85, I4, J4, R4) ∧ ow_RF R4 ∧ ((r4 = 0 → (ow_AM M_Serving_bitsSigning d [.ref 39, .ref 29] (85, I4, J4, R4) (fun r h' => ∃ (r5 : Int32) (I5 : Nat → Nat → Int32) (J5 : Nat → Nat → Int64) (R5 : Nat → Nat → Option Nat), r = some (.int r5) ∧ h' = (85, I5, J5, R5) ∧ ow_RF R5 ∧ ow_AW ow_Y0 (ow_Z Q) M_Fs_idle (d + 1) 0 0 23 [(0, .ref 0), (1, .int r5), (2, .int 0)] [] (85, I5, J5, R5) 0 0))) ∧ (¬ r4 = 0 → Q (some (.int (-1))) (85, I4, J4, R4)))))) : ow_AM M_Fs_idle (d + 1) [.ref 0] (85, I, J, R) Q := by
  refine ow_enter (by decide) (Nat.le_of_ble_eq_true rfl) ?_
  show ow_AW ow_Y0 (ow_Z Q) M_Fs_idle (d + 1) 0 0 0 [(0, .ref 0)] [] (85, I, J, R) 0 0
  refine ow_aload_n 0 rfl d_Fs_idle_0 ?_
  refine ow_callV (b := 0) (cq := 11) (As := []) (rest := []) (d2 := d) d_Fs_idle_1 l_Fs_208 v_Fs_lacksShire (show 0 < 85 by decide) rfl (by decide) rfl (Nat.le_of_ble_eq_true rfl) (Nat.le_refl _) ⟨Nat.le_refl _, Nat.le_refl _⟩ (ow_mono T ?_)
  rintro r h' ⟨r4, I4, J4, R4, rfl, rfl, hR4, T⟩
  show ow_AW ow_Y0 (ow_Z Q) M_Fs_idle (d + 1) 0 0 4 [(0, .ref 0)] [.int r4] (85, I4, J4, R4) 0 0
  refine ow_if_eq (tgt := 9) d_Fs_idle_4 (by decide) (fun c => ?_) (fun c => ?_)
  · replace T := T.1 c
    refine ow_aload_n 0 rfl d_Fs_idle_9 ?_
    refine ow_gR (a := 39) 158 d_Fs_idle_10 rfl rfl (by decide) rfl ⟨rfl, hR4 0 7 (by decide)⟩ ?_
    refine ow_aload_n 0 rfl d_Fs_idle_13 ?_
    refine ow_gR (a := 29) 155 d_Fs_idle_14 rfl rfl (by decide) rfl ⟨rfl, hR4 0 4 (by decide)⟩ ?_
    refine ow_callV (b := 39) (cq := 5) (As := [.ref 29]) (rest := []) (d2 := d) d_Fs_idle_17 l_Fs_215 v_Serving_bitsSigning (show 39 < 85 by decide) rfl (by decide) rfl (Nat.le_of_ble_eq_true rfl) (Nat.le_refl _) ⟨Nat.le_refl _, Nat.le_refl _⟩ (ow_mono T ?_)
    rintro r h' ⟨r5, I5, J5, R5, rfl, rfl, hR5, T⟩
    show ow_AW ow_Y0 (ow_Z Q) M_Fs_idle (d + 1) 0 0 20 [(0, .ref 0)] [.int r5] (85, I5, J5, R5) 0 0
    refine ow_istore_n (ls2 := [(1, .int r5), (0, .ref 0)]) d_Fs_idle_20 (by decide) rfl ?_
    refine ow_iconst (v := 0) (by decide) d_Fs_idle_21 ?_
    refine ow_istore_n (ls2 := [(2, .int 0), (1, .int r5), (0, .ref 0)]) d_Fs_idle_22 (by decide) rfl ?_
    refine ow_sub [2, 1, 0] rfl ?_
    exact T
  · replace T := T.2 c
    refine ow_iconst (v := (-1)) (by decide) d_Fs_idle_7 ?_
    exact ow_iret d_Fs_idle_8 rfl T
set_option maxRecDepth 4000 in
theorem t_Fs_serves {d : Nat} {I : Nat → Nat → Int32} {J : Nat → Nat → Int64} {R : Nat → Nat → Option Nat} {Q : Option Value → ow_H → Prop} {p1 : Int32}  (hR : ow_RF R) (T : (ow_AM M_Fs_lacksEstate d [.ref 0, .int p1] (85, I, J, R) (fun r h' => ∃ (r3 : Int32) (I3 : Nat → Nat → Int32) (J3 : Nat → Nat → Int64) (R3 : Nat → Nat → Option Nat), r = some (.int r3) ∧ h' = (85, I3, J3, R3) ∧ ow_RF R3 ∧ ((r3 = 0 → (ow_AM M_Serving_lettersFor d [.ref 39, .ref 29, .int p1] (85, I3, J3, R3) (fun r h' => ∃ (r4 : Int32) (I4 : Nat → Nat → Int32) (J4 : Nat → Nat → Int64) (R4 : Nat → Nat → Option Nat), r = some (.int r4) ∧ h' = (85, I4, J4, R4) ∧ ow_RF R4 ∧ Q (some (.int r4)) (85, I4, J4, R4)))) ∧ (¬ r3 = 0 → Q (some (.int (-1))) (85, I3, J3, R3)))))) : ow_AM M_Fs_serves (d + 1) [.ref 0, .int p1] (85, I, J, R) Q := by
  refine ow_enter (by decide) (Nat.le_of_ble_eq_true rfl) ?_
  show ow_AW ow_Y0 (ow_Z Q) M_Fs_serves (d + 1) 0 0 0 [(0, .ref 0), (1, .int p1)] [] (85, I, J, R) 0 0
  refine ow_aload_n 0 rfl d_Fs_serves_0 ?_
  refine ow_iload_n 1 rfl d_Fs_serves_1 ?_
  refine ow_callV (b := 0) (cq := 11) (As := [.int p1]) (rest := []) (d2 := d) d_Fs_serves_2 l_Fs_173 v_Fs_lacksEstate (show 0 < 85 by decide) rfl (by decide) rfl (Nat.le_of_ble_eq_true rfl) (Nat.le_refl _) ⟨Nat.le_refl _, Nat.le_refl _⟩ (ow_mono T ?_)
  rintro r h' ⟨r3, I3, J3, R3, rfl, rfl, hR3, T⟩
  show ow_AW ow_Y0 (ow_Z Q) M_Fs_serves (d + 1) 0 0 5 [(0, .ref 0), (1, .int p1)] [.int r3] (85, I3, J3, R3) 0 0
  refine ow_if_eq (tgt := 10) d_Fs_serves_5 (by decide) (fun c => ?_) (fun c => ?_)
  · replace T := T.1 c
    refine ow_aload_n 0 rfl d_Fs_serves_10 ?_
    refine ow_gR (a := 39) 158 d_Fs_serves_11 rfl rfl (by decide) rfl ⟨rfl, hR3 0 7 (by decide)⟩ ?_
    refine ow_aload_n 0 rfl d_Fs_serves_14 ?_
    refine ow_gR (a := 29) 155 d_Fs_serves_15 rfl rfl (by decide) rfl ⟨rfl, hR3 0 4 (by decide)⟩ ?_
    refine ow_iload_n 1 rfl d_Fs_serves_18 ?_
    refine ow_callV (b := 39) (cq := 5) (As := [.ref 29, .int p1]) (rest := []) (d2 := d) d_Fs_serves_19 l_Fs_218 v_Serving_lettersFor (show 39 < 85 by decide) rfl (by decide) rfl (Nat.le_of_ble_eq_true rfl) (Nat.le_refl _) ⟨Nat.le_refl _, Nat.le_refl _⟩ (ow_mono T ?_)
    rintro r h' ⟨r4, I4, J4, R4, rfl, rfl, hR4, T⟩
    show ow_AW ow_Y0 (ow_Z Q) M_Fs_serves (d + 1) 0 0 22 [(0, .ref 0), (1, .int p1)] [.int r4] (85, I4, J4, R4) 0 0
    exact ow_iret d_Fs_serves_22 rfl T
  · replace T := T.2 c
    refine ow_iconst (v := (-1)) (by decide) d_Fs_serves_8 ?_
    exact ow_iret d_Fs_serves_9 rfl T
set_option maxRecDepth 4000 in
theorem t_Fs_best {d : Nat} {I : Nat → Nat → Int32} {J : Nat → Nat → Int64} {R : Nat → Nat → Option Nat} {Q : Option Value → ow_H → Prop} {p1 : Int32}  (hR : ow_RF R) (T : (ow_AM M_Fs_lacksEstate d [.ref 0, .int p1] (85, I, J, R) (fun r h' => ∃ (r3 : Int32) (I3 : Nat → Nat → Int32) (J3 : Nat → Nat → Int64) (R3 : Nat → Nat → Option Nat), r = some (.int r3) ∧ h' = (85, I3, J3, R3) ∧ ow_RF R3 ∧ ((r3 = 0 → (ow_AM M_Serving_findShortest d [.ref 39, .ref 29, .int p1] (85, I3, J3, R3) (fun r h' => ∃ (I4 : Nat → Nat → Int32) (J4 : Nat → Nat → Int64) (R4 : Nat → Nat → Option Nat), r = none ∧ h' = (85, I4, J4, R4) ∧ ow_RF R4 ∧ Q (some (.int (I4 39 3))) (85, I4, J4, R4)))) ∧ (¬ r3 = 0 → Q (some (.int (-1))) (85, I3, J3, R3)))))) : ow_AM M_Fs_best (d + 1) [.ref 0, .int p1] (85, I, J, R) Q := by
  refine ow_enter (by decide) (Nat.le_of_ble_eq_true rfl) ?_
  show ow_AW ow_Y0 (ow_Z Q) M_Fs_best (d + 1) 0 0 0 [(0, .ref 0), (1, .int p1)] [] (85, I, J, R) 0 0
  refine ow_aload_n 0 rfl d_Fs_best_0 ?_
  refine ow_iload_n 1 rfl d_Fs_best_1 ?_
  refine ow_callV (b := 0) (cq := 11) (As := [.int p1]) (rest := []) (d2 := d) d_Fs_best_2 l_Fs_173 v_Fs_lacksEstate (show 0 < 85 by decide) rfl (by decide) rfl (Nat.le_of_ble_eq_true rfl) (Nat.le_refl _) ⟨Nat.le_refl _, Nat.le_refl _⟩ (ow_mono T ?_)
  rintro r h' ⟨r3, I3, J3, R3, rfl, rfl, hR3, T⟩
  show ow_AW ow_Y0 (ow_Z Q) M_Fs_best (d + 1) 0 0 5 [(0, .ref 0), (1, .int p1)] [.int r3] (85, I3, J3, R3) 0 0
  refine ow_if_eq (tgt := 10) d_Fs_best_5 (by decide) (fun c => ?_) (fun c => ?_)
  · replace T := T.1 c
    refine ow_aload_n 0 rfl d_Fs_best_10 ?_
    refine ow_gR (a := 39) 158 d_Fs_best_11 rfl rfl (by decide) rfl ⟨rfl, hR3 0 7 (by decide)⟩ ?_
    refine ow_aload_n 0 rfl d_Fs_best_14 ?_
    refine ow_gR (a := 29) 155 d_Fs_best_15 rfl rfl (by decide) rfl ⟨rfl, hR3 0 4 (by decide)⟩ ?_
    refine ow_iload_n 1 rfl d_Fs_best_18 ?_
    refine ow_callV (b := 39) (cq := 5) (As := [.ref 29, .int p1]) (rest := []) (d2 := d) d_Fs_best_19 l_Fs_222 v_Serving_findShortest (show 39 < 85 by decide) rfl (by decide) rfl (Nat.le_of_ble_eq_true rfl) (Nat.le_refl _) ⟨Nat.le_refl _, Nat.le_refl _⟩ (ow_mono T ?_)
    rintro r h' ⟨I4, J4, R4, rfl, rfl, hR4, T⟩
    show ow_AW ow_Y0 (ow_Z Q) M_Fs_best (d + 1) 0 0 22 [(0, .ref 0), (1, .int p1)] [] (85, I4, J4, R4) 0 0
    refine ow_aload_n 0 rfl d_Fs_best_22 ?_
    refine ow_gR (a := 39) 158 d_Fs_best_23 rfl rfl (by decide) rfl ⟨rfl, hR4 0 7 (by decide)⟩ ?_
    refine ow_gI 107 d_Fs_best_26 rfl rfl (by decide) rfl (Or.inl rfl) ?_
    exact ow_iret d_Fs_best_29 rfl T
  · replace T := T.2 c
    refine ow_iconst (v := (-1)) (by decide) d_Fs_best_8 ?_
    exact ow_iret d_Fs_best_9 rfl T
set_option maxRecDepth 4000 in
theorem t_Fs_shortest {d : Nat} {I : Nat → Nat → Int32} {J : Nat → Nat → Int64} {R : Nat → Nat → Option Nat} {Q : Option Value → ow_H → Prop} {p1 : Int32}  (hR : ow_RF R) (T : (ow_AM M_Fs_lacksEstate d [.ref 0, .int p1] (85, I, J, R) (fun r h' => ∃ (r3 : Int32) (I3 : Nat → Nat → Int32) (J3 : Nat → Nat → Int64) (R3 : Nat → Nat → Option Nat), r = some (.int r3) ∧ h' = (85, I3, J3, R3) ∧ ow_RF R3 ∧ ((r3 = 0 → (ow_AM M_Serving_findShortest d [.ref 39, .ref 29, .int p1] (85, I3, J3, R3) (fun r h' => ∃ (I4 : Nat → Nat → Int32) (J4 : Nat → Nat → Int64) (R4 : Nat → Nat → Option Nat), r = none ∧ h' = (85, I4, J4, R4) ∧ ow_RF R4 ∧ Q (some (.int (I4 39 4))) (85, I4, J4, R4)))) ∧ (¬ r3 = 0 → Q (some (.int (-1))) (85, I3, J3, R3)))))) : ow_AM M_Fs_shortest (d + 1) [.ref 0, .int p1] (85, I, J, R) Q := by
  refine ow_enter (by decide) (Nat.le_of_ble_eq_true rfl) ?_
  show ow_AW ow_Y0 (ow_Z Q) M_Fs_shortest (d + 1) 0 0 0 [(0, .ref 0), (1, .int p1)] [] (85, I, J, R) 0 0
  refine ow_aload_n 0 rfl d_Fs_shortest_0 ?_
  refine ow_iload_n 1 rfl d_Fs_shortest_1 ?_
  refine ow_callV (b := 0) (cq := 11) (As := [.int p1]) (rest := []) (d2 := d) d_Fs_shortest_2 l_Fs_173 v_Fs_lacksEstate (show 0 < 85 by decide) rfl (by decide) rfl (Nat.le_of_ble_eq_true rfl) (Nat.le_refl _) ⟨Nat.le_refl _, Nat.le_refl _⟩ (ow_mono T ?_)
  rintro r h' ⟨r3, I3, J3, R3, rfl, rfl, hR3, T⟩
  show ow_AW ow_Y0 (ow_Z Q) M_Fs_shortest (d + 1) 0 0 5 [(0, .ref 0), (1, .int p1)] [.int r3] (85, I3, J3, R3) 0 0
  refine ow_if_eq (tgt := 10) d_Fs_shortest_5 (by decide) (fun c => ?_) (fun c => ?_)
  · replace T := T.1 c
    refine ow_aload_n 0 rfl d_Fs_shortest_10 ?_
    refine ow_gR (a := 39) 158 d_Fs_shortest_11 rfl rfl (by decide) rfl ⟨rfl, hR3 0 7 (by decide)⟩ ?_
    refine ow_aload_n 0 rfl d_Fs_shortest_14 ?_
    refine ow_gR (a := 29) 155 d_Fs_shortest_15 rfl rfl (by decide) rfl ⟨rfl, hR3 0 4 (by decide)⟩ ?_
    refine ow_iload_n 1 rfl d_Fs_shortest_18 ?_
    refine ow_callV (b := 39) (cq := 5) (As := [.ref 29, .int p1]) (rest := []) (d2 := d) d_Fs_shortest_19 l_Fs_222 v_Serving_findShortest (show 39 < 85 by decide) rfl (by decide) rfl (Nat.le_of_ble_eq_true rfl) (Nat.le_refl _) ⟨Nat.le_refl _, Nat.le_refl _⟩ (ow_mono T ?_)
    rintro r h' ⟨I4, J4, R4, rfl, rfl, hR4, T⟩
    show ow_AW ow_Y0 (ow_Z Q) M_Fs_shortest (d + 1) 0 0 22 [(0, .ref 0), (1, .int p1)] [] (85, I4, J4, R4) 0 0
    refine ow_aload_n 0 rfl d_Fs_shortest_22 ?_
    refine ow_gR (a := 39) 158 d_Fs_shortest_23 rfl rfl (by decide) rfl ⟨rfl, hR4 0 7 (by decide)⟩ ?_
    refine ow_gI 109 d_Fs_shortest_26 rfl rfl (by decide) rfl (Or.inl rfl) ?_
    exact ow_iret d_Fs_shortest_29 rfl T
  · replace T := T.2 c
    refine ow_iconst (v := (-1)) (by decide) d_Fs_shortest_8 ?_
    exact ow_iret d_Fs_shortest_9 rfl T
set_option maxRecDepth 4000 in
theorem t_Fs_widest {d : Nat} {I : Nat → Nat → Int32} {J : Nat → Nat → Int64} {R : Nat → Nat → Option Nat} {Q : Option Value → ow_H → Prop}   (hR : ow_RF R) (T : (ow_AM M_Fs_lacksShire d [.ref 0] (85, I, J, R) (fun r h' => ∃ (r3 : Int32) (I3 : Nat → Nat → Int32) (J3 : Nat → Nat → Int64) (R3 : Nat → Nat → Option Nat), r = some (.int r3) ∧ h' = (85, I3, J3, R3) ∧ ow_RF R3 ∧ ((r3 = 0 → (ow_AM M_Serving_findWidest d [.ref 39, .ref 29] (85, I3, J3, R3) (fun r h' => ∃ (r4 : Int32) (I4 : Nat → Nat → Int32) (J4 : Nat → Nat → Int64) (R4 : Nat → Nat → Option Nat), r = some (.int r4) ∧ h' = (85, I4, J4, R4) ∧ ow_RF R4 ∧ Q (some (.int r4)) (85, I4, J4, R4)))) ∧ (¬ r3 = 0 → Q (some (.int (-1))) (85, I3, J3, R3)))))) : ow_AM M_Fs_widest (d + 1) [.ref 0] (85, I, J, R) Q := by
  refine ow_enter (by decide) (Nat.le_of_ble_eq_true rfl) ?_
  show ow_AW ow_Y0 (ow_Z Q) M_Fs_widest (d + 1) 0 0 0 [(0, .ref 0)] [] (85, I, J, R) 0 0
  refine ow_aload_n 0 rfl d_Fs_widest_0 ?_
  refine ow_callV (b := 0) (cq := 11) (As := []) (rest := []) (d2 := d) d_Fs_widest_1 l_Fs_208 v_Fs_lacksShire (show 0 < 85 by decide) rfl (by decide) rfl (Nat.le_of_ble_eq_true rfl) (Nat.le_refl _) ⟨Nat.le_refl _, Nat.le_refl _⟩ (ow_mono T ?_)
  rintro r h' ⟨r3, I3, J3, R3, rfl, rfl, hR3, T⟩
  show ow_AW ow_Y0 (ow_Z Q) M_Fs_widest (d + 1) 0 0 4 [(0, .ref 0)] [.int r3] (85, I3, J3, R3) 0 0
  refine ow_if_eq (tgt := 9) d_Fs_widest_4 (by decide) (fun c => ?_) (fun c => ?_)
  · replace T := T.1 c
    refine ow_aload_n 0 rfl d_Fs_widest_9 ?_
    refine ow_gR (a := 39) 158 d_Fs_widest_10 rfl rfl (by decide) rfl ⟨rfl, hR3 0 7 (by decide)⟩ ?_
    refine ow_aload_n 0 rfl d_Fs_widest_13 ?_
    refine ow_gR (a := 29) 155 d_Fs_widest_14 rfl rfl (by decide) rfl ⟨rfl, hR3 0 4 (by decide)⟩ ?_
    refine ow_callV (b := 39) (cq := 5) (As := [.ref 29]) (rest := []) (d2 := d) d_Fs_widest_17 l_Fs_232 v_Serving_findWidest (show 39 < 85 by decide) rfl (by decide) rfl (Nat.le_of_ble_eq_true rfl) (Nat.le_refl _) ⟨Nat.le_refl _, Nat.le_refl _⟩ (ow_mono T ?_)
    rintro r h' ⟨r4, I4, J4, R4, rfl, rfl, hR4, T⟩
    show ow_AW ow_Y0 (ow_Z Q) M_Fs_widest (d + 1) 0 0 20 [(0, .ref 0)] [.int r4] (85, I4, J4, R4) 0 0
    exact ow_iret d_Fs_widest_20 rfl T
  · replace T := T.2 c
    refine ow_iconst (v := (-1)) (by decide) d_Fs_widest_7 ?_
    exact ow_iret d_Fs_widest_8 rfl T
set_option maxRecDepth 4000 in
theorem t_Fs_change {d : Nat} {I : Nat → Nat → Int32} {J : Nat → Nat → Int64} {R : Nat → Nat → Option Nat} {Q : Option Value → ow_H → Prop}   (hR : ow_RF R) (T : (ow_AM M_Fs_lacksShire d [.ref 0] (85, I, J, R) (fun r h' => ∃ (r3 : Int32) (I3 : Nat → Nat → Int32) (J3 : Nat → Nat → Int64) (R3 : Nat → Nat → Option Nat), r = some (.int r3) ∧ h' = (85, I3, J3, R3) ∧ ow_RF R3 ∧ ((r3 = 0 → (ow_AM M_Serving_findChange d [.ref 39, .ref 29] (85, I3, J3, R3) (fun r h' => ∃ (I4 : Nat → Nat → Int32) (J4 : Nat → Nat → Int64) (R4 : Nat → Nat → Option Nat), r = none ∧ h' = (85, I4, J4, R4) ∧ ow_RF R4 ∧ Q (some (.int (I4 39 5))) (85, I4, J4, R4)))) ∧ (¬ r3 = 0 → Q (some (.int (-1))) (85, I3, J3, R3)))))) : ow_AM M_Fs_change (d + 1) [.ref 0] (85, I, J, R) Q := by
  refine ow_enter (by decide) (Nat.le_of_ble_eq_true rfl) ?_
  show ow_AW ow_Y0 (ow_Z Q) M_Fs_change (d + 1) 0 0 0 [(0, .ref 0)] [] (85, I, J, R) 0 0
  refine ow_aload_n 0 rfl d_Fs_change_0 ?_
  refine ow_callV (b := 0) (cq := 11) (As := []) (rest := []) (d2 := d) d_Fs_change_1 l_Fs_208 v_Fs_lacksShire (show 0 < 85 by decide) rfl (by decide) rfl (Nat.le_of_ble_eq_true rfl) (Nat.le_refl _) ⟨Nat.le_refl _, Nat.le_refl _⟩ (ow_mono T ?_)
  rintro r h' ⟨r3, I3, J3, R3, rfl, rfl, hR3, T⟩
  show ow_AW ow_Y0 (ow_Z Q) M_Fs_change (d + 1) 0 0 4 [(0, .ref 0)] [.int r3] (85, I3, J3, R3) 0 0
  refine ow_if_eq (tgt := 9) d_Fs_change_4 (by decide) (fun c => ?_) (fun c => ?_)
  · replace T := T.1 c
    refine ow_aload_n 0 rfl d_Fs_change_9 ?_
    refine ow_gR (a := 39) 158 d_Fs_change_10 rfl rfl (by decide) rfl ⟨rfl, hR3 0 7 (by decide)⟩ ?_
    refine ow_aload_n 0 rfl d_Fs_change_13 ?_
    refine ow_gR (a := 29) 155 d_Fs_change_14 rfl rfl (by decide) rfl ⟨rfl, hR3 0 4 (by decide)⟩ ?_
    refine ow_callV (b := 39) (cq := 5) (As := [.ref 29]) (rest := []) (d2 := d) d_Fs_change_17 l_Fs_235 v_Serving_findChange (show 39 < 85 by decide) rfl (by decide) rfl (Nat.le_of_ble_eq_true rfl) (Nat.le_refl _) ⟨Nat.le_refl _, Nat.le_refl _⟩ (ow_mono T ?_)
    rintro r h' ⟨I4, J4, R4, rfl, rfl, hR4, T⟩
    show ow_AW ow_Y0 (ow_Z Q) M_Fs_change (d + 1) 0 0 20 [(0, .ref 0)] [] (85, I4, J4, R4) 0 0
    refine ow_aload_n 0 rfl d_Fs_change_20 ?_
    refine ow_gR (a := 39) 158 d_Fs_change_21 rfl rfl (by decide) rfl ⟨rfl, hR4 0 7 (by decide)⟩ ?_
    refine ow_gI 111 d_Fs_change_24 rfl rfl (by decide) rfl (Or.inl rfl) ?_
    exact ow_iret d_Fs_change_27 rfl T
  · replace T := T.2 c
    refine ow_iconst (v := (-1)) (by decide) d_Fs_change_7 ?_
    exact ow_iret d_Fs_change_8 rfl T
set_option maxRecDepth 4000 in
theorem t_Fs_changeServes {d : Nat} {I : Nat → Nat → Int32} {J : Nat → Nat → Int64} {R : Nat → Nat → Option Nat} {Q : Option Value → ow_H → Prop}   (hR : ow_RF R) (T : (ow_AM M_Fs_lacksShire d [.ref 0] (85, I, J, R) (fun r h' => ∃ (r3 : Int32) (I3 : Nat → Nat → Int32) (J3 : Nat → Nat → Int64) (R3 : Nat → Nat → Option Nat), r = some (.int r3) ∧ h' = (85, I3, J3, R3) ∧ ow_RF R3 ∧ ((r3 = 0 → (ow_AM M_Serving_findChange d [.ref 39, .ref 29] (85, I3, J3, R3) (fun r h' => ∃ (I4 : Nat → Nat → Int32) (J4 : Nat → Nat → Int64) (R4 : Nat → Nat → Option Nat), r = none ∧ h' = (85, I4, J4, R4) ∧ ow_RF R4 ∧ Q (some (.int (I4 39 6))) (85, I4, J4, R4)))) ∧ (¬ r3 = 0 → Q (some (.int (-1))) (85, I3, J3, R3)))))) : ow_AM M_Fs_changeServes (d + 1) [.ref 0] (85, I, J, R) Q := by
  refine ow_enter (by decide) (Nat.le_of_ble_eq_true rfl) ?_
  show ow_AW ow_Y0 (ow_Z Q) M_Fs_changeServes (d + 1) 0 0 0 [(0, .ref 0)] [] (85, I, J, R) 0 0
  refine ow_aload_n 0 rfl d_Fs_changeServes_0 ?_
  refine ow_callV (b := 0) (cq := 11) (As := []) (rest := []) (d2 := d) d_Fs_changeServes_1 l_Fs_208 v_Fs_lacksShire (show 0 < 85 by decide) rfl (by decide) rfl (Nat.le_of_ble_eq_true rfl) (Nat.le_refl _) ⟨Nat.le_refl _, Nat.le_refl _⟩ (ow_mono T ?_)
  rintro r h' ⟨r3, I3, J3, R3, rfl, rfl, hR3, T⟩
  show ow_AW ow_Y0 (ow_Z Q) M_Fs_changeServes (d + 1) 0 0 4 [(0, .ref 0)] [.int r3] (85, I3, J3, R3) 0 0
  refine ow_if_eq (tgt := 9) d_Fs_changeServes_4 (by decide) (fun c => ?_) (fun c => ?_)
  · replace T := T.1 c
    refine ow_aload_n 0 rfl d_Fs_changeServes_9 ?_
    refine ow_gR (a := 39) 158 d_Fs_changeServes_10 rfl rfl (by decide) rfl ⟨rfl, hR3 0 7 (by decide)⟩ ?_
    refine ow_aload_n 0 rfl d_Fs_changeServes_13 ?_
    refine ow_gR (a := 29) 155 d_Fs_changeServes_14 rfl rfl (by decide) rfl ⟨rfl, hR3 0 4 (by decide)⟩ ?_
    refine ow_callV (b := 39) (cq := 5) (As := [.ref 29]) (rest := []) (d2 := d) d_Fs_changeServes_17 l_Fs_235 v_Serving_findChange (show 39 < 85 by decide) rfl (by decide) rfl (Nat.le_of_ble_eq_true rfl) (Nat.le_refl _) ⟨Nat.le_refl _, Nat.le_refl _⟩ (ow_mono T ?_)
    rintro r h' ⟨I4, J4, R4, rfl, rfl, hR4, T⟩
    show ow_AW ow_Y0 (ow_Z Q) M_Fs_changeServes (d + 1) 0 0 20 [(0, .ref 0)] [] (85, I4, J4, R4) 0 0
    refine ow_aload_n 0 rfl d_Fs_changeServes_20 ?_
    refine ow_gR (a := 39) 158 d_Fs_changeServes_21 rfl rfl (by decide) rfl ⟨rfl, hR4 0 7 (by decide)⟩ ?_
    refine ow_gI 113 d_Fs_changeServes_24 rfl rfl (by decide) rfl (Or.inl rfl) ?_
    exact ow_iret d_Fs_changeServes_27 rfl T
  · replace T := T.2 c
    refine ow_iconst (v := (-1)) (by decide) d_Fs_changeServes_7 ?_
    exact ow_iret d_Fs_changeServes_8 rfl T
set_option maxRecDepth 4000 in
theorem t_Fs_servedIf {d : Nat} {I : Nat → Nat → Int32} {J : Nat → Nat → Int64} {R : Nat → Nat → Option Nat} {Q : Option Value → ow_H → Prop} {p1 : Int32} {p2 : Int32}  (hR : ow_RF R) (T : (ow_AM M_Fs_lacksFolly d [.ref 0, .int p1] (85, I, J, R) (fun r h' => ∃ (r6 : Int32) (I6 : Nat → Nat → Int32) (J6 : Nat → Nat → Int64) (R6 : Nat → Nat → Option Nat), r = some (.int r6) ∧ h' = (85, I6, J6, R6) ∧ ow_RF R6 ∧ ((¬ r6 = 0 → Q (some (.int (-1))) (85, I6, J6, R6)) ∧ (r6 = 0 → (ow_AM M_Fs_lacksFolly d [.ref 0, .int p2] (85, I6, J6, R6) (fun r h' => ∃ (r7 : Int32) (I7 : Nat → Nat → Int32) (J7 : Nat → Nat → Int64) (R7 : Nat → Nat → Option Nat), r = some (.int r7) ∧ h' = (85, I7, J7, R7) ∧ ow_RF R7 ∧ ((r7 = 0 → (ow_AM M_Scene_take d [.ref 33, .ref 29] (85, I7, J7, R7) (fun r h' => ∃ (I8 : Nat → Nat → Int32) (J8 : Nat → Nat → Int64) (R8 : Nat → Nat → Option Nat), r = none ∧ h' = (85, I8, J8, R8) ∧ ow_RF R8 ∧ (ow_AM M_Scene_aim d [.ref 33, .int p1, .int p2] (85, I8, J8, R8) (fun r h' => ∃ (I9 : Nat → Nat → Int32) (J9 : Nat → Nat → Int64) (R9 : Nat → Nat → Option Nat), r = none ∧ h' = (85, I9, J9, R9) ∧ ow_RF R9 ∧ (ow_AM M_Serving_countServed d [.ref 39, .ref 33] (85, I9, J9, R9) (fun r h' => ∃ (r10 : Int32) (I10 : Nat → Nat → Int32) (J10 : Nat → Nat → Int64) (R10 : Nat → Nat → Option Nat), r = some (.int r10) ∧ h' = (85, I10, J10, R10) ∧ ow_RF R10 ∧ Q (some (.int r10)) (85, I10, J10, R10)))))))) ∧ (¬ r7 = 0 → Q (some (.int (-1))) (85, I7, J7, R7)))))))))) : ow_AM M_Fs_servedIf (d + 1) [.ref 0, .int p1, .int p2] (85, I, J, R) Q := by
  refine ow_enter (by decide) (Nat.le_of_ble_eq_true rfl) ?_
  show ow_AW ow_Y0 (ow_Z Q) M_Fs_servedIf (d + 1) 0 0 0 [(0, .ref 0), (1, .int p1), (2, .int p2)] [] (85, I, J, R) 0 0
  refine ow_aload_n 0 rfl d_Fs_servedIf_0 ?_
  refine ow_iload_n 1 rfl d_Fs_servedIf_1 ?_
  refine ow_callV (b := 0) (cq := 11) (As := [.int p1]) (rest := []) (d2 := d) d_Fs_servedIf_2 l_Fs_146 v_Fs_lacksFolly (show 0 < 85 by decide) rfl (by decide) rfl (Nat.le_of_ble_eq_true rfl) (Nat.le_refl _) ⟨Nat.le_refl _, Nat.le_refl _⟩ (ow_mono T ?_)
  rintro r h' ⟨r6, I6, J6, R6, rfl, rfl, hR6, T⟩
  show ow_AW ow_Y0 (ow_Z Q) M_Fs_servedIf (d + 1) 0 0 5 [(0, .ref 0), (1, .int p1), (2, .int p2)] [.int r6] (85, I6, J6, R6) 0 0
  refine ow_if_ne (tgt := 16) d_Fs_servedIf_5 (by decide) (fun c => ?_) (fun c => ?_)
  · replace T := T.1 c
    refine ow_iconst (v := (-1)) (by decide) d_Fs_servedIf_16 ?_
    exact ow_iret d_Fs_servedIf_17 rfl T
  · replace T := T.2 c
    refine ow_aload_n 0 rfl d_Fs_servedIf_8 ?_
    refine ow_iload_n 2 rfl d_Fs_servedIf_9 ?_
    refine ow_callV (b := 0) (cq := 11) (As := [.int p2]) (rest := []) (d2 := d) d_Fs_servedIf_10 l_Fs_146 v_Fs_lacksFolly (show 0 < 85 by decide) rfl (by decide) rfl (Nat.le_of_ble_eq_true rfl) (Nat.le_refl _) ⟨Nat.le_refl _, Nat.le_refl _⟩ (ow_mono T ?_)
    rintro r h' ⟨r7, I7, J7, R7, rfl, rfl, hR7, T⟩
    show ow_AW ow_Y0 (ow_Z Q) M_Fs_servedIf (d + 1) 0 0 13 [(0, .ref 0), (1, .int p1), (2, .int p2)] [.int r7] (85, I7, J7, R7) 0 0
    refine ow_if_eq (tgt := 18) d_Fs_servedIf_13 (by decide) (fun c => ?_) (fun c => ?_)
    · replace T := T.1 c
      refine ow_aload_n 0 rfl d_Fs_servedIf_18 ?_
      refine ow_gR (a := 33) 156 d_Fs_servedIf_19 rfl rfl (by decide) rfl ⟨rfl, hR7 0 5 (by decide)⟩ ?_
      refine ow_aload_n 0 rfl d_Fs_servedIf_22 ?_
      refine ow_gR (a := 29) 155 d_Fs_servedIf_23 rfl rfl (by decide) rfl ⟨rfl, hR7 0 4 (by decide)⟩ ?_
      refine ow_callV (b := 33) (cq := 4) (As := [.ref 29]) (rest := []) (d2 := d) d_Fs_servedIf_26 l_Fs_130 v_Scene_take (show 33 < 85 by decide) rfl (by decide) rfl (Nat.le_of_ble_eq_true rfl) (Nat.le_refl _) ⟨Nat.le_refl _, Nat.le_refl _⟩ (ow_mono T ?_)
      rintro r h' ⟨I8, J8, R8, rfl, rfl, hR8, T⟩
      show ow_AW ow_Y0 (ow_Z Q) M_Fs_servedIf (d + 1) 0 0 29 [(0, .ref 0), (1, .int p1), (2, .int p2)] [] (85, I8, J8, R8) 0 0
      refine ow_aload_n 0 rfl d_Fs_servedIf_29 ?_
      refine ow_gR (a := 33) 156 d_Fs_servedIf_30 rfl rfl (by decide) rfl ⟨rfl, hR8 0 5 (by decide)⟩ ?_
      refine ow_iload_n 1 rfl d_Fs_servedIf_33 ?_
      refine ow_iload_n 2 rfl d_Fs_servedIf_34 ?_
      refine ow_callV (b := 33) (cq := 4) (As := [.int p1, .int p2]) (rest := []) (d2 := d) d_Fs_servedIf_35 l_Fs_244 v_Scene_aim (show 33 < 85 by decide) rfl (by decide) rfl (Nat.le_of_ble_eq_true rfl) (Nat.le_refl _) ⟨Nat.le_refl _, Nat.le_refl _⟩ (ow_mono T ?_)
      rintro r h' ⟨I9, J9, R9, rfl, rfl, hR9, T⟩
      show ow_AW ow_Y0 (ow_Z Q) M_Fs_servedIf (d + 1) 0 0 38 [(0, .ref 0), (1, .int p1), (2, .int p2)] [] (85, I9, J9, R9) 0 0
      refine ow_aload_n 0 rfl d_Fs_servedIf_38 ?_
      refine ow_gR (a := 39) 158 d_Fs_servedIf_39 rfl rfl (by decide) rfl ⟨rfl, hR9 0 7 (by decide)⟩ ?_
      refine ow_aload_n 0 rfl d_Fs_servedIf_42 ?_
      refine ow_gR (a := 33) 156 d_Fs_servedIf_43 rfl rfl (by decide) rfl ⟨rfl, hR9 0 5 (by decide)⟩ ?_
      refine ow_callV (b := 39) (cq := 5) (As := [.ref 33]) (rest := []) (d2 := d) d_Fs_servedIf_46 l_Fs_248 v_Serving_countServed (show 39 < 85 by decide) rfl (by decide) rfl (Nat.le_of_ble_eq_true rfl) (Nat.le_refl _) ⟨Nat.le_refl _, Nat.le_refl _⟩ (ow_mono T ?_)
      rintro r h' ⟨r10, I10, J10, R10, rfl, rfl, hR10, T⟩
      show ow_AW ow_Y0 (ow_Z Q) M_Fs_servedIf (d + 1) 0 0 49 [(0, .ref 0), (1, .int p1), (2, .int p2)] [.int r10] (85, I10, J10, R10) 0 0
      exact ow_iret d_Fs_servedIf_49 rfl T
    · replace T := T.2 c
      refine ow_iconst (v := (-1)) (by decide) d_Fs_servedIf_16 ?_
      exact ow_iret d_Fs_servedIf_17 rfl T
set_option maxRecDepth 4000 in
theorem t_Fs_signsIn {d : Nat} {I : Nat → Nat → Int32} {J : Nat → Nat → Int64} {R : Nat → Nat → Option Nat} {Q : Option Value → ow_H → Prop} {p1 : Int32} {p2 : Int32} {p3 : Int32}  (hR : ow_RF R) (T : (ow_AM M_Fs_lacksFolly d [.ref 0, .int p1] (85, I, J, R) (fun r h' => ∃ (r5 : Int32) (I5 : Nat → Nat → Int32) (J5 : Nat → Nat → Int64) (R5 : Nat → Nat → Option Nat), r = some (.int r5) ∧ h' = (85, I5, J5, R5) ∧ ow_RF R5 ∧ ((¬ r5 = 0 → Q (some (.int (-1))) (85, I5, J5, R5)) ∧ (r5 = 0 → (ow_AM M_Fs_isOutside d [.ref 0, .int p3, .int 0, .int 60] (85, I5, J5, R5) (fun r h' => ∃ (r6 : Int32) (I6 : Nat → Nat → Int32) (J6 : Nat → Nat → Int64) (R6 : Nat → Nat → Option Nat), r = some (.int r6) ∧ h' = (85, I6, J6, R6) ∧ ow_RF R6 ∧ ((r6 = 0 → (ow_AM M_Fs_lookAhead d [.ref 0, .int p3] (85, I6, J6, R6) (fun r h' => ∃ (I7 : Nat → Nat → Int32) (J7 : Nat → Nat → Int64) (R7 : Nat → Nat → Option Nat), r = none ∧ h' = (85, I7, J7, R7) ∧ ow_RF R7 ∧ (ow_AM M_Course_run d [.ref 37, .ref 33, .int p1, .int p2] (85, I7, J7, R7) (fun r h' => ∃ (I8 : Nat → Nat → Int32) (J8 : Nat → Nat → Int64) (R8 : Nat → Nat → Option Nat), r = none ∧ h' = (85, I8, J8, R8) ∧ ow_RF R8 ∧ Q (some (.int (I8 37 4))) (85, I8, J8, R8)))))) ∧ (¬ r6 = 0 → Q (some (.int (-1))) (85, I6, J6, R6)))))))))) : ow_AM M_Fs_signsIn (d + 1) [.ref 0, .int p1, .int p2, .int p3] (85, I, J, R) Q := by
  refine ow_enter (by decide) (Nat.le_of_ble_eq_true rfl) ?_
  show ow_AW ow_Y0 (ow_Z Q) M_Fs_signsIn (d + 1) 0 0 0 [(0, .ref 0), (1, .int p1), (2, .int p2), (3, .int p3)] [] (85, I, J, R) 0 0
  refine ow_aload_n 0 rfl d_Fs_signsIn_0 ?_
  refine ow_iload_n 1 rfl d_Fs_signsIn_1 ?_
  refine ow_callV (b := 0) (cq := 11) (As := [.int p1]) (rest := []) (d2 := d) d_Fs_signsIn_2 l_Fs_146 v_Fs_lacksFolly (show 0 < 85 by decide) rfl (by decide) rfl (Nat.le_of_ble_eq_true rfl) (Nat.le_refl _) ⟨Nat.le_refl _, Nat.le_refl _⟩ (ow_mono T ?_)
  rintro r h' ⟨r5, I5, J5, R5, rfl, rfl, hR5, T⟩
  show ow_AW ow_Y0 (ow_Z Q) M_Fs_signsIn (d + 1) 0 0 5 [(0, .ref 0), (1, .int p1), (2, .int p2), (3, .int p3)] [.int r5] (85, I5, J5, R5) 0 0
  refine ow_if_ne (tgt := 19) d_Fs_signsIn_5 (by decide) (fun c => ?_) (fun c => ?_)
  · replace T := T.1 c
    refine ow_iconst (v := (-1)) (by decide) d_Fs_signsIn_19 ?_
    exact ow_iret d_Fs_signsIn_20 rfl T
  · replace T := T.2 c
    refine ow_aload_n 0 rfl d_Fs_signsIn_8 ?_
    refine ow_iload_n 3 rfl d_Fs_signsIn_9 ?_
    refine ow_iconst (v := 0) (by decide) d_Fs_signsIn_10 ?_
    refine ow_bipush (v := 60) (by decide) d_Fs_signsIn_11 ?_
    refine ow_callV (b := 0) (cq := 11) (As := [.int p3, .int 0, .int 60]) (rest := []) (d2 := d) d_Fs_signsIn_13 l_Fs_251 v_Fs_isOutside (show 0 < 85 by decide) rfl (by decide) rfl (Nat.le_of_ble_eq_true rfl) (Nat.le_refl _) ⟨Nat.le_refl _, Nat.le_refl _⟩ (ow_mono T ?_)
    rintro r h' ⟨r6, I6, J6, R6, rfl, rfl, hR6, T⟩
    show ow_AW ow_Y0 (ow_Z Q) M_Fs_signsIn (d + 1) 0 0 16 [(0, .ref 0), (1, .int p1), (2, .int p2), (3, .int p3)] [.int r6] (85, I6, J6, R6) 0 0
    refine ow_if_eq (tgt := 21) d_Fs_signsIn_16 (by decide) (fun c => ?_) (fun c => ?_)
    · replace T := T.1 c
      refine ow_aload_n 0 rfl d_Fs_signsIn_21 ?_
      refine ow_iload_n 3 rfl d_Fs_signsIn_22 ?_
      refine ow_callV (b := 0) (cq := 11) (As := [.int p3]) (rest := []) (d2 := d) d_Fs_signsIn_23 l_Fs_255 v_Fs_lookAhead (show 0 < 85 by decide) rfl (by decide) rfl (Nat.le_of_ble_eq_true rfl) (Nat.le_refl _) ⟨Nat.le_refl _, Nat.le_refl _⟩ (ow_mono T ?_)
      rintro r h' ⟨I7, J7, R7, rfl, rfl, hR7, T⟩
      show ow_AW ow_Y0 (ow_Z Q) M_Fs_signsIn (d + 1) 0 0 26 [(0, .ref 0), (1, .int p1), (2, .int p2), (3, .int p3)] [] (85, I7, J7, R7) 0 0
      refine ow_aload_n 0 rfl d_Fs_signsIn_26 ?_
      refine ow_gR (a := 37) 157 d_Fs_signsIn_27 rfl rfl (by decide) rfl ⟨rfl, hR7 0 6 (by decide)⟩ ?_
      refine ow_aload_n 0 rfl d_Fs_signsIn_30 ?_
      refine ow_gR (a := 33) 156 d_Fs_signsIn_31 rfl rfl (by decide) rfl ⟨rfl, hR7 0 5 (by decide)⟩ ?_
      refine ow_iload_n 1 rfl d_Fs_signsIn_34 ?_
      refine ow_iload_n 2 rfl d_Fs_signsIn_35 ?_
      refine ow_callV (b := 37) (cq := 0) (As := [.ref 33, .int p1, .int p2]) (rest := []) (d2 := d) d_Fs_signsIn_36 l_Fs_189 v_Course_run (show 37 < 85 by decide) rfl (by decide) rfl (Nat.le_of_ble_eq_true rfl) (Nat.le_refl _) ⟨Nat.le_refl _, Nat.le_refl _⟩ (ow_mono T ?_)
      rintro r h' ⟨I8, J8, R8, rfl, rfl, hR8, T⟩
      show ow_AW ow_Y0 (ow_Z Q) M_Fs_signsIn (d + 1) 0 0 39 [(0, .ref 0), (1, .int p1), (2, .int p2), (3, .int p3)] [] (85, I8, J8, R8) 0 0
      refine ow_aload_n 0 rfl d_Fs_signsIn_39 ?_
      refine ow_gR (a := 37) 157 d_Fs_signsIn_40 rfl rfl (by decide) rfl ⟨rfl, hR8 0 6 (by decide)⟩ ?_
      refine ow_gI 101 d_Fs_signsIn_43 rfl rfl (by decide) rfl (Or.inl rfl) ?_
      exact ow_iret d_Fs_signsIn_46 rfl T
    · replace T := T.2 c
      refine ow_iconst (v := (-1)) (by decide) d_Fs_signsIn_19 ?_
      exact ow_iret d_Fs_signsIn_20 rfl T
set_option maxRecDepth 4000 in
theorem t_Fs_servedIn {d : Nat} {I : Nat → Nat → Int32} {J : Nat → Nat → Int64} {R : Nat → Nat → Option Nat} {Q : Option Value → ow_H → Prop} {p1 : Int32}  (hR : ow_RF R) (T : (ow_AM M_Fs_lacksShire d [.ref 0] (85, I, J, R) (fun r h' => ∃ (r5 : Int32) (I5 : Nat → Nat → Int32) (J5 : Nat → Nat → Int64) (R5 : Nat → Nat → Option Nat), r = some (.int r5) ∧ h' = (85, I5, J5, R5) ∧ ow_RF R5 ∧ ((¬ r5 = 0 → Q (some (.int (-1))) (85, I5, J5, R5)) ∧ (r5 = 0 → (ow_AM M_Fs_isOutside d [.ref 0, .int p1, .int 0, .int 60] (85, I5, J5, R5) (fun r h' => ∃ (r6 : Int32) (I6 : Nat → Nat → Int32) (J6 : Nat → Nat → Int64) (R6 : Nat → Nat → Option Nat), r = some (.int r6) ∧ h' = (85, I6, J6, R6) ∧ ow_RF R6 ∧ ((r6 = 0 → (ow_AM M_Fs_lookAhead d [.ref 0, .int p1] (85, I6, J6, R6) (fun r h' => ∃ (I7 : Nat → Nat → Int32) (J7 : Nat → Nat → Int64) (R7 : Nat → Nat → Option Nat), r = none ∧ h' = (85, I7, J7, R7) ∧ ow_RF R7 ∧ (ow_AM M_Serving_bitsServed d [.ref 39, .ref 33] (85, I7, J7, R7) (fun r h' => ∃ (r8 : Int32) (I8 : Nat → Nat → Int32) (J8 : Nat → Nat → Int64) (R8 : Nat → Nat → Option Nat), r = some (.int r8) ∧ h' = (85, I8, J8, R8) ∧ ow_RF R8 ∧ Q (some (.int r8)) (85, I8, J8, R8)))))) ∧ (¬ r6 = 0 → Q (some (.int (-1))) (85, I6, J6, R6)))))))))) : ow_AM M_Fs_servedIn (d + 1) [.ref 0, .int p1] (85, I, J, R) Q := by
  refine ow_enter (by decide) (Nat.le_of_ble_eq_true rfl) ?_
  show ow_AW ow_Y0 (ow_Z Q) M_Fs_servedIn (d + 1) 0 0 0 [(0, .ref 0), (1, .int p1)] [] (85, I, J, R) 0 0
  refine ow_aload_n 0 rfl d_Fs_servedIn_0 ?_
  refine ow_callV (b := 0) (cq := 11) (As := []) (rest := []) (d2 := d) d_Fs_servedIn_1 l_Fs_208 v_Fs_lacksShire (show 0 < 85 by decide) rfl (by decide) rfl (Nat.le_of_ble_eq_true rfl) (Nat.le_refl _) ⟨Nat.le_refl _, Nat.le_refl _⟩ (ow_mono T ?_)
  rintro r h' ⟨r5, I5, J5, R5, rfl, rfl, hR5, T⟩
  show ow_AW ow_Y0 (ow_Z Q) M_Fs_servedIn (d + 1) 0 0 4 [(0, .ref 0), (1, .int p1)] [.int r5] (85, I5, J5, R5) 0 0
  refine ow_if_ne (tgt := 18) d_Fs_servedIn_4 (by decide) (fun c => ?_) (fun c => ?_)
  · replace T := T.1 c
    refine ow_iconst (v := (-1)) (by decide) d_Fs_servedIn_18 ?_
    exact ow_iret d_Fs_servedIn_19 rfl T
  · replace T := T.2 c
    refine ow_aload_n 0 rfl d_Fs_servedIn_7 ?_
    refine ow_iload_n 1 rfl d_Fs_servedIn_8 ?_
    refine ow_iconst (v := 0) (by decide) d_Fs_servedIn_9 ?_
    refine ow_bipush (v := 60) (by decide) d_Fs_servedIn_10 ?_
    refine ow_callV (b := 0) (cq := 11) (As := [.int p1, .int 0, .int 60]) (rest := []) (d2 := d) d_Fs_servedIn_12 l_Fs_251 v_Fs_isOutside (show 0 < 85 by decide) rfl (by decide) rfl (Nat.le_of_ble_eq_true rfl) (Nat.le_refl _) ⟨Nat.le_refl _, Nat.le_refl _⟩ (ow_mono T ?_)
    rintro r h' ⟨r6, I6, J6, R6, rfl, rfl, hR6, T⟩
    show ow_AW ow_Y0 (ow_Z Q) M_Fs_servedIn (d + 1) 0 0 15 [(0, .ref 0), (1, .int p1)] [.int r6] (85, I6, J6, R6) 0 0
    refine ow_if_eq (tgt := 20) d_Fs_servedIn_15 (by decide) (fun c => ?_) (fun c => ?_)
    · replace T := T.1 c
      refine ow_aload_n 0 rfl d_Fs_servedIn_20 ?_
      refine ow_iload_n 1 rfl d_Fs_servedIn_21 ?_
      refine ow_callV (b := 0) (cq := 11) (As := [.int p1]) (rest := []) (d2 := d) d_Fs_servedIn_22 l_Fs_255 v_Fs_lookAhead (show 0 < 85 by decide) rfl (by decide) rfl (Nat.le_of_ble_eq_true rfl) (Nat.le_refl _) ⟨Nat.le_refl _, Nat.le_refl _⟩ (ow_mono T ?_)
      rintro r h' ⟨I7, J7, R7, rfl, rfl, hR7, T⟩
      show ow_AW ow_Y0 (ow_Z Q) M_Fs_servedIn (d + 1) 0 0 25 [(0, .ref 0), (1, .int p1)] [] (85, I7, J7, R7) 0 0
      refine ow_aload_n 0 rfl d_Fs_servedIn_25 ?_
      refine ow_gR (a := 39) 158 d_Fs_servedIn_26 rfl rfl (by decide) rfl ⟨rfl, hR7 0 7 (by decide)⟩ ?_
      refine ow_aload_n 0 rfl d_Fs_servedIn_29 ?_
      refine ow_gR (a := 33) 156 d_Fs_servedIn_30 rfl rfl (by decide) rfl ⟨rfl, hR7 0 5 (by decide)⟩ ?_
      refine ow_callV (b := 39) (cq := 5) (As := [.ref 33]) (rest := []) (d2 := d) d_Fs_servedIn_33 l_Fs_182 v_Serving_bitsServed (show 39 < 85 by decide) rfl (by decide) rfl (Nat.le_of_ble_eq_true rfl) (Nat.le_refl _) ⟨Nat.le_refl _, Nat.le_refl _⟩ (ow_mono T ?_)
      rintro r h' ⟨r8, I8, J8, R8, rfl, rfl, hR8, T⟩
      show ow_AW ow_Y0 (ow_Z Q) M_Fs_servedIn (d + 1) 0 0 36 [(0, .ref 0), (1, .int p1)] [.int r8] (85, I8, J8, R8) 0 0
      exact ow_iret d_Fs_servedIn_36 rfl T
    · replace T := T.2 c
      refine ow_iconst (v := (-1)) (by decide) d_Fs_servedIn_18 ?_
      exact ow_iret d_Fs_servedIn_19 rfl T
set_option maxRecDepth 4000 in
theorem t_Fs_firstServed_12 {d : Nat} {I : Nat → Nat → Int32} {J : Nat → Nat → Int64} {R : Nat → Nat → Option Nat} {Q : Option Value → ow_H → Prop}  {v1 : Int32} {v2 : Int32}  (hR : ow_RF R) (T : ((60 < v2 → Q (some (.int (-2))) (85, I, J, R)) ∧ (¬ 60 < v2 → (ow_AM M_Fs_isServedIn d [.ref 0, .int v1, .int v2] (85, I, J, R) (fun r h' => ∃ (r2 : Int32) (I2 : Nat → Nat → Int32) (J2 : Nat → Nat → Int64) (R2 : Nat → Nat → Option Nat), r = some (.int r2) ∧ h' = (85, I2, J2, R2) ∧ ow_RF R2 ∧ ((r2 = 0 → ow_AW ow_Y0 (ow_Z Q) M_Fs_firstServed (d + 1) 0 0 12 [(0, .ref 0), (1, .int v1), (2, .int (v2 + 1))] [] (85, I2, J2, R2) 0 0) ∧ (¬ r2 = 0 → Q (some (.int v2)) (85, I2, J2, R2)))))))) : ow_AW ow_Y0 (ow_Z Q) M_Fs_firstServed (d + 1) 0 0 12 [(0, .ref 0), (1, .int v1), (2, .int v2)] [] (85, I, J, R) 0 0 := by
  refine ow_iload_n 2 rfl d_Fs_firstServed_12 ?_
  refine ow_bipush (v := 60) (by decide) d_Fs_firstServed_13 ?_
  refine ow_icmp_gt (tgt := 35) d_Fs_firstServed_15 (by decide) (fun c => ?_) (fun c => ?_)
  · replace T := T.1 c
    refine ow_bipush (v := (-2)) (by decide) d_Fs_firstServed_35 ?_
    exact ow_iret d_Fs_firstServed_37 rfl T
  · replace T := T.2 c
    refine ow_aload_n 0 rfl d_Fs_firstServed_18 ?_
    refine ow_iload_n 1 rfl d_Fs_firstServed_19 ?_
    refine ow_iload_n 2 rfl d_Fs_firstServed_20 ?_
    refine ow_callV (b := 0) (cq := 11) (As := [.int v1, .int v2]) (rest := []) (d2 := d) d_Fs_firstServed_21 l_Fs_258 v_Fs_isServedIn (show 0 < 85 by decide) rfl (by decide) rfl (Nat.le_of_ble_eq_true rfl) (Nat.le_refl _) ⟨Nat.le_refl _, Nat.le_refl _⟩ (ow_mono T ?_)
    rintro r h' ⟨r2, I2, J2, R2, rfl, rfl, hR2, T⟩
    show ow_AW ow_Y0 (ow_Z Q) M_Fs_firstServed (d + 1) 0 0 24 [(0, .ref 0), (1, .int v1), (2, .int v2)] [.int r2] (85, I2, J2, R2) 0 0
    refine ow_if_eq (tgt := 29) d_Fs_firstServed_24 (by decide) (fun c => ?_) (fun c => ?_)
    · replace T := T.1 c
      refine ow_iinc 2 (v := (v2 + 1)) (ls2 := [(2, .int (v2 + 1)), (0, .ref 0), (1, .int v1)]) d_Fs_firstServed_29 rfl rfl (by decide) rfl ?_
      refine ow_goto (tgt := 12) d_Fs_firstServed_32 (by decide) ?_
      refine ow_sub [1, 2, 0] rfl ?_
      exact T
    · replace T := T.2 c
      refine ow_iload_n 2 rfl d_Fs_firstServed_27 ?_
      exact ow_iret d_Fs_firstServed_28 rfl T
set_option maxRecDepth 4000 in
theorem t_Fs_firstServed {d : Nat} {I : Nat → Nat → Int32} {J : Nat → Nat → Int64} {R : Nat → Nat → Option Nat} {Q : Option Value → ow_H → Prop} {p1 : Int32}  (hR : ow_RF R) (T : (ow_AM M_Fs_lacksEstate d [.ref 0, .int p1] (85, I, J, R) (fun r h' => ∃ (r3 : Int32) (I3 : Nat → Nat → Int32) (J3 : Nat → Nat → Int64) (R3 : Nat → Nat → Option Nat), r = some (.int r3) ∧ h' = (85, I3, J3, R3) ∧ ow_RF R3 ∧ ((r3 = 0 → ow_AW ow_Y0 (ow_Z Q) M_Fs_firstServed (d + 1) 0 0 12 [(0, .ref 0), (1, .int p1), (2, .int 0)] [] (85, I3, J3, R3) 0 0) ∧ (¬ r3 = 0 → Q (some (.int (-1))) (85, I3, J3, R3)))))) : ow_AM M_Fs_firstServed (d + 1) [.ref 0, .int p1] (85, I, J, R) Q := by
  refine ow_enter (by decide) (Nat.le_of_ble_eq_true rfl) ?_
  show ow_AW ow_Y0 (ow_Z Q) M_Fs_firstServed (d + 1) 0 0 0 [(0, .ref 0), (1, .int p1)] [] (85, I, J, R) 0 0
  refine ow_aload_n 0 rfl d_Fs_firstServed_0 ?_
  refine ow_iload_n 1 rfl d_Fs_firstServed_1 ?_
  refine ow_callV (b := 0) (cq := 11) (As := [.int p1]) (rest := []) (d2 := d) d_Fs_firstServed_2 l_Fs_173 v_Fs_lacksEstate (show 0 < 85 by decide) rfl (by decide) rfl (Nat.le_of_ble_eq_true rfl) (Nat.le_refl _) ⟨Nat.le_refl _, Nat.le_refl _⟩ (ow_mono T ?_)
  rintro r h' ⟨r3, I3, J3, R3, rfl, rfl, hR3, T⟩
  show ow_AW ow_Y0 (ow_Z Q) M_Fs_firstServed (d + 1) 0 0 5 [(0, .ref 0), (1, .int p1)] [.int r3] (85, I3, J3, R3) 0 0
  refine ow_if_eq (tgt := 10) d_Fs_firstServed_5 (by decide) (fun c => ?_) (fun c => ?_)
  · replace T := T.1 c
    refine ow_iconst (v := 0) (by decide) d_Fs_firstServed_10 ?_
    refine ow_istore_n (ls2 := [(2, .int 0), (0, .ref 0), (1, .int p1)]) d_Fs_firstServed_11 (by decide) rfl ?_
    refine ow_sub [1, 2, 0] rfl ?_
    exact T
  · replace T := T.2 c
    refine ow_iconst (v := (-1)) (by decide) d_Fs_firstServed_8 ?_
    exact ow_iret d_Fs_firstServed_9 rfl T
set_option maxRecDepth 4000 in
theorem t_Fs_lastServed_13 {d : Nat} {I : Nat → Nat → Int32} {J : Nat → Nat → Int64} {R : Nat → Nat → Option Nat} {Q : Option Value → ow_H → Prop}  {v1 : Int32} {v2 : Int32}  (hR : ow_RF R) (T : ((v2 < 0 → Q (some (.int (-2))) (85, I, J, R)) ∧ (¬ v2 < 0 → (ow_AM M_Fs_isServedIn d [.ref 0, .int v1, .int v2] (85, I, J, R) (fun r h' => ∃ (r2 : Int32) (I2 : Nat → Nat → Int32) (J2 : Nat → Nat → Int64) (R2 : Nat → Nat → Option Nat), r = some (.int r2) ∧ h' = (85, I2, J2, R2) ∧ ow_RF R2 ∧ ((r2 = 0 → ow_AW ow_Y0 (ow_Z Q) M_Fs_lastServed (d + 1) 0 0 13 [(0, .ref 0), (1, .int v1), (2, .int (v2 + (-1)))] [] (85, I2, J2, R2) 0 0) ∧ (¬ r2 = 0 → Q (some (.int v2)) (85, I2, J2, R2)))))))) : ow_AW ow_Y0 (ow_Z Q) M_Fs_lastServed (d + 1) 0 0 13 [(0, .ref 0), (1, .int v1), (2, .int v2)] [] (85, I, J, R) 0 0 := by
  refine ow_iload_n 2 rfl d_Fs_lastServed_13 ?_
  refine ow_if_lt (tgt := 34) d_Fs_lastServed_14 (by decide) (fun c => ?_) (fun c => ?_)
  · replace T := T.1 c
    refine ow_bipush (v := (-2)) (by decide) d_Fs_lastServed_34 ?_
    exact ow_iret d_Fs_lastServed_36 rfl T
  · replace T := T.2 c
    refine ow_aload_n 0 rfl d_Fs_lastServed_17 ?_
    refine ow_iload_n 1 rfl d_Fs_lastServed_18 ?_
    refine ow_iload_n 2 rfl d_Fs_lastServed_19 ?_
    refine ow_callV (b := 0) (cq := 11) (As := [.int v1, .int v2]) (rest := []) (d2 := d) d_Fs_lastServed_20 l_Fs_258 v_Fs_isServedIn (show 0 < 85 by decide) rfl (by decide) rfl (Nat.le_of_ble_eq_true rfl) (Nat.le_refl _) ⟨Nat.le_refl _, Nat.le_refl _⟩ (ow_mono T ?_)
    rintro r h' ⟨r2, I2, J2, R2, rfl, rfl, hR2, T⟩
    show ow_AW ow_Y0 (ow_Z Q) M_Fs_lastServed (d + 1) 0 0 23 [(0, .ref 0), (1, .int v1), (2, .int v2)] [.int r2] (85, I2, J2, R2) 0 0
    refine ow_if_eq (tgt := 28) d_Fs_lastServed_23 (by decide) (fun c => ?_) (fun c => ?_)
    · replace T := T.1 c
      refine ow_iinc 2 (v := (v2 + (-1))) (ls2 := [(2, .int (v2 + (-1))), (0, .ref 0), (1, .int v1)]) d_Fs_lastServed_28 rfl rfl (by decide) rfl ?_
      refine ow_goto (tgt := 13) d_Fs_lastServed_31 (by decide) ?_
      refine ow_sub [1, 2, 0] rfl ?_
      exact T
    · replace T := T.2 c
      refine ow_iload_n 2 rfl d_Fs_lastServed_26 ?_
      exact ow_iret d_Fs_lastServed_27 rfl T
set_option maxRecDepth 4000 in
theorem t_Fs_lastServed {d : Nat} {I : Nat → Nat → Int32} {J : Nat → Nat → Int64} {R : Nat → Nat → Option Nat} {Q : Option Value → ow_H → Prop} {p1 : Int32}  (hR : ow_RF R) (T : (ow_AM M_Fs_lacksEstate d [.ref 0, .int p1] (85, I, J, R) (fun r h' => ∃ (r3 : Int32) (I3 : Nat → Nat → Int32) (J3 : Nat → Nat → Int64) (R3 : Nat → Nat → Option Nat), r = some (.int r3) ∧ h' = (85, I3, J3, R3) ∧ ow_RF R3 ∧ ((r3 = 0 → ow_AW ow_Y0 (ow_Z Q) M_Fs_lastServed (d + 1) 0 0 13 [(0, .ref 0), (1, .int p1), (2, .int 60)] [] (85, I3, J3, R3) 0 0) ∧ (¬ r3 = 0 → Q (some (.int (-1))) (85, I3, J3, R3)))))) : ow_AM M_Fs_lastServed (d + 1) [.ref 0, .int p1] (85, I, J, R) Q := by
  refine ow_enter (by decide) (Nat.le_of_ble_eq_true rfl) ?_
  show ow_AW ow_Y0 (ow_Z Q) M_Fs_lastServed (d + 1) 0 0 0 [(0, .ref 0), (1, .int p1)] [] (85, I, J, R) 0 0
  refine ow_aload_n 0 rfl d_Fs_lastServed_0 ?_
  refine ow_iload_n 1 rfl d_Fs_lastServed_1 ?_
  refine ow_callV (b := 0) (cq := 11) (As := [.int p1]) (rest := []) (d2 := d) d_Fs_lastServed_2 l_Fs_173 v_Fs_lacksEstate (show 0 < 85 by decide) rfl (by decide) rfl (Nat.le_of_ble_eq_true rfl) (Nat.le_refl _) ⟨Nat.le_refl _, Nat.le_refl _⟩ (ow_mono T ?_)
  rintro r h' ⟨r3, I3, J3, R3, rfl, rfl, hR3, T⟩
  show ow_AW ow_Y0 (ow_Z Q) M_Fs_lastServed (d + 1) 0 0 5 [(0, .ref 0), (1, .int p1)] [.int r3] (85, I3, J3, R3) 0 0
  refine ow_if_eq (tgt := 10) d_Fs_lastServed_5 (by decide) (fun c => ?_) (fun c => ?_)
  · replace T := T.1 c
    refine ow_bipush (v := 60) (by decide) d_Fs_lastServed_10 ?_
    refine ow_istore_n (ls2 := [(2, .int 60), (0, .ref 0), (1, .int p1)]) d_Fs_lastServed_12 (by decide) rfl ?_
    refine ow_sub [1, 2, 0] rfl ?_
    exact T
  · replace T := T.2 c
    refine ow_iconst (v := (-1)) (by decide) d_Fs_lastServed_8 ?_
    exact ow_iret d_Fs_lastServed_9 rfl T
set_option maxRecDepth 4000 in
theorem t_Fs_plan {d : Nat} {I : Nat → Nat → Int32} {J : Nat → Nat → Int64} {R : Nat → Nat → Option Nat} {Q : Option Value → ow_H → Prop} {p1 : Int32}  (hR : ow_RF R) (T : (ow_AM M_Fs_lacksShire d [.ref 0] (85, I, J, R) (fun r h' => ∃ (r4 : Int32) (I4 : Nat → Nat → Int32) (J4 : Nat → Nat → Int64) (R4 : Nat → Nat → Option Nat), r = some (.int r4) ∧ h' = (85, I4, J4, R4) ∧ ow_RF R4 ∧ ((¬ r4 = 0 → Q (some (.int (-1))) (85, I4, J4, R4)) ∧ (r4 = 0 → (ow_AM M_Fs_isOutside d [.ref 0, .int p1, .int 1, .int 4] (85, I4, J4, R4) (fun r h' => ∃ (r5 : Int32) (I5 : Nat → Nat → Int32) (J5 : Nat → Nat → Int64) (R5 : Nat → Nat → Option Nat), r = some (.int r5) ∧ h' = (85, I5, J5, R5) ∧ ow_RF R5 ∧ ((r5 = 0 → (ow_AM M_Planner_search d [.ref 46, .ref 29, .int p1] (85, I5, J5, R5) (fun r h' => ∃ (I6 : Nat → Nat → Int32) (J6 : Nat → Nat → Int64) (R6 : Nat → Nat → Option Nat), r = none ∧ h' = (85, I6, J6, R6) ∧ ow_RF R6 ∧ Q (some (.int (I6 46 7))) (85, I6, J6, R6)))) ∧ (¬ r5 = 0 → Q (some (.int (-1))) (85, I5, J5, R5)))))))))) : ow_AM M_Fs_plan (d + 1) [.ref 0, .int p1] (85, I, J, R) Q := by
  refine ow_enter (by decide) (Nat.le_of_ble_eq_true rfl) ?_
  show ow_AW ow_Y0 (ow_Z Q) M_Fs_plan (d + 1) 0 0 0 [(0, .ref 0), (1, .int p1)] [] (85, I, J, R) 0 0
  refine ow_aload_n 0 rfl d_Fs_plan_0 ?_
  refine ow_callV (b := 0) (cq := 11) (As := []) (rest := []) (d2 := d) d_Fs_plan_1 l_Fs_208 v_Fs_lacksShire (show 0 < 85 by decide) rfl (by decide) rfl (Nat.le_of_ble_eq_true rfl) (Nat.le_refl _) ⟨Nat.le_refl _, Nat.le_refl _⟩ (ow_mono T ?_)
  rintro r h' ⟨r4, I4, J4, R4, rfl, rfl, hR4, T⟩
  show ow_AW ow_Y0 (ow_Z Q) M_Fs_plan (d + 1) 0 0 4 [(0, .ref 0), (1, .int p1)] [.int r4] (85, I4, J4, R4) 0 0
  refine ow_if_ne (tgt := 17) d_Fs_plan_4 (by decide) (fun c => ?_) (fun c => ?_)
  · replace T := T.1 c
    refine ow_iconst (v := (-1)) (by decide) d_Fs_plan_17 ?_
    exact ow_iret d_Fs_plan_18 rfl T
  · replace T := T.2 c
    refine ow_aload_n 0 rfl d_Fs_plan_7 ?_
    refine ow_iload_n 1 rfl d_Fs_plan_8 ?_
    refine ow_iconst (v := 1) (by decide) d_Fs_plan_9 ?_
    refine ow_iconst (v := 4) (by decide) d_Fs_plan_10 ?_
    refine ow_callV (b := 0) (cq := 11) (As := [.int p1, .int 1, .int 4]) (rest := []) (d2 := d) d_Fs_plan_11 l_Fs_251 v_Fs_isOutside (show 0 < 85 by decide) rfl (by decide) rfl (Nat.le_of_ble_eq_true rfl) (Nat.le_refl _) ⟨Nat.le_refl _, Nat.le_refl _⟩ (ow_mono T ?_)
    rintro r h' ⟨r5, I5, J5, R5, rfl, rfl, hR5, T⟩
    show ow_AW ow_Y0 (ow_Z Q) M_Fs_plan (d + 1) 0 0 14 [(0, .ref 0), (1, .int p1)] [.int r5] (85, I5, J5, R5) 0 0
    refine ow_if_eq (tgt := 19) d_Fs_plan_14 (by decide) (fun c => ?_) (fun c => ?_)
    · replace T := T.1 c
      refine ow_aload_n 0 rfl d_Fs_plan_19 ?_
      refine ow_gR (a := 46) 159 d_Fs_plan_20 rfl rfl (by decide) rfl ⟨rfl, hR5 0 8 (by decide)⟩ ?_
      refine ow_aload_n 0 rfl d_Fs_plan_23 ?_
      refine ow_gR (a := 29) 155 d_Fs_plan_24 rfl rfl (by decide) rfl ⟨rfl, hR5 0 4 (by decide)⟩ ?_
      refine ow_iload_n 1 rfl d_Fs_plan_27 ?_
      refine ow_callV (b := 46) (cq := 2) (As := [.ref 29, .int p1]) (rest := []) (d2 := d) d_Fs_plan_28 l_Fs_262 v_Planner_search (show 46 < 85 by decide) rfl (by decide) rfl (Nat.le_of_ble_eq_true rfl) (Nat.le_refl _) ⟨Nat.le_refl _, Nat.le_refl _⟩ (ow_mono T ?_)
      rintro r h' ⟨I6, J6, R6, rfl, rfl, hR6, T⟩
      show ow_AW ow_Y0 (ow_Z Q) M_Fs_plan (d + 1) 0 0 31 [(0, .ref 0), (1, .int p1)] [] (85, I6, J6, R6) 0 0
      refine ow_aload_n 0 rfl d_Fs_plan_31 ?_
      refine ow_gR (a := 46) 159 d_Fs_plan_32 rfl rfl (by decide) rfl ⟨rfl, hR6 0 8 (by decide)⟩ ?_
      refine ow_gI 122 d_Fs_plan_35 rfl rfl (by decide) rfl (Or.inl rfl) ?_
      exact ow_iret d_Fs_plan_38 rfl T
    · replace T := T.2 c
      refine ow_iconst (v := (-1)) (by decide) d_Fs_plan_17 ?_
      exact ow_iret d_Fs_plan_18 rfl T
set_option maxRecDepth 4000 in
theorem t_Fs_planServes {d : Nat} {I : Nat → Nat → Int32} {J : Nat → Nat → Int64} {R : Nat → Nat → Option Nat} {Q : Option Value → ow_H → Prop} {p1 : Int32}  (hR : ow_RF R) (T : (ow_AM M_Fs_lacksShire d [.ref 0] (85, I, J, R) (fun r h' => ∃ (r4 : Int32) (I4 : Nat → Nat → Int32) (J4 : Nat → Nat → Int64) (R4 : Nat → Nat → Option Nat), r = some (.int r4) ∧ h' = (85, I4, J4, R4) ∧ ow_RF R4 ∧ ((¬ r4 = 0 → Q (some (.int (-1))) (85, I4, J4, R4)) ∧ (r4 = 0 → (ow_AM M_Fs_isOutside d [.ref 0, .int p1, .int 1, .int 4] (85, I4, J4, R4) (fun r h' => ∃ (r5 : Int32) (I5 : Nat → Nat → Int32) (J5 : Nat → Nat → Int64) (R5 : Nat → Nat → Option Nat), r = some (.int r5) ∧ h' = (85, I5, J5, R5) ∧ ow_RF R5 ∧ ((r5 = 0 → (ow_AM M_Planner_search d [.ref 46, .ref 29, .int p1] (85, I5, J5, R5) (fun r h' => ∃ (I6 : Nat → Nat → Int32) (J6 : Nat → Nat → Int64) (R6 : Nat → Nat → Option Nat), r = none ∧ h' = (85, I6, J6, R6) ∧ ow_RF R6 ∧ Q (some (.int (I6 46 8))) (85, I6, J6, R6)))) ∧ (¬ r5 = 0 → Q (some (.int (-1))) (85, I5, J5, R5)))))))))) : ow_AM M_Fs_planServes (d + 1) [.ref 0, .int p1] (85, I, J, R) Q := by
  refine ow_enter (by decide) (Nat.le_of_ble_eq_true rfl) ?_
  show ow_AW ow_Y0 (ow_Z Q) M_Fs_planServes (d + 1) 0 0 0 [(0, .ref 0), (1, .int p1)] [] (85, I, J, R) 0 0
  refine ow_aload_n 0 rfl d_Fs_planServes_0 ?_
  refine ow_callV (b := 0) (cq := 11) (As := []) (rest := []) (d2 := d) d_Fs_planServes_1 l_Fs_208 v_Fs_lacksShire (show 0 < 85 by decide) rfl (by decide) rfl (Nat.le_of_ble_eq_true rfl) (Nat.le_refl _) ⟨Nat.le_refl _, Nat.le_refl _⟩ (ow_mono T ?_)
  rintro r h' ⟨r4, I4, J4, R4, rfl, rfl, hR4, T⟩
  show ow_AW ow_Y0 (ow_Z Q) M_Fs_planServes (d + 1) 0 0 4 [(0, .ref 0), (1, .int p1)] [.int r4] (85, I4, J4, R4) 0 0
  refine ow_if_ne (tgt := 17) d_Fs_planServes_4 (by decide) (fun c => ?_) (fun c => ?_)
  · replace T := T.1 c
    refine ow_iconst (v := (-1)) (by decide) d_Fs_planServes_17 ?_
    exact ow_iret d_Fs_planServes_18 rfl T
  · replace T := T.2 c
    refine ow_aload_n 0 rfl d_Fs_planServes_7 ?_
    refine ow_iload_n 1 rfl d_Fs_planServes_8 ?_
    refine ow_iconst (v := 1) (by decide) d_Fs_planServes_9 ?_
    refine ow_iconst (v := 4) (by decide) d_Fs_planServes_10 ?_
    refine ow_callV (b := 0) (cq := 11) (As := [.int p1, .int 1, .int 4]) (rest := []) (d2 := d) d_Fs_planServes_11 l_Fs_251 v_Fs_isOutside (show 0 < 85 by decide) rfl (by decide) rfl (Nat.le_of_ble_eq_true rfl) (Nat.le_refl _) ⟨Nat.le_refl _, Nat.le_refl _⟩ (ow_mono T ?_)
    rintro r h' ⟨r5, I5, J5, R5, rfl, rfl, hR5, T⟩
    show ow_AW ow_Y0 (ow_Z Q) M_Fs_planServes (d + 1) 0 0 14 [(0, .ref 0), (1, .int p1)] [.int r5] (85, I5, J5, R5) 0 0
    refine ow_if_eq (tgt := 19) d_Fs_planServes_14 (by decide) (fun c => ?_) (fun c => ?_)
    · replace T := T.1 c
      refine ow_aload_n 0 rfl d_Fs_planServes_19 ?_
      refine ow_gR (a := 46) 159 d_Fs_planServes_20 rfl rfl (by decide) rfl ⟨rfl, hR5 0 8 (by decide)⟩ ?_
      refine ow_aload_n 0 rfl d_Fs_planServes_23 ?_
      refine ow_gR (a := 29) 155 d_Fs_planServes_24 rfl rfl (by decide) rfl ⟨rfl, hR5 0 4 (by decide)⟩ ?_
      refine ow_iload_n 1 rfl d_Fs_planServes_27 ?_
      refine ow_callV (b := 46) (cq := 2) (As := [.ref 29, .int p1]) (rest := []) (d2 := d) d_Fs_planServes_28 l_Fs_262 v_Planner_search (show 46 < 85 by decide) rfl (by decide) rfl (Nat.le_of_ble_eq_true rfl) (Nat.le_refl _) ⟨Nat.le_refl _, Nat.le_refl _⟩ (ow_mono T ?_)
      rintro r h' ⟨I6, J6, R6, rfl, rfl, hR6, T⟩
      show ow_AW ow_Y0 (ow_Z Q) M_Fs_planServes (d + 1) 0 0 31 [(0, .ref 0), (1, .int p1)] [] (85, I6, J6, R6) 0 0
      refine ow_aload_n 0 rfl d_Fs_planServes_31 ?_
      refine ow_gR (a := 46) 159 d_Fs_planServes_32 rfl rfl (by decide) rfl ⟨rfl, hR6 0 8 (by decide)⟩ ?_
      refine ow_gI 124 d_Fs_planServes_35 rfl rfl (by decide) rfl (Or.inl rfl) ?_
      exact ow_iret d_Fs_planServes_38 rfl T
    · replace T := T.2 c
      refine ow_iconst (v := (-1)) (by decide) d_Fs_planServes_17 ?_
      exact ow_iret d_Fs_planServes_18 rfl T
set_option maxRecDepth 4000 in
theorem t_Fs_keep {d : Nat} {I : Nat → Nat → Int32} {J : Nat → Nat → Int64} {R : Nat → Nat → Option Nat} {Q : Option Value → ow_H → Prop}   (hR : ow_RF R) (T : (ow_AM M_Fs_lacksShire d [.ref 0] (85, I, J, R) (fun r h' => ∃ (r3 : Int32) (I3 : Nat → Nat → Int32) (J3 : Nat → Nat → Int64) (R3 : Nat → Nat → Option Nat), r = some (.int r3) ∧ h' = (85, I3, J3, R3) ∧ ow_RF R3 ∧ ((r3 = 0 → (ow_AM M_Serving_fewestKept d [.ref 39, .ref 29] (85, I3, J3, R3) (fun r h' => ∃ (r4 : Int32) (I4 : Nat → Nat → Int32) (J4 : Nat → Nat → Int64) (R4 : Nat → Nat → Option Nat), r = some (.int r4) ∧ h' = (85, I4, J4, R4) ∧ ow_RF R4 ∧ Q (some (.int r4)) (85, I4, J4, R4)))) ∧ (¬ r3 = 0 → Q (some (.int (-1))) (85, I3, J3, R3)))))) : ow_AM M_Fs_keep (d + 1) [.ref 0] (85, I, J, R) Q := by
  refine ow_enter (by decide) (Nat.le_of_ble_eq_true rfl) ?_
  show ow_AW ow_Y0 (ow_Z Q) M_Fs_keep (d + 1) 0 0 0 [(0, .ref 0)] [] (85, I, J, R) 0 0
  refine ow_aload_n 0 rfl d_Fs_keep_0 ?_
  refine ow_callV (b := 0) (cq := 11) (As := []) (rest := []) (d2 := d) d_Fs_keep_1 l_Fs_208 v_Fs_lacksShire (show 0 < 85 by decide) rfl (by decide) rfl (Nat.le_of_ble_eq_true rfl) (Nat.le_refl _) ⟨Nat.le_refl _, Nat.le_refl _⟩ (ow_mono T ?_)
  rintro r h' ⟨r3, I3, J3, R3, rfl, rfl, hR3, T⟩
  show ow_AW ow_Y0 (ow_Z Q) M_Fs_keep (d + 1) 0 0 4 [(0, .ref 0)] [.int r3] (85, I3, J3, R3) 0 0
  refine ow_if_eq (tgt := 9) d_Fs_keep_4 (by decide) (fun c => ?_) (fun c => ?_)
  · replace T := T.1 c
    refine ow_aload_n 0 rfl d_Fs_keep_9 ?_
    refine ow_gR (a := 39) 158 d_Fs_keep_10 rfl rfl (by decide) rfl ⟨rfl, hR3 0 7 (by decide)⟩ ?_
    refine ow_aload_n 0 rfl d_Fs_keep_13 ?_
    refine ow_gR (a := 29) 155 d_Fs_keep_14 rfl rfl (by decide) rfl ⟨rfl, hR3 0 4 (by decide)⟩ ?_
    refine ow_callV (b := 39) (cq := 5) (As := [.ref 29]) (rest := []) (d2 := d) d_Fs_keep_17 l_Fs_271 v_Serving_fewestKept (show 39 < 85 by decide) rfl (by decide) rfl (Nat.le_of_ble_eq_true rfl) (Nat.le_refl _) ⟨Nat.le_refl _, Nat.le_refl _⟩ (ow_mono T ?_)
    rintro r h' ⟨r4, I4, J4, R4, rfl, rfl, hR4, T⟩
    show ow_AW ow_Y0 (ow_Z Q) M_Fs_keep (d + 1) 0 0 20 [(0, .ref 0)] [.int r4] (85, I4, J4, R4) 0 0
    exact ow_iret d_Fs_keep_20 rfl T
  · replace T := T.2 c
    refine ow_iconst (v := (-1)) (by decide) d_Fs_keep_7 ?_
    exact ow_iret d_Fs_keep_8 rfl T
set_option maxRecDepth 4000 in
theorem t_Fs_pillar {d : Nat} {I : Nat → Nat → Int32} {J : Nat → Nat → Int64} {R : Nat → Nat → Option Nat} {Q : Option Value → ow_H → Prop}   (hR : ow_RF R) (T : (ow_AM M_Fs_lacksShire d [.ref 0] (85, I, J, R) (fun r h' => ∃ (r3 : Int32) (I3 : Nat → Nat → Int32) (J3 : Nat → Nat → Int64) (R3 : Nat → Nat → Option Nat), r = some (.int r3) ∧ h' = (85, I3, J3, R3) ∧ ow_RF R3 ∧ ((r3 = 0 → (ow_AM M_Serving_mostNeeded d [.ref 39, .ref 29] (85, I3, J3, R3) (fun r h' => ∃ (r4 : Int32) (I4 : Nat → Nat → Int32) (J4 : Nat → Nat → Int64) (R4 : Nat → Nat → Option Nat), r = some (.int r4) ∧ h' = (85, I4, J4, R4) ∧ ow_RF R4 ∧ Q (some (.int r4)) (85, I4, J4, R4)))) ∧ (¬ r3 = 0 → Q (some (.int (-1))) (85, I3, J3, R3)))))) : ow_AM M_Fs_pillar (d + 1) [.ref 0] (85, I, J, R) Q := by
  refine ow_enter (by decide) (Nat.le_of_ble_eq_true rfl) ?_
  show ow_AW ow_Y0 (ow_Z Q) M_Fs_pillar (d + 1) 0 0 0 [(0, .ref 0)] [] (85, I, J, R) 0 0
  refine ow_aload_n 0 rfl d_Fs_pillar_0 ?_
  refine ow_callV (b := 0) (cq := 11) (As := []) (rest := []) (d2 := d) d_Fs_pillar_1 l_Fs_208 v_Fs_lacksShire (show 0 < 85 by decide) rfl (by decide) rfl (Nat.le_of_ble_eq_true rfl) (Nat.le_refl _) ⟨Nat.le_refl _, Nat.le_refl _⟩ (ow_mono T ?_)
  rintro r h' ⟨r3, I3, J3, R3, rfl, rfl, hR3, T⟩
  show ow_AW ow_Y0 (ow_Z Q) M_Fs_pillar (d + 1) 0 0 4 [(0, .ref 0)] [.int r3] (85, I3, J3, R3) 0 0
  refine ow_if_eq (tgt := 9) d_Fs_pillar_4 (by decide) (fun c => ?_) (fun c => ?_)
  · replace T := T.1 c
    refine ow_aload_n 0 rfl d_Fs_pillar_9 ?_
    refine ow_gR (a := 39) 158 d_Fs_pillar_10 rfl rfl (by decide) rfl ⟨rfl, hR3 0 7 (by decide)⟩ ?_
    refine ow_aload_n 0 rfl d_Fs_pillar_13 ?_
    refine ow_gR (a := 29) 155 d_Fs_pillar_14 rfl rfl (by decide) rfl ⟨rfl, hR3 0 4 (by decide)⟩ ?_
    refine ow_callV (b := 39) (cq := 5) (As := [.ref 29]) (rest := []) (d2 := d) d_Fs_pillar_17 l_Fs_274 v_Serving_mostNeeded (show 39 < 85 by decide) rfl (by decide) rfl (Nat.le_of_ble_eq_true rfl) (Nat.le_refl _) ⟨Nat.le_refl _, Nat.le_refl _⟩ (ow_mono T ?_)
    rintro r h' ⟨r4, I4, J4, R4, rfl, rfl, hR4, T⟩
    show ow_AW ow_Y0 (ow_Z Q) M_Fs_pillar (d + 1) 0 0 20 [(0, .ref 0)] [.int r4] (85, I4, J4, R4) 0 0
    exact ow_iret d_Fs_pillar_20 rfl T
  · replace T := T.2 c
    refine ow_iconst (v := (-1)) (by decide) d_Fs_pillar_7 ?_
    exact ow_iret d_Fs_pillar_8 rfl T
set_option maxRecDepth 4000 in
theorem t_Fs_fits {d : Nat} {I : Nat → Nat → Int32} {J : Nat → Nat → Int64} {R : Nat → Nat → Option Nat} {Q : Option Value → ow_H → Prop}   (hR : ow_RF R) (T : (ow_AM M_Fs_lacksShire d [.ref 0] (85, I, J, R) (fun r h' => ∃ (r2 : Int32) (I2 : Nat → Nat → Int32) (J2 : Nat → Nat → Int64) (R2 : Nat → Nat → Option Nat), r = some (.int r2) ∧ h' = (85, I2, J2, R2) ∧ ow_RF R2 ∧ ((r2 = 0 → Q (some (.int (I2 54 4))) (85, I2, J2, R2)) ∧ (¬ r2 = 0 → Q (some (.int (-1))) (85, I2, J2, R2)))))) : ow_AM M_Fs_fits (d + 1) [.ref 0] (85, I, J, R) Q := by
  refine ow_enter (by decide) (Nat.le_of_ble_eq_true rfl) ?_
  show ow_AW ow_Y0 (ow_Z Q) M_Fs_fits (d + 1) 0 0 0 [(0, .ref 0)] [] (85, I, J, R) 0 0
  refine ow_aload_n 0 rfl d_Fs_fits_0 ?_
  refine ow_callV (b := 0) (cq := 11) (As := []) (rest := []) (d2 := d) d_Fs_fits_1 l_Fs_208 v_Fs_lacksShire (show 0 < 85 by decide) rfl (by decide) rfl (Nat.le_of_ble_eq_true rfl) (Nat.le_refl _) ⟨Nat.le_refl _, Nat.le_refl _⟩ (ow_mono T ?_)
  rintro r h' ⟨r2, I2, J2, R2, rfl, rfl, hR2, T⟩
  show ow_AW ow_Y0 (ow_Z Q) M_Fs_fits (d + 1) 0 0 4 [(0, .ref 0)] [.int r2] (85, I2, J2, R2) 0 0
  refine ow_if_eq (tgt := 9) d_Fs_fits_4 (by decide) (fun c => ?_) (fun c => ?_)
  · replace T := T.1 c
    refine ow_aload_n 0 rfl d_Fs_fits_9 ?_
    refine ow_gR (a := 54) 160 d_Fs_fits_10 rfl rfl (by decide) rfl ⟨rfl, hR2 0 9 (by decide)⟩ ?_
    refine ow_gI 131 d_Fs_fits_13 rfl rfl (by decide) rfl (Or.inl rfl) ?_
    exact ow_iret d_Fs_fits_16 rfl T
  · replace T := T.2 c
    refine ow_iconst (v := (-1)) (by decide) d_Fs_fits_7 ?_
    exact ow_iret d_Fs_fits_8 rfl T
set_option maxRecDepth 4000 in
theorem t_Fs_fitAt {d : Nat} {I : Nat → Nat → Int32} {J : Nat → Nat → Int64} {R : Nat → Nat → Option Nat} {Q : Option Value → ow_H → Prop} {p1 : Int32} {p2 : Int32}  (hR : ow_RF R) (T : (ow_AM M_Fs_lacksShire d [.ref 0] (85, I, J, R) (fun r h' => ∃ (r7 : Int32) (I7 : Nat → Nat → Int32) (J7 : Nat → Nat → Int64) (R7 : Nat → Nat → Option Nat), r = some (.int r7) ∧ h' = (85, I7, J7, R7) ∧ ow_RF R7 ∧ ((r7 = 0 → ((p1 < 0 → (ow_AM M_Fs_refused d [.ref 0, .int 1] (85, I7, J7, R7) (fun r h' => ∃ (r8 : Int32) (I8 : Nat → Nat → Int32) (J8 : Nat → Nat → Int64) (R8 : Nat → Nat → Option Nat), r = some (.int r8) ∧ h' = (85, I8, J8, R8) ∧ ow_RF R8 ∧ Q (some (.int r8)) (85, I8, J8, R8)))) ∧ (¬ p1 < 0 → (((I7 54 4) ≤ p1 → (ow_AM M_Fs_refused d [.ref 0, .int 1] (85, I7, J7, R7) (fun r h' => ∃ (r9 : Int32) (I9 : Nat → Nat → Int32) (J9 : Nat → Nat → Int64) (R9 : Nat → Nat → Option Nat), r = some (.int r9) ∧ h' = (85, I9, J9, R9) ∧ ow_RF R9 ∧ Q (some (.int r9)) (85, I9, J9, R9)))) ∧ (¬ (I7 54 4) ≤ p1 → ((p2 < 0 → (ow_AM M_Fs_refused d [.ref 0, .int 1] (85, I7, J7, R7) (fun r h' => ∃ (r10 : Int32) (I10 : Nat → Nat → Int32) (J10 : Nat → Nat → Int64) (R10 : Nat → Nat → Option Nat), r = some (.int r10) ∧ h' = (85, I10, J10, R10) ∧ ow_RF R10 ∧ Q (some (.int r10)) (85, I10, J10, R10)))) ∧ (¬ p2 < 0 → ((p2 < (I7 2 7) → (vp_in p1 125 ∧ (ow_AM M_Fits_shapeBy d [.ref 54, .int (I7 61 p1.toNatClampNeg), .int p2] (85, I7, J7, R7) (fun r h' => ∃ (r11 : Int32) (I11 : Nat → Nat → Int32) (J11 : Nat → Nat → Int64) (R11 : Nat → Nat → Option Nat), r = some (.int r11) ∧ h' = (85, I11, J11, R11) ∧ ow_RF R11 ∧ Q (some (.int r11)) (85, I11, J11, R11))))) ∧ (¬ p2 < (I7 2 7) → (ow_AM M_Fs_refused d [.ref 0, .int 1] (85, I7, J7, R7) (fun r h' => ∃ (r12 : Int32) (I12 : Nat → Nat → Int32) (J12 : Nat → Nat → Int64) (R12 : Nat → Nat → Option Nat), r = some (.int r12) ∧ h' = (85, I12, J12, R12) ∧ ow_RF R12 ∧ Q (some (.int r12)) (85, I12, J12, R12)))))))))))) ∧ (¬ r7 = 0 → Q (some (.int (-1))) (85, I7, J7, R7)))))) : ow_AM M_Fs_fitAt (d + 1) [.ref 0, .int p1, .int p2] (85, I, J, R) Q := by
  refine ow_enter (by decide) (Nat.le_of_ble_eq_true rfl) ?_
  show ow_AW ow_Y0 (ow_Z Q) M_Fs_fitAt (d + 1) 0 0 0 [(0, .ref 0), (1, .int p1), (2, .int p2)] [] (85, I, J, R) 0 0
  refine ow_aload_n 0 rfl d_Fs_fitAt_0 ?_
  refine ow_callV (b := 0) (cq := 11) (As := []) (rest := []) (d2 := d) d_Fs_fitAt_1 l_Fs_208 v_Fs_lacksShire (show 0 < 85 by decide) rfl (by decide) rfl (Nat.le_of_ble_eq_true rfl) (Nat.le_refl _) ⟨Nat.le_refl _, Nat.le_refl _⟩ (ow_mono T ?_)
  rintro r h' ⟨r7, I7, J7, R7, rfl, rfl, hR7, T⟩
  show ow_AW ow_Y0 (ow_Z Q) M_Fs_fitAt (d + 1) 0 0 4 [(0, .ref 0), (1, .int p1), (2, .int p2)] [.int r7] (85, I7, J7, R7) 0 0
  refine ow_if_eq (tgt := 9) d_Fs_fitAt_4 (by decide) (fun c => ?_) (fun c => ?_)
  · replace T := T.1 c
    refine ow_iload_n 1 rfl d_Fs_fitAt_9 ?_
    refine ow_if_lt (tgt := 39) d_Fs_fitAt_10 (by decide) (fun c => ?_) (fun c => ?_)
    · replace T := T.1 c
      refine ow_aload_n 0 rfl d_Fs_fitAt_39 ?_
      refine ow_iconst (v := 1) (by decide) d_Fs_fitAt_40 ?_
      refine ow_callV (b := 0) (cq := 11) (As := [.int 1]) (rest := []) (d2 := d) d_Fs_fitAt_41 l_Fs_102 v_Fs_refused (show 0 < 85 by decide) rfl (by decide) rfl (Nat.le_of_ble_eq_true rfl) (Nat.le_refl _) ⟨Nat.le_refl _, Nat.le_refl _⟩ (ow_mono T ?_)
      rintro r h' ⟨r8, I8, J8, R8, rfl, rfl, hR8, T⟩
      show ow_AW ow_Y0 (ow_Z Q) M_Fs_fitAt (d + 1) 0 0 44 [(0, .ref 0), (1, .int p1), (2, .int p2)] [.int r8] (85, I8, J8, R8) 0 0
      exact ow_iret d_Fs_fitAt_44 rfl T
    · replace T := T.2 c
      refine ow_iload_n 1 rfl d_Fs_fitAt_13 ?_
      refine ow_aload_n 0 rfl d_Fs_fitAt_14 ?_
      refine ow_gR (a := 54) 160 d_Fs_fitAt_15 rfl rfl (by decide) rfl ⟨rfl, hR7 0 9 (by decide)⟩ ?_
      refine ow_gI 131 d_Fs_fitAt_18 rfl rfl (by decide) rfl (Or.inl rfl) ?_
      refine ow_icmp_ge (tgt := 39) d_Fs_fitAt_21 (by decide) (fun c => ?_) (fun c => ?_)
      · replace T := T.1 c
        refine ow_aload_n 0 rfl d_Fs_fitAt_39 ?_
        refine ow_iconst (v := 1) (by decide) d_Fs_fitAt_40 ?_
        refine ow_callV (b := 0) (cq := 11) (As := [.int 1]) (rest := []) (d2 := d) d_Fs_fitAt_41 l_Fs_102 v_Fs_refused (show 0 < 85 by decide) rfl (by decide) rfl (Nat.le_of_ble_eq_true rfl) (Nat.le_refl _) ⟨Nat.le_refl _, Nat.le_refl _⟩ (ow_mono T ?_)
        rintro r h' ⟨r9, I9, J9, R9, rfl, rfl, hR9, T⟩
        show ow_AW ow_Y0 (ow_Z Q) M_Fs_fitAt (d + 1) 0 0 44 [(0, .ref 0), (1, .int p1), (2, .int p2)] [.int r9] (85, I9, J9, R9) 0 0
        exact ow_iret d_Fs_fitAt_44 rfl T
      · replace T := T.2 c
        refine ow_iload_n 2 rfl d_Fs_fitAt_24 ?_
        refine ow_if_lt (tgt := 39) d_Fs_fitAt_25 (by decide) (fun c => ?_) (fun c => ?_)
        · replace T := T.1 c
          refine ow_aload_n 0 rfl d_Fs_fitAt_39 ?_
          refine ow_iconst (v := 1) (by decide) d_Fs_fitAt_40 ?_
          refine ow_callV (b := 0) (cq := 11) (As := [.int 1]) (rest := []) (d2 := d) d_Fs_fitAt_41 l_Fs_102 v_Fs_refused (show 0 < 85 by decide) rfl (by decide) rfl (Nat.le_of_ble_eq_true rfl) (Nat.le_refl _) ⟨Nat.le_refl _, Nat.le_refl _⟩ (ow_mono T ?_)
          rintro r h' ⟨r10, I10, J10, R10, rfl, rfl, hR10, T⟩
          show ow_AW ow_Y0 (ow_Z Q) M_Fs_fitAt (d + 1) 0 0 44 [(0, .ref 0), (1, .int p1), (2, .int p2)] [.int r10] (85, I10, J10, R10) 0 0
          exact ow_iret d_Fs_fitAt_44 rfl T
        · replace T := T.2 c
          refine ow_iload_n 2 rfl d_Fs_fitAt_28 ?_
          refine ow_aload_n 0 rfl d_Fs_fitAt_29 ?_
          refine ow_gR (a := 2) 153 d_Fs_fitAt_30 rfl rfl (by decide) rfl ⟨rfl, hR7 0 2 (by decide)⟩ ?_
          refine ow_gI 54 d_Fs_fitAt_33 rfl rfl (by decide) rfl (Or.inl rfl) ?_
          refine ow_icmp_lt (tgt := 45) d_Fs_fitAt_36 (by decide) (fun c => ?_) (fun c => ?_)
          · replace T := T.1 c
            refine ow_aload_n 0 rfl d_Fs_fitAt_45 ?_
            refine ow_gR (a := 54) 160 d_Fs_fitAt_46 rfl rfl (by decide) rfl ⟨rfl, hR7 0 9 (by decide)⟩ ?_
            refine ow_aload_n 0 rfl d_Fs_fitAt_49 ?_
            refine ow_gR (a := 54) 160 d_Fs_fitAt_50 rfl rfl (by decide) rfl ⟨rfl, hR7 0 9 (by decide)⟩ ?_
            refine ow_gR (a := 61) 129 d_Fs_fitAt_53 rfl rfl (by decide) rfl ⟨rfl, hR7 54 3 (by decide)⟩ ?_
            refine ow_iload_n 1 rfl d_Fs_fitAt_56 ?_
            obtain ⟨cI, T⟩ := T
            refine ow_hiaload d_Fs_fitAt_57 (by decide) rfl rfl cI ?_
            refine ow_iload_n 2 rfl d_Fs_fitAt_58 ?_
            refine ow_callV (b := 54) (cq := 1) (As := [.int (I7 61 p1.toNatClampNeg), .int p2]) (rest := []) (d2 := d) d_Fs_fitAt_59 l_Fs_284 v_Fits_shapeBy (show 54 < 85 by decide) rfl (by decide) rfl (Nat.le_of_ble_eq_true rfl) (Nat.le_refl _) ⟨Nat.le_refl _, Nat.le_refl _⟩ (ow_mono T ?_)
            rintro r h' ⟨r11, I11, J11, R11, rfl, rfl, hR11, T⟩
            show ow_AW ow_Y0 (ow_Z Q) M_Fs_fitAt (d + 1) 0 0 62 [(0, .ref 0), (1, .int p1), (2, .int p2)] [.int r11] (85, I11, J11, R11) 0 0
            exact ow_iret d_Fs_fitAt_62 rfl T
          · replace T := T.2 c
            refine ow_aload_n 0 rfl d_Fs_fitAt_39 ?_
            refine ow_iconst (v := 1) (by decide) d_Fs_fitAt_40 ?_
            refine ow_callV (b := 0) (cq := 11) (As := [.int 1]) (rest := []) (d2 := d) d_Fs_fitAt_41 l_Fs_102 v_Fs_refused (show 0 < 85 by decide) rfl (by decide) rfl (Nat.le_of_ble_eq_true rfl) (Nat.le_refl _) ⟨Nat.le_refl _, Nat.le_refl _⟩ (ow_mono T ?_)
            rintro r h' ⟨r12, I12, J12, R12, rfl, rfl, hR12, T⟩
            show ow_AW ow_Y0 (ow_Z Q) M_Fs_fitAt (d + 1) 0 0 44 [(0, .ref 0), (1, .int p1), (2, .int p2)] [.int r12] (85, I12, J12, R12) 0 0
            exact ow_iret d_Fs_fitAt_44 rfl T
  · replace T := T.2 c
    refine ow_iconst (v := (-1)) (by decide) d_Fs_fitAt_7 ?_
    exact ow_iret d_Fs_fitAt_8 rfl T
set_option maxRecDepth 4000 in
theorem t_Fs_shapedBy {d : Nat} {I : Nat → Nat → Int32} {J : Nat → Nat → Int64} {R : Nat → Nat → Option Nat} {Q : Option Value → ow_H → Prop} {p1 : Int32} {p2 : Int32}  (hR : ow_RF R) (T : (ow_AM M_Fs_lacksShire d [.ref 0] (85, I, J, R) (fun r h' => ∃ (r6 : Int32) (I6 : Nat → Nat → Int32) (J6 : Nat → Nat → Int64) (R6 : Nat → Nat → Option Nat), r = some (.int r6) ∧ h' = (85, I6, J6, R6) ∧ ow_RF R6 ∧ ((r6 = 0 → ((p1 < 0 → (ow_AM M_Fs_refused d [.ref 0, .int 1] (85, I6, J6, R6) (fun r h' => ∃ (r7 : Int32) (I7 : Nat → Nat → Int32) (J7 : Nat → Nat → Int64) (R7 : Nat → Nat → Option Nat), r = some (.int r7) ∧ h' = (85, I7, J7, R7) ∧ ow_RF R7 ∧ Q (some (.int r7)) (85, I7, J7, R7)))) ∧ (¬ p1 < 0 → ((p1 < (I6 2 7) → (ow_AM M_Fs_isOutside d [.ref 0, .int p2, .int 0, .int 4] (85, I6, J6, R6) (fun r h' => ∃ (r8 : Int32) (I8 : Nat → Nat → Int32) (J8 : Nat → Nat → Int64) (R8 : Nat → Nat → Option Nat), r = some (.int r8) ∧ h' = (85, I8, J8, R8) ∧ ow_RF R8 ∧ ((r8 = 0 → (ow_AM M_Fits_countShaped d [.ref 54, .int p1, .int p2] (85, I8, J8, R8) (fun r h' => ∃ (r9 : Int32) (I9 : Nat → Nat → Int32) (J9 : Nat → Nat → Int64) (R9 : Nat → Nat → Option Nat), r = some (.int r9) ∧ h' = (85, I9, J9, R9) ∧ ow_RF R9 ∧ Q (some (.int r9)) (85, I9, J9, R9)))) ∧ (¬ r8 = 0 → Q (some (.int (-1))) (85, I8, J8, R8)))))) ∧ (¬ p1 < (I6 2 7) → (ow_AM M_Fs_refused d [.ref 0, .int 1] (85, I6, J6, R6) (fun r h' => ∃ (r10 : Int32) (I10 : Nat → Nat → Int32) (J10 : Nat → Nat → Int64) (R10 : Nat → Nat → Option Nat), r = some (.int r10) ∧ h' = (85, I10, J10, R10) ∧ ow_RF R10 ∧ Q (some (.int r10)) (85, I10, J10, R10)))))))) ∧ (¬ r6 = 0 → Q (some (.int (-1))) (85, I6, J6, R6)))))) : ow_AM M_Fs_shapedBy (d + 1) [.ref 0, .int p1, .int p2] (85, I, J, R) Q := by
  refine ow_enter (by decide) (Nat.le_of_ble_eq_true rfl) ?_
  show ow_AW ow_Y0 (ow_Z Q) M_Fs_shapedBy (d + 1) 0 0 0 [(0, .ref 0), (1, .int p1), (2, .int p2)] [] (85, I, J, R) 0 0
  refine ow_aload_n 0 rfl d_Fs_shapedBy_0 ?_
  refine ow_callV (b := 0) (cq := 11) (As := []) (rest := []) (d2 := d) d_Fs_shapedBy_1 l_Fs_208 v_Fs_lacksShire (show 0 < 85 by decide) rfl (by decide) rfl (Nat.le_of_ble_eq_true rfl) (Nat.le_refl _) ⟨Nat.le_refl _, Nat.le_refl _⟩ (ow_mono T ?_)
  rintro r h' ⟨r6, I6, J6, R6, rfl, rfl, hR6, T⟩
  show ow_AW ow_Y0 (ow_Z Q) M_Fs_shapedBy (d + 1) 0 0 4 [(0, .ref 0), (1, .int p1), (2, .int p2)] [.int r6] (85, I6, J6, R6) 0 0
  refine ow_if_eq (tgt := 9) d_Fs_shapedBy_4 (by decide) (fun c => ?_) (fun c => ?_)
  · replace T := T.1 c
    refine ow_iload_n 1 rfl d_Fs_shapedBy_9 ?_
    refine ow_if_lt (tgt := 24) d_Fs_shapedBy_10 (by decide) (fun c => ?_) (fun c => ?_)
    · replace T := T.1 c
      refine ow_aload_n 0 rfl d_Fs_shapedBy_24 ?_
      refine ow_iconst (v := 1) (by decide) d_Fs_shapedBy_25 ?_
      refine ow_callV (b := 0) (cq := 11) (As := [.int 1]) (rest := []) (d2 := d) d_Fs_shapedBy_26 l_Fs_102 v_Fs_refused (show 0 < 85 by decide) rfl (by decide) rfl (Nat.le_of_ble_eq_true rfl) (Nat.le_refl _) ⟨Nat.le_refl _, Nat.le_refl _⟩ (ow_mono T ?_)
      rintro r h' ⟨r7, I7, J7, R7, rfl, rfl, hR7, T⟩
      show ow_AW ow_Y0 (ow_Z Q) M_Fs_shapedBy (d + 1) 0 0 29 [(0, .ref 0), (1, .int p1), (2, .int p2)] [.int r7] (85, I7, J7, R7) 0 0
      exact ow_iret d_Fs_shapedBy_29 rfl T
    · replace T := T.2 c
      refine ow_iload_n 1 rfl d_Fs_shapedBy_13 ?_
      refine ow_aload_n 0 rfl d_Fs_shapedBy_14 ?_
      refine ow_gR (a := 2) 153 d_Fs_shapedBy_15 rfl rfl (by decide) rfl ⟨rfl, hR6 0 2 (by decide)⟩ ?_
      refine ow_gI 54 d_Fs_shapedBy_18 rfl rfl (by decide) rfl (Or.inl rfl) ?_
      refine ow_icmp_lt (tgt := 30) d_Fs_shapedBy_21 (by decide) (fun c => ?_) (fun c => ?_)
      · replace T := T.1 c
        refine ow_aload_n 0 rfl d_Fs_shapedBy_30 ?_
        refine ow_iload_n 2 rfl d_Fs_shapedBy_31 ?_
        refine ow_iconst (v := 0) (by decide) d_Fs_shapedBy_32 ?_
        refine ow_iconst (v := 4) (by decide) d_Fs_shapedBy_33 ?_
        refine ow_callV (b := 0) (cq := 11) (As := [.int p2, .int 0, .int 4]) (rest := []) (d2 := d) d_Fs_shapedBy_34 l_Fs_251 v_Fs_isOutside (show 0 < 85 by decide) rfl (by decide) rfl (Nat.le_of_ble_eq_true rfl) (Nat.le_refl _) ⟨Nat.le_refl _, Nat.le_refl _⟩ (ow_mono T ?_)
        rintro r h' ⟨r8, I8, J8, R8, rfl, rfl, hR8, T⟩
        show ow_AW ow_Y0 (ow_Z Q) M_Fs_shapedBy (d + 1) 0 0 37 [(0, .ref 0), (1, .int p1), (2, .int p2)] [.int r8] (85, I8, J8, R8) 0 0
        refine ow_if_eq (tgt := 42) d_Fs_shapedBy_37 (by decide) (fun c => ?_) (fun c => ?_)
        · replace T := T.1 c
          refine ow_aload_n 0 rfl d_Fs_shapedBy_42 ?_
          refine ow_gR (a := 54) 160 d_Fs_shapedBy_43 rfl rfl (by decide) rfl ⟨rfl, hR8 0 9 (by decide)⟩ ?_
          refine ow_iload_n 1 rfl d_Fs_shapedBy_46 ?_
          refine ow_iload_n 2 rfl d_Fs_shapedBy_47 ?_
          refine ow_callV (b := 54) (cq := 1) (As := [.int p1, .int p2]) (rest := []) (d2 := d) d_Fs_shapedBy_48 l_Fs_287 v_Fits_countShaped (show 54 < 85 by decide) rfl (by decide) rfl (Nat.le_of_ble_eq_true rfl) (Nat.le_refl _) ⟨Nat.le_refl _, Nat.le_refl _⟩ (ow_mono T ?_)
          rintro r h' ⟨r9, I9, J9, R9, rfl, rfl, hR9, T⟩
          show ow_AW ow_Y0 (ow_Z Q) M_Fs_shapedBy (d + 1) 0 0 51 [(0, .ref 0), (1, .int p1), (2, .int p2)] [.int r9] (85, I9, J9, R9) 0 0
          exact ow_iret d_Fs_shapedBy_51 rfl T
        · replace T := T.2 c
          refine ow_iconst (v := (-1)) (by decide) d_Fs_shapedBy_40 ?_
          exact ow_iret d_Fs_shapedBy_41 rfl T
      · replace T := T.2 c
        refine ow_aload_n 0 rfl d_Fs_shapedBy_24 ?_
        refine ow_iconst (v := 1) (by decide) d_Fs_shapedBy_25 ?_
        refine ow_callV (b := 0) (cq := 11) (As := [.int 1]) (rest := []) (d2 := d) d_Fs_shapedBy_26 l_Fs_102 v_Fs_refused (show 0 < 85 by decide) rfl (by decide) rfl (Nat.le_of_ble_eq_true rfl) (Nat.le_refl _) ⟨Nat.le_refl _, Nat.le_refl _⟩ (ow_mono T ?_)
        rintro r h' ⟨r10, I10, J10, R10, rfl, rfl, hR10, T⟩
        show ow_AW ow_Y0 (ow_Z Q) M_Fs_shapedBy (d + 1) 0 0 29 [(0, .ref 0), (1, .int p1), (2, .int p2)] [.int r10] (85, I10, J10, R10) 0 0
        exact ow_iret d_Fs_shapedBy_29 rfl T
  · replace T := T.2 c
    refine ow_iconst (v := (-1)) (by decide) d_Fs_shapedBy_7 ?_
    exact ow_iret d_Fs_shapedBy_8 rfl T
