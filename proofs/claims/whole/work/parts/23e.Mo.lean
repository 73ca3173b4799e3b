/-! Own rows, by program: Mo_why Mo_signsIn Mo_servedIn Mo_yearFor Mo_firstServed Mo_lastServed Mo_planOf Mo_plan Mo_planServes Mo_servedWithOnly Mo_allFollies Mo_keep Mo_pillar Mo_allShapes Mo_shapeOf Mo_wrongBy Mo_fits Mo_isVeiled Mo_fitAt -/
theorem d_Mo_why_0 : decode M_Mo_why.2.1 0 = .ok (.iload_n 1, 1) := by decide +kernel
theorem d_Mo_why_1 : decode M_Mo_why.2.1 1 = .ok (.ifCond .ne 7, 3) := by decide +kernel
theorem d_Mo_why_4 : decode M_Mo_why.2.1 4 = .ok (.iconst 1, 1) := by decide +kernel
theorem d_Mo_why_5 : decode M_Mo_why.2.1 5 = .ok (.goto 12, 3) := by decide +kernel
theorem d_Mo_why_8 : decode M_Mo_why.2.1 8 = .ok (.iload_n 2, 1) := by decide +kernel
theorem d_Mo_why_9 : decode M_Mo_why.2.1 9 = .ok (.ifCond .eq 7, 3) := by decide +kernel
theorem d_Mo_why_12 : decode M_Mo_why.2.1 12 = .ok (.iconst 0, 1) := by decide +kernel
theorem d_Mo_why_13 : decode M_Mo_why.2.1 13 = .ok (.goto 4, 3) := by decide +kernel
theorem d_Mo_why_16 : decode M_Mo_why.2.1 16 = .ok (.iconst 2, 1) := by decide +kernel
theorem d_Mo_why_17 : decode M_Mo_why.2.1 17 = .ok (.ireturn, 1) := by decide +kernel
theorem d_Mo_signsIn_0 : decode M_Mo_signsIn.2.1 0 = .ok (.aload_n 0, 1) := by decide +kernel
theorem d_Mo_signsIn_1 : decode M_Mo_signsIn.2.1 1 = .ok (.invokevirtual 154, 3) := by decide +kernel
theorem d_Mo_signsIn_4 : decode M_Mo_signsIn.2.1 4 = .ok (.aload_n 0, 1) := by decide +kernel
theorem d_Mo_signsIn_5 : decode M_Mo_signsIn.2.1 5 = .ok (.aload_n 0, 1) := by decide +kernel
theorem d_Mo_signsIn_6 : decode M_Mo_signsIn.2.1 6 = .ok (.iload_n 1, 1) := by decide +kernel
theorem d_Mo_signsIn_7 : decode M_Mo_signsIn.2.1 7 = .ok (.invokevirtual 272, 3) := by decide +kernel
theorem d_Mo_signsIn_10 : decode M_Mo_signsIn.2.1 10 = .ok (.iload_n 3, 1) := by decide +kernel
theorem d_Mo_signsIn_11 : decode M_Mo_signsIn.2.1 11 = .ok (.iconst 0, 1) := by decide +kernel
theorem d_Mo_signsIn_12 : decode M_Mo_signsIn.2.1 12 = .ok (.bipush 60, 2) := by decide +kernel
theorem d_Mo_signsIn_14 : decode M_Mo_signsIn.2.1 14 = .ok (.invokestatic 142, 3) := by decide +kernel
theorem d_Mo_signsIn_17 : decode M_Mo_signsIn.2.1 17 = .ok (.invokevirtual 323, 3) := by decide +kernel
theorem d_Mo_signsIn_20 : decode M_Mo_signsIn.2.1 20 = .ok (.istore 4, 2) := by decide +kernel
theorem d_Mo_signsIn_22 : decode M_Mo_signsIn.2.1 22 = .ok (.iload 4, 2) := by decide +kernel
theorem d_Mo_signsIn_24 : decode M_Mo_signsIn.2.1 24 = .ok (.ifCond .eq 10, 3) := by decide +kernel
theorem d_Mo_signsIn_27 : decode M_Mo_signsIn.2.1 27 = .ok (.aload_n 0, 1) := by decide +kernel
theorem d_Mo_signsIn_28 : decode M_Mo_signsIn.2.1 28 = .ok (.iload 4, 2) := by decide +kernel
theorem d_Mo_signsIn_30 : decode M_Mo_signsIn.2.1 30 = .ok (.invokevirtual 157, 3) := by decide +kernel
theorem d_Mo_signsIn_33 : decode M_Mo_signsIn.2.1 33 = .ok (.ireturn, 1) := by decide +kernel
theorem d_Mo_signsIn_34 : decode M_Mo_signsIn.2.1 34 = .ok (.aload_n 0, 1) := by decide +kernel
theorem d_Mo_signsIn_35 : decode M_Mo_signsIn.2.1 35 = .ok (.iload_n 3, 1) := by decide +kernel
theorem d_Mo_signsIn_36 : decode M_Mo_signsIn.2.1 36 = .ok (.invokevirtual 327, 3) := by decide +kernel
theorem d_Mo_signsIn_39 : decode M_Mo_signsIn.2.1 39 = .ok (.aload_n 0, 1) := by decide +kernel
theorem d_Mo_signsIn_40 : decode M_Mo_signsIn.2.1 40 = .ok (.aload_n 0, 1) := by decide +kernel
theorem d_Mo_signsIn_41 : decode M_Mo_signsIn.2.1 41 = .ok (.getfield 47, 3) := by decide +kernel
theorem d_Mo_signsIn_44 : decode M_Mo_signsIn.2.1 44 = .ok (.aload_n 0, 1) := by decide +kernel
theorem d_Mo_signsIn_45 : decode M_Mo_signsIn.2.1 45 = .ok (.iload_n 1, 1) := by decide +kernel
theorem d_Mo_signsIn_46 : decode M_Mo_signsIn.2.1 46 = .ok (.iload_n 2, 1) := by decide +kernel
theorem d_Mo_signsIn_47 : decode M_Mo_signsIn.2.1 47 = .ok (.invokevirtual 288, 3) := by decide +kernel
theorem d_Mo_signsIn_50 : decode M_Mo_signsIn.2.1 50 = .ok (.invokevirtual 292, 3) := by decide +kernel
theorem d_Mo_signsIn_53 : decode M_Mo_signsIn.2.1 53 = .ok (.ireturn, 1) := by decide +kernel
theorem d_Mo_servedIn_0 : decode M_Mo_servedIn.2.1 0 = .ok (.aload_n 0, 1) := by decide +kernel
theorem d_Mo_servedIn_1 : decode M_Mo_servedIn.2.1 1 = .ok (.invokevirtual 154, 3) := by decide +kernel
theorem d_Mo_servedIn_4 : decode M_Mo_servedIn.2.1 4 = .ok (.aload_n 0, 1) := by decide +kernel
theorem d_Mo_servedIn_5 : decode M_Mo_servedIn.2.1 5 = .ok (.aload_n 0, 1) := by decide +kernel
theorem d_Mo_servedIn_6 : decode M_Mo_servedIn.2.1 6 = .ok (.getfield 167, 3) := by decide +kernel
theorem d_Mo_servedIn_9 : decode M_Mo_servedIn.2.1 9 = .ok (.iload_n 1, 1) := by decide +kernel
theorem d_Mo_servedIn_10 : decode M_Mo_servedIn.2.1 10 = .ok (.iconst 0, 1) := by decide +kernel
theorem d_Mo_servedIn_11 : decode M_Mo_servedIn.2.1 11 = .ok (.bipush 60, 2) := by decide +kernel
theorem d_Mo_servedIn_13 : decode M_Mo_servedIn.2.1 13 = .ok (.invokestatic 142, 3) := by decide +kernel
theorem d_Mo_servedIn_16 : decode M_Mo_servedIn.2.1 16 = .ok (.invokevirtual 323, 3) := by decide +kernel
theorem d_Mo_servedIn_19 : decode M_Mo_servedIn.2.1 19 = .ok (.istore_n 2, 1) := by decide +kernel
theorem d_Mo_servedIn_20 : decode M_Mo_servedIn.2.1 20 = .ok (.iload_n 2, 1) := by decide +kernel
theorem d_Mo_servedIn_21 : decode M_Mo_servedIn.2.1 21 = .ok (.ifCond .eq 9, 3) := by decide +kernel
theorem d_Mo_servedIn_24 : decode M_Mo_servedIn.2.1 24 = .ok (.aload_n 0, 1) := by decide +kernel
theorem d_Mo_servedIn_25 : decode M_Mo_servedIn.2.1 25 = .ok (.iload_n 2, 1) := by decide +kernel
theorem d_Mo_servedIn_26 : decode M_Mo_servedIn.2.1 26 = .ok (.invokevirtual 157, 3) := by decide +kernel
theorem d_Mo_servedIn_29 : decode M_Mo_servedIn.2.1 29 = .ok (.ireturn, 1) := by decide +kernel
theorem d_Mo_servedIn_30 : decode M_Mo_servedIn.2.1 30 = .ok (.aload_n 0, 1) := by decide +kernel
theorem d_Mo_servedIn_31 : decode M_Mo_servedIn.2.1 31 = .ok (.iload_n 1, 1) := by decide +kernel
theorem d_Mo_servedIn_32 : decode M_Mo_servedIn.2.1 32 = .ok (.invokevirtual 327, 3) := by decide +kernel
theorem d_Mo_servedIn_35 : decode M_Mo_servedIn.2.1 35 = .ok (.aload_n 0, 1) := by decide +kernel
theorem d_Mo_servedIn_36 : decode M_Mo_servedIn.2.1 36 = .ok (.aload_n 0, 1) := by decide +kernel
theorem d_Mo_servedIn_37 : decode M_Mo_servedIn.2.1 37 = .ok (.getfield 47, 3) := by decide +kernel
theorem d_Mo_servedIn_40 : decode M_Mo_servedIn.2.1 40 = .ok (.invokevirtual 284, 3) := by decide +kernel
theorem d_Mo_servedIn_43 : decode M_Mo_servedIn.2.1 43 = .ok (.ireturn, 1) := by decide +kernel
theorem d_Mo_yearFor_0 : decode M_Mo_yearFor.2.1 0 = .ok (.bipush (-2), 2) := by decide +kernel
theorem d_Mo_yearFor_2 : decode M_Mo_yearFor.2.1 2 = .ok (.istore_n 3, 1) := by decide +kernel
theorem d_Mo_yearFor_3 : decode M_Mo_yearFor.2.1 3 = .ok (.aload_n 0, 1) := by decide +kernel
theorem d_Mo_yearFor_4 : decode M_Mo_yearFor.2.1 4 = .ok (.iconst 0, 1) := by decide +kernel
theorem d_Mo_yearFor_5 : decode M_Mo_yearFor.2.1 5 = .ok (.invokevirtual 327, 3) := by decide +kernel
theorem d_Mo_yearFor_8 : decode M_Mo_yearFor.2.1 8 = .ok (.iconst 0, 1) := by decide +kernel
theorem d_Mo_yearFor_9 : decode M_Mo_yearFor.2.1 9 = .ok (.istore 4, 2) := by decide +kernel
theorem d_Mo_yearFor_11 : decode M_Mo_yearFor.2.1 11 = .ok (.iload 4, 2) := by decide +kernel
theorem d_Mo_yearFor_13 : decode M_Mo_yearFor.2.1 13 = .ok (.bipush 60, 2) := by decide +kernel
theorem d_Mo_yearFor_15 : decode M_Mo_yearFor.2.1 15 = .ok (.if_icmp .gt 43, 3) := by decide +kernel
theorem d_Mo_yearFor_18 : decode M_Mo_yearFor.2.1 18 = .ok (.aload_n 0, 1) := by decide +kernel
theorem d_Mo_yearFor_19 : decode M_Mo_yearFor.2.1 19 = .ok (.aload_n 0, 1) := by decide +kernel
theorem d_Mo_yearFor_20 : decode M_Mo_yearFor.2.1 20 = .ok (.getfield 47, 3) := by decide +kernel
theorem d_Mo_yearFor_23 : decode M_Mo_yearFor.2.1 23 = .ok (.invokevirtual 284, 3) := by decide +kernel
theorem d_Mo_yearFor_26 : decode M_Mo_yearFor.2.1 26 = .ok (.iload_n 1, 1) := by decide +kernel
theorem d_Mo_yearFor_27 : decode M_Mo_yearFor.2.1 27 = .ok (.invokestatic 231, 3) := by decide +kernel
theorem d_Mo_yearFor_30 : decode M_Mo_yearFor.2.1 30 = .ok (.ifCond .eq 14, 3) := by decide +kernel
theorem d_Mo_yearFor_33 : decode M_Mo_yearFor.2.1 33 = .ok (.iload_n 2, 1) := by decide +kernel
theorem d_Mo_yearFor_34 : decode M_Mo_yearFor.2.1 34 = .ok (.ifCond .ne 7, 3) := by decide +kernel
theorem d_Mo_yearFor_37 : decode M_Mo_yearFor.2.1 37 = .ok (.iload_n 3, 1) := by decide +kernel
theorem d_Mo_yearFor_38 : decode M_Mo_yearFor.2.1 38 = .ok (.ifCond .ge 6, 3) := by decide +kernel
theorem d_Mo_yearFor_41 : decode M_Mo_yearFor.2.1 41 = .ok (.iload 4, 2) := by decide +kernel
theorem d_Mo_yearFor_43 : decode M_Mo_yearFor.2.1 43 = .ok (.istore_n 3, 1) := by decide +kernel
theorem d_Mo_yearFor_44 : decode M_Mo_yearFor.2.1 44 = .ok (.aload_n 0, 1) := by decide +kernel
theorem d_Mo_yearFor_45 : decode M_Mo_yearFor.2.1 45 = .ok (.aload_n 0, 1) := by decide +kernel
theorem d_Mo_yearFor_46 : decode M_Mo_yearFor.2.1 46 = .ok (.getfield 47, 3) := by decide +kernel
theorem d_Mo_yearFor_49 : decode M_Mo_yearFor.2.1 49 = .ok (.invokevirtual 319, 3) := by decide +kernel
theorem d_Mo_yearFor_52 : decode M_Mo_yearFor.2.1 52 = .ok (.iinc 4 1, 3) := by decide +kernel
theorem d_Mo_yearFor_55 : decode M_Mo_yearFor.2.1 55 = .ok (.goto (-44), 3) := by decide +kernel
theorem d_Mo_yearFor_58 : decode M_Mo_yearFor.2.1 58 = .ok (.iload_n 3, 1) := by decide +kernel
theorem d_Mo_yearFor_59 : decode M_Mo_yearFor.2.1 59 = .ok (.ireturn, 1) := by decide +kernel
theorem d_Mo_firstServed_0 : decode M_Mo_firstServed.2.1 0 = .ok (.aload_n 0, 1) := by decide +kernel
theorem d_Mo_firstServed_1 : decode M_Mo_firstServed.2.1 1 = .ok (.invokevirtual 154, 3) := by decide +kernel
theorem d_Mo_firstServed_4 : decode M_Mo_firstServed.2.1 4 = .ok (.aload_n 0, 1) := by decide +kernel
theorem d_Mo_firstServed_5 : decode M_Mo_firstServed.2.1 5 = .ok (.iload_n 1, 1) := by decide +kernel
theorem d_Mo_firstServed_6 : decode M_Mo_firstServed.2.1 6 = .ok (.invokevirtual 278, 3) := by decide +kernel
theorem d_Mo_firstServed_9 : decode M_Mo_firstServed.2.1 9 = .ok (.ifCond .eq 12, 3) := by decide +kernel
theorem d_Mo_firstServed_12 : decode M_Mo_firstServed.2.1 12 = .ok (.aload_n 0, 1) := by decide +kernel
theorem d_Mo_firstServed_13 : decode M_Mo_firstServed.2.1 13 = .ok (.iload_n 1, 1) := by decide +kernel
theorem d_Mo_firstServed_14 : decode M_Mo_firstServed.2.1 14 = .ok (.iconst 0, 1) := by decide +kernel
theorem d_Mo_firstServed_15 : decode M_Mo_firstServed.2.1 15 = .ok (.invokevirtual 330, 3) := by decide +kernel
theorem d_Mo_firstServed_18 : decode M_Mo_firstServed.2.1 18 = .ok (.goto 8, 3) := by decide +kernel
theorem d_Mo_firstServed_21 : decode M_Mo_firstServed.2.1 21 = .ok (.aload_n 0, 1) := by decide +kernel
theorem d_Mo_firstServed_22 : decode M_Mo_firstServed.2.1 22 = .ok (.iconst 1, 1) := by decide +kernel
theorem d_Mo_firstServed_23 : decode M_Mo_firstServed.2.1 23 = .ok (.invokevirtual 157, 3) := by decide +kernel
theorem d_Mo_firstServed_26 : decode M_Mo_firstServed.2.1 26 = .ok (.ireturn, 1) := by decide +kernel
theorem d_Mo_lastServed_0 : decode M_Mo_lastServed.2.1 0 = .ok (.aload_n 0, 1) := by decide +kernel
theorem d_Mo_lastServed_1 : decode M_Mo_lastServed.2.1 1 = .ok (.invokevirtual 154, 3) := by decide +kernel
theorem d_Mo_lastServed_4 : decode M_Mo_lastServed.2.1 4 = .ok (.aload_n 0, 1) := by decide +kernel
theorem d_Mo_lastServed_5 : decode M_Mo_lastServed.2.1 5 = .ok (.iload_n 1, 1) := by decide +kernel
theorem d_Mo_lastServed_6 : decode M_Mo_lastServed.2.1 6 = .ok (.invokevirtual 278, 3) := by decide +kernel
theorem d_Mo_lastServed_9 : decode M_Mo_lastServed.2.1 9 = .ok (.ifCond .eq 12, 3) := by decide +kernel
theorem d_Mo_lastServed_12 : decode M_Mo_lastServed.2.1 12 = .ok (.aload_n 0, 1) := by decide +kernel
theorem d_Mo_lastServed_13 : decode M_Mo_lastServed.2.1 13 = .ok (.iload_n 1, 1) := by decide +kernel
theorem d_Mo_lastServed_14 : decode M_Mo_lastServed.2.1 14 = .ok (.iconst 1, 1) := by decide +kernel
theorem d_Mo_lastServed_15 : decode M_Mo_lastServed.2.1 15 = .ok (.invokevirtual 330, 3) := by decide +kernel
theorem d_Mo_lastServed_18 : decode M_Mo_lastServed.2.1 18 = .ok (.goto 8, 3) := by decide +kernel
theorem d_Mo_lastServed_21 : decode M_Mo_lastServed.2.1 21 = .ok (.aload_n 0, 1) := by decide +kernel
theorem d_Mo_lastServed_22 : decode M_Mo_lastServed.2.1 22 = .ok (.iconst 1, 1) := by decide +kernel
theorem d_Mo_lastServed_23 : decode M_Mo_lastServed.2.1 23 = .ok (.invokevirtual 157, 3) := by decide +kernel
theorem d_Mo_lastServed_26 : decode M_Mo_lastServed.2.1 26 = .ok (.ireturn, 1) := by decide +kernel
theorem d_Mo_planOf_0 : decode M_Mo_planOf.2.1 0 = .ok (.iconst 0, 1) := by decide +kernel
theorem d_Mo_planOf_1 : decode M_Mo_planOf.2.1 1 = .ok (.istore_n 2, 1) := by decide +kernel
theorem d_Mo_planOf_2 : decode M_Mo_planOf.2.1 2 = .ok (.iconst 1, 1) := by decide +kernel
theorem d_Mo_planOf_3 : decode M_Mo_planOf.2.1 3 = .ok (.istore_n 3, 1) := by decide +kernel
theorem d_Mo_planOf_4 : decode M_Mo_planOf.2.1 4 = .ok (.iconst 0, 1) := by decide +kernel
theorem d_Mo_planOf_5 : decode M_Mo_planOf.2.1 5 = .ok (.istore 4, 2) := by decide +kernel
theorem d_Mo_planOf_7 : decode M_Mo_planOf.2.1 7 = .ok (.iload 4, 2) := by decide +kernel
theorem d_Mo_planOf_9 : decode M_Mo_planOf.2.1 9 = .ok (.iload_n 1, 1) := by decide +kernel
theorem d_Mo_planOf_10 : decode M_Mo_planOf.2.1 10 = .ok (.if_icmp .ge 14, 3) := by decide +kernel
theorem d_Mo_planOf_13 : decode M_Mo_planOf.2.1 13 = .ok (.iload_n 3, 1) := by decide +kernel
theorem d_Mo_planOf_14 : decode M_Mo_planOf.2.1 14 = .ok (.bipush 10, 2) := by decide +kernel
theorem d_Mo_planOf_16 : decode M_Mo_planOf.2.1 16 = .ok (.imul, 1) := by decide +kernel
theorem d_Mo_planOf_17 : decode M_Mo_planOf.2.1 17 = .ok (.istore_n 3, 1) := by decide +kernel
theorem d_Mo_planOf_18 : decode M_Mo_planOf.2.1 18 = .ok (.iinc 4 1, 3) := by decide +kernel
theorem d_Mo_planOf_21 : decode M_Mo_planOf.2.1 21 = .ok (.goto (-14), 3) := by decide +kernel
theorem d_Mo_planOf_24 : decode M_Mo_planOf.2.1 24 = .ok (.aload_n 0, 1) := by decide +kernel
theorem d_Mo_planOf_25 : decode M_Mo_planOf.2.1 25 = .ok (.iconst (-1), 1) := by decide +kernel
theorem d_Mo_planOf_26 : decode M_Mo_planOf.2.1 26 = .ok (.putfield 333, 3) := by decide +kernel
theorem d_Mo_planOf_29 : decode M_Mo_planOf.2.1 29 = .ok (.iconst 0, 1) := by decide +kernel
theorem d_Mo_planOf_30 : decode M_Mo_planOf.2.1 30 = .ok (.istore 4, 2) := by decide +kernel
theorem d_Mo_planOf_32 : decode M_Mo_planOf.2.1 32 = .ok (.iload 4, 2) := by decide +kernel
theorem d_Mo_planOf_34 : decode M_Mo_planOf.2.1 34 = .ok (.iload_n 3, 1) := by decide +kernel
theorem d_Mo_planOf_35 : decode M_Mo_planOf.2.1 35 = .ok (.if_icmp .ge 155, 3) := by decide +kernel
theorem d_Mo_planOf_38 : decode M_Mo_planOf.2.1 38 = .ok (.iconst 1, 1) := by decide +kernel
theorem d_Mo_planOf_39 : decode M_Mo_planOf.2.1 39 = .ok (.istore 5, 2) := by decide +kernel
theorem d_Mo_planOf_41 : decode M_Mo_planOf.2.1 41 = .ok (.aload_n 0, 1) := by decide +kernel
theorem d_Mo_planOf_42 : decode M_Mo_planOf.2.1 42 = .ok (.iconst 0, 1) := by decide +kernel
theorem d_Mo_planOf_43 : decode M_Mo_planOf.2.1 43 = .ok (.invokevirtual 327, 3) := by decide +kernel
theorem d_Mo_planOf_46 : decode M_Mo_planOf.2.1 46 = .ok (.iload_n 3, 1) := by decide +kernel
theorem d_Mo_planOf_47 : decode M_Mo_planOf.2.1 47 = .ok (.bipush 10, 2) := by decide +kernel
theorem d_Mo_planOf_49 : decode M_Mo_planOf.2.1 49 = .ok (.idiv, 1) := by decide +kernel
theorem d_Mo_planOf_50 : decode M_Mo_planOf.2.1 50 = .ok (.istore 6, 2) := by decide +kernel
theorem d_Mo_planOf_52 : decode M_Mo_planOf.2.1 52 = .ok (.iload 6, 2) := by decide +kernel
theorem d_Mo_planOf_54 : decode M_Mo_planOf.2.1 54 = .ok (.ifCond .le 87, 3) := by decide +kernel
theorem d_Mo_planOf_57 : decode M_Mo_planOf.2.1 57 = .ok (.iload 4, 2) := by decide +kernel
theorem d_Mo_planOf_59 : decode M_Mo_planOf.2.1 59 = .ok (.iload 6, 2) := by decide +kernel
theorem d_Mo_planOf_61 : decode M_Mo_planOf.2.1 61 = .ok (.idiv, 1) := by decide +kernel
theorem d_Mo_planOf_62 : decode M_Mo_planOf.2.1 62 = .ok (.bipush 10, 2) := by decide +kernel
theorem d_Mo_planOf_64 : decode M_Mo_planOf.2.1 64 = .ok (.irem, 1) := by decide +kernel
theorem d_Mo_planOf_65 : decode M_Mo_planOf.2.1 65 = .ok (.iconst 1, 1) := by decide +kernel
theorem d_Mo_planOf_66 : decode M_Mo_planOf.2.1 66 = .ok (.isub, 1) := by decide +kernel
theorem d_Mo_planOf_67 : decode M_Mo_planOf.2.1 67 = .ok (.istore 7, 2) := by decide +kernel
theorem d_Mo_planOf_69 : decode M_Mo_planOf.2.1 69 = .ok (.iload 5, 2) := by decide +kernel
theorem d_Mo_planOf_71 : decode M_Mo_planOf.2.1 71 = .ok (.ifCond .eq 18, 3) := by decide +kernel
theorem d_Mo_planOf_74 : decode M_Mo_planOf.2.1 74 = .ok (.iload 7, 2) := by decide +kernel
theorem d_Mo_planOf_76 : decode M_Mo_planOf.2.1 76 = .ok (.aload_n 0, 1) := by decide +kernel
theorem d_Mo_planOf_77 : decode M_Mo_planOf.2.1 77 = .ok (.getfield 20, 3) := by decide +kernel
theorem d_Mo_planOf_80 : decode M_Mo_planOf.2.1 80 = .ok (.iconst 2, 1) := by decide +kernel
theorem d_Mo_planOf_81 : decode M_Mo_planOf.2.1 81 = .ok (.iaload, 1) := by decide +kernel
theorem d_Mo_planOf_82 : decode M_Mo_planOf.2.1 82 = .ok (.if_icmp .ge 7, 3) := by decide +kernel
theorem d_Mo_planOf_85 : decode M_Mo_planOf.2.1 85 = .ok (.iconst 1, 1) := by decide +kernel
theorem d_Mo_planOf_86 : decode M_Mo_planOf.2.1 86 = .ok (.goto 4, 3) := by decide +kernel
theorem d_Mo_planOf_89 : decode M_Mo_planOf.2.1 89 = .ok (.iconst 0, 1) := by decide +kernel
theorem d_Mo_planOf_90 : decode M_Mo_planOf.2.1 90 = .ok (.istore 5, 2) := by decide +kernel
theorem d_Mo_planOf_92 : decode M_Mo_planOf.2.1 92 = .ok (.iload 5, 2) := by decide +kernel
theorem d_Mo_planOf_94 : decode M_Mo_planOf.2.1 94 = .ok (.ifCond .eq 29, 3) := by decide +kernel
theorem d_Mo_planOf_97 : decode M_Mo_planOf.2.1 97 = .ok (.iload 7, 2) := by decide +kernel
theorem d_Mo_planOf_99 : decode M_Mo_planOf.2.1 99 = .ok (.ifCond .lt 24, 3) := by decide +kernel
theorem d_Mo_planOf_102 : decode M_Mo_planOf.2.1 102 = .ok (.aload_n 0, 1) := by decide +kernel
theorem d_Mo_planOf_103 : decode M_Mo_planOf.2.1 103 = .ok (.getfield 47, 3) := by decide +kernel
theorem d_Mo_planOf_106 : decode M_Mo_planOf.2.1 106 = .ok (.iload 7, 2) := by decide +kernel
theorem d_Mo_planOf_108 : decode M_Mo_planOf.2.1 108 = .ok (.aload_n 0, 1) := by decide +kernel
theorem d_Mo_planOf_109 : decode M_Mo_planOf.2.1 109 = .ok (.getfield 20, 3) := by decide +kernel
theorem d_Mo_planOf_112 : decode M_Mo_planOf.2.1 112 = .ok (.bipush 7, 2) := by decide +kernel
theorem d_Mo_planOf_114 : decode M_Mo_planOf.2.1 114 = .ok (.iconst 2, 1) := by decide +kernel
theorem d_Mo_planOf_115 : decode M_Mo_planOf.2.1 115 = .ok (.iload 7, 2) := by decide +kernel
theorem d_Mo_planOf_117 : decode M_Mo_planOf.2.1 117 = .ok (.imul, 1) := by decide +kernel
theorem d_Mo_planOf_118 : decode M_Mo_planOf.2.1 118 = .ok (.iadd, 1) := by decide +kernel
theorem d_Mo_planOf_119 : decode M_Mo_planOf.2.1 119 = .ok (.iconst 1, 1) := by decide +kernel
theorem d_Mo_planOf_120 : decode M_Mo_planOf.2.1 120 = .ok (.iadd, 1) := by decide +kernel
theorem d_Mo_planOf_121 : decode M_Mo_planOf.2.1 121 = .ok (.iaload, 1) := by decide +kernel
theorem d_Mo_planOf_122 : decode M_Mo_planOf.2.1 122 = .ok (.iastore, 1) := by decide +kernel
theorem d_Mo_planOf_123 : decode M_Mo_planOf.2.1 123 = .ok (.aload_n 0, 1) := by decide +kernel
theorem d_Mo_planOf_124 : decode M_Mo_planOf.2.1 124 = .ok (.aload_n 0, 1) := by decide +kernel
theorem d_Mo_planOf_125 : decode M_Mo_planOf.2.1 125 = .ok (.getfield 47, 3) := by decide +kernel
theorem d_Mo_planOf_128 : decode M_Mo_planOf.2.1 128 = .ok (.invokevirtual 319, 3) := by decide +kernel
theorem d_Mo_planOf_131 : decode M_Mo_planOf.2.1 131 = .ok (.iload 6, 2) := by decide +kernel
theorem d_Mo_planOf_133 : decode M_Mo_planOf.2.1 133 = .ok (.bipush 10, 2) := by decide +kernel
theorem d_Mo_planOf_135 : decode M_Mo_planOf.2.1 135 = .ok (.idiv, 1) := by decide +kernel
theorem d_Mo_planOf_136 : decode M_Mo_planOf.2.1 136 = .ok (.istore 6, 2) := by decide +kernel
theorem d_Mo_planOf_138 : decode M_Mo_planOf.2.1 138 = .ok (.goto (-86), 3) := by decide +kernel
theorem d_Mo_planOf_141 : decode M_Mo_planOf.2.1 141 = .ok (.iload 5, 2) := by decide +kernel
theorem d_Mo_planOf_143 : decode M_Mo_planOf.2.1 143 = .ok (.ifCond .eq 17, 3) := by decide +kernel
theorem d_Mo_planOf_146 : decode M_Mo_planOf.2.1 146 = .ok (.aload_n 0, 1) := by decide +kernel
theorem d_Mo_planOf_147 : decode M_Mo_planOf.2.1 147 = .ok (.aload_n 0, 1) := by decide +kernel
theorem d_Mo_planOf_148 : decode M_Mo_planOf.2.1 148 = .ok (.getfield 47, 3) := by decide +kernel
theorem d_Mo_planOf_151 : decode M_Mo_planOf.2.1 151 = .ok (.invokevirtual 284, 3) := by decide +kernel
theorem d_Mo_planOf_154 : decode M_Mo_planOf.2.1 154 = .ok (.invokestatic 307, 3) := by decide +kernel
theorem d_Mo_planOf_157 : decode M_Mo_planOf.2.1 157 = .ok (.goto 4, 3) := by decide +kernel
theorem d_Mo_planOf_160 : decode M_Mo_planOf.2.1 160 = .ok (.iconst (-1), 1) := by decide +kernel
theorem d_Mo_planOf_161 : decode M_Mo_planOf.2.1 161 = .ok (.istore 6, 2) := by decide +kernel
theorem d_Mo_planOf_163 : decode M_Mo_planOf.2.1 163 = .ok (.iload 6, 2) := by decide +kernel
theorem d_Mo_planOf_165 : decode M_Mo_planOf.2.1 165 = .ok (.aload_n 0, 1) := by decide +kernel
theorem d_Mo_planOf_166 : decode M_Mo_planOf.2.1 166 = .ok (.getfield 333, 3) := by decide +kernel
theorem d_Mo_planOf_169 : decode M_Mo_planOf.2.1 169 = .ok (.if_icmp .gt 6, 3) := by decide +kernel
theorem d_Mo_planOf_172 : decode M_Mo_planOf.2.1 172 = .ok (.goto 12, 3) := by decide +kernel
theorem d_Mo_planOf_175 : decode M_Mo_planOf.2.1 175 = .ok (.iload 4, 2) := by decide +kernel
theorem d_Mo_planOf_177 : decode M_Mo_planOf.2.1 177 = .ok (.istore_n 2, 1) := by decide +kernel
theorem d_Mo_planOf_178 : decode M_Mo_planOf.2.1 178 = .ok (.aload_n 0, 1) := by decide +kernel
theorem d_Mo_planOf_179 : decode M_Mo_planOf.2.1 179 = .ok (.iload 6, 2) := by decide +kernel
theorem d_Mo_planOf_181 : decode M_Mo_planOf.2.1 181 = .ok (.putfield 333, 3) := by decide +kernel
theorem d_Mo_planOf_184 : decode M_Mo_planOf.2.1 184 = .ok (.iinc 4 1, 3) := by decide +kernel
theorem d_Mo_planOf_187 : decode M_Mo_planOf.2.1 187 = .ok (.goto (-155), 3) := by decide +kernel
theorem d_Mo_planOf_190 : decode M_Mo_planOf.2.1 190 = .ok (.iload_n 2, 1) := by decide +kernel
theorem d_Mo_planOf_191 : decode M_Mo_planOf.2.1 191 = .ok (.ireturn, 1) := by decide +kernel
theorem d_Mo_plan_0 : decode M_Mo_plan.2.1 0 = .ok (.aload_n 0, 1) := by decide +kernel
theorem d_Mo_plan_1 : decode M_Mo_plan.2.1 1 = .ok (.invokevirtual 154, 3) := by decide +kernel
theorem d_Mo_plan_4 : decode M_Mo_plan.2.1 4 = .ok (.aload_n 0, 1) := by decide +kernel
theorem d_Mo_plan_5 : decode M_Mo_plan.2.1 5 = .ok (.aload_n 0, 1) := by decide +kernel
theorem d_Mo_plan_6 : decode M_Mo_plan.2.1 6 = .ok (.getfield 167, 3) := by decide +kernel
theorem d_Mo_plan_9 : decode M_Mo_plan.2.1 9 = .ok (.iload_n 1, 1) := by decide +kernel
theorem d_Mo_plan_10 : decode M_Mo_plan.2.1 10 = .ok (.iconst 1, 1) := by decide +kernel
theorem d_Mo_plan_11 : decode M_Mo_plan.2.1 11 = .ok (.iconst 4, 1) := by decide +kernel
theorem d_Mo_plan_12 : decode M_Mo_plan.2.1 12 = .ok (.invokestatic 142, 3) := by decide +kernel
theorem d_Mo_plan_15 : decode M_Mo_plan.2.1 15 = .ok (.invokevirtual 323, 3) := by decide +kernel
theorem d_Mo_plan_18 : decode M_Mo_plan.2.1 18 = .ok (.istore_n 2, 1) := by decide +kernel
theorem d_Mo_plan_19 : decode M_Mo_plan.2.1 19 = .ok (.iload_n 2, 1) := by decide +kernel
theorem d_Mo_plan_20 : decode M_Mo_plan.2.1 20 = .ok (.ifCond .eq 11, 3) := by decide +kernel
theorem d_Mo_plan_23 : decode M_Mo_plan.2.1 23 = .ok (.aload_n 0, 1) := by decide +kernel
theorem d_Mo_plan_24 : decode M_Mo_plan.2.1 24 = .ok (.iload_n 2, 1) := by decide +kernel
theorem d_Mo_plan_25 : decode M_Mo_plan.2.1 25 = .ok (.invokevirtual 157, 3) := by decide +kernel
theorem d_Mo_plan_28 : decode M_Mo_plan.2.1 28 = .ok (.goto 8, 3) := by decide +kernel
theorem d_Mo_plan_31 : decode M_Mo_plan.2.1 31 = .ok (.aload_n 0, 1) := by decide +kernel
theorem d_Mo_plan_32 : decode M_Mo_plan.2.1 32 = .ok (.iload_n 1, 1) := by decide +kernel
theorem d_Mo_plan_33 : decode M_Mo_plan.2.1 33 = .ok (.invokevirtual 336, 3) := by decide +kernel
theorem d_Mo_plan_36 : decode M_Mo_plan.2.1 36 = .ok (.ireturn, 1) := by decide +kernel
theorem d_Mo_planServes_0 : decode M_Mo_planServes.2.1 0 = .ok (.aload_n 0, 1) := by decide +kernel
theorem d_Mo_planServes_1 : decode M_Mo_planServes.2.1 1 = .ok (.invokevirtual 154, 3) := by decide +kernel
theorem d_Mo_planServes_4 : decode M_Mo_planServes.2.1 4 = .ok (.aload_n 0, 1) := by decide +kernel
theorem d_Mo_planServes_5 : decode M_Mo_planServes.2.1 5 = .ok (.aload_n 0, 1) := by decide +kernel
theorem d_Mo_planServes_6 : decode M_Mo_planServes.2.1 6 = .ok (.getfield 167, 3) := by decide +kernel
theorem d_Mo_planServes_9 : decode M_Mo_planServes.2.1 9 = .ok (.iload_n 1, 1) := by decide +kernel
theorem d_Mo_planServes_10 : decode M_Mo_planServes.2.1 10 = .ok (.iconst 1, 1) := by decide +kernel
theorem d_Mo_planServes_11 : decode M_Mo_planServes.2.1 11 = .ok (.iconst 4, 1) := by decide +kernel
theorem d_Mo_planServes_12 : decode M_Mo_planServes.2.1 12 = .ok (.invokestatic 142, 3) := by decide +kernel
theorem d_Mo_planServes_15 : decode M_Mo_planServes.2.1 15 = .ok (.invokevirtual 323, 3) := by decide +kernel
theorem d_Mo_planServes_18 : decode M_Mo_planServes.2.1 18 = .ok (.istore_n 2, 1) := by decide +kernel
theorem d_Mo_planServes_19 : decode M_Mo_planServes.2.1 19 = .ok (.iload_n 2, 1) := by decide +kernel
theorem d_Mo_planServes_20 : decode M_Mo_planServes.2.1 20 = .ok (.ifCond .eq 9, 3) := by decide +kernel
theorem d_Mo_planServes_23 : decode M_Mo_planServes.2.1 23 = .ok (.aload_n 0, 1) := by decide +kernel
theorem d_Mo_planServes_24 : decode M_Mo_planServes.2.1 24 = .ok (.iload_n 2, 1) := by decide +kernel
theorem d_Mo_planServes_25 : decode M_Mo_planServes.2.1 25 = .ok (.invokevirtual 157, 3) := by decide +kernel
theorem d_Mo_planServes_28 : decode M_Mo_planServes.2.1 28 = .ok (.ireturn, 1) := by decide +kernel
theorem d_Mo_planServes_29 : decode M_Mo_planServes.2.1 29 = .ok (.aload_n 0, 1) := by decide +kernel
theorem d_Mo_planServes_30 : decode M_Mo_planServes.2.1 30 = .ok (.iload_n 1, 1) := by decide +kernel
theorem d_Mo_planServes_31 : decode M_Mo_planServes.2.1 31 = .ok (.invokevirtual 336, 3) := by decide +kernel
theorem d_Mo_planServes_34 : decode M_Mo_planServes.2.1 34 = .ok (.pop, 1) := by decide +kernel
theorem d_Mo_planServes_35 : decode M_Mo_planServes.2.1 35 = .ok (.aload_n 0, 1) := by decide +kernel
theorem d_Mo_planServes_36 : decode M_Mo_planServes.2.1 36 = .ok (.getfield 333, 3) := by decide +kernel
theorem d_Mo_planServes_39 : decode M_Mo_planServes.2.1 39 = .ok (.ireturn, 1) := by decide +kernel
theorem d_Mo_servedWithOnly_0 : decode M_Mo_servedWithOnly.2.1 0 = .ok (.aload_n 0, 1) := by decide +kernel
theorem d_Mo_servedWithOnly_1 : decode M_Mo_servedWithOnly.2.1 1 = .ok (.getfield 32, 3) := by decide +kernel
theorem d_Mo_servedWithOnly_4 : decode M_Mo_servedWithOnly.2.1 4 = .ok (.iconst 0, 1) := by decide +kernel
theorem d_Mo_servedWithOnly_5 : decode M_Mo_servedWithOnly.2.1 5 = .ok (.aload_n 0, 1) := by decide +kernel
theorem d_Mo_servedWithOnly_6 : decode M_Mo_servedWithOnly.2.1 6 = .ok (.getfield 47, 3) := by decide +kernel
theorem d_Mo_servedWithOnly_9 : decode M_Mo_servedWithOnly.2.1 9 = .ok (.iconst 0, 1) := by decide +kernel
theorem d_Mo_servedWithOnly_10 : decode M_Mo_servedWithOnly.2.1 10 = .ok (.bipush 14, 2) := by decide +kernel
theorem d_Mo_servedWithOnly_12 : decode M_Mo_servedWithOnly.2.1 12 = .ok (.invokestatic 163, 3) := by decide +kernel
theorem d_Mo_servedWithOnly_15 : decode M_Mo_servedWithOnly.2.1 15 = .ok (.iconst 0, 1) := by decide +kernel
theorem d_Mo_servedWithOnly_16 : decode M_Mo_servedWithOnly.2.1 16 = .ok (.istore_n 2, 1) := by decide +kernel
theorem d_Mo_servedWithOnly_17 : decode M_Mo_servedWithOnly.2.1 17 = .ok (.iload_n 2, 1) := by decide +kernel
theorem d_Mo_servedWithOnly_18 : decode M_Mo_servedWithOnly.2.1 18 = .ok (.aload_n 0, 1) := by decide +kernel
theorem d_Mo_servedWithOnly_19 : decode M_Mo_servedWithOnly.2.1 19 = .ok (.getfield 20, 3) := by decide +kernel
theorem d_Mo_servedWithOnly_22 : decode M_Mo_servedWithOnly.2.1 22 = .ok (.iconst 2, 1) := by decide +kernel
theorem d_Mo_servedWithOnly_23 : decode M_Mo_servedWithOnly.2.1 23 = .ok (.iaload, 1) := by decide +kernel
theorem d_Mo_servedWithOnly_24 : decode M_Mo_servedWithOnly.2.1 24 = .ok (.if_icmp .ge 24, 3) := by decide +kernel
theorem d_Mo_servedWithOnly_27 : decode M_Mo_servedWithOnly.2.1 27 = .ok (.iload_n 1, 1) := by decide +kernel
theorem d_Mo_servedWithOnly_28 : decode M_Mo_servedWithOnly.2.1 28 = .ok (.iload_n 2, 1) := by decide +kernel
theorem d_Mo_servedWithOnly_29 : decode M_Mo_servedWithOnly.2.1 29 = .ok (.invokestatic 231, 3) := by decide +kernel
theorem d_Mo_servedWithOnly_32 : decode M_Mo_servedWithOnly.2.1 32 = .ok (.ifCond .ne 10, 3) := by decide +kernel
theorem d_Mo_servedWithOnly_35 : decode M_Mo_servedWithOnly.2.1 35 = .ok (.aload_n 0, 1) := by decide +kernel
theorem d_Mo_servedWithOnly_36 : decode M_Mo_servedWithOnly.2.1 36 = .ok (.getfield 47, 3) := by decide +kernel
theorem d_Mo_servedWithOnly_39 : decode M_Mo_servedWithOnly.2.1 39 = .ok (.iload_n 2, 1) := by decide +kernel
theorem d_Mo_servedWithOnly_40 : decode M_Mo_servedWithOnly.2.1 40 = .ok (.iconst 0, 1) := by decide +kernel
theorem d_Mo_servedWithOnly_41 : decode M_Mo_servedWithOnly.2.1 41 = .ok (.iastore, 1) := by decide +kernel
theorem d_Mo_servedWithOnly_42 : decode M_Mo_servedWithOnly.2.1 42 = .ok (.iinc 2 1, 3) := by decide +kernel
theorem d_Mo_servedWithOnly_45 : decode M_Mo_servedWithOnly.2.1 45 = .ok (.goto (-28), 3) := by decide +kernel
theorem d_Mo_servedWithOnly_48 : decode M_Mo_servedWithOnly.2.1 48 = .ok (.aload_n 0, 1) := by decide +kernel
theorem d_Mo_servedWithOnly_49 : decode M_Mo_servedWithOnly.2.1 49 = .ok (.aload_n 0, 1) := by decide +kernel
theorem d_Mo_servedWithOnly_50 : decode M_Mo_servedWithOnly.2.1 50 = .ok (.getfield 47, 3) := by decide +kernel
theorem d_Mo_servedWithOnly_53 : decode M_Mo_servedWithOnly.2.1 53 = .ok (.invokevirtual 284, 3) := by decide +kernel
theorem d_Mo_servedWithOnly_56 : decode M_Mo_servedWithOnly.2.1 56 = .ok (.ireturn, 1) := by decide +kernel
theorem d_Mo_allFollies_0 : decode M_Mo_allFollies.2.1 0 = .ok (.iconst 1, 1) := by decide +kernel
theorem d_Mo_allFollies_1 : decode M_Mo_allFollies.2.1 1 = .ok (.aload_n 0, 1) := by decide +kernel
theorem d_Mo_allFollies_2 : decode M_Mo_allFollies.2.1 2 = .ok (.getfield 20, 3) := by decide +kernel
theorem d_Mo_allFollies_5 : decode M_Mo_allFollies.2.1 5 = .ok (.iconst 2, 1) := by decide +kernel
theorem d_Mo_allFollies_6 : decode M_Mo_allFollies.2.1 6 = .ok (.iaload, 1) := by decide +kernel
theorem d_Mo_allFollies_7 : decode M_Mo_allFollies.2.1 7 = .ok (.ishl, 1) := by decide +kernel
theorem d_Mo_allFollies_8 : decode M_Mo_allFollies.2.1 8 = .ok (.iconst 1, 1) := by decide +kernel
theorem d_Mo_allFollies_9 : decode M_Mo_allFollies.2.1 9 = .ok (.isub, 1) := by decide +kernel
theorem d_Mo_allFollies_10 : decode M_Mo_allFollies.2.1 10 = .ok (.ireturn, 1) := by decide +kernel
theorem d_Mo_keep_0 : decode M_Mo_keep.2.1 0 = .ok (.aload_n 0, 1) := by decide +kernel
theorem d_Mo_keep_1 : decode M_Mo_keep.2.1 1 = .ok (.invokevirtual 154, 3) := by decide +kernel
theorem d_Mo_keep_4 : decode M_Mo_keep.2.1 4 = .ok (.aload_n 0, 1) := by decide +kernel
theorem d_Mo_keep_5 : decode M_Mo_keep.2.1 5 = .ok (.getfield 167, 3) := by decide +kernel
theorem d_Mo_keep_8 : decode M_Mo_keep.2.1 8 = .ok (.ifCond .ne 9, 3) := by decide +kernel
theorem d_Mo_keep_11 : decode M_Mo_keep.2.1 11 = .ok (.aload_n 0, 1) := by decide +kernel
theorem d_Mo_keep_12 : decode M_Mo_keep.2.1 12 = .ok (.iconst 1, 1) := by decide +kernel
theorem d_Mo_keep_13 : decode M_Mo_keep.2.1 13 = .ok (.invokevirtual 157, 3) := by decide +kernel
theorem d_Mo_keep_16 : decode M_Mo_keep.2.1 16 = .ok (.ireturn, 1) := by decide +kernel
theorem d_Mo_keep_17 : decode M_Mo_keep.2.1 17 = .ok (.aload_n 0, 1) := by decide +kernel
theorem d_Mo_keep_18 : decode M_Mo_keep.2.1 18 = .ok (.invokevirtual 281, 3) := by decide +kernel
theorem d_Mo_keep_21 : decode M_Mo_keep.2.1 21 = .ok (.aload_n 0, 1) := by decide +kernel
theorem d_Mo_keep_22 : decode M_Mo_keep.2.1 22 = .ok (.aload_n 0, 1) := by decide +kernel
theorem d_Mo_keep_23 : decode M_Mo_keep.2.1 23 = .ok (.getfield 32, 3) := by decide +kernel
theorem d_Mo_keep_26 : decode M_Mo_keep.2.1 26 = .ok (.invokevirtual 284, 3) := by decide +kernel
theorem d_Mo_keep_29 : decode M_Mo_keep.2.1 29 = .ok (.istore_n 1, 1) := by decide +kernel
theorem d_Mo_keep_30 : decode M_Mo_keep.2.1 30 = .ok (.bipush (-2), 2) := by decide +kernel
theorem d_Mo_keep_32 : decode M_Mo_keep.2.1 32 = .ok (.istore_n 2, 1) := by decide +kernel
theorem d_Mo_keep_33 : decode M_Mo_keep.2.1 33 = .ok (.iconst 0, 1) := by decide +kernel
theorem d_Mo_keep_34 : decode M_Mo_keep.2.1 34 = .ok (.istore_n 3, 1) := by decide +kernel
theorem d_Mo_keep_35 : decode M_Mo_keep.2.1 35 = .ok (.iload_n 3, 1) := by decide +kernel
theorem d_Mo_keep_36 : decode M_Mo_keep.2.1 36 = .ok (.aload_n 0, 1) := by decide +kernel
theorem d_Mo_keep_37 : decode M_Mo_keep.2.1 37 = .ok (.invokevirtual 339, 3) := by decide +kernel
theorem d_Mo_keep_40 : decode M_Mo_keep.2.1 40 = .ok (.if_icmp .gt 38, 3) := by decide +kernel
theorem d_Mo_keep_43 : decode M_Mo_keep.2.1 43 = .ok (.iload_n 2, 1) := by decide +kernel
theorem d_Mo_keep_44 : decode M_Mo_keep.2.1 44 = .ok (.ifCond .lt 14, 3) := by decide +kernel
theorem d_Mo_keep_47 : decode M_Mo_keep.2.1 47 = .ok (.iload_n 3, 1) := by decide +kernel
theorem d_Mo_keep_48 : decode M_Mo_keep.2.1 48 = .ok (.invokestatic 307, 3) := by decide +kernel
theorem d_Mo_keep_51 : decode M_Mo_keep.2.1 51 = .ok (.iload_n 2, 1) := by decide +kernel
theorem d_Mo_keep_52 : decode M_Mo_keep.2.1 52 = .ok (.invokestatic 307, 3) := by decide +kernel
theorem d_Mo_keep_55 : decode M_Mo_keep.2.1 55 = .ok (.if_icmp .ge 17, 3) := by decide +kernel
theorem d_Mo_keep_58 : decode M_Mo_keep.2.1 58 = .ok (.iload_n 1, 1) := by decide +kernel
theorem d_Mo_keep_59 : decode M_Mo_keep.2.1 59 = .ok (.aload_n 0, 1) := by decide +kernel
theorem d_Mo_keep_60 : decode M_Mo_keep.2.1 60 = .ok (.iload_n 3, 1) := by decide +kernel
theorem d_Mo_keep_61 : decode M_Mo_keep.2.1 61 = .ok (.invokevirtual 342, 3) := by decide +kernel
theorem d_Mo_keep_64 : decode M_Mo_keep.2.1 64 = .ok (.iconst (-1), 1) := by decide +kernel
theorem d_Mo_keep_65 : decode M_Mo_keep.2.1 65 = .ok (.ixor, 1) := by decide +kernel
theorem d_Mo_keep_66 : decode M_Mo_keep.2.1 66 = .ok (.iand, 1) := by decide +kernel
theorem d_Mo_keep_67 : decode M_Mo_keep.2.1 67 = .ok (.ifCond .ne 5, 3) := by decide +kernel
theorem d_Mo_keep_70 : decode M_Mo_keep.2.1 70 = .ok (.iload_n 3, 1) := by decide +kernel
theorem d_Mo_keep_71 : decode M_Mo_keep.2.1 71 = .ok (.istore_n 2, 1) := by decide +kernel
theorem d_Mo_keep_72 : decode M_Mo_keep.2.1 72 = .ok (.iinc 3 1, 3) := by decide +kernel
theorem d_Mo_keep_75 : decode M_Mo_keep.2.1 75 = .ok (.goto (-40), 3) := by decide +kernel
theorem d_Mo_keep_78 : decode M_Mo_keep.2.1 78 = .ok (.iload_n 2, 1) := by decide +kernel
theorem d_Mo_keep_79 : decode M_Mo_keep.2.1 79 = .ok (.ireturn, 1) := by decide +kernel
theorem d_Mo_pillar_0 : decode M_Mo_pillar.2.1 0 = .ok (.aload_n 0, 1) := by decide +kernel
theorem d_Mo_pillar_1 : decode M_Mo_pillar.2.1 1 = .ok (.invokevirtual 154, 3) := by decide +kernel
theorem d_Mo_pillar_4 : decode M_Mo_pillar.2.1 4 = .ok (.aload_n 0, 1) := by decide +kernel
theorem d_Mo_pillar_5 : decode M_Mo_pillar.2.1 5 = .ok (.getfield 167, 3) := by decide +kernel
theorem d_Mo_pillar_8 : decode M_Mo_pillar.2.1 8 = .ok (.ifCond .ne 9, 3) := by decide +kernel
theorem d_Mo_pillar_11 : decode M_Mo_pillar.2.1 11 = .ok (.aload_n 0, 1) := by decide +kernel
theorem d_Mo_pillar_12 : decode M_Mo_pillar.2.1 12 = .ok (.iconst 1, 1) := by decide +kernel
theorem d_Mo_pillar_13 : decode M_Mo_pillar.2.1 13 = .ok (.invokevirtual 157, 3) := by decide +kernel
theorem d_Mo_pillar_16 : decode M_Mo_pillar.2.1 16 = .ok (.ireturn, 1) := by decide +kernel
theorem d_Mo_pillar_17 : decode M_Mo_pillar.2.1 17 = .ok (.aload_n 0, 1) := by decide +kernel
theorem d_Mo_pillar_18 : decode M_Mo_pillar.2.1 18 = .ok (.invokevirtual 281, 3) := by decide +kernel
theorem d_Mo_pillar_21 : decode M_Mo_pillar.2.1 21 = .ok (.bipush (-2), 2) := by decide +kernel
theorem d_Mo_pillar_23 : decode M_Mo_pillar.2.1 23 = .ok (.istore_n 1, 1) := by decide +kernel
theorem d_Mo_pillar_24 : decode M_Mo_pillar.2.1 24 = .ok (.ldc_w 345, 3) := by decide +kernel
theorem d_Mo_pillar_27 : decode M_Mo_pillar.2.1 27 = .ok (.istore_n 2, 1) := by decide +kernel
theorem d_Mo_pillar_28 : decode M_Mo_pillar.2.1 28 = .ok (.iconst 0, 1) := by decide +kernel
theorem d_Mo_pillar_29 : decode M_Mo_pillar.2.1 29 = .ok (.istore_n 3, 1) := by decide +kernel
theorem d_Mo_pillar_30 : decode M_Mo_pillar.2.1 30 = .ok (.iload_n 3, 1) := by decide +kernel
theorem d_Mo_pillar_31 : decode M_Mo_pillar.2.1 31 = .ok (.aload_n 0, 1) := by decide +kernel
theorem d_Mo_pillar_32 : decode M_Mo_pillar.2.1 32 = .ok (.getfield 20, 3) := by decide +kernel
theorem d_Mo_pillar_35 : decode M_Mo_pillar.2.1 35 = .ok (.iconst 2, 1) := by decide +kernel
theorem d_Mo_pillar_36 : decode M_Mo_pillar.2.1 36 = .ok (.iaload, 1) := by decide +kernel
theorem d_Mo_pillar_37 : decode M_Mo_pillar.2.1 37 = .ok (.if_icmp .ge 40, 3) := by decide +kernel
theorem d_Mo_pillar_40 : decode M_Mo_pillar.2.1 40 = .ok (.aload_n 0, 1) := by decide +kernel
theorem d_Mo_pillar_41 : decode M_Mo_pillar.2.1 41 = .ok (.aload_n 0, 1) := by decide +kernel
theorem d_Mo_pillar_42 : decode M_Mo_pillar.2.1 42 = .ok (.invokevirtual 339, 3) := by decide +kernel
theorem d_Mo_pillar_45 : decode M_Mo_pillar.2.1 45 = .ok (.iconst 1, 1) := by decide +kernel
theorem d_Mo_pillar_46 : decode M_Mo_pillar.2.1 46 = .ok (.iload_n 3, 1) := by decide +kernel
theorem d_Mo_pillar_47 : decode M_Mo_pillar.2.1 47 = .ok (.ishl, 1) := by decide +kernel
theorem d_Mo_pillar_48 : decode M_Mo_pillar.2.1 48 = .ok (.ixor, 1) := by decide +kernel
theorem d_Mo_pillar_49 : decode M_Mo_pillar.2.1 49 = .ok (.invokevirtual 342, 3) := by decide +kernel
theorem d_Mo_pillar_52 : decode M_Mo_pillar.2.1 52 = .ok (.invokestatic 307, 3) := by decide +kernel
theorem d_Mo_pillar_55 : decode M_Mo_pillar.2.1 55 = .ok (.istore 4, 2) := by decide +kernel
theorem d_Mo_pillar_57 : decode M_Mo_pillar.2.1 57 = .ok (.iload 4, 2) := by decide +kernel
theorem d_Mo_pillar_59 : decode M_Mo_pillar.2.1 59 = .ok (.iload_n 2, 1) := by decide +kernel
theorem d_Mo_pillar_60 : decode M_Mo_pillar.2.1 60 = .ok (.if_icmp .lt 6, 3) := by decide +kernel
theorem d_Mo_pillar_63 : decode M_Mo_pillar.2.1 63 = .ok (.goto 8, 3) := by decide +kernel
theorem d_Mo_pillar_66 : decode M_Mo_pillar.2.1 66 = .ok (.iload_n 3, 1) := by decide +kernel
theorem d_Mo_pillar_67 : decode M_Mo_pillar.2.1 67 = .ok (.istore_n 1, 1) := by decide +kernel
theorem d_Mo_pillar_68 : decode M_Mo_pillar.2.1 68 = .ok (.iload 4, 2) := by decide +kernel
theorem d_Mo_pillar_70 : decode M_Mo_pillar.2.1 70 = .ok (.istore_n 2, 1) := by decide +kernel
theorem d_Mo_pillar_71 : decode M_Mo_pillar.2.1 71 = .ok (.iinc 3 1, 3) := by decide +kernel
theorem d_Mo_pillar_74 : decode M_Mo_pillar.2.1 74 = .ok (.goto (-44), 3) := by decide +kernel
theorem d_Mo_pillar_77 : decode M_Mo_pillar.2.1 77 = .ok (.iload_n 1, 1) := by decide +kernel
theorem d_Mo_pillar_78 : decode M_Mo_pillar.2.1 78 = .ok (.ireturn, 1) := by decide +kernel
theorem d_Mo_allShapes_0 : decode M_Mo_allShapes.2.1 0 = .ok (.iconst 1, 1) := by decide +kernel
theorem d_Mo_allShapes_1 : decode M_Mo_allShapes.2.1 1 = .ok (.istore_n 1, 1) := by decide +kernel
theorem d_Mo_allShapes_2 : decode M_Mo_allShapes.2.1 2 = .ok (.iconst 0, 1) := by decide +kernel
theorem d_Mo_allShapes_3 : decode M_Mo_allShapes.2.1 3 = .ok (.istore_n 2, 1) := by decide +kernel
theorem d_Mo_allShapes_4 : decode M_Mo_allShapes.2.1 4 = .ok (.iload_n 2, 1) := by decide +kernel
theorem d_Mo_allShapes_5 : decode M_Mo_allShapes.2.1 5 = .ok (.aload_n 0, 1) := by decide +kernel
theorem d_Mo_allShapes_6 : decode M_Mo_allShapes.2.1 6 = .ok (.getfield 20, 3) := by decide +kernel
theorem d_Mo_allShapes_9 : decode M_Mo_allShapes.2.1 9 = .ok (.iconst 4, 1) := by decide +kernel
theorem d_Mo_allShapes_10 : decode M_Mo_allShapes.2.1 10 = .ok (.iaload, 1) := by decide +kernel
theorem d_Mo_allShapes_11 : decode M_Mo_allShapes.2.1 11 = .ok (.if_icmp .ge 13, 3) := by decide +kernel
theorem d_Mo_allShapes_14 : decode M_Mo_allShapes.2.1 14 = .ok (.iload_n 1, 1) := by decide +kernel
theorem d_Mo_allShapes_15 : decode M_Mo_allShapes.2.1 15 = .ok (.iconst 5, 1) := by decide +kernel
theorem d_Mo_allShapes_16 : decode M_Mo_allShapes.2.1 16 = .ok (.imul, 1) := by decide +kernel
theorem d_Mo_allShapes_17 : decode M_Mo_allShapes.2.1 17 = .ok (.istore_n 1, 1) := by decide +kernel
theorem d_Mo_allShapes_18 : decode M_Mo_allShapes.2.1 18 = .ok (.iinc 2 1, 3) := by decide +kernel
theorem d_Mo_allShapes_21 : decode M_Mo_allShapes.2.1 21 = .ok (.goto (-17), 3) := by decide +kernel
theorem d_Mo_allShapes_24 : decode M_Mo_allShapes.2.1 24 = .ok (.iload_n 1, 1) := by decide +kernel
theorem d_Mo_allShapes_25 : decode M_Mo_allShapes.2.1 25 = .ok (.ireturn, 1) := by decide +kernel
theorem d_Mo_shapeOf_0 : decode M_Mo_shapeOf.2.1 0 = .ok (.iload_n 1, 1) := by decide +kernel
theorem d_Mo_shapeOf_1 : decode M_Mo_shapeOf.2.1 1 = .ok (.istore_n 3, 1) := by decide +kernel
theorem d_Mo_shapeOf_2 : decode M_Mo_shapeOf.2.1 2 = .ok (.aload_n 0, 1) := by decide +kernel
theorem d_Mo_shapeOf_3 : decode M_Mo_shapeOf.2.1 3 = .ok (.getfield 20, 3) := by decide +kernel
theorem d_Mo_shapeOf_6 : decode M_Mo_shapeOf.2.1 6 = .ok (.iconst 4, 1) := by decide +kernel
theorem d_Mo_shapeOf_7 : decode M_Mo_shapeOf.2.1 7 = .ok (.iaload, 1) := by decide +kernel
theorem d_Mo_shapeOf_8 : decode M_Mo_shapeOf.2.1 8 = .ok (.iconst 1, 1) := by decide +kernel
theorem d_Mo_shapeOf_9 : decode M_Mo_shapeOf.2.1 9 = .ok (.isub, 1) := by decide +kernel
theorem d_Mo_shapeOf_10 : decode M_Mo_shapeOf.2.1 10 = .ok (.istore 4, 2) := by decide +kernel
theorem d_Mo_shapeOf_12 : decode M_Mo_shapeOf.2.1 12 = .ok (.iload 4, 2) := by decide +kernel
theorem d_Mo_shapeOf_14 : decode M_Mo_shapeOf.2.1 14 = .ok (.iload_n 2, 1) := by decide +kernel
theorem d_Mo_shapeOf_15 : decode M_Mo_shapeOf.2.1 15 = .ok (.if_icmp .le 13, 3) := by decide +kernel
theorem d_Mo_shapeOf_18 : decode M_Mo_shapeOf.2.1 18 = .ok (.iload_n 3, 1) := by decide +kernel
theorem d_Mo_shapeOf_19 : decode M_Mo_shapeOf.2.1 19 = .ok (.iconst 5, 1) := by decide +kernel
theorem d_Mo_shapeOf_20 : decode M_Mo_shapeOf.2.1 20 = .ok (.idiv, 1) := by decide +kernel
theorem d_Mo_shapeOf_21 : decode M_Mo_shapeOf.2.1 21 = .ok (.istore_n 3, 1) := by decide +kernel
theorem d_Mo_shapeOf_22 : decode M_Mo_shapeOf.2.1 22 = .ok (.iinc 4 (-1), 3) := by decide +kernel
theorem d_Mo_shapeOf_25 : decode M_Mo_shapeOf.2.1 25 = .ok (.goto (-13), 3) := by decide +kernel
theorem d_Mo_shapeOf_28 : decode M_Mo_shapeOf.2.1 28 = .ok (.iload_n 3, 1) := by decide +kernel
theorem d_Mo_shapeOf_29 : decode M_Mo_shapeOf.2.1 29 = .ok (.iconst 5, 1) := by decide +kernel
theorem d_Mo_shapeOf_30 : decode M_Mo_shapeOf.2.1 30 = .ok (.irem, 1) := by decide +kernel
theorem d_Mo_shapeOf_31 : decode M_Mo_shapeOf.2.1 31 = .ok (.ireturn, 1) := by decide +kernel
theorem d_Mo_wrongBy_0 : decode M_Mo_wrongBy.2.1 0 = .ok (.aload_n 0, 1) := by decide +kernel
theorem d_Mo_wrongBy_1 : decode M_Mo_wrongBy.2.1 1 = .ok (.invokevirtual 281, 3) := by decide +kernel
theorem d_Mo_wrongBy_4 : decode M_Mo_wrongBy.2.1 4 = .ok (.iconst 0, 1) := by decide +kernel
theorem d_Mo_wrongBy_5 : decode M_Mo_wrongBy.2.1 5 = .ok (.istore_n 2, 1) := by decide +kernel
theorem d_Mo_wrongBy_6 : decode M_Mo_wrongBy.2.1 6 = .ok (.iload_n 2, 1) := by decide +kernel
theorem d_Mo_wrongBy_7 : decode M_Mo_wrongBy.2.1 7 = .ok (.aload_n 0, 1) := by decide +kernel
theorem d_Mo_wrongBy_8 : decode M_Mo_wrongBy.2.1 8 = .ok (.getfield 20, 3) := by decide +kernel
theorem d_Mo_wrongBy_11 : decode M_Mo_wrongBy.2.1 11 = .ok (.iconst 4, 1) := by decide +kernel
theorem d_Mo_wrongBy_12 : decode M_Mo_wrongBy.2.1 12 = .ok (.iaload, 1) := by decide +kernel
theorem d_Mo_wrongBy_13 : decode M_Mo_wrongBy.2.1 13 = .ok (.if_icmp .ge 33, 3) := by decide +kernel
theorem d_Mo_wrongBy_16 : decode M_Mo_wrongBy.2.1 16 = .ok (.iload_n 1, 1) := by decide +kernel
theorem d_Mo_wrongBy_17 : decode M_Mo_wrongBy.2.1 17 = .ok (.ifCond .lt 29, 3) := by decide +kernel
theorem d_Mo_wrongBy_20 : decode M_Mo_wrongBy.2.1 20 = .ok (.aload_n 0, 1) := by decide +kernel
theorem d_Mo_wrongBy_21 : decode M_Mo_wrongBy.2.1 21 = .ok (.getfield 41, 3) := by decide +kernel
theorem d_Mo_wrongBy_24 : decode M_Mo_wrongBy.2.1 24 = .ok (.aload_n 0, 1) := by decide +kernel
theorem d_Mo_wrongBy_25 : decode M_Mo_wrongBy.2.1 25 = .ok (.getfield 20, 3) := by decide +kernel
theorem d_Mo_wrongBy_28 : decode M_Mo_wrongBy.2.1 28 = .ok (.bipush 29, 2) := by decide +kernel
theorem d_Mo_wrongBy_30 : decode M_Mo_wrongBy.2.1 30 = .ok (.iload_n 2, 1) := by decide +kernel
theorem d_Mo_wrongBy_31 : decode M_Mo_wrongBy.2.1 31 = .ok (.iadd, 1) := by decide +kernel
theorem d_Mo_wrongBy_32 : decode M_Mo_wrongBy.2.1 32 = .ok (.iaload, 1) := by decide +kernel
theorem d_Mo_wrongBy_33 : decode M_Mo_wrongBy.2.1 33 = .ok (.aload_n 0, 1) := by decide +kernel
theorem d_Mo_wrongBy_34 : decode M_Mo_wrongBy.2.1 34 = .ok (.iload_n 1, 1) := by decide +kernel
theorem d_Mo_wrongBy_35 : decode M_Mo_wrongBy.2.1 35 = .ok (.iload_n 2, 1) := by decide +kernel
theorem d_Mo_wrongBy_36 : decode M_Mo_wrongBy.2.1 36 = .ok (.invokevirtual 346, 3) := by decide +kernel
theorem d_Mo_wrongBy_39 : decode M_Mo_wrongBy.2.1 39 = .ok (.iastore, 1) := by decide +kernel
theorem d_Mo_wrongBy_40 : decode M_Mo_wrongBy.2.1 40 = .ok (.iinc 2 1, 3) := by decide +kernel
theorem d_Mo_wrongBy_43 : decode M_Mo_wrongBy.2.1 43 = .ok (.goto (-37), 3) := by decide +kernel
theorem d_Mo_wrongBy_46 : decode M_Mo_wrongBy.2.1 46 = .ok (.iconst 0, 1) := by decide +kernel
theorem d_Mo_wrongBy_47 : decode M_Mo_wrongBy.2.1 47 = .ok (.istore_n 2, 1) := by decide +kernel
theorem d_Mo_wrongBy_48 : decode M_Mo_wrongBy.2.1 48 = .ok (.iload_n 2, 1) := by decide +kernel
theorem d_Mo_wrongBy_49 : decode M_Mo_wrongBy.2.1 49 = .ok (.aload_n 0, 1) := by decide +kernel
theorem d_Mo_wrongBy_50 : decode M_Mo_wrongBy.2.1 50 = .ok (.getfield 20, 3) := by decide +kernel
theorem d_Mo_wrongBy_53 : decode M_Mo_wrongBy.2.1 53 = .ok (.iconst 5, 1) := by decide +kernel
theorem d_Mo_wrongBy_54 : decode M_Mo_wrongBy.2.1 54 = .ok (.iaload, 1) := by decide +kernel
theorem d_Mo_wrongBy_55 : decode M_Mo_wrongBy.2.1 55 = .ok (.if_icmp .ge 62, 3) := by decide +kernel
theorem d_Mo_wrongBy_58 : decode M_Mo_wrongBy.2.1 58 = .ok (.aload_n 0, 1) := by decide +kernel
theorem d_Mo_wrongBy_59 : decode M_Mo_wrongBy.2.1 59 = .ok (.aload_n 0, 1) := by decide +kernel
theorem d_Mo_wrongBy_60 : decode M_Mo_wrongBy.2.1 60 = .ok (.getfield 26, 3) := by decide +kernel
theorem d_Mo_wrongBy_63 : decode M_Mo_wrongBy.2.1 63 = .ok (.iconst 2, 1) := by decide +kernel
theorem d_Mo_wrongBy_64 : decode M_Mo_wrongBy.2.1 64 = .ok (.aload_n 0, 1) := by decide +kernel
theorem d_Mo_wrongBy_65 : decode M_Mo_wrongBy.2.1 65 = .ok (.getfield 20, 3) := by decide +kernel
theorem d_Mo_wrongBy_68 : decode M_Mo_wrongBy.2.1 68 = .ok (.bipush 32, 2) := by decide +kernel
theorem d_Mo_wrongBy_70 : decode M_Mo_wrongBy.2.1 70 = .ok (.iconst 3, 1) := by decide +kernel
theorem d_Mo_wrongBy_71 : decode M_Mo_wrongBy.2.1 71 = .ok (.iload_n 2, 1) := by decide +kernel
theorem d_Mo_wrongBy_72 : decode M_Mo_wrongBy.2.1 72 = .ok (.imul, 1) := by decide +kernel
theorem d_Mo_wrongBy_73 : decode M_Mo_wrongBy.2.1 73 = .ok (.iadd, 1) := by decide +kernel
theorem d_Mo_wrongBy_74 : decode M_Mo_wrongBy.2.1 74 = .ok (.iaload, 1) := by decide +kernel
theorem d_Mo_wrongBy_75 : decode M_Mo_wrongBy.2.1 75 = .ok (.imul, 1) := by decide +kernel
theorem d_Mo_wrongBy_76 : decode M_Mo_wrongBy.2.1 76 = .ok (.aload_n 0, 1) := by decide +kernel
theorem d_Mo_wrongBy_77 : decode M_Mo_wrongBy.2.1 77 = .ok (.getfield 20, 3) := by decide +kernel
theorem d_Mo_wrongBy_80 : decode M_Mo_wrongBy.2.1 80 = .ok (.bipush 32, 2) := by decide +kernel
theorem d_Mo_wrongBy_82 : decode M_Mo_wrongBy.2.1 82 = .ok (.iconst 3, 1) := by decide +kernel
theorem d_Mo_wrongBy_83 : decode M_Mo_wrongBy.2.1 83 = .ok (.iload_n 2, 1) := by decide +kernel
theorem d_Mo_wrongBy_84 : decode M_Mo_wrongBy.2.1 84 = .ok (.imul, 1) := by decide +kernel
theorem d_Mo_wrongBy_85 : decode M_Mo_wrongBy.2.1 85 = .ok (.iadd, 1) := by decide +kernel
theorem d_Mo_wrongBy_86 : decode M_Mo_wrongBy.2.1 86 = .ok (.iconst 1, 1) := by decide +kernel
theorem d_Mo_wrongBy_87 : decode M_Mo_wrongBy.2.1 87 = .ok (.iadd, 1) := by decide +kernel
theorem d_Mo_wrongBy_88 : decode M_Mo_wrongBy.2.1 88 = .ok (.iaload, 1) := by decide +kernel
theorem d_Mo_wrongBy_89 : decode M_Mo_wrongBy.2.1 89 = .ok (.iadd, 1) := by decide +kernel
theorem d_Mo_wrongBy_90 : decode M_Mo_wrongBy.2.1 90 = .ok (.invokevirtual 292, 3) := by decide +kernel
theorem d_Mo_wrongBy_93 : decode M_Mo_wrongBy.2.1 93 = .ok (.aload_n 0, 1) := by decide +kernel
theorem d_Mo_wrongBy_94 : decode M_Mo_wrongBy.2.1 94 = .ok (.getfield 20, 3) := by decide +kernel
theorem d_Mo_wrongBy_97 : decode M_Mo_wrongBy.2.1 97 = .ok (.bipush 32, 2) := by decide +kernel
theorem d_Mo_wrongBy_99 : decode M_Mo_wrongBy.2.1 99 = .ok (.iconst 3, 1) := by decide +kernel
theorem d_Mo_wrongBy_100 : decode M_Mo_wrongBy.2.1 100 = .ok (.iload_n 2, 1) := by decide +kernel
theorem d_Mo_wrongBy_101 : decode M_Mo_wrongBy.2.1 101 = .ok (.imul, 1) := by decide +kernel
theorem d_Mo_wrongBy_102 : decode M_Mo_wrongBy.2.1 102 = .ok (.iadd, 1) := by decide +kernel
theorem d_Mo_wrongBy_103 : decode M_Mo_wrongBy.2.1 103 = .ok (.iconst 2, 1) := by decide +kernel
theorem d_Mo_wrongBy_104 : decode M_Mo_wrongBy.2.1 104 = .ok (.iadd, 1) := by decide +kernel
theorem d_Mo_wrongBy_105 : decode M_Mo_wrongBy.2.1 105 = .ok (.iaload, 1) := by decide +kernel
theorem d_Mo_wrongBy_106 : decode M_Mo_wrongBy.2.1 106 = .ok (.if_icmp .eq 5, 3) := by decide +kernel
theorem d_Mo_wrongBy_109 : decode M_Mo_wrongBy.2.1 109 = .ok (.iload_n 2, 1) := by decide +kernel
theorem d_Mo_wrongBy_110 : decode M_Mo_wrongBy.2.1 110 = .ok (.ireturn, 1) := by decide +kernel
theorem d_Mo_wrongBy_111 : decode M_Mo_wrongBy.2.1 111 = .ok (.iinc 2 1, 3) := by decide +kernel
theorem d_Mo_wrongBy_114 : decode M_Mo_wrongBy.2.1 114 = .ok (.goto (-66), 3) := by decide +kernel
theorem d_Mo_wrongBy_117 : decode M_Mo_wrongBy.2.1 117 = .ok (.bipush (-2), 2) := by decide +kernel
theorem d_Mo_wrongBy_119 : decode M_Mo_wrongBy.2.1 119 = .ok (.ireturn, 1) := by decide +kernel
theorem d_Mo_fits_0 : decode M_Mo_fits.2.1 0 = .ok (.aload_n 0, 1) := by decide +kernel
theorem d_Mo_fits_1 : decode M_Mo_fits.2.1 1 = .ok (.invokevirtual 154, 3) := by decide +kernel
theorem d_Mo_fits_4 : decode M_Mo_fits.2.1 4 = .ok (.aload_n 0, 1) := by decide +kernel
theorem d_Mo_fits_5 : decode M_Mo_fits.2.1 5 = .ok (.getfield 167, 3) := by decide +kernel
theorem d_Mo_fits_8 : decode M_Mo_fits.2.1 8 = .ok (.ifCond .ne 9, 3) := by decide +kernel
theorem d_Mo_fits_11 : decode M_Mo_fits.2.1 11 = .ok (.aload_n 0, 1) := by decide +kernel
theorem d_Mo_fits_12 : decode M_Mo_fits.2.1 12 = .ok (.iconst 1, 1) := by decide +kernel
theorem d_Mo_fits_13 : decode M_Mo_fits.2.1 13 = .ok (.invokevirtual 157, 3) := by decide +kernel
theorem d_Mo_fits_16 : decode M_Mo_fits.2.1 16 = .ok (.ireturn, 1) := by decide +kernel
theorem d_Mo_fits_17 : decode M_Mo_fits.2.1 17 = .ok (.iconst 0, 1) := by decide +kernel
theorem d_Mo_fits_18 : decode M_Mo_fits.2.1 18 = .ok (.istore_n 1, 1) := by decide +kernel
theorem d_Mo_fits_19 : decode M_Mo_fits.2.1 19 = .ok (.iconst 0, 1) := by decide +kernel
theorem d_Mo_fits_20 : decode M_Mo_fits.2.1 20 = .ok (.istore_n 2, 1) := by decide +kernel
theorem d_Mo_fits_21 : decode M_Mo_fits.2.1 21 = .ok (.iload_n 2, 1) := by decide +kernel
theorem d_Mo_fits_22 : decode M_Mo_fits.2.1 22 = .ok (.aload_n 0, 1) := by decide +kernel
theorem d_Mo_fits_23 : decode M_Mo_fits.2.1 23 = .ok (.invokevirtual 349, 3) := by decide +kernel
theorem d_Mo_fits_26 : decode M_Mo_fits.2.1 26 = .ok (.if_icmp .ge 27, 3) := by decide +kernel
theorem d_Mo_fits_29 : decode M_Mo_fits.2.1 29 = .ok (.iload_n 1, 1) := by decide +kernel
theorem d_Mo_fits_30 : decode M_Mo_fits.2.1 30 = .ok (.aload_n 0, 1) := by decide +kernel
theorem d_Mo_fits_31 : decode M_Mo_fits.2.1 31 = .ok (.iload_n 2, 1) := by decide +kernel
theorem d_Mo_fits_32 : decode M_Mo_fits.2.1 32 = .ok (.invokevirtual 352, 3) := by decide +kernel
theorem d_Mo_fits_35 : decode M_Mo_fits.2.1 35 = .ok (.bipush (-2), 2) := by decide +kernel
theorem d_Mo_fits_37 : decode M_Mo_fits.2.1 37 = .ok (.if_icmp .ne 7, 3) := by decide +kernel
theorem d_Mo_fits_40 : decode M_Mo_fits.2.1 40 = .ok (.iconst 1, 1) := by decide +kernel
theorem d_Mo_fits_41 : decode M_Mo_fits.2.1 41 = .ok (.goto 4, 3) := by decide +kernel
theorem d_Mo_fits_44 : decode M_Mo_fits.2.1 44 = .ok (.iconst 0, 1) := by decide +kernel
theorem d_Mo_fits_45 : decode M_Mo_fits.2.1 45 = .ok (.iadd, 1) := by decide +kernel
theorem d_Mo_fits_46 : decode M_Mo_fits.2.1 46 = .ok (.istore_n 1, 1) := by decide +kernel
theorem d_Mo_fits_47 : decode M_Mo_fits.2.1 47 = .ok (.iinc 2 1, 3) := by decide +kernel
theorem d_Mo_fits_50 : decode M_Mo_fits.2.1 50 = .ok (.goto (-29), 3) := by decide +kernel
theorem d_Mo_fits_53 : decode M_Mo_fits.2.1 53 = .ok (.iload_n 1, 1) := by decide +kernel
theorem d_Mo_fits_54 : decode M_Mo_fits.2.1 54 = .ok (.ireturn, 1) := by decide +kernel
theorem d_Mo_isVeiled_0 : decode M_Mo_isVeiled.2.1 0 = .ok (.aload_n 0, 1) := by decide +kernel
theorem d_Mo_isVeiled_1 : decode M_Mo_isVeiled.2.1 1 = .ok (.getfield 167, 3) := by decide +kernel
theorem d_Mo_isVeiled_4 : decode M_Mo_isVeiled.2.1 4 = .ok (.ifCond .eq 23, 3) := by decide +kernel
theorem d_Mo_isVeiled_7 : decode M_Mo_isVeiled.2.1 7 = .ok (.iload_n 1, 1) := by decide +kernel
theorem d_Mo_isVeiled_8 : decode M_Mo_isVeiled.2.1 8 = .ok (.iconst 0, 1) := by decide +kernel
theorem d_Mo_isVeiled_9 : decode M_Mo_isVeiled.2.1 9 = .ok (.aload_n 0, 1) := by decide +kernel
theorem d_Mo_isVeiled_10 : decode M_Mo_isVeiled.2.1 10 = .ok (.getfield 20, 3) := by decide +kernel
theorem d_Mo_isVeiled_13 : decode M_Mo_isVeiled.2.1 13 = .ok (.iconst 4, 1) := by decide +kernel
theorem d_Mo_isVeiled_14 : decode M_Mo_isVeiled.2.1 14 = .ok (.iaload, 1) := by decide +kernel
theorem d_Mo_isVeiled_15 : decode M_Mo_isVeiled.2.1 15 = .ok (.iconst 1, 1) := by decide +kernel
theorem d_Mo_isVeiled_16 : decode M_Mo_isVeiled.2.1 16 = .ok (.isub, 1) := by decide +kernel
theorem d_Mo_isVeiled_17 : decode M_Mo_isVeiled.2.1 17 = .ok (.invokestatic 142, 3) := by decide +kernel
theorem d_Mo_isVeiled_20 : decode M_Mo_isVeiled.2.1 20 = .ok (.ifCond .eq 7, 3) := by decide +kernel
theorem d_Mo_isVeiled_23 : decode M_Mo_isVeiled.2.1 23 = .ok (.iconst 1, 1) := by decide +kernel
theorem d_Mo_isVeiled_24 : decode M_Mo_isVeiled.2.1 24 = .ok (.goto 4, 3) := by decide +kernel
theorem d_Mo_isVeiled_27 : decode M_Mo_isVeiled.2.1 27 = .ok (.iconst 0, 1) := by decide +kernel
theorem d_Mo_isVeiled_28 : decode M_Mo_isVeiled.2.1 28 = .ok (.ireturn, 1) := by decide +kernel
theorem d_Mo_fitAt_0 : decode M_Mo_fitAt.2.1 0 = .ok (.aload_n 0, 1) := by decide +kernel
theorem d_Mo_fitAt_1 : decode M_Mo_fitAt.2.1 1 = .ok (.invokevirtual 154, 3) := by decide +kernel
theorem d_Mo_fitAt_4 : decode M_Mo_fitAt.2.1 4 = .ok (.aload_n 0, 1) := by decide +kernel
theorem d_Mo_fitAt_5 : decode M_Mo_fitAt.2.1 5 = .ok (.iload_n 2, 1) := by decide +kernel
theorem d_Mo_fitAt_6 : decode M_Mo_fitAt.2.1 6 = .ok (.invokevirtual 355, 3) := by decide +kernel
theorem d_Mo_fitAt_9 : decode M_Mo_fitAt.2.1 9 = .ok (.ifCond .ne 9, 3) := by decide +kernel
theorem d_Mo_fitAt_12 : decode M_Mo_fitAt.2.1 12 = .ok (.aload_n 0, 1) := by decide +kernel
theorem d_Mo_fitAt_13 : decode M_Mo_fitAt.2.1 13 = .ok (.iconst 1, 1) := by decide +kernel
theorem d_Mo_fitAt_14 : decode M_Mo_fitAt.2.1 14 = .ok (.invokevirtual 157, 3) := by decide +kernel
theorem d_Mo_fitAt_17 : decode M_Mo_fitAt.2.1 17 = .ok (.ireturn, 1) := by decide +kernel
theorem d_Mo_fitAt_18 : decode M_Mo_fitAt.2.1 18 = .ok (.iconst 0, 1) := by decide +kernel
theorem d_Mo_fitAt_19 : decode M_Mo_fitAt.2.1 19 = .ok (.istore_n 3, 1) := by decide +kernel
theorem d_Mo_fitAt_20 : decode M_Mo_fitAt.2.1 20 = .ok (.iconst 0, 1) := by decide +kernel
theorem d_Mo_fitAt_21 : decode M_Mo_fitAt.2.1 21 = .ok (.istore 4, 2) := by decide +kernel
theorem d_Mo_fitAt_23 : decode M_Mo_fitAt.2.1 23 = .ok (.iload 4, 2) := by decide +kernel
theorem d_Mo_fitAt_25 : decode M_Mo_fitAt.2.1 25 = .ok (.aload_n 0, 1) := by decide +kernel
theorem d_Mo_fitAt_26 : decode M_Mo_fitAt.2.1 26 = .ok (.invokevirtual 349, 3) := by decide +kernel
theorem d_Mo_fitAt_29 : decode M_Mo_fitAt.2.1 29 = .ok (.if_icmp .ge 39, 3) := by decide +kernel
theorem d_Mo_fitAt_32 : decode M_Mo_fitAt.2.1 32 = .ok (.aload_n 0, 1) := by decide +kernel
theorem d_Mo_fitAt_33 : decode M_Mo_fitAt.2.1 33 = .ok (.iload 4, 2) := by decide +kernel
theorem d_Mo_fitAt_35 : decode M_Mo_fitAt.2.1 35 = .ok (.invokevirtual 352, 3) := by decide +kernel
theorem d_Mo_fitAt_38 : decode M_Mo_fitAt.2.1 38 = .ok (.bipush (-2), 2) := by decide +kernel
theorem d_Mo_fitAt_40 : decode M_Mo_fitAt.2.1 40 = .ok (.if_icmp .eq 6, 3) := by decide +kernel
theorem d_Mo_fitAt_43 : decode M_Mo_fitAt.2.1 43 = .ok (.goto 19, 3) := by decide +kernel
theorem d_Mo_fitAt_46 : decode M_Mo_fitAt.2.1 46 = .ok (.iload_n 3, 1) := by decide +kernel
theorem d_Mo_fitAt_47 : decode M_Mo_fitAt.2.1 47 = .ok (.iload_n 1, 1) := by decide +kernel
theorem d_Mo_fitAt_48 : decode M_Mo_fitAt.2.1 48 = .ok (.if_icmp .ne 11, 3) := by decide +kernel
theorem d_Mo_fitAt_51 : decode M_Mo_fitAt.2.1 51 = .ok (.aload_n 0, 1) := by decide +kernel
theorem d_Mo_fitAt_52 : decode M_Mo_fitAt.2.1 52 = .ok (.iload 4, 2) := by decide +kernel
theorem d_Mo_fitAt_54 : decode M_Mo_fitAt.2.1 54 = .ok (.iload_n 2, 1) := by decide +kernel
theorem d_Mo_fitAt_55 : decode M_Mo_fitAt.2.1 55 = .ok (.invokevirtual 346, 3) := by decide +kernel
theorem d_Mo_fitAt_58 : decode M_Mo_fitAt.2.1 58 = .ok (.ireturn, 1) := by decide +kernel
theorem d_Mo_fitAt_59 : decode M_Mo_fitAt.2.1 59 = .ok (.iinc 3 1, 3) := by decide +kernel
theorem d_Mo_fitAt_62 : decode M_Mo_fitAt.2.1 62 = .ok (.iinc 4 1, 3) := by decide +kernel
theorem d_Mo_fitAt_65 : decode M_Mo_fitAt.2.1 65 = .ok (.goto (-42), 3) := by decide +kernel
theorem d_Mo_fitAt_68 : decode M_Mo_fitAt.2.1 68 = .ok (.aload_n 0, 1) := by decide +kernel
theorem d_Mo_fitAt_69 : decode M_Mo_fitAt.2.1 69 = .ok (.iconst 1, 1) := by decide +kernel
theorem d_Mo_fitAt_70 : decode M_Mo_fitAt.2.1 70 = .ok (.invokevirtual 157, 3) := by decide +kernel
theorem d_Mo_fitAt_73 : decode M_Mo_fitAt.2.1 73 = .ok (.ireturn, 1) := by decide +kernel
set_option maxRecDepth 4000 in
theorem t_Mo_why {d : Nat} {I : Nat → Nat → Int32} {J : Nat → Nat → Int64} {R : Nat → Nat → Option Nat} {Q : Option Value → ow_H → Prop} {p1 : Int32} {p2 : Int32}  (hR : ow_RF R) (T : ((¬ p1 = 0 → ((p2 = 0 → Q (some (.int 2)) (85, I, J, R)) ∧ (¬ p2 = 0 → Q (some (.int 0)) (85, I, J, R)))) ∧ (p1 = 0 → Q (some (.int 1)) (85, I, J, R)))) : ow_AM M_Mo_why (d + 1) [.ref 70, .int p1, .int p2] (85, I, J, R) Q := by
  refine ow_enter (by decide) (Nat.le_of_ble_eq_true rfl) ?_
  show ow_AW ow_Y0 (ow_Z Q) M_Mo_why (d + 1) 0 0 0 [(0, .ref 70), (1, .int p1), (2, .int p2)] [] (85, I, J, R) 0 0
  refine ow_iload_n 1 rfl d_Mo_why_0 ?_
  refine ow_if_ne (tgt := 8) d_Mo_why_1 (by decide) (fun c => ?_) (fun c => ?_)
  · replace T := T.1 c
    refine ow_iload_n 2 rfl d_Mo_why_8 ?_
    refine ow_if_eq (tgt := 16) d_Mo_why_9 (by decide) (fun c => ?_) (fun c => ?_)
    · replace T := T.1 c
      refine ow_iconst (v := 2) (by decide) d_Mo_why_16 ?_
      exact ow_iret d_Mo_why_17 rfl T
    · replace T := T.2 c
      refine ow_iconst (v := 0) (by decide) d_Mo_why_12 ?_
      refine ow_goto (tgt := 17) d_Mo_why_13 (by decide) ?_
      exact ow_iret d_Mo_why_17 rfl T
  · replace T := T.2 c
    refine ow_iconst (v := 1) (by decide) d_Mo_why_4 ?_
    refine ow_goto (tgt := 17) d_Mo_why_5 (by decide) ?_
    exact ow_iret d_Mo_why_17 rfl T
set_option maxRecDepth 4000 in
theorem t_Mo_signsIn {d : Nat} {I : Nat → Nat → Int32} {J : Nat → Nat → Int64} {R : Nat → Nat → Option Nat} {Q : Option Value → ow_H → Prop} {p1 : Int32} {p2 : Int32} {p3 : Int32}  (hR : ow_RF R) (T : (ow_AM M_Mo_good d [.ref 70] (85, I, J, R) (fun r h' => ∃ (I9 : Nat → Nat → Int32) (J9 : Nat → Nat → Int64) (R9 : Nat → Nat → Option Nat), r = none ∧ h' = (85, I9, J9, R9) ∧ ow_RF R9 ∧ (ow_AM M_Mo_isFolly d [.ref 70, .int p1] (85, I9, J9, R9) (fun r h' => ∃ (r10 : Int32) (I10 : Nat → Nat → Int32) (J10 : Nat → Nat → Int64) (R10 : Nat → Nat → Option Nat), r = some (.int r10) ∧ h' = (85, I10, J10, R10) ∧ ow_RF R10 ∧ (ow_AM M_Mo_in d [.int p3, .int 0, .int 60] (85, I10, J10, R10) (fun r h' => ∃ (r11 : Int32) (I11 : Nat → Nat → Int32) (J11 : Nat → Nat → Int64) (R11 : Nat → Nat → Option Nat), r = some (.int r11) ∧ h' = (85, I11, J11, R11) ∧ ow_RF R11 ∧ (ow_AM M_Mo_why d [.ref 70, .int r10, .int r11] (85, I11, J11, R11) (fun r h' => ∃ (r12 : Int32) (I12 : Nat → Nat → Int32) (J12 : Nat → Nat → Int64) (R12 : Nat → Nat → Option Nat), r = some (.int r12) ∧ h' = (85, I12, J12, R12) ∧ ow_RF R12 ∧ ((r12 = 0 → (ow_AM M_Mo_yearsOn d [.ref 70, .int p3] (85, I12, J12, R12) (fun r h' => ∃ (I13 : Nat → Nat → Int32) (J13 : Nat → Nat → Int64) (R13 : Nat → Nat → Option Nat), r = none ∧ h' = (85, I13, J13, R13) ∧ ow_RF R13 ∧ (ow_AM M_Mo_letterOf d [.ref 70, .int p1, .int p2] (85, I13, J13, R13) (fun r h' => ∃ (r14 : Int32) (I14 : Nat → Nat → Int32) (J14 : Nat → Nat → Int64) (R14 : Nat → Nat → Option Nat), r = some (.int r14) ∧ h' = (85, I14, J14, R14) ∧ ow_RF R14 ∧ (ow_AM M_Mo_signsOf d [.ref 70, .ref 82, .int r14] (85, I14, J14, R14) (fun r h' => ∃ (r15 : Int32) (I15 : Nat → Nat → Int32) (J15 : Nat → Nat → Int64) (R15 : Nat → Nat → Option Nat), r = some (.int r15) ∧ h' = (85, I15, J15, R15) ∧ ow_RF R15 ∧ Q (some (.int r15)) (85, I15, J15, R15)))))))) ∧ (¬ r12 = 0 → (ow_AM M_Mo_no d [.ref 70, .int r12] (85, I12, J12, R12) (fun r h' => ∃ (r16 : Int32) (I16 : Nat → Nat → Int32) (J16 : Nat → Nat → Int64) (R16 : Nat → Nat → Option Nat), r = some (.int r16) ∧ h' = (85, I16, J16, R16) ∧ ow_RF R16 ∧ Q (some (.int r16)) (85, I16, J16, R16)))))))))))))) : ow_AM M_Mo_signsIn (d + 1) [.ref 70, .int p1, .int p2, .int p3] (85, I, J, R) Q := by
  refine ow_enter (by decide) (Nat.le_of_ble_eq_true rfl) ?_
  show ow_AW ow_Y0 (ow_Z Q) M_Mo_signsIn (d + 1) 0 0 0 [(0, .ref 70), (1, .int p1), (2, .int p2), (3, .int p3)] [] (85, I, J, R) 0 0
  refine ow_aload_n 0 rfl d_Mo_signsIn_0 ?_
  refine ow_callV (b := 70) (cq := 12) (As := []) (rest := []) (d2 := d) d_Mo_signsIn_1 l_Mo_154 v_Mo_good (show 70 < 85 by decide) rfl (by decide) rfl (Nat.le_of_ble_eq_true rfl) (Nat.le_refl _) ⟨Nat.le_refl _, Nat.le_refl _⟩ (ow_mono T ?_)
  rintro r h' ⟨I9, J9, R9, rfl, rfl, hR9, T⟩
  show ow_AW ow_Y0 (ow_Z Q) M_Mo_signsIn (d + 1) 0 0 4 [(0, .ref 70), (1, .int p1), (2, .int p2), (3, .int p3)] [] (85, I9, J9, R9) 0 0
  refine ow_aload_n 0 rfl d_Mo_signsIn_4 ?_
  refine ow_aload_n 0 rfl d_Mo_signsIn_5 ?_
  refine ow_iload_n 1 rfl d_Mo_signsIn_6 ?_
  refine ow_callV (b := 70) (cq := 12) (As := [.int p1]) (rest := [.ref 70]) (d2 := d) d_Mo_signsIn_7 l_Mo_272 v_Mo_isFolly (show 70 < 85 by decide) rfl (by decide) rfl (Nat.le_of_ble_eq_true rfl) (Nat.le_refl _) ⟨Nat.le_refl _, Nat.le_refl _⟩ (ow_mono T ?_)
  rintro r h' ⟨r10, I10, J10, R10, rfl, rfl, hR10, T⟩
  show ow_AW ow_Y0 (ow_Z Q) M_Mo_signsIn (d + 1) 0 0 10 [(0, .ref 70), (1, .int p1), (2, .int p2), (3, .int p3)] [.int r10, .ref 70] (85, I10, J10, R10) 0 0
  refine ow_iload_n 3 rfl d_Mo_signsIn_10 ?_
  refine ow_iconst (v := 0) (by decide) d_Mo_signsIn_11 ?_
  refine ow_bipush (v := 60) (by decide) d_Mo_signsIn_12 ?_
  refine ow_callS (As := [.int p3, .int 0, .int 60]) (rest := [.int r10, .ref 70]) (d2 := d) d_Mo_signsIn_14 l_Mo_142 v_Mo_in (Nat.le_of_ble_eq_true rfl) (Nat.le_refl _) ⟨Nat.le_refl _, Nat.le_refl _⟩ (ow_mono T ?_)
  rintro r h' ⟨r11, I11, J11, R11, rfl, rfl, hR11, T⟩
  show ow_AW ow_Y0 (ow_Z Q) M_Mo_signsIn (d + 1) 0 0 17 [(0, .ref 70), (1, .int p1), (2, .int p2), (3, .int p3)] [.int r11, .int r10, .ref 70] (85, I11, J11, R11) 0 0
  refine ow_callV (b := 70) (cq := 12) (As := [.int r10, .int r11]) (rest := []) (d2 := d) d_Mo_signsIn_17 l_Mo_323 v_Mo_why (show 70 < 85 by decide) rfl (by decide) rfl (Nat.le_of_ble_eq_true rfl) (Nat.le_refl _) ⟨Nat.le_refl _, Nat.le_refl _⟩ (ow_mono T ?_)
  rintro r h' ⟨r12, I12, J12, R12, rfl, rfl, hR12, T⟩
  show ow_AW ow_Y0 (ow_Z Q) M_Mo_signsIn (d + 1) 0 0 20 [(0, .ref 70), (1, .int p1), (2, .int p2), (3, .int p3)] [.int r12] (85, I12, J12, R12) 0 0
  refine ow_istore (ls2 := [(4, .int r12), (0, .ref 70), (1, .int p1), (2, .int p2), (3, .int p3)]) d_Mo_signsIn_20 (by decide) rfl ?_
  refine ow_iload 0 rfl d_Mo_signsIn_22 ?_
  refine ow_if_eq (tgt := 34) d_Mo_signsIn_24 (by decide) (fun c => ?_) (fun c => ?_)
  · replace T := T.1 c
    refine ow_aload_n 1 rfl d_Mo_signsIn_34 ?_
    refine ow_iload_n 4 rfl d_Mo_signsIn_35 ?_
    refine ow_callV (b := 70) (cq := 12) (As := [.int p3]) (rest := []) (d2 := d) d_Mo_signsIn_36 l_Mo_327 v_Mo_yearsOn (show 70 < 85 by decide) rfl (by decide) rfl (Nat.le_of_ble_eq_true rfl) (Nat.le_refl _) ⟨Nat.le_refl _, Nat.le_refl _⟩ (ow_mono T ?_)
    rintro r h' ⟨I13, J13, R13, rfl, rfl, hR13, T⟩
    show ow_AW ow_Y0 (ow_Z Q) M_Mo_signsIn (d + 1) 0 0 39 [(4, .int r12), (0, .ref 70), (1, .int p1), (2, .int p2), (3, .int p3)] [] (85, I13, J13, R13) 0 0
    refine ow_aload_n 1 rfl d_Mo_signsIn_39 ?_
    refine ow_aload_n 1 rfl d_Mo_signsIn_40 ?_
    refine ow_gR (a := 82) 200 d_Mo_signsIn_41 rfl rfl (by decide) rfl ⟨rfl, hR13 70 31 (by decide)⟩ ?_
    refine ow_aload_n 1 rfl d_Mo_signsIn_44 ?_
    refine ow_iload_n 2 rfl d_Mo_signsIn_45 ?_
    refine ow_iload_n 3 rfl d_Mo_signsIn_46 ?_
    refine ow_callV (b := 70) (cq := 12) (As := [.int p1, .int p2]) (rest := [.ref 82, .ref 70]) (d2 := d) d_Mo_signsIn_47 l_Mo_288 v_Mo_letterOf (show 70 < 85 by decide) rfl (by decide) rfl (Nat.le_of_ble_eq_true rfl) (Nat.le_refl _) ⟨Nat.le_refl _, Nat.le_refl _⟩ (ow_mono T ?_)
    rintro r h' ⟨r14, I14, J14, R14, rfl, rfl, hR14, T⟩
    show ow_AW ow_Y0 (ow_Z Q) M_Mo_signsIn (d + 1) 0 0 50 [(4, .int r12), (0, .ref 70), (1, .int p1), (2, .int p2), (3, .int p3)] [.int r14, .ref 82, .ref 70] (85, I14, J14, R14) 0 0
    refine ow_callV (b := 70) (cq := 12) (As := [.ref 82, .int r14]) (rest := []) (d2 := d) d_Mo_signsIn_50 l_Mo_292 v_Mo_signsOf (show 70 < 85 by decide) rfl (by decide) rfl (Nat.le_of_ble_eq_true rfl) (Nat.le_refl _) ⟨Nat.le_refl _, Nat.le_refl _⟩ (ow_mono T ?_)
    rintro r h' ⟨r15, I15, J15, R15, rfl, rfl, hR15, T⟩
    show ow_AW ow_Y0 (ow_Z Q) M_Mo_signsIn (d + 1) 0 0 53 [(4, .int r12), (0, .ref 70), (1, .int p1), (2, .int p2), (3, .int p3)] [.int r15] (85, I15, J15, R15) 0 0
    exact ow_iret d_Mo_signsIn_53 rfl T
  · replace T := T.2 c
    refine ow_aload_n 1 rfl d_Mo_signsIn_27 ?_
    refine ow_iload 0 rfl d_Mo_signsIn_28 ?_
    refine ow_callV (b := 70) (cq := 12) (As := [.int r12]) (rest := []) (d2 := d) d_Mo_signsIn_30 l_Mo_157 v_Mo_no (show 70 < 85 by decide) rfl (by decide) rfl (Nat.le_of_ble_eq_true rfl) (Nat.le_refl _) ⟨Nat.le_refl _, Nat.le_refl _⟩ (ow_mono T ?_)
    rintro r h' ⟨r16, I16, J16, R16, rfl, rfl, hR16, T⟩
    show ow_AW ow_Y0 (ow_Z Q) M_Mo_signsIn (d + 1) 0 0 33 [(4, .int r12), (0, .ref 70), (1, .int p1), (2, .int p2), (3, .int p3)] [.int r16] (85, I16, J16, R16) 0 0
    exact ow_iret d_Mo_signsIn_33 rfl T
set_option maxRecDepth 4000 in
theorem t_Mo_servedIn {d : Nat} {I : Nat → Nat → Int32} {J : Nat → Nat → Int64} {R : Nat → Nat → Option Nat} {Q : Option Value → ow_H → Prop} {p1 : Int32}  (hR : ow_RF R) (T : (ow_AM M_Mo_good d [.ref 70] (85, I, J, R) (fun r h' => ∃ (I7 : Nat → Nat → Int32) (J7 : Nat → Nat → Int64) (R7 : Nat → Nat → Option Nat), r = none ∧ h' = (85, I7, J7, R7) ∧ ow_RF R7 ∧ (ow_AM M_Mo_in d [.int p1, .int 0, .int 60] (85, I7, J7, R7) (fun r h' => ∃ (r8 : Int32) (I8 : Nat → Nat → Int32) (J8 : Nat → Nat → Int64) (R8 : Nat → Nat → Option Nat), r = some (.int r8) ∧ h' = (85, I8, J8, R8) ∧ ow_RF R8 ∧ (ow_AM M_Mo_why d [.ref 70, .int (I7 70 14), .int r8] (85, I8, J8, R8) (fun r h' => ∃ (r9 : Int32) (I9 : Nat → Nat → Int32) (J9 : Nat → Nat → Int64) (R9 : Nat → Nat → Option Nat), r = some (.int r9) ∧ h' = (85, I9, J9, R9) ∧ ow_RF R9 ∧ ((r9 = 0 → (ow_AM M_Mo_yearsOn d [.ref 70, .int p1] (85, I9, J9, R9) (fun r h' => ∃ (I10 : Nat → Nat → Int32) (J10 : Nat → Nat → Int64) (R10 : Nat → Nat → Option Nat), r = none ∧ h' = (85, I10, J10, R10) ∧ ow_RF R10 ∧ (ow_AM M_Mo_servedOn d [.ref 70, .ref 82] (85, I10, J10, R10) (fun r h' => ∃ (r11 : Int32) (I11 : Nat → Nat → Int32) (J11 : Nat → Nat → Int64) (R11 : Nat → Nat → Option Nat), r = some (.int r11) ∧ h' = (85, I11, J11, R11) ∧ ow_RF R11 ∧ Q (some (.int r11)) (85, I11, J11, R11)))))) ∧ (¬ r9 = 0 → (ow_AM M_Mo_no d [.ref 70, .int r9] (85, I9, J9, R9) (fun r h' => ∃ (r12 : Int32) (I12 : Nat → Nat → Int32) (J12 : Nat → Nat → Int64) (R12 : Nat → Nat → Option Nat), r = some (.int r12) ∧ h' = (85, I12, J12, R12) ∧ ow_RF R12 ∧ Q (some (.int r12)) (85, I12, J12, R12)))))))))))) : ow_AM M_Mo_servedIn (d + 1) [.ref 70, .int p1] (85, I, J, R) Q := by
  refine ow_enter (by decide) (Nat.le_of_ble_eq_true rfl) ?_
  show ow_AW ow_Y0 (ow_Z Q) M_Mo_servedIn (d + 1) 0 0 0 [(0, .ref 70), (1, .int p1)] [] (85, I, J, R) 0 0
  refine ow_aload_n 0 rfl d_Mo_servedIn_0 ?_
  refine ow_callV (b := 70) (cq := 12) (As := []) (rest := []) (d2 := d) d_Mo_servedIn_1 l_Mo_154 v_Mo_good (show 70 < 85 by decide) rfl (by decide) rfl (Nat.le_of_ble_eq_true rfl) (Nat.le_refl _) ⟨Nat.le_refl _, Nat.le_refl _⟩ (ow_mono T ?_)
  rintro r h' ⟨I7, J7, R7, rfl, rfl, hR7, T⟩
  show ow_AW ow_Y0 (ow_Z Q) M_Mo_servedIn (d + 1) 0 0 4 [(0, .ref 70), (1, .int p1)] [] (85, I7, J7, R7) 0 0
  refine ow_aload_n 0 rfl d_Mo_servedIn_4 ?_
  refine ow_aload_n 0 rfl d_Mo_servedIn_5 ?_
  refine ow_gI 183 d_Mo_servedIn_6 rfl rfl (by decide) rfl (Or.inr rfl) ?_
  refine ow_iload_n 1 rfl d_Mo_servedIn_9 ?_
  refine ow_iconst (v := 0) (by decide) d_Mo_servedIn_10 ?_
  refine ow_bipush (v := 60) (by decide) d_Mo_servedIn_11 ?_
  refine ow_callS (As := [.int p1, .int 0, .int 60]) (rest := [.int (I7 70 14), .ref 70]) (d2 := d) d_Mo_servedIn_13 l_Mo_142 v_Mo_in (Nat.le_of_ble_eq_true rfl) (Nat.le_refl _) ⟨Nat.le_refl _, Nat.le_refl _⟩ (ow_mono T ?_)
  rintro r h' ⟨r8, I8, J8, R8, rfl, rfl, hR8, T⟩
  show ow_AW ow_Y0 (ow_Z Q) M_Mo_servedIn (d + 1) 0 0 16 [(0, .ref 70), (1, .int p1)] [.int r8, .int (I7 70 14), .ref 70] (85, I8, J8, R8) 0 0
  refine ow_callV (b := 70) (cq := 12) (As := [.int (I7 70 14), .int r8]) (rest := []) (d2 := d) d_Mo_servedIn_16 l_Mo_323 v_Mo_why (show 70 < 85 by decide) rfl (by decide) rfl (Nat.le_of_ble_eq_true rfl) (Nat.le_refl _) ⟨Nat.le_refl _, Nat.le_refl _⟩ (ow_mono T ?_)
  rintro r h' ⟨r9, I9, J9, R9, rfl, rfl, hR9, T⟩
  show ow_AW ow_Y0 (ow_Z Q) M_Mo_servedIn (d + 1) 0 0 19 [(0, .ref 70), (1, .int p1)] [.int r9] (85, I9, J9, R9) 0 0
  refine ow_istore_n (ls2 := [(2, .int r9), (0, .ref 70), (1, .int p1)]) d_Mo_servedIn_19 (by decide) rfl ?_
  refine ow_iload_n 0 rfl d_Mo_servedIn_20 ?_
  refine ow_if_eq (tgt := 30) d_Mo_servedIn_21 (by decide) (fun c => ?_) (fun c => ?_)
  · replace T := T.1 c
    refine ow_aload_n 1 rfl d_Mo_servedIn_30 ?_
    refine ow_iload_n 2 rfl d_Mo_servedIn_31 ?_
    refine ow_callV (b := 70) (cq := 12) (As := [.int p1]) (rest := []) (d2 := d) d_Mo_servedIn_32 l_Mo_327 v_Mo_yearsOn (show 70 < 85 by decide) rfl (by decide) rfl (Nat.le_of_ble_eq_true rfl) (Nat.le_refl _) ⟨Nat.le_refl _, Nat.le_refl _⟩ (ow_mono T ?_)
    rintro r h' ⟨I10, J10, R10, rfl, rfl, hR10, T⟩
    show ow_AW ow_Y0 (ow_Z Q) M_Mo_servedIn (d + 1) 0 0 35 [(2, .int r9), (0, .ref 70), (1, .int p1)] [] (85, I10, J10, R10) 0 0
    refine ow_aload_n 1 rfl d_Mo_servedIn_35 ?_
    refine ow_aload_n 1 rfl d_Mo_servedIn_36 ?_
    refine ow_gR (a := 82) 200 d_Mo_servedIn_37 rfl rfl (by decide) rfl ⟨rfl, hR10 70 31 (by decide)⟩ ?_
    refine ow_callV (b := 70) (cq := 12) (As := [.ref 82]) (rest := []) (d2 := d) d_Mo_servedIn_40 l_Mo_284 v_Mo_servedOn (show 70 < 85 by decide) rfl (by decide) rfl (Nat.le_of_ble_eq_true rfl) (Nat.le_refl _) ⟨Nat.le_refl _, Nat.le_refl _⟩ (ow_mono T ?_)
    rintro r h' ⟨r11, I11, J11, R11, rfl, rfl, hR11, T⟩
    show ow_AW ow_Y0 (ow_Z Q) M_Mo_servedIn (d + 1) 0 0 43 [(2, .int r9), (0, .ref 70), (1, .int p1)] [.int r11] (85, I11, J11, R11) 0 0
    exact ow_iret d_Mo_servedIn_43 rfl T
  · replace T := T.2 c
    refine ow_aload_n 1 rfl d_Mo_servedIn_24 ?_
    refine ow_iload_n 0 rfl d_Mo_servedIn_25 ?_
    refine ow_callV (b := 70) (cq := 12) (As := [.int r9]) (rest := []) (d2 := d) d_Mo_servedIn_26 l_Mo_157 v_Mo_no (show 70 < 85 by decide) rfl (by decide) rfl (Nat.le_of_ble_eq_true rfl) (Nat.le_refl _) ⟨Nat.le_refl _, Nat.le_refl _⟩ (ow_mono T ?_)
    rintro r h' ⟨r12, I12, J12, R12, rfl, rfl, hR12, T⟩
    show ow_AW ow_Y0 (ow_Z Q) M_Mo_servedIn (d + 1) 0 0 29 [(2, .int r9), (0, .ref 70), (1, .int p1)] [.int r12] (85, I12, J12, R12) 0 0
    exact ow_iret d_Mo_servedIn_29 rfl T
set_option maxRecDepth 4000 in
theorem t_Mo_yearFor_11 {d : Nat} {I : Nat → Nat → Int32} {J : Nat → Nat → Int64} {R : Nat → Nat → Option Nat} {Q : Option Value → ow_H → Prop}  {v1 : Int32} {v2 : Int32} {v3 : Int32} {v4 : Int32}  (hR : ow_RF R) (T : ((60 < v4 → Q (some (.int v3)) (85, I, J, R)) ∧ (¬ 60 < v4 → (ow_AM M_Mo_servedOn d [.ref 70, .ref 82] (85, I, J, R) (fun r h' => ∃ (r2 : Int32) (I2 : Nat → Nat → Int32) (J2 : Nat → Nat → Int64) (R2 : Nat → Nat → Option Nat), r = some (.int r2) ∧ h' = (85, I2, J2, R2) ∧ ow_RF R2 ∧ (ow_AM M_Mo_hasBit d [.int r2, .int v1] (85, I2, J2, R2) (fun r h' => ∃ (r3 : Int32) (I3 : Nat → Nat → Int32) (J3 : Nat → Nat → Int64) (R3 : Nat → Nat → Option Nat), r = some (.int r3) ∧ h' = (85, I3, J3, R3) ∧ ow_RF R3 ∧ ((r3 = 0 → (ow_AM M_Mo_yearOn d [.ref 70, .ref 82] (85, I3, J3, R3) (fun r h' => ∃ (I4 : Nat → Nat → Int32) (J4 : Nat → Nat → Int64) (R4 : Nat → Nat → Option Nat), r = none ∧ h' = (85, I4, J4, R4) ∧ ow_RF R4 ∧ ow_AW ow_Y0 (ow_Z Q) M_Mo_yearFor (d + 1) 0 0 11 [(0, .ref 70), (1, .int v1), (2, .int v2), (3, .int v3), (4, .int (v4 + 1))] [] (85, I4, J4, R4) 0 0))) ∧ (¬ r3 = 0 → ((¬ v2 = 0 → (ow_AM M_Mo_yearOn d [.ref 70, .ref 82] (85, I3, J3, R3) (fun r h' => ∃ (I5 : Nat → Nat → Int32) (J5 : Nat → Nat → Int64) (R5 : Nat → Nat → Option Nat), r = none ∧ h' = (85, I5, J5, R5) ∧ ow_RF R5 ∧ ow_AW ow_Y0 (ow_Z Q) M_Mo_yearFor (d + 1) 0 0 11 [(0, .ref 70), (1, .int v1), (2, .int v2), (3, .int v4), (4, .int (v4 + 1))] [] (85, I5, J5, R5) 0 0))) ∧ (v2 = 0 → ((0 ≤ v3 → (ow_AM M_Mo_yearOn d [.ref 70, .ref 82] (85, I3, J3, R3) (fun r h' => ∃ (I6 : Nat → Nat → Int32) (J6 : Nat → Nat → Int64) (R6 : Nat → Nat → Option Nat), r = none ∧ h' = (85, I6, J6, R6) ∧ ow_RF R6 ∧ ow_AW ow_Y0 (ow_Z Q) M_Mo_yearFor (d + 1) 0 0 11 [(0, .ref 70), (1, .int v1), (2, .int v2), (3, .int v3), (4, .int (v4 + 1))] [] (85, I6, J6, R6) 0 0))) ∧ (¬ 0 ≤ v3 → (ow_AM M_Mo_yearOn d [.ref 70, .ref 82] (85, I3, J3, R3) (fun r h' => ∃ (I7 : Nat → Nat → Int32) (J7 : Nat → Nat → Int64) (R7 : Nat → Nat → Option Nat), r = none ∧ h' = (85, I7, J7, R7) ∧ ow_RF R7 ∧ ow_AW ow_Y0 (ow_Z Q) M_Mo_yearFor (d + 1) 0 0 11 [(0, .ref 70), (1, .int v1), (2, .int v2), (3, .int v4), (4, .int (v4 + 1))] [] (85, I7, J7, R7) 0 0))))))))))))))) : ow_AW ow_Y0 (ow_Z Q) M_Mo_yearFor (d + 1) 0 0 11 [(0, .ref 70), (1, .int v1), (2, .int v2), (3, .int v3), (4, .int v4)] [] (85, I, J, R) 0 0 := by
  refine ow_iload 4 rfl d_Mo_yearFor_11 ?_
  refine ow_bipush (v := 60) (by decide) d_Mo_yearFor_13 ?_
  refine ow_icmp_gt (tgt := 58) d_Mo_yearFor_15 (by decide) (fun c => ?_) (fun c => ?_)
  · replace T := T.1 c
    refine ow_iload_n 3 rfl d_Mo_yearFor_58 ?_
    exact ow_iret d_Mo_yearFor_59 rfl T
  · replace T := T.2 c
    refine ow_aload_n 0 rfl d_Mo_yearFor_18 ?_
    refine ow_aload_n 0 rfl d_Mo_yearFor_19 ?_
    refine ow_gR (a := 82) 200 d_Mo_yearFor_20 rfl rfl (by decide) rfl ⟨rfl, hR 70 31 (by decide)⟩ ?_
    refine ow_callV (b := 70) (cq := 12) (As := [.ref 82]) (rest := []) (d2 := d) d_Mo_yearFor_23 l_Mo_284 v_Mo_servedOn (show 70 < 85 by decide) rfl (by decide) rfl (Nat.le_of_ble_eq_true rfl) (Nat.le_refl _) ⟨Nat.le_refl _, Nat.le_refl _⟩ (ow_mono T ?_)
    rintro r h' ⟨r2, I2, J2, R2, rfl, rfl, hR2, T⟩
    show ow_AW ow_Y0 (ow_Z Q) M_Mo_yearFor (d + 1) 0 0 26 [(0, .ref 70), (1, .int v1), (2, .int v2), (3, .int v3), (4, .int v4)] [.int r2] (85, I2, J2, R2) 0 0
    refine ow_iload_n 1 rfl d_Mo_yearFor_26 ?_
    refine ow_callS (As := [.int r2, .int v1]) (rest := []) (d2 := d) d_Mo_yearFor_27 l_Mo_231 v_Mo_hasBit (Nat.le_of_ble_eq_true rfl) (Nat.le_refl _) ⟨Nat.le_refl _, Nat.le_refl _⟩ (ow_mono T ?_)
    rintro r h' ⟨r3, I3, J3, R3, rfl, rfl, hR3, T⟩
    show ow_AW ow_Y0 (ow_Z Q) M_Mo_yearFor (d + 1) 0 0 30 [(0, .ref 70), (1, .int v1), (2, .int v2), (3, .int v3), (4, .int v4)] [.int r3] (85, I3, J3, R3) 0 0
    refine ow_if_eq (tgt := 44) d_Mo_yearFor_30 (by decide) (fun c => ?_) (fun c => ?_)
    · replace T := T.1 c
      refine ow_aload_n 0 rfl d_Mo_yearFor_44 ?_
      refine ow_aload_n 0 rfl d_Mo_yearFor_45 ?_
      refine ow_gR (a := 82) 200 d_Mo_yearFor_46 rfl rfl (by decide) rfl ⟨rfl, hR3 70 31 (by decide)⟩ ?_
      refine ow_callV (b := 70) (cq := 12) (As := [.ref 82]) (rest := []) (d2 := d) d_Mo_yearFor_49 l_Mo_319 v_Mo_yearOn (show 70 < 85 by decide) rfl (by decide) rfl (Nat.le_of_ble_eq_true rfl) (Nat.le_refl _) ⟨Nat.le_refl _, Nat.le_refl _⟩ (ow_mono T ?_)
      rintro r h' ⟨I4, J4, R4, rfl, rfl, hR4, T⟩
      show ow_AW ow_Y0 (ow_Z Q) M_Mo_yearFor (d + 1) 0 0 52 [(0, .ref 70), (1, .int v1), (2, .int v2), (3, .int v3), (4, .int v4)] [] (85, I4, J4, R4) 0 0
      refine ow_iinc 4 (v := (v4 + 1)) (ls2 := [(4, .int (v4 + 1)), (0, .ref 70), (1, .int v1), (2, .int v2), (3, .int v3)]) d_Mo_yearFor_52 rfl rfl (by decide) rfl ?_
      refine ow_goto (tgt := 11) d_Mo_yearFor_55 (by decide) ?_
      refine ow_sub [1, 2, 3, 4, 0] rfl ?_
      exact T
    · replace T := T.2 c
      refine ow_iload_n 2 rfl d_Mo_yearFor_33 ?_
      refine ow_if_ne (tgt := 41) d_Mo_yearFor_34 (by decide) (fun c => ?_) (fun c => ?_)
      · replace T := T.1 c
        refine ow_iload 4 rfl d_Mo_yearFor_41 ?_
        refine ow_istore_n (ls2 := [(3, .int v4), (0, .ref 70), (1, .int v1), (2, .int v2), (4, .int v4)]) d_Mo_yearFor_43 (by decide) rfl ?_
        refine ow_aload_n 1 rfl d_Mo_yearFor_44 ?_
        refine ow_aload_n 1 rfl d_Mo_yearFor_45 ?_
        refine ow_gR (a := 82) 200 d_Mo_yearFor_46 rfl rfl (by decide) rfl ⟨rfl, hR3 70 31 (by decide)⟩ ?_
        refine ow_callV (b := 70) (cq := 12) (As := [.ref 82]) (rest := []) (d2 := d) d_Mo_yearFor_49 l_Mo_319 v_Mo_yearOn (show 70 < 85 by decide) rfl (by decide) rfl (Nat.le_of_ble_eq_true rfl) (Nat.le_refl _) ⟨Nat.le_refl _, Nat.le_refl _⟩ (ow_mono T ?_)
        rintro r h' ⟨I5, J5, R5, rfl, rfl, hR5, T⟩
        show ow_AW ow_Y0 (ow_Z Q) M_Mo_yearFor (d + 1) 0 0 52 [(3, .int v4), (0, .ref 70), (1, .int v1), (2, .int v2), (4, .int v4)] [] (85, I5, J5, R5) 0 0
        refine ow_iinc 4 (v := (v4 + 1)) (ls2 := [(4, .int (v4 + 1)), (3, .int v4), (0, .ref 70), (1, .int v1), (2, .int v2)]) d_Mo_yearFor_52 rfl rfl (by decide) rfl ?_
        refine ow_goto (tgt := 11) d_Mo_yearFor_55 (by decide) ?_
        refine ow_sub [2, 3, 4, 1, 0] rfl ?_
        exact T
      · replace T := T.2 c
        refine ow_iload_n 3 rfl d_Mo_yearFor_37 ?_
        refine ow_if_ge (tgt := 44) d_Mo_yearFor_38 (by decide) (fun c => ?_) (fun c => ?_)
        · replace T := T.1 c
          refine ow_aload_n 0 rfl d_Mo_yearFor_44 ?_
          refine ow_aload_n 0 rfl d_Mo_yearFor_45 ?_
          refine ow_gR (a := 82) 200 d_Mo_yearFor_46 rfl rfl (by decide) rfl ⟨rfl, hR3 70 31 (by decide)⟩ ?_
          refine ow_callV (b := 70) (cq := 12) (As := [.ref 82]) (rest := []) (d2 := d) d_Mo_yearFor_49 l_Mo_319 v_Mo_yearOn (show 70 < 85 by decide) rfl (by decide) rfl (Nat.le_of_ble_eq_true rfl) (Nat.le_refl _) ⟨Nat.le_refl _, Nat.le_refl _⟩ (ow_mono T ?_)
          rintro r h' ⟨I6, J6, R6, rfl, rfl, hR6, T⟩
          show ow_AW ow_Y0 (ow_Z Q) M_Mo_yearFor (d + 1) 0 0 52 [(0, .ref 70), (1, .int v1), (2, .int v2), (3, .int v3), (4, .int v4)] [] (85, I6, J6, R6) 0 0
          refine ow_iinc 4 (v := (v4 + 1)) (ls2 := [(4, .int (v4 + 1)), (0, .ref 70), (1, .int v1), (2, .int v2), (3, .int v3)]) d_Mo_yearFor_52 rfl rfl (by decide) rfl ?_
          refine ow_goto (tgt := 11) d_Mo_yearFor_55 (by decide) ?_
          refine ow_sub [1, 2, 3, 4, 0] rfl ?_
          exact T
        · replace T := T.2 c
          refine ow_iload 4 rfl d_Mo_yearFor_41 ?_
          refine ow_istore_n (ls2 := [(3, .int v4), (0, .ref 70), (1, .int v1), (2, .int v2), (4, .int v4)]) d_Mo_yearFor_43 (by decide) rfl ?_
          refine ow_aload_n 1 rfl d_Mo_yearFor_44 ?_
          refine ow_aload_n 1 rfl d_Mo_yearFor_45 ?_
          refine ow_gR (a := 82) 200 d_Mo_yearFor_46 rfl rfl (by decide) rfl ⟨rfl, hR3 70 31 (by decide)⟩ ?_
          refine ow_callV (b := 70) (cq := 12) (As := [.ref 82]) (rest := []) (d2 := d) d_Mo_yearFor_49 l_Mo_319 v_Mo_yearOn (show 70 < 85 by decide) rfl (by decide) rfl (Nat.le_of_ble_eq_true rfl) (Nat.le_refl _) ⟨Nat.le_refl _, Nat.le_refl _⟩ (ow_mono T ?_)
          rintro r h' ⟨I7, J7, R7, rfl, rfl, hR7, T⟩
          show ow_AW ow_Y0 (ow_Z Q) M_Mo_yearFor (d + 1) 0 0 52 [(3, .int v4), (0, .ref 70), (1, .int v1), (2, .int v2), (4, .int v4)] [] (85, I7, J7, R7) 0 0
          refine ow_iinc 4 (v := (v4 + 1)) (ls2 := [(4, .int (v4 + 1)), (3, .int v4), (0, .ref 70), (1, .int v1), (2, .int v2)]) d_Mo_yearFor_52 rfl rfl (by decide) rfl ?_
          refine ow_goto (tgt := 11) d_Mo_yearFor_55 (by decide) ?_
          refine ow_sub [2, 3, 4, 1, 0] rfl ?_
          exact T
set_option maxRecDepth 4000 in
theorem t_Mo_yearFor {d : Nat} {I : Nat → Nat → Int32} {J : Nat → Nat → Int64} {R : Nat → Nat → Option Nat} {Q : Option Value → ow_H → Prop} {p1 : Int32} {p2 : Int32}  (hR : ow_RF R) (T : (ow_AM M_Mo_yearsOn d [.ref 70, .int 0] (85, I, J, R) (fun r h' => ∃ (I8 : Nat → Nat → Int32) (J8 : Nat → Nat → Int64) (R8 : Nat → Nat → Option Nat), r = none ∧ h' = (85, I8, J8, R8) ∧ ow_RF R8 ∧ ow_AW ow_Y0 (ow_Z Q) M_Mo_yearFor (d + 1) 0 0 11 [(0, .ref 70), (1, .int p1), (2, .int p2), (3, .int (-2)), (4, .int 0)] [] (85, I8, J8, R8) 0 0))) : ow_AM M_Mo_yearFor (d + 1) [.ref 70, .int p1, .int p2] (85, I, J, R) Q := by
  refine ow_enter (by decide) (Nat.le_of_ble_eq_true rfl) ?_
  show ow_AW ow_Y0 (ow_Z Q) M_Mo_yearFor (d + 1) 0 0 0 [(0, .ref 70), (1, .int p1), (2, .int p2)] [] (85, I, J, R) 0 0
  refine ow_bipush (v := (-2)) (by decide) d_Mo_yearFor_0 ?_
  refine ow_istore_n (ls2 := [(3, .int (-2)), (0, .ref 70), (1, .int p1), (2, .int p2)]) d_Mo_yearFor_2 (by decide) rfl ?_
  refine ow_aload_n 1 rfl d_Mo_yearFor_3 ?_
  refine ow_iconst (v := 0) (by decide) d_Mo_yearFor_4 ?_
  refine ow_callV (b := 70) (cq := 12) (As := [.int 0]) (rest := []) (d2 := d) d_Mo_yearFor_5 l_Mo_327 v_Mo_yearsOn (show 70 < 85 by decide) rfl (by decide) rfl (Nat.le_of_ble_eq_true rfl) (Nat.le_refl _) ⟨Nat.le_refl _, Nat.le_refl _⟩ (ow_mono T ?_)
  rintro r h' ⟨I8, J8, R8, rfl, rfl, hR8, T⟩
  show ow_AW ow_Y0 (ow_Z Q) M_Mo_yearFor (d + 1) 0 0 8 [(3, .int (-2)), (0, .ref 70), (1, .int p1), (2, .int p2)] [] (85, I8, J8, R8) 0 0
  refine ow_iconst (v := 0) (by decide) d_Mo_yearFor_8 ?_
  refine ow_istore (ls2 := [(4, .int 0), (3, .int (-2)), (0, .ref 70), (1, .int p1), (2, .int p2)]) d_Mo_yearFor_9 (by decide) rfl ?_
  refine ow_sub [2, 3, 4, 1, 0] rfl ?_
  exact T
set_option maxRecDepth 4000 in
theorem t_Mo_firstServed {d : Nat} {I : Nat → Nat → Int32} {J : Nat → Nat → Int64} {R : Nat → Nat → Option Nat} {Q : Option Value → ow_H → Prop} {p1 : Int32}  (hR : ow_RF R) (T : (ow_AM M_Mo_good d [.ref 70] (85, I, J, R) (fun r h' => ∃ (I5 : Nat → Nat → Int32) (J5 : Nat → Nat → Int64) (R5 : Nat → Nat → Option Nat), r = none ∧ h' = (85, I5, J5, R5) ∧ ow_RF R5 ∧ (ow_AM M_Mo_isEstate d [.ref 70, .int p1] (85, I5, J5, R5) (fun r h' => ∃ (r6 : Int32) (I6 : Nat → Nat → Int32) (J6 : Nat → Nat → Int64) (R6 : Nat → Nat → Option Nat), r = some (.int r6) ∧ h' = (85, I6, J6, R6) ∧ ow_RF R6 ∧ ((r6 = 0 → (ow_AM M_Mo_no d [.ref 70, .int 1] (85, I6, J6, R6) (fun r h' => ∃ (r7 : Int32) (I7 : Nat → Nat → Int32) (J7 : Nat → Nat → Int64) (R7 : Nat → Nat → Option Nat), r = some (.int r7) ∧ h' = (85, I7, J7, R7) ∧ ow_RF R7 ∧ Q (some (.int r7)) (85, I7, J7, R7)))) ∧ (¬ r6 = 0 → (ow_AM M_Mo_yearFor d [.ref 70, .int p1, .int 0] (85, I6, J6, R6) (fun r h' => ∃ (r8 : Int32) (I8 : Nat → Nat → Int32) (J8 : Nat → Nat → Int64) (R8 : Nat → Nat → Option Nat), r = some (.int r8) ∧ h' = (85, I8, J8, R8) ∧ ow_RF R8 ∧ Q (some (.int r8)) (85, I8, J8, R8)))))))))) : ow_AM M_Mo_firstServed (d + 1) [.ref 70, .int p1] (85, I, J, R) Q := by
  refine ow_enter (by decide) (Nat.le_of_ble_eq_true rfl) ?_
  show ow_AW ow_Y0 (ow_Z Q) M_Mo_firstServed (d + 1) 0 0 0 [(0, .ref 70), (1, .int p1)] [] (85, I, J, R) 0 0
  refine ow_aload_n 0 rfl d_Mo_firstServed_0 ?_
  refine ow_callV (b := 70) (cq := 12) (As := []) (rest := []) (d2 := d) d_Mo_firstServed_1 l_Mo_154 v_Mo_good (show 70 < 85 by decide) rfl (by decide) rfl (Nat.le_of_ble_eq_true rfl) (Nat.le_refl _) ⟨Nat.le_refl _, Nat.le_refl _⟩ (ow_mono T ?_)
  rintro r h' ⟨I5, J5, R5, rfl, rfl, hR5, T⟩
  show ow_AW ow_Y0 (ow_Z Q) M_Mo_firstServed (d + 1) 0 0 4 [(0, .ref 70), (1, .int p1)] [] (85, I5, J5, R5) 0 0
  refine ow_aload_n 0 rfl d_Mo_firstServed_4 ?_
  refine ow_iload_n 1 rfl d_Mo_firstServed_5 ?_
  refine ow_callV (b := 70) (cq := 12) (As := [.int p1]) (rest := []) (d2 := d) d_Mo_firstServed_6 l_Mo_278 v_Mo_isEstate (show 70 < 85 by decide) rfl (by decide) rfl (Nat.le_of_ble_eq_true rfl) (Nat.le_refl _) ⟨Nat.le_refl _, Nat.le_refl _⟩ (ow_mono T ?_)
  rintro r h' ⟨r6, I6, J6, R6, rfl, rfl, hR6, T⟩
  show ow_AW ow_Y0 (ow_Z Q) M_Mo_firstServed (d + 1) 0 0 9 [(0, .ref 70), (1, .int p1)] [.int r6] (85, I6, J6, R6) 0 0
  refine ow_if_eq (tgt := 21) d_Mo_firstServed_9 (by decide) (fun c => ?_) (fun c => ?_)
  · replace T := T.1 c
    refine ow_aload_n 0 rfl d_Mo_firstServed_21 ?_
    refine ow_iconst (v := 1) (by decide) d_Mo_firstServed_22 ?_
    refine ow_callV (b := 70) (cq := 12) (As := [.int 1]) (rest := []) (d2 := d) d_Mo_firstServed_23 l_Mo_157 v_Mo_no (show 70 < 85 by decide) rfl (by decide) rfl (Nat.le_of_ble_eq_true rfl) (Nat.le_refl _) ⟨Nat.le_refl _, Nat.le_refl _⟩ (ow_mono T ?_)
    rintro r h' ⟨r7, I7, J7, R7, rfl, rfl, hR7, T⟩
    show ow_AW ow_Y0 (ow_Z Q) M_Mo_firstServed (d + 1) 0 0 26 [(0, .ref 70), (1, .int p1)] [.int r7] (85, I7, J7, R7) 0 0
    exact ow_iret d_Mo_firstServed_26 rfl T
  · replace T := T.2 c
    refine ow_aload_n 0 rfl d_Mo_firstServed_12 ?_
    refine ow_iload_n 1 rfl d_Mo_firstServed_13 ?_
    refine ow_iconst (v := 0) (by decide) d_Mo_firstServed_14 ?_
    refine ow_callV (b := 70) (cq := 12) (As := [.int p1, .int 0]) (rest := []) (d2 := d) d_Mo_firstServed_15 l_Mo_330 v_Mo_yearFor (show 70 < 85 by decide) rfl (by decide) rfl (Nat.le_of_ble_eq_true rfl) (Nat.le_refl _) ⟨Nat.le_refl _, Nat.le_refl _⟩ (ow_mono T ?_)
    rintro r h' ⟨r8, I8, J8, R8, rfl, rfl, hR8, T⟩
    show ow_AW ow_Y0 (ow_Z Q) M_Mo_firstServed (d + 1) 0 0 18 [(0, .ref 70), (1, .int p1)] [.int r8] (85, I8, J8, R8) 0 0
    refine ow_goto (tgt := 26) d_Mo_firstServed_18 (by decide) ?_
    exact ow_iret d_Mo_firstServed_26 rfl T
set_option maxRecDepth 4000 in
theorem t_Mo_lastServed {d : Nat} {I : Nat → Nat → Int32} {J : Nat → Nat → Int64} {R : Nat → Nat → Option Nat} {Q : Option Value → ow_H → Prop} {p1 : Int32}  (hR : ow_RF R) (T : (ow_AM M_Mo_good d [.ref 70] (85, I, J, R) (fun r h' => ∃ (I5 : Nat → Nat → Int32) (J5 : Nat → Nat → Int64) (R5 : Nat → Nat → Option Nat), r = none ∧ h' = (85, I5, J5, R5) ∧ ow_RF R5 ∧ (ow_AM M_Mo_isEstate d [.ref 70, .int p1] (85, I5, J5, R5) (fun r h' => ∃ (r6 : Int32) (I6 : Nat → Nat → Int32) (J6 : Nat → Nat → Int64) (R6 : Nat → Nat → Option Nat), r = some (.int r6) ∧ h' = (85, I6, J6, R6) ∧ ow_RF R6 ∧ ((r6 = 0 → (ow_AM M_Mo_no d [.ref 70, .int 1] (85, I6, J6, R6) (fun r h' => ∃ (r7 : Int32) (I7 : Nat → Nat → Int32) (J7 : Nat → Nat → Int64) (R7 : Nat → Nat → Option Nat), r = some (.int r7) ∧ h' = (85, I7, J7, R7) ∧ ow_RF R7 ∧ Q (some (.int r7)) (85, I7, J7, R7)))) ∧ (¬ r6 = 0 → (ow_AM M_Mo_yearFor d [.ref 70, .int p1, .int 1] (85, I6, J6, R6) (fun r h' => ∃ (r8 : Int32) (I8 : Nat → Nat → Int32) (J8 : Nat → Nat → Int64) (R8 : Nat → Nat → Option Nat), r = some (.int r8) ∧ h' = (85, I8, J8, R8) ∧ ow_RF R8 ∧ Q (some (.int r8)) (85, I8, J8, R8)))))))))) : ow_AM M_Mo_lastServed (d + 1) [.ref 70, .int p1] (85, I, J, R) Q := by
  refine ow_enter (by decide) (Nat.le_of_ble_eq_true rfl) ?_
  show ow_AW ow_Y0 (ow_Z Q) M_Mo_lastServed (d + 1) 0 0 0 [(0, .ref 70), (1, .int p1)] [] (85, I, J, R) 0 0
  refine ow_aload_n 0 rfl d_Mo_lastServed_0 ?_
  refine ow_callV (b := 70) (cq := 12) (As := []) (rest := []) (d2 := d) d_Mo_lastServed_1 l_Mo_154 v_Mo_good (show 70 < 85 by decide) rfl (by decide) rfl (Nat.le_of_ble_eq_true rfl) (Nat.le_refl _) ⟨Nat.le_refl _, Nat.le_refl _⟩ (ow_mono T ?_)
  rintro r h' ⟨I5, J5, R5, rfl, rfl, hR5, T⟩
  show ow_AW ow_Y0 (ow_Z Q) M_Mo_lastServed (d + 1) 0 0 4 [(0, .ref 70), (1, .int p1)] [] (85, I5, J5, R5) 0 0
  refine ow_aload_n 0 rfl d_Mo_lastServed_4 ?_
  refine ow_iload_n 1 rfl d_Mo_lastServed_5 ?_
  refine ow_callV (b := 70) (cq := 12) (As := [.int p1]) (rest := []) (d2 := d) d_Mo_lastServed_6 l_Mo_278 v_Mo_isEstate (show 70 < 85 by decide) rfl (by decide) rfl (Nat.le_of_ble_eq_true rfl) (Nat.le_refl _) ⟨Nat.le_refl _, Nat.le_refl _⟩ (ow_mono T ?_)
  rintro r h' ⟨r6, I6, J6, R6, rfl, rfl, hR6, T⟩
  show ow_AW ow_Y0 (ow_Z Q) M_Mo_lastServed (d + 1) 0 0 9 [(0, .ref 70), (1, .int p1)] [.int r6] (85, I6, J6, R6) 0 0
  refine ow_if_eq (tgt := 21) d_Mo_lastServed_9 (by decide) (fun c => ?_) (fun c => ?_)
  · replace T := T.1 c
    refine ow_aload_n 0 rfl d_Mo_lastServed_21 ?_
    refine ow_iconst (v := 1) (by decide) d_Mo_lastServed_22 ?_
    refine ow_callV (b := 70) (cq := 12) (As := [.int 1]) (rest := []) (d2 := d) d_Mo_lastServed_23 l_Mo_157 v_Mo_no (show 70 < 85 by decide) rfl (by decide) rfl (Nat.le_of_ble_eq_true rfl) (Nat.le_refl _) ⟨Nat.le_refl _, Nat.le_refl _⟩ (ow_mono T ?_)
    rintro r h' ⟨r7, I7, J7, R7, rfl, rfl, hR7, T⟩
    show ow_AW ow_Y0 (ow_Z Q) M_Mo_lastServed (d + 1) 0 0 26 [(0, .ref 70), (1, .int p1)] [.int r7] (85, I7, J7, R7) 0 0
    exact ow_iret d_Mo_lastServed_26 rfl T
  · replace T := T.2 c
    refine ow_aload_n 0 rfl d_Mo_lastServed_12 ?_
    refine ow_iload_n 1 rfl d_Mo_lastServed_13 ?_
    refine ow_iconst (v := 1) (by decide) d_Mo_lastServed_14 ?_
    refine ow_callV (b := 70) (cq := 12) (As := [.int p1, .int 1]) (rest := []) (d2 := d) d_Mo_lastServed_15 l_Mo_330 v_Mo_yearFor (show 70 < 85 by decide) rfl (by decide) rfl (Nat.le_of_ble_eq_true rfl) (Nat.le_refl _) ⟨Nat.le_refl _, Nat.le_refl _⟩ (ow_mono T ?_)
    rintro r h' ⟨r8, I8, J8, R8, rfl, rfl, hR8, T⟩
    show ow_AW ow_Y0 (ow_Z Q) M_Mo_lastServed (d + 1) 0 0 18 [(0, .ref 70), (1, .int p1)] [.int r8] (85, I8, J8, R8) 0 0
    refine ow_goto (tgt := 26) d_Mo_lastServed_18 (by decide) ?_
    exact ow_iret d_Mo_lastServed_26 rfl T
set_option maxRecDepth 4000 in
theorem t_Mo_planOf_7 {d : Nat} {I : Nat → Nat → Int32} {J : Nat → Nat → Int64} {R : Nat → Nat → Option Nat} {Q : Option Value → ow_H → Prop}  {v1 : Int32} {v2 : Int32} {v3 : Int32} {v4 : Int32}  (hR : ow_RF R) (T : ((v1 ≤ v4 → (∀ (I1 : Nat → Nat → Int32), I1 = ow_u I 70 33 (-1) → ow_AW ow_Y0 (ow_Z Q) M_Mo_planOf (d + 1) 0 0 32 [(0, .ref 70), (2, .int v2), (3, .int v3), (4, .int 0)] [] (85, I1, J, R) 0 0)) ∧ (¬ v1 ≤ v4 → ow_AW ow_Y0 (ow_Z Q) M_Mo_planOf (d + 1) 0 0 7 [(0, .ref 70), (1, .int v1), (2, .int v2), (3, .int (v3 * 10)), (4, .int (v4 + 1))] [] (85, I, J, R) 0 0))) : ow_AW ow_Y0 (ow_Z Q) M_Mo_planOf (d + 1) 0 0 7 [(0, .ref 70), (1, .int v1), (2, .int v2), (3, .int v3), (4, .int v4)] [] (85, I, J, R) 0 0 := by
  refine ow_iload 4 rfl d_Mo_planOf_7 ?_
  refine ow_iload_n 1 rfl d_Mo_planOf_9 ?_
  refine ow_icmp_ge (tgt := 24) d_Mo_planOf_10 (by decide) (fun c => ?_) (fun c => ?_)
  · replace T := T.1 c
    refine ow_aload_n 0 rfl d_Mo_planOf_24 ?_
    refine ow_iconst (v := (-1)) (by decide) d_Mo_planOf_25 ?_
    refine ow_pI 202 d_Mo_planOf_26 rfl rfl (by decide) rfl rfl rfl ?_
    obtain ⟨I1, eI1⟩ : ∃ uu, uu = ow_u I 70 33 (-1) := ⟨_, rfl⟩
    replace T := T I1 eI1
    rw [← eI1]
    refine ow_iconst (v := 0) (by decide) d_Mo_planOf_29 ?_
    refine ow_istore (ls2 := [(4, .int 0), (0, .ref 70), (1, .int v1), (2, .int v2), (3, .int v3)]) d_Mo_planOf_30 (by decide) rfl ?_
    refine ow_sub [1, 3, 4, 0] rfl ?_
    exact T
  · replace T := T.2 c
    refine ow_iload_n 3 rfl d_Mo_planOf_13 ?_
    refine ow_bipush (v := 10) (by decide) d_Mo_planOf_14 ?_
    refine ow_imul d_Mo_planOf_16 ?_
    refine ow_istore_n (ls2 := [(3, .int (v3 * 10)), (0, .ref 70), (1, .int v1), (2, .int v2), (4, .int v4)]) d_Mo_planOf_17 (by decide) rfl ?_
    refine ow_iinc 4 (v := (v4 + 1)) (ls2 := [(4, .int (v4 + 1)), (3, .int (v3 * 10)), (0, .ref 70), (1, .int v1), (2, .int v2)]) d_Mo_planOf_18 rfl rfl (by decide) rfl ?_
    refine ow_goto (tgt := 7) d_Mo_planOf_21 (by decide) ?_
    refine ow_sub [2, 3, 4, 1, 0] rfl ?_
    exact T
set_option maxRecDepth 4000 in
theorem t_Mo_planOf_32 {d : Nat} {I : Nat → Nat → Int32} {J : Nat → Nat → Int64} {R : Nat → Nat → Option Nat} {Q : Option Value → ow_H → Prop}  {v2 : Int32} {v3 : Int32} {v4 : Int32}  (hR : ow_RF R) (T : ((v3 ≤ v4 → Q (some (.int v2)) (85, I, J, R)) ∧ (¬ v3 ≤ v4 → (ow_AM M_Mo_yearsOn d [.ref 70, .int 0] (85, I, J, R) (fun r h' => ∃ (I2 : Nat → Nat → Int32) (J2 : Nat → Nat → Int64) (R2 : Nat → Nat → Option Nat), r = none ∧ h' = (85, I2, J2, R2) ∧ ow_RF R2 ∧ ow_AW ow_Y0 (ow_Z Q) M_Mo_planOf (d + 1) 0 0 52 [(0, .ref 70), (2, .int v2), (3, .int v3), (4, .int v4), (5, .int 1), (6, .int (v3 / 10))] [] (85, I2, J2, R2) 0 0))))) : ow_AW ow_Y0 (ow_Z Q) M_Mo_planOf (d + 1) 0 0 32 [(0, .ref 70), (2, .int v2), (3, .int v3), (4, .int v4)] [] (85, I, J, R) 0 0 := by
  refine ow_iload 3 rfl d_Mo_planOf_32 ?_
  refine ow_iload_n 2 rfl d_Mo_planOf_34 ?_
  refine ow_icmp_ge (tgt := 190) d_Mo_planOf_35 (by decide) (fun c => ?_) (fun c => ?_)
  · replace T := T.1 c
    refine ow_iload_n 1 rfl d_Mo_planOf_190 ?_
    exact ow_iret d_Mo_planOf_191 rfl T
  · replace T := T.2 c
    refine ow_iconst (v := 1) (by decide) d_Mo_planOf_38 ?_
    refine ow_istore (ls2 := [(5, .int 1), (0, .ref 70), (2, .int v2), (3, .int v3), (4, .int v4)]) d_Mo_planOf_39 (by decide) rfl ?_
    refine ow_aload_n 1 rfl d_Mo_planOf_41 ?_
    refine ow_iconst (v := 0) (by decide) d_Mo_planOf_42 ?_
    refine ow_callV (b := 70) (cq := 12) (As := [.int 0]) (rest := []) (d2 := d) d_Mo_planOf_43 l_Mo_327 v_Mo_yearsOn (show 70 < 85 by decide) rfl (by decide) rfl (Nat.le_of_ble_eq_true rfl) (Nat.le_refl _) ⟨Nat.le_refl _, Nat.le_refl _⟩ (ow_mono T ?_)
    rintro r h' ⟨I2, J2, R2, rfl, rfl, hR2, T⟩
    show ow_AW ow_Y0 (ow_Z Q) M_Mo_planOf (d + 1) 0 0 46 [(5, .int 1), (0, .ref 70), (2, .int v2), (3, .int v3), (4, .int v4)] [] (85, I2, J2, R2) 0 0
    refine ow_iload_n 3 rfl d_Mo_planOf_46 ?_
    refine ow_bipush (v := 10) (by decide) d_Mo_planOf_47 ?_
    refine ow_idiv (by decide) d_Mo_planOf_49 ?_
    refine ow_istore (ls2 := [(6, .int (v3 / 10)), (5, .int 1), (0, .ref 70), (2, .int v2), (3, .int v3), (4, .int v4)]) d_Mo_planOf_50 (by decide) rfl ?_
    refine ow_sub [2, 3, 4, 5, 1, 0] rfl ?_
    exact T
set_option maxRecDepth 4000 in
theorem t_Mo_planOf_52 {d : Nat} {I : Nat → Nat → Int32} {J : Nat → Nat → Int64} {R : Nat → Nat → Option Nat} {Q : Option Value → ow_H → Prop}  {v2 : Int32} {v3 : Int32} {v4 : Int32} {v5 : Int32} {v6 : Int32}  (hR : ow_RF R) (T : ((v6 ≤ 0 → ((v5 = 0 → (((I 70 33) < (-1) → (∀ (I3 : Nat → Nat → Int32), I3 = ow_u I 70 33 (-1) → ow_AW ow_Y0 (ow_Z Q) M_Mo_planOf (d + 1) 0 0 32 [(0, .ref 70), (2, .int v4), (3, .int v3), (4, .int (v4 + 1))] [] (85, I3, J, R) 0 0)) ∧ (¬ (I 70 33) < (-1) → ow_AW ow_Y0 (ow_Z Q) M_Mo_planOf (d + 1) 0 0 32 [(0, .ref 70), (2, .int v2), (3, .int v3), (4, .int (v4 + 1))] [] (85, I, J, R) 0 0))) ∧ (¬ v5 = 0 → (ow_AM M_Mo_servedOn d [.ref 70, .ref 82] (85, I, J, R) (fun r h' => ∃ (r4 : Int32) (I4 : Nat → Nat → Int32) (J4 : Nat → Nat → Int64) (R4 : Nat → Nat → Option Nat), r = some (.int r4) ∧ h' = (85, I4, J4, R4) ∧ ow_RF R4 ∧ (ow_AM M_Mo_ones d [.int r4] (85, I4, J4, R4) (fun r h' => ∃ (r5 : Int32) (I5 : Nat → Nat → Int32) (J5 : Nat → Nat → Int64) (R5 : Nat → Nat → Option Nat), r = some (.int r5) ∧ h' = (85, I5, J5, R5) ∧ ow_RF R5 ∧ (((I5 70 33) < r5 → (∀ (I6 : Nat → Nat → Int32), I6 = ow_u I5 70 33 r5 → ow_AW ow_Y0 (ow_Z Q) M_Mo_planOf (d + 1) 0 0 32 [(0, .ref 70), (2, .int v4), (3, .int v3), (4, .int (v4 + 1))] [] (85, I6, J5, R5) 0 0)) ∧ (¬ (I5 70 33) < r5 → ow_AW ow_Y0 (ow_Z Q) M_Mo_planOf (d + 1) 0 0 32 [(0, .ref 70), (2, .int v2), (3, .int v3), (4, .int (v4 + 1))] [] (85, I5, J5, R5) 0 0))))))))) ∧ (¬ v6 ≤ 0 → (¬ v6 = 0 ∧ ((v5 = 0 → (ow_AM M_Mo_yearOn d [.ref 70, .ref 82] (85, I, J, R) (fun r h' => ∃ (I7 : Nat → Nat → Int32) (J7 : Nat → Nat → Int64) (R7 : Nat → Nat → Option Nat), r = none ∧ h' = (85, I7, J7, R7) ∧ ow_RF R7 ∧ ow_AW ow_Y0 (ow_Z Q) M_Mo_planOf (d + 1) 0 0 52 [(0, .ref 70), (2, .int v2), (3, .int v3), (4, .int v4), (5, .int 0), (6, .int (v6 / 10))] [] (85, I7, J7, R7) 0 0))) ∧ (¬ v5 = 0 → (((I 73 2) ≤ (((v4 / v6) - (v4 / v6) / 10 * 10) - 1) → (ow_AM M_Mo_yearOn d [.ref 70, .ref 82] (85, I, J, R) (fun r h' => ∃ (I8 : Nat → Nat → Int32) (J8 : Nat → Nat → Int64) (R8 : Nat → Nat → Option Nat), r = none ∧ h' = (85, I8, J8, R8) ∧ ow_RF R8 ∧ ow_AW ow_Y0 (ow_Z Q) M_Mo_planOf (d + 1) 0 0 52 [(0, .ref 70), (2, .int v2), (3, .int v3), (4, .int v4), (5, .int 0), (6, .int (v6 / 10))] [] (85, I8, J8, R8) 0 0))) ∧ (¬ (I 73 2) ≤ (((v4 / v6) - (v4 / v6) / 10 * 10) - 1) → (((((v4 / v6) - (v4 / v6) / 10 * 10) - 1) < 0 → (ow_AM M_Mo_yearOn d [.ref 70, .ref 82] (85, I, J, R) (fun r h' => ∃ (I9 : Nat → Nat → Int32) (J9 : Nat → Nat → Int64) (R9 : Nat → Nat → Option Nat), r = none ∧ h' = (85, I9, J9, R9) ∧ ow_RF R9 ∧ ow_AW ow_Y0 (ow_Z Q) M_Mo_planOf (d + 1) 0 0 52 [(0, .ref 70), (2, .int v2), (3, .int v3), (4, .int v4), (5, .int 1), (6, .int (v6 / 10))] [] (85, I9, J9, R9) 0 0))) ∧ (¬ (((v4 / v6) - (v4 / v6) / 10 * 10) - 1) < 0 → (vp_in ((7 + (2 * (((v4 / v6) - (v4 / v6) / 10 * 10) - 1))) + 1) 146 ∧ (vp_in (((v4 / v6) - (v4 / v6) / 10 * 10) - 1) 14 ∧ (∀ (I10 : Nat → Nat → Int32), I10 = ow_u I 82 ((((v4 / v6) - (v4 / v6) / 10 * 10) - 1).toNatClampNeg) (I 73 ((7 + (2 * (((v4 / v6) - (v4 / v6) / 10 * 10) - 1))) + 1).toNatClampNeg) → (ow_AM M_Mo_yearOn d [.ref 70, .ref 82] (85, I10, J, R) (fun r h' => ∃ (I11 : Nat → Nat → Int32) (J11 : Nat → Nat → Int64) (R11 : Nat → Nat → Option Nat), r = none ∧ h' = (85, I11, J11, R11) ∧ ow_RF R11 ∧ ow_AW ow_Y0 (ow_Z Q) M_Mo_planOf (d + 1) 0 0 52 [(0, .ref 70), (2, .int v2), (3, .int v3), (4, .int v4), (5, .int 1), (6, .int (v6 / 10))] [] (85, I11, J11, R11) 0 0))))))))))))))) : ow_AW ow_Y0 (ow_Z Q) M_Mo_planOf (d + 1) 0 0 52 [(0, .ref 70), (2, .int v2), (3, .int v3), (4, .int v4), (5, .int v5), (6, .int v6)] [] (85, I, J, R) 0 0 := by
  refine ow_iload 5 rfl d_Mo_planOf_52 ?_
  refine ow_if_le (tgt := 141) d_Mo_planOf_54 (by decide) (fun c => ?_) (fun c => ?_)
  · replace T := T.1 c
    refine ow_iload 4 rfl d_Mo_planOf_141 ?_
    refine ow_if_eq (tgt := 160) d_Mo_planOf_143 (by decide) (fun c => ?_) (fun c => ?_)
    · replace T := T.1 c
      refine ow_iconst (v := (-1)) (by decide) d_Mo_planOf_160 ?_
      refine ow_istore (ls2 := [(6, .int (-1)), (0, .ref 70), (2, .int v2), (3, .int v3), (4, .int v4), (5, .int v5)]) d_Mo_planOf_161 (by decide) rfl ?_
      refine ow_iload 0 rfl d_Mo_planOf_163 ?_
      refine ow_aload_n 1 rfl d_Mo_planOf_165 ?_
      refine ow_gI 202 d_Mo_planOf_166 rfl rfl (by decide) rfl (Or.inl rfl) ?_
      refine ow_icmp_gt (tgt := 175) d_Mo_planOf_169 (by decide) (fun c => ?_) (fun c => ?_)
      · replace T := T.1 c
        refine ow_iload 4 rfl d_Mo_planOf_175 ?_
        refine ow_istore_n (ls2 := [(2, .int v4), (6, .int (-1)), (0, .ref 70), (3, .int v3), (4, .int v4), (5, .int v5)]) d_Mo_planOf_177 (by decide) rfl ?_
        refine ow_aload_n 2 rfl d_Mo_planOf_178 ?_
        refine ow_iload 1 rfl d_Mo_planOf_179 ?_
        refine ow_pI 202 d_Mo_planOf_181 rfl rfl (by decide) rfl rfl rfl ?_
        obtain ⟨I3, eI3⟩ : ∃ uu, uu = ow_u I 70 33 (-1) := ⟨_, rfl⟩
        replace T := T I3 eI3
        rw [← eI3]
        refine ow_iinc 4 (v := (v4 + 1)) (ls2 := [(4, .int (v4 + 1)), (2, .int v4), (6, .int (-1)), (0, .ref 70), (3, .int v3), (5, .int v5)]) d_Mo_planOf_184 rfl rfl (by decide) rfl ?_
        refine ow_goto (tgt := 32) d_Mo_planOf_187 (by decide) ?_
        refine ow_sub [3, 1, 4, 0] rfl ?_
        exact T
      · replace T := T.2 c
        refine ow_goto (tgt := 184) d_Mo_planOf_172 (by decide) ?_
        refine ow_iinc 4 (v := (v4 + 1)) (ls2 := [(4, .int (v4 + 1)), (6, .int (-1)), (0, .ref 70), (2, .int v2), (3, .int v3), (5, .int v5)]) d_Mo_planOf_184 rfl rfl (by decide) rfl ?_
        refine ow_goto (tgt := 32) d_Mo_planOf_187 (by decide) ?_
        refine ow_sub [2, 3, 4, 0] rfl ?_
        exact T
    · replace T := T.2 c
      refine ow_aload_n 0 rfl d_Mo_planOf_146 ?_
      refine ow_aload_n 0 rfl d_Mo_planOf_147 ?_
      refine ow_gR (a := 82) 200 d_Mo_planOf_148 rfl rfl (by decide) rfl ⟨rfl, hR 70 31 (by decide)⟩ ?_
      refine ow_callV (b := 70) (cq := 12) (As := [.ref 82]) (rest := []) (d2 := d) d_Mo_planOf_151 l_Mo_284 v_Mo_servedOn (show 70 < 85 by decide) rfl (by decide) rfl (Nat.le_of_ble_eq_true rfl) (Nat.le_refl _) ⟨Nat.le_refl _, Nat.le_refl _⟩ (ow_mono T ?_)
      rintro r h' ⟨r4, I4, J4, R4, rfl, rfl, hR4, T⟩
      show ow_AW ow_Y0 (ow_Z Q) M_Mo_planOf (d + 1) 0 0 154 [(0, .ref 70), (2, .int v2), (3, .int v3), (4, .int v4), (5, .int v5), (6, .int v6)] [.int r4] (85, I4, J4, R4) 0 0
      refine ow_callS (As := [.int r4]) (rest := []) (d2 := d) d_Mo_planOf_154 l_Mo_307 v_Mo_ones (Nat.le_of_ble_eq_true rfl) (Nat.le_refl _) ⟨Nat.le_refl _, Nat.le_refl _⟩ (ow_mono T ?_)
      rintro r h' ⟨r5, I5, J5, R5, rfl, rfl, hR5, T⟩
      show ow_AW ow_Y0 (ow_Z Q) M_Mo_planOf (d + 1) 0 0 157 [(0, .ref 70), (2, .int v2), (3, .int v3), (4, .int v4), (5, .int v5), (6, .int v6)] [.int r5] (85, I5, J5, R5) 0 0
      refine ow_goto (tgt := 161) d_Mo_planOf_157 (by decide) ?_
      refine ow_istore (ls2 := [(6, .int r5), (0, .ref 70), (2, .int v2), (3, .int v3), (4, .int v4), (5, .int v5)]) d_Mo_planOf_161 (by decide) rfl ?_
      refine ow_iload 0 rfl d_Mo_planOf_163 ?_
      refine ow_aload_n 1 rfl d_Mo_planOf_165 ?_
      refine ow_gI 202 d_Mo_planOf_166 rfl rfl (by decide) rfl (Or.inl rfl) ?_
      refine ow_icmp_gt (tgt := 175) d_Mo_planOf_169 (by decide) (fun c => ?_) (fun c => ?_)
      · replace T := T.1 c
        refine ow_iload 4 rfl d_Mo_planOf_175 ?_
        refine ow_istore_n (ls2 := [(2, .int v4), (6, .int r5), (0, .ref 70), (3, .int v3), (4, .int v4), (5, .int v5)]) d_Mo_planOf_177 (by decide) rfl ?_
        refine ow_aload_n 2 rfl d_Mo_planOf_178 ?_
        refine ow_iload 1 rfl d_Mo_planOf_179 ?_
        refine ow_pI 202 d_Mo_planOf_181 rfl rfl (by decide) rfl rfl rfl ?_
        obtain ⟨I6, eI6⟩ : ∃ uu, uu = ow_u I5 70 33 r5 := ⟨_, rfl⟩
        replace T := T I6 eI6
        rw [← eI6]
        refine ow_iinc 4 (v := (v4 + 1)) (ls2 := [(4, .int (v4 + 1)), (2, .int v4), (6, .int r5), (0, .ref 70), (3, .int v3), (5, .int v5)]) d_Mo_planOf_184 rfl rfl (by decide) rfl ?_
        refine ow_goto (tgt := 32) d_Mo_planOf_187 (by decide) ?_
        refine ow_sub [3, 1, 4, 0] rfl ?_
        exact T
      · replace T := T.2 c
        refine ow_goto (tgt := 184) d_Mo_planOf_172 (by decide) ?_
        refine ow_iinc 4 (v := (v4 + 1)) (ls2 := [(4, .int (v4 + 1)), (6, .int r5), (0, .ref 70), (2, .int v2), (3, .int v3), (5, .int v5)]) d_Mo_planOf_184 rfl rfl (by decide) rfl ?_
        refine ow_goto (tgt := 32) d_Mo_planOf_187 (by decide) ?_
        refine ow_sub [2, 3, 4, 0] rfl ?_
        exact T
  · replace T := T.2 c
    refine ow_iload 3 rfl d_Mo_planOf_57 ?_
    refine ow_iload 5 rfl d_Mo_planOf_59 ?_
    obtain ⟨c, T⟩ := T
    refine ow_idiv c d_Mo_planOf_61 ?_
    refine ow_bipush (v := 10) (by decide) d_Mo_planOf_62 ?_
    refine ow_irem (by decide) d_Mo_planOf_64 ?_
    refine ow_iconst (v := 1) (by decide) d_Mo_planOf_65 ?_
    refine ow_isub d_Mo_planOf_66 ?_
    refine ow_istore (ls2 := [(7, .int (((v4 / v6) - (v4 / v6) / 10 * 10) - 1)), (0, .ref 70), (2, .int v2), (3, .int v3), (4, .int v4), (5, .int v5), (6, .int v6)]) d_Mo_planOf_67 (by decide) rfl ?_
    refine ow_iload 5 rfl d_Mo_planOf_69 ?_
    refine ow_if_eq (tgt := 89) d_Mo_planOf_71 (by decide) (fun c => ?_) (fun c => ?_)
    · replace T := T.1 c
      refine ow_iconst (v := 0) (by decide) d_Mo_planOf_89 ?_
      refine ow_istore (ls2 := [(5, .int 0), (7, .int (((v4 / v6) - (v4 / v6) / 10 * 10) - 1)), (0, .ref 70), (2, .int v2), (3, .int v3), (4, .int v4), (6, .int v6)]) d_Mo_planOf_90 (by decide) rfl ?_
      refine ow_iload 0 rfl d_Mo_planOf_92 ?_
      refine ow_if_eq (tgt := 123) d_Mo_planOf_94 (by decide) (fun c => ?_) (fun c => ?_)
      · clear c
        refine ow_aload_n 2 rfl d_Mo_planOf_123 ?_
        refine ow_aload_n 2 rfl d_Mo_planOf_124 ?_
        refine ow_gR (a := 82) 200 d_Mo_planOf_125 rfl rfl (by decide) rfl ⟨rfl, hR 70 31 (by decide)⟩ ?_
        refine ow_callV (b := 70) (cq := 12) (As := [.ref 82]) (rest := []) (d2 := d) d_Mo_planOf_128 l_Mo_319 v_Mo_yearOn (show 70 < 85 by decide) rfl (by decide) rfl (Nat.le_of_ble_eq_true rfl) (Nat.le_refl _) ⟨Nat.le_refl _, Nat.le_refl _⟩ (ow_mono T ?_)
        rintro r h' ⟨I7, J7, R7, rfl, rfl, hR7, T⟩
        show ow_AW ow_Y0 (ow_Z Q) M_Mo_planOf (d + 1) 0 0 131 [(5, .int 0), (7, .int (((v4 / v6) - (v4 / v6) / 10 * 10) - 1)), (0, .ref 70), (2, .int v2), (3, .int v3), (4, .int v4), (6, .int v6)] [] (85, I7, J7, R7) 0 0
        refine ow_iload 6 rfl d_Mo_planOf_131 ?_
        refine ow_bipush (v := 10) (by decide) d_Mo_planOf_133 ?_
        refine ow_idiv (by decide) d_Mo_planOf_135 ?_
        refine ow_istore (ls2 := [(6, .int (v6 / 10)), (5, .int 0), (7, .int (((v4 / v6) - (v4 / v6) / 10 * 10) - 1)), (0, .ref 70), (2, .int v2), (3, .int v3), (4, .int v4)]) d_Mo_planOf_136 (by decide) rfl ?_
        refine ow_goto (tgt := 52) d_Mo_planOf_138 (by decide) ?_
        refine ow_sub [3, 4, 5, 6, 1, 0] rfl ?_
        exact T
      · exact absurd c (by decide)
    · replace T := T.2 c
      refine ow_iload 0 rfl d_Mo_planOf_74 ?_
      refine ow_aload_n 1 rfl d_Mo_planOf_76 ?_
      refine ow_gR (a := 73) 184 d_Mo_planOf_77 rfl rfl (by decide) rfl ⟨rfl, hR 70 15 (by decide)⟩ ?_
      refine ow_iconst (v := 2) (by decide) d_Mo_planOf_80 ?_
      refine ow_hiaload d_Mo_planOf_81 (by decide) rfl rfl (show vp_in (2 : Int32) 146 by unfold vp_in; decide) ?_
      show ow_AW ow_Y0 (ow_Z Q) M_Mo_planOf (d + 1) 0 0 82 [(7, .int (((v4 / v6) - (v4 / v6) / 10 * 10) - 1)), (0, .ref 70), (2, .int v2), (3, .int v3), (4, .int v4), (5, .int v5), (6, .int v6)] [.int (I 73 2), .int (((v4 / v6) - (v4 / v6) / 10 * 10) - 1)] (85, I, J, R) 0 0
      refine ow_icmp_ge (tgt := 89) d_Mo_planOf_82 (by decide) (fun c => ?_) (fun c => ?_)
      · replace T := T.1 c
        refine ow_iconst (v := 0) (by decide) d_Mo_planOf_89 ?_
        refine ow_istore (ls2 := [(5, .int 0), (7, .int (((v4 / v6) - (v4 / v6) / 10 * 10) - 1)), (0, .ref 70), (2, .int v2), (3, .int v3), (4, .int v4), (6, .int v6)]) d_Mo_planOf_90 (by decide) rfl ?_
        refine ow_iload 0 rfl d_Mo_planOf_92 ?_
        refine ow_if_eq (tgt := 123) d_Mo_planOf_94 (by decide) (fun c => ?_) (fun c => ?_)
        · clear c
          refine ow_aload_n 2 rfl d_Mo_planOf_123 ?_
          refine ow_aload_n 2 rfl d_Mo_planOf_124 ?_
          refine ow_gR (a := 82) 200 d_Mo_planOf_125 rfl rfl (by decide) rfl ⟨rfl, hR 70 31 (by decide)⟩ ?_
          refine ow_callV (b := 70) (cq := 12) (As := [.ref 82]) (rest := []) (d2 := d) d_Mo_planOf_128 l_Mo_319 v_Mo_yearOn (show 70 < 85 by decide) rfl (by decide) rfl (Nat.le_of_ble_eq_true rfl) (Nat.le_refl _) ⟨Nat.le_refl _, Nat.le_refl _⟩ (ow_mono T ?_)
          rintro r h' ⟨I8, J8, R8, rfl, rfl, hR8, T⟩
          show ow_AW ow_Y0 (ow_Z Q) M_Mo_planOf (d + 1) 0 0 131 [(5, .int 0), (7, .int (((v4 / v6) - (v4 / v6) / 10 * 10) - 1)), (0, .ref 70), (2, .int v2), (3, .int v3), (4, .int v4), (6, .int v6)] [] (85, I8, J8, R8) 0 0
          refine ow_iload 6 rfl d_Mo_planOf_131 ?_
          refine ow_bipush (v := 10) (by decide) d_Mo_planOf_133 ?_
          refine ow_idiv (by decide) d_Mo_planOf_135 ?_
          refine ow_istore (ls2 := [(6, .int (v6 / 10)), (5, .int 0), (7, .int (((v4 / v6) - (v4 / v6) / 10 * 10) - 1)), (0, .ref 70), (2, .int v2), (3, .int v3), (4, .int v4)]) d_Mo_planOf_136 (by decide) rfl ?_
          refine ow_goto (tgt := 52) d_Mo_planOf_138 (by decide) ?_
          refine ow_sub [3, 4, 5, 6, 1, 0] rfl ?_
          exact T
        · exact absurd c (by decide)
      · replace T := T.2 c
        refine ow_iconst (v := 1) (by decide) d_Mo_planOf_85 ?_
        refine ow_goto (tgt := 90) d_Mo_planOf_86 (by decide) ?_
        refine ow_istore (ls2 := [(5, .int 1), (7, .int (((v4 / v6) - (v4 / v6) / 10 * 10) - 1)), (0, .ref 70), (2, .int v2), (3, .int v3), (4, .int v4), (6, .int v6)]) d_Mo_planOf_90 (by decide) rfl ?_
        refine ow_iload 0 rfl d_Mo_planOf_92 ?_
        refine ow_if_eq (tgt := 123) d_Mo_planOf_94 (by decide) (fun c => ?_) (fun c => ?_)
        · exact absurd c (by decide)
        · clear c
          refine ow_iload 1 rfl d_Mo_planOf_97 ?_
          refine ow_if_lt (tgt := 123) d_Mo_planOf_99 (by decide) (fun c => ?_) (fun c => ?_)
          · replace T := T.1 c
            refine ow_aload_n 2 rfl d_Mo_planOf_123 ?_
            refine ow_aload_n 2 rfl d_Mo_planOf_124 ?_
            refine ow_gR (a := 82) 200 d_Mo_planOf_125 rfl rfl (by decide) rfl ⟨rfl, hR 70 31 (by decide)⟩ ?_
            refine ow_callV (b := 70) (cq := 12) (As := [.ref 82]) (rest := []) (d2 := d) d_Mo_planOf_128 l_Mo_319 v_Mo_yearOn (show 70 < 85 by decide) rfl (by decide) rfl (Nat.le_of_ble_eq_true rfl) (Nat.le_refl _) ⟨Nat.le_refl _, Nat.le_refl _⟩ (ow_mono T ?_)
            rintro r h' ⟨I9, J9, R9, rfl, rfl, hR9, T⟩
            show ow_AW ow_Y0 (ow_Z Q) M_Mo_planOf (d + 1) 0 0 131 [(5, .int 1), (7, .int (((v4 / v6) - (v4 / v6) / 10 * 10) - 1)), (0, .ref 70), (2, .int v2), (3, .int v3), (4, .int v4), (6, .int v6)] [] (85, I9, J9, R9) 0 0
            refine ow_iload 6 rfl d_Mo_planOf_131 ?_
            refine ow_bipush (v := 10) (by decide) d_Mo_planOf_133 ?_
            refine ow_idiv (by decide) d_Mo_planOf_135 ?_
            refine ow_istore (ls2 := [(6, .int (v6 / 10)), (5, .int 1), (7, .int (((v4 / v6) - (v4 / v6) / 10 * 10) - 1)), (0, .ref 70), (2, .int v2), (3, .int v3), (4, .int v4)]) d_Mo_planOf_136 (by decide) rfl ?_
            refine ow_goto (tgt := 52) d_Mo_planOf_138 (by decide) ?_
            refine ow_sub [3, 4, 5, 6, 1, 0] rfl ?_
            exact T
          · replace T := T.2 c
            refine ow_aload_n 2 rfl d_Mo_planOf_102 ?_
            refine ow_gR (a := 82) 200 d_Mo_planOf_103 rfl rfl (by decide) rfl ⟨rfl, hR 70 31 (by decide)⟩ ?_
            refine ow_iload 1 rfl d_Mo_planOf_106 ?_
            refine ow_aload_n 2 rfl d_Mo_planOf_108 ?_
            refine ow_gR (a := 73) 184 d_Mo_planOf_109 rfl rfl (by decide) rfl ⟨rfl, hR 70 15 (by decide)⟩ ?_
            refine ow_bipush (v := 7) (by decide) d_Mo_planOf_112 ?_
            refine ow_iconst (v := 2) (by decide) d_Mo_planOf_114 ?_
            refine ow_iload 1 rfl d_Mo_planOf_115 ?_
            refine ow_imul d_Mo_planOf_117 ?_
            refine ow_iadd d_Mo_planOf_118 ?_
            refine ow_iconst (v := 1) (by decide) d_Mo_planOf_119 ?_
            refine ow_iadd d_Mo_planOf_120 ?_
            obtain ⟨cI, T⟩ := T
            refine ow_hiaload d_Mo_planOf_121 (by decide) rfl rfl cI ?_
            obtain ⟨cI, T⟩ := T
            refine ow_hiastore d_Mo_planOf_122 (by decide) rfl rfl cI ?_
            obtain ⟨I10, eI10⟩ : ∃ uu, uu = ow_u I 82 ((((v4 / v6) - (v4 / v6) / 10 * 10) - 1).toNatClampNeg) (I 73 ((7 + (2 * (((v4 / v6) - (v4 / v6) / 10 * 10) - 1))) + 1).toNatClampNeg) := ⟨_, rfl⟩
            replace T := T I10 eI10
            rw [← eI10]
            refine ow_aload_n 2 rfl d_Mo_planOf_123 ?_
            refine ow_aload_n 2 rfl d_Mo_planOf_124 ?_
            refine ow_gR (a := 82) 200 d_Mo_planOf_125 rfl rfl (by decide) rfl ⟨rfl, hR 70 31 (by decide)⟩ ?_
            refine ow_callV (b := 70) (cq := 12) (As := [.ref 82]) (rest := []) (d2 := d) d_Mo_planOf_128 l_Mo_319 v_Mo_yearOn (show 70 < 85 by decide) rfl (by decide) rfl (Nat.le_of_ble_eq_true rfl) (Nat.le_refl _) ⟨Nat.le_refl _, Nat.le_refl _⟩ (ow_mono T ?_)
            rintro r h' ⟨I11, J11, R11, rfl, rfl, hR11, T⟩
            show ow_AW ow_Y0 (ow_Z Q) M_Mo_planOf (d + 1) 0 0 131 [(5, .int 1), (7, .int (((v4 / v6) - (v4 / v6) / 10 * 10) - 1)), (0, .ref 70), (2, .int v2), (3, .int v3), (4, .int v4), (6, .int v6)] [] (85, I11, J11, R11) 0 0
            refine ow_iload 6 rfl d_Mo_planOf_131 ?_
            refine ow_bipush (v := 10) (by decide) d_Mo_planOf_133 ?_
            refine ow_idiv (by decide) d_Mo_planOf_135 ?_
            refine ow_istore (ls2 := [(6, .int (v6 / 10)), (5, .int 1), (7, .int (((v4 / v6) - (v4 / v6) / 10 * 10) - 1)), (0, .ref 70), (2, .int v2), (3, .int v3), (4, .int v4)]) d_Mo_planOf_136 (by decide) rfl ?_
            refine ow_goto (tgt := 52) d_Mo_planOf_138 (by decide) ?_
            refine ow_sub [3, 4, 5, 6, 1, 0] rfl ?_
            exact T
set_option maxRecDepth 4000 in
theorem t_Mo_planOf {d : Nat} {I : Nat → Nat → Int32} {J : Nat → Nat → Int64} {R : Nat → Nat → Option Nat} {Q : Option Value → ow_H → Prop} {p1 : Int32}  (hR : ow_RF R) (T : ow_AW ow_Y0 (ow_Z Q) M_Mo_planOf (d + 1) 0 0 7 [(0, .ref 70), (1, .int p1), (2, .int 0), (3, .int 1), (4, .int 0)] [] (85, I, J, R) 0 0) : ow_AM M_Mo_planOf (d + 1) [.ref 70, .int p1] (85, I, J, R) Q := by
  refine ow_enter (by decide) (Nat.le_of_ble_eq_true rfl) ?_
  show ow_AW ow_Y0 (ow_Z Q) M_Mo_planOf (d + 1) 0 0 0 [(0, .ref 70), (1, .int p1)] [] (85, I, J, R) 0 0
  refine ow_iconst (v := 0) (by decide) d_Mo_planOf_0 ?_
  refine ow_istore_n (ls2 := [(2, .int 0), (0, .ref 70), (1, .int p1)]) d_Mo_planOf_1 (by decide) rfl ?_
  refine ow_iconst (v := 1) (by decide) d_Mo_planOf_2 ?_
  refine ow_istore_n (ls2 := [(3, .int 1), (2, .int 0), (0, .ref 70), (1, .int p1)]) d_Mo_planOf_3 (by decide) rfl ?_
  refine ow_iconst (v := 0) (by decide) d_Mo_planOf_4 ?_
  refine ow_istore (ls2 := [(4, .int 0), (3, .int 1), (2, .int 0), (0, .ref 70), (1, .int p1)]) d_Mo_planOf_5 (by decide) rfl ?_
  refine ow_sub [3, 4, 2, 1, 0] rfl ?_
  exact T
set_option maxRecDepth 4000 in
theorem t_Mo_plan {d : Nat} {I : Nat → Nat → Int32} {J : Nat → Nat → Int64} {R : Nat → Nat → Option Nat} {Q : Option Value → ow_H → Prop} {p1 : Int32}  (hR : ow_RF R) (T : (ow_AM M_Mo_good d [.ref 70] (85, I, J, R) (fun r h' => ∃ (I6 : Nat → Nat → Int32) (J6 : Nat → Nat → Int64) (R6 : Nat → Nat → Option Nat), r = none ∧ h' = (85, I6, J6, R6) ∧ ow_RF R6 ∧ (ow_AM M_Mo_in d [.int p1, .int 1, .int 4] (85, I6, J6, R6) (fun r h' => ∃ (r7 : Int32) (I7 : Nat → Nat → Int32) (J7 : Nat → Nat → Int64) (R7 : Nat → Nat → Option Nat), r = some (.int r7) ∧ h' = (85, I7, J7, R7) ∧ ow_RF R7 ∧ (ow_AM M_Mo_why d [.ref 70, .int (I6 70 14), .int r7] (85, I7, J7, R7) (fun r h' => ∃ (r8 : Int32) (I8 : Nat → Nat → Int32) (J8 : Nat → Nat → Int64) (R8 : Nat → Nat → Option Nat), r = some (.int r8) ∧ h' = (85, I8, J8, R8) ∧ ow_RF R8 ∧ ((r8 = 0 → (ow_AM M_Mo_planOf d [.ref 70, .int p1] (85, I8, J8, R8) (fun r h' => ∃ (r9 : Int32) (I9 : Nat → Nat → Int32) (J9 : Nat → Nat → Int64) (R9 : Nat → Nat → Option Nat), r = some (.int r9) ∧ h' = (85, I9, J9, R9) ∧ ow_RF R9 ∧ Q (some (.int r9)) (85, I9, J9, R9)))) ∧ (¬ r8 = 0 → (ow_AM M_Mo_no d [.ref 70, .int r8] (85, I8, J8, R8) (fun r h' => ∃ (r10 : Int32) (I10 : Nat → Nat → Int32) (J10 : Nat → Nat → Int64) (R10 : Nat → Nat → Option Nat), r = some (.int r10) ∧ h' = (85, I10, J10, R10) ∧ ow_RF R10 ∧ Q (some (.int r10)) (85, I10, J10, R10)))))))))))) : ow_AM M_Mo_plan (d + 1) [.ref 70, .int p1] (85, I, J, R) Q := by
  refine ow_enter (by decide) (Nat.le_of_ble_eq_true rfl) ?_
  show ow_AW ow_Y0 (ow_Z Q) M_Mo_plan (d + 1) 0 0 0 [(0, .ref 70), (1, .int p1)] [] (85, I, J, R) 0 0
  refine ow_aload_n 0 rfl d_Mo_plan_0 ?_
  refine ow_callV (b := 70) (cq := 12) (As := []) (rest := []) (d2 := d) d_Mo_plan_1 l_Mo_154 v_Mo_good (show 70 < 85 by decide) rfl (by decide) rfl (Nat.le_of_ble_eq_true rfl) (Nat.le_refl _) ⟨Nat.le_refl _, Nat.le_refl _⟩ (ow_mono T ?_)
  rintro r h' ⟨I6, J6, R6, rfl, rfl, hR6, T⟩
  show ow_AW ow_Y0 (ow_Z Q) M_Mo_plan (d + 1) 0 0 4 [(0, .ref 70), (1, .int p1)] [] (85, I6, J6, R6) 0 0
  refine ow_aload_n 0 rfl d_Mo_plan_4 ?_
  refine ow_aload_n 0 rfl d_Mo_plan_5 ?_
  refine ow_gI 183 d_Mo_plan_6 rfl rfl (by decide) rfl (Or.inr rfl) ?_
  refine ow_iload_n 1 rfl d_Mo_plan_9 ?_
  refine ow_iconst (v := 1) (by decide) d_Mo_plan_10 ?_
  refine ow_iconst (v := 4) (by decide) d_Mo_plan_11 ?_
  refine ow_callS (As := [.int p1, .int 1, .int 4]) (rest := [.int (I6 70 14), .ref 70]) (d2 := d) d_Mo_plan_12 l_Mo_142 v_Mo_in (Nat.le_of_ble_eq_true rfl) (Nat.le_refl _) ⟨Nat.le_refl _, Nat.le_refl _⟩ (ow_mono T ?_)
  rintro r h' ⟨r7, I7, J7, R7, rfl, rfl, hR7, T⟩
  show ow_AW ow_Y0 (ow_Z Q) M_Mo_plan (d + 1) 0 0 15 [(0, .ref 70), (1, .int p1)] [.int r7, .int (I6 70 14), .ref 70] (85, I7, J7, R7) 0 0
  refine ow_callV (b := 70) (cq := 12) (As := [.int (I6 70 14), .int r7]) (rest := []) (d2 := d) d_Mo_plan_15 l_Mo_323 v_Mo_why (show 70 < 85 by decide) rfl (by decide) rfl (Nat.le_of_ble_eq_true rfl) (Nat.le_refl _) ⟨Nat.le_refl _, Nat.le_refl _⟩ (ow_mono T ?_)
  rintro r h' ⟨r8, I8, J8, R8, rfl, rfl, hR8, T⟩
  show ow_AW ow_Y0 (ow_Z Q) M_Mo_plan (d + 1) 0 0 18 [(0, .ref 70), (1, .int p1)] [.int r8] (85, I8, J8, R8) 0 0
  refine ow_istore_n (ls2 := [(2, .int r8), (0, .ref 70), (1, .int p1)]) d_Mo_plan_18 (by decide) rfl ?_
  refine ow_iload_n 0 rfl d_Mo_plan_19 ?_
  refine ow_if_eq (tgt := 31) d_Mo_plan_20 (by decide) (fun c => ?_) (fun c => ?_)
  · replace T := T.1 c
    refine ow_aload_n 1 rfl d_Mo_plan_31 ?_
    refine ow_iload_n 2 rfl d_Mo_plan_32 ?_
    refine ow_callV (b := 70) (cq := 12) (As := [.int p1]) (rest := []) (d2 := d) d_Mo_plan_33 l_Mo_336 v_Mo_planOf (show 70 < 85 by decide) rfl (by decide) rfl (Nat.le_of_ble_eq_true rfl) (Nat.le_refl _) ⟨Nat.le_refl _, Nat.le_refl _⟩ (ow_mono T ?_)
    rintro r h' ⟨r9, I9, J9, R9, rfl, rfl, hR9, T⟩
    show ow_AW ow_Y0 (ow_Z Q) M_Mo_plan (d + 1) 0 0 36 [(2, .int r8), (0, .ref 70), (1, .int p1)] [.int r9] (85, I9, J9, R9) 0 0
    exact ow_iret d_Mo_plan_36 rfl T
  · replace T := T.2 c
    refine ow_aload_n 1 rfl d_Mo_plan_23 ?_
    refine ow_iload_n 0 rfl d_Mo_plan_24 ?_
    refine ow_callV (b := 70) (cq := 12) (As := [.int r8]) (rest := []) (d2 := d) d_Mo_plan_25 l_Mo_157 v_Mo_no (show 70 < 85 by decide) rfl (by decide) rfl (Nat.le_of_ble_eq_true rfl) (Nat.le_refl _) ⟨Nat.le_refl _, Nat.le_refl _⟩ (ow_mono T ?_)
    rintro r h' ⟨r10, I10, J10, R10, rfl, rfl, hR10, T⟩
    show ow_AW ow_Y0 (ow_Z Q) M_Mo_plan (d + 1) 0 0 28 [(2, .int r8), (0, .ref 70), (1, .int p1)] [.int r10] (85, I10, J10, R10) 0 0
    refine ow_goto (tgt := 36) d_Mo_plan_28 (by decide) ?_
    exact ow_iret d_Mo_plan_36 rfl T
set_option maxRecDepth 4000 in
theorem t_Mo_planServes {d : Nat} {I : Nat → Nat → Int32} {J : Nat → Nat → Int64} {R : Nat → Nat → Option Nat} {Q : Option Value → ow_H → Prop} {p1 : Int32}  (hR : ow_RF R) (T : (ow_AM M_Mo_good d [.ref 70] (85, I, J, R) (fun r h' => ∃ (I6 : Nat → Nat → Int32) (J6 : Nat → Nat → Int64) (R6 : Nat → Nat → Option Nat), r = none ∧ h' = (85, I6, J6, R6) ∧ ow_RF R6 ∧ (ow_AM M_Mo_in d [.int p1, .int 1, .int 4] (85, I6, J6, R6) (fun r h' => ∃ (r7 : Int32) (I7 : Nat → Nat → Int32) (J7 : Nat → Nat → Int64) (R7 : Nat → Nat → Option Nat), r = some (.int r7) ∧ h' = (85, I7, J7, R7) ∧ ow_RF R7 ∧ (ow_AM M_Mo_why d [.ref 70, .int (I6 70 14), .int r7] (85, I7, J7, R7) (fun r h' => ∃ (r8 : Int32) (I8 : Nat → Nat → Int32) (J8 : Nat → Nat → Int64) (R8 : Nat → Nat → Option Nat), r = some (.int r8) ∧ h' = (85, I8, J8, R8) ∧ ow_RF R8 ∧ ((r8 = 0 → (ow_AM M_Mo_planOf d [.ref 70, .int p1] (85, I8, J8, R8) (fun r h' => ∃ (r9 : Int32) (I9 : Nat → Nat → Int32) (J9 : Nat → Nat → Int64) (R9 : Nat → Nat → Option Nat), r = some (.int r9) ∧ h' = (85, I9, J9, R9) ∧ ow_RF R9 ∧ Q (some (.int (I9 70 33))) (85, I9, J9, R9)))) ∧ (¬ r8 = 0 → (ow_AM M_Mo_no d [.ref 70, .int r8] (85, I8, J8, R8) (fun r h' => ∃ (r10 : Int32) (I10 : Nat → Nat → Int32) (J10 : Nat → Nat → Int64) (R10 : Nat → Nat → Option Nat), r = some (.int r10) ∧ h' = (85, I10, J10, R10) ∧ ow_RF R10 ∧ Q (some (.int r10)) (85, I10, J10, R10)))))))))))) : ow_AM M_Mo_planServes (d + 1) [.ref 70, .int p1] (85, I, J, R) Q := by
  refine ow_enter (by decide) (Nat.le_of_ble_eq_true rfl) ?_
  show ow_AW ow_Y0 (ow_Z Q) M_Mo_planServes (d + 1) 0 0 0 [(0, .ref 70), (1, .int p1)] [] (85, I, J, R) 0 0
  refine ow_aload_n 0 rfl d_Mo_planServes_0 ?_
  refine ow_callV (b := 70) (cq := 12) (As := []) (rest := []) (d2 := d) d_Mo_planServes_1 l_Mo_154 v_Mo_good (show 70 < 85 by decide) rfl (by decide) rfl (Nat.le_of_ble_eq_true rfl) (Nat.le_refl _) ⟨Nat.le_refl _, Nat.le_refl _⟩ (ow_mono T ?_)
  rintro r h' ⟨I6, J6, R6, rfl, rfl, hR6, T⟩
  show ow_AW ow_Y0 (ow_Z Q) M_Mo_planServes (d + 1) 0 0 4 [(0, .ref 70), (1, .int p1)] [] (85, I6, J6, R6) 0 0
  refine ow_aload_n 0 rfl d_Mo_planServes_4 ?_
  refine ow_aload_n 0 rfl d_Mo_planServes_5 ?_
  refine ow_gI 183 d_Mo_planServes_6 rfl rfl (by decide) rfl (Or.inr rfl) ?_
  refine ow_iload_n 1 rfl d_Mo_planServes_9 ?_
  refine ow_iconst (v := 1) (by decide) d_Mo_planServes_10 ?_
  refine ow_iconst (v := 4) (by decide) d_Mo_planServes_11 ?_
  refine ow_callS (As := [.int p1, .int 1, .int 4]) (rest := [.int (I6 70 14), .ref 70]) (d2 := d) d_Mo_planServes_12 l_Mo_142 v_Mo_in (Nat.le_of_ble_eq_true rfl) (Nat.le_refl _) ⟨Nat.le_refl _, Nat.le_refl _⟩ (ow_mono T ?_)
  rintro r h' ⟨r7, I7, J7, R7, rfl, rfl, hR7, T⟩
  show ow_AW ow_Y0 (ow_Z Q) M_Mo_planServes (d + 1) 0 0 15 [(0, .ref 70), (1, .int p1)] [.int r7, .int (I6 70 14), .ref 70] (85, I7, J7, R7) 0 0
  refine ow_callV (b := 70) (cq := 12) (As := [.int (I6 70 14), .int r7]) (rest := []) (d2 := d) d_Mo_planServes_15 l_Mo_323 v_Mo_why (show 70 < 85 by decide) rfl (by decide) rfl (Nat.le_of_ble_eq_true rfl) (Nat.le_refl _) ⟨Nat.le_refl _, Nat.le_refl _⟩ (ow_mono T ?_)
  rintro r h' ⟨r8, I8, J8, R8, rfl, rfl, hR8, T⟩
  show ow_AW ow_Y0 (ow_Z Q) M_Mo_planServes (d + 1) 0 0 18 [(0, .ref 70), (1, .int p1)] [.int r8] (85, I8, J8, R8) 0 0
  refine ow_istore_n (ls2 := [(2, .int r8), (0, .ref 70), (1, .int p1)]) d_Mo_planServes_18 (by decide) rfl ?_
  refine ow_iload_n 0 rfl d_Mo_planServes_19 ?_
  refine ow_if_eq (tgt := 29) d_Mo_planServes_20 (by decide) (fun c => ?_) (fun c => ?_)
  · replace T := T.1 c
    refine ow_aload_n 1 rfl d_Mo_planServes_29 ?_
    refine ow_iload_n 2 rfl d_Mo_planServes_30 ?_
    refine ow_callV (b := 70) (cq := 12) (As := [.int p1]) (rest := []) (d2 := d) d_Mo_planServes_31 l_Mo_336 v_Mo_planOf (show 70 < 85 by decide) rfl (by decide) rfl (Nat.le_of_ble_eq_true rfl) (Nat.le_refl _) ⟨Nat.le_refl _, Nat.le_refl _⟩ (ow_mono T ?_)
    rintro r h' ⟨r9, I9, J9, R9, rfl, rfl, hR9, T⟩
    show ow_AW ow_Y0 (ow_Z Q) M_Mo_planServes (d + 1) 0 0 34 [(2, .int r8), (0, .ref 70), (1, .int p1)] [.int r9] (85, I9, J9, R9) 0 0
    refine ow_pop rfl d_Mo_planServes_34 ?_
    refine ow_aload_n 1 rfl d_Mo_planServes_35 ?_
    refine ow_gI 202 d_Mo_planServes_36 rfl rfl (by decide) rfl (Or.inl rfl) ?_
    exact ow_iret d_Mo_planServes_39 rfl T
  · replace T := T.2 c
    refine ow_aload_n 1 rfl d_Mo_planServes_23 ?_
    refine ow_iload_n 0 rfl d_Mo_planServes_24 ?_
    refine ow_callV (b := 70) (cq := 12) (As := [.int r8]) (rest := []) (d2 := d) d_Mo_planServes_25 l_Mo_157 v_Mo_no (show 70 < 85 by decide) rfl (by decide) rfl (Nat.le_of_ble_eq_true rfl) (Nat.le_refl _) ⟨Nat.le_refl _, Nat.le_refl _⟩ (ow_mono T ?_)
    rintro r h' ⟨r10, I10, J10, R10, rfl, rfl, hR10, T⟩
    show ow_AW ow_Y0 (ow_Z Q) M_Mo_planServes (d + 1) 0 0 28 [(2, .int r8), (0, .ref 70), (1, .int p1)] [.int r10] (85, I10, J10, R10) 0 0
    exact ow_iret d_Mo_planServes_28 rfl T
set_option maxRecDepth 4000 in
theorem t_Mo_servedWithOnly_17 {d : Nat} {I : Nat → Nat → Int32} {J : Nat → Nat → Int64} {R : Nat → Nat → Option Nat} {Q : Option Value → ow_H → Prop}  {v1 : Int32} {v2 : Int32}  (hR : ow_RF R) (T : (((I 73 2) ≤ v2 → (ow_AM M_Mo_servedOn d [.ref 70, .ref 82] (85, I, J, R) (fun r h' => ∃ (r2 : Int32) (I2 : Nat → Nat → Int32) (J2 : Nat → Nat → Int64) (R2 : Nat → Nat → Option Nat), r = some (.int r2) ∧ h' = (85, I2, J2, R2) ∧ ow_RF R2 ∧ Q (some (.int r2)) (85, I2, J2, R2)))) ∧ (¬ (I 73 2) ≤ v2 → (ow_AM M_Mo_hasBit d [.int v1, .int v2] (85, I, J, R) (fun r h' => ∃ (r3 : Int32) (I3 : Nat → Nat → Int32) (J3 : Nat → Nat → Int64) (R3 : Nat → Nat → Option Nat), r = some (.int r3) ∧ h' = (85, I3, J3, R3) ∧ ow_RF R3 ∧ ((¬ r3 = 0 → ow_AW ow_Y0 (ow_Z Q) M_Mo_servedWithOnly (d + 1) 0 0 17 [(0, .ref 70), (1, .int v1), (2, .int (v2 + 1))] [] (85, I3, J3, R3) 0 0) ∧ (r3 = 0 → (vp_in v2 14 ∧ (∀ (I4 : Nat → Nat → Int32), I4 = ow_u I3 82 (v2.toNatClampNeg) 0 → ow_AW ow_Y0 (ow_Z Q) M_Mo_servedWithOnly (d + 1) 0 0 17 [(0, .ref 70), (1, .int v1), (2, .int (v2 + 1))] [] (85, I4, J3, R3) 0 0))))))))) : ow_AW ow_Y0 (ow_Z Q) M_Mo_servedWithOnly (d + 1) 0 0 17 [(0, .ref 70), (1, .int v1), (2, .int v2)] [] (85, I, J, R) 0 0 := by
  refine ow_iload_n 2 rfl d_Mo_servedWithOnly_17 ?_
  refine ow_aload_n 0 rfl d_Mo_servedWithOnly_18 ?_
  refine ow_gR (a := 73) 184 d_Mo_servedWithOnly_19 rfl rfl (by decide) rfl ⟨rfl, hR 70 15 (by decide)⟩ ?_
  refine ow_iconst (v := 2) (by decide) d_Mo_servedWithOnly_22 ?_
  refine ow_hiaload d_Mo_servedWithOnly_23 (by decide) rfl rfl (show vp_in (2 : Int32) 146 by unfold vp_in; decide) ?_
  show ow_AW ow_Y0 (ow_Z Q) M_Mo_servedWithOnly (d + 1) 0 0 24 [(0, .ref 70), (1, .int v1), (2, .int v2)] [.int (I 73 2), .int v2] (85, I, J, R) 0 0
  refine ow_icmp_ge (tgt := 48) d_Mo_servedWithOnly_24 (by decide) (fun c => ?_) (fun c => ?_)
  · replace T := T.1 c
    refine ow_aload_n 0 rfl d_Mo_servedWithOnly_48 ?_
    refine ow_aload_n 0 rfl d_Mo_servedWithOnly_49 ?_
    refine ow_gR (a := 82) 200 d_Mo_servedWithOnly_50 rfl rfl (by decide) rfl ⟨rfl, hR 70 31 (by decide)⟩ ?_
    refine ow_callV (b := 70) (cq := 12) (As := [.ref 82]) (rest := []) (d2 := d) d_Mo_servedWithOnly_53 l_Mo_284 v_Mo_servedOn (show 70 < 85 by decide) rfl (by decide) rfl (Nat.le_of_ble_eq_true rfl) (Nat.le_refl _) ⟨Nat.le_refl _, Nat.le_refl _⟩ (ow_mono T ?_)
    rintro r h' ⟨r2, I2, J2, R2, rfl, rfl, hR2, T⟩
    show ow_AW ow_Y0 (ow_Z Q) M_Mo_servedWithOnly (d + 1) 0 0 56 [(0, .ref 70), (1, .int v1), (2, .int v2)] [.int r2] (85, I2, J2, R2) 0 0
    exact ow_iret d_Mo_servedWithOnly_56 rfl T
  · replace T := T.2 c
    refine ow_iload_n 1 rfl d_Mo_servedWithOnly_27 ?_
    refine ow_iload_n 2 rfl d_Mo_servedWithOnly_28 ?_
    refine ow_callS (As := [.int v1, .int v2]) (rest := []) (d2 := d) d_Mo_servedWithOnly_29 l_Mo_231 v_Mo_hasBit (Nat.le_of_ble_eq_true rfl) (Nat.le_refl _) ⟨Nat.le_refl _, Nat.le_refl _⟩ (ow_mono T ?_)
    rintro r h' ⟨r3, I3, J3, R3, rfl, rfl, hR3, T⟩
    show ow_AW ow_Y0 (ow_Z Q) M_Mo_servedWithOnly (d + 1) 0 0 32 [(0, .ref 70), (1, .int v1), (2, .int v2)] [.int r3] (85, I3, J3, R3) 0 0
    refine ow_if_ne (tgt := 42) d_Mo_servedWithOnly_32 (by decide) (fun c => ?_) (fun c => ?_)
    · replace T := T.1 c
      refine ow_iinc 2 (v := (v2 + 1)) (ls2 := [(2, .int (v2 + 1)), (0, .ref 70), (1, .int v1)]) d_Mo_servedWithOnly_42 rfl rfl (by decide) rfl ?_
      refine ow_goto (tgt := 17) d_Mo_servedWithOnly_45 (by decide) ?_
      refine ow_sub [1, 2, 0] rfl ?_
      exact T
    · replace T := T.2 c
      refine ow_aload_n 0 rfl d_Mo_servedWithOnly_35 ?_
      refine ow_gR (a := 82) 200 d_Mo_servedWithOnly_36 rfl rfl (by decide) rfl ⟨rfl, hR3 70 31 (by decide)⟩ ?_
      refine ow_iload_n 2 rfl d_Mo_servedWithOnly_39 ?_
      refine ow_iconst (v := 0) (by decide) d_Mo_servedWithOnly_40 ?_
      obtain ⟨cI, T⟩ := T
      refine ow_hiastore d_Mo_servedWithOnly_41 (by decide) rfl rfl cI ?_
      obtain ⟨I4, eI4⟩ : ∃ uu, uu = ow_u I3 82 (v2.toNatClampNeg) 0 := ⟨_, rfl⟩
      replace T := T I4 eI4
      rw [← eI4]
      refine ow_iinc 2 (v := (v2 + 1)) (ls2 := [(2, .int (v2 + 1)), (0, .ref 70), (1, .int v1)]) d_Mo_servedWithOnly_42 rfl rfl (by decide) rfl ?_
      refine ow_goto (tgt := 17) d_Mo_servedWithOnly_45 (by decide) ?_
      refine ow_sub [1, 2, 0] rfl ?_
      exact T
set_option maxRecDepth 4000 in
theorem t_Mo_servedWithOnly {d : Nat} {I : Nat → Nat → Int32} {J : Nat → Nat → Int64} {R : Nat → Nat → Option Nat} {Q : Option Value → ow_H → Prop} {p1 : Int32}  (hR : ow_RF R) (T : (ow_AM M_Mo_copy d [.ref 77, .int 0, .ref 82, .int 0, .int 14] (85, I, J, R) (fun r h' => ∃ (I5 : Nat → Nat → Int32) (J5 : Nat → Nat → Int64) (R5 : Nat → Nat → Option Nat), r = none ∧ h' = (85, I5, J5, R5) ∧ ow_RF R5 ∧ ow_AW ow_Y0 (ow_Z Q) M_Mo_servedWithOnly (d + 1) 0 0 17 [(0, .ref 70), (1, .int p1), (2, .int 0)] [] (85, I5, J5, R5) 0 0))) : ow_AM M_Mo_servedWithOnly (d + 1) [.ref 70, .int p1] (85, I, J, R) Q := by
  refine ow_enter (by decide) (Nat.le_of_ble_eq_true rfl) ?_
  show ow_AW ow_Y0 (ow_Z Q) M_Mo_servedWithOnly (d + 1) 0 0 0 [(0, .ref 70), (1, .int p1)] [] (85, I, J, R) 0 0
  refine ow_aload_n 0 rfl d_Mo_servedWithOnly_0 ?_
  refine ow_gR (a := 77) 188 d_Mo_servedWithOnly_1 rfl rfl (by decide) rfl ⟨rfl, hR 70 19 (by decide)⟩ ?_
  refine ow_iconst (v := 0) (by decide) d_Mo_servedWithOnly_4 ?_
  refine ow_aload_n 0 rfl d_Mo_servedWithOnly_5 ?_
  refine ow_gR (a := 82) 200 d_Mo_servedWithOnly_6 rfl rfl (by decide) rfl ⟨rfl, hR 70 31 (by decide)⟩ ?_
  refine ow_iconst (v := 0) (by decide) d_Mo_servedWithOnly_9 ?_
  refine ow_bipush (v := 14) (by decide) d_Mo_servedWithOnly_10 ?_
  refine ow_callS (As := [.ref 77, .int 0, .ref 82, .int 0, .int 14]) (rest := []) (d2 := d) d_Mo_servedWithOnly_12 l_Mo_163 v_Mo_copy (Nat.le_of_ble_eq_true rfl) (Nat.le_refl _) ⟨Nat.le_refl _, Nat.le_refl _⟩ (ow_mono T ?_)
  rintro r h' ⟨I5, J5, R5, rfl, rfl, hR5, T⟩
  show ow_AW ow_Y0 (ow_Z Q) M_Mo_servedWithOnly (d + 1) 0 0 15 [(0, .ref 70), (1, .int p1)] [] (85, I5, J5, R5) 0 0
  refine ow_iconst (v := 0) (by decide) d_Mo_servedWithOnly_15 ?_
  refine ow_istore_n (ls2 := [(2, .int 0), (0, .ref 70), (1, .int p1)]) d_Mo_servedWithOnly_16 (by decide) rfl ?_
  refine ow_sub [1, 2, 0] rfl ?_
  exact T
set_option maxRecDepth 4000 in
theorem t_Mo_allFollies {d : Nat} {I : Nat → Nat → Int32} {J : Nat → Nat → Int64} {R : Nat → Nat → Option Nat} {Q : Option Value → ow_H → Prop}   (hR : ow_RF R) (T : Q (some (.int (((1 : Int32) <<< ((I 73 2) &&& 31)) - 1))) (85, I, J, R)) : ow_AM M_Mo_allFollies (d + 1) [.ref 70] (85, I, J, R) Q := by
  refine ow_enter (by decide) (Nat.le_of_ble_eq_true rfl) ?_
  show ow_AW ow_Y0 (ow_Z Q) M_Mo_allFollies (d + 1) 0 0 0 [(0, .ref 70)] [] (85, I, J, R) 0 0
  refine ow_iconst (v := 1) (by decide) d_Mo_allFollies_0 ?_
  refine ow_aload_n 0 rfl d_Mo_allFollies_1 ?_
  refine ow_gR (a := 73) 184 d_Mo_allFollies_2 rfl rfl (by decide) rfl ⟨rfl, hR 70 15 (by decide)⟩ ?_
  refine ow_iconst (v := 2) (by decide) d_Mo_allFollies_5 ?_
  refine ow_hiaload d_Mo_allFollies_6 (by decide) rfl rfl (show vp_in (2 : Int32) 146 by unfold vp_in; decide) ?_
  show ow_AW ow_Y0 (ow_Z Q) M_Mo_allFollies (d + 1) 0 0 7 [(0, .ref 70)] [.int (I 73 2), .int 1] (85, I, J, R) 0 0
  refine ow_ishl d_Mo_allFollies_7 ?_
  refine ow_iconst (v := 1) (by decide) d_Mo_allFollies_8 ?_
  refine ow_isub d_Mo_allFollies_9 ?_
  exact ow_iret d_Mo_allFollies_10 rfl T
set_option maxRecDepth 4000 in
theorem t_Mo_keep_35 {d : Nat} {I : Nat → Nat → Int32} {J : Nat → Nat → Int64} {R : Nat → Nat → Option Nat} {Q : Option Value → ow_H → Prop}  {v1 : Int32} {v2 : Int32} {v3 : Int32}  (hR : ow_RF R) (T : (ow_AM M_Mo_allFollies d [.ref 70] (85, I, J, R) (fun r h' => ∃ (r5 : Int32) (I5 : Nat → Nat → Int32) (J5 : Nat → Nat → Int64) (R5 : Nat → Nat → Option Nat), r = some (.int r5) ∧ h' = (85, I5, J5, R5) ∧ ow_RF R5 ∧ ((r5 < v3 → Q (some (.int v2)) (85, I5, J5, R5)) ∧ (¬ r5 < v3 → ((v2 < 0 → (ow_AM M_Mo_servedWithOnly d [.ref 70, .int v3] (85, I5, J5, R5) (fun r h' => ∃ (r6 : Int32) (I6 : Nat → Nat → Int32) (J6 : Nat → Nat → Int64) (R6 : Nat → Nat → Option Nat), r = some (.int r6) ∧ h' = (85, I6, J6, R6) ∧ ow_RF R6 ∧ ((¬ (v1 &&& (r6 ^^^ (-1))) = 0 → ow_AW ow_Y0 (ow_Z Q) M_Mo_keep (d + 1) 0 0 35 [(0, .ref 70), (1, .int v1), (2, .int v2), (3, .int (v3 + 1))] [] (85, I6, J6, R6) 0 0) ∧ ((v1 &&& (r6 ^^^ (-1))) = 0 → ow_AW ow_Y0 (ow_Z Q) M_Mo_keep (d + 1) 0 0 35 [(0, .ref 70), (1, .int v1), (2, .int v3), (3, .int (v3 + 1))] [] (85, I6, J6, R6) 0 0))))) ∧ (¬ v2 < 0 → (ow_AM M_Mo_ones d [.int v3] (85, I5, J5, R5) (fun r h' => ∃ (r7 : Int32) (I7 : Nat → Nat → Int32) (J7 : Nat → Nat → Int64) (R7 : Nat → Nat → Option Nat), r = some (.int r7) ∧ h' = (85, I7, J7, R7) ∧ ow_RF R7 ∧ (ow_AM M_Mo_ones d [.int v2] (85, I7, J7, R7) (fun r h' => ∃ (r8 : Int32) (I8 : Nat → Nat → Int32) (J8 : Nat → Nat → Int64) (R8 : Nat → Nat → Option Nat), r = some (.int r8) ∧ h' = (85, I8, J8, R8) ∧ ow_RF R8 ∧ ((r8 ≤ r7 → ow_AW ow_Y0 (ow_Z Q) M_Mo_keep (d + 1) 0 0 35 [(0, .ref 70), (1, .int v1), (2, .int v2), (3, .int (v3 + 1))] [] (85, I8, J8, R8) 0 0) ∧ (¬ r8 ≤ r7 → (ow_AM M_Mo_servedWithOnly d [.ref 70, .int v3] (85, I8, J8, R8) (fun r h' => ∃ (r9 : Int32) (I9 : Nat → Nat → Int32) (J9 : Nat → Nat → Int64) (R9 : Nat → Nat → Option Nat), r = some (.int r9) ∧ h' = (85, I9, J9, R9) ∧ ow_RF R9 ∧ ((¬ (v1 &&& (r9 ^^^ (-1))) = 0 → ow_AW ow_Y0 (ow_Z Q) M_Mo_keep (d + 1) 0 0 35 [(0, .ref 70), (1, .int v1), (2, .int v2), (3, .int (v3 + 1))] [] (85, I9, J9, R9) 0 0) ∧ ((v1 &&& (r9 ^^^ (-1))) = 0 → ow_AW ow_Y0 (ow_Z Q) M_Mo_keep (d + 1) 0 0 35 [(0, .ref 70), (1, .int v1), (2, .int v3), (3, .int (v3 + 1))] [] (85, I9, J9, R9) 0 0))))))))))))))))) : ow_AW ow_Y0 (ow_Z Q) M_Mo_keep (d + 1) 0 0 35 [(0, .ref 70), (1, .int v1), (2, .int v2), (3, .int v3)] [] (85, I, J, R) 0 0 := by
  refine ow_iload_n 3 rfl d_Mo_keep_35 ?_
  refine ow_aload_n 0 rfl d_Mo_keep_36 ?_
  refine ow_callV (b := 70) (cq := 12) (As := []) (rest := [.int v3]) (d2 := d) d_Mo_keep_37 l_Mo_339 v_Mo_allFollies (show 70 < 85 by decide) rfl (by decide) rfl (Nat.le_of_ble_eq_true rfl) (Nat.le_refl _) ⟨Nat.le_refl _, Nat.le_refl _⟩ (ow_mono T ?_)
  rintro r h' ⟨r5, I5, J5, R5, rfl, rfl, hR5, T⟩
  show ow_AW ow_Y0 (ow_Z Q) M_Mo_keep (d + 1) 0 0 40 [(0, .ref 70), (1, .int v1), (2, .int v2), (3, .int v3)] [.int r5, .int v3] (85, I5, J5, R5) 0 0
  refine ow_icmp_gt (tgt := 78) d_Mo_keep_40 (by decide) (fun c => ?_) (fun c => ?_)
  · replace T := T.1 c
    refine ow_iload_n 2 rfl d_Mo_keep_78 ?_
    exact ow_iret d_Mo_keep_79 rfl T
  · replace T := T.2 c
    refine ow_iload_n 2 rfl d_Mo_keep_43 ?_
    refine ow_if_lt (tgt := 58) d_Mo_keep_44 (by decide) (fun c => ?_) (fun c => ?_)
    · replace T := T.1 c
      refine ow_iload_n 1 rfl d_Mo_keep_58 ?_
      refine ow_aload_n 0 rfl d_Mo_keep_59 ?_
      refine ow_iload_n 3 rfl d_Mo_keep_60 ?_
      refine ow_callV (b := 70) (cq := 12) (As := [.int v3]) (rest := [.int v1]) (d2 := d) d_Mo_keep_61 l_Mo_342 v_Mo_servedWithOnly (show 70 < 85 by decide) rfl (by decide) rfl (Nat.le_of_ble_eq_true rfl) (Nat.le_refl _) ⟨Nat.le_refl _, Nat.le_refl _⟩ (ow_mono T ?_)
      rintro r h' ⟨r6, I6, J6, R6, rfl, rfl, hR6, T⟩
      show ow_AW ow_Y0 (ow_Z Q) M_Mo_keep (d + 1) 0 0 64 [(0, .ref 70), (1, .int v1), (2, .int v2), (3, .int v3)] [.int r6, .int v1] (85, I6, J6, R6) 0 0
      refine ow_iconst (v := (-1)) (by decide) d_Mo_keep_64 ?_
      refine ow_ixor d_Mo_keep_65 ?_
      refine ow_iand d_Mo_keep_66 ?_
      refine ow_if_ne (tgt := 72) d_Mo_keep_67 (by decide) (fun c => ?_) (fun c => ?_)
      · replace T := T.1 c
        refine ow_iinc 3 (v := (v3 + 1)) (ls2 := [(3, .int (v3 + 1)), (0, .ref 70), (1, .int v1), (2, .int v2)]) d_Mo_keep_72 rfl rfl (by decide) rfl ?_
        refine ow_goto (tgt := 35) d_Mo_keep_75 (by decide) ?_
        refine ow_sub [1, 2, 3, 0] rfl ?_
        exact T
      · replace T := T.2 c
        refine ow_iload_n 3 rfl d_Mo_keep_70 ?_
        refine ow_istore_n (ls2 := [(2, .int v3), (0, .ref 70), (1, .int v1), (3, .int v3)]) d_Mo_keep_71 (by decide) rfl ?_
        refine ow_iinc 3 (v := (v3 + 1)) (ls2 := [(3, .int (v3 + 1)), (2, .int v3), (0, .ref 70), (1, .int v1)]) d_Mo_keep_72 rfl rfl (by decide) rfl ?_
        refine ow_goto (tgt := 35) d_Mo_keep_75 (by decide) ?_
        refine ow_sub [2, 3, 1, 0] rfl ?_
        exact T
    · replace T := T.2 c
      refine ow_iload_n 3 rfl d_Mo_keep_47 ?_
      refine ow_callS (As := [.int v3]) (rest := []) (d2 := d) d_Mo_keep_48 l_Mo_307 v_Mo_ones (Nat.le_of_ble_eq_true rfl) (Nat.le_refl _) ⟨Nat.le_refl _, Nat.le_refl _⟩ (ow_mono T ?_)
      rintro r h' ⟨r7, I7, J7, R7, rfl, rfl, hR7, T⟩
      show ow_AW ow_Y0 (ow_Z Q) M_Mo_keep (d + 1) 0 0 51 [(0, .ref 70), (1, .int v1), (2, .int v2), (3, .int v3)] [.int r7] (85, I7, J7, R7) 0 0
      refine ow_iload_n 2 rfl d_Mo_keep_51 ?_
      refine ow_callS (As := [.int v2]) (rest := [.int r7]) (d2 := d) d_Mo_keep_52 l_Mo_307 v_Mo_ones (Nat.le_of_ble_eq_true rfl) (Nat.le_refl _) ⟨Nat.le_refl _, Nat.le_refl _⟩ (ow_mono T ?_)
      rintro r h' ⟨r8, I8, J8, R8, rfl, rfl, hR8, T⟩
      show ow_AW ow_Y0 (ow_Z Q) M_Mo_keep (d + 1) 0 0 55 [(0, .ref 70), (1, .int v1), (2, .int v2), (3, .int v3)] [.int r8, .int r7] (85, I8, J8, R8) 0 0
      refine ow_icmp_ge (tgt := 72) d_Mo_keep_55 (by decide) (fun c => ?_) (fun c => ?_)
      · replace T := T.1 c
        refine ow_iinc 3 (v := (v3 + 1)) (ls2 := [(3, .int (v3 + 1)), (0, .ref 70), (1, .int v1), (2, .int v2)]) d_Mo_keep_72 rfl rfl (by decide) rfl ?_
        refine ow_goto (tgt := 35) d_Mo_keep_75 (by decide) ?_
        refine ow_sub [1, 2, 3, 0] rfl ?_
        exact T
      · replace T := T.2 c
        refine ow_iload_n 1 rfl d_Mo_keep_58 ?_
        refine ow_aload_n 0 rfl d_Mo_keep_59 ?_
        refine ow_iload_n 3 rfl d_Mo_keep_60 ?_
        refine ow_callV (b := 70) (cq := 12) (As := [.int v3]) (rest := [.int v1]) (d2 := d) d_Mo_keep_61 l_Mo_342 v_Mo_servedWithOnly (show 70 < 85 by decide) rfl (by decide) rfl (Nat.le_of_ble_eq_true rfl) (Nat.le_refl _) ⟨Nat.le_refl _, Nat.le_refl _⟩ (ow_mono T ?_)
        rintro r h' ⟨r9, I9, J9, R9, rfl, rfl, hR9, T⟩
        show ow_AW ow_Y0 (ow_Z Q) M_Mo_keep (d + 1) 0 0 64 [(0, .ref 70), (1, .int v1), (2, .int v2), (3, .int v3)] [.int r9, .int v1] (85, I9, J9, R9) 0 0
        refine ow_iconst (v := (-1)) (by decide) d_Mo_keep_64 ?_
        refine ow_ixor d_Mo_keep_65 ?_
        refine ow_iand d_Mo_keep_66 ?_
        refine ow_if_ne (tgt := 72) d_Mo_keep_67 (by decide) (fun c => ?_) (fun c => ?_)
        · replace T := T.1 c
          refine ow_iinc 3 (v := (v3 + 1)) (ls2 := [(3, .int (v3 + 1)), (0, .ref 70), (1, .int v1), (2, .int v2)]) d_Mo_keep_72 rfl rfl (by decide) rfl ?_
          refine ow_goto (tgt := 35) d_Mo_keep_75 (by decide) ?_
          refine ow_sub [1, 2, 3, 0] rfl ?_
          exact T
        · replace T := T.2 c
          refine ow_iload_n 3 rfl d_Mo_keep_70 ?_
          refine ow_istore_n (ls2 := [(2, .int v3), (0, .ref 70), (1, .int v1), (3, .int v3)]) d_Mo_keep_71 (by decide) rfl ?_
          refine ow_iinc 3 (v := (v3 + 1)) (ls2 := [(3, .int (v3 + 1)), (2, .int v3), (0, .ref 70), (1, .int v1)]) d_Mo_keep_72 rfl rfl (by decide) rfl ?_
          refine ow_goto (tgt := 35) d_Mo_keep_75 (by decide) ?_
          refine ow_sub [2, 3, 1, 0] rfl ?_
          exact T
set_option maxRecDepth 4000 in
theorem t_Mo_keep {d : Nat} {I : Nat → Nat → Int32} {J : Nat → Nat → Int64} {R : Nat → Nat → Option Nat} {Q : Option Value → ow_H → Prop}   (hR : ow_RF R) (T : (ow_AM M_Mo_good d [.ref 70] (85, I, J, R) (fun r h' => ∃ (I10 : Nat → Nat → Int32) (J10 : Nat → Nat → Int64) (R10 : Nat → Nat → Option Nat), r = none ∧ h' = (85, I10, J10, R10) ∧ ow_RF R10 ∧ ((¬ (I10 70 14) = 0 → (ow_AM M_Mo_asToldShapes d [.ref 70] (85, I10, J10, R10) (fun r h' => ∃ (I11 : Nat → Nat → Int32) (J11 : Nat → Nat → Int64) (R11 : Nat → Nat → Option Nat), r = none ∧ h' = (85, I11, J11, R11) ∧ ow_RF R11 ∧ (ow_AM M_Mo_servedOn d [.ref 70, .ref 77] (85, I11, J11, R11) (fun r h' => ∃ (r12 : Int32) (I12 : Nat → Nat → Int32) (J12 : Nat → Nat → Int64) (R12 : Nat → Nat → Option Nat), r = some (.int r12) ∧ h' = (85, I12, J12, R12) ∧ ow_RF R12 ∧ ow_AW ow_Y0 (ow_Z Q) M_Mo_keep (d + 1) 0 0 35 [(0, .ref 70), (1, .int r12), (2, .int (-2)), (3, .int 0)] [] (85, I12, J12, R12) 0 0))))) ∧ ((I10 70 14) = 0 → (ow_AM M_Mo_no d [.ref 70, .int 1] (85, I10, J10, R10) (fun r h' => ∃ (r13 : Int32) (I13 : Nat → Nat → Int32) (J13 : Nat → Nat → Int64) (R13 : Nat → Nat → Option Nat), r = some (.int r13) ∧ h' = (85, I13, J13, R13) ∧ ow_RF R13 ∧ Q (some (.int r13)) (85, I13, J13, R13)))))))) : ow_AM M_Mo_keep (d + 1) [.ref 70] (85, I, J, R) Q := by
  refine ow_enter (by decide) (Nat.le_of_ble_eq_true rfl) ?_
  show ow_AW ow_Y0 (ow_Z Q) M_Mo_keep (d + 1) 0 0 0 [(0, .ref 70)] [] (85, I, J, R) 0 0
  refine ow_aload_n 0 rfl d_Mo_keep_0 ?_
  refine ow_callV (b := 70) (cq := 12) (As := []) (rest := []) (d2 := d) d_Mo_keep_1 l_Mo_154 v_Mo_good (show 70 < 85 by decide) rfl (by decide) rfl (Nat.le_of_ble_eq_true rfl) (Nat.le_refl _) ⟨Nat.le_refl _, Nat.le_refl _⟩ (ow_mono T ?_)
  rintro r h' ⟨I10, J10, R10, rfl, rfl, hR10, T⟩
  show ow_AW ow_Y0 (ow_Z Q) M_Mo_keep (d + 1) 0 0 4 [(0, .ref 70)] [] (85, I10, J10, R10) 0 0
  refine ow_aload_n 0 rfl d_Mo_keep_4 ?_
  refine ow_gI 183 d_Mo_keep_5 rfl rfl (by decide) rfl (Or.inr rfl) ?_
  refine ow_if_ne (tgt := 17) d_Mo_keep_8 (by decide) (fun c => ?_) (fun c => ?_)
  · replace T := T.1 c
    refine ow_aload_n 0 rfl d_Mo_keep_17 ?_
    refine ow_callV (b := 70) (cq := 12) (As := []) (rest := []) (d2 := d) d_Mo_keep_18 l_Mo_281 v_Mo_asToldShapes (show 70 < 85 by decide) rfl (by decide) rfl (Nat.le_of_ble_eq_true rfl) (Nat.le_refl _) ⟨Nat.le_refl _, Nat.le_refl _⟩ (ow_mono T ?_)
    rintro r h' ⟨I11, J11, R11, rfl, rfl, hR11, T⟩
    show ow_AW ow_Y0 (ow_Z Q) M_Mo_keep (d + 1) 0 0 21 [(0, .ref 70)] [] (85, I11, J11, R11) 0 0
    refine ow_aload_n 0 rfl d_Mo_keep_21 ?_
    refine ow_aload_n 0 rfl d_Mo_keep_22 ?_
    refine ow_gR (a := 77) 188 d_Mo_keep_23 rfl rfl (by decide) rfl ⟨rfl, hR11 70 19 (by decide)⟩ ?_
    refine ow_callV (b := 70) (cq := 12) (As := [.ref 77]) (rest := []) (d2 := d) d_Mo_keep_26 l_Mo_284 v_Mo_servedOn (show 70 < 85 by decide) rfl (by decide) rfl (Nat.le_of_ble_eq_true rfl) (Nat.le_refl _) ⟨Nat.le_refl _, Nat.le_refl _⟩ (ow_mono T ?_)
    rintro r h' ⟨r12, I12, J12, R12, rfl, rfl, hR12, T⟩
    show ow_AW ow_Y0 (ow_Z Q) M_Mo_keep (d + 1) 0 0 29 [(0, .ref 70)] [.int r12] (85, I12, J12, R12) 0 0
    refine ow_istore_n (ls2 := [(1, .int r12), (0, .ref 70)]) d_Mo_keep_29 (by decide) rfl ?_
    refine ow_bipush (v := (-2)) (by decide) d_Mo_keep_30 ?_
    refine ow_istore_n (ls2 := [(2, .int (-2)), (1, .int r12), (0, .ref 70)]) d_Mo_keep_32 (by decide) rfl ?_
    refine ow_iconst (v := 0) (by decide) d_Mo_keep_33 ?_
    refine ow_istore_n (ls2 := [(3, .int 0), (2, .int (-2)), (1, .int r12), (0, .ref 70)]) d_Mo_keep_34 (by decide) rfl ?_
    refine ow_sub [3, 2, 1, 0] rfl ?_
    exact T
  · replace T := T.2 c
    refine ow_aload_n 0 rfl d_Mo_keep_11 ?_
    refine ow_iconst (v := 1) (by decide) d_Mo_keep_12 ?_
    refine ow_callV (b := 70) (cq := 12) (As := [.int 1]) (rest := []) (d2 := d) d_Mo_keep_13 l_Mo_157 v_Mo_no (show 70 < 85 by decide) rfl (by decide) rfl (Nat.le_of_ble_eq_true rfl) (Nat.le_refl _) ⟨Nat.le_refl _, Nat.le_refl _⟩ (ow_mono T ?_)
    rintro r h' ⟨r13, I13, J13, R13, rfl, rfl, hR13, T⟩
    show ow_AW ow_Y0 (ow_Z Q) M_Mo_keep (d + 1) 0 0 16 [(0, .ref 70)] [.int r13] (85, I13, J13, R13) 0 0
    exact ow_iret d_Mo_keep_16 rfl T
set_option maxRecDepth 4000 in
theorem t_Mo_pillar_30 {d : Nat} {I : Nat → Nat → Int32} {J : Nat → Nat → Int64} {R : Nat → Nat → Option Nat} {Q : Option Value → ow_H → Prop}  {v1 : Int32} {v2 : Int32} {v3 : Int32}  (hR : ow_RF R) (T : (((I 73 2) ≤ v3 → Q (some (.int v1)) (85, I, J, R)) ∧ (¬ (I 73 2) ≤ v3 → (ow_AM M_Mo_allFollies d [.ref 70] (85, I, J, R) (fun r h' => ∃ (r4 : Int32) (I4 : Nat → Nat → Int32) (J4 : Nat → Nat → Int64) (R4 : Nat → Nat → Option Nat), r = some (.int r4) ∧ h' = (85, I4, J4, R4) ∧ ow_RF R4 ∧ (ow_AM M_Mo_servedWithOnly d [.ref 70, .int (r4 ^^^ ((1 : Int32) <<< (v3 &&& 31)))] (85, I4, J4, R4) (fun r h' => ∃ (r5 : Int32) (I5 : Nat → Nat → Int32) (J5 : Nat → Nat → Int64) (R5 : Nat → Nat → Option Nat), r = some (.int r5) ∧ h' = (85, I5, J5, R5) ∧ ow_RF R5 ∧ (ow_AM M_Mo_ones d [.int r5] (85, I5, J5, R5) (fun r h' => ∃ (r6 : Int32) (I6 : Nat → Nat → Int32) (J6 : Nat → Nat → Int64) (R6 : Nat → Nat → Option Nat), r = some (.int r6) ∧ h' = (85, I6, J6, R6) ∧ ow_RF R6 ∧ ((r6 < v2 → ow_AW ow_Y0 (ow_Z Q) M_Mo_pillar (d + 1) 0 0 30 [(0, .ref 70), (1, .int v3), (2, .int r6), (3, .int (v3 + 1))] [] (85, I6, J6, R6) 0 0) ∧ (¬ r6 < v2 → ow_AW ow_Y0 (ow_Z Q) M_Mo_pillar (d + 1) 0 0 30 [(0, .ref 70), (1, .int v1), (2, .int v2), (3, .int (v3 + 1))] [] (85, I6, J6, R6) 0 0))))))))))) : ow_AW ow_Y0 (ow_Z Q) M_Mo_pillar (d + 1) 0 0 30 [(0, .ref 70), (1, .int v1), (2, .int v2), (3, .int v3)] [] (85, I, J, R) 0 0 := by
  refine ow_iload_n 3 rfl d_Mo_pillar_30 ?_
  refine ow_aload_n 0 rfl d_Mo_pillar_31 ?_
  refine ow_gR (a := 73) 184 d_Mo_pillar_32 rfl rfl (by decide) rfl ⟨rfl, hR 70 15 (by decide)⟩ ?_
  refine ow_iconst (v := 2) (by decide) d_Mo_pillar_35 ?_
  refine ow_hiaload d_Mo_pillar_36 (by decide) rfl rfl (show vp_in (2 : Int32) 146 by unfold vp_in; decide) ?_
  show ow_AW ow_Y0 (ow_Z Q) M_Mo_pillar (d + 1) 0 0 37 [(0, .ref 70), (1, .int v1), (2, .int v2), (3, .int v3)] [.int (I 73 2), .int v3] (85, I, J, R) 0 0
  refine ow_icmp_ge (tgt := 77) d_Mo_pillar_37 (by decide) (fun c => ?_) (fun c => ?_)
  · replace T := T.1 c
    refine ow_iload_n 1 rfl d_Mo_pillar_77 ?_
    exact ow_iret d_Mo_pillar_78 rfl T
  · replace T := T.2 c
    refine ow_aload_n 0 rfl d_Mo_pillar_40 ?_
    refine ow_aload_n 0 rfl d_Mo_pillar_41 ?_
    refine ow_callV (b := 70) (cq := 12) (As := []) (rest := [.ref 70]) (d2 := d) d_Mo_pillar_42 l_Mo_339 v_Mo_allFollies (show 70 < 85 by decide) rfl (by decide) rfl (Nat.le_of_ble_eq_true rfl) (Nat.le_refl _) ⟨Nat.le_refl _, Nat.le_refl _⟩ (ow_mono T ?_)
    rintro r h' ⟨r4, I4, J4, R4, rfl, rfl, hR4, T⟩
    show ow_AW ow_Y0 (ow_Z Q) M_Mo_pillar (d + 1) 0 0 45 [(0, .ref 70), (1, .int v1), (2, .int v2), (3, .int v3)] [.int r4, .ref 70] (85, I4, J4, R4) 0 0
    refine ow_iconst (v := 1) (by decide) d_Mo_pillar_45 ?_
    refine ow_iload_n 3 rfl d_Mo_pillar_46 ?_
    refine ow_ishl d_Mo_pillar_47 ?_
    refine ow_ixor d_Mo_pillar_48 ?_
    refine ow_callV (b := 70) (cq := 12) (As := [.int (r4 ^^^ ((1 : Int32) <<< (v3 &&& 31)))]) (rest := []) (d2 := d) d_Mo_pillar_49 l_Mo_342 v_Mo_servedWithOnly (show 70 < 85 by decide) rfl (by decide) rfl (Nat.le_of_ble_eq_true rfl) (Nat.le_refl _) ⟨Nat.le_refl _, Nat.le_refl _⟩ (ow_mono T ?_)
    rintro r h' ⟨r5, I5, J5, R5, rfl, rfl, hR5, T⟩
    show ow_AW ow_Y0 (ow_Z Q) M_Mo_pillar (d + 1) 0 0 52 [(0, .ref 70), (1, .int v1), (2, .int v2), (3, .int v3)] [.int r5] (85, I5, J5, R5) 0 0
    refine ow_callS (As := [.int r5]) (rest := []) (d2 := d) d_Mo_pillar_52 l_Mo_307 v_Mo_ones (Nat.le_of_ble_eq_true rfl) (Nat.le_refl _) ⟨Nat.le_refl _, Nat.le_refl _⟩ (ow_mono T ?_)
    rintro r h' ⟨r6, I6, J6, R6, rfl, rfl, hR6, T⟩
    show ow_AW ow_Y0 (ow_Z Q) M_Mo_pillar (d + 1) 0 0 55 [(0, .ref 70), (1, .int v1), (2, .int v2), (3, .int v3)] [.int r6] (85, I6, J6, R6) 0 0
    refine ow_istore (ls2 := [(4, .int r6), (0, .ref 70), (1, .int v1), (2, .int v2), (3, .int v3)]) d_Mo_pillar_55 (by decide) rfl ?_
    refine ow_iload 0 rfl d_Mo_pillar_57 ?_
    refine ow_iload_n 3 rfl d_Mo_pillar_59 ?_
    refine ow_icmp_lt (tgt := 66) d_Mo_pillar_60 (by decide) (fun c => ?_) (fun c => ?_)
    · replace T := T.1 c
      refine ow_iload_n 4 rfl d_Mo_pillar_66 ?_
      refine ow_istore_n (ls2 := [(1, .int v3), (4, .int r6), (0, .ref 70), (2, .int v2), (3, .int v3)]) d_Mo_pillar_67 (by decide) rfl ?_
      refine ow_iload 1 rfl d_Mo_pillar_68 ?_
      refine ow_istore_n (ls2 := [(2, .int r6), (1, .int v3), (4, .int r6), (0, .ref 70), (3, .int v3)]) d_Mo_pillar_70 (by decide) rfl ?_
      refine ow_iinc 4 (v := (v3 + 1)) (ls2 := [(3, .int (v3 + 1)), (2, .int r6), (1, .int v3), (4, .int r6), (0, .ref 70)]) d_Mo_pillar_71 rfl rfl (by decide) rfl ?_
      refine ow_goto (tgt := 30) d_Mo_pillar_74 (by decide) ?_
      refine ow_sub [4, 2, 1, 0] rfl ?_
      exact T
    · replace T := T.2 c
      refine ow_goto (tgt := 71) d_Mo_pillar_63 (by decide) ?_
      refine ow_iinc 4 (v := (v3 + 1)) (ls2 := [(3, .int (v3 + 1)), (4, .int r6), (0, .ref 70), (1, .int v1), (2, .int v2)]) d_Mo_pillar_71 rfl rfl (by decide) rfl ?_
      refine ow_goto (tgt := 30) d_Mo_pillar_74 (by decide) ?_
      refine ow_sub [2, 3, 4, 0] rfl ?_
      exact T
set_option maxRecDepth 4000 in
theorem t_Mo_pillar {d : Nat} {I : Nat → Nat → Int32} {J : Nat → Nat → Int64} {R : Nat → Nat → Option Nat} {Q : Option Value → ow_H → Prop}   (hR : ow_RF R) (T : (ow_AM M_Mo_good d [.ref 70] (85, I, J, R) (fun r h' => ∃ (I7 : Nat → Nat → Int32) (J7 : Nat → Nat → Int64) (R7 : Nat → Nat → Option Nat), r = none ∧ h' = (85, I7, J7, R7) ∧ ow_RF R7 ∧ ((¬ (I7 70 14) = 0 → (ow_AM M_Mo_asToldShapes d [.ref 70] (85, I7, J7, R7) (fun r h' => ∃ (I8 : Nat → Nat → Int32) (J8 : Nat → Nat → Int64) (R8 : Nat → Nat → Option Nat), r = none ∧ h' = (85, I8, J8, R8) ∧ ow_RF R8 ∧ ow_AW ow_Y0 (ow_Z Q) M_Mo_pillar (d + 1) 0 0 30 [(0, .ref 70), (1, .int (-2)), (2, .int 1000000), (3, .int 0)] [] (85, I8, J8, R8) 0 0))) ∧ ((I7 70 14) = 0 → (ow_AM M_Mo_no d [.ref 70, .int 1] (85, I7, J7, R7) (fun r h' => ∃ (r9 : Int32) (I9 : Nat → Nat → Int32) (J9 : Nat → Nat → Int64) (R9 : Nat → Nat → Option Nat), r = some (.int r9) ∧ h' = (85, I9, J9, R9) ∧ ow_RF R9 ∧ Q (some (.int r9)) (85, I9, J9, R9)))))))) : ow_AM M_Mo_pillar (d + 1) [.ref 70] (85, I, J, R) Q := by
  refine ow_enter (by decide) (Nat.le_of_ble_eq_true rfl) ?_
  show ow_AW ow_Y0 (ow_Z Q) M_Mo_pillar (d + 1) 0 0 0 [(0, .ref 70)] [] (85, I, J, R) 0 0
  refine ow_aload_n 0 rfl d_Mo_pillar_0 ?_
  refine ow_callV (b := 70) (cq := 12) (As := []) (rest := []) (d2 := d) d_Mo_pillar_1 l_Mo_154 v_Mo_good (show 70 < 85 by decide) rfl (by decide) rfl (Nat.le_of_ble_eq_true rfl) (Nat.le_refl _) ⟨Nat.le_refl _, Nat.le_refl _⟩ (ow_mono T ?_)
  rintro r h' ⟨I7, J7, R7, rfl, rfl, hR7, T⟩
  show ow_AW ow_Y0 (ow_Z Q) M_Mo_pillar (d + 1) 0 0 4 [(0, .ref 70)] [] (85, I7, J7, R7) 0 0
  refine ow_aload_n 0 rfl d_Mo_pillar_4 ?_
  refine ow_gI 183 d_Mo_pillar_5 rfl rfl (by decide) rfl (Or.inr rfl) ?_
  refine ow_if_ne (tgt := 17) d_Mo_pillar_8 (by decide) (fun c => ?_) (fun c => ?_)
  · replace T := T.1 c
    refine ow_aload_n 0 rfl d_Mo_pillar_17 ?_
    refine ow_callV (b := 70) (cq := 12) (As := []) (rest := []) (d2 := d) d_Mo_pillar_18 l_Mo_281 v_Mo_asToldShapes (show 70 < 85 by decide) rfl (by decide) rfl (Nat.le_of_ble_eq_true rfl) (Nat.le_refl _) ⟨Nat.le_refl _, Nat.le_refl _⟩ (ow_mono T ?_)
    rintro r h' ⟨I8, J8, R8, rfl, rfl, hR8, T⟩
    show ow_AW ow_Y0 (ow_Z Q) M_Mo_pillar (d + 1) 0 0 21 [(0, .ref 70)] [] (85, I8, J8, R8) 0 0
    refine ow_bipush (v := (-2)) (by decide) d_Mo_pillar_21 ?_
    refine ow_istore_n (ls2 := [(1, .int (-2)), (0, .ref 70)]) d_Mo_pillar_23 (by decide) rfl ?_
    refine ow_ldcw (v := 1000000) d_Mo_pillar_24 k_Mo_345 ?_
    refine ow_istore_n (ls2 := [(2, .int 1000000), (1, .int (-2)), (0, .ref 70)]) d_Mo_pillar_27 (by decide) rfl ?_
    refine ow_iconst (v := 0) (by decide) d_Mo_pillar_28 ?_
    refine ow_istore_n (ls2 := [(3, .int 0), (2, .int 1000000), (1, .int (-2)), (0, .ref 70)]) d_Mo_pillar_29 (by decide) rfl ?_
    refine ow_sub [3, 2, 1, 0] rfl ?_
    exact T
  · replace T := T.2 c
    refine ow_aload_n 0 rfl d_Mo_pillar_11 ?_
    refine ow_iconst (v := 1) (by decide) d_Mo_pillar_12 ?_
    refine ow_callV (b := 70) (cq := 12) (As := [.int 1]) (rest := []) (d2 := d) d_Mo_pillar_13 l_Mo_157 v_Mo_no (show 70 < 85 by decide) rfl (by decide) rfl (Nat.le_of_ble_eq_true rfl) (Nat.le_refl _) ⟨Nat.le_refl _, Nat.le_refl _⟩ (ow_mono T ?_)
    rintro r h' ⟨r9, I9, J9, R9, rfl, rfl, hR9, T⟩
    show ow_AW ow_Y0 (ow_Z Q) M_Mo_pillar (d + 1) 0 0 16 [(0, .ref 70)] [.int r9] (85, I9, J9, R9) 0 0
    exact ow_iret d_Mo_pillar_16 rfl T
set_option maxRecDepth 4000 in
theorem t_Mo_allShapes_4 {d : Nat} {I : Nat → Nat → Int32} {J : Nat → Nat → Int64} {R : Nat → Nat → Option Nat} {Q : Option Value → ow_H → Prop}  {v1 : Int32} {v2 : Int32}  (hR : ow_RF R) (T : (((I 73 4) ≤ v2 → Q (some (.int v1)) (85, I, J, R)) ∧ (¬ (I 73 4) ≤ v2 → ow_AW ow_Y0 (ow_Z Q) M_Mo_allShapes (d + 1) 0 0 4 [(0, .ref 70), (1, .int (v1 * 5)), (2, .int (v2 + 1))] [] (85, I, J, R) 0 0))) : ow_AW ow_Y0 (ow_Z Q) M_Mo_allShapes (d + 1) 0 0 4 [(0, .ref 70), (1, .int v1), (2, .int v2)] [] (85, I, J, R) 0 0 := by
  refine ow_iload_n 2 rfl d_Mo_allShapes_4 ?_
  refine ow_aload_n 0 rfl d_Mo_allShapes_5 ?_
  refine ow_gR (a := 73) 184 d_Mo_allShapes_6 rfl rfl (by decide) rfl ⟨rfl, hR 70 15 (by decide)⟩ ?_
  refine ow_iconst (v := 4) (by decide) d_Mo_allShapes_9 ?_
  refine ow_hiaload d_Mo_allShapes_10 (by decide) rfl rfl (show vp_in (4 : Int32) 146 by unfold vp_in; decide) ?_
  show ow_AW ow_Y0 (ow_Z Q) M_Mo_allShapes (d + 1) 0 0 11 [(0, .ref 70), (1, .int v1), (2, .int v2)] [.int (I 73 4), .int v2] (85, I, J, R) 0 0
  refine ow_icmp_ge (tgt := 24) d_Mo_allShapes_11 (by decide) (fun c => ?_) (fun c => ?_)
  · replace T := T.1 c
    refine ow_iload_n 1 rfl d_Mo_allShapes_24 ?_
    exact ow_iret d_Mo_allShapes_25 rfl T
  · replace T := T.2 c
    refine ow_iload_n 1 rfl d_Mo_allShapes_14 ?_
    refine ow_iconst (v := 5) (by decide) d_Mo_allShapes_15 ?_
    refine ow_imul d_Mo_allShapes_16 ?_
    refine ow_istore_n (ls2 := [(1, .int (v1 * 5)), (0, .ref 70), (2, .int v2)]) d_Mo_allShapes_17 (by decide) rfl ?_
    refine ow_iinc 2 (v := (v2 + 1)) (ls2 := [(2, .int (v2 + 1)), (1, .int (v1 * 5)), (0, .ref 70)]) d_Mo_allShapes_18 rfl rfl (by decide) rfl ?_
    refine ow_goto (tgt := 4) d_Mo_allShapes_21 (by decide) ?_
    refine ow_sub [2, 1, 0] rfl ?_
    exact T
set_option maxRecDepth 4000 in
theorem t_Mo_allShapes {d : Nat} {I : Nat → Nat → Int32} {J : Nat → Nat → Int64} {R : Nat → Nat → Option Nat} {Q : Option Value → ow_H → Prop}   (hR : ow_RF R) (T : ow_AW ow_Y0 (ow_Z Q) M_Mo_allShapes (d + 1) 0 0 4 [(0, .ref 70), (1, .int 1), (2, .int 0)] [] (85, I, J, R) 0 0) : ow_AM M_Mo_allShapes (d + 1) [.ref 70] (85, I, J, R) Q := by
  refine ow_enter (by decide) (Nat.le_of_ble_eq_true rfl) ?_
  show ow_AW ow_Y0 (ow_Z Q) M_Mo_allShapes (d + 1) 0 0 0 [(0, .ref 70)] [] (85, I, J, R) 0 0
  refine ow_iconst (v := 1) (by decide) d_Mo_allShapes_0 ?_
  refine ow_istore_n (ls2 := [(1, .int 1), (0, .ref 70)]) d_Mo_allShapes_1 (by decide) rfl ?_
  refine ow_iconst (v := 0) (by decide) d_Mo_allShapes_2 ?_
  refine ow_istore_n (ls2 := [(2, .int 0), (1, .int 1), (0, .ref 70)]) d_Mo_allShapes_3 (by decide) rfl ?_
  refine ow_sub [2, 1, 0] rfl ?_
  exact T
set_option maxRecDepth 4000 in
theorem t_Mo_shapeOf_12 {d : Nat} {I : Nat → Nat → Int32} {J : Nat → Nat → Int64} {R : Nat → Nat → Option Nat} {Q : Option Value → ow_H → Prop}  {v2 : Int32} {v3 : Int32} {v4 : Int32}  (hR : ow_RF R) (T : ((v4 ≤ v2 → Q (some (.int (v3 - v3 / 5 * 5))) (85, I, J, R)) ∧ (¬ v4 ≤ v2 → ow_AW ow_Y0 (ow_Z Q) M_Mo_shapeOf (d + 1) 0 0 12 [(2, .int v2), (3, .int (v3 / 5)), (4, .int (v4 + (-1)))] [] (85, I, J, R) 0 0))) : ow_AW ow_Y0 (ow_Z Q) M_Mo_shapeOf (d + 1) 0 0 12 [(2, .int v2), (3, .int v3), (4, .int v4)] [] (85, I, J, R) 0 0 := by
  refine ow_iload 2 rfl d_Mo_shapeOf_12 ?_
  refine ow_iload_n 0 rfl d_Mo_shapeOf_14 ?_
  refine ow_icmp_le (tgt := 28) d_Mo_shapeOf_15 (by decide) (fun c => ?_) (fun c => ?_)
  · replace T := T.1 c
    refine ow_iload_n 1 rfl d_Mo_shapeOf_28 ?_
    refine ow_iconst (v := 5) (by decide) d_Mo_shapeOf_29 ?_
    refine ow_irem (by decide) d_Mo_shapeOf_30 ?_
    exact ow_iret d_Mo_shapeOf_31 rfl T
  · replace T := T.2 c
    refine ow_iload_n 1 rfl d_Mo_shapeOf_18 ?_
    refine ow_iconst (v := 5) (by decide) d_Mo_shapeOf_19 ?_
    refine ow_idiv (by decide) d_Mo_shapeOf_20 ?_
    refine ow_istore_n (ls2 := [(3, .int (v3 / 5)), (2, .int v2), (4, .int v4)]) d_Mo_shapeOf_21 (by decide) rfl ?_
    refine ow_iinc 2 (v := (v4 + (-1))) (ls2 := [(4, .int (v4 + (-1))), (3, .int (v3 / 5)), (2, .int v2)]) d_Mo_shapeOf_22 rfl rfl (by decide) rfl ?_
    refine ow_goto (tgt := 12) d_Mo_shapeOf_25 (by decide) ?_
    refine ow_sub [2, 1, 0] rfl ?_
    exact T
set_option maxRecDepth 4000 in
theorem t_Mo_shapeOf {d : Nat} {I : Nat → Nat → Int32} {J : Nat → Nat → Int64} {R : Nat → Nat → Option Nat} {Q : Option Value → ow_H → Prop} {p1 : Int32} {p2 : Int32}  (hR : ow_RF R) (T : ow_AW ow_Y0 (ow_Z Q) M_Mo_shapeOf (d + 1) 0 0 12 [(2, .int p2), (3, .int p1), (4, .int ((I 73 4) - 1))] [] (85, I, J, R) 0 0) : ow_AM M_Mo_shapeOf (d + 1) [.ref 70, .int p1, .int p2] (85, I, J, R) Q := by
  refine ow_enter (by decide) (Nat.le_of_ble_eq_true rfl) ?_
  show ow_AW ow_Y0 (ow_Z Q) M_Mo_shapeOf (d + 1) 0 0 0 [(0, .ref 70), (1, .int p1), (2, .int p2)] [] (85, I, J, R) 0 0
  refine ow_iload_n 1 rfl d_Mo_shapeOf_0 ?_
  refine ow_istore_n (ls2 := [(3, .int p1), (0, .ref 70), (1, .int p1), (2, .int p2)]) d_Mo_shapeOf_1 (by decide) rfl ?_
  refine ow_aload_n 1 rfl d_Mo_shapeOf_2 ?_
  refine ow_gR (a := 73) 184 d_Mo_shapeOf_3 rfl rfl (by decide) rfl ⟨rfl, hR 70 15 (by decide)⟩ ?_
  refine ow_iconst (v := 4) (by decide) d_Mo_shapeOf_6 ?_
  refine ow_hiaload d_Mo_shapeOf_7 (by decide) rfl rfl (show vp_in (4 : Int32) 146 by unfold vp_in; decide) ?_
  show ow_AW ow_Y0 (ow_Z Q) M_Mo_shapeOf (d + 1) 0 0 8 [(3, .int p1), (0, .ref 70), (1, .int p1), (2, .int p2)] [.int (I 73 4)] (85, I, J, R) 0 0
  refine ow_iconst (v := 1) (by decide) d_Mo_shapeOf_8 ?_
  refine ow_isub d_Mo_shapeOf_9 ?_
  refine ow_istore (ls2 := [(4, .int ((I 73 4) - 1)), (3, .int p1), (0, .ref 70), (1, .int p1), (2, .int p2)]) d_Mo_shapeOf_10 (by decide) rfl ?_
  refine ow_sub [4, 1, 0] rfl ?_
  exact T
set_option maxRecDepth 4000 in
theorem t_Mo_wrongBy_6 {d : Nat} {I : Nat → Nat → Int32} {J : Nat → Nat → Int64} {R : Nat → Nat → Option Nat} {Q : Option Value → ow_H → Prop}  {v1 : Int32} {v2 : Int32}  (hR : ow_RF R) (T : (((I 73 4) ≤ v2 → ow_AW ow_Y0 (ow_Z Q) M_Mo_wrongBy (d + 1) 0 0 48 [(0, .ref 70), (2, .int 0)] [] (85, I, J, R) 0 0) ∧ (¬ (I 73 4) ≤ v2 → ((v1 < 0 → ow_AW ow_Y0 (ow_Z Q) M_Mo_wrongBy (d + 1) 0 0 48 [(0, .ref 70), (2, .int 0)] [] (85, I, J, R) 0 0) ∧ (¬ v1 < 0 → (vp_in (29 + v2) 146 ∧ (ow_AM M_Mo_shapeOf d [.ref 70, .int v1, .int v2] (85, I, J, R) (fun r h' => ∃ (r2 : Int32) (I2 : Nat → Nat → Int32) (J2 : Nat → Nat → Int64) (R2 : Nat → Nat → Option Nat), r = some (.int r2) ∧ h' = (85, I2, J2, R2) ∧ ow_RF R2 ∧ (vp_in (I 73 (29 + v2).toNatClampNeg) 6 ∧ (∀ (I3 : Nat → Nat → Int32), I3 = ow_u I2 80 ((I 73 (29 + v2).toNatClampNeg).toNatClampNeg) r2 → ow_AW ow_Y0 (ow_Z Q) M_Mo_wrongBy (d + 1) 0 0 6 [(0, .ref 70), (1, .int v1), (2, .int (v2 + 1))] [] (85, I3, J2, R2) 0 0)))))))))) : ow_AW ow_Y0 (ow_Z Q) M_Mo_wrongBy (d + 1) 0 0 6 [(0, .ref 70), (1, .int v1), (2, .int v2)] [] (85, I, J, R) 0 0 := by
  refine ow_iload_n 2 rfl d_Mo_wrongBy_6 ?_
  refine ow_aload_n 0 rfl d_Mo_wrongBy_7 ?_
  refine ow_gR (a := 73) 184 d_Mo_wrongBy_8 rfl rfl (by decide) rfl ⟨rfl, hR 70 15 (by decide)⟩ ?_
  refine ow_iconst (v := 4) (by decide) d_Mo_wrongBy_11 ?_
  refine ow_hiaload d_Mo_wrongBy_12 (by decide) rfl rfl (show vp_in (4 : Int32) 146 by unfold vp_in; decide) ?_
  show ow_AW ow_Y0 (ow_Z Q) M_Mo_wrongBy (d + 1) 0 0 13 [(0, .ref 70), (1, .int v1), (2, .int v2)] [.int (I 73 4), .int v2] (85, I, J, R) 0 0
  refine ow_icmp_ge (tgt := 46) d_Mo_wrongBy_13 (by decide) (fun c => ?_) (fun c => ?_)
  · replace T := T.1 c
    refine ow_iconst (v := 0) (by decide) d_Mo_wrongBy_46 ?_
    refine ow_istore_n (ls2 := [(2, .int 0), (0, .ref 70), (1, .int v1)]) d_Mo_wrongBy_47 (by decide) rfl ?_
    refine ow_sub [1, 0] rfl ?_
    exact T
  · replace T := T.2 c
    refine ow_iload_n 1 rfl d_Mo_wrongBy_16 ?_
    refine ow_if_lt (tgt := 46) d_Mo_wrongBy_17 (by decide) (fun c => ?_) (fun c => ?_)
    · replace T := T.1 c
      refine ow_iconst (v := 0) (by decide) d_Mo_wrongBy_46 ?_
      refine ow_istore_n (ls2 := [(2, .int 0), (0, .ref 70), (1, .int v1)]) d_Mo_wrongBy_47 (by decide) rfl ?_
      refine ow_sub [1, 0] rfl ?_
      exact T
    · replace T := T.2 c
      refine ow_aload_n 0 rfl d_Mo_wrongBy_20 ?_
      refine ow_gR (a := 80) 193 d_Mo_wrongBy_21 rfl rfl (by decide) rfl ⟨rfl, hR 70 24 (by decide)⟩ ?_
      refine ow_aload_n 0 rfl d_Mo_wrongBy_24 ?_
      refine ow_gR (a := 73) 184 d_Mo_wrongBy_25 rfl rfl (by decide) rfl ⟨rfl, hR 70 15 (by decide)⟩ ?_
      refine ow_bipush (v := 29) (by decide) d_Mo_wrongBy_28 ?_
      refine ow_iload_n 2 rfl d_Mo_wrongBy_30 ?_
      refine ow_iadd d_Mo_wrongBy_31 ?_
      obtain ⟨cI, T⟩ := T
      refine ow_hiaload d_Mo_wrongBy_32 (by decide) rfl rfl cI ?_
      refine ow_aload_n 0 rfl d_Mo_wrongBy_33 ?_
      refine ow_iload_n 1 rfl d_Mo_wrongBy_34 ?_
      refine ow_iload_n 2 rfl d_Mo_wrongBy_35 ?_
      refine ow_callV (b := 70) (cq := 12) (As := [.int v1, .int v2]) (rest := [.int (I 73 (29 + v2).toNatClampNeg), .ref 80]) (d2 := d) d_Mo_wrongBy_36 l_Mo_346 v_Mo_shapeOf (show 70 < 85 by decide) rfl (by decide) rfl (Nat.le_of_ble_eq_true rfl) (Nat.le_refl _) ⟨Nat.le_refl _, Nat.le_refl _⟩ (ow_mono T ?_)
      rintro r h' ⟨r2, I2, J2, R2, rfl, rfl, hR2, T⟩
      show ow_AW ow_Y0 (ow_Z Q) M_Mo_wrongBy (d + 1) 0 0 39 [(0, .ref 70), (1, .int v1), (2, .int v2)] [.int r2, .int (I 73 (29 + v2).toNatClampNeg), .ref 80] (85, I2, J2, R2) 0 0
      obtain ⟨cI, T⟩ := T
      refine ow_hiastore d_Mo_wrongBy_39 (by decide) rfl rfl cI ?_
      obtain ⟨I3, eI3⟩ : ∃ uu, uu = ow_u I2 80 ((I 73 (29 + v2).toNatClampNeg).toNatClampNeg) r2 := ⟨_, rfl⟩
      replace T := T I3 eI3
      rw [← eI3]
      refine ow_iinc 2 (v := (v2 + 1)) (ls2 := [(2, .int (v2 + 1)), (0, .ref 70), (1, .int v1)]) d_Mo_wrongBy_40 rfl rfl (by decide) rfl ?_
      refine ow_goto (tgt := 6) d_Mo_wrongBy_43 (by decide) ?_
      refine ow_sub [1, 2, 0] rfl ?_
      exact T
set_option maxRecDepth 4000 in
theorem t_Mo_wrongBy_48 {d : Nat} {I : Nat → Nat → Int32} {J : Nat → Nat → Int64} {R : Nat → Nat → Option Nat} {Q : Option Value → ow_H → Prop}  {v2 : Int32}  (hR : ow_RF R) (T : (((I 73 5) ≤ v2 → Q (some (.int (-2))) (85, I, J, R)) ∧ (¬ (I 73 5) ≤ v2 → (vp_in (32 + (3 * v2)) 146 ∧ (vp_in ((32 + (3 * v2)) + 1) 146 ∧ (ow_AM M_Mo_signsOf d [.ref 70, .ref 75, .int ((2 * (I 73 (32 + (3 * v2)).toNatClampNeg)) + (I 73 ((32 + (3 * v2)) + 1).toNatClampNeg))] (85, I, J, R) (fun r h' => ∃ (r4 : Int32) (I4 : Nat → Nat → Int32) (J4 : Nat → Nat → Int64) (R4 : Nat → Nat → Option Nat), r = some (.int r4) ∧ h' = (85, I4, J4, R4) ∧ ow_RF R4 ∧ (vp_in ((32 + (3 * v2)) + 2) 146 ∧ ((r4 = (I4 73 ((32 + (3 * v2)) + 2).toNatClampNeg) → ow_AW ow_Y0 (ow_Z Q) M_Mo_wrongBy (d + 1) 0 0 48 [(0, .ref 70), (2, .int (v2 + 1))] [] (85, I4, J4, R4) 0 0) ∧ (¬ r4 = (I4 73 ((32 + (3 * v2)) + 2).toNatClampNeg) → Q (some (.int v2)) (85, I4, J4, R4))))))))))) : ow_AW ow_Y0 (ow_Z Q) M_Mo_wrongBy (d + 1) 0 0 48 [(0, .ref 70), (2, .int v2)] [] (85, I, J, R) 0 0 := by
  refine ow_iload_n 1 rfl d_Mo_wrongBy_48 ?_
  refine ow_aload_n 0 rfl d_Mo_wrongBy_49 ?_
  refine ow_gR (a := 73) 184 d_Mo_wrongBy_50 rfl rfl (by decide) rfl ⟨rfl, hR 70 15 (by decide)⟩ ?_
  refine ow_iconst (v := 5) (by decide) d_Mo_wrongBy_53 ?_
  refine ow_hiaload d_Mo_wrongBy_54 (by decide) rfl rfl (show vp_in (5 : Int32) 146 by unfold vp_in; decide) ?_
  show ow_AW ow_Y0 (ow_Z Q) M_Mo_wrongBy (d + 1) 0 0 55 [(0, .ref 70), (2, .int v2)] [.int (I 73 5), .int v2] (85, I, J, R) 0 0
  refine ow_icmp_ge (tgt := 117) d_Mo_wrongBy_55 (by decide) (fun c => ?_) (fun c => ?_)
  · replace T := T.1 c
    refine ow_bipush (v := (-2)) (by decide) d_Mo_wrongBy_117 ?_
    exact ow_iret d_Mo_wrongBy_119 rfl T
  · replace T := T.2 c
    refine ow_aload_n 0 rfl d_Mo_wrongBy_58 ?_
    refine ow_aload_n 0 rfl d_Mo_wrongBy_59 ?_
    refine ow_gR (a := 75) 186 d_Mo_wrongBy_60 rfl rfl (by decide) rfl ⟨rfl, hR 70 17 (by decide)⟩ ?_
    refine ow_iconst (v := 2) (by decide) d_Mo_wrongBy_63 ?_
    refine ow_aload_n 0 rfl d_Mo_wrongBy_64 ?_
    refine ow_gR (a := 73) 184 d_Mo_wrongBy_65 rfl rfl (by decide) rfl ⟨rfl, hR 70 15 (by decide)⟩ ?_
    refine ow_bipush (v := 32) (by decide) d_Mo_wrongBy_68 ?_
    refine ow_iconst (v := 3) (by decide) d_Mo_wrongBy_70 ?_
    refine ow_iload_n 1 rfl d_Mo_wrongBy_71 ?_
    refine ow_imul d_Mo_wrongBy_72 ?_
    refine ow_iadd d_Mo_wrongBy_73 ?_
    obtain ⟨cI, T⟩ := T
    refine ow_hiaload d_Mo_wrongBy_74 (by decide) rfl rfl cI ?_
    refine ow_imul d_Mo_wrongBy_75 ?_
    refine ow_aload_n 0 rfl d_Mo_wrongBy_76 ?_
    refine ow_gR (a := 73) 184 d_Mo_wrongBy_77 rfl rfl (by decide) rfl ⟨rfl, hR 70 15 (by decide)⟩ ?_
    refine ow_bipush (v := 32) (by decide) d_Mo_wrongBy_80 ?_
    refine ow_iconst (v := 3) (by decide) d_Mo_wrongBy_82 ?_
    refine ow_iload_n 1 rfl d_Mo_wrongBy_83 ?_
    refine ow_imul d_Mo_wrongBy_84 ?_
    refine ow_iadd d_Mo_wrongBy_85 ?_
    refine ow_iconst (v := 1) (by decide) d_Mo_wrongBy_86 ?_
    refine ow_iadd d_Mo_wrongBy_87 ?_
    obtain ⟨cI, T⟩ := T
    refine ow_hiaload d_Mo_wrongBy_88 (by decide) rfl rfl cI ?_
    refine ow_iadd d_Mo_wrongBy_89 ?_
    refine ow_callV (b := 70) (cq := 12) (As := [.ref 75, .int ((2 * (I 73 (32 + (3 * v2)).toNatClampNeg)) + (I 73 ((32 + (3 * v2)) + 1).toNatClampNeg))]) (rest := []) (d2 := d) d_Mo_wrongBy_90 l_Mo_292 v_Mo_signsOf (show 70 < 85 by decide) rfl (by decide) rfl (Nat.le_of_ble_eq_true rfl) (Nat.le_refl _) ⟨Nat.le_refl _, Nat.le_refl _⟩ (ow_mono T ?_)
    rintro r h' ⟨r4, I4, J4, R4, rfl, rfl, hR4, T⟩
    show ow_AW ow_Y0 (ow_Z Q) M_Mo_wrongBy (d + 1) 0 0 93 [(0, .ref 70), (2, .int v2)] [.int r4] (85, I4, J4, R4) 0 0
    refine ow_aload_n 0 rfl d_Mo_wrongBy_93 ?_
    refine ow_gR (a := 73) 184 d_Mo_wrongBy_94 rfl rfl (by decide) rfl ⟨rfl, hR4 70 15 (by decide)⟩ ?_
    refine ow_bipush (v := 32) (by decide) d_Mo_wrongBy_97 ?_
    refine ow_iconst (v := 3) (by decide) d_Mo_wrongBy_99 ?_
    refine ow_iload_n 1 rfl d_Mo_wrongBy_100 ?_
    refine ow_imul d_Mo_wrongBy_101 ?_
    refine ow_iadd d_Mo_wrongBy_102 ?_
    refine ow_iconst (v := 2) (by decide) d_Mo_wrongBy_103 ?_
    refine ow_iadd d_Mo_wrongBy_104 ?_
    obtain ⟨cI, T⟩ := T
    refine ow_hiaload d_Mo_wrongBy_105 (by decide) rfl rfl cI ?_
    refine ow_icmp_eq (tgt := 111) d_Mo_wrongBy_106 (by decide) (fun c => ?_) (fun c => ?_)
    · replace T := T.1 c
      refine ow_iinc 1 (v := (v2 + 1)) (ls2 := [(2, .int (v2 + 1)), (0, .ref 70)]) d_Mo_wrongBy_111 rfl rfl (by decide) rfl ?_
      refine ow_goto (tgt := 48) d_Mo_wrongBy_114 (by decide) ?_
      refine ow_sub [1, 0] rfl ?_
      exact T
    · replace T := T.2 c
      refine ow_iload_n 1 rfl d_Mo_wrongBy_109 ?_
      exact ow_iret d_Mo_wrongBy_110 rfl T
set_option maxRecDepth 4000 in
theorem t_Mo_wrongBy {d : Nat} {I : Nat → Nat → Int32} {J : Nat → Nat → Int64} {R : Nat → Nat → Option Nat} {Q : Option Value → ow_H → Prop} {p1 : Int32}  (hR : ow_RF R) (T : (ow_AM M_Mo_asToldShapes d [.ref 70] (85, I, J, R) (fun r h' => ∃ (I5 : Nat → Nat → Int32) (J5 : Nat → Nat → Int64) (R5 : Nat → Nat → Option Nat), r = none ∧ h' = (85, I5, J5, R5) ∧ ow_RF R5 ∧ ow_AW ow_Y0 (ow_Z Q) M_Mo_wrongBy (d + 1) 0 0 6 [(0, .ref 70), (1, .int p1), (2, .int 0)] [] (85, I5, J5, R5) 0 0))) : ow_AM M_Mo_wrongBy (d + 1) [.ref 70, .int p1] (85, I, J, R) Q := by
  refine ow_enter (by decide) (Nat.le_of_ble_eq_true rfl) ?_
  show ow_AW ow_Y0 (ow_Z Q) M_Mo_wrongBy (d + 1) 0 0 0 [(0, .ref 70), (1, .int p1)] [] (85, I, J, R) 0 0
  refine ow_aload_n 0 rfl d_Mo_wrongBy_0 ?_
  refine ow_callV (b := 70) (cq := 12) (As := []) (rest := []) (d2 := d) d_Mo_wrongBy_1 l_Mo_281 v_Mo_asToldShapes (show 70 < 85 by decide) rfl (by decide) rfl (Nat.le_of_ble_eq_true rfl) (Nat.le_refl _) ⟨Nat.le_refl _, Nat.le_refl _⟩ (ow_mono T ?_)
  rintro r h' ⟨I5, J5, R5, rfl, rfl, hR5, T⟩
  show ow_AW ow_Y0 (ow_Z Q) M_Mo_wrongBy (d + 1) 0 0 4 [(0, .ref 70), (1, .int p1)] [] (85, I5, J5, R5) 0 0
  refine ow_iconst (v := 0) (by decide) d_Mo_wrongBy_4 ?_
  refine ow_istore_n (ls2 := [(2, .int 0), (0, .ref 70), (1, .int p1)]) d_Mo_wrongBy_5 (by decide) rfl ?_
  refine ow_sub [1, 2, 0] rfl ?_
  exact T
set_option maxRecDepth 4000 in
theorem t_Mo_fits_21 {d : Nat} {I : Nat → Nat → Int32} {J : Nat → Nat → Int64} {R : Nat → Nat → Option Nat} {Q : Option Value → ow_H → Prop}  {v1 : Int32} {v2 : Int32}  (hR : ow_RF R) (T : (ow_AM M_Mo_allShapes d [.ref 70] (85, I, J, R) (fun r h' => ∃ (r3 : Int32) (I3 : Nat → Nat → Int32) (J3 : Nat → Nat → Int64) (R3 : Nat → Nat → Option Nat), r = some (.int r3) ∧ h' = (85, I3, J3, R3) ∧ ow_RF R3 ∧ ((r3 ≤ v2 → Q (some (.int v1)) (85, I3, J3, R3)) ∧ (¬ r3 ≤ v2 → (ow_AM M_Mo_wrongBy d [.ref 70, .int v2] (85, I3, J3, R3) (fun r h' => ∃ (r4 : Int32) (I4 : Nat → Nat → Int32) (J4 : Nat → Nat → Int64) (R4 : Nat → Nat → Option Nat), r = some (.int r4) ∧ h' = (85, I4, J4, R4) ∧ ow_RF R4 ∧ ((¬ r4 = (-2) → ow_AW ow_Y0 (ow_Z Q) M_Mo_fits (d + 1) 0 0 21 [(0, .ref 70), (1, .int (v1 + 0)), (2, .int (v2 + 1))] [] (85, I4, J4, R4) 0 0) ∧ (r4 = (-2) → ow_AW ow_Y0 (ow_Z Q) M_Mo_fits (d + 1) 0 0 21 [(0, .ref 70), (1, .int (v1 + 1)), (2, .int (v2 + 1))] [] (85, I4, J4, R4) 0 0))))))))) : ow_AW ow_Y0 (ow_Z Q) M_Mo_fits (d + 1) 0 0 21 [(0, .ref 70), (1, .int v1), (2, .int v2)] [] (85, I, J, R) 0 0 := by
  refine ow_iload_n 2 rfl d_Mo_fits_21 ?_
  refine ow_aload_n 0 rfl d_Mo_fits_22 ?_
  refine ow_callV (b := 70) (cq := 12) (As := []) (rest := [.int v2]) (d2 := d) d_Mo_fits_23 l_Mo_349 v_Mo_allShapes (show 70 < 85 by decide) rfl (by decide) rfl (Nat.le_of_ble_eq_true rfl) (Nat.le_refl _) ⟨Nat.le_refl _, Nat.le_refl _⟩ (ow_mono T ?_)
  rintro r h' ⟨r3, I3, J3, R3, rfl, rfl, hR3, T⟩
  show ow_AW ow_Y0 (ow_Z Q) M_Mo_fits (d + 1) 0 0 26 [(0, .ref 70), (1, .int v1), (2, .int v2)] [.int r3, .int v2] (85, I3, J3, R3) 0 0
  refine ow_icmp_ge (tgt := 53) d_Mo_fits_26 (by decide) (fun c => ?_) (fun c => ?_)
  · replace T := T.1 c
    refine ow_iload_n 1 rfl d_Mo_fits_53 ?_
    exact ow_iret d_Mo_fits_54 rfl T
  · replace T := T.2 c
    refine ow_iload_n 1 rfl d_Mo_fits_29 ?_
    refine ow_aload_n 0 rfl d_Mo_fits_30 ?_
    refine ow_iload_n 2 rfl d_Mo_fits_31 ?_
    refine ow_callV (b := 70) (cq := 12) (As := [.int v2]) (rest := [.int v1]) (d2 := d) d_Mo_fits_32 l_Mo_352 v_Mo_wrongBy (show 70 < 85 by decide) rfl (by decide) rfl (Nat.le_of_ble_eq_true rfl) (Nat.le_refl _) ⟨Nat.le_refl _, Nat.le_refl _⟩ (ow_mono T ?_)
    rintro r h' ⟨r4, I4, J4, R4, rfl, rfl, hR4, T⟩
    show ow_AW ow_Y0 (ow_Z Q) M_Mo_fits (d + 1) 0 0 35 [(0, .ref 70), (1, .int v1), (2, .int v2)] [.int r4, .int v1] (85, I4, J4, R4) 0 0
    refine ow_bipush (v := (-2)) (by decide) d_Mo_fits_35 ?_
    refine ow_icmp_ne (tgt := 44) d_Mo_fits_37 (by decide) (fun c => ?_) (fun c => ?_)
    · replace T := T.1 c
      refine ow_iconst (v := 0) (by decide) d_Mo_fits_44 ?_
      refine ow_iadd d_Mo_fits_45 ?_
      refine ow_istore_n (ls2 := [(1, .int (v1 + 0)), (0, .ref 70), (2, .int v2)]) d_Mo_fits_46 (by decide) rfl ?_
      refine ow_iinc 2 (v := (v2 + 1)) (ls2 := [(2, .int (v2 + 1)), (1, .int (v1 + 0)), (0, .ref 70)]) d_Mo_fits_47 rfl rfl (by decide) rfl ?_
      refine ow_goto (tgt := 21) d_Mo_fits_50 (by decide) ?_
      refine ow_sub [2, 1, 0] rfl ?_
      exact T
    · replace T := T.2 c
      refine ow_iconst (v := 1) (by decide) d_Mo_fits_40 ?_
      refine ow_goto (tgt := 45) d_Mo_fits_41 (by decide) ?_
      refine ow_iadd d_Mo_fits_45 ?_
      refine ow_istore_n (ls2 := [(1, .int (v1 + 1)), (0, .ref 70), (2, .int v2)]) d_Mo_fits_46 (by decide) rfl ?_
      refine ow_iinc 2 (v := (v2 + 1)) (ls2 := [(2, .int (v2 + 1)), (1, .int (v1 + 1)), (0, .ref 70)]) d_Mo_fits_47 rfl rfl (by decide) rfl ?_
      refine ow_goto (tgt := 21) d_Mo_fits_50 (by decide) ?_
      refine ow_sub [2, 1, 0] rfl ?_
      exact T
set_option maxRecDepth 4000 in
theorem t_Mo_fits {d : Nat} {I : Nat → Nat → Int32} {J : Nat → Nat → Int64} {R : Nat → Nat → Option Nat} {Q : Option Value → ow_H → Prop}   (hR : ow_RF R) (T : (ow_AM M_Mo_good d [.ref 70] (85, I, J, R) (fun r h' => ∃ (I5 : Nat → Nat → Int32) (J5 : Nat → Nat → Int64) (R5 : Nat → Nat → Option Nat), r = none ∧ h' = (85, I5, J5, R5) ∧ ow_RF R5 ∧ ((¬ (I5 70 14) = 0 → ow_AW ow_Y0 (ow_Z Q) M_Mo_fits (d + 1) 0 0 21 [(0, .ref 70), (1, .int 0), (2, .int 0)] [] (85, I5, J5, R5) 0 0) ∧ ((I5 70 14) = 0 → (ow_AM M_Mo_no d [.ref 70, .int 1] (85, I5, J5, R5) (fun r h' => ∃ (r6 : Int32) (I6 : Nat → Nat → Int32) (J6 : Nat → Nat → Int64) (R6 : Nat → Nat → Option Nat), r = some (.int r6) ∧ h' = (85, I6, J6, R6) ∧ ow_RF R6 ∧ Q (some (.int r6)) (85, I6, J6, R6)))))))) : ow_AM M_Mo_fits (d + 1) [.ref 70] (85, I, J, R) Q := by
  refine ow_enter (by decide) (Nat.le_of_ble_eq_true rfl) ?_
  show ow_AW ow_Y0 (ow_Z Q) M_Mo_fits (d + 1) 0 0 0 [(0, .ref 70)] [] (85, I, J, R) 0 0
  refine ow_aload_n 0 rfl d_Mo_fits_0 ?_
  refine ow_callV (b := 70) (cq := 12) (As := []) (rest := []) (d2 := d) d_Mo_fits_1 l_Mo_154 v_Mo_good (show 70 < 85 by decide) rfl (by decide) rfl (Nat.le_of_ble_eq_true rfl) (Nat.le_refl _) ⟨Nat.le_refl _, Nat.le_refl _⟩ (ow_mono T ?_)
  rintro r h' ⟨I5, J5, R5, rfl, rfl, hR5, T⟩
  show ow_AW ow_Y0 (ow_Z Q) M_Mo_fits (d + 1) 0 0 4 [(0, .ref 70)] [] (85, I5, J5, R5) 0 0
  refine ow_aload_n 0 rfl d_Mo_fits_4 ?_
  refine ow_gI 183 d_Mo_fits_5 rfl rfl (by decide) rfl (Or.inr rfl) ?_
  refine ow_if_ne (tgt := 17) d_Mo_fits_8 (by decide) (fun c => ?_) (fun c => ?_)
  · replace T := T.1 c
    refine ow_iconst (v := 0) (by decide) d_Mo_fits_17 ?_
    refine ow_istore_n (ls2 := [(1, .int 0), (0, .ref 70)]) d_Mo_fits_18 (by decide) rfl ?_
    refine ow_iconst (v := 0) (by decide) d_Mo_fits_19 ?_
    refine ow_istore_n (ls2 := [(2, .int 0), (1, .int 0), (0, .ref 70)]) d_Mo_fits_20 (by decide) rfl ?_
    refine ow_sub [2, 1, 0] rfl ?_
    exact T
  · replace T := T.2 c
    refine ow_aload_n 0 rfl d_Mo_fits_11 ?_
    refine ow_iconst (v := 1) (by decide) d_Mo_fits_12 ?_
    refine ow_callV (b := 70) (cq := 12) (As := [.int 1]) (rest := []) (d2 := d) d_Mo_fits_13 l_Mo_157 v_Mo_no (show 70 < 85 by decide) rfl (by decide) rfl (Nat.le_of_ble_eq_true rfl) (Nat.le_refl _) ⟨Nat.le_refl _, Nat.le_refl _⟩ (ow_mono T ?_)
    rintro r h' ⟨r6, I6, J6, R6, rfl, rfl, hR6, T⟩
    show ow_AW ow_Y0 (ow_Z Q) M_Mo_fits (d + 1) 0 0 16 [(0, .ref 70)] [.int r6] (85, I6, J6, R6) 0 0
    exact ow_iret d_Mo_fits_16 rfl T
set_option maxRecDepth 4000 in
theorem t_Mo_isVeiled {d : Nat} {I : Nat → Nat → Int32} {J : Nat → Nat → Int64} {R : Nat → Nat → Option Nat} {Q : Option Value → ow_H → Prop} {p1 : Int32}  (hR : ow_RF R) (T : (((I 70 14) = 0 → Q (some (.int 0)) (85, I, J, R)) ∧ (¬ (I 70 14) = 0 → (ow_AM M_Mo_in d [.int p1, .int 0, .int ((I 73 4) - 1)] (85, I, J, R) (fun r h' => ∃ (r2 : Int32) (I2 : Nat → Nat → Int32) (J2 : Nat → Nat → Int64) (R2 : Nat → Nat → Option Nat), r = some (.int r2) ∧ h' = (85, I2, J2, R2) ∧ ow_RF R2 ∧ ((r2 = 0 → Q (some (.int 0)) (85, I2, J2, R2)) ∧ (¬ r2 = 0 → Q (some (.int 1)) (85, I2, J2, R2)))))))) : ow_AM M_Mo_isVeiled (d + 1) [.ref 70, .int p1] (85, I, J, R) Q := by
  refine ow_enter (by decide) (Nat.le_of_ble_eq_true rfl) ?_
  show ow_AW ow_Y0 (ow_Z Q) M_Mo_isVeiled (d + 1) 0 0 0 [(0, .ref 70), (1, .int p1)] [] (85, I, J, R) 0 0
  refine ow_aload_n 0 rfl d_Mo_isVeiled_0 ?_
  refine ow_gI 183 d_Mo_isVeiled_1 rfl rfl (by decide) rfl (Or.inr rfl) ?_
  refine ow_if_eq (tgt := 27) d_Mo_isVeiled_4 (by decide) (fun c => ?_) (fun c => ?_)
  · replace T := T.1 c
    refine ow_iconst (v := 0) (by decide) d_Mo_isVeiled_27 ?_
    exact ow_zret d_Mo_isVeiled_28 rfl (by decide) T
  · replace T := T.2 c
    refine ow_iload_n 1 rfl d_Mo_isVeiled_7 ?_
    refine ow_iconst (v := 0) (by decide) d_Mo_isVeiled_8 ?_
    refine ow_aload_n 0 rfl d_Mo_isVeiled_9 ?_
    refine ow_gR (a := 73) 184 d_Mo_isVeiled_10 rfl rfl (by decide) rfl ⟨rfl, hR 70 15 (by decide)⟩ ?_
    refine ow_iconst (v := 4) (by decide) d_Mo_isVeiled_13 ?_
    refine ow_hiaload d_Mo_isVeiled_14 (by decide) rfl rfl (show vp_in (4 : Int32) 146 by unfold vp_in; decide) ?_
    show ow_AW ow_Y0 (ow_Z Q) M_Mo_isVeiled (d + 1) 0 0 15 [(0, .ref 70), (1, .int p1)] [.int (I 73 4), .int 0, .int p1] (85, I, J, R) 0 0
    refine ow_iconst (v := 1) (by decide) d_Mo_isVeiled_15 ?_
    refine ow_isub d_Mo_isVeiled_16 ?_
    refine ow_callS (As := [.int p1, .int 0, .int ((I 73 4) - 1)]) (rest := []) (d2 := d) d_Mo_isVeiled_17 l_Mo_142 v_Mo_in (Nat.le_of_ble_eq_true rfl) (Nat.le_refl _) ⟨Nat.le_refl _, Nat.le_refl _⟩ (ow_mono T ?_)
    rintro r h' ⟨r2, I2, J2, R2, rfl, rfl, hR2, T⟩
    show ow_AW ow_Y0 (ow_Z Q) M_Mo_isVeiled (d + 1) 0 0 20 [(0, .ref 70), (1, .int p1)] [.int r2] (85, I2, J2, R2) 0 0
    refine ow_if_eq (tgt := 27) d_Mo_isVeiled_20 (by decide) (fun c => ?_) (fun c => ?_)
    · replace T := T.1 c
      refine ow_iconst (v := 0) (by decide) d_Mo_isVeiled_27 ?_
      exact ow_zret d_Mo_isVeiled_28 rfl (by decide) T
    · replace T := T.2 c
      refine ow_iconst (v := 1) (by decide) d_Mo_isVeiled_23 ?_
      refine ow_goto (tgt := 28) d_Mo_isVeiled_24 (by decide) ?_
      exact ow_zret d_Mo_isVeiled_28 rfl (by decide) T
set_option maxRecDepth 4000 in
theorem t_Mo_fitAt_23 {d : Nat} {I : Nat → Nat → Int32} {J : Nat → Nat → Int64} {R : Nat → Nat → Option Nat} {Q : Option Value → ow_H → Prop}  {v1 : Int32} {v2 : Int32} {v3 : Int32} {v4 : Int32}  (hR : ow_RF R) (T : (ow_AM M_Mo_allShapes d [.ref 70] (85, I, J, R) (fun r h' => ∃ (r4 : Int32) (I4 : Nat → Nat → Int32) (J4 : Nat → Nat → Int64) (R4 : Nat → Nat → Option Nat), r = some (.int r4) ∧ h' = (85, I4, J4, R4) ∧ ow_RF R4 ∧ ((r4 ≤ v4 → (ow_AM M_Mo_no d [.ref 70, .int 1] (85, I4, J4, R4) (fun r h' => ∃ (r5 : Int32) (I5 : Nat → Nat → Int32) (J5 : Nat → Nat → Int64) (R5 : Nat → Nat → Option Nat), r = some (.int r5) ∧ h' = (85, I5, J5, R5) ∧ ow_RF R5 ∧ Q (some (.int r5)) (85, I5, J5, R5)))) ∧ (¬ r4 ≤ v4 → (ow_AM M_Mo_wrongBy d [.ref 70, .int v4] (85, I4, J4, R4) (fun r h' => ∃ (r6 : Int32) (I6 : Nat → Nat → Int32) (J6 : Nat → Nat → Int64) (R6 : Nat → Nat → Option Nat), r = some (.int r6) ∧ h' = (85, I6, J6, R6) ∧ ow_RF R6 ∧ ((r6 = (-2) → ((¬ v3 = v1 → ow_AW ow_Y0 (ow_Z Q) M_Mo_fitAt (d + 1) 0 0 23 [(0, .ref 70), (1, .int v1), (2, .int v2), (3, .int (v3 + 1)), (4, .int (v4 + 1))] [] (85, I6, J6, R6) 0 0) ∧ (v3 = v1 → (ow_AM M_Mo_shapeOf d [.ref 70, .int v4, .int v2] (85, I6, J6, R6) (fun r h' => ∃ (r7 : Int32) (I7 : Nat → Nat → Int32) (J7 : Nat → Nat → Int64) (R7 : Nat → Nat → Option Nat), r = some (.int r7) ∧ h' = (85, I7, J7, R7) ∧ ow_RF R7 ∧ Q (some (.int r7)) (85, I7, J7, R7)))))) ∧ (¬ r6 = (-2) → ow_AW ow_Y0 (ow_Z Q) M_Mo_fitAt (d + 1) 0 0 23 [(0, .ref 70), (1, .int v1), (2, .int v2), (3, .int v3), (4, .int (v4 + 1))] [] (85, I6, J6, R6) 0 0))))))))) : ow_AW ow_Y0 (ow_Z Q) M_Mo_fitAt (d + 1) 0 0 23 [(0, .ref 70), (1, .int v1), (2, .int v2), (3, .int v3), (4, .int v4)] [] (85, I, J, R) 0 0 := by
  refine ow_iload 4 rfl d_Mo_fitAt_23 ?_
  refine ow_aload_n 0 rfl d_Mo_fitAt_25 ?_
  refine ow_callV (b := 70) (cq := 12) (As := []) (rest := [.int v4]) (d2 := d) d_Mo_fitAt_26 l_Mo_349 v_Mo_allShapes (show 70 < 85 by decide) rfl (by decide) rfl (Nat.le_of_ble_eq_true rfl) (Nat.le_refl _) ⟨Nat.le_refl _, Nat.le_refl _⟩ (ow_mono T ?_)
  rintro r h' ⟨r4, I4, J4, R4, rfl, rfl, hR4, T⟩
  show ow_AW ow_Y0 (ow_Z Q) M_Mo_fitAt (d + 1) 0 0 29 [(0, .ref 70), (1, .int v1), (2, .int v2), (3, .int v3), (4, .int v4)] [.int r4, .int v4] (85, I4, J4, R4) 0 0
  refine ow_icmp_ge (tgt := 68) d_Mo_fitAt_29 (by decide) (fun c => ?_) (fun c => ?_)
  · replace T := T.1 c
    refine ow_aload_n 0 rfl d_Mo_fitAt_68 ?_
    refine ow_iconst (v := 1) (by decide) d_Mo_fitAt_69 ?_
    refine ow_callV (b := 70) (cq := 12) (As := [.int 1]) (rest := []) (d2 := d) d_Mo_fitAt_70 l_Mo_157 v_Mo_no (show 70 < 85 by decide) rfl (by decide) rfl (Nat.le_of_ble_eq_true rfl) (Nat.le_refl _) ⟨Nat.le_refl _, Nat.le_refl _⟩ (ow_mono T ?_)
    rintro r h' ⟨r5, I5, J5, R5, rfl, rfl, hR5, T⟩
    show ow_AW ow_Y0 (ow_Z Q) M_Mo_fitAt (d + 1) 0 0 73 [(0, .ref 70), (1, .int v1), (2, .int v2), (3, .int v3), (4, .int v4)] [.int r5] (85, I5, J5, R5) 0 0
    exact ow_iret d_Mo_fitAt_73 rfl T
  · replace T := T.2 c
    refine ow_aload_n 0 rfl d_Mo_fitAt_32 ?_
    refine ow_iload 4 rfl d_Mo_fitAt_33 ?_
    refine ow_callV (b := 70) (cq := 12) (As := [.int v4]) (rest := []) (d2 := d) d_Mo_fitAt_35 l_Mo_352 v_Mo_wrongBy (show 70 < 85 by decide) rfl (by decide) rfl (Nat.le_of_ble_eq_true rfl) (Nat.le_refl _) ⟨Nat.le_refl _, Nat.le_refl _⟩ (ow_mono T ?_)
    rintro r h' ⟨r6, I6, J6, R6, rfl, rfl, hR6, T⟩
    show ow_AW ow_Y0 (ow_Z Q) M_Mo_fitAt (d + 1) 0 0 38 [(0, .ref 70), (1, .int v1), (2, .int v2), (3, .int v3), (4, .int v4)] [.int r6] (85, I6, J6, R6) 0 0
    refine ow_bipush (v := (-2)) (by decide) d_Mo_fitAt_38 ?_
    refine ow_icmp_eq (tgt := 46) d_Mo_fitAt_40 (by decide) (fun c => ?_) (fun c => ?_)
    · replace T := T.1 c
      refine ow_iload_n 3 rfl d_Mo_fitAt_46 ?_
      refine ow_iload_n 1 rfl d_Mo_fitAt_47 ?_
      refine ow_icmp_ne (tgt := 59) d_Mo_fitAt_48 (by decide) (fun c => ?_) (fun c => ?_)
      · replace T := T.1 c
        refine ow_iinc 3 (v := (v3 + 1)) (ls2 := [(3, .int (v3 + 1)), (0, .ref 70), (1, .int v1), (2, .int v2), (4, .int v4)]) d_Mo_fitAt_59 rfl rfl (by decide) rfl ?_
        refine ow_iinc 4 (v := (v4 + 1)) (ls2 := [(4, .int (v4 + 1)), (3, .int (v3 + 1)), (0, .ref 70), (1, .int v1), (2, .int v2)]) d_Mo_fitAt_62 rfl rfl (by decide) rfl ?_
        refine ow_goto (tgt := 23) d_Mo_fitAt_65 (by decide) ?_
        refine ow_sub [2, 3, 4, 1, 0] rfl ?_
        exact T
      · replace T := T.2 c
        refine ow_aload_n 0 rfl d_Mo_fitAt_51 ?_
        refine ow_iload 4 rfl d_Mo_fitAt_52 ?_
        refine ow_iload_n 2 rfl d_Mo_fitAt_54 ?_
        refine ow_callV (b := 70) (cq := 12) (As := [.int v4, .int v2]) (rest := []) (d2 := d) d_Mo_fitAt_55 l_Mo_346 v_Mo_shapeOf (show 70 < 85 by decide) rfl (by decide) rfl (Nat.le_of_ble_eq_true rfl) (Nat.le_refl _) ⟨Nat.le_refl _, Nat.le_refl _⟩ (ow_mono T ?_)
        rintro r h' ⟨r7, I7, J7, R7, rfl, rfl, hR7, T⟩
        show ow_AW ow_Y0 (ow_Z Q) M_Mo_fitAt (d + 1) 0 0 58 [(0, .ref 70), (1, .int v1), (2, .int v2), (3, .int v3), (4, .int v4)] [.int r7] (85, I7, J7, R7) 0 0
        exact ow_iret d_Mo_fitAt_58 rfl T
    · replace T := T.2 c
      refine ow_goto (tgt := 62) d_Mo_fitAt_43 (by decide) ?_
      refine ow_iinc 4 (v := (v4 + 1)) (ls2 := [(4, .int (v4 + 1)), (0, .ref 70), (1, .int v1), (2, .int v2), (3, .int v3)]) d_Mo_fitAt_62 rfl rfl (by decide) rfl ?_
      refine ow_goto (tgt := 23) d_Mo_fitAt_65 (by decide) ?_
      refine ow_sub [1, 2, 3, 4, 0] rfl ?_
      exact T
set_option maxRecDepth 4000 in
theorem t_Mo_fitAt {d : Nat} {I : Nat → Nat → Int32} {J : Nat → Nat → Int64} {R : Nat → Nat → Option Nat} {Q : Option Value → ow_H → Prop} {p1 : Int32} {p2 : Int32}  (hR : ow_RF R) (T : (ow_AM M_Mo_good d [.ref 70] (85, I, J, R) (fun r h' => ∃ (I8 : Nat → Nat → Int32) (J8 : Nat → Nat → Int64) (R8 : Nat → Nat → Option Nat), r = none ∧ h' = (85, I8, J8, R8) ∧ ow_RF R8 ∧ (ow_AM M_Mo_isVeiled d [.ref 70, .int p2] (85, I8, J8, R8) (fun r h' => ∃ (r9 : Int32) (I9 : Nat → Nat → Int32) (J9 : Nat → Nat → Int64) (R9 : Nat → Nat → Option Nat), r = some (.int r9) ∧ h' = (85, I9, J9, R9) ∧ ow_RF R9 ∧ ((¬ r9 = 0 → ow_AW ow_Y0 (ow_Z Q) M_Mo_fitAt (d + 1) 0 0 23 [(0, .ref 70), (1, .int p1), (2, .int p2), (3, .int 0), (4, .int 0)] [] (85, I9, J9, R9) 0 0) ∧ (r9 = 0 → (ow_AM M_Mo_no d [.ref 70, .int 1] (85, I9, J9, R9) (fun r h' => ∃ (r10 : Int32) (I10 : Nat → Nat → Int32) (J10 : Nat → Nat → Int64) (R10 : Nat → Nat → Option Nat), r = some (.int r10) ∧ h' = (85, I10, J10, R10) ∧ ow_RF R10 ∧ Q (some (.int r10)) (85, I10, J10, R10)))))))))) : ow_AM M_Mo_fitAt (d + 1) [.ref 70, .int p1, .int p2] (85, I, J, R) Q := by
  refine ow_enter (by decide) (Nat.le_of_ble_eq_true rfl) ?_
  show ow_AW ow_Y0 (ow_Z Q) M_Mo_fitAt (d + 1) 0 0 0 [(0, .ref 70), (1, .int p1), (2, .int p2)] [] (85, I, J, R) 0 0
  refine ow_aload_n 0 rfl d_Mo_fitAt_0 ?_
  refine ow_callV (b := 70) (cq := 12) (As := []) (rest := []) (d2 := d) d_Mo_fitAt_1 l_Mo_154 v_Mo_good (show 70 < 85 by decide) rfl (by decide) rfl (Nat.le_of_ble_eq_true rfl) (Nat.le_refl _) ⟨Nat.le_refl _, Nat.le_refl _⟩ (ow_mono T ?_)
  rintro r h' ⟨I8, J8, R8, rfl, rfl, hR8, T⟩
  show ow_AW ow_Y0 (ow_Z Q) M_Mo_fitAt (d + 1) 0 0 4 [(0, .ref 70), (1, .int p1), (2, .int p2)] [] (85, I8, J8, R8) 0 0
  refine ow_aload_n 0 rfl d_Mo_fitAt_4 ?_
  refine ow_iload_n 2 rfl d_Mo_fitAt_5 ?_
  refine ow_callV (b := 70) (cq := 12) (As := [.int p2]) (rest := []) (d2 := d) d_Mo_fitAt_6 l_Mo_355 v_Mo_isVeiled (show 70 < 85 by decide) rfl (by decide) rfl (Nat.le_of_ble_eq_true rfl) (Nat.le_refl _) ⟨Nat.le_refl _, Nat.le_refl _⟩ (ow_mono T ?_)
  rintro r h' ⟨r9, I9, J9, R9, rfl, rfl, hR9, T⟩
  show ow_AW ow_Y0 (ow_Z Q) M_Mo_fitAt (d + 1) 0 0 9 [(0, .ref 70), (1, .int p1), (2, .int p2)] [.int r9] (85, I9, J9, R9) 0 0
  refine ow_if_ne (tgt := 18) d_Mo_fitAt_9 (by decide) (fun c => ?_) (fun c => ?_)
  · replace T := T.1 c
    refine ow_iconst (v := 0) (by decide) d_Mo_fitAt_18 ?_
    refine ow_istore_n (ls2 := [(3, .int 0), (0, .ref 70), (1, .int p1), (2, .int p2)]) d_Mo_fitAt_19 (by decide) rfl ?_
    refine ow_iconst (v := 0) (by decide) d_Mo_fitAt_20 ?_
    refine ow_istore (ls2 := [(4, .int 0), (3, .int 0), (0, .ref 70), (1, .int p1), (2, .int p2)]) d_Mo_fitAt_21 (by decide) rfl ?_
    refine ow_sub [2, 3, 4, 1, 0] rfl ?_
    exact T
  · replace T := T.2 c
    refine ow_aload_n 0 rfl d_Mo_fitAt_12 ?_
    refine ow_iconst (v := 1) (by decide) d_Mo_fitAt_13 ?_
    refine ow_callV (b := 70) (cq := 12) (As := [.int 1]) (rest := []) (d2 := d) d_Mo_fitAt_14 l_Mo_157 v_Mo_no (show 70 < 85 by decide) rfl (by decide) rfl (Nat.le_of_ble_eq_true rfl) (Nat.le_refl _) ⟨Nat.le_refl _, Nat.le_refl _⟩ (ow_mono T ?_)
    rintro r h' ⟨r10, I10, J10, R10, rfl, rfl, hR10, T⟩
    show ow_AW ow_Y0 (ow_Z Q) M_Mo_fitAt (d + 1) 0 0 17 [(0, .ref 70), (1, .int p1), (2, .int p2)] [.int r10] (85, I10, J10, R10) 0 0
    exact ow_iret d_Mo_fitAt_17 rfl T
