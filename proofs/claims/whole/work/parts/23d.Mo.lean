/-! Own rows, by program: Mo_signer Mo_course Mo_courseAt Mo_served Mo_comesBack Mo_rounds Mo_idle Mo_lettersFor Mo_serves Mo_bestFor Mo_best Mo_shortest Mo_widest Mo_servedWith Mo_changeOf Mo_change Mo_changeServes Mo_servedIf Mo_yearOn Mo_yearsOn -/
theorem d_Mo_signer_0 : decode M_Mo_signer.2.1 0 = .ok (.aload_n 0, 1) := by decide +kernel
theorem d_Mo_signer_1 : decode M_Mo_signer.2.1 1 = .ok (.invokevirtual 154, 3) := by decide +kernel
theorem d_Mo_signer_4 : decode M_Mo_signer.2.1 4 = .ok (.aload_n 0, 1) := by decide +kernel
theorem d_Mo_signer_5 : decode M_Mo_signer.2.1 5 = .ok (.iload_n 1, 1) := by decide +kernel
theorem d_Mo_signer_6 : decode M_Mo_signer.2.1 6 = .ok (.invokevirtual 272, 3) := by decide +kernel
theorem d_Mo_signer_9 : decode M_Mo_signer.2.1 9 = .ok (.ifCond .ne 9, 3) := by decide +kernel
theorem d_Mo_signer_12 : decode M_Mo_signer.2.1 12 = .ok (.aload_n 0, 1) := by decide +kernel
theorem d_Mo_signer_13 : decode M_Mo_signer.2.1 13 = .ok (.iconst 1, 1) := by decide +kernel
theorem d_Mo_signer_14 : decode M_Mo_signer.2.1 14 = .ok (.invokevirtual 157, 3) := by decide +kernel
theorem d_Mo_signer_17 : decode M_Mo_signer.2.1 17 = .ok (.ireturn, 1) := by decide +kernel
theorem d_Mo_signer_18 : decode M_Mo_signer.2.1 18 = .ok (.aload_n 0, 1) := by decide +kernel
theorem d_Mo_signer_19 : decode M_Mo_signer.2.1 19 = .ok (.invokevirtual 281, 3) := by decide +kernel
theorem d_Mo_signer_22 : decode M_Mo_signer.2.1 22 = .ok (.aload_n 0, 1) := by decide +kernel
theorem d_Mo_signer_23 : decode M_Mo_signer.2.1 23 = .ok (.aload_n 0, 1) := by decide +kernel
theorem d_Mo_signer_24 : decode M_Mo_signer.2.1 24 = .ok (.getfield 32, 3) := by decide +kernel
theorem d_Mo_signer_27 : decode M_Mo_signer.2.1 27 = .ok (.aload_n 0, 1) := by decide +kernel
theorem d_Mo_signer_28 : decode M_Mo_signer.2.1 28 = .ok (.iload_n 1, 1) := by decide +kernel
theorem d_Mo_signer_29 : decode M_Mo_signer.2.1 29 = .ok (.iload_n 2, 1) := by decide +kernel
theorem d_Mo_signer_30 : decode M_Mo_signer.2.1 30 = .ok (.invokevirtual 288, 3) := by decide +kernel
theorem d_Mo_signer_33 : decode M_Mo_signer.2.1 33 = .ok (.invokevirtual 261, 3) := by decide +kernel
theorem d_Mo_signer_36 : decode M_Mo_signer.2.1 36 = .ok (.aload_n 0, 1) := by decide +kernel
theorem d_Mo_signer_37 : decode M_Mo_signer.2.1 37 = .ok (.getfield 251, 3) := by decide +kernel
theorem d_Mo_signer_40 : decode M_Mo_signer.2.1 40 = .ok (.ireturn, 1) := by decide +kernel
theorem d_Mo_course_0 : decode M_Mo_course.2.1 0 = .ok (.aload_n 0, 1) := by decide +kernel
theorem d_Mo_course_1 : decode M_Mo_course.2.1 1 = .ok (.invokevirtual 154, 3) := by decide +kernel
theorem d_Mo_course_4 : decode M_Mo_course.2.1 4 = .ok (.aload_n 0, 1) := by decide +kernel
theorem d_Mo_course_5 : decode M_Mo_course.2.1 5 = .ok (.iload_n 1, 1) := by decide +kernel
theorem d_Mo_course_6 : decode M_Mo_course.2.1 6 = .ok (.invokevirtual 272, 3) := by decide +kernel
theorem d_Mo_course_9 : decode M_Mo_course.2.1 9 = .ok (.ifCond .ne 9, 3) := by decide +kernel
theorem d_Mo_course_12 : decode M_Mo_course.2.1 12 = .ok (.aload_n 0, 1) := by decide +kernel
theorem d_Mo_course_13 : decode M_Mo_course.2.1 13 = .ok (.iconst 1, 1) := by decide +kernel
theorem d_Mo_course_14 : decode M_Mo_course.2.1 14 = .ok (.invokevirtual 157, 3) := by decide +kernel
theorem d_Mo_course_17 : decode M_Mo_course.2.1 17 = .ok (.ireturn, 1) := by decide +kernel
theorem d_Mo_course_18 : decode M_Mo_course.2.1 18 = .ok (.aload_n 0, 1) := by decide +kernel
theorem d_Mo_course_19 : decode M_Mo_course.2.1 19 = .ok (.invokevirtual 281, 3) := by decide +kernel
theorem d_Mo_course_22 : decode M_Mo_course.2.1 22 = .ok (.aload_n 0, 1) := by decide +kernel
theorem d_Mo_course_23 : decode M_Mo_course.2.1 23 = .ok (.aload_n 0, 1) := by decide +kernel
theorem d_Mo_course_24 : decode M_Mo_course.2.1 24 = .ok (.getfield 32, 3) := by decide +kernel
theorem d_Mo_course_27 : decode M_Mo_course.2.1 27 = .ok (.aload_n 0, 1) := by decide +kernel
theorem d_Mo_course_28 : decode M_Mo_course.2.1 28 = .ok (.iload_n 1, 1) := by decide +kernel
theorem d_Mo_course_29 : decode M_Mo_course.2.1 29 = .ok (.iload_n 2, 1) := by decide +kernel
theorem d_Mo_course_30 : decode M_Mo_course.2.1 30 = .ok (.invokevirtual 288, 3) := by decide +kernel
theorem d_Mo_course_33 : decode M_Mo_course.2.1 33 = .ok (.invokevirtual 261, 3) := by decide +kernel
theorem d_Mo_course_36 : decode M_Mo_course.2.1 36 = .ok (.aload_n 0, 1) := by decide +kernel
theorem d_Mo_course_37 : decode M_Mo_course.2.1 37 = .ok (.getfield 248, 3) := by decide +kernel
theorem d_Mo_course_40 : decode M_Mo_course.2.1 40 = .ok (.ireturn, 1) := by decide +kernel
theorem d_Mo_courseAt_0 : decode M_Mo_courseAt.2.1 0 = .ok (.aload_n 0, 1) := by decide +kernel
theorem d_Mo_courseAt_1 : decode M_Mo_courseAt.2.1 1 = .ok (.invokevirtual 154, 3) := by decide +kernel
theorem d_Mo_courseAt_4 : decode M_Mo_courseAt.2.1 4 = .ok (.aload_n 0, 1) := by decide +kernel
theorem d_Mo_courseAt_5 : decode M_Mo_courseAt.2.1 5 = .ok (.iload_n 1, 1) := by decide +kernel
theorem d_Mo_courseAt_6 : decode M_Mo_courseAt.2.1 6 = .ok (.invokevirtual 272, 3) := by decide +kernel
theorem d_Mo_courseAt_9 : decode M_Mo_courseAt.2.1 9 = .ok (.ifCond .ne 9, 3) := by decide +kernel
theorem d_Mo_courseAt_12 : decode M_Mo_courseAt.2.1 12 = .ok (.aload_n 0, 1) := by decide +kernel
theorem d_Mo_courseAt_13 : decode M_Mo_courseAt.2.1 13 = .ok (.iconst 1, 1) := by decide +kernel
theorem d_Mo_courseAt_14 : decode M_Mo_courseAt.2.1 14 = .ok (.invokevirtual 157, 3) := by decide +kernel
theorem d_Mo_courseAt_17 : decode M_Mo_courseAt.2.1 17 = .ok (.ireturn, 1) := by decide +kernel
theorem d_Mo_courseAt_18 : decode M_Mo_courseAt.2.1 18 = .ok (.aload_n 0, 1) := by decide +kernel
theorem d_Mo_courseAt_19 : decode M_Mo_courseAt.2.1 19 = .ok (.invokevirtual 281, 3) := by decide +kernel
theorem d_Mo_courseAt_22 : decode M_Mo_courseAt.2.1 22 = .ok (.aload_n 0, 1) := by decide +kernel
theorem d_Mo_courseAt_23 : decode M_Mo_courseAt.2.1 23 = .ok (.aload_n 0, 1) := by decide +kernel
theorem d_Mo_courseAt_24 : decode M_Mo_courseAt.2.1 24 = .ok (.getfield 32, 3) := by decide +kernel
theorem d_Mo_courseAt_27 : decode M_Mo_courseAt.2.1 27 = .ok (.aload_n 0, 1) := by decide +kernel
theorem d_Mo_courseAt_28 : decode M_Mo_courseAt.2.1 28 = .ok (.iload_n 1, 1) := by decide +kernel
theorem d_Mo_courseAt_29 : decode M_Mo_courseAt.2.1 29 = .ok (.iload_n 2, 1) := by decide +kernel
theorem d_Mo_courseAt_30 : decode M_Mo_courseAt.2.1 30 = .ok (.invokevirtual 288, 3) := by decide +kernel
theorem d_Mo_courseAt_33 : decode M_Mo_courseAt.2.1 33 = .ok (.invokevirtual 261, 3) := by decide +kernel
theorem d_Mo_courseAt_36 : decode M_Mo_courseAt.2.1 36 = .ok (.iload_n 3, 1) := by decide +kernel
theorem d_Mo_courseAt_37 : decode M_Mo_courseAt.2.1 37 = .ok (.iconst 0, 1) := by decide +kernel
theorem d_Mo_courseAt_38 : decode M_Mo_courseAt.2.1 38 = .ok (.aload_n 0, 1) := by decide +kernel
theorem d_Mo_courseAt_39 : decode M_Mo_courseAt.2.1 39 = .ok (.getfield 245, 3) := by decide +kernel
theorem d_Mo_courseAt_42 : decode M_Mo_courseAt.2.1 42 = .ok (.iconst 1, 1) := by decide +kernel
theorem d_Mo_courseAt_43 : decode M_Mo_courseAt.2.1 43 = .ok (.isub, 1) := by decide +kernel
theorem d_Mo_courseAt_44 : decode M_Mo_courseAt.2.1 44 = .ok (.invokestatic 142, 3) := by decide +kernel
theorem d_Mo_courseAt_47 : decode M_Mo_courseAt.2.1 47 = .ok (.ifCond .eq 12, 3) := by decide +kernel
theorem d_Mo_courseAt_50 : decode M_Mo_courseAt.2.1 50 = .ok (.aload_n 0, 1) := by decide +kernel
theorem d_Mo_courseAt_51 : decode M_Mo_courseAt.2.1 51 = .ok (.getfield 44, 3) := by decide +kernel
theorem d_Mo_courseAt_54 : decode M_Mo_courseAt.2.1 54 = .ok (.iload_n 3, 1) := by decide +kernel
theorem d_Mo_courseAt_55 : decode M_Mo_courseAt.2.1 55 = .ok (.iaload, 1) := by decide +kernel
theorem d_Mo_courseAt_56 : decode M_Mo_courseAt.2.1 56 = .ok (.goto 8, 3) := by decide +kernel
theorem d_Mo_courseAt_59 : decode M_Mo_courseAt.2.1 59 = .ok (.aload_n 0, 1) := by decide +kernel
theorem d_Mo_courseAt_60 : decode M_Mo_courseAt.2.1 60 = .ok (.iconst 1, 1) := by decide +kernel
theorem d_Mo_courseAt_61 : decode M_Mo_courseAt.2.1 61 = .ok (.invokevirtual 157, 3) := by decide +kernel
theorem d_Mo_courseAt_64 : decode M_Mo_courseAt.2.1 64 = .ok (.ireturn, 1) := by decide +kernel
theorem d_Mo_served_0 : decode M_Mo_served.2.1 0 = .ok (.aload_n 0, 1) := by decide +kernel
theorem d_Mo_served_1 : decode M_Mo_served.2.1 1 = .ok (.invokevirtual 154, 3) := by decide +kernel
theorem d_Mo_served_4 : decode M_Mo_served.2.1 4 = .ok (.aload_n 0, 1) := by decide +kernel
theorem d_Mo_served_5 : decode M_Mo_served.2.1 5 = .ok (.getfield 167, 3) := by decide +kernel
theorem d_Mo_served_8 : decode M_Mo_served.2.1 8 = .ok (.ifCond .ne 9, 3) := by decide +kernel
theorem d_Mo_served_11 : decode M_Mo_served.2.1 11 = .ok (.aload_n 0, 1) := by decide +kernel
theorem d_Mo_served_12 : decode M_Mo_served.2.1 12 = .ok (.iconst 1, 1) := by decide +kernel
theorem d_Mo_served_13 : decode M_Mo_served.2.1 13 = .ok (.invokevirtual 157, 3) := by decide +kernel
theorem d_Mo_served_16 : decode M_Mo_served.2.1 16 = .ok (.ireturn, 1) := by decide +kernel
theorem d_Mo_served_17 : decode M_Mo_served.2.1 17 = .ok (.aload_n 0, 1) := by decide +kernel
theorem d_Mo_served_18 : decode M_Mo_served.2.1 18 = .ok (.invokevirtual 281, 3) := by decide +kernel
theorem d_Mo_served_21 : decode M_Mo_served.2.1 21 = .ok (.aload_n 0, 1) := by decide +kernel
theorem d_Mo_served_22 : decode M_Mo_served.2.1 22 = .ok (.aload_n 0, 1) := by decide +kernel
theorem d_Mo_served_23 : decode M_Mo_served.2.1 23 = .ok (.getfield 32, 3) := by decide +kernel
theorem d_Mo_served_26 : decode M_Mo_served.2.1 26 = .ok (.invokevirtual 284, 3) := by decide +kernel
theorem d_Mo_served_29 : decode M_Mo_served.2.1 29 = .ok (.ireturn, 1) := by decide +kernel
theorem d_Mo_comesBack_0 : decode M_Mo_comesBack.2.1 0 = .ok (.iload_n 1, 1) := by decide +kernel
theorem d_Mo_comesBack_1 : decode M_Mo_comesBack.2.1 1 = .ok (.istore_n 2, 1) := by decide +kernel
theorem d_Mo_comesBack_2 : decode M_Mo_comesBack.2.1 2 = .ok (.iconst 0, 1) := by decide +kernel
theorem d_Mo_comesBack_3 : decode M_Mo_comesBack.2.1 3 = .ok (.istore_n 3, 1) := by decide +kernel
theorem d_Mo_comesBack_4 : decode M_Mo_comesBack.2.1 4 = .ok (.iload_n 3, 1) := by decide +kernel
theorem d_Mo_comesBack_5 : decode M_Mo_comesBack.2.1 5 = .ok (.bipush 6, 2) := by decide +kernel
theorem d_Mo_comesBack_7 : decode M_Mo_comesBack.2.1 7 = .ok (.if_icmp .ge 42, 3) := by decide +kernel
theorem d_Mo_comesBack_10 : decode M_Mo_comesBack.2.1 10 = .ok (.aload_n 0, 1) := by decide +kernel
theorem d_Mo_comesBack_11 : decode M_Mo_comesBack.2.1 11 = .ok (.getfield 32, 3) := by decide +kernel
theorem d_Mo_comesBack_14 : decode M_Mo_comesBack.2.1 14 = .ok (.bipush 6, 2) := by decide +kernel
theorem d_Mo_comesBack_16 : decode M_Mo_comesBack.2.1 16 = .ok (.iload_n 2, 1) := by decide +kernel
theorem d_Mo_comesBack_17 : decode M_Mo_comesBack.2.1 17 = .ok (.iadd, 1) := by decide +kernel
theorem d_Mo_comesBack_18 : decode M_Mo_comesBack.2.1 18 = .ok (.iaload, 1) := by decide +kernel
theorem d_Mo_comesBack_19 : decode M_Mo_comesBack.2.1 19 = .ok (.ifCond .ne 5, 3) := by decide +kernel
theorem d_Mo_comesBack_22 : decode M_Mo_comesBack.2.1 22 = .ok (.iconst 0, 1) := by decide +kernel
theorem d_Mo_comesBack_23 : decode M_Mo_comesBack.2.1 23 = .ok (.ireturn, 1) := by decide +kernel
theorem d_Mo_comesBack_24 : decode M_Mo_comesBack.2.1 24 = .ok (.aload_n 0, 1) := by decide +kernel
theorem d_Mo_comesBack_25 : decode M_Mo_comesBack.2.1 25 = .ok (.getfield 32, 3) := by decide +kernel
theorem d_Mo_comesBack_28 : decode M_Mo_comesBack.2.1 28 = .ok (.bipush 6, 2) := by decide +kernel
theorem d_Mo_comesBack_30 : decode M_Mo_comesBack.2.1 30 = .ok (.iload_n 2, 1) := by decide +kernel
theorem d_Mo_comesBack_31 : decode M_Mo_comesBack.2.1 31 = .ok (.iadd, 1) := by decide +kernel
theorem d_Mo_comesBack_32 : decode M_Mo_comesBack.2.1 32 = .ok (.iaload, 1) := by decide +kernel
theorem d_Mo_comesBack_33 : decode M_Mo_comesBack.2.1 33 = .ok (.iconst 1, 1) := by decide +kernel
theorem d_Mo_comesBack_34 : decode M_Mo_comesBack.2.1 34 = .ok (.isub, 1) := by decide +kernel
theorem d_Mo_comesBack_35 : decode M_Mo_comesBack.2.1 35 = .ok (.istore_n 2, 1) := by decide +kernel
theorem d_Mo_comesBack_36 : decode M_Mo_comesBack.2.1 36 = .ok (.iload_n 2, 1) := by decide +kernel
theorem d_Mo_comesBack_37 : decode M_Mo_comesBack.2.1 37 = .ok (.iload_n 1, 1) := by decide +kernel
theorem d_Mo_comesBack_38 : decode M_Mo_comesBack.2.1 38 = .ok (.if_icmp .ne 5, 3) := by decide +kernel
theorem d_Mo_comesBack_41 : decode M_Mo_comesBack.2.1 41 = .ok (.iconst 1, 1) := by decide +kernel
theorem d_Mo_comesBack_42 : decode M_Mo_comesBack.2.1 42 = .ok (.ireturn, 1) := by decide +kernel
theorem d_Mo_comesBack_43 : decode M_Mo_comesBack.2.1 43 = .ok (.iinc 3 1, 3) := by decide +kernel
theorem d_Mo_comesBack_46 : decode M_Mo_comesBack.2.1 46 = .ok (.goto (-42), 3) := by decide +kernel
theorem d_Mo_comesBack_49 : decode M_Mo_comesBack.2.1 49 = .ok (.iconst 0, 1) := by decide +kernel
theorem d_Mo_comesBack_50 : decode M_Mo_comesBack.2.1 50 = .ok (.ireturn, 1) := by decide +kernel
theorem d_Mo_rounds_0 : decode M_Mo_rounds.2.1 0 = .ok (.aload_n 0, 1) := by decide +kernel
theorem d_Mo_rounds_1 : decode M_Mo_rounds.2.1 1 = .ok (.invokevirtual 154, 3) := by decide +kernel
theorem d_Mo_rounds_4 : decode M_Mo_rounds.2.1 4 = .ok (.aload_n 0, 1) := by decide +kernel
theorem d_Mo_rounds_5 : decode M_Mo_rounds.2.1 5 = .ok (.getfield 167, 3) := by decide +kernel
theorem d_Mo_rounds_8 : decode M_Mo_rounds.2.1 8 = .ok (.ifCond .ne 9, 3) := by decide +kernel
theorem d_Mo_rounds_11 : decode M_Mo_rounds.2.1 11 = .ok (.aload_n 0, 1) := by decide +kernel
theorem d_Mo_rounds_12 : decode M_Mo_rounds.2.1 12 = .ok (.iconst 1, 1) := by decide +kernel
theorem d_Mo_rounds_13 : decode M_Mo_rounds.2.1 13 = .ok (.invokevirtual 157, 3) := by decide +kernel
theorem d_Mo_rounds_16 : decode M_Mo_rounds.2.1 16 = .ok (.ireturn, 1) := by decide +kernel
theorem d_Mo_rounds_17 : decode M_Mo_rounds.2.1 17 = .ok (.iconst 0, 1) := by decide +kernel
theorem d_Mo_rounds_18 : decode M_Mo_rounds.2.1 18 = .ok (.istore_n 1, 1) := by decide +kernel
theorem d_Mo_rounds_19 : decode M_Mo_rounds.2.1 19 = .ok (.iconst 0, 1) := by decide +kernel
theorem d_Mo_rounds_20 : decode M_Mo_rounds.2.1 20 = .ok (.istore_n 2, 1) := by decide +kernel
theorem d_Mo_rounds_21 : decode M_Mo_rounds.2.1 21 = .ok (.iload_n 2, 1) := by decide +kernel
theorem d_Mo_rounds_22 : decode M_Mo_rounds.2.1 22 = .ok (.aload_n 0, 1) := by decide +kernel
theorem d_Mo_rounds_23 : decode M_Mo_rounds.2.1 23 = .ok (.getfield 20, 3) := by decide +kernel
theorem d_Mo_rounds_26 : decode M_Mo_rounds.2.1 26 = .ok (.iconst 2, 1) := by decide +kernel
theorem d_Mo_rounds_27 : decode M_Mo_rounds.2.1 27 = .ok (.iaload, 1) := by decide +kernel
theorem d_Mo_rounds_28 : decode M_Mo_rounds.2.1 28 = .ok (.if_icmp .ge 27, 3) := by decide +kernel
theorem d_Mo_rounds_31 : decode M_Mo_rounds.2.1 31 = .ok (.iload_n 1, 1) := by decide +kernel
theorem d_Mo_rounds_32 : decode M_Mo_rounds.2.1 32 = .ok (.aload_n 0, 1) := by decide +kernel
theorem d_Mo_rounds_33 : decode M_Mo_rounds.2.1 33 = .ok (.iload_n 2, 1) := by decide +kernel
theorem d_Mo_rounds_34 : decode M_Mo_rounds.2.1 34 = .ok (.invokevirtual 295, 3) := by decide +kernel
theorem d_Mo_rounds_37 : decode M_Mo_rounds.2.1 37 = .ok (.ifCond .eq 9, 3) := by decide +kernel
theorem d_Mo_rounds_40 : decode M_Mo_rounds.2.1 40 = .ok (.iconst 1, 1) := by decide +kernel
theorem d_Mo_rounds_41 : decode M_Mo_rounds.2.1 41 = .ok (.iload_n 2, 1) := by decide +kernel
theorem d_Mo_rounds_42 : decode M_Mo_rounds.2.1 42 = .ok (.ishl, 1) := by decide +kernel
theorem d_Mo_rounds_43 : decode M_Mo_rounds.2.1 43 = .ok (.goto 4, 3) := by decide +kernel
theorem d_Mo_rounds_46 : decode M_Mo_rounds.2.1 46 = .ok (.iconst 0, 1) := by decide +kernel
theorem d_Mo_rounds_47 : decode M_Mo_rounds.2.1 47 = .ok (.ior, 1) := by decide +kernel
theorem d_Mo_rounds_48 : decode M_Mo_rounds.2.1 48 = .ok (.istore_n 1, 1) := by decide +kernel
theorem d_Mo_rounds_49 : decode M_Mo_rounds.2.1 49 = .ok (.iinc 2 1, 3) := by decide +kernel
theorem d_Mo_rounds_52 : decode M_Mo_rounds.2.1 52 = .ok (.goto (-31), 3) := by decide +kernel
theorem d_Mo_rounds_55 : decode M_Mo_rounds.2.1 55 = .ok (.iload_n 1, 1) := by decide +kernel
theorem d_Mo_rounds_56 : decode M_Mo_rounds.2.1 56 = .ok (.ireturn, 1) := by decide +kernel
theorem d_Mo_idle_0 : decode M_Mo_idle.2.1 0 = .ok (.aload_n 0, 1) := by decide +kernel
theorem d_Mo_idle_1 : decode M_Mo_idle.2.1 1 = .ok (.invokevirtual 154, 3) := by decide +kernel
theorem d_Mo_idle_4 : decode M_Mo_idle.2.1 4 = .ok (.aload_n 0, 1) := by decide +kernel
theorem d_Mo_idle_5 : decode M_Mo_idle.2.1 5 = .ok (.getfield 167, 3) := by decide +kernel
theorem d_Mo_idle_8 : decode M_Mo_idle.2.1 8 = .ok (.ifCond .ne 9, 3) := by decide +kernel
theorem d_Mo_idle_11 : decode M_Mo_idle.2.1 11 = .ok (.aload_n 0, 1) := by decide +kernel
theorem d_Mo_idle_12 : decode M_Mo_idle.2.1 12 = .ok (.iconst 1, 1) := by decide +kernel
theorem d_Mo_idle_13 : decode M_Mo_idle.2.1 13 = .ok (.invokevirtual 157, 3) := by decide +kernel
theorem d_Mo_idle_16 : decode M_Mo_idle.2.1 16 = .ok (.ireturn, 1) := by decide +kernel
theorem d_Mo_idle_17 : decode M_Mo_idle.2.1 17 = .ok (.aload_n 0, 1) := by decide +kernel
theorem d_Mo_idle_18 : decode M_Mo_idle.2.1 18 = .ok (.invokevirtual 281, 3) := by decide +kernel
theorem d_Mo_idle_21 : decode M_Mo_idle.2.1 21 = .ok (.iconst 0, 1) := by decide +kernel
theorem d_Mo_idle_22 : decode M_Mo_idle.2.1 22 = .ok (.istore_n 1, 1) := by decide +kernel
theorem d_Mo_idle_23 : decode M_Mo_idle.2.1 23 = .ok (.iconst 0, 1) := by decide +kernel
theorem d_Mo_idle_24 : decode M_Mo_idle.2.1 24 = .ok (.istore_n 2, 1) := by decide +kernel
theorem d_Mo_idle_25 : decode M_Mo_idle.2.1 25 = .ok (.iload_n 2, 1) := by decide +kernel
theorem d_Mo_idle_26 : decode M_Mo_idle.2.1 26 = .ok (.iconst 2, 1) := by decide +kernel
theorem d_Mo_idle_27 : decode M_Mo_idle.2.1 27 = .ok (.aload_n 0, 1) := by decide +kernel
theorem d_Mo_idle_28 : decode M_Mo_idle.2.1 28 = .ok (.getfield 20, 3) := by decide +kernel
theorem d_Mo_idle_31 : decode M_Mo_idle.2.1 31 = .ok (.iconst 2, 1) := by decide +kernel
theorem d_Mo_idle_32 : decode M_Mo_idle.2.1 32 = .ok (.iaload, 1) := by decide +kernel
theorem d_Mo_idle_33 : decode M_Mo_idle.2.1 33 = .ok (.imul, 1) := by decide +kernel
theorem d_Mo_idle_34 : decode M_Mo_idle.2.1 34 = .ok (.if_icmp .ge 38, 3) := by decide +kernel
theorem d_Mo_idle_37 : decode M_Mo_idle.2.1 37 = .ok (.aload_n 0, 1) := by decide +kernel
theorem d_Mo_idle_38 : decode M_Mo_idle.2.1 38 = .ok (.aload_n 0, 1) := by decide +kernel
theorem d_Mo_idle_39 : decode M_Mo_idle.2.1 39 = .ok (.getfield 32, 3) := by decide +kernel
theorem d_Mo_idle_42 : decode M_Mo_idle.2.1 42 = .ok (.iload_n 2, 1) := by decide +kernel
theorem d_Mo_idle_43 : decode M_Mo_idle.2.1 43 = .ok (.invokevirtual 261, 3) := by decide +kernel
theorem d_Mo_idle_46 : decode M_Mo_idle.2.1 46 = .ok (.iload_n 1, 1) := by decide +kernel
theorem d_Mo_idle_47 : decode M_Mo_idle.2.1 47 = .ok (.aload_n 0, 1) := by decide +kernel
theorem d_Mo_idle_48 : decode M_Mo_idle.2.1 48 = .ok (.getfield 251, 3) := by decide +kernel
theorem d_Mo_idle_51 : decode M_Mo_idle.2.1 51 = .ok (.ifCond .ge 7, 3) := by decide +kernel
theorem d_Mo_idle_54 : decode M_Mo_idle.2.1 54 = .ok (.iconst 0, 1) := by decide +kernel
theorem d_Mo_idle_55 : decode M_Mo_idle.2.1 55 = .ok (.goto 9, 3) := by decide +kernel
theorem d_Mo_idle_58 : decode M_Mo_idle.2.1 58 = .ok (.iconst 1, 1) := by decide +kernel
theorem d_Mo_idle_59 : decode M_Mo_idle.2.1 59 = .ok (.aload_n 0, 1) := by decide +kernel
theorem d_Mo_idle_60 : decode M_Mo_idle.2.1 60 = .ok (.getfield 251, 3) := by decide +kernel
theorem d_Mo_idle_63 : decode M_Mo_idle.2.1 63 = .ok (.ishl, 1) := by decide +kernel
theorem d_Mo_idle_64 : decode M_Mo_idle.2.1 64 = .ok (.ior, 1) := by decide +kernel
theorem d_Mo_idle_65 : decode M_Mo_idle.2.1 65 = .ok (.istore_n 1, 1) := by decide +kernel
theorem d_Mo_idle_66 : decode M_Mo_idle.2.1 66 = .ok (.iinc 2 1, 3) := by decide +kernel
theorem d_Mo_idle_69 : decode M_Mo_idle.2.1 69 = .ok (.goto (-44), 3) := by decide +kernel
theorem d_Mo_idle_72 : decode M_Mo_idle.2.1 72 = .ok (.iconst 0, 1) := by decide +kernel
theorem d_Mo_idle_73 : decode M_Mo_idle.2.1 73 = .ok (.istore_n 2, 1) := by decide +kernel
theorem d_Mo_idle_74 : decode M_Mo_idle.2.1 74 = .ok (.iload_n 2, 1) := by decide +kernel
theorem d_Mo_idle_75 : decode M_Mo_idle.2.1 75 = .ok (.aload_n 0, 1) := by decide +kernel
theorem d_Mo_idle_76 : decode M_Mo_idle.2.1 76 = .ok (.getfield 20, 3) := by decide +kernel
theorem d_Mo_idle_79 : decode M_Mo_idle.2.1 79 = .ok (.iconst 2, 1) := by decide +kernel
theorem d_Mo_idle_80 : decode M_Mo_idle.2.1 80 = .ok (.iaload, 1) := by decide +kernel
theorem d_Mo_idle_81 : decode M_Mo_idle.2.1 81 = .ok (.if_icmp .ge 45, 3) := by decide +kernel
theorem d_Mo_idle_84 : decode M_Mo_idle.2.1 84 = .ok (.iload_n 1, 1) := by decide +kernel
theorem d_Mo_idle_85 : decode M_Mo_idle.2.1 85 = .ok (.iload_n 2, 1) := by decide +kernel
theorem d_Mo_idle_86 : decode M_Mo_idle.2.1 86 = .ok (.invokestatic 231, 3) := by decide +kernel
theorem d_Mo_idle_89 : decode M_Mo_idle.2.1 89 = .ok (.ifCond .ne 31, 3) := by decide +kernel
theorem d_Mo_idle_92 : decode M_Mo_idle.2.1 92 = .ok (.aload_n 0, 1) := by decide +kernel
theorem d_Mo_idle_93 : decode M_Mo_idle.2.1 93 = .ok (.aload_n 0, 1) := by decide +kernel
theorem d_Mo_idle_94 : decode M_Mo_idle.2.1 94 = .ok (.getfield 32, 3) := by decide +kernel
theorem d_Mo_idle_97 : decode M_Mo_idle.2.1 97 = .ok (.iload_n 2, 1) := by decide +kernel
theorem d_Mo_idle_98 : decode M_Mo_idle.2.1 98 = .ok (.iconst 0, 1) := by decide +kernel
theorem d_Mo_idle_99 : decode M_Mo_idle.2.1 99 = .ok (.invokevirtual 257, 3) := by decide +kernel
theorem d_Mo_idle_102 : decode M_Mo_idle.2.1 102 = .ok (.ifCond .ge 16, 3) := by decide +kernel
theorem d_Mo_idle_105 : decode M_Mo_idle.2.1 105 = .ok (.aload_n 0, 1) := by decide +kernel
theorem d_Mo_idle_106 : decode M_Mo_idle.2.1 106 = .ok (.aload_n 0, 1) := by decide +kernel
theorem d_Mo_idle_107 : decode M_Mo_idle.2.1 107 = .ok (.getfield 32, 3) := by decide +kernel
theorem d_Mo_idle_110 : decode M_Mo_idle.2.1 110 = .ok (.iload_n 2, 1) := by decide +kernel
theorem d_Mo_idle_111 : decode M_Mo_idle.2.1 111 = .ok (.iconst 1, 1) := by decide +kernel
theorem d_Mo_idle_112 : decode M_Mo_idle.2.1 112 = .ok (.invokevirtual 257, 3) := by decide +kernel
theorem d_Mo_idle_115 : decode M_Mo_idle.2.1 115 = .ok (.ifCond .lt 5, 3) := by decide +kernel
theorem d_Mo_idle_118 : decode M_Mo_idle.2.1 118 = .ok (.iload_n 2, 1) := by decide +kernel
theorem d_Mo_idle_119 : decode M_Mo_idle.2.1 119 = .ok (.ireturn, 1) := by decide +kernel
theorem d_Mo_idle_120 : decode M_Mo_idle.2.1 120 = .ok (.iinc 2 1, 3) := by decide +kernel
theorem d_Mo_idle_123 : decode M_Mo_idle.2.1 123 = .ok (.goto (-49), 3) := by decide +kernel
theorem d_Mo_idle_126 : decode M_Mo_idle.2.1 126 = .ok (.bipush (-2), 2) := by decide +kernel
theorem d_Mo_idle_128 : decode M_Mo_idle.2.1 128 = .ok (.ireturn, 1) := by decide +kernel
theorem d_Mo_lettersFor_0 : decode M_Mo_lettersFor.2.1 0 = .ok (.iconst 0, 1) := by decide +kernel
theorem d_Mo_lettersFor_1 : decode M_Mo_lettersFor.2.1 1 = .ok (.istore_n 2, 1) := by decide +kernel
theorem d_Mo_lettersFor_2 : decode M_Mo_lettersFor.2.1 2 = .ok (.iconst 0, 1) := by decide +kernel
theorem d_Mo_lettersFor_3 : decode M_Mo_lettersFor.2.1 3 = .ok (.istore_n 3, 1) := by decide +kernel
theorem d_Mo_lettersFor_4 : decode M_Mo_lettersFor.2.1 4 = .ok (.iload_n 3, 1) := by decide +kernel
theorem d_Mo_lettersFor_5 : decode M_Mo_lettersFor.2.1 5 = .ok (.iconst 2, 1) := by decide +kernel
theorem d_Mo_lettersFor_6 : decode M_Mo_lettersFor.2.1 6 = .ok (.aload_n 0, 1) := by decide +kernel
theorem d_Mo_lettersFor_7 : decode M_Mo_lettersFor.2.1 7 = .ok (.getfield 20, 3) := by decide +kernel
theorem d_Mo_lettersFor_10 : decode M_Mo_lettersFor.2.1 10 = .ok (.iconst 2, 1) := by decide +kernel
theorem d_Mo_lettersFor_11 : decode M_Mo_lettersFor.2.1 11 = .ok (.iaload, 1) := by decide +kernel
theorem d_Mo_lettersFor_12 : decode M_Mo_lettersFor.2.1 12 = .ok (.imul, 1) := by decide +kernel
theorem d_Mo_lettersFor_13 : decode M_Mo_lettersFor.2.1 13 = .ok (.if_icmp .ge 35, 3) := by decide +kernel
theorem d_Mo_lettersFor_16 : decode M_Mo_lettersFor.2.1 16 = .ok (.iload_n 2, 1) := by decide +kernel
theorem d_Mo_lettersFor_17 : decode M_Mo_lettersFor.2.1 17 = .ok (.aload_n 0, 1) := by decide +kernel
theorem d_Mo_lettersFor_18 : decode M_Mo_lettersFor.2.1 18 = .ok (.aload_n 0, 1) := by decide +kernel
theorem d_Mo_lettersFor_19 : decode M_Mo_lettersFor.2.1 19 = .ok (.getfield 32, 3) := by decide +kernel
theorem d_Mo_lettersFor_22 : decode M_Mo_lettersFor.2.1 22 = .ok (.iload_n 3, 1) := by decide +kernel
theorem d_Mo_lettersFor_23 : decode M_Mo_lettersFor.2.1 23 = .ok (.invokevirtual 268, 3) := by decide +kernel
theorem d_Mo_lettersFor_26 : decode M_Mo_lettersFor.2.1 26 = .ok (.iload_n 1, 1) := by decide +kernel
theorem d_Mo_lettersFor_27 : decode M_Mo_lettersFor.2.1 27 = .ok (.invokestatic 231, 3) := by decide +kernel
theorem d_Mo_lettersFor_30 : decode M_Mo_lettersFor.2.1 30 = .ok (.ifCond .eq 9, 3) := by decide +kernel
theorem d_Mo_lettersFor_33 : decode M_Mo_lettersFor.2.1 33 = .ok (.iconst 1, 1) := by decide +kernel
theorem d_Mo_lettersFor_34 : decode M_Mo_lettersFor.2.1 34 = .ok (.iload_n 3, 1) := by decide +kernel
theorem d_Mo_lettersFor_35 : decode M_Mo_lettersFor.2.1 35 = .ok (.ishl, 1) := by decide +kernel
theorem d_Mo_lettersFor_36 : decode M_Mo_lettersFor.2.1 36 = .ok (.goto 4, 3) := by decide +kernel
theorem d_Mo_lettersFor_39 : decode M_Mo_lettersFor.2.1 39 = .ok (.iconst 0, 1) := by decide +kernel
theorem d_Mo_lettersFor_40 : decode M_Mo_lettersFor.2.1 40 = .ok (.ior, 1) := by decide +kernel
theorem d_Mo_lettersFor_41 : decode M_Mo_lettersFor.2.1 41 = .ok (.istore_n 2, 1) := by decide +kernel
theorem d_Mo_lettersFor_42 : decode M_Mo_lettersFor.2.1 42 = .ok (.iinc 3 1, 3) := by decide +kernel
theorem d_Mo_lettersFor_45 : decode M_Mo_lettersFor.2.1 45 = .ok (.goto (-41), 3) := by decide +kernel
theorem d_Mo_lettersFor_48 : decode M_Mo_lettersFor.2.1 48 = .ok (.iload_n 2, 1) := by decide +kernel
theorem d_Mo_lettersFor_49 : decode M_Mo_lettersFor.2.1 49 = .ok (.ireturn, 1) := by decide +kernel
theorem d_Mo_serves_0 : decode M_Mo_serves.2.1 0 = .ok (.aload_n 0, 1) := by decide +kernel
theorem d_Mo_serves_1 : decode M_Mo_serves.2.1 1 = .ok (.invokevirtual 154, 3) := by decide +kernel
theorem d_Mo_serves_4 : decode M_Mo_serves.2.1 4 = .ok (.aload_n 0, 1) := by decide +kernel
theorem d_Mo_serves_5 : decode M_Mo_serves.2.1 5 = .ok (.iload_n 1, 1) := by decide +kernel
theorem d_Mo_serves_6 : decode M_Mo_serves.2.1 6 = .ok (.invokevirtual 278, 3) := by decide +kernel
theorem d_Mo_serves_9 : decode M_Mo_serves.2.1 9 = .ok (.ifCond .ne 9, 3) := by decide +kernel
theorem d_Mo_serves_12 : decode M_Mo_serves.2.1 12 = .ok (.aload_n 0, 1) := by decide +kernel
theorem d_Mo_serves_13 : decode M_Mo_serves.2.1 13 = .ok (.iconst 1, 1) := by decide +kernel
theorem d_Mo_serves_14 : decode M_Mo_serves.2.1 14 = .ok (.invokevirtual 157, 3) := by decide +kernel
theorem d_Mo_serves_17 : decode M_Mo_serves.2.1 17 = .ok (.ireturn, 1) := by decide +kernel
theorem d_Mo_serves_18 : decode M_Mo_serves.2.1 18 = .ok (.aload_n 0, 1) := by decide +kernel
theorem d_Mo_serves_19 : decode M_Mo_serves.2.1 19 = .ok (.invokevirtual 281, 3) := by decide +kernel
theorem d_Mo_serves_22 : decode M_Mo_serves.2.1 22 = .ok (.aload_n 0, 1) := by decide +kernel
theorem d_Mo_serves_23 : decode M_Mo_serves.2.1 23 = .ok (.iload_n 1, 1) := by decide +kernel
theorem d_Mo_serves_24 : decode M_Mo_serves.2.1 24 = .ok (.invokevirtual 298, 3) := by decide +kernel
theorem d_Mo_serves_27 : decode M_Mo_serves.2.1 27 = .ok (.ireturn, 1) := by decide +kernel
theorem d_Mo_bestFor_0 : decode M_Mo_bestFor.2.1 0 = .ok (.bipush (-2), 2) := by decide +kernel
theorem d_Mo_bestFor_2 : decode M_Mo_bestFor.2.1 2 = .ok (.istore_n 2, 1) := by decide +kernel
theorem d_Mo_bestFor_3 : decode M_Mo_bestFor.2.1 3 = .ok (.aload_n 0, 1) := by decide +kernel
theorem d_Mo_bestFor_4 : decode M_Mo_bestFor.2.1 4 = .ok (.bipush (-2), 2) := by decide +kernel
theorem d_Mo_bestFor_6 : decode M_Mo_bestFor.2.1 6 = .ok (.putfield 301, 3) := by decide +kernel
theorem d_Mo_bestFor_9 : decode M_Mo_bestFor.2.1 9 = .ok (.iconst 0, 1) := by decide +kernel
theorem d_Mo_bestFor_10 : decode M_Mo_bestFor.2.1 10 = .ok (.istore_n 3, 1) := by decide +kernel
theorem d_Mo_bestFor_11 : decode M_Mo_bestFor.2.1 11 = .ok (.iload_n 3, 1) := by decide +kernel
theorem d_Mo_bestFor_12 : decode M_Mo_bestFor.2.1 12 = .ok (.iconst 2, 1) := by decide +kernel
theorem d_Mo_bestFor_13 : decode M_Mo_bestFor.2.1 13 = .ok (.aload_n 0, 1) := by decide +kernel
theorem d_Mo_bestFor_14 : decode M_Mo_bestFor.2.1 14 = .ok (.getfield 20, 3) := by decide +kernel
theorem d_Mo_bestFor_17 : decode M_Mo_bestFor.2.1 17 = .ok (.iconst 2, 1) := by decide +kernel
theorem d_Mo_bestFor_18 : decode M_Mo_bestFor.2.1 18 = .ok (.iaload, 1) := by decide +kernel
theorem d_Mo_bestFor_19 : decode M_Mo_bestFor.2.1 19 = .ok (.imul, 1) := by decide +kernel
theorem d_Mo_bestFor_20 : decode M_Mo_bestFor.2.1 20 = .ok (.if_icmp .ge 53, 3) := by decide +kernel
theorem d_Mo_bestFor_23 : decode M_Mo_bestFor.2.1 23 = .ok (.aload_n 0, 1) := by decide +kernel
theorem d_Mo_bestFor_24 : decode M_Mo_bestFor.2.1 24 = .ok (.aload_n 0, 1) := by decide +kernel
theorem d_Mo_bestFor_25 : decode M_Mo_bestFor.2.1 25 = .ok (.getfield 32, 3) := by decide +kernel
theorem d_Mo_bestFor_28 : decode M_Mo_bestFor.2.1 28 = .ok (.iload_n 3, 1) := by decide +kernel
theorem d_Mo_bestFor_29 : decode M_Mo_bestFor.2.1 29 = .ok (.invokevirtual 268, 3) := by decide +kernel
theorem d_Mo_bestFor_32 : decode M_Mo_bestFor.2.1 32 = .ok (.iload_n 1, 1) := by decide +kernel
theorem d_Mo_bestFor_33 : decode M_Mo_bestFor.2.1 33 = .ok (.invokestatic 231, 3) := by decide +kernel
theorem d_Mo_bestFor_36 : decode M_Mo_bestFor.2.1 36 = .ok (.ifCond .eq 31, 3) := by decide +kernel
theorem d_Mo_bestFor_39 : decode M_Mo_bestFor.2.1 39 = .ok (.iload_n 2, 1) := by decide +kernel
theorem d_Mo_bestFor_40 : decode M_Mo_bestFor.2.1 40 = .ok (.ifCond .lt 17, 3) := by decide +kernel
theorem d_Mo_bestFor_43 : decode M_Mo_bestFor.2.1 43 = .ok (.aload_n 0, 1) := by decide +kernel
theorem d_Mo_bestFor_44 : decode M_Mo_bestFor.2.1 44 = .ok (.getfield 248, 3) := by decide +kernel
theorem d_Mo_bestFor_47 : decode M_Mo_bestFor.2.1 47 = .ok (.aload_n 0, 1) := by decide +kernel
theorem d_Mo_bestFor_48 : decode M_Mo_bestFor.2.1 48 = .ok (.getfield 301, 3) := by decide +kernel
theorem d_Mo_bestFor_51 : decode M_Mo_bestFor.2.1 51 = .ok (.if_icmp .lt 6, 3) := by decide +kernel
theorem d_Mo_bestFor_54 : decode M_Mo_bestFor.2.1 54 = .ok (.goto 13, 3) := by decide +kernel
theorem d_Mo_bestFor_57 : decode M_Mo_bestFor.2.1 57 = .ok (.iload_n 3, 1) := by decide +kernel
theorem d_Mo_bestFor_58 : decode M_Mo_bestFor.2.1 58 = .ok (.istore_n 2, 1) := by decide +kernel
theorem d_Mo_bestFor_59 : decode M_Mo_bestFor.2.1 59 = .ok (.aload_n 0, 1) := by decide +kernel
theorem d_Mo_bestFor_60 : decode M_Mo_bestFor.2.1 60 = .ok (.aload_n 0, 1) := by decide +kernel
theorem d_Mo_bestFor_61 : decode M_Mo_bestFor.2.1 61 = .ok (.getfield 248, 3) := by decide +kernel
theorem d_Mo_bestFor_64 : decode M_Mo_bestFor.2.1 64 = .ok (.putfield 301, 3) := by decide +kernel
theorem d_Mo_bestFor_67 : decode M_Mo_bestFor.2.1 67 = .ok (.iinc 3 1, 3) := by decide +kernel
theorem d_Mo_bestFor_70 : decode M_Mo_bestFor.2.1 70 = .ok (.goto (-59), 3) := by decide +kernel
theorem d_Mo_bestFor_73 : decode M_Mo_bestFor.2.1 73 = .ok (.iload_n 2, 1) := by decide +kernel
theorem d_Mo_bestFor_74 : decode M_Mo_bestFor.2.1 74 = .ok (.ireturn, 1) := by decide +kernel
theorem d_Mo_best_0 : decode M_Mo_best.2.1 0 = .ok (.aload_n 0, 1) := by decide +kernel
theorem d_Mo_best_1 : decode M_Mo_best.2.1 1 = .ok (.invokevirtual 154, 3) := by decide +kernel
theorem d_Mo_best_4 : decode M_Mo_best.2.1 4 = .ok (.aload_n 0, 1) := by decide +kernel
theorem d_Mo_best_5 : decode M_Mo_best.2.1 5 = .ok (.iload_n 1, 1) := by decide +kernel
theorem d_Mo_best_6 : decode M_Mo_best.2.1 6 = .ok (.invokevirtual 278, 3) := by decide +kernel
theorem d_Mo_best_9 : decode M_Mo_best.2.1 9 = .ok (.ifCond .ne 9, 3) := by decide +kernel
theorem d_Mo_best_12 : decode M_Mo_best.2.1 12 = .ok (.aload_n 0, 1) := by decide +kernel
theorem d_Mo_best_13 : decode M_Mo_best.2.1 13 = .ok (.iconst 1, 1) := by decide +kernel
theorem d_Mo_best_14 : decode M_Mo_best.2.1 14 = .ok (.invokevirtual 157, 3) := by decide +kernel
theorem d_Mo_best_17 : decode M_Mo_best.2.1 17 = .ok (.ireturn, 1) := by decide +kernel
theorem d_Mo_best_18 : decode M_Mo_best.2.1 18 = .ok (.aload_n 0, 1) := by decide +kernel
theorem d_Mo_best_19 : decode M_Mo_best.2.1 19 = .ok (.invokevirtual 281, 3) := by decide +kernel
theorem d_Mo_best_22 : decode M_Mo_best.2.1 22 = .ok (.aload_n 0, 1) := by decide +kernel
theorem d_Mo_best_23 : decode M_Mo_best.2.1 23 = .ok (.iload_n 1, 1) := by decide +kernel
theorem d_Mo_best_24 : decode M_Mo_best.2.1 24 = .ok (.invokevirtual 304, 3) := by decide +kernel
theorem d_Mo_best_27 : decode M_Mo_best.2.1 27 = .ok (.ireturn, 1) := by decide +kernel
theorem d_Mo_shortest_0 : decode M_Mo_shortest.2.1 0 = .ok (.aload_n 0, 1) := by decide +kernel
theorem d_Mo_shortest_1 : decode M_Mo_shortest.2.1 1 = .ok (.invokevirtual 154, 3) := by decide +kernel
theorem d_Mo_shortest_4 : decode M_Mo_shortest.2.1 4 = .ok (.aload_n 0, 1) := by decide +kernel
theorem d_Mo_shortest_5 : decode M_Mo_shortest.2.1 5 = .ok (.iload_n 1, 1) := by decide +kernel
theorem d_Mo_shortest_6 : decode M_Mo_shortest.2.1 6 = .ok (.invokevirtual 278, 3) := by decide +kernel
theorem d_Mo_shortest_9 : decode M_Mo_shortest.2.1 9 = .ok (.ifCond .ne 9, 3) := by decide +kernel
theorem d_Mo_shortest_12 : decode M_Mo_shortest.2.1 12 = .ok (.aload_n 0, 1) := by decide +kernel
theorem d_Mo_shortest_13 : decode M_Mo_shortest.2.1 13 = .ok (.iconst 1, 1) := by decide +kernel
theorem d_Mo_shortest_14 : decode M_Mo_shortest.2.1 14 = .ok (.invokevirtual 157, 3) := by decide +kernel
theorem d_Mo_shortest_17 : decode M_Mo_shortest.2.1 17 = .ok (.ireturn, 1) := by decide +kernel
theorem d_Mo_shortest_18 : decode M_Mo_shortest.2.1 18 = .ok (.aload_n 0, 1) := by decide +kernel
theorem d_Mo_shortest_19 : decode M_Mo_shortest.2.1 19 = .ok (.invokevirtual 281, 3) := by decide +kernel
theorem d_Mo_shortest_22 : decode M_Mo_shortest.2.1 22 = .ok (.aload_n 0, 1) := by decide +kernel
theorem d_Mo_shortest_23 : decode M_Mo_shortest.2.1 23 = .ok (.iload_n 1, 1) := by decide +kernel
theorem d_Mo_shortest_24 : decode M_Mo_shortest.2.1 24 = .ok (.invokevirtual 304, 3) := by decide +kernel
theorem d_Mo_shortest_27 : decode M_Mo_shortest.2.1 27 = .ok (.pop, 1) := by decide +kernel
theorem d_Mo_shortest_28 : decode M_Mo_shortest.2.1 28 = .ok (.aload_n 0, 1) := by decide +kernel
theorem d_Mo_shortest_29 : decode M_Mo_shortest.2.1 29 = .ok (.getfield 301, 3) := by decide +kernel
theorem d_Mo_shortest_32 : decode M_Mo_shortest.2.1 32 = .ok (.ireturn, 1) := by decide +kernel
theorem d_Mo_widest_0 : decode M_Mo_widest.2.1 0 = .ok (.aload_n 0, 1) := by decide +kernel
theorem d_Mo_widest_1 : decode M_Mo_widest.2.1 1 = .ok (.invokevirtual 154, 3) := by decide +kernel
theorem d_Mo_widest_4 : decode M_Mo_widest.2.1 4 = .ok (.aload_n 0, 1) := by decide +kernel
theorem d_Mo_widest_5 : decode M_Mo_widest.2.1 5 = .ok (.getfield 167, 3) := by decide +kernel
theorem d_Mo_widest_8 : decode M_Mo_widest.2.1 8 = .ok (.ifCond .ne 9, 3) := by decide +kernel
theorem d_Mo_widest_11 : decode M_Mo_widest.2.1 11 = .ok (.aload_n 0, 1) := by decide +kernel
theorem d_Mo_widest_12 : decode M_Mo_widest.2.1 12 = .ok (.iconst 1, 1) := by decide +kernel
theorem d_Mo_widest_13 : decode M_Mo_widest.2.1 13 = .ok (.invokevirtual 157, 3) := by decide +kernel
theorem d_Mo_widest_16 : decode M_Mo_widest.2.1 16 = .ok (.ireturn, 1) := by decide +kernel
theorem d_Mo_widest_17 : decode M_Mo_widest.2.1 17 = .ok (.aload_n 0, 1) := by decide +kernel
theorem d_Mo_widest_18 : decode M_Mo_widest.2.1 18 = .ok (.invokevirtual 281, 3) := by decide +kernel
theorem d_Mo_widest_21 : decode M_Mo_widest.2.1 21 = .ok (.bipush (-2), 2) := by decide +kernel
theorem d_Mo_widest_23 : decode M_Mo_widest.2.1 23 = .ok (.istore_n 1, 1) := by decide +kernel
theorem d_Mo_widest_24 : decode M_Mo_widest.2.1 24 = .ok (.iconst 0, 1) := by decide +kernel
theorem d_Mo_widest_25 : decode M_Mo_widest.2.1 25 = .ok (.istore_n 2, 1) := by decide +kernel
theorem d_Mo_widest_26 : decode M_Mo_widest.2.1 26 = .ok (.iconst 0, 1) := by decide +kernel
theorem d_Mo_widest_27 : decode M_Mo_widest.2.1 27 = .ok (.istore_n 3, 1) := by decide +kernel
theorem d_Mo_widest_28 : decode M_Mo_widest.2.1 28 = .ok (.iload_n 3, 1) := by decide +kernel
theorem d_Mo_widest_29 : decode M_Mo_widest.2.1 29 = .ok (.iconst 2, 1) := by decide +kernel
theorem d_Mo_widest_30 : decode M_Mo_widest.2.1 30 = .ok (.aload_n 0, 1) := by decide +kernel
theorem d_Mo_widest_31 : decode M_Mo_widest.2.1 31 = .ok (.getfield 20, 3) := by decide +kernel
theorem d_Mo_widest_34 : decode M_Mo_widest.2.1 34 = .ok (.iconst 2, 1) := by decide +kernel
theorem d_Mo_widest_35 : decode M_Mo_widest.2.1 35 = .ok (.iaload, 1) := by decide +kernel
theorem d_Mo_widest_36 : decode M_Mo_widest.2.1 36 = .ok (.imul, 1) := by decide +kernel
theorem d_Mo_widest_37 : decode M_Mo_widest.2.1 37 = .ok (.if_icmp .ge 37, 3) := by decide +kernel
theorem d_Mo_widest_40 : decode M_Mo_widest.2.1 40 = .ok (.aload_n 0, 1) := by decide +kernel
theorem d_Mo_widest_41 : decode M_Mo_widest.2.1 41 = .ok (.aload_n 0, 1) := by decide +kernel
theorem d_Mo_widest_42 : decode M_Mo_widest.2.1 42 = .ok (.getfield 32, 3) := by decide +kernel
theorem d_Mo_widest_45 : decode M_Mo_widest.2.1 45 = .ok (.iload_n 3, 1) := by decide +kernel
theorem d_Mo_widest_46 : decode M_Mo_widest.2.1 46 = .ok (.invokevirtual 268, 3) := by decide +kernel
theorem d_Mo_widest_49 : decode M_Mo_widest.2.1 49 = .ok (.invokestatic 307, 3) := by decide +kernel
theorem d_Mo_widest_52 : decode M_Mo_widest.2.1 52 = .ok (.istore 4, 2) := by decide +kernel
theorem d_Mo_widest_54 : decode M_Mo_widest.2.1 54 = .ok (.iload 4, 2) := by decide +kernel
theorem d_Mo_widest_56 : decode M_Mo_widest.2.1 56 = .ok (.iload_n 2, 1) := by decide +kernel
theorem d_Mo_widest_57 : decode M_Mo_widest.2.1 57 = .ok (.if_icmp .gt 6, 3) := by decide +kernel
theorem d_Mo_widest_60 : decode M_Mo_widest.2.1 60 = .ok (.goto 8, 3) := by decide +kernel
theorem d_Mo_widest_63 : decode M_Mo_widest.2.1 63 = .ok (.iload_n 3, 1) := by decide +kernel
theorem d_Mo_widest_64 : decode M_Mo_widest.2.1 64 = .ok (.istore_n 1, 1) := by decide +kernel
theorem d_Mo_widest_65 : decode M_Mo_widest.2.1 65 = .ok (.iload 4, 2) := by decide +kernel
theorem d_Mo_widest_67 : decode M_Mo_widest.2.1 67 = .ok (.istore_n 2, 1) := by decide +kernel
theorem d_Mo_widest_68 : decode M_Mo_widest.2.1 68 = .ok (.iinc 3 1, 3) := by decide +kernel
theorem d_Mo_widest_71 : decode M_Mo_widest.2.1 71 = .ok (.goto (-43), 3) := by decide +kernel
theorem d_Mo_widest_74 : decode M_Mo_widest.2.1 74 = .ok (.iload_n 1, 1) := by decide +kernel
theorem d_Mo_widest_75 : decode M_Mo_widest.2.1 75 = .ok (.ireturn, 1) := by decide +kernel
theorem d_Mo_servedWith_0 : decode M_Mo_servedWith.2.1 0 = .ok (.aload_n 0, 1) := by decide +kernel
theorem d_Mo_servedWith_1 : decode M_Mo_servedWith.2.1 1 = .ok (.getfield 32, 3) := by decide +kernel
theorem d_Mo_servedWith_4 : decode M_Mo_servedWith.2.1 4 = .ok (.iconst 0, 1) := by decide +kernel
theorem d_Mo_servedWith_5 : decode M_Mo_servedWith.2.1 5 = .ok (.aload_n 0, 1) := by decide +kernel
theorem d_Mo_servedWith_6 : decode M_Mo_servedWith.2.1 6 = .ok (.getfield 47, 3) := by decide +kernel
theorem d_Mo_servedWith_9 : decode M_Mo_servedWith.2.1 9 = .ok (.iconst 0, 1) := by decide +kernel
theorem d_Mo_servedWith_10 : decode M_Mo_servedWith.2.1 10 = .ok (.bipush 14, 2) := by decide +kernel
theorem d_Mo_servedWith_12 : decode M_Mo_servedWith.2.1 12 = .ok (.invokestatic 163, 3) := by decide +kernel
theorem d_Mo_servedWith_15 : decode M_Mo_servedWith.2.1 15 = .ok (.aload_n 0, 1) := by decide +kernel
theorem d_Mo_servedWith_16 : decode M_Mo_servedWith.2.1 16 = .ok (.getfield 47, 3) := by decide +kernel
theorem d_Mo_servedWith_19 : decode M_Mo_servedWith.2.1 19 = .ok (.bipush 6, 2) := by decide +kernel
theorem d_Mo_servedWith_21 : decode M_Mo_servedWith.2.1 21 = .ok (.iload_n 1, 1) := by decide +kernel
theorem d_Mo_servedWith_22 : decode M_Mo_servedWith.2.1 22 = .ok (.iadd, 1) := by decide +kernel
theorem d_Mo_servedWith_23 : decode M_Mo_servedWith.2.1 23 = .ok (.iload_n 2, 1) := by decide +kernel
theorem d_Mo_servedWith_24 : decode M_Mo_servedWith.2.1 24 = .ok (.iload_n 1, 1) := by decide +kernel
theorem d_Mo_servedWith_25 : decode M_Mo_servedWith.2.1 25 = .ok (.if_icmp .ne 7, 3) := by decide +kernel
theorem d_Mo_servedWith_28 : decode M_Mo_servedWith.2.1 28 = .ok (.iconst 0, 1) := by decide +kernel
theorem d_Mo_servedWith_29 : decode M_Mo_servedWith.2.1 29 = .ok (.goto 6, 3) := by decide +kernel
theorem d_Mo_servedWith_32 : decode M_Mo_servedWith.2.1 32 = .ok (.iload_n 2, 1) := by decide +kernel
theorem d_Mo_servedWith_33 : decode M_Mo_servedWith.2.1 33 = .ok (.iconst 1, 1) := by decide +kernel
theorem d_Mo_servedWith_34 : decode M_Mo_servedWith.2.1 34 = .ok (.iadd, 1) := by decide +kernel
theorem d_Mo_servedWith_35 : decode M_Mo_servedWith.2.1 35 = .ok (.iastore, 1) := by decide +kernel
theorem d_Mo_servedWith_36 : decode M_Mo_servedWith.2.1 36 = .ok (.aload_n 0, 1) := by decide +kernel
theorem d_Mo_servedWith_37 : decode M_Mo_servedWith.2.1 37 = .ok (.aload_n 0, 1) := by decide +kernel
theorem d_Mo_servedWith_38 : decode M_Mo_servedWith.2.1 38 = .ok (.getfield 47, 3) := by decide +kernel
theorem d_Mo_servedWith_41 : decode M_Mo_servedWith.2.1 41 = .ok (.invokevirtual 284, 3) := by decide +kernel
theorem d_Mo_servedWith_44 : decode M_Mo_servedWith.2.1 44 = .ok (.invokestatic 307, 3) := by decide +kernel
theorem d_Mo_servedWith_47 : decode M_Mo_servedWith.2.1 47 = .ok (.ireturn, 1) := by decide +kernel
theorem d_Mo_changeOf_0 : decode M_Mo_changeOf.2.1 0 = .ok (.aload_n 0, 1) := by decide +kernel
theorem d_Mo_changeOf_1 : decode M_Mo_changeOf.2.1 1 = .ok (.invokevirtual 281, 3) := by decide +kernel
theorem d_Mo_changeOf_4 : decode M_Mo_changeOf.2.1 4 = .ok (.bipush (-2), 2) := by decide +kernel
theorem d_Mo_changeOf_6 : decode M_Mo_changeOf.2.1 6 = .ok (.istore_n 1, 1) := by decide +kernel
theorem d_Mo_changeOf_7 : decode M_Mo_changeOf.2.1 7 = .ok (.aload_n 0, 1) := by decide +kernel
theorem d_Mo_changeOf_8 : decode M_Mo_changeOf.2.1 8 = .ok (.aload_n 0, 1) := by decide +kernel
theorem d_Mo_changeOf_9 : decode M_Mo_changeOf.2.1 9 = .ok (.aload_n 0, 1) := by decide +kernel
theorem d_Mo_changeOf_10 : decode M_Mo_changeOf.2.1 10 = .ok (.getfield 32, 3) := by decide +kernel
theorem d_Mo_changeOf_13 : decode M_Mo_changeOf.2.1 13 = .ok (.invokevirtual 284, 3) := by decide +kernel
theorem d_Mo_changeOf_16 : decode M_Mo_changeOf.2.1 16 = .ok (.invokestatic 307, 3) := by decide +kernel
theorem d_Mo_changeOf_19 : decode M_Mo_changeOf.2.1 19 = .ok (.putfield 310, 3) := by decide +kernel
theorem d_Mo_changeOf_22 : decode M_Mo_changeOf.2.1 22 = .ok (.aload_n 0, 1) := by decide +kernel
theorem d_Mo_changeOf_23 : decode M_Mo_changeOf.2.1 23 = .ok (.getfield 310, 3) := by decide +kernel
theorem d_Mo_changeOf_26 : decode M_Mo_changeOf.2.1 26 = .ok (.istore_n 2, 1) := by decide +kernel
theorem d_Mo_changeOf_27 : decode M_Mo_changeOf.2.1 27 = .ok (.iconst 0, 1) := by decide +kernel
theorem d_Mo_changeOf_28 : decode M_Mo_changeOf.2.1 28 = .ok (.istore_n 3, 1) := by decide +kernel
theorem d_Mo_changeOf_29 : decode M_Mo_changeOf.2.1 29 = .ok (.iload_n 3, 1) := by decide +kernel
theorem d_Mo_changeOf_30 : decode M_Mo_changeOf.2.1 30 = .ok (.aload_n 0, 1) := by decide +kernel
theorem d_Mo_changeOf_31 : decode M_Mo_changeOf.2.1 31 = .ok (.getfield 20, 3) := by decide +kernel
theorem d_Mo_changeOf_34 : decode M_Mo_changeOf.2.1 34 = .ok (.iconst 2, 1) := by decide +kernel
theorem d_Mo_changeOf_35 : decode M_Mo_changeOf.2.1 35 = .ok (.iaload, 1) := by decide +kernel
theorem d_Mo_changeOf_36 : decode M_Mo_changeOf.2.1 36 = .ok (.if_icmp .ge 84, 3) := by decide +kernel
theorem d_Mo_changeOf_39 : decode M_Mo_changeOf.2.1 39 = .ok (.iconst (-1), 1) := by decide +kernel
theorem d_Mo_changeOf_40 : decode M_Mo_changeOf.2.1 40 = .ok (.istore 4, 2) := by decide +kernel
theorem d_Mo_changeOf_42 : decode M_Mo_changeOf.2.1 42 = .ok (.iload 4, 2) := by decide +kernel
theorem d_Mo_changeOf_44 : decode M_Mo_changeOf.2.1 44 = .ok (.aload_n 0, 1) := by decide +kernel
theorem d_Mo_changeOf_45 : decode M_Mo_changeOf.2.1 45 = .ok (.getfield 20, 3) := by decide +kernel
theorem d_Mo_changeOf_48 : decode M_Mo_changeOf.2.1 48 = .ok (.iconst 2, 1) := by decide +kernel
theorem d_Mo_changeOf_49 : decode M_Mo_changeOf.2.1 49 = .ok (.iaload, 1) := by decide +kernel
theorem d_Mo_changeOf_50 : decode M_Mo_changeOf.2.1 50 = .ok (.if_icmp .ge 64, 3) := by decide +kernel
theorem d_Mo_changeOf_53 : decode M_Mo_changeOf.2.1 53 = .ok (.iload 4, 2) := by decide +kernel
theorem d_Mo_changeOf_55 : decode M_Mo_changeOf.2.1 55 = .ok (.ifCond .ge 7, 3) := by decide +kernel
theorem d_Mo_changeOf_58 : decode M_Mo_changeOf.2.1 58 = .ok (.iload_n 3, 1) := by decide +kernel
theorem d_Mo_changeOf_59 : decode M_Mo_changeOf.2.1 59 = .ok (.goto 5, 3) := by decide +kernel
theorem d_Mo_changeOf_62 : decode M_Mo_changeOf.2.1 62 = .ok (.iload 4, 2) := by decide +kernel
theorem d_Mo_changeOf_64 : decode M_Mo_changeOf.2.1 64 = .ok (.istore 5, 2) := by decide +kernel
theorem d_Mo_changeOf_66 : decode M_Mo_changeOf.2.1 66 = .ok (.iload 4, 2) := by decide +kernel
theorem d_Mo_changeOf_68 : decode M_Mo_changeOf.2.1 68 = .ok (.iload_n 3, 1) := by decide +kernel
theorem d_Mo_changeOf_69 : decode M_Mo_changeOf.2.1 69 = .ok (.if_icmp .eq 39, 3) := by decide +kernel
theorem d_Mo_changeOf_72 : decode M_Mo_changeOf.2.1 72 = .ok (.aload_n 0, 1) := by decide +kernel
theorem d_Mo_changeOf_73 : decode M_Mo_changeOf.2.1 73 = .ok (.iload_n 3, 1) := by decide +kernel
theorem d_Mo_changeOf_74 : decode M_Mo_changeOf.2.1 74 = .ok (.iload 5, 2) := by decide +kernel
theorem d_Mo_changeOf_76 : decode M_Mo_changeOf.2.1 76 = .ok (.invokevirtual 313, 3) := by decide +kernel
theorem d_Mo_changeOf_79 : decode M_Mo_changeOf.2.1 79 = .ok (.aload_n 0, 1) := by decide +kernel
theorem d_Mo_changeOf_80 : decode M_Mo_changeOf.2.1 80 = .ok (.getfield 310, 3) := by decide +kernel
theorem d_Mo_changeOf_83 : decode M_Mo_changeOf.2.1 83 = .ok (.if_icmp .gt 6, 3) := by decide +kernel
theorem d_Mo_changeOf_86 : decode M_Mo_changeOf.2.1 86 = .ok (.goto 22, 3) := by decide +kernel
theorem d_Mo_changeOf_89 : decode M_Mo_changeOf.2.1 89 = .ok (.bipush 10, 2) := by decide +kernel
theorem d_Mo_changeOf_91 : decode M_Mo_changeOf.2.1 91 = .ok (.iload_n 3, 1) := by decide +kernel
theorem d_Mo_changeOf_92 : decode M_Mo_changeOf.2.1 92 = .ok (.imul, 1) := by decide +kernel
theorem d_Mo_changeOf_93 : decode M_Mo_changeOf.2.1 93 = .ok (.iload 5, 2) := by decide +kernel
theorem d_Mo_changeOf_95 : decode M_Mo_changeOf.2.1 95 = .ok (.iadd, 1) := by decide +kernel
theorem d_Mo_changeOf_96 : decode M_Mo_changeOf.2.1 96 = .ok (.istore_n 1, 1) := by decide +kernel
theorem d_Mo_changeOf_97 : decode M_Mo_changeOf.2.1 97 = .ok (.aload_n 0, 1) := by decide +kernel
theorem d_Mo_changeOf_98 : decode M_Mo_changeOf.2.1 98 = .ok (.aload_n 0, 1) := by decide +kernel
theorem d_Mo_changeOf_99 : decode M_Mo_changeOf.2.1 99 = .ok (.iload_n 3, 1) := by decide +kernel
theorem d_Mo_changeOf_100 : decode M_Mo_changeOf.2.1 100 = .ok (.iload 5, 2) := by decide +kernel
theorem d_Mo_changeOf_102 : decode M_Mo_changeOf.2.1 102 = .ok (.invokevirtual 313, 3) := by decide +kernel
theorem d_Mo_changeOf_105 : decode M_Mo_changeOf.2.1 105 = .ok (.putfield 310, 3) := by decide +kernel
theorem d_Mo_changeOf_108 : decode M_Mo_changeOf.2.1 108 = .ok (.iinc 4 1, 3) := by decide +kernel
theorem d_Mo_changeOf_111 : decode M_Mo_changeOf.2.1 111 = .ok (.goto (-69), 3) := by decide +kernel
theorem d_Mo_changeOf_114 : decode M_Mo_changeOf.2.1 114 = .ok (.iinc 3 1, 3) := by decide +kernel
theorem d_Mo_changeOf_117 : decode M_Mo_changeOf.2.1 117 = .ok (.goto (-88), 3) := by decide +kernel
theorem d_Mo_changeOf_120 : decode M_Mo_changeOf.2.1 120 = .ok (.aload_n 0, 1) := by decide +kernel
theorem d_Mo_changeOf_121 : decode M_Mo_changeOf.2.1 121 = .ok (.getfield 310, 3) := by decide +kernel
theorem d_Mo_changeOf_124 : decode M_Mo_changeOf.2.1 124 = .ok (.iload_n 2, 1) := by decide +kernel
theorem d_Mo_changeOf_125 : decode M_Mo_changeOf.2.1 125 = .ok (.if_icmp .ne 9, 3) := by decide +kernel
theorem d_Mo_changeOf_128 : decode M_Mo_changeOf.2.1 128 = .ok (.aload_n 0, 1) := by decide +kernel
theorem d_Mo_changeOf_129 : decode M_Mo_changeOf.2.1 129 = .ok (.bipush (-2), 2) := by decide +kernel
theorem d_Mo_changeOf_131 : decode M_Mo_changeOf.2.1 131 = .ok (.putfield 310, 3) := by decide +kernel
theorem d_Mo_changeOf_134 : decode M_Mo_changeOf.2.1 134 = .ok (.iload_n 1, 1) := by decide +kernel
theorem d_Mo_changeOf_135 : decode M_Mo_changeOf.2.1 135 = .ok (.ireturn, 1) := by decide +kernel
theorem d_Mo_change_0 : decode M_Mo_change.2.1 0 = .ok (.aload_n 0, 1) := by decide +kernel
theorem d_Mo_change_1 : decode M_Mo_change.2.1 1 = .ok (.invokevirtual 154, 3) := by decide +kernel
theorem d_Mo_change_4 : decode M_Mo_change.2.1 4 = .ok (.aload_n 0, 1) := by decide +kernel
theorem d_Mo_change_5 : decode M_Mo_change.2.1 5 = .ok (.getfield 167, 3) := by decide +kernel
theorem d_Mo_change_8 : decode M_Mo_change.2.1 8 = .ok (.ifCond .eq 10, 3) := by decide +kernel
theorem d_Mo_change_11 : decode M_Mo_change.2.1 11 = .ok (.aload_n 0, 1) := by decide +kernel
theorem d_Mo_change_12 : decode M_Mo_change.2.1 12 = .ok (.invokevirtual 316, 3) := by decide +kernel
theorem d_Mo_change_15 : decode M_Mo_change.2.1 15 = .ok (.goto 8, 3) := by decide +kernel
theorem d_Mo_change_18 : decode M_Mo_change.2.1 18 = .ok (.aload_n 0, 1) := by decide +kernel
theorem d_Mo_change_19 : decode M_Mo_change.2.1 19 = .ok (.iconst 1, 1) := by decide +kernel
theorem d_Mo_change_20 : decode M_Mo_change.2.1 20 = .ok (.invokevirtual 157, 3) := by decide +kernel
theorem d_Mo_change_23 : decode M_Mo_change.2.1 23 = .ok (.ireturn, 1) := by decide +kernel
theorem d_Mo_changeServes_0 : decode M_Mo_changeServes.2.1 0 = .ok (.aload_n 0, 1) := by decide +kernel
theorem d_Mo_changeServes_1 : decode M_Mo_changeServes.2.1 1 = .ok (.invokevirtual 154, 3) := by decide +kernel
theorem d_Mo_changeServes_4 : decode M_Mo_changeServes.2.1 4 = .ok (.aload_n 0, 1) := by decide +kernel
theorem d_Mo_changeServes_5 : decode M_Mo_changeServes.2.1 5 = .ok (.getfield 167, 3) := by decide +kernel
theorem d_Mo_changeServes_8 : decode M_Mo_changeServes.2.1 8 = .ok (.ifCond .ne 9, 3) := by decide +kernel
theorem d_Mo_changeServes_11 : decode M_Mo_changeServes.2.1 11 = .ok (.aload_n 0, 1) := by decide +kernel
theorem d_Mo_changeServes_12 : decode M_Mo_changeServes.2.1 12 = .ok (.iconst 1, 1) := by decide +kernel
theorem d_Mo_changeServes_13 : decode M_Mo_changeServes.2.1 13 = .ok (.invokevirtual 157, 3) := by decide +kernel
theorem d_Mo_changeServes_16 : decode M_Mo_changeServes.2.1 16 = .ok (.ireturn, 1) := by decide +kernel
theorem d_Mo_changeServes_17 : decode M_Mo_changeServes.2.1 17 = .ok (.aload_n 0, 1) := by decide +kernel
theorem d_Mo_changeServes_18 : decode M_Mo_changeServes.2.1 18 = .ok (.invokevirtual 316, 3) := by decide +kernel
theorem d_Mo_changeServes_21 : decode M_Mo_changeServes.2.1 21 = .ok (.pop, 1) := by decide +kernel
theorem d_Mo_changeServes_22 : decode M_Mo_changeServes.2.1 22 = .ok (.aload_n 0, 1) := by decide +kernel
theorem d_Mo_changeServes_23 : decode M_Mo_changeServes.2.1 23 = .ok (.getfield 310, 3) := by decide +kernel
theorem d_Mo_changeServes_26 : decode M_Mo_changeServes.2.1 26 = .ok (.ireturn, 1) := by decide +kernel
theorem d_Mo_servedIf_0 : decode M_Mo_servedIf.2.1 0 = .ok (.aload_n 0, 1) := by decide +kernel
theorem d_Mo_servedIf_1 : decode M_Mo_servedIf.2.1 1 = .ok (.invokevirtual 154, 3) := by decide +kernel
theorem d_Mo_servedIf_4 : decode M_Mo_servedIf.2.1 4 = .ok (.aload_n 0, 1) := by decide +kernel
theorem d_Mo_servedIf_5 : decode M_Mo_servedIf.2.1 5 = .ok (.iload_n 1, 1) := by decide +kernel
theorem d_Mo_servedIf_6 : decode M_Mo_servedIf.2.1 6 = .ok (.invokevirtual 272, 3) := by decide +kernel
theorem d_Mo_servedIf_9 : decode M_Mo_servedIf.2.1 9 = .ok (.ifCond .eq 11, 3) := by decide +kernel
theorem d_Mo_servedIf_12 : decode M_Mo_servedIf.2.1 12 = .ok (.aload_n 0, 1) := by decide +kernel
theorem d_Mo_servedIf_13 : decode M_Mo_servedIf.2.1 13 = .ok (.iload_n 2, 1) := by decide +kernel
theorem d_Mo_servedIf_14 : decode M_Mo_servedIf.2.1 14 = .ok (.invokevirtual 272, 3) := by decide +kernel
theorem d_Mo_servedIf_17 : decode M_Mo_servedIf.2.1 17 = .ok (.ifCond .ne 9, 3) := by decide +kernel
theorem d_Mo_servedIf_20 : decode M_Mo_servedIf.2.1 20 = .ok (.aload_n 0, 1) := by decide +kernel
theorem d_Mo_servedIf_21 : decode M_Mo_servedIf.2.1 21 = .ok (.iconst 1, 1) := by decide +kernel
theorem d_Mo_servedIf_22 : decode M_Mo_servedIf.2.1 22 = .ok (.invokevirtual 157, 3) := by decide +kernel
theorem d_Mo_servedIf_25 : decode M_Mo_servedIf.2.1 25 = .ok (.ireturn, 1) := by decide +kernel
theorem d_Mo_servedIf_26 : decode M_Mo_servedIf.2.1 26 = .ok (.aload_n 0, 1) := by decide +kernel
theorem d_Mo_servedIf_27 : decode M_Mo_servedIf.2.1 27 = .ok (.invokevirtual 281, 3) := by decide +kernel
theorem d_Mo_servedIf_30 : decode M_Mo_servedIf.2.1 30 = .ok (.aload_n 0, 1) := by decide +kernel
theorem d_Mo_servedIf_31 : decode M_Mo_servedIf.2.1 31 = .ok (.iload_n 1, 1) := by decide +kernel
theorem d_Mo_servedIf_32 : decode M_Mo_servedIf.2.1 32 = .ok (.iload_n 2, 1) := by decide +kernel
theorem d_Mo_servedIf_33 : decode M_Mo_servedIf.2.1 33 = .ok (.invokevirtual 313, 3) := by decide +kernel
theorem d_Mo_servedIf_36 : decode M_Mo_servedIf.2.1 36 = .ok (.ireturn, 1) := by decide +kernel
theorem d_Mo_yearOn_0 : decode M_Mo_yearOn.2.1 0 = .ok (.iconst 0, 1) := by decide +kernel
theorem d_Mo_yearOn_1 : decode M_Mo_yearOn.2.1 1 = .ok (.istore_n 2, 1) := by decide +kernel
theorem d_Mo_yearOn_2 : decode M_Mo_yearOn.2.1 2 = .ok (.iload_n 2, 1) := by decide +kernel
theorem d_Mo_yearOn_3 : decode M_Mo_yearOn.2.1 3 = .ok (.aload_n 0, 1) := by decide +kernel
theorem d_Mo_yearOn_4 : decode M_Mo_yearOn.2.1 4 = .ok (.getfield 20, 3) := by decide +kernel
theorem d_Mo_yearOn_7 : decode M_Mo_yearOn.2.1 7 = .ok (.iconst 2, 1) := by decide +kernel
theorem d_Mo_yearOn_8 : decode M_Mo_yearOn.2.1 8 = .ok (.iaload, 1) := by decide +kernel
theorem d_Mo_yearOn_9 : decode M_Mo_yearOn.2.1 9 = .ok (.if_icmp .ge 38, 3) := by decide +kernel
theorem d_Mo_yearOn_12 : decode M_Mo_yearOn.2.1 12 = .ok (.aload_n 1, 1) := by decide +kernel
theorem d_Mo_yearOn_13 : decode M_Mo_yearOn.2.1 13 = .ok (.iload_n 2, 1) := by decide +kernel
theorem d_Mo_yearOn_14 : decode M_Mo_yearOn.2.1 14 = .ok (.aload_n 1, 1) := by decide +kernel
theorem d_Mo_yearOn_15 : decode M_Mo_yearOn.2.1 15 = .ok (.iload_n 2, 1) := by decide +kernel
theorem d_Mo_yearOn_16 : decode M_Mo_yearOn.2.1 16 = .ok (.iaload, 1) := by decide +kernel
theorem d_Mo_yearOn_17 : decode M_Mo_yearOn.2.1 17 = .ok (.aload_n 0, 1) := by decide +kernel
theorem d_Mo_yearOn_18 : decode M_Mo_yearOn.2.1 18 = .ok (.getfield 20, 3) := by decide +kernel
theorem d_Mo_yearOn_21 : decode M_Mo_yearOn.2.1 21 = .ok (.iconst 1, 1) := by decide +kernel
theorem d_Mo_yearOn_22 : decode M_Mo_yearOn.2.1 22 = .ok (.iaload, 1) := by decide +kernel
theorem d_Mo_yearOn_23 : decode M_Mo_yearOn.2.1 23 = .ok (.if_icmp .le 16, 3) := by decide +kernel
theorem d_Mo_yearOn_26 : decode M_Mo_yearOn.2.1 26 = .ok (.aload_n 1, 1) := by decide +kernel
theorem d_Mo_yearOn_27 : decode M_Mo_yearOn.2.1 27 = .ok (.iload_n 2, 1) := by decide +kernel
theorem d_Mo_yearOn_28 : decode M_Mo_yearOn.2.1 28 = .ok (.iaload, 1) := by decide +kernel
theorem d_Mo_yearOn_29 : decode M_Mo_yearOn.2.1 29 = .ok (.aload_n 0, 1) := by decide +kernel
theorem d_Mo_yearOn_30 : decode M_Mo_yearOn.2.1 30 = .ok (.getfield 20, 3) := by decide +kernel
theorem d_Mo_yearOn_33 : decode M_Mo_yearOn.2.1 33 = .ok (.iconst 1, 1) := by decide +kernel
theorem d_Mo_yearOn_34 : decode M_Mo_yearOn.2.1 34 = .ok (.iaload, 1) := by decide +kernel
theorem d_Mo_yearOn_35 : decode M_Mo_yearOn.2.1 35 = .ok (.isub, 1) := by decide +kernel
theorem d_Mo_yearOn_36 : decode M_Mo_yearOn.2.1 36 = .ok (.goto 4, 3) := by decide +kernel
theorem d_Mo_yearOn_39 : decode M_Mo_yearOn.2.1 39 = .ok (.iconst 0, 1) := by decide +kernel
theorem d_Mo_yearOn_40 : decode M_Mo_yearOn.2.1 40 = .ok (.iastore, 1) := by decide +kernel
theorem d_Mo_yearOn_41 : decode M_Mo_yearOn.2.1 41 = .ok (.iinc 2 1, 3) := by decide +kernel
theorem d_Mo_yearOn_44 : decode M_Mo_yearOn.2.1 44 = .ok (.goto (-42), 3) := by decide +kernel
theorem d_Mo_yearOn_47 : decode M_Mo_yearOn.2.1 47 = .ok (.aload_n 1, 1) := by decide +kernel
theorem d_Mo_yearOn_48 : decode M_Mo_yearOn.2.1 48 = .ok (.bipush 13, 2) := by decide +kernel
theorem d_Mo_yearOn_50 : decode M_Mo_yearOn.2.1 50 = .ok (.dup2, 1) := by decide +kernel
theorem d_Mo_yearOn_51 : decode M_Mo_yearOn.2.1 51 = .ok (.iaload, 1) := by decide +kernel
theorem d_Mo_yearOn_52 : decode M_Mo_yearOn.2.1 52 = .ok (.iconst 1, 1) := by decide +kernel
theorem d_Mo_yearOn_53 : decode M_Mo_yearOn.2.1 53 = .ok (.iadd, 1) := by decide +kernel
theorem d_Mo_yearOn_54 : decode M_Mo_yearOn.2.1 54 = .ok (.iastore, 1) := by decide +kernel
theorem d_Mo_yearOn_55 : decode M_Mo_yearOn.2.1 55 = .ok (.return_, 1) := by decide +kernel
theorem d_Mo_yearsOn_0 : decode M_Mo_yearsOn.2.1 0 = .ok (.aload_n 0, 1) := by decide +kernel
theorem d_Mo_yearsOn_1 : decode M_Mo_yearsOn.2.1 1 = .ok (.invokevirtual 281, 3) := by decide +kernel
theorem d_Mo_yearsOn_4 : decode M_Mo_yearsOn.2.1 4 = .ok (.aload_n 0, 1) := by decide +kernel
theorem d_Mo_yearsOn_5 : decode M_Mo_yearsOn.2.1 5 = .ok (.getfield 32, 3) := by decide +kernel
theorem d_Mo_yearsOn_8 : decode M_Mo_yearsOn.2.1 8 = .ok (.iconst 0, 1) := by decide +kernel
theorem d_Mo_yearsOn_9 : decode M_Mo_yearsOn.2.1 9 = .ok (.aload_n 0, 1) := by decide +kernel
theorem d_Mo_yearsOn_10 : decode M_Mo_yearsOn.2.1 10 = .ok (.getfield 47, 3) := by decide +kernel
theorem d_Mo_yearsOn_13 : decode M_Mo_yearsOn.2.1 13 = .ok (.iconst 0, 1) := by decide +kernel
theorem d_Mo_yearsOn_14 : decode M_Mo_yearsOn.2.1 14 = .ok (.bipush 14, 2) := by decide +kernel
theorem d_Mo_yearsOn_16 : decode M_Mo_yearsOn.2.1 16 = .ok (.invokestatic 163, 3) := by decide +kernel
theorem d_Mo_yearsOn_19 : decode M_Mo_yearsOn.2.1 19 = .ok (.iconst 0, 1) := by decide +kernel
theorem d_Mo_yearsOn_20 : decode M_Mo_yearsOn.2.1 20 = .ok (.istore_n 2, 1) := by decide +kernel
theorem d_Mo_yearsOn_21 : decode M_Mo_yearsOn.2.1 21 = .ok (.iload_n 2, 1) := by decide +kernel
theorem d_Mo_yearsOn_22 : decode M_Mo_yearsOn.2.1 22 = .ok (.iload_n 1, 1) := by decide +kernel
theorem d_Mo_yearsOn_23 : decode M_Mo_yearsOn.2.1 23 = .ok (.if_icmp .ge 17, 3) := by decide +kernel
theorem d_Mo_yearsOn_26 : decode M_Mo_yearsOn.2.1 26 = .ok (.aload_n 0, 1) := by decide +kernel
theorem d_Mo_yearsOn_27 : decode M_Mo_yearsOn.2.1 27 = .ok (.aload_n 0, 1) := by decide +kernel
theorem d_Mo_yearsOn_28 : decode M_Mo_yearsOn.2.1 28 = .ok (.getfield 47, 3) := by decide +kernel
theorem d_Mo_yearsOn_31 : decode M_Mo_yearsOn.2.1 31 = .ok (.invokevirtual 319, 3) := by decide +kernel
theorem d_Mo_yearsOn_34 : decode M_Mo_yearsOn.2.1 34 = .ok (.iinc 2 1, 3) := by decide +kernel
theorem d_Mo_yearsOn_37 : decode M_Mo_yearsOn.2.1 37 = .ok (.goto (-16), 3) := by decide +kernel
theorem d_Mo_yearsOn_40 : decode M_Mo_yearsOn.2.1 40 = .ok (.return_, 1) := by decide +kernel
set_option maxRecDepth 4000 in
theorem t_Mo_signer {d : Nat} {I : Nat → Nat → Int32} {J : Nat → Nat → Int64} {R : Nat → Nat → Option Nat} {Q : Option Value → ow_H → Prop} {p1 : Int32} {p2 : Int32}  (hR : ow_RF R) (T : (ow_AM M_Mo_good d [.ref 70] (85, I, J, R) (fun r h' => ∃ (I7 : Nat → Nat → Int32) (J7 : Nat → Nat → Int64) (R7 : Nat → Nat → Option Nat), r = none ∧ h' = (85, I7, J7, R7) ∧ ow_RF R7 ∧ (ow_AM M_Mo_isFolly d [.ref 70, .int p1] (85, I7, J7, R7) (fun r h' => ∃ (r8 : Int32) (I8 : Nat → Nat → Int32) (J8 : Nat → Nat → Int64) (R8 : Nat → Nat → Option Nat), r = some (.int r8) ∧ h' = (85, I8, J8, R8) ∧ ow_RF R8 ∧ ((¬ r8 = 0 → (ow_AM M_Mo_asToldShapes d [.ref 70] (85, I8, J8, R8) (fun r h' => ∃ (I9 : Nat → Nat → Int32) (J9 : Nat → Nat → Int64) (R9 : Nat → Nat → Option Nat), r = none ∧ h' = (85, I9, J9, R9) ∧ ow_RF R9 ∧ (ow_AM M_Mo_letterOf d [.ref 70, .int p1, .int p2] (85, I9, J9, R9) (fun r h' => ∃ (r10 : Int32) (I10 : Nat → Nat → Int32) (J10 : Nat → Nat → Int64) (R10 : Nat → Nat → Option Nat), r = some (.int r10) ∧ h' = (85, I10, J10, R10) ∧ ow_RF R10 ∧ (ow_AM M_Mo_goOver d [.ref 70, .ref 77, .int r10] (85, I10, J10, R10) (fun r h' => ∃ (I11 : Nat → Nat → Int32) (J11 : Nat → Nat → Int64) (R11 : Nat → Nat → Option Nat), r = none ∧ h' = (85, I11, J11, R11) ∧ ow_RF R11 ∧ Q (some (.int (I11 70 28))) (85, I11, J11, R11)))))))) ∧ (r8 = 0 → (ow_AM M_Mo_no d [.ref 70, .int 1] (85, I8, J8, R8) (fun r h' => ∃ (r12 : Int32) (I12 : Nat → Nat → Int32) (J12 : Nat → Nat → Int64) (R12 : Nat → Nat → Option Nat), r = some (.int r12) ∧ h' = (85, I12, J12, R12) ∧ ow_RF R12 ∧ Q (some (.int r12)) (85, I12, J12, R12)))))))))) : ow_AM M_Mo_signer (d + 1) [.ref 70, .int p1, .int p2] (85, I, J, R) Q := by
  refine ow_enter (by decide) (Nat.le_of_ble_eq_true rfl) ?_
  show ow_AW ow_Y0 (ow_Z Q) M_Mo_signer (d + 1) 0 0 0 [(0, .ref 70), (1, .int p1), (2, .int p2)] [] (85, I, J, R) 0 0
  refine ow_aload_n 0 rfl d_Mo_signer_0 ?_
  refine ow_callV (b := 70) (cq := 12) (As := []) (rest := []) (d2 := d) d_Mo_signer_1 l_Mo_154 v_Mo_good (show 70 < 85 by decide) rfl (by decide) rfl (Nat.le_of_ble_eq_true rfl) (Nat.le_refl _) ⟨Nat.le_refl _, Nat.le_refl _⟩ (ow_mono T ?_)
  rintro r h' ⟨I7, J7, R7, rfl, rfl, hR7, T⟩
  show ow_AW ow_Y0 (ow_Z Q) M_Mo_signer (d + 1) 0 0 4 [(0, .ref 70), (1, .int p1), (2, .int p2)] [] (85, I7, J7, R7) 0 0
  refine ow_aload_n 0 rfl d_Mo_signer_4 ?_
  refine ow_iload_n 1 rfl d_Mo_signer_5 ?_
  refine ow_callV (b := 70) (cq := 12) (As := [.int p1]) (rest := []) (d2 := d) d_Mo_signer_6 l_Mo_272 v_Mo_isFolly (show 70 < 85 by decide) rfl (by decide) rfl (Nat.le_of_ble_eq_true rfl) (Nat.le_refl _) ⟨Nat.le_refl _, Nat.le_refl _⟩ (ow_mono T ?_)
  rintro r h' ⟨r8, I8, J8, R8, rfl, rfl, hR8, T⟩
  show ow_AW ow_Y0 (ow_Z Q) M_Mo_signer (d + 1) 0 0 9 [(0, .ref 70), (1, .int p1), (2, .int p2)] [.int r8] (85, I8, J8, R8) 0 0
  refine ow_if_ne (tgt := 18) d_Mo_signer_9 (by decide) (fun c => ?_) (fun c => ?_)
  · replace T := T.1 c
    refine ow_aload_n 0 rfl d_Mo_signer_18 ?_
    refine ow_callV (b := 70) (cq := 12) (As := []) (rest := []) (d2 := d) d_Mo_signer_19 l_Mo_281 v_Mo_asToldShapes (show 70 < 85 by decide) rfl (by decide) rfl (Nat.le_of_ble_eq_true rfl) (Nat.le_refl _) ⟨Nat.le_refl _, Nat.le_refl _⟩ (ow_mono T ?_)
    rintro r h' ⟨I9, J9, R9, rfl, rfl, hR9, T⟩
    show ow_AW ow_Y0 (ow_Z Q) M_Mo_signer (d + 1) 0 0 22 [(0, .ref 70), (1, .int p1), (2, .int p2)] [] (85, I9, J9, R9) 0 0
    refine ow_aload_n 0 rfl d_Mo_signer_22 ?_
    refine ow_aload_n 0 rfl d_Mo_signer_23 ?_
    refine ow_gR (a := 77) 188 d_Mo_signer_24 rfl rfl (by decide) rfl ⟨rfl, hR9 70 19 (by decide)⟩ ?_
    refine ow_aload_n 0 rfl d_Mo_signer_27 ?_
    refine ow_iload_n 1 rfl d_Mo_signer_28 ?_
    refine ow_iload_n 2 rfl d_Mo_signer_29 ?_
    refine ow_callV (b := 70) (cq := 12) (As := [.int p1, .int p2]) (rest := [.ref 77, .ref 70]) (d2 := d) d_Mo_signer_30 l_Mo_288 v_Mo_letterOf (show 70 < 85 by decide) rfl (by decide) rfl (Nat.le_of_ble_eq_true rfl) (Nat.le_refl _) ⟨Nat.le_refl _, Nat.le_refl _⟩ (ow_mono T ?_)
    rintro r h' ⟨r10, I10, J10, R10, rfl, rfl, hR10, T⟩
    show ow_AW ow_Y0 (ow_Z Q) M_Mo_signer (d + 1) 0 0 33 [(0, .ref 70), (1, .int p1), (2, .int p2)] [.int r10, .ref 77, .ref 70] (85, I10, J10, R10) 0 0
    refine ow_callV (b := 70) (cq := 12) (As := [.ref 77, .int r10]) (rest := []) (d2 := d) d_Mo_signer_33 l_Mo_261 v_Mo_goOver (show 70 < 85 by decide) rfl (by decide) rfl (Nat.le_of_ble_eq_true rfl) (Nat.le_refl _) ⟨Nat.le_refl _, Nat.le_refl _⟩ (ow_mono T ?_)
    rintro r h' ⟨I11, J11, R11, rfl, rfl, hR11, T⟩
    show ow_AW ow_Y0 (ow_Z Q) M_Mo_signer (d + 1) 0 0 36 [(0, .ref 70), (1, .int p1), (2, .int p2)] [] (85, I11, J11, R11) 0 0
    refine ow_aload_n 0 rfl d_Mo_signer_36 ?_
    refine ow_gI 197 d_Mo_signer_37 rfl rfl (by decide) rfl (Or.inl rfl) ?_
    exact ow_iret d_Mo_signer_40 rfl T
  · replace T := T.2 c
    refine ow_aload_n 0 rfl d_Mo_signer_12 ?_
    refine ow_iconst (v := 1) (by decide) d_Mo_signer_13 ?_
    refine ow_callV (b := 70) (cq := 12) (As := [.int 1]) (rest := []) (d2 := d) d_Mo_signer_14 l_Mo_157 v_Mo_no (show 70 < 85 by decide) rfl (by decide) rfl (Nat.le_of_ble_eq_true rfl) (Nat.le_refl _) ⟨Nat.le_refl _, Nat.le_refl _⟩ (ow_mono T ?_)
    rintro r h' ⟨r12, I12, J12, R12, rfl, rfl, hR12, T⟩
    show ow_AW ow_Y0 (ow_Z Q) M_Mo_signer (d + 1) 0 0 17 [(0, .ref 70), (1, .int p1), (2, .int p2)] [.int r12] (85, I12, J12, R12) 0 0
    exact ow_iret d_Mo_signer_17 rfl T
set_option maxRecDepth 4000 in
theorem t_Mo_course {d : Nat} {I : Nat → Nat → Int32} {J : Nat → Nat → Int64} {R : Nat → Nat → Option Nat} {Q : Option Value → ow_H → Prop} {p1 : Int32} {p2 : Int32}  (hR : ow_RF R) (T : (ow_AM M_Mo_good d [.ref 70] (85, I, J, R) (fun r h' => ∃ (I7 : Nat → Nat → Int32) (J7 : Nat → Nat → Int64) (R7 : Nat → Nat → Option Nat), r = none ∧ h' = (85, I7, J7, R7) ∧ ow_RF R7 ∧ (ow_AM M_Mo_isFolly d [.ref 70, .int p1] (85, I7, J7, R7) (fun r h' => ∃ (r8 : Int32) (I8 : Nat → Nat → Int32) (J8 : Nat → Nat → Int64) (R8 : Nat → Nat → Option Nat), r = some (.int r8) ∧ h' = (85, I8, J8, R8) ∧ ow_RF R8 ∧ ((¬ r8 = 0 → (ow_AM M_Mo_asToldShapes d [.ref 70] (85, I8, J8, R8) (fun r h' => ∃ (I9 : Nat → Nat → Int32) (J9 : Nat → Nat → Int64) (R9 : Nat → Nat → Option Nat), r = none ∧ h' = (85, I9, J9, R9) ∧ ow_RF R9 ∧ (ow_AM M_Mo_letterOf d [.ref 70, .int p1, .int p2] (85, I9, J9, R9) (fun r h' => ∃ (r10 : Int32) (I10 : Nat → Nat → Int32) (J10 : Nat → Nat → Int64) (R10 : Nat → Nat → Option Nat), r = some (.int r10) ∧ h' = (85, I10, J10, R10) ∧ ow_RF R10 ∧ (ow_AM M_Mo_goOver d [.ref 70, .ref 77, .int r10] (85, I10, J10, R10) (fun r h' => ∃ (I11 : Nat → Nat → Int32) (J11 : Nat → Nat → Int64) (R11 : Nat → Nat → Option Nat), r = none ∧ h' = (85, I11, J11, R11) ∧ ow_RF R11 ∧ Q (some (.int (I11 70 27))) (85, I11, J11, R11)))))))) ∧ (r8 = 0 → (ow_AM M_Mo_no d [.ref 70, .int 1] (85, I8, J8, R8) (fun r h' => ∃ (r12 : Int32) (I12 : Nat → Nat → Int32) (J12 : Nat → Nat → Int64) (R12 : Nat → Nat → Option Nat), r = some (.int r12) ∧ h' = (85, I12, J12, R12) ∧ ow_RF R12 ∧ Q (some (.int r12)) (85, I12, J12, R12)))))))))) : ow_AM M_Mo_course (d + 1) [.ref 70, .int p1, .int p2] (85, I, J, R) Q := by
  refine ow_enter (by decide) (Nat.le_of_ble_eq_true rfl) ?_
  show ow_AW ow_Y0 (ow_Z Q) M_Mo_course (d + 1) 0 0 0 [(0, .ref 70), (1, .int p1), (2, .int p2)] [] (85, I, J, R) 0 0
  refine ow_aload_n 0 rfl d_Mo_course_0 ?_
  refine ow_callV (b := 70) (cq := 12) (As := []) (rest := []) (d2 := d) d_Mo_course_1 l_Mo_154 v_Mo_good (show 70 < 85 by decide) rfl (by decide) rfl (Nat.le_of_ble_eq_true rfl) (Nat.le_refl _) ⟨Nat.le_refl _, Nat.le_refl _⟩ (ow_mono T ?_)
  rintro r h' ⟨I7, J7, R7, rfl, rfl, hR7, T⟩
  show ow_AW ow_Y0 (ow_Z Q) M_Mo_course (d + 1) 0 0 4 [(0, .ref 70), (1, .int p1), (2, .int p2)] [] (85, I7, J7, R7) 0 0
  refine ow_aload_n 0 rfl d_Mo_course_4 ?_
  refine ow_iload_n 1 rfl d_Mo_course_5 ?_
  refine ow_callV (b := 70) (cq := 12) (As := [.int p1]) (rest := []) (d2 := d) d_Mo_course_6 l_Mo_272 v_Mo_isFolly (show 70 < 85 by decide) rfl (by decide) rfl (Nat.le_of_ble_eq_true rfl) (Nat.le_refl _) ⟨Nat.le_refl _, Nat.le_refl _⟩ (ow_mono T ?_)
  rintro r h' ⟨r8, I8, J8, R8, rfl, rfl, hR8, T⟩
  show ow_AW ow_Y0 (ow_Z Q) M_Mo_course (d + 1) 0 0 9 [(0, .ref 70), (1, .int p1), (2, .int p2)] [.int r8] (85, I8, J8, R8) 0 0
  refine ow_if_ne (tgt := 18) d_Mo_course_9 (by decide) (fun c => ?_) (fun c => ?_)
  · replace T := T.1 c
    refine ow_aload_n 0 rfl d_Mo_course_18 ?_
    refine ow_callV (b := 70) (cq := 12) (As := []) (rest := []) (d2 := d) d_Mo_course_19 l_Mo_281 v_Mo_asToldShapes (show 70 < 85 by decide) rfl (by decide) rfl (Nat.le_of_ble_eq_true rfl) (Nat.le_refl _) ⟨Nat.le_refl _, Nat.le_refl _⟩ (ow_mono T ?_)
    rintro r h' ⟨I9, J9, R9, rfl, rfl, hR9, T⟩
    show ow_AW ow_Y0 (ow_Z Q) M_Mo_course (d + 1) 0 0 22 [(0, .ref 70), (1, .int p1), (2, .int p2)] [] (85, I9, J9, R9) 0 0
    refine ow_aload_n 0 rfl d_Mo_course_22 ?_
    refine ow_aload_n 0 rfl d_Mo_course_23 ?_
    refine ow_gR (a := 77) 188 d_Mo_course_24 rfl rfl (by decide) rfl ⟨rfl, hR9 70 19 (by decide)⟩ ?_
    refine ow_aload_n 0 rfl d_Mo_course_27 ?_
    refine ow_iload_n 1 rfl d_Mo_course_28 ?_
    refine ow_iload_n 2 rfl d_Mo_course_29 ?_
    refine ow_callV (b := 70) (cq := 12) (As := [.int p1, .int p2]) (rest := [.ref 77, .ref 70]) (d2 := d) d_Mo_course_30 l_Mo_288 v_Mo_letterOf (show 70 < 85 by decide) rfl (by decide) rfl (Nat.le_of_ble_eq_true rfl) (Nat.le_refl _) ⟨Nat.le_refl _, Nat.le_refl _⟩ (ow_mono T ?_)
    rintro r h' ⟨r10, I10, J10, R10, rfl, rfl, hR10, T⟩
    show ow_AW ow_Y0 (ow_Z Q) M_Mo_course (d + 1) 0 0 33 [(0, .ref 70), (1, .int p1), (2, .int p2)] [.int r10, .ref 77, .ref 70] (85, I10, J10, R10) 0 0
    refine ow_callV (b := 70) (cq := 12) (As := [.ref 77, .int r10]) (rest := []) (d2 := d) d_Mo_course_33 l_Mo_261 v_Mo_goOver (show 70 < 85 by decide) rfl (by decide) rfl (Nat.le_of_ble_eq_true rfl) (Nat.le_refl _) ⟨Nat.le_refl _, Nat.le_refl _⟩ (ow_mono T ?_)
    rintro r h' ⟨I11, J11, R11, rfl, rfl, hR11, T⟩
    show ow_AW ow_Y0 (ow_Z Q) M_Mo_course (d + 1) 0 0 36 [(0, .ref 70), (1, .int p1), (2, .int p2)] [] (85, I11, J11, R11) 0 0
    refine ow_aload_n 0 rfl d_Mo_course_36 ?_
    refine ow_gI 196 d_Mo_course_37 rfl rfl (by decide) rfl (Or.inl rfl) ?_
    exact ow_iret d_Mo_course_40 rfl T
  · replace T := T.2 c
    refine ow_aload_n 0 rfl d_Mo_course_12 ?_
    refine ow_iconst (v := 1) (by decide) d_Mo_course_13 ?_
    refine ow_callV (b := 70) (cq := 12) (As := [.int 1]) (rest := []) (d2 := d) d_Mo_course_14 l_Mo_157 v_Mo_no (show 70 < 85 by decide) rfl (by decide) rfl (Nat.le_of_ble_eq_true rfl) (Nat.le_refl _) ⟨Nat.le_refl _, Nat.le_refl _⟩ (ow_mono T ?_)
    rintro r h' ⟨r12, I12, J12, R12, rfl, rfl, hR12, T⟩
    show ow_AW ow_Y0 (ow_Z Q) M_Mo_course (d + 1) 0 0 17 [(0, .ref 70), (1, .int p1), (2, .int p2)] [.int r12] (85, I12, J12, R12) 0 0
    exact ow_iret d_Mo_course_17 rfl T
set_option maxRecDepth 4000 in
theorem t_Mo_courseAt {d : Nat} {I : Nat → Nat → Int32} {J : Nat → Nat → Int64} {R : Nat → Nat → Option Nat} {Q : Option Value → ow_H → Prop} {p1 : Int32} {p2 : Int32} {p3 : Int32}  (hR : ow_RF R) (T : (ow_AM M_Mo_good d [.ref 70] (85, I, J, R) (fun r h' => ∃ (I9 : Nat → Nat → Int32) (J9 : Nat → Nat → Int64) (R9 : Nat → Nat → Option Nat), r = none ∧ h' = (85, I9, J9, R9) ∧ ow_RF R9 ∧ (ow_AM M_Mo_isFolly d [.ref 70, .int p1] (85, I9, J9, R9) (fun r h' => ∃ (r10 : Int32) (I10 : Nat → Nat → Int32) (J10 : Nat → Nat → Int64) (R10 : Nat → Nat → Option Nat), r = some (.int r10) ∧ h' = (85, I10, J10, R10) ∧ ow_RF R10 ∧ ((¬ r10 = 0 → (ow_AM M_Mo_asToldShapes d [.ref 70] (85, I10, J10, R10) (fun r h' => ∃ (I11 : Nat → Nat → Int32) (J11 : Nat → Nat → Int64) (R11 : Nat → Nat → Option Nat), r = none ∧ h' = (85, I11, J11, R11) ∧ ow_RF R11 ∧ (ow_AM M_Mo_letterOf d [.ref 70, .int p1, .int p2] (85, I11, J11, R11) (fun r h' => ∃ (r12 : Int32) (I12 : Nat → Nat → Int32) (J12 : Nat → Nat → Int64) (R12 : Nat → Nat → Option Nat), r = some (.int r12) ∧ h' = (85, I12, J12, R12) ∧ ow_RF R12 ∧ (ow_AM M_Mo_goOver d [.ref 70, .ref 77, .int r12] (85, I12, J12, R12) (fun r h' => ∃ (I13 : Nat → Nat → Int32) (J13 : Nat → Nat → Int64) (R13 : Nat → Nat → Option Nat), r = none ∧ h' = (85, I13, J13, R13) ∧ ow_RF R13 ∧ (ow_AM M_Mo_in d [.int p3, .int 0, .int ((I13 70 26) - 1)] (85, I13, J13, R13) (fun r h' => ∃ (r14 : Int32) (I14 : Nat → Nat → Int32) (J14 : Nat → Nat → Int64) (R14 : Nat → Nat → Option Nat), r = some (.int r14) ∧ h' = (85, I14, J14, R14) ∧ ow_RF R14 ∧ ((r14 = 0 → (ow_AM M_Mo_no d [.ref 70, .int 1] (85, I14, J14, R14) (fun r h' => ∃ (r15 : Int32) (I15 : Nat → Nat → Int32) (J15 : Nat → Nat → Int64) (R15 : Nat → Nat → Option Nat), r = some (.int r15) ∧ h' = (85, I15, J15, R15) ∧ ow_RF R15 ∧ Q (some (.int r15)) (85, I15, J15, R15)))) ∧ (¬ r14 = 0 → (vp_in p3 6 ∧ Q (some (.int (I14 81 p3.toNatClampNeg))) (85, I14, J14, R14))))))))))))) ∧ (r10 = 0 → (ow_AM M_Mo_no d [.ref 70, .int 1] (85, I10, J10, R10) (fun r h' => ∃ (r16 : Int32) (I16 : Nat → Nat → Int32) (J16 : Nat → Nat → Int64) (R16 : Nat → Nat → Option Nat), r = some (.int r16) ∧ h' = (85, I16, J16, R16) ∧ ow_RF R16 ∧ Q (some (.int r16)) (85, I16, J16, R16)))))))))) : ow_AM M_Mo_courseAt (d + 1) [.ref 70, .int p1, .int p2, .int p3] (85, I, J, R) Q := by
  refine ow_enter (by decide) (Nat.le_of_ble_eq_true rfl) ?_
  show ow_AW ow_Y0 (ow_Z Q) M_Mo_courseAt (d + 1) 0 0 0 [(0, .ref 70), (1, .int p1), (2, .int p2), (3, .int p3)] [] (85, I, J, R) 0 0
  refine ow_aload_n 0 rfl d_Mo_courseAt_0 ?_
  refine ow_callV (b := 70) (cq := 12) (As := []) (rest := []) (d2 := d) d_Mo_courseAt_1 l_Mo_154 v_Mo_good (show 70 < 85 by decide) rfl (by decide) rfl (Nat.le_of_ble_eq_true rfl) (Nat.le_refl _) ⟨Nat.le_refl _, Nat.le_refl _⟩ (ow_mono T ?_)
  rintro r h' ⟨I9, J9, R9, rfl, rfl, hR9, T⟩
  show ow_AW ow_Y0 (ow_Z Q) M_Mo_courseAt (d + 1) 0 0 4 [(0, .ref 70), (1, .int p1), (2, .int p2), (3, .int p3)] [] (85, I9, J9, R9) 0 0
  refine ow_aload_n 0 rfl d_Mo_courseAt_4 ?_
  refine ow_iload_n 1 rfl d_Mo_courseAt_5 ?_
  refine ow_callV (b := 70) (cq := 12) (As := [.int p1]) (rest := []) (d2 := d) d_Mo_courseAt_6 l_Mo_272 v_Mo_isFolly (show 70 < 85 by decide) rfl (by decide) rfl (Nat.le_of_ble_eq_true rfl) (Nat.le_refl _) ⟨Nat.le_refl _, Nat.le_refl _⟩ (ow_mono T ?_)
  rintro r h' ⟨r10, I10, J10, R10, rfl, rfl, hR10, T⟩
  show ow_AW ow_Y0 (ow_Z Q) M_Mo_courseAt (d + 1) 0 0 9 [(0, .ref 70), (1, .int p1), (2, .int p2), (3, .int p3)] [.int r10] (85, I10, J10, R10) 0 0
  refine ow_if_ne (tgt := 18) d_Mo_courseAt_9 (by decide) (fun c => ?_) (fun c => ?_)
  · replace T := T.1 c
    refine ow_aload_n 0 rfl d_Mo_courseAt_18 ?_
    refine ow_callV (b := 70) (cq := 12) (As := []) (rest := []) (d2 := d) d_Mo_courseAt_19 l_Mo_281 v_Mo_asToldShapes (show 70 < 85 by decide) rfl (by decide) rfl (Nat.le_of_ble_eq_true rfl) (Nat.le_refl _) ⟨Nat.le_refl _, Nat.le_refl _⟩ (ow_mono T ?_)
    rintro r h' ⟨I11, J11, R11, rfl, rfl, hR11, T⟩
    show ow_AW ow_Y0 (ow_Z Q) M_Mo_courseAt (d + 1) 0 0 22 [(0, .ref 70), (1, .int p1), (2, .int p2), (3, .int p3)] [] (85, I11, J11, R11) 0 0
    refine ow_aload_n 0 rfl d_Mo_courseAt_22 ?_
    refine ow_aload_n 0 rfl d_Mo_courseAt_23 ?_
    refine ow_gR (a := 77) 188 d_Mo_courseAt_24 rfl rfl (by decide) rfl ⟨rfl, hR11 70 19 (by decide)⟩ ?_
    refine ow_aload_n 0 rfl d_Mo_courseAt_27 ?_
    refine ow_iload_n 1 rfl d_Mo_courseAt_28 ?_
    refine ow_iload_n 2 rfl d_Mo_courseAt_29 ?_
    refine ow_callV (b := 70) (cq := 12) (As := [.int p1, .int p2]) (rest := [.ref 77, .ref 70]) (d2 := d) d_Mo_courseAt_30 l_Mo_288 v_Mo_letterOf (show 70 < 85 by decide) rfl (by decide) rfl (Nat.le_of_ble_eq_true rfl) (Nat.le_refl _) ⟨Nat.le_refl _, Nat.le_refl _⟩ (ow_mono T ?_)
    rintro r h' ⟨r12, I12, J12, R12, rfl, rfl, hR12, T⟩
    show ow_AW ow_Y0 (ow_Z Q) M_Mo_courseAt (d + 1) 0 0 33 [(0, .ref 70), (1, .int p1), (2, .int p2), (3, .int p3)] [.int r12, .ref 77, .ref 70] (85, I12, J12, R12) 0 0
    refine ow_callV (b := 70) (cq := 12) (As := [.ref 77, .int r12]) (rest := []) (d2 := d) d_Mo_courseAt_33 l_Mo_261 v_Mo_goOver (show 70 < 85 by decide) rfl (by decide) rfl (Nat.le_of_ble_eq_true rfl) (Nat.le_refl _) ⟨Nat.le_refl _, Nat.le_refl _⟩ (ow_mono T ?_)
    rintro r h' ⟨I13, J13, R13, rfl, rfl, hR13, T⟩
    show ow_AW ow_Y0 (ow_Z Q) M_Mo_courseAt (d + 1) 0 0 36 [(0, .ref 70), (1, .int p1), (2, .int p2), (3, .int p3)] [] (85, I13, J13, R13) 0 0
    refine ow_iload_n 3 rfl d_Mo_courseAt_36 ?_
    refine ow_iconst (v := 0) (by decide) d_Mo_courseAt_37 ?_
    refine ow_aload_n 0 rfl d_Mo_courseAt_38 ?_
    refine ow_gI 195 d_Mo_courseAt_39 rfl rfl (by decide) rfl (Or.inl rfl) ?_
    refine ow_iconst (v := 1) (by decide) d_Mo_courseAt_42 ?_
    refine ow_isub d_Mo_courseAt_43 ?_
    refine ow_callS (As := [.int p3, .int 0, .int ((I13 70 26) - 1)]) (rest := []) (d2 := d) d_Mo_courseAt_44 l_Mo_142 v_Mo_in (Nat.le_of_ble_eq_true rfl) (Nat.le_refl _) ⟨Nat.le_refl _, Nat.le_refl _⟩ (ow_mono T ?_)
    rintro r h' ⟨r14, I14, J14, R14, rfl, rfl, hR14, T⟩
    show ow_AW ow_Y0 (ow_Z Q) M_Mo_courseAt (d + 1) 0 0 47 [(0, .ref 70), (1, .int p1), (2, .int p2), (3, .int p3)] [.int r14] (85, I14, J14, R14) 0 0
    refine ow_if_eq (tgt := 59) d_Mo_courseAt_47 (by decide) (fun c => ?_) (fun c => ?_)
    · replace T := T.1 c
      refine ow_aload_n 0 rfl d_Mo_courseAt_59 ?_
      refine ow_iconst (v := 1) (by decide) d_Mo_courseAt_60 ?_
      refine ow_callV (b := 70) (cq := 12) (As := [.int 1]) (rest := []) (d2 := d) d_Mo_courseAt_61 l_Mo_157 v_Mo_no (show 70 < 85 by decide) rfl (by decide) rfl (Nat.le_of_ble_eq_true rfl) (Nat.le_refl _) ⟨Nat.le_refl _, Nat.le_refl _⟩ (ow_mono T ?_)
      rintro r h' ⟨r15, I15, J15, R15, rfl, rfl, hR15, T⟩
      show ow_AW ow_Y0 (ow_Z Q) M_Mo_courseAt (d + 1) 0 0 64 [(0, .ref 70), (1, .int p1), (2, .int p2), (3, .int p3)] [.int r15] (85, I15, J15, R15) 0 0
      exact ow_iret d_Mo_courseAt_64 rfl T
    · replace T := T.2 c
      refine ow_aload_n 0 rfl d_Mo_courseAt_50 ?_
      refine ow_gR (a := 81) 194 d_Mo_courseAt_51 rfl rfl (by decide) rfl ⟨rfl, hR14 70 25 (by decide)⟩ ?_
      refine ow_iload_n 3 rfl d_Mo_courseAt_54 ?_
      obtain ⟨cI, T⟩ := T
      refine ow_hiaload d_Mo_courseAt_55 (by decide) rfl rfl cI ?_
      refine ow_goto (tgt := 64) d_Mo_courseAt_56 (by decide) ?_
      exact ow_iret d_Mo_courseAt_64 rfl T
  · replace T := T.2 c
    refine ow_aload_n 0 rfl d_Mo_courseAt_12 ?_
    refine ow_iconst (v := 1) (by decide) d_Mo_courseAt_13 ?_
    refine ow_callV (b := 70) (cq := 12) (As := [.int 1]) (rest := []) (d2 := d) d_Mo_courseAt_14 l_Mo_157 v_Mo_no (show 70 < 85 by decide) rfl (by decide) rfl (Nat.le_of_ble_eq_true rfl) (Nat.le_refl _) ⟨Nat.le_refl _, Nat.le_refl _⟩ (ow_mono T ?_)
    rintro r h' ⟨r16, I16, J16, R16, rfl, rfl, hR16, T⟩
    show ow_AW ow_Y0 (ow_Z Q) M_Mo_courseAt (d + 1) 0 0 17 [(0, .ref 70), (1, .int p1), (2, .int p2), (3, .int p3)] [.int r16] (85, I16, J16, R16) 0 0
    exact ow_iret d_Mo_courseAt_17 rfl T
set_option maxRecDepth 4000 in
theorem t_Mo_served {d : Nat} {I : Nat → Nat → Int32} {J : Nat → Nat → Int64} {R : Nat → Nat → Option Nat} {Q : Option Value → ow_H → Prop}   (hR : ow_RF R) (T : (ow_AM M_Mo_good d [.ref 70] (85, I, J, R) (fun r h' => ∃ (I5 : Nat → Nat → Int32) (J5 : Nat → Nat → Int64) (R5 : Nat → Nat → Option Nat), r = none ∧ h' = (85, I5, J5, R5) ∧ ow_RF R5 ∧ ((¬ (I5 70 14) = 0 → (ow_AM M_Mo_asToldShapes d [.ref 70] (85, I5, J5, R5) (fun r h' => ∃ (I6 : Nat → Nat → Int32) (J6 : Nat → Nat → Int64) (R6 : Nat → Nat → Option Nat), r = none ∧ h' = (85, I6, J6, R6) ∧ ow_RF R6 ∧ (ow_AM M_Mo_servedOn d [.ref 70, .ref 77] (85, I6, J6, R6) (fun r h' => ∃ (r7 : Int32) (I7 : Nat → Nat → Int32) (J7 : Nat → Nat → Int64) (R7 : Nat → Nat → Option Nat), r = some (.int r7) ∧ h' = (85, I7, J7, R7) ∧ ow_RF R7 ∧ Q (some (.int r7)) (85, I7, J7, R7)))))) ∧ ((I5 70 14) = 0 → (ow_AM M_Mo_no d [.ref 70, .int 1] (85, I5, J5, R5) (fun r h' => ∃ (r8 : Int32) (I8 : Nat → Nat → Int32) (J8 : Nat → Nat → Int64) (R8 : Nat → Nat → Option Nat), r = some (.int r8) ∧ h' = (85, I8, J8, R8) ∧ ow_RF R8 ∧ Q (some (.int r8)) (85, I8, J8, R8)))))))) : ow_AM M_Mo_served (d + 1) [.ref 70] (85, I, J, R) Q := by
  refine ow_enter (by decide) (Nat.le_of_ble_eq_true rfl) ?_
  show ow_AW ow_Y0 (ow_Z Q) M_Mo_served (d + 1) 0 0 0 [(0, .ref 70)] [] (85, I, J, R) 0 0
  refine ow_aload_n 0 rfl d_Mo_served_0 ?_
  refine ow_callV (b := 70) (cq := 12) (As := []) (rest := []) (d2 := d) d_Mo_served_1 l_Mo_154 v_Mo_good (show 70 < 85 by decide) rfl (by decide) rfl (Nat.le_of_ble_eq_true rfl) (Nat.le_refl _) ⟨Nat.le_refl _, Nat.le_refl _⟩ (ow_mono T ?_)
  rintro r h' ⟨I5, J5, R5, rfl, rfl, hR5, T⟩
  show ow_AW ow_Y0 (ow_Z Q) M_Mo_served (d + 1) 0 0 4 [(0, .ref 70)] [] (85, I5, J5, R5) 0 0
  refine ow_aload_n 0 rfl d_Mo_served_4 ?_
  refine ow_gI 183 d_Mo_served_5 rfl rfl (by decide) rfl (Or.inr rfl) ?_
  refine ow_if_ne (tgt := 17) d_Mo_served_8 (by decide) (fun c => ?_) (fun c => ?_)
  · replace T := T.1 c
    refine ow_aload_n 0 rfl d_Mo_served_17 ?_
    refine ow_callV (b := 70) (cq := 12) (As := []) (rest := []) (d2 := d) d_Mo_served_18 l_Mo_281 v_Mo_asToldShapes (show 70 < 85 by decide) rfl (by decide) rfl (Nat.le_of_ble_eq_true rfl) (Nat.le_refl _) ⟨Nat.le_refl _, Nat.le_refl _⟩ (ow_mono T ?_)
    rintro r h' ⟨I6, J6, R6, rfl, rfl, hR6, T⟩
    show ow_AW ow_Y0 (ow_Z Q) M_Mo_served (d + 1) 0 0 21 [(0, .ref 70)] [] (85, I6, J6, R6) 0 0
    refine ow_aload_n 0 rfl d_Mo_served_21 ?_
    refine ow_aload_n 0 rfl d_Mo_served_22 ?_
    refine ow_gR (a := 77) 188 d_Mo_served_23 rfl rfl (by decide) rfl ⟨rfl, hR6 70 19 (by decide)⟩ ?_
    refine ow_callV (b := 70) (cq := 12) (As := [.ref 77]) (rest := []) (d2 := d) d_Mo_served_26 l_Mo_284 v_Mo_servedOn (show 70 < 85 by decide) rfl (by decide) rfl (Nat.le_of_ble_eq_true rfl) (Nat.le_refl _) ⟨Nat.le_refl _, Nat.le_refl _⟩ (ow_mono T ?_)
    rintro r h' ⟨r7, I7, J7, R7, rfl, rfl, hR7, T⟩
    show ow_AW ow_Y0 (ow_Z Q) M_Mo_served (d + 1) 0 0 29 [(0, .ref 70)] [.int r7] (85, I7, J7, R7) 0 0
    exact ow_iret d_Mo_served_29 rfl T
  · replace T := T.2 c
    refine ow_aload_n 0 rfl d_Mo_served_11 ?_
    refine ow_iconst (v := 1) (by decide) d_Mo_served_12 ?_
    refine ow_callV (b := 70) (cq := 12) (As := [.int 1]) (rest := []) (d2 := d) d_Mo_served_13 l_Mo_157 v_Mo_no (show 70 < 85 by decide) rfl (by decide) rfl (Nat.le_of_ble_eq_true rfl) (Nat.le_refl _) ⟨Nat.le_refl _, Nat.le_refl _⟩ (ow_mono T ?_)
    rintro r h' ⟨r8, I8, J8, R8, rfl, rfl, hR8, T⟩
    show ow_AW ow_Y0 (ow_Z Q) M_Mo_served (d + 1) 0 0 16 [(0, .ref 70)] [.int r8] (85, I8, J8, R8) 0 0
    exact ow_iret d_Mo_served_16 rfl T
set_option maxRecDepth 4000 in
theorem t_Mo_comesBack_4 {d : Nat} {I : Nat → Nat → Int32} {J : Nat → Nat → Int64} {R : Nat → Nat → Option Nat} {Q : Option Value → ow_H → Prop}  {v1 : Int32} {v2 : Int32} {v3 : Int32}  (hR : ow_RF R) (T : ((6 ≤ v3 → Q (some (.int 0)) (85, I, J, R)) ∧ (¬ 6 ≤ v3 → (vp_in (6 + v2) 14 ∧ ((¬ (I 77 (6 + v2).toNatClampNeg) = 0 → (vp_in (6 + v2) 14 ∧ ((¬ ((I 77 (6 + v2).toNatClampNeg) - 1) = v1 → ow_AW ow_Y0 (ow_Z Q) M_Mo_comesBack (d + 1) 0 0 4 [(0, .ref 70), (1, .int v1), (2, .int ((I 77 (6 + v2).toNatClampNeg) - 1)), (3, .int (v3 + 1))] [] (85, I, J, R) 0 0) ∧ (((I 77 (6 + v2).toNatClampNeg) - 1) = v1 → Q (some (.int 1)) (85, I, J, R))))) ∧ ((I 77 (6 + v2).toNatClampNeg) = 0 → Q (some (.int 0)) (85, I, J, R))))))) : ow_AW ow_Y0 (ow_Z Q) M_Mo_comesBack (d + 1) 0 0 4 [(0, .ref 70), (1, .int v1), (2, .int v2), (3, .int v3)] [] (85, I, J, R) 0 0 := by
  refine ow_iload_n 3 rfl d_Mo_comesBack_4 ?_
  refine ow_bipush (v := 6) (by decide) d_Mo_comesBack_5 ?_
  refine ow_icmp_ge (tgt := 49) d_Mo_comesBack_7 (by decide) (fun c => ?_) (fun c => ?_)
  · replace T := T.1 c
    refine ow_iconst (v := 0) (by decide) d_Mo_comesBack_49 ?_
    exact ow_zret d_Mo_comesBack_50 rfl (by decide) T
  · replace T := T.2 c
    refine ow_aload_n 0 rfl d_Mo_comesBack_10 ?_
    refine ow_gR (a := 77) 188 d_Mo_comesBack_11 rfl rfl (by decide) rfl ⟨rfl, hR 70 19 (by decide)⟩ ?_
    refine ow_bipush (v := 6) (by decide) d_Mo_comesBack_14 ?_
    refine ow_iload_n 2 rfl d_Mo_comesBack_16 ?_
    refine ow_iadd d_Mo_comesBack_17 ?_
    obtain ⟨cI, T⟩ := T
    refine ow_hiaload d_Mo_comesBack_18 (by decide) rfl rfl cI ?_
    refine ow_if_ne (tgt := 24) d_Mo_comesBack_19 (by decide) (fun c => ?_) (fun c => ?_)
    · replace T := T.1 c
      refine ow_aload_n 0 rfl d_Mo_comesBack_24 ?_
      refine ow_gR (a := 77) 188 d_Mo_comesBack_25 rfl rfl (by decide) rfl ⟨rfl, hR 70 19 (by decide)⟩ ?_
      refine ow_bipush (v := 6) (by decide) d_Mo_comesBack_28 ?_
      refine ow_iload_n 2 rfl d_Mo_comesBack_30 ?_
      refine ow_iadd d_Mo_comesBack_31 ?_
      obtain ⟨cI, T⟩ := T
      refine ow_hiaload d_Mo_comesBack_32 (by decide) rfl rfl cI ?_
      refine ow_iconst (v := 1) (by decide) d_Mo_comesBack_33 ?_
      refine ow_isub d_Mo_comesBack_34 ?_
      refine ow_istore_n (ls2 := [(2, .int ((I 77 (6 + v2).toNatClampNeg) - 1)), (0, .ref 70), (1, .int v1), (3, .int v3)]) d_Mo_comesBack_35 (by decide) rfl ?_
      refine ow_iload_n 0 rfl d_Mo_comesBack_36 ?_
      refine ow_iload_n 2 rfl d_Mo_comesBack_37 ?_
      refine ow_icmp_ne (tgt := 43) d_Mo_comesBack_38 (by decide) (fun c => ?_) (fun c => ?_)
      · replace T := T.1 c
        refine ow_iinc 3 (v := (v3 + 1)) (ls2 := [(3, .int (v3 + 1)), (2, .int ((I 77 (6 + v2).toNatClampNeg) - 1)), (0, .ref 70), (1, .int v1)]) d_Mo_comesBack_43 rfl rfl (by decide) rfl ?_
        refine ow_goto (tgt := 4) d_Mo_comesBack_46 (by decide) ?_
        refine ow_sub [2, 3, 1, 0] rfl ?_
        exact T
      · replace T := T.2 c
        refine ow_iconst (v := 1) (by decide) d_Mo_comesBack_41 ?_
        exact ow_zret d_Mo_comesBack_42 rfl (by decide) T
    · replace T := T.2 c
      refine ow_iconst (v := 0) (by decide) d_Mo_comesBack_22 ?_
      exact ow_zret d_Mo_comesBack_23 rfl (by decide) T
set_option maxRecDepth 4000 in
theorem t_Mo_comesBack {d : Nat} {I : Nat → Nat → Int32} {J : Nat → Nat → Int64} {R : Nat → Nat → Option Nat} {Q : Option Value → ow_H → Prop} {p1 : Int32}  (hR : ow_RF R) (T : ow_AW ow_Y0 (ow_Z Q) M_Mo_comesBack (d + 1) 0 0 4 [(0, .ref 70), (1, .int p1), (2, .int p1), (3, .int 0)] [] (85, I, J, R) 0 0) : ow_AM M_Mo_comesBack (d + 1) [.ref 70, .int p1] (85, I, J, R) Q := by
  refine ow_enter (by decide) (Nat.le_of_ble_eq_true rfl) ?_
  show ow_AW ow_Y0 (ow_Z Q) M_Mo_comesBack (d + 1) 0 0 0 [(0, .ref 70), (1, .int p1)] [] (85, I, J, R) 0 0
  refine ow_iload_n 1 rfl d_Mo_comesBack_0 ?_
  refine ow_istore_n (ls2 := [(2, .int p1), (0, .ref 70), (1, .int p1)]) d_Mo_comesBack_1 (by decide) rfl ?_
  refine ow_iconst (v := 0) (by decide) d_Mo_comesBack_2 ?_
  refine ow_istore_n (ls2 := [(3, .int 0), (2, .int p1), (0, .ref 70), (1, .int p1)]) d_Mo_comesBack_3 (by decide) rfl ?_
  refine ow_sub [2, 3, 1, 0] rfl ?_
  exact T
set_option maxRecDepth 4000 in
theorem t_Mo_rounds_21 {d : Nat} {I : Nat → Nat → Int32} {J : Nat → Nat → Int64} {R : Nat → Nat → Option Nat} {Q : Option Value → ow_H → Prop}  {v1 : Int32} {v2 : Int32}  (hR : ow_RF R) (T : (((I 73 2) ≤ v2 → Q (some (.int v1)) (85, I, J, R)) ∧ (¬ (I 73 2) ≤ v2 → (ow_AM M_Mo_comesBack d [.ref 70, .int v2] (85, I, J, R) (fun r h' => ∃ (r3 : Int32) (I3 : Nat → Nat → Int32) (J3 : Nat → Nat → Int64) (R3 : Nat → Nat → Option Nat), r = some (.int r3) ∧ h' = (85, I3, J3, R3) ∧ ow_RF R3 ∧ ((r3 = 0 → ow_AW ow_Y0 (ow_Z Q) M_Mo_rounds (d + 1) 0 0 21 [(0, .ref 70), (1, .int (v1 ||| 0)), (2, .int (v2 + 1))] [] (85, I3, J3, R3) 0 0) ∧ (¬ r3 = 0 → ow_AW ow_Y0 (ow_Z Q) M_Mo_rounds (d + 1) 0 0 21 [(0, .ref 70), (1, .int (v1 ||| ((1 : Int32) <<< (v2 &&& 31)))), (2, .int (v2 + 1))] [] (85, I3, J3, R3) 0 0))))))) : ow_AW ow_Y0 (ow_Z Q) M_Mo_rounds (d + 1) 0 0 21 [(0, .ref 70), (1, .int v1), (2, .int v2)] [] (85, I, J, R) 0 0 := by
  refine ow_iload_n 2 rfl d_Mo_rounds_21 ?_
  refine ow_aload_n 0 rfl d_Mo_rounds_22 ?_
  refine ow_gR (a := 73) 184 d_Mo_rounds_23 rfl rfl (by decide) rfl ⟨rfl, hR 70 15 (by decide)⟩ ?_
  refine ow_iconst (v := 2) (by decide) d_Mo_rounds_26 ?_
  refine ow_hiaload d_Mo_rounds_27 (by decide) rfl rfl (show vp_in (2 : Int32) 146 by unfold vp_in; decide) ?_
  show ow_AW ow_Y0 (ow_Z Q) M_Mo_rounds (d + 1) 0 0 28 [(0, .ref 70), (1, .int v1), (2, .int v2)] [.int (I 73 2), .int v2] (85, I, J, R) 0 0
  refine ow_icmp_ge (tgt := 55) d_Mo_rounds_28 (by decide) (fun c => ?_) (fun c => ?_)
  · replace T := T.1 c
    refine ow_iload_n 1 rfl d_Mo_rounds_55 ?_
    exact ow_iret d_Mo_rounds_56 rfl T
  · replace T := T.2 c
    refine ow_iload_n 1 rfl d_Mo_rounds_31 ?_
    refine ow_aload_n 0 rfl d_Mo_rounds_32 ?_
    refine ow_iload_n 2 rfl d_Mo_rounds_33 ?_
    refine ow_callV (b := 70) (cq := 12) (As := [.int v2]) (rest := [.int v1]) (d2 := d) d_Mo_rounds_34 l_Mo_295 v_Mo_comesBack (show 70 < 85 by decide) rfl (by decide) rfl (Nat.le_of_ble_eq_true rfl) (Nat.le_refl _) ⟨Nat.le_refl _, Nat.le_refl _⟩ (ow_mono T ?_)
    rintro r h' ⟨r3, I3, J3, R3, rfl, rfl, hR3, T⟩
    show ow_AW ow_Y0 (ow_Z Q) M_Mo_rounds (d + 1) 0 0 37 [(0, .ref 70), (1, .int v1), (2, .int v2)] [.int r3, .int v1] (85, I3, J3, R3) 0 0
    refine ow_if_eq (tgt := 46) d_Mo_rounds_37 (by decide) (fun c => ?_) (fun c => ?_)
    · replace T := T.1 c
      refine ow_iconst (v := 0) (by decide) d_Mo_rounds_46 ?_
      refine ow_ior d_Mo_rounds_47 ?_
      refine ow_istore_n (ls2 := [(1, .int (v1 ||| 0)), (0, .ref 70), (2, .int v2)]) d_Mo_rounds_48 (by decide) rfl ?_
      refine ow_iinc 2 (v := (v2 + 1)) (ls2 := [(2, .int (v2 + 1)), (1, .int (v1 ||| 0)), (0, .ref 70)]) d_Mo_rounds_49 rfl rfl (by decide) rfl ?_
      refine ow_goto (tgt := 21) d_Mo_rounds_52 (by decide) ?_
      refine ow_sub [2, 1, 0] rfl ?_
      exact T
    · replace T := T.2 c
      refine ow_iconst (v := 1) (by decide) d_Mo_rounds_40 ?_
      refine ow_iload_n 2 rfl d_Mo_rounds_41 ?_
      refine ow_ishl d_Mo_rounds_42 ?_
      refine ow_goto (tgt := 47) d_Mo_rounds_43 (by decide) ?_
      refine ow_ior d_Mo_rounds_47 ?_
      refine ow_istore_n (ls2 := [(1, .int (v1 ||| ((1 : Int32) <<< (v2 &&& 31)))), (0, .ref 70), (2, .int v2)]) d_Mo_rounds_48 (by decide) rfl ?_
      refine ow_iinc 2 (v := (v2 + 1)) (ls2 := [(2, .int (v2 + 1)), (1, .int (v1 ||| ((1 : Int32) <<< (v2 &&& 31)))), (0, .ref 70)]) d_Mo_rounds_49 rfl rfl (by decide) rfl ?_
      refine ow_goto (tgt := 21) d_Mo_rounds_52 (by decide) ?_
      refine ow_sub [2, 1, 0] rfl ?_
      exact T
set_option maxRecDepth 4000 in
theorem t_Mo_rounds {d : Nat} {I : Nat → Nat → Int32} {J : Nat → Nat → Int64} {R : Nat → Nat → Option Nat} {Q : Option Value → ow_H → Prop}   (hR : ow_RF R) (T : (ow_AM M_Mo_good d [.ref 70] (85, I, J, R) (fun r h' => ∃ (I4 : Nat → Nat → Int32) (J4 : Nat → Nat → Int64) (R4 : Nat → Nat → Option Nat), r = none ∧ h' = (85, I4, J4, R4) ∧ ow_RF R4 ∧ ((¬ (I4 70 14) = 0 → ow_AW ow_Y0 (ow_Z Q) M_Mo_rounds (d + 1) 0 0 21 [(0, .ref 70), (1, .int 0), (2, .int 0)] [] (85, I4, J4, R4) 0 0) ∧ ((I4 70 14) = 0 → (ow_AM M_Mo_no d [.ref 70, .int 1] (85, I4, J4, R4) (fun r h' => ∃ (r5 : Int32) (I5 : Nat → Nat → Int32) (J5 : Nat → Nat → Int64) (R5 : Nat → Nat → Option Nat), r = some (.int r5) ∧ h' = (85, I5, J5, R5) ∧ ow_RF R5 ∧ Q (some (.int r5)) (85, I5, J5, R5)))))))) : ow_AM M_Mo_rounds (d + 1) [.ref 70] (85, I, J, R) Q := by
  refine ow_enter (by decide) (Nat.le_of_ble_eq_true rfl) ?_
  show ow_AW ow_Y0 (ow_Z Q) M_Mo_rounds (d + 1) 0 0 0 [(0, .ref 70)] [] (85, I, J, R) 0 0
  refine ow_aload_n 0 rfl d_Mo_rounds_0 ?_
  refine ow_callV (b := 70) (cq := 12) (As := []) (rest := []) (d2 := d) d_Mo_rounds_1 l_Mo_154 v_Mo_good (show 70 < 85 by decide) rfl (by decide) rfl (Nat.le_of_ble_eq_true rfl) (Nat.le_refl _) ⟨Nat.le_refl _, Nat.le_refl _⟩ (ow_mono T ?_)
  rintro r h' ⟨I4, J4, R4, rfl, rfl, hR4, T⟩
  show ow_AW ow_Y0 (ow_Z Q) M_Mo_rounds (d + 1) 0 0 4 [(0, .ref 70)] [] (85, I4, J4, R4) 0 0
  refine ow_aload_n 0 rfl d_Mo_rounds_4 ?_
  refine ow_gI 183 d_Mo_rounds_5 rfl rfl (by decide) rfl (Or.inr rfl) ?_
  refine ow_if_ne (tgt := 17) d_Mo_rounds_8 (by decide) (fun c => ?_) (fun c => ?_)
  · replace T := T.1 c
    refine ow_iconst (v := 0) (by decide) d_Mo_rounds_17 ?_
    refine ow_istore_n (ls2 := [(1, .int 0), (0, .ref 70)]) d_Mo_rounds_18 (by decide) rfl ?_
    refine ow_iconst (v := 0) (by decide) d_Mo_rounds_19 ?_
    refine ow_istore_n (ls2 := [(2, .int 0), (1, .int 0), (0, .ref 70)]) d_Mo_rounds_20 (by decide) rfl ?_
    refine ow_sub [2, 1, 0] rfl ?_
    exact T
  · replace T := T.2 c
    refine ow_aload_n 0 rfl d_Mo_rounds_11 ?_
    refine ow_iconst (v := 1) (by decide) d_Mo_rounds_12 ?_
    refine ow_callV (b := 70) (cq := 12) (As := [.int 1]) (rest := []) (d2 := d) d_Mo_rounds_13 l_Mo_157 v_Mo_no (show 70 < 85 by decide) rfl (by decide) rfl (Nat.le_of_ble_eq_true rfl) (Nat.le_refl _) ⟨Nat.le_refl _, Nat.le_refl _⟩ (ow_mono T ?_)
    rintro r h' ⟨r5, I5, J5, R5, rfl, rfl, hR5, T⟩
    show ow_AW ow_Y0 (ow_Z Q) M_Mo_rounds (d + 1) 0 0 16 [(0, .ref 70)] [.int r5] (85, I5, J5, R5) 0 0
    exact ow_iret d_Mo_rounds_16 rfl T
set_option maxRecDepth 4000 in
theorem t_Mo_idle_25 {d : Nat} {I : Nat → Nat → Int32} {J : Nat → Nat → Int64} {R : Nat → Nat → Option Nat} {Q : Option Value → ow_H → Prop}  {v1 : Int32} {v2 : Int32}  (hR : ow_RF R) (T : (((2 * (I 73 2)) ≤ v2 → ow_AW ow_Y0 (ow_Z Q) M_Mo_idle (d + 1) 0 0 74 [(0, .ref 70), (1, .int v1), (2, .int 0)] [] (85, I, J, R) 0 0) ∧ (¬ (2 * (I 73 2)) ≤ v2 → (ow_AM M_Mo_goOver d [.ref 70, .ref 77, .int v2] (85, I, J, R) (fun r h' => ∃ (I4 : Nat → Nat → Int32) (J4 : Nat → Nat → Int64) (R4 : Nat → Nat → Option Nat), r = none ∧ h' = (85, I4, J4, R4) ∧ ow_RF R4 ∧ ((0 ≤ (I4 70 28) → ow_AW ow_Y0 (ow_Z Q) M_Mo_idle (d + 1) 0 0 25 [(0, .ref 70), (1, .int (v1 ||| ((1 : Int32) <<< ((I4 70 28) &&& 31)))), (2, .int (v2 + 1))] [] (85, I4, J4, R4) 0 0) ∧ (¬ 0 ≤ (I4 70 28) → ow_AW ow_Y0 (ow_Z Q) M_Mo_idle (d + 1) 0 0 25 [(0, .ref 70), (1, .int (v1 ||| 0)), (2, .int (v2 + 1))] [] (85, I4, J4, R4) 0 0))))))) : ow_AW ow_Y0 (ow_Z Q) M_Mo_idle (d + 1) 0 0 25 [(0, .ref 70), (1, .int v1), (2, .int v2)] [] (85, I, J, R) 0 0 := by
  refine ow_iload_n 2 rfl d_Mo_idle_25 ?_
  refine ow_iconst (v := 2) (by decide) d_Mo_idle_26 ?_
  refine ow_aload_n 0 rfl d_Mo_idle_27 ?_
  refine ow_gR (a := 73) 184 d_Mo_idle_28 rfl rfl (by decide) rfl ⟨rfl, hR 70 15 (by decide)⟩ ?_
  refine ow_iconst (v := 2) (by decide) d_Mo_idle_31 ?_
  refine ow_hiaload d_Mo_idle_32 (by decide) rfl rfl (show vp_in (2 : Int32) 146 by unfold vp_in; decide) ?_
  show ow_AW ow_Y0 (ow_Z Q) M_Mo_idle (d + 1) 0 0 33 [(0, .ref 70), (1, .int v1), (2, .int v2)] [.int (I 73 2), .int 2, .int v2] (85, I, J, R) 0 0
  refine ow_imul d_Mo_idle_33 ?_
  refine ow_icmp_ge (tgt := 72) d_Mo_idle_34 (by decide) (fun c => ?_) (fun c => ?_)
  · replace T := T.1 c
    refine ow_iconst (v := 0) (by decide) d_Mo_idle_72 ?_
    refine ow_istore_n (ls2 := [(2, .int 0), (0, .ref 70), (1, .int v1)]) d_Mo_idle_73 (by decide) rfl ?_
    refine ow_sub [1, 2, 0] rfl ?_
    exact T
  · replace T := T.2 c
    refine ow_aload_n 0 rfl d_Mo_idle_37 ?_
    refine ow_aload_n 0 rfl d_Mo_idle_38 ?_
    refine ow_gR (a := 77) 188 d_Mo_idle_39 rfl rfl (by decide) rfl ⟨rfl, hR 70 19 (by decide)⟩ ?_
    refine ow_iload_n 2 rfl d_Mo_idle_42 ?_
    refine ow_callV (b := 70) (cq := 12) (As := [.ref 77, .int v2]) (rest := []) (d2 := d) d_Mo_idle_43 l_Mo_261 v_Mo_goOver (show 70 < 85 by decide) rfl (by decide) rfl (Nat.le_of_ble_eq_true rfl) (Nat.le_refl _) ⟨Nat.le_refl _, Nat.le_refl _⟩ (ow_mono T ?_)
    rintro r h' ⟨I4, J4, R4, rfl, rfl, hR4, T⟩
    show ow_AW ow_Y0 (ow_Z Q) M_Mo_idle (d + 1) 0 0 46 [(0, .ref 70), (1, .int v1), (2, .int v2)] [] (85, I4, J4, R4) 0 0
    refine ow_iload_n 1 rfl d_Mo_idle_46 ?_
    refine ow_aload_n 0 rfl d_Mo_idle_47 ?_
    refine ow_gI 197 d_Mo_idle_48 rfl rfl (by decide) rfl (Or.inl rfl) ?_
    refine ow_if_ge (tgt := 58) d_Mo_idle_51 (by decide) (fun c => ?_) (fun c => ?_)
    · replace T := T.1 c
      refine ow_iconst (v := 1) (by decide) d_Mo_idle_58 ?_
      refine ow_aload_n 0 rfl d_Mo_idle_59 ?_
      refine ow_gI 197 d_Mo_idle_60 rfl rfl (by decide) rfl (Or.inl rfl) ?_
      refine ow_ishl d_Mo_idle_63 ?_
      refine ow_ior d_Mo_idle_64 ?_
      refine ow_istore_n (ls2 := [(1, .int (v1 ||| ((1 : Int32) <<< ((I4 70 28) &&& 31)))), (0, .ref 70), (2, .int v2)]) d_Mo_idle_65 (by decide) rfl ?_
      refine ow_iinc 2 (v := (v2 + 1)) (ls2 := [(2, .int (v2 + 1)), (1, .int (v1 ||| ((1 : Int32) <<< ((I4 70 28) &&& 31)))), (0, .ref 70)]) d_Mo_idle_66 rfl rfl (by decide) rfl ?_
      refine ow_goto (tgt := 25) d_Mo_idle_69 (by decide) ?_
      refine ow_sub [2, 1, 0] rfl ?_
      exact T
    · replace T := T.2 c
      refine ow_iconst (v := 0) (by decide) d_Mo_idle_54 ?_
      refine ow_goto (tgt := 64) d_Mo_idle_55 (by decide) ?_
      refine ow_ior d_Mo_idle_64 ?_
      refine ow_istore_n (ls2 := [(1, .int (v1 ||| 0)), (0, .ref 70), (2, .int v2)]) d_Mo_idle_65 (by decide) rfl ?_
      refine ow_iinc 2 (v := (v2 + 1)) (ls2 := [(2, .int (v2 + 1)), (1, .int (v1 ||| 0)), (0, .ref 70)]) d_Mo_idle_66 rfl rfl (by decide) rfl ?_
      refine ow_goto (tgt := 25) d_Mo_idle_69 (by decide) ?_
      refine ow_sub [2, 1, 0] rfl ?_
      exact T
set_option maxRecDepth 4000 in
theorem t_Mo_idle_74 {d : Nat} {I : Nat → Nat → Int32} {J : Nat → Nat → Int64} {R : Nat → Nat → Option Nat} {Q : Option Value → ow_H → Prop}  {v1 : Int32} {v2 : Int32}  (hR : ow_RF R) (T : (((I 73 2) ≤ v2 → Q (some (.int (-2))) (85, I, J, R)) ∧ (¬ (I 73 2) ≤ v2 → (ow_AM M_Mo_hasBit d [.int v1, .int v2] (85, I, J, R) (fun r h' => ∃ (r5 : Int32) (I5 : Nat → Nat → Int32) (J5 : Nat → Nat → Int64) (R5 : Nat → Nat → Option Nat), r = some (.int r5) ∧ h' = (85, I5, J5, R5) ∧ ow_RF R5 ∧ ((¬ r5 = 0 → ow_AW ow_Y0 (ow_Z Q) M_Mo_idle (d + 1) 0 0 74 [(0, .ref 70), (1, .int v1), (2, .int (v2 + 1))] [] (85, I5, J5, R5) 0 0) ∧ (r5 = 0 → (ow_AM M_Mo_answerOf d [.ref 70, .ref 77, .int v2, .int 0] (85, I5, J5, R5) (fun r h' => ∃ (r6 : Int32) (I6 : Nat → Nat → Int32) (J6 : Nat → Nat → Int64) (R6 : Nat → Nat → Option Nat), r = some (.int r6) ∧ h' = (85, I6, J6, R6) ∧ ow_RF R6 ∧ ((0 ≤ r6 → Q (some (.int v2)) (85, I6, J6, R6)) ∧ (¬ 0 ≤ r6 → (ow_AM M_Mo_answerOf d [.ref 70, .ref 77, .int v2, .int 1] (85, I6, J6, R6) (fun r h' => ∃ (r7 : Int32) (I7 : Nat → Nat → Int32) (J7 : Nat → Nat → Int64) (R7 : Nat → Nat → Option Nat), r = some (.int r7) ∧ h' = (85, I7, J7, R7) ∧ ow_RF R7 ∧ ((r7 < 0 → ow_AW ow_Y0 (ow_Z Q) M_Mo_idle (d + 1) 0 0 74 [(0, .ref 70), (1, .int v1), (2, .int (v2 + 1))] [] (85, I7, J7, R7) 0 0) ∧ (¬ r7 < 0 → Q (some (.int v2)) (85, I7, J7, R7)))))))))))))))) : ow_AW ow_Y0 (ow_Z Q) M_Mo_idle (d + 1) 0 0 74 [(0, .ref 70), (1, .int v1), (2, .int v2)] [] (85, I, J, R) 0 0 := by
  refine ow_iload_n 2 rfl d_Mo_idle_74 ?_
  refine ow_aload_n 0 rfl d_Mo_idle_75 ?_
  refine ow_gR (a := 73) 184 d_Mo_idle_76 rfl rfl (by decide) rfl ⟨rfl, hR 70 15 (by decide)⟩ ?_
  refine ow_iconst (v := 2) (by decide) d_Mo_idle_79 ?_
  refine ow_hiaload d_Mo_idle_80 (by decide) rfl rfl (show vp_in (2 : Int32) 146 by unfold vp_in; decide) ?_
  show ow_AW ow_Y0 (ow_Z Q) M_Mo_idle (d + 1) 0 0 81 [(0, .ref 70), (1, .int v1), (2, .int v2)] [.int (I 73 2), .int v2] (85, I, J, R) 0 0
  refine ow_icmp_ge (tgt := 126) d_Mo_idle_81 (by decide) (fun c => ?_) (fun c => ?_)
  · replace T := T.1 c
    refine ow_bipush (v := (-2)) (by decide) d_Mo_idle_126 ?_
    exact ow_iret d_Mo_idle_128 rfl T
  · replace T := T.2 c
    refine ow_iload_n 1 rfl d_Mo_idle_84 ?_
    refine ow_iload_n 2 rfl d_Mo_idle_85 ?_
    refine ow_callS (As := [.int v1, .int v2]) (rest := []) (d2 := d) d_Mo_idle_86 l_Mo_231 v_Mo_hasBit (Nat.le_of_ble_eq_true rfl) (Nat.le_refl _) ⟨Nat.le_refl _, Nat.le_refl _⟩ (ow_mono T ?_)
    rintro r h' ⟨r5, I5, J5, R5, rfl, rfl, hR5, T⟩
    show ow_AW ow_Y0 (ow_Z Q) M_Mo_idle (d + 1) 0 0 89 [(0, .ref 70), (1, .int v1), (2, .int v2)] [.int r5] (85, I5, J5, R5) 0 0
    refine ow_if_ne (tgt := 120) d_Mo_idle_89 (by decide) (fun c => ?_) (fun c => ?_)
    · replace T := T.1 c
      refine ow_iinc 2 (v := (v2 + 1)) (ls2 := [(2, .int (v2 + 1)), (0, .ref 70), (1, .int v1)]) d_Mo_idle_120 rfl rfl (by decide) rfl ?_
      refine ow_goto (tgt := 74) d_Mo_idle_123 (by decide) ?_
      refine ow_sub [1, 2, 0] rfl ?_
      exact T
    · replace T := T.2 c
      refine ow_aload_n 0 rfl d_Mo_idle_92 ?_
      refine ow_aload_n 0 rfl d_Mo_idle_93 ?_
      refine ow_gR (a := 77) 188 d_Mo_idle_94 rfl rfl (by decide) rfl ⟨rfl, hR5 70 19 (by decide)⟩ ?_
      refine ow_iload_n 2 rfl d_Mo_idle_97 ?_
      refine ow_iconst (v := 0) (by decide) d_Mo_idle_98 ?_
      refine ow_callV (b := 70) (cq := 12) (As := [.ref 77, .int v2, .int 0]) (rest := []) (d2 := d) d_Mo_idle_99 l_Mo_257 v_Mo_answerOf (show 70 < 85 by decide) rfl (by decide) rfl (Nat.le_of_ble_eq_true rfl) (Nat.le_refl _) ⟨Nat.le_refl _, Nat.le_refl _⟩ (ow_mono T ?_)
      rintro r h' ⟨r6, I6, J6, R6, rfl, rfl, hR6, T⟩
      show ow_AW ow_Y0 (ow_Z Q) M_Mo_idle (d + 1) 0 0 102 [(0, .ref 70), (1, .int v1), (2, .int v2)] [.int r6] (85, I6, J6, R6) 0 0
      refine ow_if_ge (tgt := 118) d_Mo_idle_102 (by decide) (fun c => ?_) (fun c => ?_)
      · replace T := T.1 c
        refine ow_iload_n 2 rfl d_Mo_idle_118 ?_
        exact ow_iret d_Mo_idle_119 rfl T
      · replace T := T.2 c
        refine ow_aload_n 0 rfl d_Mo_idle_105 ?_
        refine ow_aload_n 0 rfl d_Mo_idle_106 ?_
        refine ow_gR (a := 77) 188 d_Mo_idle_107 rfl rfl (by decide) rfl ⟨rfl, hR6 70 19 (by decide)⟩ ?_
        refine ow_iload_n 2 rfl d_Mo_idle_110 ?_
        refine ow_iconst (v := 1) (by decide) d_Mo_idle_111 ?_
        refine ow_callV (b := 70) (cq := 12) (As := [.ref 77, .int v2, .int 1]) (rest := []) (d2 := d) d_Mo_idle_112 l_Mo_257 v_Mo_answerOf (show 70 < 85 by decide) rfl (by decide) rfl (Nat.le_of_ble_eq_true rfl) (Nat.le_refl _) ⟨Nat.le_refl _, Nat.le_refl _⟩ (ow_mono T ?_)
        rintro r h' ⟨r7, I7, J7, R7, rfl, rfl, hR7, T⟩
        show ow_AW ow_Y0 (ow_Z Q) M_Mo_idle (d + 1) 0 0 115 [(0, .ref 70), (1, .int v1), (2, .int v2)] [.int r7] (85, I7, J7, R7) 0 0
        refine ow_if_lt (tgt := 120) d_Mo_idle_115 (by decide) (fun c => ?_) (fun c => ?_)
        · replace T := T.1 c
          refine ow_iinc 2 (v := (v2 + 1)) (ls2 := [(2, .int (v2 + 1)), (0, .ref 70), (1, .int v1)]) d_Mo_idle_120 rfl rfl (by decide) rfl ?_
          refine ow_goto (tgt := 74) d_Mo_idle_123 (by decide) ?_
          refine ow_sub [1, 2, 0] rfl ?_
          exact T
        · replace T := T.2 c
          refine ow_iload_n 2 rfl d_Mo_idle_118 ?_
          exact ow_iret d_Mo_idle_119 rfl T
set_option maxRecDepth 4000 in
theorem t_Mo_idle {d : Nat} {I : Nat → Nat → Int32} {J : Nat → Nat → Int64} {R : Nat → Nat → Option Nat} {Q : Option Value → ow_H → Prop}   (hR : ow_RF R) (T : (ow_AM M_Mo_good d [.ref 70] (85, I, J, R) (fun r h' => ∃ (I8 : Nat → Nat → Int32) (J8 : Nat → Nat → Int64) (R8 : Nat → Nat → Option Nat), r = none ∧ h' = (85, I8, J8, R8) ∧ ow_RF R8 ∧ ((¬ (I8 70 14) = 0 → (ow_AM M_Mo_asToldShapes d [.ref 70] (85, I8, J8, R8) (fun r h' => ∃ (I9 : Nat → Nat → Int32) (J9 : Nat → Nat → Int64) (R9 : Nat → Nat → Option Nat), r = none ∧ h' = (85, I9, J9, R9) ∧ ow_RF R9 ∧ ow_AW ow_Y0 (ow_Z Q) M_Mo_idle (d + 1) 0 0 25 [(0, .ref 70), (1, .int 0), (2, .int 0)] [] (85, I9, J9, R9) 0 0))) ∧ ((I8 70 14) = 0 → (ow_AM M_Mo_no d [.ref 70, .int 1] (85, I8, J8, R8) (fun r h' => ∃ (r10 : Int32) (I10 : Nat → Nat → Int32) (J10 : Nat → Nat → Int64) (R10 : Nat → Nat → Option Nat), r = some (.int r10) ∧ h' = (85, I10, J10, R10) ∧ ow_RF R10 ∧ Q (some (.int r10)) (85, I10, J10, R10)))))))) : ow_AM M_Mo_idle (d + 1) [.ref 70] (85, I, J, R) Q := by
  refine ow_enter (by decide) (Nat.le_of_ble_eq_true rfl) ?_
  show ow_AW ow_Y0 (ow_Z Q) M_Mo_idle (d + 1) 0 0 0 [(0, .ref 70)] [] (85, I, J, R) 0 0
  refine ow_aload_n 0 rfl d_Mo_idle_0 ?_
  refine ow_callV (b := 70) (cq := 12) (As := []) (rest := []) (d2 := d) d_Mo_idle_1 l_Mo_154 v_Mo_good (show 70 < 85 by decide) rfl (by decide) rfl (Nat.le_of_ble_eq_true rfl) (Nat.le_refl _) ⟨Nat.le_refl _, Nat.le_refl _⟩ (ow_mono T ?_)
  rintro r h' ⟨I8, J8, R8, rfl, rfl, hR8, T⟩
  show ow_AW ow_Y0 (ow_Z Q) M_Mo_idle (d + 1) 0 0 4 [(0, .ref 70)] [] (85, I8, J8, R8) 0 0
  refine ow_aload_n 0 rfl d_Mo_idle_4 ?_
  refine ow_gI 183 d_Mo_idle_5 rfl rfl (by decide) rfl (Or.inr rfl) ?_
  refine ow_if_ne (tgt := 17) d_Mo_idle_8 (by decide) (fun c => ?_) (fun c => ?_)
  · replace T := T.1 c
    refine ow_aload_n 0 rfl d_Mo_idle_17 ?_
    refine ow_callV (b := 70) (cq := 12) (As := []) (rest := []) (d2 := d) d_Mo_idle_18 l_Mo_281 v_Mo_asToldShapes (show 70 < 85 by decide) rfl (by decide) rfl (Nat.le_of_ble_eq_true rfl) (Nat.le_refl _) ⟨Nat.le_refl _, Nat.le_refl _⟩ (ow_mono T ?_)
    rintro r h' ⟨I9, J9, R9, rfl, rfl, hR9, T⟩
    show ow_AW ow_Y0 (ow_Z Q) M_Mo_idle (d + 1) 0 0 21 [(0, .ref 70)] [] (85, I9, J9, R9) 0 0
    refine ow_iconst (v := 0) (by decide) d_Mo_idle_21 ?_
    refine ow_istore_n (ls2 := [(1, .int 0), (0, .ref 70)]) d_Mo_idle_22 (by decide) rfl ?_
    refine ow_iconst (v := 0) (by decide) d_Mo_idle_23 ?_
    refine ow_istore_n (ls2 := [(2, .int 0), (1, .int 0), (0, .ref 70)]) d_Mo_idle_24 (by decide) rfl ?_
    refine ow_sub [2, 1, 0] rfl ?_
    exact T
  · replace T := T.2 c
    refine ow_aload_n 0 rfl d_Mo_idle_11 ?_
    refine ow_iconst (v := 1) (by decide) d_Mo_idle_12 ?_
    refine ow_callV (b := 70) (cq := 12) (As := [.int 1]) (rest := []) (d2 := d) d_Mo_idle_13 l_Mo_157 v_Mo_no (show 70 < 85 by decide) rfl (by decide) rfl (Nat.le_of_ble_eq_true rfl) (Nat.le_refl _) ⟨Nat.le_refl _, Nat.le_refl _⟩ (ow_mono T ?_)
    rintro r h' ⟨r10, I10, J10, R10, rfl, rfl, hR10, T⟩
    show ow_AW ow_Y0 (ow_Z Q) M_Mo_idle (d + 1) 0 0 16 [(0, .ref 70)] [.int r10] (85, I10, J10, R10) 0 0
    exact ow_iret d_Mo_idle_16 rfl T
set_option maxRecDepth 4000 in
theorem t_Mo_lettersFor_4 {d : Nat} {I : Nat → Nat → Int32} {J : Nat → Nat → Int64} {R : Nat → Nat → Option Nat} {Q : Option Value → ow_H → Prop}  {v1 : Int32} {v2 : Int32} {v3 : Int32}  (hR : ow_RF R) (T : (((2 * (I 73 2)) ≤ v3 → Q (some (.int v2)) (85, I, J, R)) ∧ (¬ (2 * (I 73 2)) ≤ v3 → (ow_AM M_Mo_servedBy d [.ref 70, .ref 77, .int v3] (85, I, J, R) (fun r h' => ∃ (r1 : Int32) (I1 : Nat → Nat → Int32) (J1 : Nat → Nat → Int64) (R1 : Nat → Nat → Option Nat), r = some (.int r1) ∧ h' = (85, I1, J1, R1) ∧ ow_RF R1 ∧ (ow_AM M_Mo_hasBit d [.int r1, .int v1] (85, I1, J1, R1) (fun r h' => ∃ (r2 : Int32) (I2 : Nat → Nat → Int32) (J2 : Nat → Nat → Int64) (R2 : Nat → Nat → Option Nat), r = some (.int r2) ∧ h' = (85, I2, J2, R2) ∧ ow_RF R2 ∧ ((r2 = 0 → ow_AW ow_Y0 (ow_Z Q) M_Mo_lettersFor (d + 1) 0 0 4 [(0, .ref 70), (1, .int v1), (2, .int (v2 ||| 0)), (3, .int (v3 + 1))] [] (85, I2, J2, R2) 0 0) ∧ (¬ r2 = 0 → ow_AW ow_Y0 (ow_Z Q) M_Mo_lettersFor (d + 1) 0 0 4 [(0, .ref 70), (1, .int v1), (2, .int (v2 ||| ((1 : Int32) <<< (v3 &&& 31)))), (3, .int (v3 + 1))] [] (85, I2, J2, R2) 0 0))))))))) : ow_AW ow_Y0 (ow_Z Q) M_Mo_lettersFor (d + 1) 0 0 4 [(0, .ref 70), (1, .int v1), (2, .int v2), (3, .int v3)] [] (85, I, J, R) 0 0 := by
  refine ow_iload_n 3 rfl d_Mo_lettersFor_4 ?_
  refine ow_iconst (v := 2) (by decide) d_Mo_lettersFor_5 ?_
  refine ow_aload_n 0 rfl d_Mo_lettersFor_6 ?_
  refine ow_gR (a := 73) 184 d_Mo_lettersFor_7 rfl rfl (by decide) rfl ⟨rfl, hR 70 15 (by decide)⟩ ?_
  refine ow_iconst (v := 2) (by decide) d_Mo_lettersFor_10 ?_
  refine ow_hiaload d_Mo_lettersFor_11 (by decide) rfl rfl (show vp_in (2 : Int32) 146 by unfold vp_in; decide) ?_
  show ow_AW ow_Y0 (ow_Z Q) M_Mo_lettersFor (d + 1) 0 0 12 [(0, .ref 70), (1, .int v1), (2, .int v2), (3, .int v3)] [.int (I 73 2), .int 2, .int v3] (85, I, J, R) 0 0
  refine ow_imul d_Mo_lettersFor_12 ?_
  refine ow_icmp_ge (tgt := 48) d_Mo_lettersFor_13 (by decide) (fun c => ?_) (fun c => ?_)
  · replace T := T.1 c
    refine ow_iload_n 2 rfl d_Mo_lettersFor_48 ?_
    exact ow_iret d_Mo_lettersFor_49 rfl T
  · replace T := T.2 c
    refine ow_iload_n 2 rfl d_Mo_lettersFor_16 ?_
    refine ow_aload_n 0 rfl d_Mo_lettersFor_17 ?_
    refine ow_aload_n 0 rfl d_Mo_lettersFor_18 ?_
    refine ow_gR (a := 77) 188 d_Mo_lettersFor_19 rfl rfl (by decide) rfl ⟨rfl, hR 70 19 (by decide)⟩ ?_
    refine ow_iload_n 3 rfl d_Mo_lettersFor_22 ?_
    refine ow_callV (b := 70) (cq := 12) (As := [.ref 77, .int v3]) (rest := [.int v2]) (d2 := d) d_Mo_lettersFor_23 l_Mo_268 v_Mo_servedBy (show 70 < 85 by decide) rfl (by decide) rfl (Nat.le_of_ble_eq_true rfl) (Nat.le_refl _) ⟨Nat.le_refl _, Nat.le_refl _⟩ (ow_mono T ?_)
    rintro r h' ⟨r1, I1, J1, R1, rfl, rfl, hR1, T⟩
    show ow_AW ow_Y0 (ow_Z Q) M_Mo_lettersFor (d + 1) 0 0 26 [(0, .ref 70), (1, .int v1), (2, .int v2), (3, .int v3)] [.int r1, .int v2] (85, I1, J1, R1) 0 0
    refine ow_iload_n 1 rfl d_Mo_lettersFor_26 ?_
    refine ow_callS (As := [.int r1, .int v1]) (rest := [.int v2]) (d2 := d) d_Mo_lettersFor_27 l_Mo_231 v_Mo_hasBit (Nat.le_of_ble_eq_true rfl) (Nat.le_refl _) ⟨Nat.le_refl _, Nat.le_refl _⟩ (ow_mono T ?_)
    rintro r h' ⟨r2, I2, J2, R2, rfl, rfl, hR2, T⟩
    show ow_AW ow_Y0 (ow_Z Q) M_Mo_lettersFor (d + 1) 0 0 30 [(0, .ref 70), (1, .int v1), (2, .int v2), (3, .int v3)] [.int r2, .int v2] (85, I2, J2, R2) 0 0
    refine ow_if_eq (tgt := 39) d_Mo_lettersFor_30 (by decide) (fun c => ?_) (fun c => ?_)
    · replace T := T.1 c
      refine ow_iconst (v := 0) (by decide) d_Mo_lettersFor_39 ?_
      refine ow_ior d_Mo_lettersFor_40 ?_
      refine ow_istore_n (ls2 := [(2, .int (v2 ||| 0)), (0, .ref 70), (1, .int v1), (3, .int v3)]) d_Mo_lettersFor_41 (by decide) rfl ?_
      refine ow_iinc 3 (v := (v3 + 1)) (ls2 := [(3, .int (v3 + 1)), (2, .int (v2 ||| 0)), (0, .ref 70), (1, .int v1)]) d_Mo_lettersFor_42 rfl rfl (by decide) rfl ?_
      refine ow_goto (tgt := 4) d_Mo_lettersFor_45 (by decide) ?_
      refine ow_sub [2, 3, 1, 0] rfl ?_
      exact T
    · replace T := T.2 c
      refine ow_iconst (v := 1) (by decide) d_Mo_lettersFor_33 ?_
      refine ow_iload_n 3 rfl d_Mo_lettersFor_34 ?_
      refine ow_ishl d_Mo_lettersFor_35 ?_
      refine ow_goto (tgt := 40) d_Mo_lettersFor_36 (by decide) ?_
      refine ow_ior d_Mo_lettersFor_40 ?_
      refine ow_istore_n (ls2 := [(2, .int (v2 ||| ((1 : Int32) <<< (v3 &&& 31)))), (0, .ref 70), (1, .int v1), (3, .int v3)]) d_Mo_lettersFor_41 (by decide) rfl ?_
      refine ow_iinc 3 (v := (v3 + 1)) (ls2 := [(3, .int (v3 + 1)), (2, .int (v2 ||| ((1 : Int32) <<< (v3 &&& 31)))), (0, .ref 70), (1, .int v1)]) d_Mo_lettersFor_42 rfl rfl (by decide) rfl ?_
      refine ow_goto (tgt := 4) d_Mo_lettersFor_45 (by decide) ?_
      refine ow_sub [2, 3, 1, 0] rfl ?_
      exact T
set_option maxRecDepth 4000 in
theorem t_Mo_lettersFor {d : Nat} {I : Nat → Nat → Int32} {J : Nat → Nat → Int64} {R : Nat → Nat → Option Nat} {Q : Option Value → ow_H → Prop} {p1 : Int32}  (hR : ow_RF R) (T : ow_AW ow_Y0 (ow_Z Q) M_Mo_lettersFor (d + 1) 0 0 4 [(0, .ref 70), (1, .int p1), (2, .int 0), (3, .int 0)] [] (85, I, J, R) 0 0) : ow_AM M_Mo_lettersFor (d + 1) [.ref 70, .int p1] (85, I, J, R) Q := by
  refine ow_enter (by decide) (Nat.le_of_ble_eq_true rfl) ?_
  show ow_AW ow_Y0 (ow_Z Q) M_Mo_lettersFor (d + 1) 0 0 0 [(0, .ref 70), (1, .int p1)] [] (85, I, J, R) 0 0
  refine ow_iconst (v := 0) (by decide) d_Mo_lettersFor_0 ?_
  refine ow_istore_n (ls2 := [(2, .int 0), (0, .ref 70), (1, .int p1)]) d_Mo_lettersFor_1 (by decide) rfl ?_
  refine ow_iconst (v := 0) (by decide) d_Mo_lettersFor_2 ?_
  refine ow_istore_n (ls2 := [(3, .int 0), (2, .int 0), (0, .ref 70), (1, .int p1)]) d_Mo_lettersFor_3 (by decide) rfl ?_
  refine ow_sub [2, 3, 1, 0] rfl ?_
  exact T
set_option maxRecDepth 4000 in
theorem t_Mo_serves {d : Nat} {I : Nat → Nat → Int32} {J : Nat → Nat → Int64} {R : Nat → Nat → Option Nat} {Q : Option Value → ow_H → Prop} {p1 : Int32}  (hR : ow_RF R) (T : (ow_AM M_Mo_good d [.ref 70] (85, I, J, R) (fun r h' => ∃ (I6 : Nat → Nat → Int32) (J6 : Nat → Nat → Int64) (R6 : Nat → Nat → Option Nat), r = none ∧ h' = (85, I6, J6, R6) ∧ ow_RF R6 ∧ (ow_AM M_Mo_isEstate d [.ref 70, .int p1] (85, I6, J6, R6) (fun r h' => ∃ (r7 : Int32) (I7 : Nat → Nat → Int32) (J7 : Nat → Nat → Int64) (R7 : Nat → Nat → Option Nat), r = some (.int r7) ∧ h' = (85, I7, J7, R7) ∧ ow_RF R7 ∧ ((¬ r7 = 0 → (ow_AM M_Mo_asToldShapes d [.ref 70] (85, I7, J7, R7) (fun r h' => ∃ (I8 : Nat → Nat → Int32) (J8 : Nat → Nat → Int64) (R8 : Nat → Nat → Option Nat), r = none ∧ h' = (85, I8, J8, R8) ∧ ow_RF R8 ∧ (ow_AM M_Mo_lettersFor d [.ref 70, .int p1] (85, I8, J8, R8) (fun r h' => ∃ (r9 : Int32) (I9 : Nat → Nat → Int32) (J9 : Nat → Nat → Int64) (R9 : Nat → Nat → Option Nat), r = some (.int r9) ∧ h' = (85, I9, J9, R9) ∧ ow_RF R9 ∧ Q (some (.int r9)) (85, I9, J9, R9)))))) ∧ (r7 = 0 → (ow_AM M_Mo_no d [.ref 70, .int 1] (85, I7, J7, R7) (fun r h' => ∃ (r10 : Int32) (I10 : Nat → Nat → Int32) (J10 : Nat → Nat → Int64) (R10 : Nat → Nat → Option Nat), r = some (.int r10) ∧ h' = (85, I10, J10, R10) ∧ ow_RF R10 ∧ Q (some (.int r10)) (85, I10, J10, R10)))))))))) : ow_AM M_Mo_serves (d + 1) [.ref 70, .int p1] (85, I, J, R) Q := by
  refine ow_enter (by decide) (Nat.le_of_ble_eq_true rfl) ?_
  show ow_AW ow_Y0 (ow_Z Q) M_Mo_serves (d + 1) 0 0 0 [(0, .ref 70), (1, .int p1)] [] (85, I, J, R) 0 0
  refine ow_aload_n 0 rfl d_Mo_serves_0 ?_
  refine ow_callV (b := 70) (cq := 12) (As := []) (rest := []) (d2 := d) d_Mo_serves_1 l_Mo_154 v_Mo_good (show 70 < 85 by decide) rfl (by decide) rfl (Nat.le_of_ble_eq_true rfl) (Nat.le_refl _) ⟨Nat.le_refl _, Nat.le_refl _⟩ (ow_mono T ?_)
  rintro r h' ⟨I6, J6, R6, rfl, rfl, hR6, T⟩
  show ow_AW ow_Y0 (ow_Z Q) M_Mo_serves (d + 1) 0 0 4 [(0, .ref 70), (1, .int p1)] [] (85, I6, J6, R6) 0 0
  refine ow_aload_n 0 rfl d_Mo_serves_4 ?_
  refine ow_iload_n 1 rfl d_Mo_serves_5 ?_
  refine ow_callV (b := 70) (cq := 12) (As := [.int p1]) (rest := []) (d2 := d) d_Mo_serves_6 l_Mo_278 v_Mo_isEstate (show 70 < 85 by decide) rfl (by decide) rfl (Nat.le_of_ble_eq_true rfl) (Nat.le_refl _) ⟨Nat.le_refl _, Nat.le_refl _⟩ (ow_mono T ?_)
  rintro r h' ⟨r7, I7, J7, R7, rfl, rfl, hR7, T⟩
  show ow_AW ow_Y0 (ow_Z Q) M_Mo_serves (d + 1) 0 0 9 [(0, .ref 70), (1, .int p1)] [.int r7] (85, I7, J7, R7) 0 0
  refine ow_if_ne (tgt := 18) d_Mo_serves_9 (by decide) (fun c => ?_) (fun c => ?_)
  · replace T := T.1 c
    refine ow_aload_n 0 rfl d_Mo_serves_18 ?_
    refine ow_callV (b := 70) (cq := 12) (As := []) (rest := []) (d2 := d) d_Mo_serves_19 l_Mo_281 v_Mo_asToldShapes (show 70 < 85 by decide) rfl (by decide) rfl (Nat.le_of_ble_eq_true rfl) (Nat.le_refl _) ⟨Nat.le_refl _, Nat.le_refl _⟩ (ow_mono T ?_)
    rintro r h' ⟨I8, J8, R8, rfl, rfl, hR8, T⟩
    show ow_AW ow_Y0 (ow_Z Q) M_Mo_serves (d + 1) 0 0 22 [(0, .ref 70), (1, .int p1)] [] (85, I8, J8, R8) 0 0
    refine ow_aload_n 0 rfl d_Mo_serves_22 ?_
    refine ow_iload_n 1 rfl d_Mo_serves_23 ?_
    refine ow_callV (b := 70) (cq := 12) (As := [.int p1]) (rest := []) (d2 := d) d_Mo_serves_24 l_Mo_298 v_Mo_lettersFor (show 70 < 85 by decide) rfl (by decide) rfl (Nat.le_of_ble_eq_true rfl) (Nat.le_refl _) ⟨Nat.le_refl _, Nat.le_refl _⟩ (ow_mono T ?_)
    rintro r h' ⟨r9, I9, J9, R9, rfl, rfl, hR9, T⟩
    show ow_AW ow_Y0 (ow_Z Q) M_Mo_serves (d + 1) 0 0 27 [(0, .ref 70), (1, .int p1)] [.int r9] (85, I9, J9, R9) 0 0
    exact ow_iret d_Mo_serves_27 rfl T
  · replace T := T.2 c
    refine ow_aload_n 0 rfl d_Mo_serves_12 ?_
    refine ow_iconst (v := 1) (by decide) d_Mo_serves_13 ?_
    refine ow_callV (b := 70) (cq := 12) (As := [.int 1]) (rest := []) (d2 := d) d_Mo_serves_14 l_Mo_157 v_Mo_no (show 70 < 85 by decide) rfl (by decide) rfl (Nat.le_of_ble_eq_true rfl) (Nat.le_refl _) ⟨Nat.le_refl _, Nat.le_refl _⟩ (ow_mono T ?_)
    rintro r h' ⟨r10, I10, J10, R10, rfl, rfl, hR10, T⟩
    show ow_AW ow_Y0 (ow_Z Q) M_Mo_serves (d + 1) 0 0 17 [(0, .ref 70), (1, .int p1)] [.int r10] (85, I10, J10, R10) 0 0
    exact ow_iret d_Mo_serves_17 rfl T
set_option maxRecDepth 4000 in
theorem t_Mo_bestFor_11 {d : Nat} {I : Nat → Nat → Int32} {J : Nat → Nat → Int64} {R : Nat → Nat → Option Nat} {Q : Option Value → ow_H → Prop}  {v1 : Int32} {v2 : Int32} {v3 : Int32}  (hR : ow_RF R) (T : (((2 * (I 73 2)) ≤ v3 → Q (some (.int v2)) (85, I, J, R)) ∧ (¬ (2 * (I 73 2)) ≤ v3 → (ow_AM M_Mo_servedBy d [.ref 70, .ref 77, .int v3] (85, I, J, R) (fun r h' => ∃ (r2 : Int32) (I2 : Nat → Nat → Int32) (J2 : Nat → Nat → Int64) (R2 : Nat → Nat → Option Nat), r = some (.int r2) ∧ h' = (85, I2, J2, R2) ∧ ow_RF R2 ∧ (ow_AM M_Mo_hasBit d [.int r2, .int v1] (85, I2, J2, R2) (fun r h' => ∃ (r3 : Int32) (I3 : Nat → Nat → Int32) (J3 : Nat → Nat → Int64) (R3 : Nat → Nat → Option Nat), r = some (.int r3) ∧ h' = (85, I3, J3, R3) ∧ ow_RF R3 ∧ ((r3 = 0 → ow_AW ow_Y0 (ow_Z Q) M_Mo_bestFor (d + 1) 0 0 11 [(0, .ref 70), (1, .int v1), (2, .int v2), (3, .int (v3 + 1))] [] (85, I3, J3, R3) 0 0) ∧ (¬ r3 = 0 → ((v2 < 0 → (∀ (I4 : Nat → Nat → Int32), I4 = ow_u I3 70 30 (I3 70 27) → ow_AW ow_Y0 (ow_Z Q) M_Mo_bestFor (d + 1) 0 0 11 [(0, .ref 70), (1, .int v1), (2, .int v3), (3, .int (v3 + 1))] [] (85, I4, J3, R3) 0 0)) ∧ (¬ v2 < 0 → (((I3 70 27) < (I3 70 30) → (∀ (I5 : Nat → Nat → Int32), I5 = ow_u I3 70 30 (I3 70 27) → ow_AW ow_Y0 (ow_Z Q) M_Mo_bestFor (d + 1) 0 0 11 [(0, .ref 70), (1, .int v1), (2, .int v3), (3, .int (v3 + 1))] [] (85, I5, J3, R3) 0 0)) ∧ (¬ (I3 70 27) < (I3 70 30) → ow_AW ow_Y0 (ow_Z Q) M_Mo_bestFor (d + 1) 0 0 11 [(0, .ref 70), (1, .int v1), (2, .int v2), (3, .int (v3 + 1))] [] (85, I3, J3, R3) 0 0))))))))))))) : ow_AW ow_Y0 (ow_Z Q) M_Mo_bestFor (d + 1) 0 0 11 [(0, .ref 70), (1, .int v1), (2, .int v2), (3, .int v3)] [] (85, I, J, R) 0 0 := by
  refine ow_iload_n 3 rfl d_Mo_bestFor_11 ?_
  refine ow_iconst (v := 2) (by decide) d_Mo_bestFor_12 ?_
  refine ow_aload_n 0 rfl d_Mo_bestFor_13 ?_
  refine ow_gR (a := 73) 184 d_Mo_bestFor_14 rfl rfl (by decide) rfl ⟨rfl, hR 70 15 (by decide)⟩ ?_
  refine ow_iconst (v := 2) (by decide) d_Mo_bestFor_17 ?_
  refine ow_hiaload d_Mo_bestFor_18 (by decide) rfl rfl (show vp_in (2 : Int32) 146 by unfold vp_in; decide) ?_
  show ow_AW ow_Y0 (ow_Z Q) M_Mo_bestFor (d + 1) 0 0 19 [(0, .ref 70), (1, .int v1), (2, .int v2), (3, .int v3)] [.int (I 73 2), .int 2, .int v3] (85, I, J, R) 0 0
  refine ow_imul d_Mo_bestFor_19 ?_
  refine ow_icmp_ge (tgt := 73) d_Mo_bestFor_20 (by decide) (fun c => ?_) (fun c => ?_)
  · replace T := T.1 c
    refine ow_iload_n 2 rfl d_Mo_bestFor_73 ?_
    exact ow_iret d_Mo_bestFor_74 rfl T
  · replace T := T.2 c
    refine ow_aload_n 0 rfl d_Mo_bestFor_23 ?_
    refine ow_aload_n 0 rfl d_Mo_bestFor_24 ?_
    refine ow_gR (a := 77) 188 d_Mo_bestFor_25 rfl rfl (by decide) rfl ⟨rfl, hR 70 19 (by decide)⟩ ?_
    refine ow_iload_n 3 rfl d_Mo_bestFor_28 ?_
    refine ow_callV (b := 70) (cq := 12) (As := [.ref 77, .int v3]) (rest := []) (d2 := d) d_Mo_bestFor_29 l_Mo_268 v_Mo_servedBy (show 70 < 85 by decide) rfl (by decide) rfl (Nat.le_of_ble_eq_true rfl) (Nat.le_refl _) ⟨Nat.le_refl _, Nat.le_refl _⟩ (ow_mono T ?_)
    rintro r h' ⟨r2, I2, J2, R2, rfl, rfl, hR2, T⟩
    show ow_AW ow_Y0 (ow_Z Q) M_Mo_bestFor (d + 1) 0 0 32 [(0, .ref 70), (1, .int v1), (2, .int v2), (3, .int v3)] [.int r2] (85, I2, J2, R2) 0 0
    refine ow_iload_n 1 rfl d_Mo_bestFor_32 ?_
    refine ow_callS (As := [.int r2, .int v1]) (rest := []) (d2 := d) d_Mo_bestFor_33 l_Mo_231 v_Mo_hasBit (Nat.le_of_ble_eq_true rfl) (Nat.le_refl _) ⟨Nat.le_refl _, Nat.le_refl _⟩ (ow_mono T ?_)
    rintro r h' ⟨r3, I3, J3, R3, rfl, rfl, hR3, T⟩
    show ow_AW ow_Y0 (ow_Z Q) M_Mo_bestFor (d + 1) 0 0 36 [(0, .ref 70), (1, .int v1), (2, .int v2), (3, .int v3)] [.int r3] (85, I3, J3, R3) 0 0
    refine ow_if_eq (tgt := 67) d_Mo_bestFor_36 (by decide) (fun c => ?_) (fun c => ?_)
    · replace T := T.1 c
      refine ow_iinc 3 (v := (v3 + 1)) (ls2 := [(3, .int (v3 + 1)), (0, .ref 70), (1, .int v1), (2, .int v2)]) d_Mo_bestFor_67 rfl rfl (by decide) rfl ?_
      refine ow_goto (tgt := 11) d_Mo_bestFor_70 (by decide) ?_
      refine ow_sub [1, 2, 3, 0] rfl ?_
      exact T
    · replace T := T.2 c
      refine ow_iload_n 2 rfl d_Mo_bestFor_39 ?_
      refine ow_if_lt (tgt := 57) d_Mo_bestFor_40 (by decide) (fun c => ?_) (fun c => ?_)
      · replace T := T.1 c
        refine ow_iload_n 3 rfl d_Mo_bestFor_57 ?_
        refine ow_istore_n (ls2 := [(2, .int v3), (0, .ref 70), (1, .int v1), (3, .int v3)]) d_Mo_bestFor_58 (by decide) rfl ?_
        refine ow_aload_n 1 rfl d_Mo_bestFor_59 ?_
        refine ow_aload_n 1 rfl d_Mo_bestFor_60 ?_
        refine ow_gI 196 d_Mo_bestFor_61 rfl rfl (by decide) rfl (Or.inl rfl) ?_
        refine ow_pI 199 d_Mo_bestFor_64 rfl rfl (by decide) rfl rfl rfl ?_
        obtain ⟨I4, eI4⟩ : ∃ uu, uu = ow_u I3 70 30 (I3 70 27) := ⟨_, rfl⟩
        replace T := T I4 eI4
        rw [← eI4]
        refine ow_iinc 3 (v := (v3 + 1)) (ls2 := [(3, .int (v3 + 1)), (2, .int v3), (0, .ref 70), (1, .int v1)]) d_Mo_bestFor_67 rfl rfl (by decide) rfl ?_
        refine ow_goto (tgt := 11) d_Mo_bestFor_70 (by decide) ?_
        refine ow_sub [2, 3, 1, 0] rfl ?_
        exact T
      · replace T := T.2 c
        refine ow_aload_n 0 rfl d_Mo_bestFor_43 ?_
        refine ow_gI 196 d_Mo_bestFor_44 rfl rfl (by decide) rfl (Or.inl rfl) ?_
        refine ow_aload_n 0 rfl d_Mo_bestFor_47 ?_
        refine ow_gI 199 d_Mo_bestFor_48 rfl rfl (by decide) rfl (Or.inl rfl) ?_
        refine ow_icmp_lt (tgt := 57) d_Mo_bestFor_51 (by decide) (fun c => ?_) (fun c => ?_)
        · replace T := T.1 c
          refine ow_iload_n 3 rfl d_Mo_bestFor_57 ?_
          refine ow_istore_n (ls2 := [(2, .int v3), (0, .ref 70), (1, .int v1), (3, .int v3)]) d_Mo_bestFor_58 (by decide) rfl ?_
          refine ow_aload_n 1 rfl d_Mo_bestFor_59 ?_
          refine ow_aload_n 1 rfl d_Mo_bestFor_60 ?_
          refine ow_gI 196 d_Mo_bestFor_61 rfl rfl (by decide) rfl (Or.inl rfl) ?_
          refine ow_pI 199 d_Mo_bestFor_64 rfl rfl (by decide) rfl rfl rfl ?_
          obtain ⟨I5, eI5⟩ : ∃ uu, uu = ow_u I3 70 30 (I3 70 27) := ⟨_, rfl⟩
          replace T := T I5 eI5
          rw [← eI5]
          refine ow_iinc 3 (v := (v3 + 1)) (ls2 := [(3, .int (v3 + 1)), (2, .int v3), (0, .ref 70), (1, .int v1)]) d_Mo_bestFor_67 rfl rfl (by decide) rfl ?_
          refine ow_goto (tgt := 11) d_Mo_bestFor_70 (by decide) ?_
          refine ow_sub [2, 3, 1, 0] rfl ?_
          exact T
        · replace T := T.2 c
          refine ow_goto (tgt := 67) d_Mo_bestFor_54 (by decide) ?_
          refine ow_iinc 3 (v := (v3 + 1)) (ls2 := [(3, .int (v3 + 1)), (0, .ref 70), (1, .int v1), (2, .int v2)]) d_Mo_bestFor_67 rfl rfl (by decide) rfl ?_
          refine ow_goto (tgt := 11) d_Mo_bestFor_70 (by decide) ?_
          refine ow_sub [1, 2, 3, 0] rfl ?_
          exact T
set_option maxRecDepth 4000 in
theorem t_Mo_bestFor {d : Nat} {I : Nat → Nat → Int32} {J : Nat → Nat → Int64} {R : Nat → Nat → Option Nat} {Q : Option Value → ow_H → Prop} {p1 : Int32}  (hR : ow_RF R) (T : (∀ (I6 : Nat → Nat → Int32), I6 = ow_u I 70 30 (-2) → ow_AW ow_Y0 (ow_Z Q) M_Mo_bestFor (d + 1) 0 0 11 [(0, .ref 70), (1, .int p1), (2, .int (-2)), (3, .int 0)] [] (85, I6, J, R) 0 0)) : ow_AM M_Mo_bestFor (d + 1) [.ref 70, .int p1] (85, I, J, R) Q := by
  refine ow_enter (by decide) (Nat.le_of_ble_eq_true rfl) ?_
  show ow_AW ow_Y0 (ow_Z Q) M_Mo_bestFor (d + 1) 0 0 0 [(0, .ref 70), (1, .int p1)] [] (85, I, J, R) 0 0
  refine ow_bipush (v := (-2)) (by decide) d_Mo_bestFor_0 ?_
  refine ow_istore_n (ls2 := [(2, .int (-2)), (0, .ref 70), (1, .int p1)]) d_Mo_bestFor_2 (by decide) rfl ?_
  refine ow_aload_n 1 rfl d_Mo_bestFor_3 ?_
  refine ow_bipush (v := (-2)) (by decide) d_Mo_bestFor_4 ?_
  refine ow_pI 199 d_Mo_bestFor_6 rfl rfl (by decide) rfl rfl rfl ?_
  obtain ⟨I6, eI6⟩ : ∃ uu, uu = ow_u I 70 30 (-2) := ⟨_, rfl⟩
  replace T := T I6 eI6
  rw [← eI6]
  refine ow_iconst (v := 0) (by decide) d_Mo_bestFor_9 ?_
  refine ow_istore_n (ls2 := [(3, .int 0), (2, .int (-2)), (0, .ref 70), (1, .int p1)]) d_Mo_bestFor_10 (by decide) rfl ?_
  refine ow_sub [2, 3, 1, 0] rfl ?_
  exact T
set_option maxRecDepth 4000 in
theorem t_Mo_best {d : Nat} {I : Nat → Nat → Int32} {J : Nat → Nat → Int64} {R : Nat → Nat → Option Nat} {Q : Option Value → ow_H → Prop} {p1 : Int32}  (hR : ow_RF R) (T : (ow_AM M_Mo_good d [.ref 70] (85, I, J, R) (fun r h' => ∃ (I6 : Nat → Nat → Int32) (J6 : Nat → Nat → Int64) (R6 : Nat → Nat → Option Nat), r = none ∧ h' = (85, I6, J6, R6) ∧ ow_RF R6 ∧ (ow_AM M_Mo_isEstate d [.ref 70, .int p1] (85, I6, J6, R6) (fun r h' => ∃ (r7 : Int32) (I7 : Nat → Nat → Int32) (J7 : Nat → Nat → Int64) (R7 : Nat → Nat → Option Nat), r = some (.int r7) ∧ h' = (85, I7, J7, R7) ∧ ow_RF R7 ∧ ((¬ r7 = 0 → (ow_AM M_Mo_asToldShapes d [.ref 70] (85, I7, J7, R7) (fun r h' => ∃ (I8 : Nat → Nat → Int32) (J8 : Nat → Nat → Int64) (R8 : Nat → Nat → Option Nat), r = none ∧ h' = (85, I8, J8, R8) ∧ ow_RF R8 ∧ (ow_AM M_Mo_bestFor d [.ref 70, .int p1] (85, I8, J8, R8) (fun r h' => ∃ (r9 : Int32) (I9 : Nat → Nat → Int32) (J9 : Nat → Nat → Int64) (R9 : Nat → Nat → Option Nat), r = some (.int r9) ∧ h' = (85, I9, J9, R9) ∧ ow_RF R9 ∧ Q (some (.int r9)) (85, I9, J9, R9)))))) ∧ (r7 = 0 → (ow_AM M_Mo_no d [.ref 70, .int 1] (85, I7, J7, R7) (fun r h' => ∃ (r10 : Int32) (I10 : Nat → Nat → Int32) (J10 : Nat → Nat → Int64) (R10 : Nat → Nat → Option Nat), r = some (.int r10) ∧ h' = (85, I10, J10, R10) ∧ ow_RF R10 ∧ Q (some (.int r10)) (85, I10, J10, R10)))))))))) : ow_AM M_Mo_best (d + 1) [.ref 70, .int p1] (85, I, J, R) Q := by
  refine ow_enter (by decide) (Nat.le_of_ble_eq_true rfl) ?_
  show ow_AW ow_Y0 (ow_Z Q) M_Mo_best (d + 1) 0 0 0 [(0, .ref 70), (1, .int p1)] [] (85, I, J, R) 0 0
  refine ow_aload_n 0 rfl d_Mo_best_0 ?_
  refine ow_callV (b := 70) (cq := 12) (As := []) (rest := []) (d2 := d) d_Mo_best_1 l_Mo_154 v_Mo_good (show 70 < 85 by decide) rfl (by decide) rfl (Nat.le_of_ble_eq_true rfl) (Nat.le_refl _) ⟨Nat.le_refl _, Nat.le_refl _⟩ (ow_mono T ?_)
  rintro r h' ⟨I6, J6, R6, rfl, rfl, hR6, T⟩
  show ow_AW ow_Y0 (ow_Z Q) M_Mo_best (d + 1) 0 0 4 [(0, .ref 70), (1, .int p1)] [] (85, I6, J6, R6) 0 0
  refine ow_aload_n 0 rfl d_Mo_best_4 ?_
  refine ow_iload_n 1 rfl d_Mo_best_5 ?_
  refine ow_callV (b := 70) (cq := 12) (As := [.int p1]) (rest := []) (d2 := d) d_Mo_best_6 l_Mo_278 v_Mo_isEstate (show 70 < 85 by decide) rfl (by decide) rfl (Nat.le_of_ble_eq_true rfl) (Nat.le_refl _) ⟨Nat.le_refl _, Nat.le_refl _⟩ (ow_mono T ?_)
  rintro r h' ⟨r7, I7, J7, R7, rfl, rfl, hR7, T⟩
  show ow_AW ow_Y0 (ow_Z Q) M_Mo_best (d + 1) 0 0 9 [(0, .ref 70), (1, .int p1)] [.int r7] (85, I7, J7, R7) 0 0
  refine ow_if_ne (tgt := 18) d_Mo_best_9 (by decide) (fun c => ?_) (fun c => ?_)
  · replace T := T.1 c
    refine ow_aload_n 0 rfl d_Mo_best_18 ?_
    refine ow_callV (b := 70) (cq := 12) (As := []) (rest := []) (d2 := d) d_Mo_best_19 l_Mo_281 v_Mo_asToldShapes (show 70 < 85 by decide) rfl (by decide) rfl (Nat.le_of_ble_eq_true rfl) (Nat.le_refl _) ⟨Nat.le_refl _, Nat.le_refl _⟩ (ow_mono T ?_)
    rintro r h' ⟨I8, J8, R8, rfl, rfl, hR8, T⟩
    show ow_AW ow_Y0 (ow_Z Q) M_Mo_best (d + 1) 0 0 22 [(0, .ref 70), (1, .int p1)] [] (85, I8, J8, R8) 0 0
    refine ow_aload_n 0 rfl d_Mo_best_22 ?_
    refine ow_iload_n 1 rfl d_Mo_best_23 ?_
    refine ow_callV (b := 70) (cq := 12) (As := [.int p1]) (rest := []) (d2 := d) d_Mo_best_24 l_Mo_304 v_Mo_bestFor (show 70 < 85 by decide) rfl (by decide) rfl (Nat.le_of_ble_eq_true rfl) (Nat.le_refl _) ⟨Nat.le_refl _, Nat.le_refl _⟩ (ow_mono T ?_)
    rintro r h' ⟨r9, I9, J9, R9, rfl, rfl, hR9, T⟩
    show ow_AW ow_Y0 (ow_Z Q) M_Mo_best (d + 1) 0 0 27 [(0, .ref 70), (1, .int p1)] [.int r9] (85, I9, J9, R9) 0 0
    exact ow_iret d_Mo_best_27 rfl T
  · replace T := T.2 c
    refine ow_aload_n 0 rfl d_Mo_best_12 ?_
    refine ow_iconst (v := 1) (by decide) d_Mo_best_13 ?_
    refine ow_callV (b := 70) (cq := 12) (As := [.int 1]) (rest := []) (d2 := d) d_Mo_best_14 l_Mo_157 v_Mo_no (show 70 < 85 by decide) rfl (by decide) rfl (Nat.le_of_ble_eq_true rfl) (Nat.le_refl _) ⟨Nat.le_refl _, Nat.le_refl _⟩ (ow_mono T ?_)
    rintro r h' ⟨r10, I10, J10, R10, rfl, rfl, hR10, T⟩
    show ow_AW ow_Y0 (ow_Z Q) M_Mo_best (d + 1) 0 0 17 [(0, .ref 70), (1, .int p1)] [.int r10] (85, I10, J10, R10) 0 0
    exact ow_iret d_Mo_best_17 rfl T
set_option maxRecDepth 4000 in
theorem t_Mo_shortest {d : Nat} {I : Nat → Nat → Int32} {J : Nat → Nat → Int64} {R : Nat → Nat → Option Nat} {Q : Option Value → ow_H → Prop} {p1 : Int32}  (hR : ow_RF R) (T : (ow_AM M_Mo_good d [.ref 70] (85, I, J, R) (fun r h' => ∃ (I6 : Nat → Nat → Int32) (J6 : Nat → Nat → Int64) (R6 : Nat → Nat → Option Nat), r = none ∧ h' = (85, I6, J6, R6) ∧ ow_RF R6 ∧ (ow_AM M_Mo_isEstate d [.ref 70, .int p1] (85, I6, J6, R6) (fun r h' => ∃ (r7 : Int32) (I7 : Nat → Nat → Int32) (J7 : Nat → Nat → Int64) (R7 : Nat → Nat → Option Nat), r = some (.int r7) ∧ h' = (85, I7, J7, R7) ∧ ow_RF R7 ∧ ((¬ r7 = 0 → (ow_AM M_Mo_asToldShapes d [.ref 70] (85, I7, J7, R7) (fun r h' => ∃ (I8 : Nat → Nat → Int32) (J8 : Nat → Nat → Int64) (R8 : Nat → Nat → Option Nat), r = none ∧ h' = (85, I8, J8, R8) ∧ ow_RF R8 ∧ (ow_AM M_Mo_bestFor d [.ref 70, .int p1] (85, I8, J8, R8) (fun r h' => ∃ (r9 : Int32) (I9 : Nat → Nat → Int32) (J9 : Nat → Nat → Int64) (R9 : Nat → Nat → Option Nat), r = some (.int r9) ∧ h' = (85, I9, J9, R9) ∧ ow_RF R9 ∧ Q (some (.int (I9 70 30))) (85, I9, J9, R9)))))) ∧ (r7 = 0 → (ow_AM M_Mo_no d [.ref 70, .int 1] (85, I7, J7, R7) (fun r h' => ∃ (r10 : Int32) (I10 : Nat → Nat → Int32) (J10 : Nat → Nat → Int64) (R10 : Nat → Nat → Option Nat), r = some (.int r10) ∧ h' = (85, I10, J10, R10) ∧ ow_RF R10 ∧ Q (some (.int r10)) (85, I10, J10, R10)))))))))) : ow_AM M_Mo_shortest (d + 1) [.ref 70, .int p1] (85, I, J, R) Q := by
  refine ow_enter (by decide) (Nat.le_of_ble_eq_true rfl) ?_
  show ow_AW ow_Y0 (ow_Z Q) M_Mo_shortest (d + 1) 0 0 0 [(0, .ref 70), (1, .int p1)] [] (85, I, J, R) 0 0
  refine ow_aload_n 0 rfl d_Mo_shortest_0 ?_
  refine ow_callV (b := 70) (cq := 12) (As := []) (rest := []) (d2 := d) d_Mo_shortest_1 l_Mo_154 v_Mo_good (show 70 < 85 by decide) rfl (by decide) rfl (Nat.le_of_ble_eq_true rfl) (Nat.le_refl _) ⟨Nat.le_refl _, Nat.le_refl _⟩ (ow_mono T ?_)
  rintro r h' ⟨I6, J6, R6, rfl, rfl, hR6, T⟩
  show ow_AW ow_Y0 (ow_Z Q) M_Mo_shortest (d + 1) 0 0 4 [(0, .ref 70), (1, .int p1)] [] (85, I6, J6, R6) 0 0
  refine ow_aload_n 0 rfl d_Mo_shortest_4 ?_
  refine ow_iload_n 1 rfl d_Mo_shortest_5 ?_
  refine ow_callV (b := 70) (cq := 12) (As := [.int p1]) (rest := []) (d2 := d) d_Mo_shortest_6 l_Mo_278 v_Mo_isEstate (show 70 < 85 by decide) rfl (by decide) rfl (Nat.le_of_ble_eq_true rfl) (Nat.le_refl _) ⟨Nat.le_refl _, Nat.le_refl _⟩ (ow_mono T ?_)
  rintro r h' ⟨r7, I7, J7, R7, rfl, rfl, hR7, T⟩
  show ow_AW ow_Y0 (ow_Z Q) M_Mo_shortest (d + 1) 0 0 9 [(0, .ref 70), (1, .int p1)] [.int r7] (85, I7, J7, R7) 0 0
  refine ow_if_ne (tgt := 18) d_Mo_shortest_9 (by decide) (fun c => ?_) (fun c => ?_)
  · replace T := T.1 c
    refine ow_aload_n 0 rfl d_Mo_shortest_18 ?_
    refine ow_callV (b := 70) (cq := 12) (As := []) (rest := []) (d2 := d) d_Mo_shortest_19 l_Mo_281 v_Mo_asToldShapes (show 70 < 85 by decide) rfl (by decide) rfl (Nat.le_of_ble_eq_true rfl) (Nat.le_refl _) ⟨Nat.le_refl _, Nat.le_refl _⟩ (ow_mono T ?_)
    rintro r h' ⟨I8, J8, R8, rfl, rfl, hR8, T⟩
    show ow_AW ow_Y0 (ow_Z Q) M_Mo_shortest (d + 1) 0 0 22 [(0, .ref 70), (1, .int p1)] [] (85, I8, J8, R8) 0 0
    refine ow_aload_n 0 rfl d_Mo_shortest_22 ?_
    refine ow_iload_n 1 rfl d_Mo_shortest_23 ?_
    refine ow_callV (b := 70) (cq := 12) (As := [.int p1]) (rest := []) (d2 := d) d_Mo_shortest_24 l_Mo_304 v_Mo_bestFor (show 70 < 85 by decide) rfl (by decide) rfl (Nat.le_of_ble_eq_true rfl) (Nat.le_refl _) ⟨Nat.le_refl _, Nat.le_refl _⟩ (ow_mono T ?_)
    rintro r h' ⟨r9, I9, J9, R9, rfl, rfl, hR9, T⟩
    show ow_AW ow_Y0 (ow_Z Q) M_Mo_shortest (d + 1) 0 0 27 [(0, .ref 70), (1, .int p1)] [.int r9] (85, I9, J9, R9) 0 0
    refine ow_pop rfl d_Mo_shortest_27 ?_
    refine ow_aload_n 0 rfl d_Mo_shortest_28 ?_
    refine ow_gI 199 d_Mo_shortest_29 rfl rfl (by decide) rfl (Or.inl rfl) ?_
    exact ow_iret d_Mo_shortest_32 rfl T
  · replace T := T.2 c
    refine ow_aload_n 0 rfl d_Mo_shortest_12 ?_
    refine ow_iconst (v := 1) (by decide) d_Mo_shortest_13 ?_
    refine ow_callV (b := 70) (cq := 12) (As := [.int 1]) (rest := []) (d2 := d) d_Mo_shortest_14 l_Mo_157 v_Mo_no (show 70 < 85 by decide) rfl (by decide) rfl (Nat.le_of_ble_eq_true rfl) (Nat.le_refl _) ⟨Nat.le_refl _, Nat.le_refl _⟩ (ow_mono T ?_)
    rintro r h' ⟨r10, I10, J10, R10, rfl, rfl, hR10, T⟩
    show ow_AW ow_Y0 (ow_Z Q) M_Mo_shortest (d + 1) 0 0 17 [(0, .ref 70), (1, .int p1)] [.int r10] (85, I10, J10, R10) 0 0
    exact ow_iret d_Mo_shortest_17 rfl T
set_option maxRecDepth 4000 in
theorem t_Mo_widest_28 {d : Nat} {I : Nat → Nat → Int32} {J : Nat → Nat → Int64} {R : Nat → Nat → Option Nat} {Q : Option Value → ow_H → Prop}  {v1 : Int32} {v2 : Int32} {v3 : Int32}  (hR : ow_RF R) (T : (((2 * (I 73 2)) ≤ v3 → Q (some (.int v1)) (85, I, J, R)) ∧ (¬ (2 * (I 73 2)) ≤ v3 → (ow_AM M_Mo_servedBy d [.ref 70, .ref 77, .int v3] (85, I, J, R) (fun r h' => ∃ (r4 : Int32) (I4 : Nat → Nat → Int32) (J4 : Nat → Nat → Int64) (R4 : Nat → Nat → Option Nat), r = some (.int r4) ∧ h' = (85, I4, J4, R4) ∧ ow_RF R4 ∧ (ow_AM M_Mo_ones d [.int r4] (85, I4, J4, R4) (fun r h' => ∃ (r5 : Int32) (I5 : Nat → Nat → Int32) (J5 : Nat → Nat → Int64) (R5 : Nat → Nat → Option Nat), r = some (.int r5) ∧ h' = (85, I5, J5, R5) ∧ ow_RF R5 ∧ ((v2 < r5 → ow_AW ow_Y0 (ow_Z Q) M_Mo_widest (d + 1) 0 0 28 [(0, .ref 70), (1, .int v3), (2, .int r5), (3, .int (v3 + 1))] [] (85, I5, J5, R5) 0 0) ∧ (¬ v2 < r5 → ow_AW ow_Y0 (ow_Z Q) M_Mo_widest (d + 1) 0 0 28 [(0, .ref 70), (1, .int v1), (2, .int v2), (3, .int (v3 + 1))] [] (85, I5, J5, R5) 0 0))))))))) : ow_AW ow_Y0 (ow_Z Q) M_Mo_widest (d + 1) 0 0 28 [(0, .ref 70), (1, .int v1), (2, .int v2), (3, .int v3)] [] (85, I, J, R) 0 0 := by
  refine ow_iload_n 3 rfl d_Mo_widest_28 ?_
  refine ow_iconst (v := 2) (by decide) d_Mo_widest_29 ?_
  refine ow_aload_n 0 rfl d_Mo_widest_30 ?_
  refine ow_gR (a := 73) 184 d_Mo_widest_31 rfl rfl (by decide) rfl ⟨rfl, hR 70 15 (by decide)⟩ ?_
  refine ow_iconst (v := 2) (by decide) d_Mo_widest_34 ?_
  refine ow_hiaload d_Mo_widest_35 (by decide) rfl rfl (show vp_in (2 : Int32) 146 by unfold vp_in; decide) ?_
  show ow_AW ow_Y0 (ow_Z Q) M_Mo_widest (d + 1) 0 0 36 [(0, .ref 70), (1, .int v1), (2, .int v2), (3, .int v3)] [.int (I 73 2), .int 2, .int v3] (85, I, J, R) 0 0
  refine ow_imul d_Mo_widest_36 ?_
  refine ow_icmp_ge (tgt := 74) d_Mo_widest_37 (by decide) (fun c => ?_) (fun c => ?_)
  · replace T := T.1 c
    refine ow_iload_n 1 rfl d_Mo_widest_74 ?_
    exact ow_iret d_Mo_widest_75 rfl T
  · replace T := T.2 c
    refine ow_aload_n 0 rfl d_Mo_widest_40 ?_
    refine ow_aload_n 0 rfl d_Mo_widest_41 ?_
    refine ow_gR (a := 77) 188 d_Mo_widest_42 rfl rfl (by decide) rfl ⟨rfl, hR 70 19 (by decide)⟩ ?_
    refine ow_iload_n 3 rfl d_Mo_widest_45 ?_
    refine ow_callV (b := 70) (cq := 12) (As := [.ref 77, .int v3]) (rest := []) (d2 := d) d_Mo_widest_46 l_Mo_268 v_Mo_servedBy (show 70 < 85 by decide) rfl (by decide) rfl (Nat.le_of_ble_eq_true rfl) (Nat.le_refl _) ⟨Nat.le_refl _, Nat.le_refl _⟩ (ow_mono T ?_)
    rintro r h' ⟨r4, I4, J4, R4, rfl, rfl, hR4, T⟩
    show ow_AW ow_Y0 (ow_Z Q) M_Mo_widest (d + 1) 0 0 49 [(0, .ref 70), (1, .int v1), (2, .int v2), (3, .int v3)] [.int r4] (85, I4, J4, R4) 0 0
    refine ow_callS (As := [.int r4]) (rest := []) (d2 := d) d_Mo_widest_49 l_Mo_307 v_Mo_ones (Nat.le_of_ble_eq_true rfl) (Nat.le_refl _) ⟨Nat.le_refl _, Nat.le_refl _⟩ (ow_mono T ?_)
    rintro r h' ⟨r5, I5, J5, R5, rfl, rfl, hR5, T⟩
    show ow_AW ow_Y0 (ow_Z Q) M_Mo_widest (d + 1) 0 0 52 [(0, .ref 70), (1, .int v1), (2, .int v2), (3, .int v3)] [.int r5] (85, I5, J5, R5) 0 0
    refine ow_istore (ls2 := [(4, .int r5), (0, .ref 70), (1, .int v1), (2, .int v2), (3, .int v3)]) d_Mo_widest_52 (by decide) rfl ?_
    refine ow_iload 0 rfl d_Mo_widest_54 ?_
    refine ow_iload_n 3 rfl d_Mo_widest_56 ?_
    refine ow_icmp_gt (tgt := 63) d_Mo_widest_57 (by decide) (fun c => ?_) (fun c => ?_)
    · replace T := T.1 c
      refine ow_iload_n 4 rfl d_Mo_widest_63 ?_
      refine ow_istore_n (ls2 := [(1, .int v3), (4, .int r5), (0, .ref 70), (2, .int v2), (3, .int v3)]) d_Mo_widest_64 (by decide) rfl ?_
      refine ow_iload 1 rfl d_Mo_widest_65 ?_
      refine ow_istore_n (ls2 := [(2, .int r5), (1, .int v3), (4, .int r5), (0, .ref 70), (3, .int v3)]) d_Mo_widest_67 (by decide) rfl ?_
      refine ow_iinc 4 (v := (v3 + 1)) (ls2 := [(3, .int (v3 + 1)), (2, .int r5), (1, .int v3), (4, .int r5), (0, .ref 70)]) d_Mo_widest_68 rfl rfl (by decide) rfl ?_
      refine ow_goto (tgt := 28) d_Mo_widest_71 (by decide) ?_
      refine ow_sub [4, 2, 1, 0] rfl ?_
      exact T
    · replace T := T.2 c
      refine ow_goto (tgt := 68) d_Mo_widest_60 (by decide) ?_
      refine ow_iinc 4 (v := (v3 + 1)) (ls2 := [(3, .int (v3 + 1)), (4, .int r5), (0, .ref 70), (1, .int v1), (2, .int v2)]) d_Mo_widest_68 rfl rfl (by decide) rfl ?_
      refine ow_goto (tgt := 28) d_Mo_widest_71 (by decide) ?_
      refine ow_sub [2, 3, 4, 0] rfl ?_
      exact T
set_option maxRecDepth 4000 in
theorem t_Mo_widest {d : Nat} {I : Nat → Nat → Int32} {J : Nat → Nat → Int64} {R : Nat → Nat → Option Nat} {Q : Option Value → ow_H → Prop}   (hR : ow_RF R) (T : (ow_AM M_Mo_good d [.ref 70] (85, I, J, R) (fun r h' => ∃ (I6 : Nat → Nat → Int32) (J6 : Nat → Nat → Int64) (R6 : Nat → Nat → Option Nat), r = none ∧ h' = (85, I6, J6, R6) ∧ ow_RF R6 ∧ ((¬ (I6 70 14) = 0 → (ow_AM M_Mo_asToldShapes d [.ref 70] (85, I6, J6, R6) (fun r h' => ∃ (I7 : Nat → Nat → Int32) (J7 : Nat → Nat → Int64) (R7 : Nat → Nat → Option Nat), r = none ∧ h' = (85, I7, J7, R7) ∧ ow_RF R7 ∧ ow_AW ow_Y0 (ow_Z Q) M_Mo_widest (d + 1) 0 0 28 [(0, .ref 70), (1, .int (-2)), (2, .int 0), (3, .int 0)] [] (85, I7, J7, R7) 0 0))) ∧ ((I6 70 14) = 0 → (ow_AM M_Mo_no d [.ref 70, .int 1] (85, I6, J6, R6) (fun r h' => ∃ (r8 : Int32) (I8 : Nat → Nat → Int32) (J8 : Nat → Nat → Int64) (R8 : Nat → Nat → Option Nat), r = some (.int r8) ∧ h' = (85, I8, J8, R8) ∧ ow_RF R8 ∧ Q (some (.int r8)) (85, I8, J8, R8)))))))) : ow_AM M_Mo_widest (d + 1) [.ref 70] (85, I, J, R) Q := by
  refine ow_enter (by decide) (Nat.le_of_ble_eq_true rfl) ?_
  show ow_AW ow_Y0 (ow_Z Q) M_Mo_widest (d + 1) 0 0 0 [(0, .ref 70)] [] (85, I, J, R) 0 0
  refine ow_aload_n 0 rfl d_Mo_widest_0 ?_
  refine ow_callV (b := 70) (cq := 12) (As := []) (rest := []) (d2 := d) d_Mo_widest_1 l_Mo_154 v_Mo_good (show 70 < 85 by decide) rfl (by decide) rfl (Nat.le_of_ble_eq_true rfl) (Nat.le_refl _) ⟨Nat.le_refl _, Nat.le_refl _⟩ (ow_mono T ?_)
  rintro r h' ⟨I6, J6, R6, rfl, rfl, hR6, T⟩
  show ow_AW ow_Y0 (ow_Z Q) M_Mo_widest (d + 1) 0 0 4 [(0, .ref 70)] [] (85, I6, J6, R6) 0 0
  refine ow_aload_n 0 rfl d_Mo_widest_4 ?_
  refine ow_gI 183 d_Mo_widest_5 rfl rfl (by decide) rfl (Or.inr rfl) ?_
  refine ow_if_ne (tgt := 17) d_Mo_widest_8 (by decide) (fun c => ?_) (fun c => ?_)
  · replace T := T.1 c
    refine ow_aload_n 0 rfl d_Mo_widest_17 ?_
    refine ow_callV (b := 70) (cq := 12) (As := []) (rest := []) (d2 := d) d_Mo_widest_18 l_Mo_281 v_Mo_asToldShapes (show 70 < 85 by decide) rfl (by decide) rfl (Nat.le_of_ble_eq_true rfl) (Nat.le_refl _) ⟨Nat.le_refl _, Nat.le_refl _⟩ (ow_mono T ?_)
    rintro r h' ⟨I7, J7, R7, rfl, rfl, hR7, T⟩
    show ow_AW ow_Y0 (ow_Z Q) M_Mo_widest (d + 1) 0 0 21 [(0, .ref 70)] [] (85, I7, J7, R7) 0 0
    refine ow_bipush (v := (-2)) (by decide) d_Mo_widest_21 ?_
    refine ow_istore_n (ls2 := [(1, .int (-2)), (0, .ref 70)]) d_Mo_widest_23 (by decide) rfl ?_
    refine ow_iconst (v := 0) (by decide) d_Mo_widest_24 ?_
    refine ow_istore_n (ls2 := [(2, .int 0), (1, .int (-2)), (0, .ref 70)]) d_Mo_widest_25 (by decide) rfl ?_
    refine ow_iconst (v := 0) (by decide) d_Mo_widest_26 ?_
    refine ow_istore_n (ls2 := [(3, .int 0), (2, .int 0), (1, .int (-2)), (0, .ref 70)]) d_Mo_widest_27 (by decide) rfl ?_
    refine ow_sub [3, 2, 1, 0] rfl ?_
    exact T
  · replace T := T.2 c
    refine ow_aload_n 0 rfl d_Mo_widest_11 ?_
    refine ow_iconst (v := 1) (by decide) d_Mo_widest_12 ?_
    refine ow_callV (b := 70) (cq := 12) (As := [.int 1]) (rest := []) (d2 := d) d_Mo_widest_13 l_Mo_157 v_Mo_no (show 70 < 85 by decide) rfl (by decide) rfl (Nat.le_of_ble_eq_true rfl) (Nat.le_refl _) ⟨Nat.le_refl _, Nat.le_refl _⟩ (ow_mono T ?_)
    rintro r h' ⟨r8, I8, J8, R8, rfl, rfl, hR8, T⟩
    show ow_AW ow_Y0 (ow_Z Q) M_Mo_widest (d + 1) 0 0 16 [(0, .ref 70)] [.int r8] (85, I8, J8, R8) 0 0
    exact ow_iret d_Mo_widest_16 rfl T
set_option maxRecDepth 4000 in
theorem t_Mo_servedWith {d : Nat} {I : Nat → Nat → Int32} {J : Nat → Nat → Int64} {R : Nat → Nat → Option Nat} {Q : Option Value → ow_H → Prop} {p1 : Int32} {p2 : Int32}  (hR : ow_RF R) (T : (ow_AM M_Mo_copy d [.ref 77, .int 0, .ref 82, .int 0, .int 14] (85, I, J, R) (fun r h' => ∃ (I8 : Nat → Nat → Int32) (J8 : Nat → Nat → Int64) (R8 : Nat → Nat → Option Nat), r = none ∧ h' = (85, I8, J8, R8) ∧ ow_RF R8 ∧ ((¬ p2 = p1 → (vp_in (6 + p1) 14 ∧ (∀ (I9 : Nat → Nat → Int32), I9 = ow_u I8 82 ((6 + p1).toNatClampNeg) (p2 + 1) → (ow_AM M_Mo_servedOn d [.ref 70, .ref 82] (85, I9, J8, R8) (fun r h' => ∃ (r10 : Int32) (I10 : Nat → Nat → Int32) (J10 : Nat → Nat → Int64) (R10 : Nat → Nat → Option Nat), r = some (.int r10) ∧ h' = (85, I10, J10, R10) ∧ ow_RF R10 ∧ (ow_AM M_Mo_ones d [.int r10] (85, I10, J10, R10) (fun r h' => ∃ (r11 : Int32) (I11 : Nat → Nat → Int32) (J11 : Nat → Nat → Int64) (R11 : Nat → Nat → Option Nat), r = some (.int r11) ∧ h' = (85, I11, J11, R11) ∧ ow_RF R11 ∧ Q (some (.int r11)) (85, I11, J11, R11)))))))) ∧ (p2 = p1 → (vp_in (6 + p1) 14 ∧ (∀ (I12 : Nat → Nat → Int32), I12 = ow_u I8 82 ((6 + p1).toNatClampNeg) 0 → (ow_AM M_Mo_servedOn d [.ref 70, .ref 82] (85, I12, J8, R8) (fun r h' => ∃ (r13 : Int32) (I13 : Nat → Nat → Int32) (J13 : Nat → Nat → Int64) (R13 : Nat → Nat → Option Nat), r = some (.int r13) ∧ h' = (85, I13, J13, R13) ∧ ow_RF R13 ∧ (ow_AM M_Mo_ones d [.int r13] (85, I13, J13, R13) (fun r h' => ∃ (r14 : Int32) (I14 : Nat → Nat → Int32) (J14 : Nat → Nat → Int64) (R14 : Nat → Nat → Option Nat), r = some (.int r14) ∧ h' = (85, I14, J14, R14) ∧ ow_RF R14 ∧ Q (some (.int r14)) (85, I14, J14, R14)))))))))))) : ow_AM M_Mo_servedWith (d + 1) [.ref 70, .int p1, .int p2] (85, I, J, R) Q := by
  refine ow_enter (by decide) (Nat.le_of_ble_eq_true rfl) ?_
  show ow_AW ow_Y0 (ow_Z Q) M_Mo_servedWith (d + 1) 0 0 0 [(0, .ref 70), (1, .int p1), (2, .int p2)] [] (85, I, J, R) 0 0
  refine ow_aload_n 0 rfl d_Mo_servedWith_0 ?_
  refine ow_gR (a := 77) 188 d_Mo_servedWith_1 rfl rfl (by decide) rfl ⟨rfl, hR 70 19 (by decide)⟩ ?_
  refine ow_iconst (v := 0) (by decide) d_Mo_servedWith_4 ?_
  refine ow_aload_n 0 rfl d_Mo_servedWith_5 ?_
  refine ow_gR (a := 82) 200 d_Mo_servedWith_6 rfl rfl (by decide) rfl ⟨rfl, hR 70 31 (by decide)⟩ ?_
  refine ow_iconst (v := 0) (by decide) d_Mo_servedWith_9 ?_
  refine ow_bipush (v := 14) (by decide) d_Mo_servedWith_10 ?_
  refine ow_callS (As := [.ref 77, .int 0, .ref 82, .int 0, .int 14]) (rest := []) (d2 := d) d_Mo_servedWith_12 l_Mo_163 v_Mo_copy (Nat.le_of_ble_eq_true rfl) (Nat.le_refl _) ⟨Nat.le_refl _, Nat.le_refl _⟩ (ow_mono T ?_)
  rintro r h' ⟨I8, J8, R8, rfl, rfl, hR8, T⟩
  show ow_AW ow_Y0 (ow_Z Q) M_Mo_servedWith (d + 1) 0 0 15 [(0, .ref 70), (1, .int p1), (2, .int p2)] [] (85, I8, J8, R8) 0 0
  refine ow_aload_n 0 rfl d_Mo_servedWith_15 ?_
  refine ow_gR (a := 82) 200 d_Mo_servedWith_16 rfl rfl (by decide) rfl ⟨rfl, hR8 70 31 (by decide)⟩ ?_
  refine ow_bipush (v := 6) (by decide) d_Mo_servedWith_19 ?_
  refine ow_iload_n 1 rfl d_Mo_servedWith_21 ?_
  refine ow_iadd d_Mo_servedWith_22 ?_
  refine ow_iload_n 2 rfl d_Mo_servedWith_23 ?_
  refine ow_iload_n 1 rfl d_Mo_servedWith_24 ?_
  refine ow_icmp_ne (tgt := 32) d_Mo_servedWith_25 (by decide) (fun c => ?_) (fun c => ?_)
  · replace T := T.1 c
    refine ow_iload_n 2 rfl d_Mo_servedWith_32 ?_
    refine ow_iconst (v := 1) (by decide) d_Mo_servedWith_33 ?_
    refine ow_iadd d_Mo_servedWith_34 ?_
    obtain ⟨cI, T⟩ := T
    refine ow_hiastore d_Mo_servedWith_35 (by decide) rfl rfl cI ?_
    obtain ⟨I9, eI9⟩ : ∃ uu, uu = ow_u I8 82 ((6 + p1).toNatClampNeg) (p2 + 1) := ⟨_, rfl⟩
    replace T := T I9 eI9
    rw [← eI9]
    refine ow_aload_n 0 rfl d_Mo_servedWith_36 ?_
    refine ow_aload_n 0 rfl d_Mo_servedWith_37 ?_
    refine ow_gR (a := 82) 200 d_Mo_servedWith_38 rfl rfl (by decide) rfl ⟨rfl, hR8 70 31 (by decide)⟩ ?_
    refine ow_callV (b := 70) (cq := 12) (As := [.ref 82]) (rest := []) (d2 := d) d_Mo_servedWith_41 l_Mo_284 v_Mo_servedOn (show 70 < 85 by decide) rfl (by decide) rfl (Nat.le_of_ble_eq_true rfl) (Nat.le_refl _) ⟨Nat.le_refl _, Nat.le_refl _⟩ (ow_mono T ?_)
    rintro r h' ⟨r10, I10, J10, R10, rfl, rfl, hR10, T⟩
    show ow_AW ow_Y0 (ow_Z Q) M_Mo_servedWith (d + 1) 0 0 44 [(0, .ref 70), (1, .int p1), (2, .int p2)] [.int r10] (85, I10, J10, R10) 0 0
    refine ow_callS (As := [.int r10]) (rest := []) (d2 := d) d_Mo_servedWith_44 l_Mo_307 v_Mo_ones (Nat.le_of_ble_eq_true rfl) (Nat.le_refl _) ⟨Nat.le_refl _, Nat.le_refl _⟩ (ow_mono T ?_)
    rintro r h' ⟨r11, I11, J11, R11, rfl, rfl, hR11, T⟩
    show ow_AW ow_Y0 (ow_Z Q) M_Mo_servedWith (d + 1) 0 0 47 [(0, .ref 70), (1, .int p1), (2, .int p2)] [.int r11] (85, I11, J11, R11) 0 0
    exact ow_iret d_Mo_servedWith_47 rfl T
  · replace T := T.2 c
    refine ow_iconst (v := 0) (by decide) d_Mo_servedWith_28 ?_
    refine ow_goto (tgt := 35) d_Mo_servedWith_29 (by decide) ?_
    obtain ⟨cI, T⟩ := T
    refine ow_hiastore d_Mo_servedWith_35 (by decide) rfl rfl cI ?_
    obtain ⟨I12, eI12⟩ : ∃ uu, uu = ow_u I8 82 ((6 + p1).toNatClampNeg) 0 := ⟨_, rfl⟩
    replace T := T I12 eI12
    rw [← eI12]
    refine ow_aload_n 0 rfl d_Mo_servedWith_36 ?_
    refine ow_aload_n 0 rfl d_Mo_servedWith_37 ?_
    refine ow_gR (a := 82) 200 d_Mo_servedWith_38 rfl rfl (by decide) rfl ⟨rfl, hR8 70 31 (by decide)⟩ ?_
    refine ow_callV (b := 70) (cq := 12) (As := [.ref 82]) (rest := []) (d2 := d) d_Mo_servedWith_41 l_Mo_284 v_Mo_servedOn (show 70 < 85 by decide) rfl (by decide) rfl (Nat.le_of_ble_eq_true rfl) (Nat.le_refl _) ⟨Nat.le_refl _, Nat.le_refl _⟩ (ow_mono T ?_)
    rintro r h' ⟨r13, I13, J13, R13, rfl, rfl, hR13, T⟩
    show ow_AW ow_Y0 (ow_Z Q) M_Mo_servedWith (d + 1) 0 0 44 [(0, .ref 70), (1, .int p1), (2, .int p2)] [.int r13] (85, I13, J13, R13) 0 0
    refine ow_callS (As := [.int r13]) (rest := []) (d2 := d) d_Mo_servedWith_44 l_Mo_307 v_Mo_ones (Nat.le_of_ble_eq_true rfl) (Nat.le_refl _) ⟨Nat.le_refl _, Nat.le_refl _⟩ (ow_mono T ?_)
    rintro r h' ⟨r14, I14, J14, R14, rfl, rfl, hR14, T⟩
    show ow_AW ow_Y0 (ow_Z Q) M_Mo_servedWith (d + 1) 0 0 47 [(0, .ref 70), (1, .int p1), (2, .int p2)] [.int r14] (85, I14, J14, R14) 0 0
    exact ow_iret d_Mo_servedWith_47 rfl T
set_option maxRecDepth 4000 in
theorem t_Mo_changeOf_29 {d : Nat} {I : Nat → Nat → Int32} {J : Nat → Nat → Int64} {R : Nat → Nat → Option Nat} {Q : Option Value → ow_H → Prop}  {v1 : Int32} {v2 : Int32} {v3 : Int32}  (hR : ow_RF R) (T : (((I 73 2) ≤ v3 → ((¬ (I 70 32) = v2 → Q (some (.int v1)) (85, I, J, R)) ∧ ((I 70 32) = v2 → (∀ (I5 : Nat → Nat → Int32), I5 = ow_u I 70 32 (-2) → Q (some (.int v1)) (85, I5, J, R))))) ∧ (¬ (I 73 2) ≤ v3 → ow_AW ow_Y0 (ow_Z Q) M_Mo_changeOf (d + 1) 0 0 42 [(0, .ref 70), (1, .int v1), (2, .int v2), (3, .int v3), (4, .int (-1))] [] (85, I, J, R) 0 0))) : ow_AW ow_Y0 (ow_Z Q) M_Mo_changeOf (d + 1) 0 0 29 [(0, .ref 70), (1, .int v1), (2, .int v2), (3, .int v3)] [] (85, I, J, R) 0 0 := by
  refine ow_iload_n 3 rfl d_Mo_changeOf_29 ?_
  refine ow_aload_n 0 rfl d_Mo_changeOf_30 ?_
  refine ow_gR (a := 73) 184 d_Mo_changeOf_31 rfl rfl (by decide) rfl ⟨rfl, hR 70 15 (by decide)⟩ ?_
  refine ow_iconst (v := 2) (by decide) d_Mo_changeOf_34 ?_
  refine ow_hiaload d_Mo_changeOf_35 (by decide) rfl rfl (show vp_in (2 : Int32) 146 by unfold vp_in; decide) ?_
  show ow_AW ow_Y0 (ow_Z Q) M_Mo_changeOf (d + 1) 0 0 36 [(0, .ref 70), (1, .int v1), (2, .int v2), (3, .int v3)] [.int (I 73 2), .int v3] (85, I, J, R) 0 0
  refine ow_icmp_ge (tgt := 120) d_Mo_changeOf_36 (by decide) (fun c => ?_) (fun c => ?_)
  · replace T := T.1 c
    refine ow_aload_n 0 rfl d_Mo_changeOf_120 ?_
    refine ow_gI 201 d_Mo_changeOf_121 rfl rfl (by decide) rfl (Or.inl rfl) ?_
    refine ow_iload_n 2 rfl d_Mo_changeOf_124 ?_
    refine ow_icmp_ne (tgt := 134) d_Mo_changeOf_125 (by decide) (fun c => ?_) (fun c => ?_)
    · replace T := T.1 c
      refine ow_iload_n 1 rfl d_Mo_changeOf_134 ?_
      exact ow_iret d_Mo_changeOf_135 rfl T
    · replace T := T.2 c
      refine ow_aload_n 0 rfl d_Mo_changeOf_128 ?_
      refine ow_bipush (v := (-2)) (by decide) d_Mo_changeOf_129 ?_
      refine ow_pI 201 d_Mo_changeOf_131 rfl rfl (by decide) rfl rfl rfl ?_
      obtain ⟨I5, eI5⟩ : ∃ uu, uu = ow_u I 70 32 (-2) := ⟨_, rfl⟩
      replace T := T I5 eI5
      rw [← eI5]
      refine ow_iload_n 1 rfl d_Mo_changeOf_134 ?_
      exact ow_iret d_Mo_changeOf_135 rfl T
  · replace T := T.2 c
    refine ow_iconst (v := (-1)) (by decide) d_Mo_changeOf_39 ?_
    refine ow_istore (ls2 := [(4, .int (-1)), (0, .ref 70), (1, .int v1), (2, .int v2), (3, .int v3)]) d_Mo_changeOf_40 (by decide) rfl ?_
    refine ow_sub [1, 2, 3, 4, 0] rfl ?_
    exact T
set_option maxRecDepth 4000 in
theorem t_Mo_changeOf_42 {d : Nat} {I : Nat → Nat → Int32} {J : Nat → Nat → Int64} {R : Nat → Nat → Option Nat} {Q : Option Value → ow_H → Prop}  {v1 : Int32} {v2 : Int32} {v3 : Int32} {v4 : Int32}  (hR : ow_RF R) (T : (((I 73 2) ≤ v4 → ow_AW ow_Y0 (ow_Z Q) M_Mo_changeOf (d + 1) 0 0 29 [(0, .ref 70), (1, .int v1), (2, .int v2), (3, .int (v3 + 1))] [] (85, I, J, R) 0 0) ∧ (¬ (I 73 2) ≤ v4 → ((0 ≤ v4 → ((v4 = v3 → ow_AW ow_Y0 (ow_Z Q) M_Mo_changeOf (d + 1) 0 0 42 [(0, .ref 70), (1, .int v1), (2, .int v2), (3, .int v3), (4, .int (v4 + 1))] [] (85, I, J, R) 0 0) ∧ (¬ v4 = v3 → (ow_AM M_Mo_servedWith d [.ref 70, .int v3, .int v4] (85, I, J, R) (fun r h' => ∃ (r6 : Int32) (I6 : Nat → Nat → Int32) (J6 : Nat → Nat → Int64) (R6 : Nat → Nat → Option Nat), r = some (.int r6) ∧ h' = (85, I6, J6, R6) ∧ ow_RF R6 ∧ (((I6 70 32) < r6 → (ow_AM M_Mo_servedWith d [.ref 70, .int v3, .int v4] (85, I6, J6, R6) (fun r h' => ∃ (r7 : Int32) (I7 : Nat → Nat → Int32) (J7 : Nat → Nat → Int64) (R7 : Nat → Nat → Option Nat), r = some (.int r7) ∧ h' = (85, I7, J7, R7) ∧ ow_RF R7 ∧ (∀ (I8 : Nat → Nat → Int32), I8 = ow_u I7 70 32 r7 → ow_AW ow_Y0 (ow_Z Q) M_Mo_changeOf (d + 1) 0 0 42 [(0, .ref 70), (1, .int ((10 * v3) + v4)), (2, .int v2), (3, .int v3), (4, .int (v4 + 1))] [] (85, I8, J7, R7) 0 0)))) ∧ (¬ (I6 70 32) < r6 → ow_AW ow_Y0 (ow_Z Q) M_Mo_changeOf (d + 1) 0 0 42 [(0, .ref 70), (1, .int v1), (2, .int v2), (3, .int v3), (4, .int (v4 + 1))] [] (85, I6, J6, R6) 0 0))))))) ∧ (¬ 0 ≤ v4 → ((v4 = v3 → ow_AW ow_Y0 (ow_Z Q) M_Mo_changeOf (d + 1) 0 0 42 [(0, .ref 70), (1, .int v1), (2, .int v2), (3, .int v3), (4, .int (v4 + 1))] [] (85, I, J, R) 0 0) ∧ (¬ v4 = v3 → (ow_AM M_Mo_servedWith d [.ref 70, .int v3, .int v3] (85, I, J, R) (fun r h' => ∃ (r9 : Int32) (I9 : Nat → Nat → Int32) (J9 : Nat → Nat → Int64) (R9 : Nat → Nat → Option Nat), r = some (.int r9) ∧ h' = (85, I9, J9, R9) ∧ ow_RF R9 ∧ (((I9 70 32) < r9 → (ow_AM M_Mo_servedWith d [.ref 70, .int v3, .int v3] (85, I9, J9, R9) (fun r h' => ∃ (r10 : Int32) (I10 : Nat → Nat → Int32) (J10 : Nat → Nat → Int64) (R10 : Nat → Nat → Option Nat), r = some (.int r10) ∧ h' = (85, I10, J10, R10) ∧ ow_RF R10 ∧ (∀ (I11 : Nat → Nat → Int32), I11 = ow_u I10 70 32 r10 → ow_AW ow_Y0 (ow_Z Q) M_Mo_changeOf (d + 1) 0 0 42 [(0, .ref 70), (1, .int ((10 * v3) + v3)), (2, .int v2), (3, .int v3), (4, .int (v4 + 1))] [] (85, I11, J10, R10) 0 0)))) ∧ (¬ (I9 70 32) < r9 → ow_AW ow_Y0 (ow_Z Q) M_Mo_changeOf (d + 1) 0 0 42 [(0, .ref 70), (1, .int v1), (2, .int v2), (3, .int v3), (4, .int (v4 + 1))] [] (85, I9, J9, R9) 0 0))))))))))) : ow_AW ow_Y0 (ow_Z Q) M_Mo_changeOf (d + 1) 0 0 42 [(0, .ref 70), (1, .int v1), (2, .int v2), (3, .int v3), (4, .int v4)] [] (85, I, J, R) 0 0 := by
  refine ow_iload 4 rfl d_Mo_changeOf_42 ?_
  refine ow_aload_n 0 rfl d_Mo_changeOf_44 ?_
  refine ow_gR (a := 73) 184 d_Mo_changeOf_45 rfl rfl (by decide) rfl ⟨rfl, hR 70 15 (by decide)⟩ ?_
  refine ow_iconst (v := 2) (by decide) d_Mo_changeOf_48 ?_
  refine ow_hiaload d_Mo_changeOf_49 (by decide) rfl rfl (show vp_in (2 : Int32) 146 by unfold vp_in; decide) ?_
  show ow_AW ow_Y0 (ow_Z Q) M_Mo_changeOf (d + 1) 0 0 50 [(0, .ref 70), (1, .int v1), (2, .int v2), (3, .int v3), (4, .int v4)] [.int (I 73 2), .int v4] (85, I, J, R) 0 0
  refine ow_icmp_ge (tgt := 114) d_Mo_changeOf_50 (by decide) (fun c => ?_) (fun c => ?_)
  · replace T := T.1 c
    refine ow_iinc 3 (v := (v3 + 1)) (ls2 := [(3, .int (v3 + 1)), (0, .ref 70), (1, .int v1), (2, .int v2), (4, .int v4)]) d_Mo_changeOf_114 rfl rfl (by decide) rfl ?_
    refine ow_goto (tgt := 29) d_Mo_changeOf_117 (by decide) ?_
    refine ow_sub [1, 2, 3, 0] rfl ?_
    exact T
  · replace T := T.2 c
    refine ow_iload 4 rfl d_Mo_changeOf_53 ?_
    refine ow_if_ge (tgt := 62) d_Mo_changeOf_55 (by decide) (fun c => ?_) (fun c => ?_)
    · replace T := T.1 c
      refine ow_iload 4 rfl d_Mo_changeOf_62 ?_
      refine ow_istore (ls2 := [(5, .int v4), (0, .ref 70), (1, .int v1), (2, .int v2), (3, .int v3), (4, .int v4)]) d_Mo_changeOf_64 (by decide) rfl ?_
      refine ow_iload 5 rfl d_Mo_changeOf_66 ?_
      refine ow_iload_n 4 rfl d_Mo_changeOf_68 ?_
      refine ow_icmp_eq (tgt := 108) d_Mo_changeOf_69 (by decide) (fun c => ?_) (fun c => ?_)
      · replace T := T.1 c
        refine ow_iinc 5 (v := (v4 + 1)) (ls2 := [(4, .int (v4 + 1)), (5, .int v4), (0, .ref 70), (1, .int v1), (2, .int v2), (3, .int v3)]) d_Mo_changeOf_108 rfl rfl (by decide) rfl ?_
        refine ow_goto (tgt := 42) d_Mo_changeOf_111 (by decide) ?_
        refine ow_sub [2, 3, 4, 5, 0] rfl ?_
        exact T
      · replace T := T.2 c
        refine ow_aload_n 1 rfl d_Mo_changeOf_72 ?_
        refine ow_iload_n 4 rfl d_Mo_changeOf_73 ?_
        refine ow_iload 0 rfl d_Mo_changeOf_74 ?_
        refine ow_callV (b := 70) (cq := 12) (As := [.int v3, .int v4]) (rest := []) (d2 := d) d_Mo_changeOf_76 l_Mo_313 v_Mo_servedWith (show 70 < 85 by decide) rfl (by decide) rfl (Nat.le_of_ble_eq_true rfl) (Nat.le_refl _) ⟨Nat.le_refl _, Nat.le_refl _⟩ (ow_mono T ?_)
        rintro r h' ⟨r6, I6, J6, R6, rfl, rfl, hR6, T⟩
        show ow_AW ow_Y0 (ow_Z Q) M_Mo_changeOf (d + 1) 0 0 79 [(5, .int v4), (0, .ref 70), (1, .int v1), (2, .int v2), (3, .int v3), (4, .int v4)] [.int r6] (85, I6, J6, R6) 0 0
        refine ow_aload_n 1 rfl d_Mo_changeOf_79 ?_
        refine ow_gI 201 d_Mo_changeOf_80 rfl rfl (by decide) rfl (Or.inl rfl) ?_
        refine ow_icmp_gt (tgt := 89) d_Mo_changeOf_83 (by decide) (fun c => ?_) (fun c => ?_)
        · replace T := T.1 c
          refine ow_bipush (v := 10) (by decide) d_Mo_changeOf_89 ?_
          refine ow_iload_n 4 rfl d_Mo_changeOf_91 ?_
          refine ow_imul d_Mo_changeOf_92 ?_
          refine ow_iload 0 rfl d_Mo_changeOf_93 ?_
          refine ow_iadd d_Mo_changeOf_95 ?_
          refine ow_istore_n (ls2 := [(1, .int ((10 * v3) + v4)), (5, .int v4), (0, .ref 70), (2, .int v2), (3, .int v3), (4, .int v4)]) d_Mo_changeOf_96 (by decide) rfl ?_
          refine ow_aload_n 2 rfl d_Mo_changeOf_97 ?_
          refine ow_aload_n 2 rfl d_Mo_changeOf_98 ?_
          refine ow_iload_n 4 rfl d_Mo_changeOf_99 ?_
          refine ow_iload 1 rfl d_Mo_changeOf_100 ?_
          refine ow_callV (b := 70) (cq := 12) (As := [.int v3, .int v4]) (rest := [.ref 70]) (d2 := d) d_Mo_changeOf_102 l_Mo_313 v_Mo_servedWith (show 70 < 85 by decide) rfl (by decide) rfl (Nat.le_of_ble_eq_true rfl) (Nat.le_refl _) ⟨Nat.le_refl _, Nat.le_refl _⟩ (ow_mono T ?_)
          rintro r h' ⟨r7, I7, J7, R7, rfl, rfl, hR7, T⟩
          show ow_AW ow_Y0 (ow_Z Q) M_Mo_changeOf (d + 1) 0 0 105 [(1, .int ((10 * v3) + v4)), (5, .int v4), (0, .ref 70), (2, .int v2), (3, .int v3), (4, .int v4)] [.int r7, .ref 70] (85, I7, J7, R7) 0 0
          refine ow_pI 201 d_Mo_changeOf_105 rfl rfl (by decide) rfl rfl rfl ?_
          obtain ⟨I8, eI8⟩ : ∃ uu, uu = ow_u I7 70 32 r7 := ⟨_, rfl⟩
          replace T := T I8 eI8
          rw [← eI8]
          refine ow_iinc 5 (v := (v4 + 1)) (ls2 := [(4, .int (v4 + 1)), (1, .int ((10 * v3) + v4)), (5, .int v4), (0, .ref 70), (2, .int v2), (3, .int v3)]) d_Mo_changeOf_108 rfl rfl (by decide) rfl ?_
          refine ow_goto (tgt := 42) d_Mo_changeOf_111 (by decide) ?_
          refine ow_sub [3, 1, 4, 5, 0] rfl ?_
          exact T
        · replace T := T.2 c
          refine ow_goto (tgt := 108) d_Mo_changeOf_86 (by decide) ?_
          refine ow_iinc 5 (v := (v4 + 1)) (ls2 := [(4, .int (v4 + 1)), (5, .int v4), (0, .ref 70), (1, .int v1), (2, .int v2), (3, .int v3)]) d_Mo_changeOf_108 rfl rfl (by decide) rfl ?_
          refine ow_goto (tgt := 42) d_Mo_changeOf_111 (by decide) ?_
          refine ow_sub [2, 3, 4, 5, 0] rfl ?_
          exact T
    · replace T := T.2 c
      refine ow_iload_n 3 rfl d_Mo_changeOf_58 ?_
      refine ow_goto (tgt := 64) d_Mo_changeOf_59 (by decide) ?_
      refine ow_istore (ls2 := [(5, .int v3), (0, .ref 70), (1, .int v1), (2, .int v2), (3, .int v3), (4, .int v4)]) d_Mo_changeOf_64 (by decide) rfl ?_
      refine ow_iload 5 rfl d_Mo_changeOf_66 ?_
      refine ow_iload_n 4 rfl d_Mo_changeOf_68 ?_
      refine ow_icmp_eq (tgt := 108) d_Mo_changeOf_69 (by decide) (fun c => ?_) (fun c => ?_)
      · replace T := T.1 c
        refine ow_iinc 5 (v := (v4 + 1)) (ls2 := [(4, .int (v4 + 1)), (5, .int v3), (0, .ref 70), (1, .int v1), (2, .int v2), (3, .int v3)]) d_Mo_changeOf_108 rfl rfl (by decide) rfl ?_
        refine ow_goto (tgt := 42) d_Mo_changeOf_111 (by decide) ?_
        refine ow_sub [2, 3, 4, 5, 0] rfl ?_
        exact T
      · replace T := T.2 c
        refine ow_aload_n 1 rfl d_Mo_changeOf_72 ?_
        refine ow_iload_n 4 rfl d_Mo_changeOf_73 ?_
        refine ow_iload 0 rfl d_Mo_changeOf_74 ?_
        refine ow_callV (b := 70) (cq := 12) (As := [.int v3, .int v3]) (rest := []) (d2 := d) d_Mo_changeOf_76 l_Mo_313 v_Mo_servedWith (show 70 < 85 by decide) rfl (by decide) rfl (Nat.le_of_ble_eq_true rfl) (Nat.le_refl _) ⟨Nat.le_refl _, Nat.le_refl _⟩ (ow_mono T ?_)
        rintro r h' ⟨r9, I9, J9, R9, rfl, rfl, hR9, T⟩
        show ow_AW ow_Y0 (ow_Z Q) M_Mo_changeOf (d + 1) 0 0 79 [(5, .int v3), (0, .ref 70), (1, .int v1), (2, .int v2), (3, .int v3), (4, .int v4)] [.int r9] (85, I9, J9, R9) 0 0
        refine ow_aload_n 1 rfl d_Mo_changeOf_79 ?_
        refine ow_gI 201 d_Mo_changeOf_80 rfl rfl (by decide) rfl (Or.inl rfl) ?_
        refine ow_icmp_gt (tgt := 89) d_Mo_changeOf_83 (by decide) (fun c => ?_) (fun c => ?_)
        · replace T := T.1 c
          refine ow_bipush (v := 10) (by decide) d_Mo_changeOf_89 ?_
          refine ow_iload_n 4 rfl d_Mo_changeOf_91 ?_
          refine ow_imul d_Mo_changeOf_92 ?_
          refine ow_iload 0 rfl d_Mo_changeOf_93 ?_
          refine ow_iadd d_Mo_changeOf_95 ?_
          refine ow_istore_n (ls2 := [(1, .int ((10 * v3) + v3)), (5, .int v3), (0, .ref 70), (2, .int v2), (3, .int v3), (4, .int v4)]) d_Mo_changeOf_96 (by decide) rfl ?_
          refine ow_aload_n 2 rfl d_Mo_changeOf_97 ?_
          refine ow_aload_n 2 rfl d_Mo_changeOf_98 ?_
          refine ow_iload_n 4 rfl d_Mo_changeOf_99 ?_
          refine ow_iload 1 rfl d_Mo_changeOf_100 ?_
          refine ow_callV (b := 70) (cq := 12) (As := [.int v3, .int v3]) (rest := [.ref 70]) (d2 := d) d_Mo_changeOf_102 l_Mo_313 v_Mo_servedWith (show 70 < 85 by decide) rfl (by decide) rfl (Nat.le_of_ble_eq_true rfl) (Nat.le_refl _) ⟨Nat.le_refl _, Nat.le_refl _⟩ (ow_mono T ?_)
          rintro r h' ⟨r10, I10, J10, R10, rfl, rfl, hR10, T⟩
          show ow_AW ow_Y0 (ow_Z Q) M_Mo_changeOf (d + 1) 0 0 105 [(1, .int ((10 * v3) + v3)), (5, .int v3), (0, .ref 70), (2, .int v2), (3, .int v3), (4, .int v4)] [.int r10, .ref 70] (85, I10, J10, R10) 0 0
          refine ow_pI 201 d_Mo_changeOf_105 rfl rfl (by decide) rfl rfl rfl ?_
          obtain ⟨I11, eI11⟩ : ∃ uu, uu = ow_u I10 70 32 r10 := ⟨_, rfl⟩
          replace T := T I11 eI11
          rw [← eI11]
          refine ow_iinc 5 (v := (v4 + 1)) (ls2 := [(4, .int (v4 + 1)), (1, .int ((10 * v3) + v3)), (5, .int v3), (0, .ref 70), (2, .int v2), (3, .int v3)]) d_Mo_changeOf_108 rfl rfl (by decide) rfl ?_
          refine ow_goto (tgt := 42) d_Mo_changeOf_111 (by decide) ?_
          refine ow_sub [3, 1, 4, 5, 0] rfl ?_
          exact T
        · replace T := T.2 c
          refine ow_goto (tgt := 108) d_Mo_changeOf_86 (by decide) ?_
          refine ow_iinc 5 (v := (v4 + 1)) (ls2 := [(4, .int (v4 + 1)), (5, .int v3), (0, .ref 70), (1, .int v1), (2, .int v2), (3, .int v3)]) d_Mo_changeOf_108 rfl rfl (by decide) rfl ?_
          refine ow_goto (tgt := 42) d_Mo_changeOf_111 (by decide) ?_
          refine ow_sub [2, 3, 4, 5, 0] rfl ?_
          exact T
set_option maxRecDepth 4000 in
theorem t_Mo_changeOf {d : Nat} {I : Nat → Nat → Int32} {J : Nat → Nat → Int64} {R : Nat → Nat → Option Nat} {Q : Option Value → ow_H → Prop}   (hR : ow_RF R) (T : (ow_AM M_Mo_asToldShapes d [.ref 70] (85, I, J, R) (fun r h' => ∃ (I12 : Nat → Nat → Int32) (J12 : Nat → Nat → Int64) (R12 : Nat → Nat → Option Nat), r = none ∧ h' = (85, I12, J12, R12) ∧ ow_RF R12 ∧ (ow_AM M_Mo_servedOn d [.ref 70, .ref 77] (85, I12, J12, R12) (fun r h' => ∃ (r13 : Int32) (I13 : Nat → Nat → Int32) (J13 : Nat → Nat → Int64) (R13 : Nat → Nat → Option Nat), r = some (.int r13) ∧ h' = (85, I13, J13, R13) ∧ ow_RF R13 ∧ (ow_AM M_Mo_ones d [.int r13] (85, I13, J13, R13) (fun r h' => ∃ (r14 : Int32) (I14 : Nat → Nat → Int32) (J14 : Nat → Nat → Int64) (R14 : Nat → Nat → Option Nat), r = some (.int r14) ∧ h' = (85, I14, J14, R14) ∧ ow_RF R14 ∧ (∀ (I15 : Nat → Nat → Int32), I15 = ow_u I14 70 32 r14 → ow_AW ow_Y0 (ow_Z Q) M_Mo_changeOf (d + 1) 0 0 29 [(0, .ref 70), (1, .int (-2)), (2, .int (I15 70 32)), (3, .int 0)] [] (85, I15, J14, R14) 0 0)))))))) : ow_AM M_Mo_changeOf (d + 1) [.ref 70] (85, I, J, R) Q := by
  refine ow_enter (by decide) (Nat.le_of_ble_eq_true rfl) ?_
  show ow_AW ow_Y0 (ow_Z Q) M_Mo_changeOf (d + 1) 0 0 0 [(0, .ref 70)] [] (85, I, J, R) 0 0
  refine ow_aload_n 0 rfl d_Mo_changeOf_0 ?_
  refine ow_callV (b := 70) (cq := 12) (As := []) (rest := []) (d2 := d) d_Mo_changeOf_1 l_Mo_281 v_Mo_asToldShapes (show 70 < 85 by decide) rfl (by decide) rfl (Nat.le_of_ble_eq_true rfl) (Nat.le_refl _) ⟨Nat.le_refl _, Nat.le_refl _⟩ (ow_mono T ?_)
  rintro r h' ⟨I12, J12, R12, rfl, rfl, hR12, T⟩
  show ow_AW ow_Y0 (ow_Z Q) M_Mo_changeOf (d + 1) 0 0 4 [(0, .ref 70)] [] (85, I12, J12, R12) 0 0
  refine ow_bipush (v := (-2)) (by decide) d_Mo_changeOf_4 ?_
  refine ow_istore_n (ls2 := [(1, .int (-2)), (0, .ref 70)]) d_Mo_changeOf_6 (by decide) rfl ?_
  refine ow_aload_n 1 rfl d_Mo_changeOf_7 ?_
  refine ow_aload_n 1 rfl d_Mo_changeOf_8 ?_
  refine ow_aload_n 1 rfl d_Mo_changeOf_9 ?_
  refine ow_gR (a := 77) 188 d_Mo_changeOf_10 rfl rfl (by decide) rfl ⟨rfl, hR12 70 19 (by decide)⟩ ?_
  refine ow_callV (b := 70) (cq := 12) (As := [.ref 77]) (rest := [.ref 70]) (d2 := d) d_Mo_changeOf_13 l_Mo_284 v_Mo_servedOn (show 70 < 85 by decide) rfl (by decide) rfl (Nat.le_of_ble_eq_true rfl) (Nat.le_refl _) ⟨Nat.le_refl _, Nat.le_refl _⟩ (ow_mono T ?_)
  rintro r h' ⟨r13, I13, J13, R13, rfl, rfl, hR13, T⟩
  show ow_AW ow_Y0 (ow_Z Q) M_Mo_changeOf (d + 1) 0 0 16 [(1, .int (-2)), (0, .ref 70)] [.int r13, .ref 70] (85, I13, J13, R13) 0 0
  refine ow_callS (As := [.int r13]) (rest := [.ref 70]) (d2 := d) d_Mo_changeOf_16 l_Mo_307 v_Mo_ones (Nat.le_of_ble_eq_true rfl) (Nat.le_refl _) ⟨Nat.le_refl _, Nat.le_refl _⟩ (ow_mono T ?_)
  rintro r h' ⟨r14, I14, J14, R14, rfl, rfl, hR14, T⟩
  show ow_AW ow_Y0 (ow_Z Q) M_Mo_changeOf (d + 1) 0 0 19 [(1, .int (-2)), (0, .ref 70)] [.int r14, .ref 70] (85, I14, J14, R14) 0 0
  refine ow_pI 201 d_Mo_changeOf_19 rfl rfl (by decide) rfl rfl rfl ?_
  obtain ⟨I15, eI15⟩ : ∃ uu, uu = ow_u I14 70 32 r14 := ⟨_, rfl⟩
  replace T := T I15 eI15
  rw [← eI15]
  refine ow_aload_n 1 rfl d_Mo_changeOf_22 ?_
  refine ow_gI 201 d_Mo_changeOf_23 rfl rfl (by decide) rfl (Or.inl rfl) ?_
  refine ow_istore_n (ls2 := [(2, .int (I15 70 32)), (1, .int (-2)), (0, .ref 70)]) d_Mo_changeOf_26 (by decide) rfl ?_
  refine ow_iconst (v := 0) (by decide) d_Mo_changeOf_27 ?_
  refine ow_istore_n (ls2 := [(3, .int 0), (2, .int (I15 70 32)), (1, .int (-2)), (0, .ref 70)]) d_Mo_changeOf_28 (by decide) rfl ?_
  refine ow_sub [3, 2, 1, 0] rfl ?_
  exact T
set_option maxRecDepth 4000 in
theorem t_Mo_change {d : Nat} {I : Nat → Nat → Int32} {J : Nat → Nat → Int64} {R : Nat → Nat → Option Nat} {Q : Option Value → ow_H → Prop}   (hR : ow_RF R) (T : (ow_AM M_Mo_good d [.ref 70] (85, I, J, R) (fun r h' => ∃ (I4 : Nat → Nat → Int32) (J4 : Nat → Nat → Int64) (R4 : Nat → Nat → Option Nat), r = none ∧ h' = (85, I4, J4, R4) ∧ ow_RF R4 ∧ (((I4 70 14) = 0 → (ow_AM M_Mo_no d [.ref 70, .int 1] (85, I4, J4, R4) (fun r h' => ∃ (r5 : Int32) (I5 : Nat → Nat → Int32) (J5 : Nat → Nat → Int64) (R5 : Nat → Nat → Option Nat), r = some (.int r5) ∧ h' = (85, I5, J5, R5) ∧ ow_RF R5 ∧ Q (some (.int r5)) (85, I5, J5, R5)))) ∧ (¬ (I4 70 14) = 0 → (ow_AM M_Mo_changeOf d [.ref 70] (85, I4, J4, R4) (fun r h' => ∃ (r6 : Int32) (I6 : Nat → Nat → Int32) (J6 : Nat → Nat → Int64) (R6 : Nat → Nat → Option Nat), r = some (.int r6) ∧ h' = (85, I6, J6, R6) ∧ ow_RF R6 ∧ Q (some (.int r6)) (85, I6, J6, R6)))))))) : ow_AM M_Mo_change (d + 1) [.ref 70] (85, I, J, R) Q := by
  refine ow_enter (by decide) (Nat.le_of_ble_eq_true rfl) ?_
  show ow_AW ow_Y0 (ow_Z Q) M_Mo_change (d + 1) 0 0 0 [(0, .ref 70)] [] (85, I, J, R) 0 0
  refine ow_aload_n 0 rfl d_Mo_change_0 ?_
  refine ow_callV (b := 70) (cq := 12) (As := []) (rest := []) (d2 := d) d_Mo_change_1 l_Mo_154 v_Mo_good (show 70 < 85 by decide) rfl (by decide) rfl (Nat.le_of_ble_eq_true rfl) (Nat.le_refl _) ⟨Nat.le_refl _, Nat.le_refl _⟩ (ow_mono T ?_)
  rintro r h' ⟨I4, J4, R4, rfl, rfl, hR4, T⟩
  show ow_AW ow_Y0 (ow_Z Q) M_Mo_change (d + 1) 0 0 4 [(0, .ref 70)] [] (85, I4, J4, R4) 0 0
  refine ow_aload_n 0 rfl d_Mo_change_4 ?_
  refine ow_gI 183 d_Mo_change_5 rfl rfl (by decide) rfl (Or.inr rfl) ?_
  refine ow_if_eq (tgt := 18) d_Mo_change_8 (by decide) (fun c => ?_) (fun c => ?_)
  · replace T := T.1 c
    refine ow_aload_n 0 rfl d_Mo_change_18 ?_
    refine ow_iconst (v := 1) (by decide) d_Mo_change_19 ?_
    refine ow_callV (b := 70) (cq := 12) (As := [.int 1]) (rest := []) (d2 := d) d_Mo_change_20 l_Mo_157 v_Mo_no (show 70 < 85 by decide) rfl (by decide) rfl (Nat.le_of_ble_eq_true rfl) (Nat.le_refl _) ⟨Nat.le_refl _, Nat.le_refl _⟩ (ow_mono T ?_)
    rintro r h' ⟨r5, I5, J5, R5, rfl, rfl, hR5, T⟩
    show ow_AW ow_Y0 (ow_Z Q) M_Mo_change (d + 1) 0 0 23 [(0, .ref 70)] [.int r5] (85, I5, J5, R5) 0 0
    exact ow_iret d_Mo_change_23 rfl T
  · replace T := T.2 c
    refine ow_aload_n 0 rfl d_Mo_change_11 ?_
    refine ow_callV (b := 70) (cq := 12) (As := []) (rest := []) (d2 := d) d_Mo_change_12 l_Mo_316 v_Mo_changeOf (show 70 < 85 by decide) rfl (by decide) rfl (Nat.le_of_ble_eq_true rfl) (Nat.le_refl _) ⟨Nat.le_refl _, Nat.le_refl _⟩ (ow_mono T ?_)
    rintro r h' ⟨r6, I6, J6, R6, rfl, rfl, hR6, T⟩
    show ow_AW ow_Y0 (ow_Z Q) M_Mo_change (d + 1) 0 0 15 [(0, .ref 70)] [.int r6] (85, I6, J6, R6) 0 0
    refine ow_goto (tgt := 23) d_Mo_change_15 (by decide) ?_
    exact ow_iret d_Mo_change_23 rfl T
set_option maxRecDepth 4000 in
theorem t_Mo_changeServes {d : Nat} {I : Nat → Nat → Int32} {J : Nat → Nat → Int64} {R : Nat → Nat → Option Nat} {Q : Option Value → ow_H → Prop}   (hR : ow_RF R) (T : (ow_AM M_Mo_good d [.ref 70] (85, I, J, R) (fun r h' => ∃ (I4 : Nat → Nat → Int32) (J4 : Nat → Nat → Int64) (R4 : Nat → Nat → Option Nat), r = none ∧ h' = (85, I4, J4, R4) ∧ ow_RF R4 ∧ ((¬ (I4 70 14) = 0 → (ow_AM M_Mo_changeOf d [.ref 70] (85, I4, J4, R4) (fun r h' => ∃ (r5 : Int32) (I5 : Nat → Nat → Int32) (J5 : Nat → Nat → Int64) (R5 : Nat → Nat → Option Nat), r = some (.int r5) ∧ h' = (85, I5, J5, R5) ∧ ow_RF R5 ∧ Q (some (.int (I5 70 32))) (85, I5, J5, R5)))) ∧ ((I4 70 14) = 0 → (ow_AM M_Mo_no d [.ref 70, .int 1] (85, I4, J4, R4) (fun r h' => ∃ (r6 : Int32) (I6 : Nat → Nat → Int32) (J6 : Nat → Nat → Int64) (R6 : Nat → Nat → Option Nat), r = some (.int r6) ∧ h' = (85, I6, J6, R6) ∧ ow_RF R6 ∧ Q (some (.int r6)) (85, I6, J6, R6)))))))) : ow_AM M_Mo_changeServes (d + 1) [.ref 70] (85, I, J, R) Q := by
  refine ow_enter (by decide) (Nat.le_of_ble_eq_true rfl) ?_
  show ow_AW ow_Y0 (ow_Z Q) M_Mo_changeServes (d + 1) 0 0 0 [(0, .ref 70)] [] (85, I, J, R) 0 0
  refine ow_aload_n 0 rfl d_Mo_changeServes_0 ?_
  refine ow_callV (b := 70) (cq := 12) (As := []) (rest := []) (d2 := d) d_Mo_changeServes_1 l_Mo_154 v_Mo_good (show 70 < 85 by decide) rfl (by decide) rfl (Nat.le_of_ble_eq_true rfl) (Nat.le_refl _) ⟨Nat.le_refl _, Nat.le_refl _⟩ (ow_mono T ?_)
  rintro r h' ⟨I4, J4, R4, rfl, rfl, hR4, T⟩
  show ow_AW ow_Y0 (ow_Z Q) M_Mo_changeServes (d + 1) 0 0 4 [(0, .ref 70)] [] (85, I4, J4, R4) 0 0
  refine ow_aload_n 0 rfl d_Mo_changeServes_4 ?_
  refine ow_gI 183 d_Mo_changeServes_5 rfl rfl (by decide) rfl (Or.inr rfl) ?_
  refine ow_if_ne (tgt := 17) d_Mo_changeServes_8 (by decide) (fun c => ?_) (fun c => ?_)
  · replace T := T.1 c
    refine ow_aload_n 0 rfl d_Mo_changeServes_17 ?_
    refine ow_callV (b := 70) (cq := 12) (As := []) (rest := []) (d2 := d) d_Mo_changeServes_18 l_Mo_316 v_Mo_changeOf (show 70 < 85 by decide) rfl (by decide) rfl (Nat.le_of_ble_eq_true rfl) (Nat.le_refl _) ⟨Nat.le_refl _, Nat.le_refl _⟩ (ow_mono T ?_)
    rintro r h' ⟨r5, I5, J5, R5, rfl, rfl, hR5, T⟩
    show ow_AW ow_Y0 (ow_Z Q) M_Mo_changeServes (d + 1) 0 0 21 [(0, .ref 70)] [.int r5] (85, I5, J5, R5) 0 0
    refine ow_pop rfl d_Mo_changeServes_21 ?_
    refine ow_aload_n 0 rfl d_Mo_changeServes_22 ?_
    refine ow_gI 201 d_Mo_changeServes_23 rfl rfl (by decide) rfl (Or.inl rfl) ?_
    exact ow_iret d_Mo_changeServes_26 rfl T
  · replace T := T.2 c
    refine ow_aload_n 0 rfl d_Mo_changeServes_11 ?_
    refine ow_iconst (v := 1) (by decide) d_Mo_changeServes_12 ?_
    refine ow_callV (b := 70) (cq := 12) (As := [.int 1]) (rest := []) (d2 := d) d_Mo_changeServes_13 l_Mo_157 v_Mo_no (show 70 < 85 by decide) rfl (by decide) rfl (Nat.le_of_ble_eq_true rfl) (Nat.le_refl _) ⟨Nat.le_refl _, Nat.le_refl _⟩ (ow_mono T ?_)
    rintro r h' ⟨r6, I6, J6, R6, rfl, rfl, hR6, T⟩
    show ow_AW ow_Y0 (ow_Z Q) M_Mo_changeServes (d + 1) 0 0 16 [(0, .ref 70)] [.int r6] (85, I6, J6, R6) 0 0
    exact ow_iret d_Mo_changeServes_16 rfl T
set_option maxRecDepth 4000 in
theorem t_Mo_servedIf {d : Nat} {I : Nat → Nat → Int32} {J : Nat → Nat → Int64} {R : Nat → Nat → Option Nat} {Q : Option Value → ow_H → Prop} {p1 : Int32} {p2 : Int32}  (hR : ow_RF R) (T : (ow_AM M_Mo_good d [.ref 70] (85, I, J, R) (fun r h' => ∃ (I8 : Nat → Nat → Int32) (J8 : Nat → Nat → Int64) (R8 : Nat → Nat → Option Nat), r = none ∧ h' = (85, I8, J8, R8) ∧ ow_RF R8 ∧ (ow_AM M_Mo_isFolly d [.ref 70, .int p1] (85, I8, J8, R8) (fun r h' => ∃ (r9 : Int32) (I9 : Nat → Nat → Int32) (J9 : Nat → Nat → Int64) (R9 : Nat → Nat → Option Nat), r = some (.int r9) ∧ h' = (85, I9, J9, R9) ∧ ow_RF R9 ∧ ((r9 = 0 → (ow_AM M_Mo_no d [.ref 70, .int 1] (85, I9, J9, R9) (fun r h' => ∃ (r10 : Int32) (I10 : Nat → Nat → Int32) (J10 : Nat → Nat → Int64) (R10 : Nat → Nat → Option Nat), r = some (.int r10) ∧ h' = (85, I10, J10, R10) ∧ ow_RF R10 ∧ Q (some (.int r10)) (85, I10, J10, R10)))) ∧ (¬ r9 = 0 → (ow_AM M_Mo_isFolly d [.ref 70, .int p2] (85, I9, J9, R9) (fun r h' => ∃ (r11 : Int32) (I11 : Nat → Nat → Int32) (J11 : Nat → Nat → Int64) (R11 : Nat → Nat → Option Nat), r = some (.int r11) ∧ h' = (85, I11, J11, R11) ∧ ow_RF R11 ∧ ((¬ r11 = 0 → (ow_AM M_Mo_asToldShapes d [.ref 70] (85, I11, J11, R11) (fun r h' => ∃ (I12 : Nat → Nat → Int32) (J12 : Nat → Nat → Int64) (R12 : Nat → Nat → Option Nat), r = none ∧ h' = (85, I12, J12, R12) ∧ ow_RF R12 ∧ (ow_AM M_Mo_servedWith d [.ref 70, .int p1, .int p2] (85, I12, J12, R12) (fun r h' => ∃ (r13 : Int32) (I13 : Nat → Nat → Int32) (J13 : Nat → Nat → Int64) (R13 : Nat → Nat → Option Nat), r = some (.int r13) ∧ h' = (85, I13, J13, R13) ∧ ow_RF R13 ∧ Q (some (.int r13)) (85, I13, J13, R13)))))) ∧ (r11 = 0 → (ow_AM M_Mo_no d [.ref 70, .int 1] (85, I11, J11, R11) (fun r h' => ∃ (r14 : Int32) (I14 : Nat → Nat → Int32) (J14 : Nat → Nat → Int64) (R14 : Nat → Nat → Option Nat), r = some (.int r14) ∧ h' = (85, I14, J14, R14) ∧ ow_RF R14 ∧ Q (some (.int r14)) (85, I14, J14, R14)))))))))))))) : ow_AM M_Mo_servedIf (d + 1) [.ref 70, .int p1, .int p2] (85, I, J, R) Q := by
  refine ow_enter (by decide) (Nat.le_of_ble_eq_true rfl) ?_
  show ow_AW ow_Y0 (ow_Z Q) M_Mo_servedIf (d + 1) 0 0 0 [(0, .ref 70), (1, .int p1), (2, .int p2)] [] (85, I, J, R) 0 0
  refine ow_aload_n 0 rfl d_Mo_servedIf_0 ?_
  refine ow_callV (b := 70) (cq := 12) (As := []) (rest := []) (d2 := d) d_Mo_servedIf_1 l_Mo_154 v_Mo_good (show 70 < 85 by decide) rfl (by decide) rfl (Nat.le_of_ble_eq_true rfl) (Nat.le_refl _) ⟨Nat.le_refl _, Nat.le_refl _⟩ (ow_mono T ?_)
  rintro r h' ⟨I8, J8, R8, rfl, rfl, hR8, T⟩
  show ow_AW ow_Y0 (ow_Z Q) M_Mo_servedIf (d + 1) 0 0 4 [(0, .ref 70), (1, .int p1), (2, .int p2)] [] (85, I8, J8, R8) 0 0
  refine ow_aload_n 0 rfl d_Mo_servedIf_4 ?_
  refine ow_iload_n 1 rfl d_Mo_servedIf_5 ?_
  refine ow_callV (b := 70) (cq := 12) (As := [.int p1]) (rest := []) (d2 := d) d_Mo_servedIf_6 l_Mo_272 v_Mo_isFolly (show 70 < 85 by decide) rfl (by decide) rfl (Nat.le_of_ble_eq_true rfl) (Nat.le_refl _) ⟨Nat.le_refl _, Nat.le_refl _⟩ (ow_mono T ?_)
  rintro r h' ⟨r9, I9, J9, R9, rfl, rfl, hR9, T⟩
  show ow_AW ow_Y0 (ow_Z Q) M_Mo_servedIf (d + 1) 0 0 9 [(0, .ref 70), (1, .int p1), (2, .int p2)] [.int r9] (85, I9, J9, R9) 0 0
  refine ow_if_eq (tgt := 20) d_Mo_servedIf_9 (by decide) (fun c => ?_) (fun c => ?_)
  · replace T := T.1 c
    refine ow_aload_n 0 rfl d_Mo_servedIf_20 ?_
    refine ow_iconst (v := 1) (by decide) d_Mo_servedIf_21 ?_
    refine ow_callV (b := 70) (cq := 12) (As := [.int 1]) (rest := []) (d2 := d) d_Mo_servedIf_22 l_Mo_157 v_Mo_no (show 70 < 85 by decide) rfl (by decide) rfl (Nat.le_of_ble_eq_true rfl) (Nat.le_refl _) ⟨Nat.le_refl _, Nat.le_refl _⟩ (ow_mono T ?_)
    rintro r h' ⟨r10, I10, J10, R10, rfl, rfl, hR10, T⟩
    show ow_AW ow_Y0 (ow_Z Q) M_Mo_servedIf (d + 1) 0 0 25 [(0, .ref 70), (1, .int p1), (2, .int p2)] [.int r10] (85, I10, J10, R10) 0 0
    exact ow_iret d_Mo_servedIf_25 rfl T
  · replace T := T.2 c
    refine ow_aload_n 0 rfl d_Mo_servedIf_12 ?_
    refine ow_iload_n 2 rfl d_Mo_servedIf_13 ?_
    refine ow_callV (b := 70) (cq := 12) (As := [.int p2]) (rest := []) (d2 := d) d_Mo_servedIf_14 l_Mo_272 v_Mo_isFolly (show 70 < 85 by decide) rfl (by decide) rfl (Nat.le_of_ble_eq_true rfl) (Nat.le_refl _) ⟨Nat.le_refl _, Nat.le_refl _⟩ (ow_mono T ?_)
    rintro r h' ⟨r11, I11, J11, R11, rfl, rfl, hR11, T⟩
    show ow_AW ow_Y0 (ow_Z Q) M_Mo_servedIf (d + 1) 0 0 17 [(0, .ref 70), (1, .int p1), (2, .int p2)] [.int r11] (85, I11, J11, R11) 0 0
    refine ow_if_ne (tgt := 26) d_Mo_servedIf_17 (by decide) (fun c => ?_) (fun c => ?_)
    · replace T := T.1 c
      refine ow_aload_n 0 rfl d_Mo_servedIf_26 ?_
      refine ow_callV (b := 70) (cq := 12) (As := []) (rest := []) (d2 := d) d_Mo_servedIf_27 l_Mo_281 v_Mo_asToldShapes (show 70 < 85 by decide) rfl (by decide) rfl (Nat.le_of_ble_eq_true rfl) (Nat.le_refl _) ⟨Nat.le_refl _, Nat.le_refl _⟩ (ow_mono T ?_)
      rintro r h' ⟨I12, J12, R12, rfl, rfl, hR12, T⟩
      show ow_AW ow_Y0 (ow_Z Q) M_Mo_servedIf (d + 1) 0 0 30 [(0, .ref 70), (1, .int p1), (2, .int p2)] [] (85, I12, J12, R12) 0 0
      refine ow_aload_n 0 rfl d_Mo_servedIf_30 ?_
      refine ow_iload_n 1 rfl d_Mo_servedIf_31 ?_
      refine ow_iload_n 2 rfl d_Mo_servedIf_32 ?_
      refine ow_callV (b := 70) (cq := 12) (As := [.int p1, .int p2]) (rest := []) (d2 := d) d_Mo_servedIf_33 l_Mo_313 v_Mo_servedWith (show 70 < 85 by decide) rfl (by decide) rfl (Nat.le_of_ble_eq_true rfl) (Nat.le_refl _) ⟨Nat.le_refl _, Nat.le_refl _⟩ (ow_mono T ?_)
      rintro r h' ⟨r13, I13, J13, R13, rfl, rfl, hR13, T⟩
      show ow_AW ow_Y0 (ow_Z Q) M_Mo_servedIf (d + 1) 0 0 36 [(0, .ref 70), (1, .int p1), (2, .int p2)] [.int r13] (85, I13, J13, R13) 0 0
      exact ow_iret d_Mo_servedIf_36 rfl T
    · replace T := T.2 c
      refine ow_aload_n 0 rfl d_Mo_servedIf_20 ?_
      refine ow_iconst (v := 1) (by decide) d_Mo_servedIf_21 ?_
      refine ow_callV (b := 70) (cq := 12) (As := [.int 1]) (rest := []) (d2 := d) d_Mo_servedIf_22 l_Mo_157 v_Mo_no (show 70 < 85 by decide) rfl (by decide) rfl (Nat.le_of_ble_eq_true rfl) (Nat.le_refl _) ⟨Nat.le_refl _, Nat.le_refl _⟩ (ow_mono T ?_)
      rintro r h' ⟨r14, I14, J14, R14, rfl, rfl, hR14, T⟩
      show ow_AW ow_Y0 (ow_Z Q) M_Mo_servedIf (d + 1) 0 0 25 [(0, .ref 70), (1, .int p1), (2, .int p2)] [.int r14] (85, I14, J14, R14) 0 0
      exact ow_iret d_Mo_servedIf_25 rfl T
set_option maxRecDepth 4000 in
theorem t_Mo_yearOn_2 {d : Nat} {I : Nat → Nat → Int32} {J : Nat → Nat → Int64} {R : Nat → Nat → Option Nat} {Q : Option Value → ow_H → Prop} {a : Nat} {v2 : Int32} (ha : a ∈ [75, 76, 77, 82]) (hR : ow_RF R) (T : (((I 73 2) ≤ v2 → (∀ (I1 : Nat → Nat → Int32), I1 = ow_u I a 13 ((I a 13) + 1) → Q none (85, I1, J, R))) ∧ (¬ (I 73 2) ≤ v2 → (vp_in v2 14 ∧ (((I a v2.toNatClampNeg) ≤ (I 73 1) → (vp_in v2 14 ∧ (∀ (I2 : Nat → Nat → Int32), I2 = ow_u I a (v2.toNatClampNeg) 0 → ow_AW ow_Y0 (ow_Z Q) M_Mo_yearOn (d + 1) 0 0 2 [(0, .ref 70), (1, .ref a), (2, .int (v2 + 1))] [] (85, I2, J, R) 0 0))) ∧ (¬ (I a v2.toNatClampNeg) ≤ (I 73 1) → (vp_in v2 14 ∧ (vp_in v2 14 ∧ (∀ (I3 : Nat → Nat → Int32), I3 = ow_u I a (v2.toNatClampNeg) ((I a v2.toNatClampNeg) - (I 73 1)) → ow_AW ow_Y0 (ow_Z Q) M_Mo_yearOn (d + 1) 0 0 2 [(0, .ref 70), (1, .ref a), (2, .int (v2 + 1))] [] (85, I3, J, R) 0 0))))))))) : ow_AW ow_Y0 (ow_Z Q) M_Mo_yearOn (d + 1) 0 0 2 [(0, .ref 70), (1, .ref a), (2, .int v2)] [] (85, I, J, R) 0 0 := by
  obtain ⟨a_lt, a_kd, a_n0⟩ := ow_rw_ok a ha
  refine ow_iload_n 2 rfl d_Mo_yearOn_2 ?_
  refine ow_aload_n 0 rfl d_Mo_yearOn_3 ?_
  refine ow_gR (a := 73) 184 d_Mo_yearOn_4 rfl rfl (by decide) rfl ⟨rfl, hR 70 15 (by decide)⟩ ?_
  refine ow_iconst (v := 2) (by decide) d_Mo_yearOn_7 ?_
  refine ow_hiaload d_Mo_yearOn_8 (by decide) rfl rfl (show vp_in (2 : Int32) 146 by unfold vp_in; decide) ?_
  show ow_AW ow_Y0 (ow_Z Q) M_Mo_yearOn (d + 1) 0 0 9 [(0, .ref 70), (1, .ref a), (2, .int v2)] [.int (I 73 2), .int v2] (85, I, J, R) 0 0
  refine ow_icmp_ge (tgt := 47) d_Mo_yearOn_9 (by decide) (fun c => ?_) (fun c => ?_)
  · replace T := T.1 c
    refine ow_aload_n 1 rfl d_Mo_yearOn_47 ?_
    refine ow_bipush (v := 13) (by decide) d_Mo_yearOn_48 ?_
    refine ow_dup2_11 rfl rfl d_Mo_yearOn_50 ?_
    refine ow_hiaload d_Mo_yearOn_51 (by omega) a_kd a_n0 (show vp_in (13 : Int32) 14 by unfold vp_in; decide) ?_
    show ow_AW ow_Y0 (ow_Z Q) M_Mo_yearOn (d + 1) 0 0 52 [(0, .ref 70), (1, .ref a), (2, .int v2)] [.int (I a 13), .int 13, .ref a] (85, I, J, R) 0 0
    refine ow_iconst (v := 1) (by decide) d_Mo_yearOn_52 ?_
    refine ow_iadd d_Mo_yearOn_53 ?_
    refine ow_hiastore d_Mo_yearOn_54 (by omega) a_kd a_n0 (show vp_in (13 : Int32) 14 by unfold vp_in; decide) ?_
    obtain ⟨I1, eI1⟩ : ∃ uu, uu = ow_u I a 13 ((I a 13) + 1) := ⟨_, rfl⟩
    replace T := T I1 eI1
    show ow_AW ow_Y0 (ow_Z Q) M_Mo_yearOn (d + 1) 0 0 55 [(0, .ref 70), (1, .ref a), (2, .int v2)] [] (85, (ow_u I a 13 ((I a 13) + 1)), J, R) 0 0
    rw [← eI1]
    exact ow_vret d_Mo_yearOn_55 rfl T
  · replace T := T.2 c
    refine ow_aload_n 1 rfl d_Mo_yearOn_12 ?_
    refine ow_iload_n 2 rfl d_Mo_yearOn_13 ?_
    refine ow_aload_n 1 rfl d_Mo_yearOn_14 ?_
    refine ow_iload_n 2 rfl d_Mo_yearOn_15 ?_
    obtain ⟨cI, T⟩ := T
    refine ow_hiaload d_Mo_yearOn_16 (by omega) a_kd a_n0 cI ?_
    refine ow_aload_n 0 rfl d_Mo_yearOn_17 ?_
    refine ow_gR (a := 73) 184 d_Mo_yearOn_18 rfl rfl (by decide) rfl ⟨rfl, hR 70 15 (by decide)⟩ ?_
    refine ow_iconst (v := 1) (by decide) d_Mo_yearOn_21 ?_
    refine ow_hiaload d_Mo_yearOn_22 (by decide) rfl rfl (show vp_in (1 : Int32) 146 by unfold vp_in; decide) ?_
    show ow_AW ow_Y0 (ow_Z Q) M_Mo_yearOn (d + 1) 0 0 23 [(0, .ref 70), (1, .ref a), (2, .int v2)] [.int (I 73 1), .int (I a v2.toNatClampNeg), .int v2, .ref a] (85, I, J, R) 0 0
    refine ow_icmp_le (tgt := 39) d_Mo_yearOn_23 (by decide) (fun c => ?_) (fun c => ?_)
    · replace T := T.1 c
      refine ow_iconst (v := 0) (by decide) d_Mo_yearOn_39 ?_
      obtain ⟨cI, T⟩ := T
      refine ow_hiastore d_Mo_yearOn_40 (by omega) a_kd a_n0 cI ?_
      obtain ⟨I2, eI2⟩ : ∃ uu, uu = ow_u I a (v2.toNatClampNeg) 0 := ⟨_, rfl⟩
      replace T := T I2 eI2
      rw [← eI2]
      refine ow_iinc 2 (v := (v2 + 1)) (ls2 := [(2, .int (v2 + 1)), (0, .ref 70), (1, .ref a)]) d_Mo_yearOn_41 rfl rfl (by decide) rfl ?_
      refine ow_goto (tgt := 2) d_Mo_yearOn_44 (by decide) ?_
      refine ow_sub [1, 2, 0] rfl ?_
      exact T
    · replace T := T.2 c
      refine ow_aload_n 1 rfl d_Mo_yearOn_26 ?_
      refine ow_iload_n 2 rfl d_Mo_yearOn_27 ?_
      obtain ⟨cI, T⟩ := T
      refine ow_hiaload d_Mo_yearOn_28 (by omega) a_kd a_n0 cI ?_
      refine ow_aload_n 0 rfl d_Mo_yearOn_29 ?_
      refine ow_gR (a := 73) 184 d_Mo_yearOn_30 rfl rfl (by decide) rfl ⟨rfl, hR 70 15 (by decide)⟩ ?_
      refine ow_iconst (v := 1) (by decide) d_Mo_yearOn_33 ?_
      refine ow_hiaload d_Mo_yearOn_34 (by decide) rfl rfl (show vp_in (1 : Int32) 146 by unfold vp_in; decide) ?_
      show ow_AW ow_Y0 (ow_Z Q) M_Mo_yearOn (d + 1) 0 0 35 [(0, .ref 70), (1, .ref a), (2, .int v2)] [.int (I 73 1), .int (I a v2.toNatClampNeg), .int v2, .ref a] (85, I, J, R) 0 0
      refine ow_isub d_Mo_yearOn_35 ?_
      refine ow_goto (tgt := 40) d_Mo_yearOn_36 (by decide) ?_
      obtain ⟨cI, T⟩ := T
      refine ow_hiastore d_Mo_yearOn_40 (by omega) a_kd a_n0 cI ?_
      obtain ⟨I3, eI3⟩ : ∃ uu, uu = ow_u I a (v2.toNatClampNeg) ((I a v2.toNatClampNeg) - (I 73 1)) := ⟨_, rfl⟩
      replace T := T I3 eI3
      rw [← eI3]
      refine ow_iinc 2 (v := (v2 + 1)) (ls2 := [(2, .int (v2 + 1)), (0, .ref 70), (1, .ref a)]) d_Mo_yearOn_41 rfl rfl (by decide) rfl ?_
      refine ow_goto (tgt := 2) d_Mo_yearOn_44 (by decide) ?_
      refine ow_sub [1, 2, 0] rfl ?_
      exact T
set_option maxRecDepth 4000 in
theorem t_Mo_yearOn {d : Nat} {I : Nat → Nat → Int32} {J : Nat → Nat → Int64} {R : Nat → Nat → Option Nat} {Q : Option Value → ow_H → Prop} {a : Nat} (ha : a ∈ [75, 76, 77, 82]) (hR : ow_RF R) (T : ow_AW ow_Y0 (ow_Z Q) M_Mo_yearOn (d + 1) 0 0 2 [(0, .ref 70), (1, .ref a), (2, .int 0)] [] (85, I, J, R) 0 0) : ow_AM M_Mo_yearOn (d + 1) [.ref 70, .ref a] (85, I, J, R) Q := by
  refine ow_enter (by decide) (Nat.le_of_ble_eq_true rfl) ?_
  show ow_AW ow_Y0 (ow_Z Q) M_Mo_yearOn (d + 1) 0 0 0 [(0, .ref 70), (1, .ref a)] [] (85, I, J, R) 0 0
  obtain ⟨a_lt, a_kd, a_n0⟩ := ow_rw_ok a ha
  refine ow_iconst (v := 0) (by decide) d_Mo_yearOn_0 ?_
  refine ow_istore_n (ls2 := [(2, .int 0), (0, .ref 70), (1, .ref a)]) d_Mo_yearOn_1 (by decide) rfl ?_
  refine ow_sub [1, 2, 0] rfl ?_
  exact T
set_option maxRecDepth 4000 in
theorem t_Mo_yearsOn_21 {d : Nat} {I : Nat → Nat → Int32} {J : Nat → Nat → Int64} {R : Nat → Nat → Option Nat} {Q : Option Value → ow_H → Prop}  {v1 : Int32} {v2 : Int32}  (hR : ow_RF R) (T : ((v1 ≤ v2 → Q none (85, I, J, R)) ∧ (¬ v1 ≤ v2 → (ow_AM M_Mo_yearOn d [.ref 70, .ref 82] (85, I, J, R) (fun r h' => ∃ (I3 : Nat → Nat → Int32) (J3 : Nat → Nat → Int64) (R3 : Nat → Nat → Option Nat), r = none ∧ h' = (85, I3, J3, R3) ∧ ow_RF R3 ∧ ow_AW ow_Y0 (ow_Z Q) M_Mo_yearsOn (d + 1) 0 0 21 [(0, .ref 70), (1, .int v1), (2, .int (v2 + 1))] [] (85, I3, J3, R3) 0 0))))) : ow_AW ow_Y0 (ow_Z Q) M_Mo_yearsOn (d + 1) 0 0 21 [(0, .ref 70), (1, .int v1), (2, .int v2)] [] (85, I, J, R) 0 0 := by
  refine ow_iload_n 2 rfl d_Mo_yearsOn_21 ?_
  refine ow_iload_n 1 rfl d_Mo_yearsOn_22 ?_
  refine ow_icmp_ge (tgt := 40) d_Mo_yearsOn_23 (by decide) (fun c => ?_) (fun c => ?_)
  · replace T := T.1 c
    exact ow_vret d_Mo_yearsOn_40 rfl T
  · replace T := T.2 c
    refine ow_aload_n 0 rfl d_Mo_yearsOn_26 ?_
    refine ow_aload_n 0 rfl d_Mo_yearsOn_27 ?_
    refine ow_gR (a := 82) 200 d_Mo_yearsOn_28 rfl rfl (by decide) rfl ⟨rfl, hR 70 31 (by decide)⟩ ?_
    refine ow_callV (b := 70) (cq := 12) (As := [.ref 82]) (rest := []) (d2 := d) d_Mo_yearsOn_31 l_Mo_319 v_Mo_yearOn (show 70 < 85 by decide) rfl (by decide) rfl (Nat.le_of_ble_eq_true rfl) (Nat.le_refl _) ⟨Nat.le_refl _, Nat.le_refl _⟩ (ow_mono T ?_)
    rintro r h' ⟨I3, J3, R3, rfl, rfl, hR3, T⟩
    show ow_AW ow_Y0 (ow_Z Q) M_Mo_yearsOn (d + 1) 0 0 34 [(0, .ref 70), (1, .int v1), (2, .int v2)] [] (85, I3, J3, R3) 0 0
    refine ow_iinc 2 (v := (v2 + 1)) (ls2 := [(2, .int (v2 + 1)), (0, .ref 70), (1, .int v1)]) d_Mo_yearsOn_34 rfl rfl (by decide) rfl ?_
    refine ow_goto (tgt := 21) d_Mo_yearsOn_37 (by decide) ?_
    refine ow_sub [1, 2, 0] rfl ?_
    exact T
set_option maxRecDepth 4000 in
theorem t_Mo_yearsOn {d : Nat} {I : Nat → Nat → Int32} {J : Nat → Nat → Int64} {R : Nat → Nat → Option Nat} {Q : Option Value → ow_H → Prop} {p1 : Int32}  (hR : ow_RF R) (T : (ow_AM M_Mo_asToldShapes d [.ref 70] (85, I, J, R) (fun r h' => ∃ (I4 : Nat → Nat → Int32) (J4 : Nat → Nat → Int64) (R4 : Nat → Nat → Option Nat), r = none ∧ h' = (85, I4, J4, R4) ∧ ow_RF R4 ∧ (ow_AM M_Mo_copy d [.ref 77, .int 0, .ref 82, .int 0, .int 14] (85, I4, J4, R4) (fun r h' => ∃ (I5 : Nat → Nat → Int32) (J5 : Nat → Nat → Int64) (R5 : Nat → Nat → Option Nat), r = none ∧ h' = (85, I5, J5, R5) ∧ ow_RF R5 ∧ ow_AW ow_Y0 (ow_Z Q) M_Mo_yearsOn (d + 1) 0 0 21 [(0, .ref 70), (1, .int p1), (2, .int 0)] [] (85, I5, J5, R5) 0 0))))) : ow_AM M_Mo_yearsOn (d + 1) [.ref 70, .int p1] (85, I, J, R) Q := by
  refine ow_enter (by decide) (Nat.le_of_ble_eq_true rfl) ?_
  show ow_AW ow_Y0 (ow_Z Q) M_Mo_yearsOn (d + 1) 0 0 0 [(0, .ref 70), (1, .int p1)] [] (85, I, J, R) 0 0
  refine ow_aload_n 0 rfl d_Mo_yearsOn_0 ?_
  refine ow_callV (b := 70) (cq := 12) (As := []) (rest := []) (d2 := d) d_Mo_yearsOn_1 l_Mo_281 v_Mo_asToldShapes (show 70 < 85 by decide) rfl (by decide) rfl (Nat.le_of_ble_eq_true rfl) (Nat.le_refl _) ⟨Nat.le_refl _, Nat.le_refl _⟩ (ow_mono T ?_)
  rintro r h' ⟨I4, J4, R4, rfl, rfl, hR4, T⟩
  show ow_AW ow_Y0 (ow_Z Q) M_Mo_yearsOn (d + 1) 0 0 4 [(0, .ref 70), (1, .int p1)] [] (85, I4, J4, R4) 0 0
  refine ow_aload_n 0 rfl d_Mo_yearsOn_4 ?_
  refine ow_gR (a := 77) 188 d_Mo_yearsOn_5 rfl rfl (by decide) rfl ⟨rfl, hR4 70 19 (by decide)⟩ ?_
  refine ow_iconst (v := 0) (by decide) d_Mo_yearsOn_8 ?_
  refine ow_aload_n 0 rfl d_Mo_yearsOn_9 ?_
  refine ow_gR (a := 82) 200 d_Mo_yearsOn_10 rfl rfl (by decide) rfl ⟨rfl, hR4 70 31 (by decide)⟩ ?_
  refine ow_iconst (v := 0) (by decide) d_Mo_yearsOn_13 ?_
  refine ow_bipush (v := 14) (by decide) d_Mo_yearsOn_14 ?_
  refine ow_callS (As := [.ref 77, .int 0, .ref 82, .int 0, .int 14]) (rest := []) (d2 := d) d_Mo_yearsOn_16 l_Mo_163 v_Mo_copy (Nat.le_of_ble_eq_true rfl) (Nat.le_refl _) ⟨Nat.le_refl _, Nat.le_refl _⟩ (ow_mono T ?_)
  rintro r h' ⟨I5, J5, R5, rfl, rfl, hR5, T⟩
  show ow_AW ow_Y0 (ow_Z Q) M_Mo_yearsOn (d + 1) 0 0 19 [(0, .ref 70), (1, .int p1)] [] (85, I5, J5, R5) 0 0
  refine ow_iconst (v := 0) (by decide) d_Mo_yearsOn_19 ?_
  refine ow_istore_n (ls2 := [(2, .int 0), (0, .ref 70), (1, .int p1)]) d_Mo_yearsOn_20 (by decide) rfl ?_
  refine ow_sub [1, 2, 0] rfl ?_
  exact T
