/-! Own rows, by program: Fs_tryLetter Fs_tryLeaves Fs_judge Fs_power Fs_rule Fs_sues Fs_rests Fs_rest Fs_odds Fs_lostOdds Fs_blown Fs_yeses Fs_year Fs_mend Fs_hire Fs_send Fs_undo Fs_image Fs_back Fs_size Fs_trouble Fs_tapeWord Fs_refused Fs_lacksShire Fs_lacksFolly Fs_lacksEstate Fs_isOutside Fs_lookAhead Fs_isServedIn Fs_yearsToRuin Fs_gain Fs_isRest Fs_inLowestTerms -/
theorem d_Fs_tryLetter_0 : decode M_Fs_tryLetter.2.1 0 = .ok (.aload_n 0, 1) := by decide +kernel
theorem d_Fs_tryLetter_1 : decode M_Fs_tryLetter.2.1 1 = .ok (.invokevirtual 208, 3) := by decide +kernel
theorem d_Fs_tryLetter_4 : decode M_Fs_tryLetter.2.1 4 = .ok (.ifCond .eq 5, 3) := by decide +kernel
theorem d_Fs_tryLetter_7 : decode M_Fs_tryLetter.2.1 7 = .ok (.iconst (-1), 1) := by decide +kernel
theorem d_Fs_tryLetter_8 : decode M_Fs_tryLetter.2.1 8 = .ok (.ireturn, 1) := by decide +kernel
theorem d_Fs_tryLetter_9 : decode M_Fs_tryLetter.2.1 9 = .ok (.aload_n 0, 1) := by decide +kernel
theorem d_Fs_tryLetter_10 : decode M_Fs_tryLetter.2.1 10 = .ok (.getfield 65, 3) := by decide +kernel
theorem d_Fs_tryLetter_13 : decode M_Fs_tryLetter.2.1 13 = .ok (.invokevirtual 290, 3) := by decide +kernel
theorem d_Fs_tryLetter_16 : decode M_Fs_tryLetter.2.1 16 = .ok (.aload_n 0, 1) := by decide +kernel
theorem d_Fs_tryLetter_17 : decode M_Fs_tryLetter.2.1 17 = .ok (.getfield 65, 3) := by decide +kernel
theorem d_Fs_tryLetter_20 : decode M_Fs_tryLetter.2.1 20 = .ok (.getfield 293, 3) := by decide +kernel
theorem d_Fs_tryLetter_23 : decode M_Fs_tryLetter.2.1 23 = .ok (.ireturn, 1) := by decide +kernel
theorem d_Fs_tryLeaves_0 : decode M_Fs_tryLeaves.2.1 0 = .ok (.aload_n 0, 1) := by decide +kernel
theorem d_Fs_tryLeaves_1 : decode M_Fs_tryLeaves.2.1 1 = .ok (.invokevirtual 208, 3) := by decide +kernel
theorem d_Fs_tryLeaves_4 : decode M_Fs_tryLeaves.2.1 4 = .ok (.ifCond .eq 5, 3) := by decide +kernel
theorem d_Fs_tryLeaves_7 : decode M_Fs_tryLeaves.2.1 7 = .ok (.iconst (-1), 1) := by decide +kernel
theorem d_Fs_tryLeaves_8 : decode M_Fs_tryLeaves.2.1 8 = .ok (.ireturn, 1) := by decide +kernel
theorem d_Fs_tryLeaves_9 : decode M_Fs_tryLeaves.2.1 9 = .ok (.aload_n 0, 1) := by decide +kernel
theorem d_Fs_tryLeaves_10 : decode M_Fs_tryLeaves.2.1 10 = .ok (.getfield 65, 3) := by decide +kernel
theorem d_Fs_tryLeaves_13 : decode M_Fs_tryLeaves.2.1 13 = .ok (.invokevirtual 290, 3) := by decide +kernel
theorem d_Fs_tryLeaves_16 : decode M_Fs_tryLeaves.2.1 16 = .ok (.aload_n 0, 1) := by decide +kernel
theorem d_Fs_tryLeaves_17 : decode M_Fs_tryLeaves.2.1 17 = .ok (.getfield 65, 3) := by decide +kernel
theorem d_Fs_tryLeaves_20 : decode M_Fs_tryLeaves.2.1 20 = .ok (.getfield 294, 3) := by decide +kernel
theorem d_Fs_tryLeaves_23 : decode M_Fs_tryLeaves.2.1 23 = .ok (.ireturn, 1) := by decide +kernel
theorem d_Fs_judge_0 : decode M_Fs_judge.2.1 0 = .ok (.aload_n 0, 1) := by decide +kernel
theorem d_Fs_judge_1 : decode M_Fs_judge.2.1 1 = .ok (.invokevirtual 208, 3) := by decide +kernel
theorem d_Fs_judge_4 : decode M_Fs_judge.2.1 4 = .ok (.ifCond .eq 5, 3) := by decide +kernel
theorem d_Fs_judge_7 : decode M_Fs_judge.2.1 7 = .ok (.iconst (-1), 1) := by decide +kernel
theorem d_Fs_judge_8 : decode M_Fs_judge.2.1 8 = .ok (.ireturn, 1) := by decide +kernel
theorem d_Fs_judge_9 : decode M_Fs_judge.2.1 9 = .ok (.aload_n 0, 1) := by decide +kernel
theorem d_Fs_judge_10 : decode M_Fs_judge.2.1 10 = .ok (.getfield 65, 3) := by decide +kernel
theorem d_Fs_judge_13 : decode M_Fs_judge.2.1 13 = .ok (.invokevirtual 297, 3) := by decide +kernel
theorem d_Fs_judge_16 : decode M_Fs_judge.2.1 16 = .ok (.ireturn, 1) := by decide +kernel
theorem d_Fs_power_0 : decode M_Fs_power.2.1 0 = .ok (.aload_n 0, 1) := by decide +kernel
theorem d_Fs_power_1 : decode M_Fs_power.2.1 1 = .ok (.iload_n 1, 1) := by decide +kernel
theorem d_Fs_power_2 : decode M_Fs_power.2.1 2 = .ok (.invokevirtual 173, 3) := by decide +kernel
theorem d_Fs_power_5 : decode M_Fs_power.2.1 5 = .ok (.ifCond .eq 7, 3) := by decide +kernel
theorem d_Fs_power_8 : decode M_Fs_power.2.1 8 = .ok (.ldc2_w 301, 3) := by decide +kernel
theorem d_Fs_power_11 : decode M_Fs_power.2.1 11 = .ok (.lreturn, 1) := by decide +kernel
theorem d_Fs_power_12 : decode M_Fs_power.2.1 12 = .ok (.aload_n 0, 1) := by decide +kernel
theorem d_Fs_power_13 : decode M_Fs_power.2.1 13 = .ok (.getfield 72, 3) := by decide +kernel
theorem d_Fs_power_16 : decode M_Fs_power.2.1 16 = .ok (.iload_n 1, 1) := by decide +kernel
theorem d_Fs_power_17 : decode M_Fs_power.2.1 17 = .ok (.invokevirtual 303, 3) := by decide +kernel
theorem d_Fs_power_20 : decode M_Fs_power.2.1 20 = .ok (.i2l, 1) := by decide +kernel
theorem d_Fs_power_21 : decode M_Fs_power.2.1 21 = .ok (.aload_n 0, 1) := by decide +kernel
theorem d_Fs_power_22 : decode M_Fs_power.2.1 22 = .ok (.getfield 72, 3) := by decide +kernel
theorem d_Fs_power_25 : decode M_Fs_power.2.1 25 = .ok (.invokevirtual 306, 3) := by decide +kernel
theorem d_Fs_power_28 : decode M_Fs_power.2.1 28 = .ok (.i2l, 1) := by decide +kernel
theorem d_Fs_power_29 : decode M_Fs_power.2.1 29 = .ok (.iload_n 2, 1) := by decide +kernel
theorem d_Fs_power_30 : decode M_Fs_power.2.1 30 = .ok (.invokestatic 309, 3) := by decide +kernel
theorem d_Fs_power_33 : decode M_Fs_power.2.1 33 = .ok (.lreturn, 1) := by decide +kernel
theorem d_Fs_rule_0 : decode M_Fs_rule.2.1 0 = .ok (.aload_n 0, 1) := by decide +kernel
theorem d_Fs_rule_1 : decode M_Fs_rule.2.1 1 = .ok (.invokevirtual 208, 3) := by decide +kernel
theorem d_Fs_rule_4 : decode M_Fs_rule.2.1 4 = .ok (.ifCond .eq 5, 3) := by decide +kernel
theorem d_Fs_rule_7 : decode M_Fs_rule.2.1 7 = .ok (.iconst (-1), 1) := by decide +kernel
theorem d_Fs_rule_8 : decode M_Fs_rule.2.1 8 = .ok (.ireturn, 1) := by decide +kernel
theorem d_Fs_rule_9 : decode M_Fs_rule.2.1 9 = .ok (.aload_n 0, 1) := by decide +kernel
theorem d_Fs_rule_10 : decode M_Fs_rule.2.1 10 = .ok (.getfield 72, 3) := by decide +kernel
theorem d_Fs_rule_13 : decode M_Fs_rule.2.1 13 = .ok (.invokevirtual 313, 3) := by decide +kernel
theorem d_Fs_rule_16 : decode M_Fs_rule.2.1 16 = .ok (.ireturn, 1) := by decide +kernel
theorem d_Fs_sues_0 : decode M_Fs_sues.2.1 0 = .ok (.aload_n 0, 1) := by decide +kernel
theorem d_Fs_sues_1 : decode M_Fs_sues.2.1 1 = .ok (.invokevirtual 208, 3) := by decide +kernel
theorem d_Fs_sues_4 : decode M_Fs_sues.2.1 4 = .ok (.ifCond .ne 14, 3) := by decide +kernel
theorem d_Fs_sues_7 : decode M_Fs_sues.2.1 7 = .ok (.aload_n 0, 1) := by decide +kernel
theorem d_Fs_sues_8 : decode M_Fs_sues.2.1 8 = .ok (.iload_n 1, 1) := by decide +kernel
theorem d_Fs_sues_9 : decode M_Fs_sues.2.1 9 = .ok (.iconst 0, 1) := by decide +kernel
theorem d_Fs_sues_10 : decode M_Fs_sues.2.1 10 = .ok (.bipush 9, 2) := by decide +kernel
theorem d_Fs_sues_12 : decode M_Fs_sues.2.1 12 = .ok (.invokevirtual 251, 3) := by decide +kernel
theorem d_Fs_sues_15 : decode M_Fs_sues.2.1 15 = .ok (.ifCond .eq 6, 3) := by decide +kernel
theorem d_Fs_sues_18 : decode M_Fs_sues.2.1 18 = .ok (.bipush (-100), 2) := by decide +kernel
theorem d_Fs_sues_20 : decode M_Fs_sues.2.1 20 = .ok (.ireturn, 1) := by decide +kernel
theorem d_Fs_sues_21 : decode M_Fs_sues.2.1 21 = .ok (.iload 4, 2) := by decide +kernel
theorem d_Fs_sues_23 : decode M_Fs_sues.2.1 23 = .ok (.ifCond .eq 12, 3) := by decide +kernel
theorem d_Fs_sues_26 : decode M_Fs_sues.2.1 26 = .ok (.iload_n 1, 1) := by decide +kernel
theorem d_Fs_sues_27 : decode M_Fs_sues.2.1 27 = .ok (.iload_n 3, 1) := by decide +kernel
theorem d_Fs_sues_28 : decode M_Fs_sues.2.1 28 = .ok (.iload_n 2, 1) := by decide +kernel
theorem d_Fs_sues_29 : decode M_Fs_sues.2.1 29 = .ok (.invokestatic 316, 3) := by decide +kernel
theorem d_Fs_sues_32 : decode M_Fs_sues.2.1 32 = .ok (.goto 9, 3) := by decide +kernel
theorem d_Fs_sues_35 : decode M_Fs_sues.2.1 35 = .ok (.iload_n 1, 1) := by decide +kernel
theorem d_Fs_sues_36 : decode M_Fs_sues.2.1 36 = .ok (.iload_n 2, 1) := by decide +kernel
theorem d_Fs_sues_37 : decode M_Fs_sues.2.1 37 = .ok (.iload_n 3, 1) := by decide +kernel
theorem d_Fs_sues_38 : decode M_Fs_sues.2.1 38 = .ok (.invokestatic 316, 3) := by decide +kernel
theorem d_Fs_sues_41 : decode M_Fs_sues.2.1 41 = .ok (.ireturn, 1) := by decide +kernel
theorem d_Fs_rests_0 : decode M_Fs_rests.2.1 0 = .ok (.aload_n 0, 1) := by decide +kernel
theorem d_Fs_rests_1 : decode M_Fs_rests.2.1 1 = .ok (.invokevirtual 208, 3) := by decide +kernel
theorem d_Fs_rests_4 : decode M_Fs_rests.2.1 4 = .ok (.ifCond .ne 14, 3) := by decide +kernel
theorem d_Fs_rests_7 : decode M_Fs_rests.2.1 7 = .ok (.aload_n 0, 1) := by decide +kernel
theorem d_Fs_rests_8 : decode M_Fs_rests.2.1 8 = .ok (.iload_n 1, 1) := by decide +kernel
theorem d_Fs_rests_9 : decode M_Fs_rests.2.1 9 = .ok (.iconst 0, 1) := by decide +kernel
theorem d_Fs_rests_10 : decode M_Fs_rests.2.1 10 = .ok (.bipush 9, 2) := by decide +kernel
theorem d_Fs_rests_12 : decode M_Fs_rests.2.1 12 = .ok (.invokevirtual 251, 3) := by decide +kernel
theorem d_Fs_rests_15 : decode M_Fs_rests.2.1 15 = .ok (.ifCond .eq 5, 3) := by decide +kernel
theorem d_Fs_rests_18 : decode M_Fs_rests.2.1 18 = .ok (.iconst (-1), 1) := by decide +kernel
theorem d_Fs_rests_19 : decode M_Fs_rests.2.1 19 = .ok (.ireturn, 1) := by decide +kernel
theorem d_Fs_rests_20 : decode M_Fs_rests.2.1 20 = .ok (.iconst 0, 1) := by decide +kernel
theorem d_Fs_rests_21 : decode M_Fs_rests.2.1 21 = .ok (.istore_n 2, 1) := by decide +kernel
theorem d_Fs_rests_22 : decode M_Fs_rests.2.1 22 = .ok (.iconst 0, 1) := by decide +kernel
theorem d_Fs_rests_23 : decode M_Fs_rests.2.1 23 = .ok (.istore_n 3, 1) := by decide +kernel
theorem d_Fs_rests_24 : decode M_Fs_rests.2.1 24 = .ok (.iload_n 3, 1) := by decide +kernel
theorem d_Fs_rests_25 : decode M_Fs_rests.2.1 25 = .ok (.iconst 4, 1) := by decide +kernel
theorem d_Fs_rests_26 : decode M_Fs_rests.2.1 26 = .ok (.if_icmp .ge 20, 3) := by decide +kernel
theorem d_Fs_rests_29 : decode M_Fs_rests.2.1 29 = .ok (.iload_n 1, 1) := by decide +kernel
theorem d_Fs_rests_30 : decode M_Fs_rests.2.1 30 = .ok (.iload_n 3, 1) := by decide +kernel
theorem d_Fs_rests_31 : decode M_Fs_rests.2.1 31 = .ok (.invokestatic 320, 3) := by decide +kernel
theorem d_Fs_rests_34 : decode M_Fs_rests.2.1 34 = .ok (.ifCond .eq 6, 3) := by decide +kernel
theorem d_Fs_rests_37 : decode M_Fs_rests.2.1 37 = .ok (.iinc 2 1, 3) := by decide +kernel
theorem d_Fs_rests_40 : decode M_Fs_rests.2.1 40 = .ok (.iinc 3 1, 3) := by decide +kernel
theorem d_Fs_rests_43 : decode M_Fs_rests.2.1 43 = .ok (.goto (-19), 3) := by decide +kernel
theorem d_Fs_rests_46 : decode M_Fs_rests.2.1 46 = .ok (.iload_n 2, 1) := by decide +kernel
theorem d_Fs_rests_47 : decode M_Fs_rests.2.1 47 = .ok (.ireturn, 1) := by decide +kernel
theorem d_Fs_rest_0 : decode M_Fs_rest.2.1 0 = .ok (.aload_n 0, 1) := by decide +kernel
theorem d_Fs_rest_1 : decode M_Fs_rest.2.1 1 = .ok (.invokevirtual 208, 3) := by decide +kernel
theorem d_Fs_rest_4 : decode M_Fs_rest.2.1 4 = .ok (.ifCond .ne 14, 3) := by decide +kernel
theorem d_Fs_rest_7 : decode M_Fs_rest.2.1 7 = .ok (.aload_n 0, 1) := by decide +kernel
theorem d_Fs_rest_8 : decode M_Fs_rest.2.1 8 = .ok (.iload_n 1, 1) := by decide +kernel
theorem d_Fs_rest_9 : decode M_Fs_rest.2.1 9 = .ok (.iconst 0, 1) := by decide +kernel
theorem d_Fs_rest_10 : decode M_Fs_rest.2.1 10 = .ok (.bipush 9, 2) := by decide +kernel
theorem d_Fs_rest_12 : decode M_Fs_rest.2.1 12 = .ok (.invokevirtual 251, 3) := by decide +kernel
theorem d_Fs_rest_15 : decode M_Fs_rest.2.1 15 = .ok (.ifCond .eq 5, 3) := by decide +kernel
theorem d_Fs_rest_18 : decode M_Fs_rest.2.1 18 = .ok (.iconst (-1), 1) := by decide +kernel
theorem d_Fs_rest_19 : decode M_Fs_rest.2.1 19 = .ok (.ireturn, 1) := by decide +kernel
theorem d_Fs_rest_20 : decode M_Fs_rest.2.1 20 = .ok (.iconst 0, 1) := by decide +kernel
theorem d_Fs_rest_21 : decode M_Fs_rest.2.1 21 = .ok (.istore_n 2, 1) := by decide +kernel
theorem d_Fs_rest_22 : decode M_Fs_rest.2.1 22 = .ok (.iload_n 2, 1) := by decide +kernel
theorem d_Fs_rest_23 : decode M_Fs_rest.2.1 23 = .ok (.iconst 4, 1) := by decide +kernel
theorem d_Fs_rest_24 : decode M_Fs_rest.2.1 24 = .ok (.if_icmp .ge 28, 3) := by decide +kernel
theorem d_Fs_rest_27 : decode M_Fs_rest.2.1 27 = .ok (.iload_n 1, 1) := by decide +kernel
theorem d_Fs_rest_28 : decode M_Fs_rest.2.1 28 = .ok (.iload_n 2, 1) := by decide +kernel
theorem d_Fs_rest_29 : decode M_Fs_rest.2.1 29 = .ok (.invokestatic 320, 3) := by decide +kernel
theorem d_Fs_rest_32 : decode M_Fs_rest.2.1 32 = .ok (.ifCond .eq 14, 3) := by decide +kernel
theorem d_Fs_rest_35 : decode M_Fs_rest.2.1 35 = .ok (.bipush 10, 2) := by decide +kernel
theorem d_Fs_rest_37 : decode M_Fs_rest.2.1 37 = .ok (.iload_n 2, 1) := by decide +kernel
theorem d_Fs_rest_38 : decode M_Fs_rest.2.1 38 = .ok (.iconst 1, 1) := by decide +kernel
theorem d_Fs_rest_39 : decode M_Fs_rest.2.1 39 = .ok (.ishr, 1) := by decide +kernel
theorem d_Fs_rest_40 : decode M_Fs_rest.2.1 40 = .ok (.imul, 1) := by decide +kernel
theorem d_Fs_rest_41 : decode M_Fs_rest.2.1 41 = .ok (.iload_n 2, 1) := by decide +kernel
theorem d_Fs_rest_42 : decode M_Fs_rest.2.1 42 = .ok (.iconst 1, 1) := by decide +kernel
theorem d_Fs_rest_43 : decode M_Fs_rest.2.1 43 = .ok (.iand, 1) := by decide +kernel
theorem d_Fs_rest_44 : decode M_Fs_rest.2.1 44 = .ok (.iadd, 1) := by decide +kernel
theorem d_Fs_rest_45 : decode M_Fs_rest.2.1 45 = .ok (.ireturn, 1) := by decide +kernel
theorem d_Fs_rest_46 : decode M_Fs_rest.2.1 46 = .ok (.iinc 2 1, 3) := by decide +kernel
theorem d_Fs_rest_49 : decode M_Fs_rest.2.1 49 = .ok (.goto (-27), 3) := by decide +kernel
theorem d_Fs_rest_52 : decode M_Fs_rest.2.1 52 = .ok (.bipush (-2), 2) := by decide +kernel
theorem d_Fs_rest_54 : decode M_Fs_rest.2.1 54 = .ok (.ireturn, 1) := by decide +kernel
theorem d_Fs_odds_0 : decode M_Fs_odds.2.1 0 = .ok (.aload_n 0, 1) := by decide +kernel
theorem d_Fs_odds_1 : decode M_Fs_odds.2.1 1 = .ok (.iload_n 1, 1) := by decide +kernel
theorem d_Fs_odds_2 : decode M_Fs_odds.2.1 2 = .ok (.invokevirtual 146, 3) := by decide +kernel
theorem d_Fs_odds_5 : decode M_Fs_odds.2.1 5 = .ok (.ifCond .eq 7, 3) := by decide +kernel
theorem d_Fs_odds_8 : decode M_Fs_odds.2.1 8 = .ok (.ldc2_w 301, 3) := by decide +kernel
theorem d_Fs_odds_11 : decode M_Fs_odds.2.1 11 = .ok (.lreturn, 1) := by decide +kernel
theorem d_Fs_odds_12 : decode M_Fs_odds.2.1 12 = .ok (.aload_n 0, 1) := by decide +kernel
theorem d_Fs_odds_13 : decode M_Fs_odds.2.1 13 = .ok (.getfield 79, 3) := by decide +kernel
theorem d_Fs_odds_16 : decode M_Fs_odds.2.1 16 = .ok (.aload_n 0, 1) := by decide +kernel
theorem d_Fs_odds_17 : decode M_Fs_odds.2.1 17 = .ok (.getfield 30, 3) := by decide +kernel
theorem d_Fs_odds_20 : decode M_Fs_odds.2.1 20 = .ok (.iload_n 1, 1) := by decide +kernel
theorem d_Fs_odds_21 : decode M_Fs_odds.2.1 21 = .ok (.iload_n 2, 1) := by decide +kernel
theorem d_Fs_odds_22 : decode M_Fs_odds.2.1 22 = .ok (.invokevirtual 323, 3) := by decide +kernel
theorem d_Fs_odds_25 : decode M_Fs_odds.2.1 25 = .ok (.iload_n 3, 1) := by decide +kernel
theorem d_Fs_odds_26 : decode M_Fs_odds.2.1 26 = .ok (.ifCond .eq 13, 3) := by decide +kernel
theorem d_Fs_odds_29 : decode M_Fs_odds.2.1 29 = .ok (.aload_n 0, 1) := by decide +kernel
theorem d_Fs_odds_30 : decode M_Fs_odds.2.1 30 = .ok (.getfield 79, 3) := by decide +kernel
theorem d_Fs_odds_33 : decode M_Fs_odds.2.1 33 = .ok (.getfield 326, 3) := by decide +kernel
theorem d_Fs_odds_36 : decode M_Fs_odds.2.1 36 = .ok (.goto 10, 3) := by decide +kernel
theorem d_Fs_odds_39 : decode M_Fs_odds.2.1 39 = .ok (.aload_n 0, 1) := by decide +kernel
theorem d_Fs_odds_40 : decode M_Fs_odds.2.1 40 = .ok (.getfield 79, 3) := by decide +kernel
theorem d_Fs_odds_43 : decode M_Fs_odds.2.1 43 = .ok (.getfield 330, 3) := by decide +kernel
theorem d_Fs_odds_46 : decode M_Fs_odds.2.1 46 = .ok (.aload_n 0, 1) := by decide +kernel
theorem d_Fs_odds_47 : decode M_Fs_odds.2.1 47 = .ok (.getfield 79, 3) := by decide +kernel
theorem d_Fs_odds_50 : decode M_Fs_odds.2.1 50 = .ok (.getfield 333, 3) := by decide +kernel
theorem d_Fs_odds_53 : decode M_Fs_odds.2.1 53 = .ok (.iload 4, 2) := by decide +kernel
theorem d_Fs_odds_55 : decode M_Fs_odds.2.1 55 = .ok (.invokestatic 309, 3) := by decide +kernel
theorem d_Fs_odds_58 : decode M_Fs_odds.2.1 58 = .ok (.lreturn, 1) := by decide +kernel
theorem d_Fs_lostOdds_0 : decode M_Fs_lostOdds.2.1 0 = .ok (.aload_n 0, 1) := by decide +kernel
theorem d_Fs_lostOdds_1 : decode M_Fs_lostOdds.2.1 1 = .ok (.iload_n 1, 1) := by decide +kernel
theorem d_Fs_lostOdds_2 : decode M_Fs_lostOdds.2.1 2 = .ok (.invokevirtual 146, 3) := by decide +kernel
theorem d_Fs_lostOdds_5 : decode M_Fs_lostOdds.2.1 5 = .ok (.ifCond .eq 7, 3) := by decide +kernel
theorem d_Fs_lostOdds_8 : decode M_Fs_lostOdds.2.1 8 = .ok (.ldc2_w 301, 3) := by decide +kernel
theorem d_Fs_lostOdds_11 : decode M_Fs_lostOdds.2.1 11 = .ok (.lreturn, 1) := by decide +kernel
theorem d_Fs_lostOdds_12 : decode M_Fs_lostOdds.2.1 12 = .ok (.aload_n 0, 1) := by decide +kernel
theorem d_Fs_lostOdds_13 : decode M_Fs_lostOdds.2.1 13 = .ok (.getfield 79, 3) := by decide +kernel
theorem d_Fs_lostOdds_16 : decode M_Fs_lostOdds.2.1 16 = .ok (.aload_n 0, 1) := by decide +kernel
theorem d_Fs_lostOdds_17 : decode M_Fs_lostOdds.2.1 17 = .ok (.getfield 30, 3) := by decide +kernel
theorem d_Fs_lostOdds_20 : decode M_Fs_lostOdds.2.1 20 = .ok (.iload_n 1, 1) := by decide +kernel
theorem d_Fs_lostOdds_21 : decode M_Fs_lostOdds.2.1 21 = .ok (.iload_n 2, 1) := by decide +kernel
theorem d_Fs_lostOdds_22 : decode M_Fs_lostOdds.2.1 22 = .ok (.invokevirtual 323, 3) := by decide +kernel
theorem d_Fs_lostOdds_25 : decode M_Fs_lostOdds.2.1 25 = .ok (.aload_n 0, 1) := by decide +kernel
theorem d_Fs_lostOdds_26 : decode M_Fs_lostOdds.2.1 26 = .ok (.getfield 79, 3) := by decide +kernel
theorem d_Fs_lostOdds_29 : decode M_Fs_lostOdds.2.1 29 = .ok (.getfield 333, 3) := by decide +kernel
theorem d_Fs_lostOdds_32 : decode M_Fs_lostOdds.2.1 32 = .ok (.aload_n 0, 1) := by decide +kernel
theorem d_Fs_lostOdds_33 : decode M_Fs_lostOdds.2.1 33 = .ok (.getfield 79, 3) := by decide +kernel
theorem d_Fs_lostOdds_36 : decode M_Fs_lostOdds.2.1 36 = .ok (.getfield 326, 3) := by decide +kernel
theorem d_Fs_lostOdds_39 : decode M_Fs_lostOdds.2.1 39 = .ok (.lsub, 1) := by decide +kernel
theorem d_Fs_lostOdds_40 : decode M_Fs_lostOdds.2.1 40 = .ok (.aload_n 0, 1) := by decide +kernel
theorem d_Fs_lostOdds_41 : decode M_Fs_lostOdds.2.1 41 = .ok (.getfield 79, 3) := by decide +kernel
theorem d_Fs_lostOdds_44 : decode M_Fs_lostOdds.2.1 44 = .ok (.getfield 330, 3) := by decide +kernel
theorem d_Fs_lostOdds_47 : decode M_Fs_lostOdds.2.1 47 = .ok (.lsub, 1) := by decide +kernel
theorem d_Fs_lostOdds_48 : decode M_Fs_lostOdds.2.1 48 = .ok (.aload_n 0, 1) := by decide +kernel
theorem d_Fs_lostOdds_49 : decode M_Fs_lostOdds.2.1 49 = .ok (.getfield 79, 3) := by decide +kernel
theorem d_Fs_lostOdds_52 : decode M_Fs_lostOdds.2.1 52 = .ok (.getfield 333, 3) := by decide +kernel
theorem d_Fs_lostOdds_55 : decode M_Fs_lostOdds.2.1 55 = .ok (.iload_n 3, 1) := by decide +kernel
theorem d_Fs_lostOdds_56 : decode M_Fs_lostOdds.2.1 56 = .ok (.invokestatic 309, 3) := by decide +kernel
theorem d_Fs_lostOdds_59 : decode M_Fs_lostOdds.2.1 59 = .ok (.lreturn, 1) := by decide +kernel
theorem d_Fs_blown_0 : decode M_Fs_blown.2.1 0 = .ok (.aload_n 0, 1) := by decide +kernel
theorem d_Fs_blown_1 : decode M_Fs_blown.2.1 1 = .ok (.iload_n 1, 1) := by decide +kernel
theorem d_Fs_blown_2 : decode M_Fs_blown.2.1 2 = .ok (.invokevirtual 146, 3) := by decide +kernel
theorem d_Fs_blown_5 : decode M_Fs_blown.2.1 5 = .ok (.ifCond .ne 15, 3) := by decide +kernel
theorem d_Fs_blown_8 : decode M_Fs_blown.2.1 8 = .ok (.aload_n 0, 1) := by decide +kernel
theorem d_Fs_blown_9 : decode M_Fs_blown.2.1 9 = .ok (.iload_n 3, 1) := by decide +kernel
theorem d_Fs_blown_10 : decode M_Fs_blown.2.1 10 = .ok (.iconst 0, 1) := by decide +kernel
theorem d_Fs_blown_11 : decode M_Fs_blown.2.1 11 = .ok (.ldc_w 336, 3) := by decide +kernel
theorem d_Fs_blown_14 : decode M_Fs_blown.2.1 14 = .ok (.invokevirtual 251, 3) := by decide +kernel
theorem d_Fs_blown_17 : decode M_Fs_blown.2.1 17 = .ok (.ifCond .eq 5, 3) := by decide +kernel
theorem d_Fs_blown_20 : decode M_Fs_blown.2.1 20 = .ok (.iconst (-1), 1) := by decide +kernel
theorem d_Fs_blown_21 : decode M_Fs_blown.2.1 21 = .ok (.ireturn, 1) := by decide +kernel
theorem d_Fs_blown_22 : decode M_Fs_blown.2.1 22 = .ok (.aload_n 0, 1) := by decide +kernel
theorem d_Fs_blown_23 : decode M_Fs_blown.2.1 23 = .ok (.getfield 79, 3) := by decide +kernel
theorem d_Fs_blown_26 : decode M_Fs_blown.2.1 26 = .ok (.iload_n 3, 1) := by decide +kernel
theorem d_Fs_blown_27 : decode M_Fs_blown.2.1 27 = .ok (.putfield 337, 3) := by decide +kernel
theorem d_Fs_blown_30 : decode M_Fs_blown.2.1 30 = .ok (.aload_n 0, 1) := by decide +kernel
theorem d_Fs_blown_31 : decode M_Fs_blown.2.1 31 = .ok (.getfield 79, 3) := by decide +kernel
theorem d_Fs_blown_34 : decode M_Fs_blown.2.1 34 = .ok (.aload_n 0, 1) := by decide +kernel
theorem d_Fs_blown_35 : decode M_Fs_blown.2.1 35 = .ok (.getfield 30, 3) := by decide +kernel
theorem d_Fs_blown_38 : decode M_Fs_blown.2.1 38 = .ok (.iload_n 1, 1) := by decide +kernel
theorem d_Fs_blown_39 : decode M_Fs_blown.2.1 39 = .ok (.iload_n 2, 1) := by decide +kernel
theorem d_Fs_blown_40 : decode M_Fs_blown.2.1 40 = .ok (.invokevirtual 340, 3) := by decide +kernel
theorem d_Fs_blown_43 : decode M_Fs_blown.2.1 43 = .ok (.ireturn, 1) := by decide +kernel
theorem d_Fs_yeses_0 : decode M_Fs_yeses.2.1 0 = .ok (.aload_n 0, 1) := by decide +kernel
theorem d_Fs_yeses_1 : decode M_Fs_yeses.2.1 1 = .ok (.iload_n 1, 1) := by decide +kernel
theorem d_Fs_yeses_2 : decode M_Fs_yeses.2.1 2 = .ok (.invokevirtual 146, 3) := by decide +kernel
theorem d_Fs_yeses_5 : decode M_Fs_yeses.2.1 5 = .ok (.ifCond .ne 27, 3) := by decide +kernel
theorem d_Fs_yeses_8 : decode M_Fs_yeses.2.1 8 = .ok (.aload_n 0, 1) := by decide +kernel
theorem d_Fs_yeses_9 : decode M_Fs_yeses.2.1 9 = .ok (.iload_n 3, 1) := by decide +kernel
theorem d_Fs_yeses_10 : decode M_Fs_yeses.2.1 10 = .ok (.iconst 0, 1) := by decide +kernel
theorem d_Fs_yeses_11 : decode M_Fs_yeses.2.1 11 = .ok (.ldc_w 336, 3) := by decide +kernel
theorem d_Fs_yeses_14 : decode M_Fs_yeses.2.1 14 = .ok (.invokevirtual 251, 3) := by decide +kernel
theorem d_Fs_yeses_17 : decode M_Fs_yeses.2.1 17 = .ok (.ifCond .ne 15, 3) := by decide +kernel
theorem d_Fs_yeses_20 : decode M_Fs_yeses.2.1 20 = .ok (.aload_n 0, 1) := by decide +kernel
theorem d_Fs_yeses_21 : decode M_Fs_yeses.2.1 21 = .ok (.iload 4, 2) := by decide +kernel
theorem d_Fs_yeses_23 : decode M_Fs_yeses.2.1 23 = .ok (.iconst 0, 1) := by decide +kernel
theorem d_Fs_yeses_24 : decode M_Fs_yeses.2.1 24 = .ok (.bipush 60, 2) := by decide +kernel
theorem d_Fs_yeses_26 : decode M_Fs_yeses.2.1 26 = .ok (.invokevirtual 251, 3) := by decide +kernel
theorem d_Fs_yeses_29 : decode M_Fs_yeses.2.1 29 = .ok (.ifCond .eq 5, 3) := by decide +kernel
theorem d_Fs_yeses_32 : decode M_Fs_yeses.2.1 32 = .ok (.iconst (-1), 1) := by decide +kernel
theorem d_Fs_yeses_33 : decode M_Fs_yeses.2.1 33 = .ok (.ireturn, 1) := by decide +kernel
theorem d_Fs_yeses_34 : decode M_Fs_yeses.2.1 34 = .ok (.aload_n 0, 1) := by decide +kernel
theorem d_Fs_yeses_35 : decode M_Fs_yeses.2.1 35 = .ok (.getfield 79, 3) := by decide +kernel
theorem d_Fs_yeses_38 : decode M_Fs_yeses.2.1 38 = .ok (.iload_n 3, 1) := by decide +kernel
theorem d_Fs_yeses_39 : decode M_Fs_yeses.2.1 39 = .ok (.putfield 337, 3) := by decide +kernel
theorem d_Fs_yeses_42 : decode M_Fs_yeses.2.1 42 = .ok (.iconst 0, 1) := by decide +kernel
theorem d_Fs_yeses_43 : decode M_Fs_yeses.2.1 43 = .ok (.istore 5, 2) := by decide +kernel
theorem d_Fs_yeses_45 : decode M_Fs_yeses.2.1 45 = .ok (.iconst 0, 1) := by decide +kernel
theorem d_Fs_yeses_46 : decode M_Fs_yeses.2.1 46 = .ok (.istore 6, 2) := by decide +kernel
theorem d_Fs_yeses_48 : decode M_Fs_yeses.2.1 48 = .ok (.iload 6, 2) := by decide +kernel
theorem d_Fs_yeses_50 : decode M_Fs_yeses.2.1 50 = .ok (.iload 4, 2) := by decide +kernel
theorem d_Fs_yeses_52 : decode M_Fs_yeses.2.1 52 = .ok (.if_icmp .ge 29, 3) := by decide +kernel
theorem d_Fs_yeses_55 : decode M_Fs_yeses.2.1 55 = .ok (.aload_n 0, 1) := by decide +kernel
theorem d_Fs_yeses_56 : decode M_Fs_yeses.2.1 56 = .ok (.getfield 79, 3) := by decide +kernel
theorem d_Fs_yeses_59 : decode M_Fs_yeses.2.1 59 = .ok (.aload_n 0, 1) := by decide +kernel
theorem d_Fs_yeses_60 : decode M_Fs_yeses.2.1 60 = .ok (.getfield 30, 3) := by decide +kernel
theorem d_Fs_yeses_63 : decode M_Fs_yeses.2.1 63 = .ok (.iload_n 1, 1) := by decide +kernel
theorem d_Fs_yeses_64 : decode M_Fs_yeses.2.1 64 = .ok (.iload_n 2, 1) := by decide +kernel
theorem d_Fs_yeses_65 : decode M_Fs_yeses.2.1 65 = .ok (.invokevirtual 340, 3) := by decide +kernel
theorem d_Fs_yeses_68 : decode M_Fs_yeses.2.1 68 = .ok (.iconst 1, 1) := by decide +kernel
theorem d_Fs_yeses_69 : decode M_Fs_yeses.2.1 69 = .ok (.if_icmp .ne 6, 3) := by decide +kernel
theorem d_Fs_yeses_72 : decode M_Fs_yeses.2.1 72 = .ok (.iinc 5 1, 3) := by decide +kernel
theorem d_Fs_yeses_75 : decode M_Fs_yeses.2.1 75 = .ok (.iinc 6 1, 3) := by decide +kernel
theorem d_Fs_yeses_78 : decode M_Fs_yeses.2.1 78 = .ok (.goto (-30), 3) := by decide +kernel
theorem d_Fs_yeses_81 : decode M_Fs_yeses.2.1 81 = .ok (.iload 5, 2) := by decide +kernel
theorem d_Fs_yeses_83 : decode M_Fs_yeses.2.1 83 = .ok (.ireturn, 1) := by decide +kernel
theorem d_Fs_year_0 : decode M_Fs_year.2.1 0 = .ok (.aload_n 0, 1) := by decide +kernel
theorem d_Fs_year_1 : decode M_Fs_year.2.1 1 = .ok (.invokevirtual 208, 3) := by decide +kernel
theorem d_Fs_year_4 : decode M_Fs_year.2.1 4 = .ok (.ifCond .eq 5, 3) := by decide +kernel
theorem d_Fs_year_7 : decode M_Fs_year.2.1 7 = .ok (.iconst (-1), 1) := by decide +kernel
theorem d_Fs_year_8 : decode M_Fs_year.2.1 8 = .ok (.ireturn, 1) := by decide +kernel
theorem d_Fs_year_9 : decode M_Fs_year.2.1 9 = .ok (.aload_n 0, 1) := by decide +kernel
theorem d_Fs_year_10 : decode M_Fs_year.2.1 10 = .ok (.getfield 30, 3) := by decide +kernel
theorem d_Fs_year_13 : decode M_Fs_year.2.1 13 = .ok (.getfield 344, 3) := by decide +kernel
theorem d_Fs_year_16 : decode M_Fs_year.2.1 16 = .ok (.sipush 999, 3) := by decide +kernel
theorem d_Fs_year_19 : decode M_Fs_year.2.1 19 = .ok (.if_icmp .lt 9, 3) := by decide +kernel
theorem d_Fs_year_22 : decode M_Fs_year.2.1 22 = .ok (.aload_n 0, 1) := by decide +kernel
theorem d_Fs_year_23 : decode M_Fs_year.2.1 23 = .ok (.iconst 3, 1) := by decide +kernel
theorem d_Fs_year_24 : decode M_Fs_year.2.1 24 = .ok (.invokevirtual 102, 3) := by decide +kernel
theorem d_Fs_year_27 : decode M_Fs_year.2.1 27 = .ok (.ireturn, 1) := by decide +kernel
theorem d_Fs_year_28 : decode M_Fs_year.2.1 28 = .ok (.aload_n 0, 1) := by decide +kernel
theorem d_Fs_year_29 : decode M_Fs_year.2.1 29 = .ok (.getfield 88, 3) := by decide +kernel
theorem d_Fs_year_32 : decode M_Fs_year.2.1 32 = .ok (.aload_n 0, 1) := by decide +kernel
theorem d_Fs_year_33 : decode M_Fs_year.2.1 33 = .ok (.getfield 30, 3) := by decide +kernel
theorem d_Fs_year_36 : decode M_Fs_year.2.1 36 = .ok (.invokevirtual 347, 3) := by decide +kernel
theorem d_Fs_year_39 : decode M_Fs_year.2.1 39 = .ok (.aload_n 0, 1) := by decide +kernel
theorem d_Fs_year_40 : decode M_Fs_year.2.1 40 = .ok (.getfield 30, 3) := by decide +kernel
theorem d_Fs_year_43 : decode M_Fs_year.2.1 43 = .ok (.invokevirtual 350, 3) := by decide +kernel
theorem d_Fs_year_46 : decode M_Fs_year.2.1 46 = .ok (.istore_n 1, 1) := by decide +kernel
theorem d_Fs_year_47 : decode M_Fs_year.2.1 47 = .ok (.aload_n 0, 1) := by decide +kernel
theorem d_Fs_year_48 : decode M_Fs_year.2.1 48 = .ok (.getfield 30, 3) := by decide +kernel
theorem d_Fs_year_51 : decode M_Fs_year.2.1 51 = .ok (.aload_n 0, 1) := by decide +kernel
theorem d_Fs_year_52 : decode M_Fs_year.2.1 52 = .ok (.getfield 16, 3) := by decide +kernel
theorem d_Fs_year_55 : decode M_Fs_year.2.1 55 = .ok (.getfield 166, 3) := by decide +kernel
theorem d_Fs_year_58 : decode M_Fs_year.2.1 58 = .ok (.iconst 1, 1) := by decide +kernel
theorem d_Fs_year_59 : decode M_Fs_year.2.1 59 = .ok (.invokevirtual 353, 3) := by decide +kernel
theorem d_Fs_year_62 : decode M_Fs_year.2.1 62 = .ok (.iload_n 1, 1) := by decide +kernel
theorem d_Fs_year_63 : decode M_Fs_year.2.1 63 = .ok (.aload_n 0, 1) := by decide +kernel
theorem d_Fs_year_64 : decode M_Fs_year.2.1 64 = .ok (.getfield 30, 3) := by decide +kernel
theorem d_Fs_year_67 : decode M_Fs_year.2.1 67 = .ok (.invokevirtual 350, 3) := by decide +kernel
theorem d_Fs_year_70 : decode M_Fs_year.2.1 70 = .ok (.iconst (-1), 1) := by decide +kernel
theorem d_Fs_year_71 : decode M_Fs_year.2.1 71 = .ok (.ixor, 1) := by decide +kernel
theorem d_Fs_year_72 : decode M_Fs_year.2.1 72 = .ok (.iand, 1) := by decide +kernel
theorem d_Fs_year_73 : decode M_Fs_year.2.1 73 = .ok (.ireturn, 1) := by decide +kernel
theorem d_Fs_mend_0 : decode M_Fs_mend.2.1 0 = .ok (.aload_n 0, 1) := by decide +kernel
theorem d_Fs_mend_1 : decode M_Fs_mend.2.1 1 = .ok (.iload_n 1, 1) := by decide +kernel
theorem d_Fs_mend_2 : decode M_Fs_mend.2.1 2 = .ok (.invokevirtual 146, 3) := by decide +kernel
theorem d_Fs_mend_5 : decode M_Fs_mend.2.1 5 = .ok (.ifCond .eq 5, 3) := by decide +kernel
theorem d_Fs_mend_8 : decode M_Fs_mend.2.1 8 = .ok (.iconst (-1), 1) := by decide +kernel
theorem d_Fs_mend_9 : decode M_Fs_mend.2.1 9 = .ok (.ireturn, 1) := by decide +kernel
theorem d_Fs_mend_10 : decode M_Fs_mend.2.1 10 = .ok (.aload_n 0, 1) := by decide +kernel
theorem d_Fs_mend_11 : decode M_Fs_mend.2.1 11 = .ok (.getfield 16, 3) := by decide +kernel
theorem d_Fs_mend_14 : decode M_Fs_mend.2.1 14 = .ok (.getfield 127, 3) := by decide +kernel
theorem d_Fs_mend_17 : decode M_Fs_mend.2.1 17 = .ok (.getfield 154, 3) := by decide +kernel
theorem d_Fs_mend_20 : decode M_Fs_mend.2.1 20 = .ok (.iload_n 1, 1) := by decide +kernel
theorem d_Fs_mend_21 : decode M_Fs_mend.2.1 21 = .ok (.iaload, 1) := by decide +kernel
theorem d_Fs_mend_22 : decode M_Fs_mend.2.1 22 = .ok (.istore_n 2, 1) := by decide +kernel
theorem d_Fs_mend_23 : decode M_Fs_mend.2.1 23 = .ok (.aload_n 0, 1) := by decide +kernel
theorem d_Fs_mend_24 : decode M_Fs_mend.2.1 24 = .ok (.getfield 30, 3) := by decide +kernel
theorem d_Fs_mend_27 : decode M_Fs_mend.2.1 27 = .ok (.getfield 154, 3) := by decide +kernel
theorem d_Fs_mend_30 : decode M_Fs_mend.2.1 30 = .ok (.iload_n 1, 1) := by decide +kernel
theorem d_Fs_mend_31 : decode M_Fs_mend.2.1 31 = .ok (.iaload, 1) := by decide +kernel
theorem d_Fs_mend_32 : decode M_Fs_mend.2.1 32 = .ok (.iload_n 2, 1) := by decide +kernel
theorem d_Fs_mend_33 : decode M_Fs_mend.2.1 33 = .ok (.if_icmp .ne 9, 3) := by decide +kernel
theorem d_Fs_mend_36 : decode M_Fs_mend.2.1 36 = .ok (.aload_n 0, 1) := by decide +kernel
theorem d_Fs_mend_37 : decode M_Fs_mend.2.1 37 = .ok (.iconst 5, 1) := by decide +kernel
theorem d_Fs_mend_38 : decode M_Fs_mend.2.1 38 = .ok (.invokevirtual 102, 3) := by decide +kernel
theorem d_Fs_mend_41 : decode M_Fs_mend.2.1 41 = .ok (.ireturn, 1) := by decide +kernel
theorem d_Fs_mend_42 : decode M_Fs_mend.2.1 42 = .ok (.aload_n 0, 1) := by decide +kernel
theorem d_Fs_mend_43 : decode M_Fs_mend.2.1 43 = .ok (.getfield 88, 3) := by decide +kernel
theorem d_Fs_mend_46 : decode M_Fs_mend.2.1 46 = .ok (.aload_n 0, 1) := by decide +kernel
theorem d_Fs_mend_47 : decode M_Fs_mend.2.1 47 = .ok (.getfield 30, 3) := by decide +kernel
theorem d_Fs_mend_50 : decode M_Fs_mend.2.1 50 = .ok (.invokevirtual 347, 3) := by decide +kernel
theorem d_Fs_mend_53 : decode M_Fs_mend.2.1 53 = .ok (.aload_n 0, 1) := by decide +kernel
theorem d_Fs_mend_54 : decode M_Fs_mend.2.1 54 = .ok (.getfield 30, 3) := by decide +kernel
theorem d_Fs_mend_57 : decode M_Fs_mend.2.1 57 = .ok (.getfield 154, 3) := by decide +kernel
theorem d_Fs_mend_60 : decode M_Fs_mend.2.1 60 = .ok (.iload_n 1, 1) := by decide +kernel
theorem d_Fs_mend_61 : decode M_Fs_mend.2.1 61 = .ok (.iload_n 2, 1) := by decide +kernel
theorem d_Fs_mend_62 : decode M_Fs_mend.2.1 62 = .ok (.iastore, 1) := by decide +kernel
theorem d_Fs_mend_63 : decode M_Fs_mend.2.1 63 = .ok (.iload_n 2, 1) := by decide +kernel
theorem d_Fs_mend_64 : decode M_Fs_mend.2.1 64 = .ok (.ireturn, 1) := by decide +kernel
theorem d_Fs_hire_0 : decode M_Fs_hire.2.1 0 = .ok (.aload_n 0, 1) := by decide +kernel
theorem d_Fs_hire_1 : decode M_Fs_hire.2.1 1 = .ok (.iload_n 1, 1) := by decide +kernel
theorem d_Fs_hire_2 : decode M_Fs_hire.2.1 2 = .ok (.invokevirtual 146, 3) := by decide +kernel
theorem d_Fs_hire_5 : decode M_Fs_hire.2.1 5 = .ok (.ifCond .eq 5, 3) := by decide +kernel
theorem d_Fs_hire_8 : decode M_Fs_hire.2.1 8 = .ok (.iconst (-1), 1) := by decide +kernel
theorem d_Fs_hire_9 : decode M_Fs_hire.2.1 9 = .ok (.ireturn, 1) := by decide +kernel
theorem d_Fs_hire_10 : decode M_Fs_hire.2.1 10 = .ok (.aload_n 0, 1) := by decide +kernel
theorem d_Fs_hire_11 : decode M_Fs_hire.2.1 11 = .ok (.getfield 88, 3) := by decide +kernel
theorem d_Fs_hire_14 : decode M_Fs_hire.2.1 14 = .ok (.aload_n 0, 1) := by decide +kernel
theorem d_Fs_hire_15 : decode M_Fs_hire.2.1 15 = .ok (.getfield 30, 3) := by decide +kernel
theorem d_Fs_hire_18 : decode M_Fs_hire.2.1 18 = .ok (.invokevirtual 347, 3) := by decide +kernel
theorem d_Fs_hire_21 : decode M_Fs_hire.2.1 21 = .ok (.aload_n 0, 1) := by decide +kernel
theorem d_Fs_hire_22 : decode M_Fs_hire.2.1 22 = .ok (.getfield 30, 3) := by decide +kernel
theorem d_Fs_hire_25 : decode M_Fs_hire.2.1 25 = .ok (.dup, 1) := by decide +kernel
theorem d_Fs_hire_26 : decode M_Fs_hire.2.1 26 = .ok (.getfield 157, 3) := by decide +kernel
theorem d_Fs_hire_29 : decode M_Fs_hire.2.1 29 = .ok (.iconst 1, 1) := by decide +kernel
theorem d_Fs_hire_30 : decode M_Fs_hire.2.1 30 = .ok (.iload_n 1, 1) := by decide +kernel
theorem d_Fs_hire_31 : decode M_Fs_hire.2.1 31 = .ok (.ishl, 1) := by decide +kernel
theorem d_Fs_hire_32 : decode M_Fs_hire.2.1 32 = .ok (.ixor, 1) := by decide +kernel
theorem d_Fs_hire_33 : decode M_Fs_hire.2.1 33 = .ok (.putfield 157, 3) := by decide +kernel
theorem d_Fs_hire_36 : decode M_Fs_hire.2.1 36 = .ok (.aload_n 0, 1) := by decide +kernel
theorem d_Fs_hire_37 : decode M_Fs_hire.2.1 37 = .ok (.getfield 30, 3) := by decide +kernel
theorem d_Fs_hire_40 : decode M_Fs_hire.2.1 40 = .ok (.getfield 157, 3) := by decide +kernel
theorem d_Fs_hire_43 : decode M_Fs_hire.2.1 43 = .ok (.iload_n 1, 1) := by decide +kernel
theorem d_Fs_hire_44 : decode M_Fs_hire.2.1 44 = .ok (.ishr, 1) := by decide +kernel
theorem d_Fs_hire_45 : decode M_Fs_hire.2.1 45 = .ok (.iconst 1, 1) := by decide +kernel
theorem d_Fs_hire_46 : decode M_Fs_hire.2.1 46 = .ok (.iand, 1) := by decide +kernel
theorem d_Fs_hire_47 : decode M_Fs_hire.2.1 47 = .ok (.ireturn, 1) := by decide +kernel
theorem d_Fs_send_0 : decode M_Fs_send.2.1 0 = .ok (.aload_n 0, 1) := by decide +kernel
theorem d_Fs_send_1 : decode M_Fs_send.2.1 1 = .ok (.iload_n 1, 1) := by decide +kernel
theorem d_Fs_send_2 : decode M_Fs_send.2.1 2 = .ok (.invokevirtual 146, 3) := by decide +kernel
theorem d_Fs_send_5 : decode M_Fs_send.2.1 5 = .ok (.ifCond .ne 11, 3) := by decide +kernel
theorem d_Fs_send_8 : decode M_Fs_send.2.1 8 = .ok (.aload_n 0, 1) := by decide +kernel
theorem d_Fs_send_9 : decode M_Fs_send.2.1 9 = .ok (.iload_n 2, 1) := by decide +kernel
theorem d_Fs_send_10 : decode M_Fs_send.2.1 10 = .ok (.invokevirtual 146, 3) := by decide +kernel
theorem d_Fs_send_13 : decode M_Fs_send.2.1 13 = .ok (.ifCond .eq 5, 3) := by decide +kernel
theorem d_Fs_send_16 : decode M_Fs_send.2.1 16 = .ok (.iconst 0, 1) := by decide +kernel
theorem d_Fs_send_17 : decode M_Fs_send.2.1 17 = .ok (.ireturn, 1) := by decide +kernel
theorem d_Fs_send_18 : decode M_Fs_send.2.1 18 = .ok (.iload_n 2, 1) := by decide +kernel
theorem d_Fs_send_19 : decode M_Fs_send.2.1 19 = .ok (.iload_n 1, 1) := by decide +kernel
theorem d_Fs_send_20 : decode M_Fs_send.2.1 20 = .ok (.if_icmp .ne 8, 3) := by decide +kernel
theorem d_Fs_send_23 : decode M_Fs_send.2.1 23 = .ok (.bipush (-2), 2) := by decide +kernel
theorem d_Fs_send_25 : decode M_Fs_send.2.1 25 = .ok (.goto 4, 3) := by decide +kernel
theorem d_Fs_send_28 : decode M_Fs_send.2.1 28 = .ok (.iload_n 2, 1) := by decide +kernel
theorem d_Fs_send_29 : decode M_Fs_send.2.1 29 = .ok (.istore_n 3, 1) := by decide +kernel
theorem d_Fs_send_30 : decode M_Fs_send.2.1 30 = .ok (.aload_n 0, 1) := by decide +kernel
theorem d_Fs_send_31 : decode M_Fs_send.2.1 31 = .ok (.getfield 30, 3) := by decide +kernel
theorem d_Fs_send_34 : decode M_Fs_send.2.1 34 = .ok (.getfield 160, 3) := by decide +kernel
theorem d_Fs_send_37 : decode M_Fs_send.2.1 37 = .ok (.iload_n 1, 1) := by decide +kernel
theorem d_Fs_send_38 : decode M_Fs_send.2.1 38 = .ok (.iaload, 1) := by decide +kernel
theorem d_Fs_send_39 : decode M_Fs_send.2.1 39 = .ok (.iload_n 3, 1) := by decide +kernel
theorem d_Fs_send_40 : decode M_Fs_send.2.1 40 = .ok (.if_icmp .ne 10, 3) := by decide +kernel
theorem d_Fs_send_43 : decode M_Fs_send.2.1 43 = .ok (.aload_n 0, 1) := by decide +kernel
theorem d_Fs_send_44 : decode M_Fs_send.2.1 44 = .ok (.iconst 5, 1) := by decide +kernel
theorem d_Fs_send_45 : decode M_Fs_send.2.1 45 = .ok (.putfield 118, 3) := by decide +kernel
theorem d_Fs_send_48 : decode M_Fs_send.2.1 48 = .ok (.iconst 0, 1) := by decide +kernel
theorem d_Fs_send_49 : decode M_Fs_send.2.1 49 = .ok (.ireturn, 1) := by decide +kernel
theorem d_Fs_send_50 : decode M_Fs_send.2.1 50 = .ok (.aload_n 0, 1) := by decide +kernel
theorem d_Fs_send_51 : decode M_Fs_send.2.1 51 = .ok (.getfield 88, 3) := by decide +kernel
theorem d_Fs_send_54 : decode M_Fs_send.2.1 54 = .ok (.aload_n 0, 1) := by decide +kernel
theorem d_Fs_send_55 : decode M_Fs_send.2.1 55 = .ok (.getfield 30, 3) := by decide +kernel
theorem d_Fs_send_58 : decode M_Fs_send.2.1 58 = .ok (.invokevirtual 347, 3) := by decide +kernel
theorem d_Fs_send_61 : decode M_Fs_send.2.1 61 = .ok (.aload_n 0, 1) := by decide +kernel
theorem d_Fs_send_62 : decode M_Fs_send.2.1 62 = .ok (.getfield 30, 3) := by decide +kernel
theorem d_Fs_send_65 : decode M_Fs_send.2.1 65 = .ok (.getfield 160, 3) := by decide +kernel
theorem d_Fs_send_68 : decode M_Fs_send.2.1 68 = .ok (.iload_n 1, 1) := by decide +kernel
theorem d_Fs_send_69 : decode M_Fs_send.2.1 69 = .ok (.iload_n 3, 1) := by decide +kernel
theorem d_Fs_send_70 : decode M_Fs_send.2.1 70 = .ok (.iastore, 1) := by decide +kernel
theorem d_Fs_send_71 : decode M_Fs_send.2.1 71 = .ok (.iconst 1, 1) := by decide +kernel
theorem d_Fs_send_72 : decode M_Fs_send.2.1 72 = .ok (.ireturn, 1) := by decide +kernel
theorem d_Fs_undo_0 : decode M_Fs_undo.2.1 0 = .ok (.aload_n 0, 1) := by decide +kernel
theorem d_Fs_undo_1 : decode M_Fs_undo.2.1 1 = .ok (.getfield 88, 3) := by decide +kernel
theorem d_Fs_undo_4 : decode M_Fs_undo.2.1 4 = .ok (.getfield 356, 3) := by decide +kernel
theorem d_Fs_undo_7 : decode M_Fs_undo.2.1 7 = .ok (.ifCond .ne 11, 3) := by decide +kernel
theorem d_Fs_undo_10 : decode M_Fs_undo.2.1 10 = .ok (.aload_n 0, 1) := by decide +kernel
theorem d_Fs_undo_11 : decode M_Fs_undo.2.1 11 = .ok (.bipush 6, 2) := by decide +kernel
theorem d_Fs_undo_13 : decode M_Fs_undo.2.1 13 = .ok (.putfield 118, 3) := by decide +kernel
theorem d_Fs_undo_16 : decode M_Fs_undo.2.1 16 = .ok (.iconst 0, 1) := by decide +kernel
theorem d_Fs_undo_17 : decode M_Fs_undo.2.1 17 = .ok (.ireturn, 1) := by decide +kernel
theorem d_Fs_undo_18 : decode M_Fs_undo.2.1 18 = .ok (.aload_n 0, 1) := by decide +kernel
theorem d_Fs_undo_19 : decode M_Fs_undo.2.1 19 = .ok (.iconst 0, 1) := by decide +kernel
theorem d_Fs_undo_20 : decode M_Fs_undo.2.1 20 = .ok (.putfield 118, 3) := by decide +kernel
theorem d_Fs_undo_23 : decode M_Fs_undo.2.1 23 = .ok (.aload_n 0, 1) := by decide +kernel
theorem d_Fs_undo_24 : decode M_Fs_undo.2.1 24 = .ok (.getfield 88, 3) := by decide +kernel
theorem d_Fs_undo_27 : decode M_Fs_undo.2.1 27 = .ok (.aload_n 0, 1) := by decide +kernel
theorem d_Fs_undo_28 : decode M_Fs_undo.2.1 28 = .ok (.getfield 30, 3) := by decide +kernel
theorem d_Fs_undo_31 : decode M_Fs_undo.2.1 31 = .ok (.invokevirtual 359, 3) := by decide +kernel
theorem d_Fs_undo_34 : decode M_Fs_undo.2.1 34 = .ok (.iconst 1, 1) := by decide +kernel
theorem d_Fs_undo_35 : decode M_Fs_undo.2.1 35 = .ok (.ireturn, 1) := by decide +kernel
theorem d_Fs_image_0 : decode M_Fs_image.2.1 0 = .ok (.aload_n 0, 1) := by decide +kernel
theorem d_Fs_image_1 : decode M_Fs_image.2.1 1 = .ok (.invokevirtual 208, 3) := by decide +kernel
theorem d_Fs_image_4 : decode M_Fs_image.2.1 4 = .ok (.ifCond .eq 5, 3) := by decide +kernel
theorem d_Fs_image_7 : decode M_Fs_image.2.1 7 = .ok (.iconst (-1), 1) := by decide +kernel
theorem d_Fs_image_8 : decode M_Fs_image.2.1 8 = .ok (.ireturn, 1) := by decide +kernel
theorem d_Fs_image_9 : decode M_Fs_image.2.1 9 = .ok (.aload_n 0, 1) := by decide +kernel
theorem d_Fs_image_10 : decode M_Fs_image.2.1 10 = .ok (.getfield 92, 3) := by decide +kernel
theorem d_Fs_image_13 : decode M_Fs_image.2.1 13 = .ok (.getfield 356, 3) := by decide +kernel
theorem d_Fs_image_16 : decode M_Fs_image.2.1 16 = .ok (.iconst 3, 1) := by decide +kernel
theorem d_Fs_image_17 : decode M_Fs_image.2.1 17 = .ok (.if_icmp .ne 9, 3) := by decide +kernel
theorem d_Fs_image_20 : decode M_Fs_image.2.1 20 = .ok (.aload_n 0, 1) := by decide +kernel
theorem d_Fs_image_21 : decode M_Fs_image.2.1 21 = .ok (.iconst 3, 1) := by decide +kernel
theorem d_Fs_image_22 : decode M_Fs_image.2.1 22 = .ok (.invokevirtual 102, 3) := by decide +kernel
theorem d_Fs_image_25 : decode M_Fs_image.2.1 25 = .ok (.ireturn, 1) := by decide +kernel
theorem d_Fs_image_26 : decode M_Fs_image.2.1 26 = .ok (.aload_n 0, 1) := by decide +kernel
theorem d_Fs_image_27 : decode M_Fs_image.2.1 27 = .ok (.getfield 92, 3) := by decide +kernel
theorem d_Fs_image_30 : decode M_Fs_image.2.1 30 = .ok (.aload_n 0, 1) := by decide +kernel
theorem d_Fs_image_31 : decode M_Fs_image.2.1 31 = .ok (.getfield 30, 3) := by decide +kernel
theorem d_Fs_image_34 : decode M_Fs_image.2.1 34 = .ok (.invokevirtual 347, 3) := by decide +kernel
theorem d_Fs_image_37 : decode M_Fs_image.2.1 37 = .ok (.aload_n 0, 1) := by decide +kernel
theorem d_Fs_image_38 : decode M_Fs_image.2.1 38 = .ok (.getfield 92, 3) := by decide +kernel
theorem d_Fs_image_41 : decode M_Fs_image.2.1 41 = .ok (.getfield 356, 3) := by decide +kernel
theorem d_Fs_image_44 : decode M_Fs_image.2.1 44 = .ok (.iconst 1, 1) := by decide +kernel
theorem d_Fs_image_45 : decode M_Fs_image.2.1 45 = .ok (.isub, 1) := by decide +kernel
theorem d_Fs_image_46 : decode M_Fs_image.2.1 46 = .ok (.ireturn, 1) := by decide +kernel
theorem d_Fs_back_0 : decode M_Fs_back.2.1 0 = .ok (.iload_n 1, 1) := by decide +kernel
theorem d_Fs_back_1 : decode M_Fs_back.2.1 1 = .ok (.ifCond .lt 14, 3) := by decide +kernel
theorem d_Fs_back_4 : decode M_Fs_back.2.1 4 = .ok (.iload_n 1, 1) := by decide +kernel
theorem d_Fs_back_5 : decode M_Fs_back.2.1 5 = .ok (.aload_n 0, 1) := by decide +kernel
theorem d_Fs_back_6 : decode M_Fs_back.2.1 6 = .ok (.getfield 92, 3) := by decide +kernel
theorem d_Fs_back_9 : decode M_Fs_back.2.1 9 = .ok (.getfield 356, 3) := by decide +kernel
theorem d_Fs_back_12 : decode M_Fs_back.2.1 12 = .ok (.if_icmp .lt 10, 3) := by decide +kernel
theorem d_Fs_back_15 : decode M_Fs_back.2.1 15 = .ok (.aload_n 0, 1) := by decide +kernel
theorem d_Fs_back_16 : decode M_Fs_back.2.1 16 = .ok (.iconst 1, 1) := by decide +kernel
theorem d_Fs_back_17 : decode M_Fs_back.2.1 17 = .ok (.putfield 118, 3) := by decide +kernel
theorem d_Fs_back_20 : decode M_Fs_back.2.1 20 = .ok (.iconst 0, 1) := by decide +kernel
theorem d_Fs_back_21 : decode M_Fs_back.2.1 21 = .ok (.ireturn, 1) := by decide +kernel
theorem d_Fs_back_22 : decode M_Fs_back.2.1 22 = .ok (.aload_n 0, 1) := by decide +kernel
theorem d_Fs_back_23 : decode M_Fs_back.2.1 23 = .ok (.iconst 0, 1) := by decide +kernel
theorem d_Fs_back_24 : decode M_Fs_back.2.1 24 = .ok (.putfield 118, 3) := by decide +kernel
theorem d_Fs_back_27 : decode M_Fs_back.2.1 27 = .ok (.aload_n 0, 1) := by decide +kernel
theorem d_Fs_back_28 : decode M_Fs_back.2.1 28 = .ok (.getfield 92, 3) := by decide +kernel
theorem d_Fs_back_31 : decode M_Fs_back.2.1 31 = .ok (.iload_n 1, 1) := by decide +kernel
theorem d_Fs_back_32 : decode M_Fs_back.2.1 32 = .ok (.aload_n 0, 1) := by decide +kernel
theorem d_Fs_back_33 : decode M_Fs_back.2.1 33 = .ok (.getfield 30, 3) := by decide +kernel
theorem d_Fs_back_36 : decode M_Fs_back.2.1 36 = .ok (.invokevirtual 362, 3) := by decide +kernel
theorem d_Fs_back_39 : decode M_Fs_back.2.1 39 = .ok (.aload_n 0, 1) := by decide +kernel
theorem d_Fs_back_40 : decode M_Fs_back.2.1 40 = .ok (.getfield 88, 3) := by decide +kernel
theorem d_Fs_back_43 : decode M_Fs_back.2.1 43 = .ok (.invokevirtual 133, 3) := by decide +kernel
theorem d_Fs_back_46 : decode M_Fs_back.2.1 46 = .ok (.iconst 1, 1) := by decide +kernel
theorem d_Fs_back_47 : decode M_Fs_back.2.1 47 = .ok (.ireturn, 1) := by decide +kernel
theorem d_Fs_size_0 : decode M_Fs_size.2.1 0 = .ok (.iload_n 1, 1) := by decide +kernel
theorem d_Fs_size_1 : decode M_Fs_size.2.1 1 = .ok (.tableswitch 159 0 11 #[63, 71, 79, 87, 95, 106, 114, 122, 130, 138, 146, 154], 63) := by decide +kernel
theorem d_Fs_size_64 : decode M_Fs_size.2.1 64 = .ok (.aload_n 0, 1) := by decide +kernel
theorem d_Fs_size_65 : decode M_Fs_size.2.1 65 = .ok (.getfield 16, 3) := by decide +kernel
theorem d_Fs_size_68 : decode M_Fs_size.2.1 68 = .ok (.getfield 372, 3) := by decide +kernel
theorem d_Fs_size_71 : decode M_Fs_size.2.1 71 = .ok (.ireturn, 1) := by decide +kernel
theorem d_Fs_size_72 : decode M_Fs_size.2.1 72 = .ok (.aload_n 0, 1) := by decide +kernel
theorem d_Fs_size_73 : decode M_Fs_size.2.1 73 = .ok (.getfield 16, 3) := by decide +kernel
theorem d_Fs_size_76 : decode M_Fs_size.2.1 76 = .ok (.getfield 166, 3) := by decide +kernel
theorem d_Fs_size_79 : decode M_Fs_size.2.1 79 = .ok (.ireturn, 1) := by decide +kernel
theorem d_Fs_size_80 : decode M_Fs_size.2.1 80 = .ok (.aload_n 0, 1) := by decide +kernel
theorem d_Fs_size_81 : decode M_Fs_size.2.1 81 = .ok (.getfield 30, 3) := by decide +kernel
theorem d_Fs_size_84 : decode M_Fs_size.2.1 84 = .ok (.getfield 143, 3) := by decide +kernel
theorem d_Fs_size_87 : decode M_Fs_size.2.1 87 = .ok (.ireturn, 1) := by decide +kernel
theorem d_Fs_size_88 : decode M_Fs_size.2.1 88 = .ok (.aload_n 0, 1) := by decide +kernel
theorem d_Fs_size_89 : decode M_Fs_size.2.1 89 = .ok (.getfield 30, 3) := by decide +kernel
theorem d_Fs_size_92 : decode M_Fs_size.2.1 92 = .ok (.invokevirtual 375, 3) := by decide +kernel
theorem d_Fs_size_95 : decode M_Fs_size.2.1 95 = .ok (.ireturn, 1) := by decide +kernel
theorem d_Fs_size_96 : decode M_Fs_size.2.1 96 = .ok (.aload_n 0, 1) := by decide +kernel
theorem d_Fs_size_97 : decode M_Fs_size.2.1 97 = .ok (.getfield 30, 3) := by decide +kernel
theorem d_Fs_size_100 : decode M_Fs_size.2.1 100 = .ok (.getfield 157, 3) := by decide +kernel
theorem d_Fs_size_103 : decode M_Fs_size.2.1 103 = .ok (.invokestatic 378, 3) := by decide +kernel
theorem d_Fs_size_106 : decode M_Fs_size.2.1 106 = .ok (.ireturn, 1) := by decide +kernel
theorem d_Fs_size_107 : decode M_Fs_size.2.1 107 = .ok (.aload_n 0, 1) := by decide +kernel
theorem d_Fs_size_108 : decode M_Fs_size.2.1 108 = .ok (.getfield 16, 3) := by decide +kernel
theorem d_Fs_size_111 : decode M_Fs_size.2.1 111 = .ok (.getfield 366, 3) := by decide +kernel
theorem d_Fs_size_114 : decode M_Fs_size.2.1 114 = .ok (.ireturn, 1) := by decide +kernel
theorem d_Fs_size_115 : decode M_Fs_size.2.1 115 = .ok (.aload_n 0, 1) := by decide +kernel
theorem d_Fs_size_116 : decode M_Fs_size.2.1 116 = .ok (.getfield 16, 3) := by decide +kernel
theorem d_Fs_size_119 : decode M_Fs_size.2.1 119 = .ok (.getfield 278, 3) := by decide +kernel
theorem d_Fs_size_122 : decode M_Fs_size.2.1 122 = .ok (.ireturn, 1) := by decide +kernel
theorem d_Fs_size_123 : decode M_Fs_size.2.1 123 = .ok (.aload_n 0, 1) := by decide +kernel
theorem d_Fs_size_124 : decode M_Fs_size.2.1 124 = .ok (.getfield 16, 3) := by decide +kernel
theorem d_Fs_size_127 : decode M_Fs_size.2.1 127 = .ok (.getfield 383, 3) := by decide +kernel
theorem d_Fs_size_130 : decode M_Fs_size.2.1 130 = .ok (.ireturn, 1) := by decide +kernel
theorem d_Fs_size_131 : decode M_Fs_size.2.1 131 = .ok (.aload_n 0, 1) := by decide +kernel
theorem d_Fs_size_132 : decode M_Fs_size.2.1 132 = .ok (.getfield 30, 3) := by decide +kernel
theorem d_Fs_size_135 : decode M_Fs_size.2.1 135 = .ok (.getfield 344, 3) := by decide +kernel
theorem d_Fs_size_138 : decode M_Fs_size.2.1 138 = .ok (.ireturn, 1) := by decide +kernel
theorem d_Fs_size_139 : decode M_Fs_size.2.1 139 = .ok (.aload_n 0, 1) := by decide +kernel
theorem d_Fs_size_140 : decode M_Fs_size.2.1 140 = .ok (.getfield 88, 3) := by decide +kernel
theorem d_Fs_size_143 : decode M_Fs_size.2.1 143 = .ok (.getfield 356, 3) := by decide +kernel
theorem d_Fs_size_146 : decode M_Fs_size.2.1 146 = .ok (.ireturn, 1) := by decide +kernel
theorem d_Fs_size_147 : decode M_Fs_size.2.1 147 = .ok (.aload_n 0, 1) := by decide +kernel
theorem d_Fs_size_148 : decode M_Fs_size.2.1 148 = .ok (.getfield 92, 3) := by decide +kernel
theorem d_Fs_size_151 : decode M_Fs_size.2.1 151 = .ok (.getfield 356, 3) := by decide +kernel
theorem d_Fs_size_154 : decode M_Fs_size.2.1 154 = .ok (.ireturn, 1) := by decide +kernel
theorem d_Fs_size_155 : decode M_Fs_size.2.1 155 = .ok (.aload_n 0, 1) := by decide +kernel
theorem d_Fs_size_156 : decode M_Fs_size.2.1 156 = .ok (.getfield 95, 3) := by decide +kernel
theorem d_Fs_size_159 : decode M_Fs_size.2.1 159 = .ok (.ireturn, 1) := by decide +kernel
theorem d_Fs_size_160 : decode M_Fs_size.2.1 160 = .ok (.iconst (-1), 1) := by decide +kernel
theorem d_Fs_size_161 : decode M_Fs_size.2.1 161 = .ok (.ireturn, 1) := by decide +kernel
theorem d_Fs_trouble_0 : decode M_Fs_trouble.2.1 0 = .ok (.aload_n 0, 1) := by decide +kernel
theorem d_Fs_trouble_1 : decode M_Fs_trouble.2.1 1 = .ok (.getfield 118, 3) := by decide +kernel
theorem d_Fs_trouble_4 : decode M_Fs_trouble.2.1 4 = .ok (.ireturn, 1) := by decide +kernel
theorem d_Fs_tapeWord_0 : decode M_Fs_tapeWord.2.1 0 = .ok (.bipush 24, 2) := by decide +kernel
theorem d_Fs_tapeWord_2 : decode M_Fs_tapeWord.2.1 2 = .ok (.istore_n 2, 1) := by decide +kernel
theorem d_Fs_tapeWord_3 : decode M_Fs_tapeWord.2.1 3 = .ok (.iload_n 2, 1) := by decide +kernel
theorem d_Fs_tapeWord_4 : decode M_Fs_tapeWord.2.1 4 = .ok (.ifCond .lt 42, 3) := by decide +kernel
theorem d_Fs_tapeWord_7 : decode M_Fs_tapeWord.2.1 7 = .ok (.aload_n 0, 1) := by decide +kernel
theorem d_Fs_tapeWord_8 : decode M_Fs_tapeWord.2.1 8 = .ok (.getfield 95, 3) := by decide +kernel
theorem d_Fs_tapeWord_11 : decode M_Fs_tapeWord.2.1 11 = .ok (.sipush 900, 3) := by decide +kernel
theorem d_Fs_tapeWord_14 : decode M_Fs_tapeWord.2.1 14 = .ok (.if_icmp .ge 26, 3) := by decide +kernel
theorem d_Fs_tapeWord_17 : decode M_Fs_tapeWord.2.1 17 = .ok (.aload_n 0, 1) := by decide +kernel
theorem d_Fs_tapeWord_18 : decode M_Fs_tapeWord.2.1 18 = .ok (.getfield 9, 3) := by decide +kernel
theorem d_Fs_tapeWord_21 : decode M_Fs_tapeWord.2.1 21 = .ok (.aload_n 0, 1) := by decide +kernel
theorem d_Fs_tapeWord_22 : decode M_Fs_tapeWord.2.1 22 = .ok (.getfield 95, 3) := by decide +kernel
theorem d_Fs_tapeWord_25 : decode M_Fs_tapeWord.2.1 25 = .ok (.iload_n 1, 1) := by decide +kernel
theorem d_Fs_tapeWord_26 : decode M_Fs_tapeWord.2.1 26 = .ok (.iload_n 2, 1) := by decide +kernel
theorem d_Fs_tapeWord_27 : decode M_Fs_tapeWord.2.1 27 = .ok (.ishr, 1) := by decide +kernel
theorem d_Fs_tapeWord_28 : decode M_Fs_tapeWord.2.1 28 = .ok (.i2b, 1) := by decide +kernel
theorem d_Fs_tapeWord_29 : decode M_Fs_tapeWord.2.1 29 = .ok (.bastore, 1) := by decide +kernel
theorem d_Fs_tapeWord_30 : decode M_Fs_tapeWord.2.1 30 = .ok (.aload_n 0, 1) := by decide +kernel
theorem d_Fs_tapeWord_31 : decode M_Fs_tapeWord.2.1 31 = .ok (.dup, 1) := by decide +kernel
theorem d_Fs_tapeWord_32 : decode M_Fs_tapeWord.2.1 32 = .ok (.getfield 95, 3) := by decide +kernel
theorem d_Fs_tapeWord_35 : decode M_Fs_tapeWord.2.1 35 = .ok (.iconst 1, 1) := by decide +kernel
theorem d_Fs_tapeWord_36 : decode M_Fs_tapeWord.2.1 36 = .ok (.iadd, 1) := by decide +kernel
theorem d_Fs_tapeWord_37 : decode M_Fs_tapeWord.2.1 37 = .ok (.putfield 95, 3) := by decide +kernel
theorem d_Fs_tapeWord_40 : decode M_Fs_tapeWord.2.1 40 = .ok (.iinc 2 (-8), 3) := by decide +kernel
theorem d_Fs_tapeWord_43 : decode M_Fs_tapeWord.2.1 43 = .ok (.goto (-40), 3) := by decide +kernel
theorem d_Fs_tapeWord_46 : decode M_Fs_tapeWord.2.1 46 = .ok (.return_, 1) := by decide +kernel
theorem d_Fs_refused_0 : decode M_Fs_refused.2.1 0 = .ok (.aload_n 0, 1) := by decide +kernel
theorem d_Fs_refused_1 : decode M_Fs_refused.2.1 1 = .ok (.iload_n 1, 1) := by decide +kernel
theorem d_Fs_refused_2 : decode M_Fs_refused.2.1 2 = .ok (.putfield 118, 3) := by decide +kernel
theorem d_Fs_refused_5 : decode M_Fs_refused.2.1 5 = .ok (.iconst (-1), 1) := by decide +kernel
theorem d_Fs_refused_6 : decode M_Fs_refused.2.1 6 = .ok (.ireturn, 1) := by decide +kernel
theorem d_Fs_lacksShire_0 : decode M_Fs_lacksShire.2.1 0 = .ok (.aload_n 0, 1) := by decide +kernel
theorem d_Fs_lacksShire_1 : decode M_Fs_lacksShire.2.1 1 = .ok (.aload_n 0, 1) := by decide +kernel
theorem d_Fs_lacksShire_2 : decode M_Fs_lacksShire.2.1 2 = .ok (.getfield 139, 3) := by decide +kernel
theorem d_Fs_lacksShire_5 : decode M_Fs_lacksShire.2.1 5 = .ok (.ifCond .eq 7, 3) := by decide +kernel
theorem d_Fs_lacksShire_8 : decode M_Fs_lacksShire.2.1 8 = .ok (.iconst 0, 1) := by decide +kernel
theorem d_Fs_lacksShire_9 : decode M_Fs_lacksShire.2.1 9 = .ok (.goto 4, 3) := by decide +kernel
theorem d_Fs_lacksShire_12 : decode M_Fs_lacksShire.2.1 12 = .ok (.iconst 1, 1) := by decide +kernel
theorem d_Fs_lacksShire_13 : decode M_Fs_lacksShire.2.1 13 = .ok (.putfield 118, 3) := by decide +kernel
theorem d_Fs_lacksShire_16 : decode M_Fs_lacksShire.2.1 16 = .ok (.aload_n 0, 1) := by decide +kernel
theorem d_Fs_lacksShire_17 : decode M_Fs_lacksShire.2.1 17 = .ok (.getfield 139, 3) := by decide +kernel
theorem d_Fs_lacksShire_20 : decode M_Fs_lacksShire.2.1 20 = .ok (.ifCond .ne 7, 3) := by decide +kernel
theorem d_Fs_lacksShire_23 : decode M_Fs_lacksShire.2.1 23 = .ok (.iconst 1, 1) := by decide +kernel
theorem d_Fs_lacksShire_24 : decode M_Fs_lacksShire.2.1 24 = .ok (.goto 4, 3) := by decide +kernel
theorem d_Fs_lacksShire_27 : decode M_Fs_lacksShire.2.1 27 = .ok (.iconst 0, 1) := by decide +kernel
theorem d_Fs_lacksShire_28 : decode M_Fs_lacksShire.2.1 28 = .ok (.ireturn, 1) := by decide +kernel
theorem d_Fs_lacksFolly_0 : decode M_Fs_lacksFolly.2.1 0 = .ok (.aload_n 0, 1) := by decide +kernel
theorem d_Fs_lacksFolly_1 : decode M_Fs_lacksFolly.2.1 1 = .ok (.getfield 139, 3) := by decide +kernel
theorem d_Fs_lacksFolly_4 : decode M_Fs_lacksFolly.2.1 4 = .ok (.ifCond .eq 18, 3) := by decide +kernel
theorem d_Fs_lacksFolly_7 : decode M_Fs_lacksFolly.2.1 7 = .ok (.iload_n 1, 1) := by decide +kernel
theorem d_Fs_lacksFolly_8 : decode M_Fs_lacksFolly.2.1 8 = .ok (.ifCond .lt 14, 3) := by decide +kernel
theorem d_Fs_lacksFolly_11 : decode M_Fs_lacksFolly.2.1 11 = .ok (.iload_n 1, 1) := by decide +kernel
theorem d_Fs_lacksFolly_12 : decode M_Fs_lacksFolly.2.1 12 = .ok (.aload_n 0, 1) := by decide +kernel
theorem d_Fs_lacksFolly_13 : decode M_Fs_lacksFolly.2.1 13 = .ok (.getfield 30, 3) := by decide +kernel
theorem d_Fs_lacksFolly_16 : decode M_Fs_lacksFolly.2.1 16 = .ok (.getfield 143, 3) := by decide +kernel
theorem d_Fs_lacksFolly_19 : decode M_Fs_lacksFolly.2.1 19 = .ok (.if_icmp .lt 7, 3) := by decide +kernel
theorem d_Fs_lacksFolly_22 : decode M_Fs_lacksFolly.2.1 22 = .ok (.iconst 1, 1) := by decide +kernel
theorem d_Fs_lacksFolly_23 : decode M_Fs_lacksFolly.2.1 23 = .ok (.goto 4, 3) := by decide +kernel
theorem d_Fs_lacksFolly_26 : decode M_Fs_lacksFolly.2.1 26 = .ok (.iconst 0, 1) := by decide +kernel
theorem d_Fs_lacksFolly_27 : decode M_Fs_lacksFolly.2.1 27 = .ok (.istore_n 2, 1) := by decide +kernel
theorem d_Fs_lacksFolly_28 : decode M_Fs_lacksFolly.2.1 28 = .ok (.aload_n 0, 1) := by decide +kernel
theorem d_Fs_lacksFolly_29 : decode M_Fs_lacksFolly.2.1 29 = .ok (.iload_n 2, 1) := by decide +kernel
theorem d_Fs_lacksFolly_30 : decode M_Fs_lacksFolly.2.1 30 = .ok (.ifCond .eq 7, 3) := by decide +kernel
theorem d_Fs_lacksFolly_33 : decode M_Fs_lacksFolly.2.1 33 = .ok (.iconst 1, 1) := by decide +kernel
theorem d_Fs_lacksFolly_34 : decode M_Fs_lacksFolly.2.1 34 = .ok (.goto 4, 3) := by decide +kernel
theorem d_Fs_lacksFolly_37 : decode M_Fs_lacksFolly.2.1 37 = .ok (.iconst 0, 1) := by decide +kernel
theorem d_Fs_lacksFolly_38 : decode M_Fs_lacksFolly.2.1 38 = .ok (.putfield 118, 3) := by decide +kernel
theorem d_Fs_lacksFolly_41 : decode M_Fs_lacksFolly.2.1 41 = .ok (.iload_n 2, 1) := by decide +kernel
theorem d_Fs_lacksFolly_42 : decode M_Fs_lacksFolly.2.1 42 = .ok (.ireturn, 1) := by decide +kernel
theorem d_Fs_lacksEstate_0 : decode M_Fs_lacksEstate.2.1 0 = .ok (.aload_n 0, 1) := by decide +kernel
theorem d_Fs_lacksEstate_1 : decode M_Fs_lacksEstate.2.1 1 = .ok (.getfield 139, 3) := by decide +kernel
theorem d_Fs_lacksEstate_4 : decode M_Fs_lacksEstate.2.1 4 = .ok (.ifCond .eq 18, 3) := by decide +kernel
theorem d_Fs_lacksEstate_7 : decode M_Fs_lacksEstate.2.1 7 = .ok (.iload_n 1, 1) := by decide +kernel
theorem d_Fs_lacksEstate_8 : decode M_Fs_lacksEstate.2.1 8 = .ok (.ifCond .lt 14, 3) := by decide +kernel
theorem d_Fs_lacksEstate_11 : decode M_Fs_lacksEstate.2.1 11 = .ok (.iload_n 1, 1) := by decide +kernel
theorem d_Fs_lacksEstate_12 : decode M_Fs_lacksEstate.2.1 12 = .ok (.aload_n 0, 1) := by decide +kernel
theorem d_Fs_lacksEstate_13 : decode M_Fs_lacksEstate.2.1 13 = .ok (.getfield 16, 3) := by decide +kernel
theorem d_Fs_lacksEstate_16 : decode M_Fs_lacksEstate.2.1 16 = .ok (.getfield 366, 3) := by decide +kernel
theorem d_Fs_lacksEstate_19 : decode M_Fs_lacksEstate.2.1 19 = .ok (.if_icmp .lt 7, 3) := by decide +kernel
theorem d_Fs_lacksEstate_22 : decode M_Fs_lacksEstate.2.1 22 = .ok (.iconst 1, 1) := by decide +kernel
theorem d_Fs_lacksEstate_23 : decode M_Fs_lacksEstate.2.1 23 = .ok (.goto 4, 3) := by decide +kernel
theorem d_Fs_lacksEstate_26 : decode M_Fs_lacksEstate.2.1 26 = .ok (.iconst 0, 1) := by decide +kernel
theorem d_Fs_lacksEstate_27 : decode M_Fs_lacksEstate.2.1 27 = .ok (.istore_n 2, 1) := by decide +kernel
theorem d_Fs_lacksEstate_28 : decode M_Fs_lacksEstate.2.1 28 = .ok (.aload_n 0, 1) := by decide +kernel
theorem d_Fs_lacksEstate_29 : decode M_Fs_lacksEstate.2.1 29 = .ok (.iload_n 2, 1) := by decide +kernel
theorem d_Fs_lacksEstate_30 : decode M_Fs_lacksEstate.2.1 30 = .ok (.ifCond .eq 7, 3) := by decide +kernel
theorem d_Fs_lacksEstate_33 : decode M_Fs_lacksEstate.2.1 33 = .ok (.iconst 1, 1) := by decide +kernel
theorem d_Fs_lacksEstate_34 : decode M_Fs_lacksEstate.2.1 34 = .ok (.goto 4, 3) := by decide +kernel
theorem d_Fs_lacksEstate_37 : decode M_Fs_lacksEstate.2.1 37 = .ok (.iconst 0, 1) := by decide +kernel
theorem d_Fs_lacksEstate_38 : decode M_Fs_lacksEstate.2.1 38 = .ok (.putfield 118, 3) := by decide +kernel
theorem d_Fs_lacksEstate_41 : decode M_Fs_lacksEstate.2.1 41 = .ok (.iload_n 2, 1) := by decide +kernel
theorem d_Fs_lacksEstate_42 : decode M_Fs_lacksEstate.2.1 42 = .ok (.ireturn, 1) := by decide +kernel
theorem d_Fs_isOutside_0 : decode M_Fs_isOutside.2.1 0 = .ok (.iload_n 1, 1) := by decide +kernel
theorem d_Fs_isOutside_1 : decode M_Fs_isOutside.2.1 1 = .ok (.iload_n 2, 1) := by decide +kernel
theorem d_Fs_isOutside_2 : decode M_Fs_isOutside.2.1 2 = .ok (.if_icmp .lt 8, 3) := by decide +kernel
theorem d_Fs_isOutside_5 : decode M_Fs_isOutside.2.1 5 = .ok (.iload_n 1, 1) := by decide +kernel
theorem d_Fs_isOutside_6 : decode M_Fs_isOutside.2.1 6 = .ok (.iload_n 3, 1) := by decide +kernel
theorem d_Fs_isOutside_7 : decode M_Fs_isOutside.2.1 7 = .ok (.if_icmp .le 7, 3) := by decide +kernel
theorem d_Fs_isOutside_10 : decode M_Fs_isOutside.2.1 10 = .ok (.iconst 1, 1) := by decide +kernel
theorem d_Fs_isOutside_11 : decode M_Fs_isOutside.2.1 11 = .ok (.goto 4, 3) := by decide +kernel
theorem d_Fs_isOutside_14 : decode M_Fs_isOutside.2.1 14 = .ok (.iconst 0, 1) := by decide +kernel
theorem d_Fs_isOutside_15 : decode M_Fs_isOutside.2.1 15 = .ok (.istore 4, 2) := by decide +kernel
theorem d_Fs_isOutside_17 : decode M_Fs_isOutside.2.1 17 = .ok (.aload_n 0, 1) := by decide +kernel
theorem d_Fs_isOutside_18 : decode M_Fs_isOutside.2.1 18 = .ok (.iload 4, 2) := by decide +kernel
theorem d_Fs_isOutside_20 : decode M_Fs_isOutside.2.1 20 = .ok (.ifCond .eq 7, 3) := by decide +kernel
theorem d_Fs_isOutside_23 : decode M_Fs_isOutside.2.1 23 = .ok (.iconst 2, 1) := by decide +kernel
theorem d_Fs_isOutside_24 : decode M_Fs_isOutside.2.1 24 = .ok (.goto 4, 3) := by decide +kernel
theorem d_Fs_isOutside_27 : decode M_Fs_isOutside.2.1 27 = .ok (.iconst 0, 1) := by decide +kernel
theorem d_Fs_isOutside_28 : decode M_Fs_isOutside.2.1 28 = .ok (.putfield 118, 3) := by decide +kernel
theorem d_Fs_isOutside_31 : decode M_Fs_isOutside.2.1 31 = .ok (.iload 4, 2) := by decide +kernel
theorem d_Fs_isOutside_33 : decode M_Fs_isOutside.2.1 33 = .ok (.ireturn, 1) := by decide +kernel
theorem d_Fs_lookAhead_0 : decode M_Fs_lookAhead.2.1 0 = .ok (.aload_n 0, 1) := by decide +kernel
theorem d_Fs_lookAhead_1 : decode M_Fs_lookAhead.2.1 1 = .ok (.getfield 34, 3) := by decide +kernel
theorem d_Fs_lookAhead_4 : decode M_Fs_lookAhead.2.1 4 = .ok (.aload_n 0, 1) := by decide +kernel
theorem d_Fs_lookAhead_5 : decode M_Fs_lookAhead.2.1 5 = .ok (.getfield 30, 3) := by decide +kernel
theorem d_Fs_lookAhead_8 : decode M_Fs_lookAhead.2.1 8 = .ok (.invokevirtual 130, 3) := by decide +kernel
theorem d_Fs_lookAhead_11 : decode M_Fs_lookAhead.2.1 11 = .ok (.aload_n 0, 1) := by decide +kernel
theorem d_Fs_lookAhead_12 : decode M_Fs_lookAhead.2.1 12 = .ok (.getfield 34, 3) := by decide +kernel
theorem d_Fs_lookAhead_15 : decode M_Fs_lookAhead.2.1 15 = .ok (.aload_n 0, 1) := by decide +kernel
theorem d_Fs_lookAhead_16 : decode M_Fs_lookAhead.2.1 16 = .ok (.getfield 16, 3) := by decide +kernel
theorem d_Fs_lookAhead_19 : decode M_Fs_lookAhead.2.1 19 = .ok (.getfield 166, 3) := by decide +kernel
theorem d_Fs_lookAhead_22 : decode M_Fs_lookAhead.2.1 22 = .ok (.iload_n 1, 1) := by decide +kernel
theorem d_Fs_lookAhead_23 : decode M_Fs_lookAhead.2.1 23 = .ok (.invokevirtual 353, 3) := by decide +kernel
theorem d_Fs_lookAhead_26 : decode M_Fs_lookAhead.2.1 26 = .ok (.return_, 1) := by decide +kernel
theorem d_Fs_isServedIn_0 : decode M_Fs_isServedIn.2.1 0 = .ok (.aload_n 0, 1) := by decide +kernel
theorem d_Fs_isServedIn_1 : decode M_Fs_isServedIn.2.1 1 = .ok (.iload_n 2, 1) := by decide +kernel
theorem d_Fs_isServedIn_2 : decode M_Fs_isServedIn.2.1 2 = .ok (.invokevirtual 255, 3) := by decide +kernel
theorem d_Fs_isServedIn_5 : decode M_Fs_isServedIn.2.1 5 = .ok (.aload_n 0, 1) := by decide +kernel
theorem d_Fs_isServedIn_6 : decode M_Fs_isServedIn.2.1 6 = .ok (.getfield 49, 3) := by decide +kernel
theorem d_Fs_isServedIn_9 : decode M_Fs_isServedIn.2.1 9 = .ok (.aload_n 0, 1) := by decide +kernel
theorem d_Fs_isServedIn_10 : decode M_Fs_isServedIn.2.1 10 = .ok (.getfield 34, 3) := by decide +kernel
theorem d_Fs_isServedIn_13 : decode M_Fs_isServedIn.2.1 13 = .ok (.invokevirtual 182, 3) := by decide +kernel
theorem d_Fs_isServedIn_16 : decode M_Fs_isServedIn.2.1 16 = .ok (.iload_n 1, 1) := by decide +kernel
theorem d_Fs_isServedIn_17 : decode M_Fs_isServedIn.2.1 17 = .ok (.ishr, 1) := by decide +kernel
theorem d_Fs_isServedIn_18 : decode M_Fs_isServedIn.2.1 18 = .ok (.iconst 1, 1) := by decide +kernel
theorem d_Fs_isServedIn_19 : decode M_Fs_isServedIn.2.1 19 = .ok (.iand, 1) := by decide +kernel
theorem d_Fs_isServedIn_20 : decode M_Fs_isServedIn.2.1 20 = .ok (.ifCond .eq 7, 3) := by decide +kernel
theorem d_Fs_isServedIn_23 : decode M_Fs_isServedIn.2.1 23 = .ok (.iconst 1, 1) := by decide +kernel
theorem d_Fs_isServedIn_24 : decode M_Fs_isServedIn.2.1 24 = .ok (.goto 4, 3) := by decide +kernel
theorem d_Fs_isServedIn_27 : decode M_Fs_isServedIn.2.1 27 = .ok (.iconst 0, 1) := by decide +kernel
theorem d_Fs_isServedIn_28 : decode M_Fs_isServedIn.2.1 28 = .ok (.ireturn, 1) := by decide +kernel
theorem d_Fs_yearsToRuin_0 : decode M_Fs_yearsToRuin.2.1 0 = .ok (.iload_n 0, 1) := by decide +kernel
theorem d_Fs_yearsToRuin_1 : decode M_Fs_yearsToRuin.2.1 1 = .ok (.ifCond .ne 5, 3) := by decide +kernel
theorem d_Fs_yearsToRuin_4 : decode M_Fs_yearsToRuin.2.1 4 = .ok (.iconst 0, 1) := by decide +kernel
theorem d_Fs_yearsToRuin_5 : decode M_Fs_yearsToRuin.2.1 5 = .ok (.ireturn, 1) := by decide +kernel
theorem d_Fs_yearsToRuin_6 : decode M_Fs_yearsToRuin.2.1 6 = .ok (.iload_n 1, 1) := by decide +kernel
theorem d_Fs_yearsToRuin_7 : decode M_Fs_yearsToRuin.2.1 7 = .ok (.ifCond .le 13, 3) := by decide +kernel
theorem d_Fs_yearsToRuin_10 : decode M_Fs_yearsToRuin.2.1 10 = .ok (.iload_n 0, 1) := by decide +kernel
theorem d_Fs_yearsToRuin_11 : decode M_Fs_yearsToRuin.2.1 11 = .ok (.iload_n 1, 1) := by decide +kernel
theorem d_Fs_yearsToRuin_12 : decode M_Fs_yearsToRuin.2.1 12 = .ok (.iadd, 1) := by decide +kernel
theorem d_Fs_yearsToRuin_13 : decode M_Fs_yearsToRuin.2.1 13 = .ok (.iconst 1, 1) := by decide +kernel
theorem d_Fs_yearsToRuin_14 : decode M_Fs_yearsToRuin.2.1 14 = .ok (.isub, 1) := by decide +kernel
theorem d_Fs_yearsToRuin_15 : decode M_Fs_yearsToRuin.2.1 15 = .ok (.iload_n 1, 1) := by decide +kernel
theorem d_Fs_yearsToRuin_16 : decode M_Fs_yearsToRuin.2.1 16 = .ok (.idiv, 1) := by decide +kernel
theorem d_Fs_yearsToRuin_17 : decode M_Fs_yearsToRuin.2.1 17 = .ok (.goto 5, 3) := by decide +kernel
theorem d_Fs_yearsToRuin_20 : decode M_Fs_yearsToRuin.2.1 20 = .ok (.bipush (-2), 2) := by decide +kernel
theorem d_Fs_yearsToRuin_22 : decode M_Fs_yearsToRuin.2.1 22 = .ok (.ireturn, 1) := by decide +kernel
theorem d_Fs_gain_0 : decode M_Fs_gain.2.1 0 = .ok (.iload_n 2, 1) := by decide +kernel
theorem d_Fs_gain_1 : decode M_Fs_gain.2.1 1 = .ok (.ifCond .eq 16, 3) := by decide +kernel
theorem d_Fs_gain_4 : decode M_Fs_gain.2.1 4 = .ok (.iload_n 1, 1) := by decide +kernel
theorem d_Fs_gain_5 : decode M_Fs_gain.2.1 5 = .ok (.ifCond .eq 9, 3) := by decide +kernel
theorem d_Fs_gain_8 : decode M_Fs_gain.2.1 8 = .ok (.iconst 1, 1) := by decide +kernel
theorem d_Fs_gain_9 : decode M_Fs_gain.2.1 9 = .ok (.iload_n 0, 1) := by decide +kernel
theorem d_Fs_gain_10 : decode M_Fs_gain.2.1 10 = .ok (.isub, 1) := by decide +kernel
theorem d_Fs_gain_11 : decode M_Fs_gain.2.1 11 = .ok (.goto 5, 3) := by decide +kernel
theorem d_Fs_gain_14 : decode M_Fs_gain.2.1 14 = .ok (.iload_n 0, 1) := by decide +kernel
theorem d_Fs_gain_15 : decode M_Fs_gain.2.1 15 = .ok (.ineg, 1) := by decide +kernel
theorem d_Fs_gain_16 : decode M_Fs_gain.2.1 16 = .ok (.ireturn, 1) := by decide +kernel
theorem d_Fs_gain_17 : decode M_Fs_gain.2.1 17 = .ok (.iload_n 1, 1) := by decide +kernel
theorem d_Fs_gain_18 : decode M_Fs_gain.2.1 18 = .ok (.ifCond .eq 7, 3) := by decide +kernel
theorem d_Fs_gain_21 : decode M_Fs_gain.2.1 21 = .ok (.iconst 3, 1) := by decide +kernel
theorem d_Fs_gain_22 : decode M_Fs_gain.2.1 22 = .ok (.goto 4, 3) := by decide +kernel
theorem d_Fs_gain_25 : decode M_Fs_gain.2.1 25 = .ok (.iconst 2, 1) := by decide +kernel
theorem d_Fs_gain_26 : decode M_Fs_gain.2.1 26 = .ok (.ireturn, 1) := by decide +kernel
theorem d_Fs_isRest_0 : decode M_Fs_isRest.2.1 0 = .ok (.iload_n 1, 1) := by decide +kernel
theorem d_Fs_isRest_1 : decode M_Fs_isRest.2.1 1 = .ok (.iconst 2, 1) := by decide +kernel
theorem d_Fs_isRest_2 : decode M_Fs_isRest.2.1 2 = .ok (.iand, 1) := by decide +kernel
theorem d_Fs_isRest_3 : decode M_Fs_isRest.2.1 3 = .ok (.ifCond .eq 7, 3) := by decide +kernel
theorem d_Fs_isRest_6 : decode M_Fs_isRest.2.1 6 = .ok (.iconst 1, 1) := by decide +kernel
theorem d_Fs_isRest_7 : decode M_Fs_isRest.2.1 7 = .ok (.goto 4, 3) := by decide +kernel
theorem d_Fs_isRest_10 : decode M_Fs_isRest.2.1 10 = .ok (.iconst 0, 1) := by decide +kernel
theorem d_Fs_isRest_11 : decode M_Fs_isRest.2.1 11 = .ok (.istore_n 2, 1) := by decide +kernel
theorem d_Fs_isRest_12 : decode M_Fs_isRest.2.1 12 = .ok (.iload_n 1, 1) := by decide +kernel
theorem d_Fs_isRest_13 : decode M_Fs_isRest.2.1 13 = .ok (.iconst 1, 1) := by decide +kernel
theorem d_Fs_isRest_14 : decode M_Fs_isRest.2.1 14 = .ok (.iand, 1) := by decide +kernel
theorem d_Fs_isRest_15 : decode M_Fs_isRest.2.1 15 = .ok (.ifCond .eq 7, 3) := by decide +kernel
theorem d_Fs_isRest_18 : decode M_Fs_isRest.2.1 18 = .ok (.iconst 1, 1) := by decide +kernel
theorem d_Fs_isRest_19 : decode M_Fs_isRest.2.1 19 = .ok (.goto 4, 3) := by decide +kernel
theorem d_Fs_isRest_22 : decode M_Fs_isRest.2.1 22 = .ok (.iconst 0, 1) := by decide +kernel
theorem d_Fs_isRest_23 : decode M_Fs_isRest.2.1 23 = .ok (.istore_n 3, 1) := by decide +kernel
theorem d_Fs_isRest_24 : decode M_Fs_isRest.2.1 24 = .ok (.iload_n 0, 1) := by decide +kernel
theorem d_Fs_isRest_25 : decode M_Fs_isRest.2.1 25 = .ok (.iload_n 2, 1) := by decide +kernel
theorem d_Fs_isRest_26 : decode M_Fs_isRest.2.1 26 = .ok (.iload_n 3, 1) := by decide +kernel
theorem d_Fs_isRest_27 : decode M_Fs_isRest.2.1 27 = .ok (.invokestatic 316, 3) := by decide +kernel
theorem d_Fs_isRest_30 : decode M_Fs_isRest.2.1 30 = .ok (.iload_n 0, 1) := by decide +kernel
theorem d_Fs_isRest_31 : decode M_Fs_isRest.2.1 31 = .ok (.iload_n 2, 1) := by decide +kernel
theorem d_Fs_isRest_32 : decode M_Fs_isRest.2.1 32 = .ok (.ifCond .ne 7, 3) := by decide +kernel
theorem d_Fs_isRest_35 : decode M_Fs_isRest.2.1 35 = .ok (.iconst 1, 1) := by decide +kernel
theorem d_Fs_isRest_36 : decode M_Fs_isRest.2.1 36 = .ok (.goto 4, 3) := by decide +kernel
theorem d_Fs_isRest_39 : decode M_Fs_isRest.2.1 39 = .ok (.iconst 0, 1) := by decide +kernel
theorem d_Fs_isRest_40 : decode M_Fs_isRest.2.1 40 = .ok (.iload_n 3, 1) := by decide +kernel
theorem d_Fs_isRest_41 : decode M_Fs_isRest.2.1 41 = .ok (.invokestatic 316, 3) := by decide +kernel
theorem d_Fs_isRest_44 : decode M_Fs_isRest.2.1 44 = .ok (.if_icmp .lt 30, 3) := by decide +kernel
theorem d_Fs_isRest_47 : decode M_Fs_isRest.2.1 47 = .ok (.iload_n 0, 1) := by decide +kernel
theorem d_Fs_isRest_48 : decode M_Fs_isRest.2.1 48 = .ok (.iload_n 3, 1) := by decide +kernel
theorem d_Fs_isRest_49 : decode M_Fs_isRest.2.1 49 = .ok (.iload_n 2, 1) := by decide +kernel
theorem d_Fs_isRest_50 : decode M_Fs_isRest.2.1 50 = .ok (.invokestatic 316, 3) := by decide +kernel
theorem d_Fs_isRest_53 : decode M_Fs_isRest.2.1 53 = .ok (.iload_n 0, 1) := by decide +kernel
theorem d_Fs_isRest_54 : decode M_Fs_isRest.2.1 54 = .ok (.iload_n 3, 1) := by decide +kernel
theorem d_Fs_isRest_55 : decode M_Fs_isRest.2.1 55 = .ok (.ifCond .ne 7, 3) := by decide +kernel
theorem d_Fs_isRest_58 : decode M_Fs_isRest.2.1 58 = .ok (.iconst 1, 1) := by decide +kernel
theorem d_Fs_isRest_59 : decode M_Fs_isRest.2.1 59 = .ok (.goto 4, 3) := by decide +kernel
theorem d_Fs_isRest_62 : decode M_Fs_isRest.2.1 62 = .ok (.iconst 0, 1) := by decide +kernel
theorem d_Fs_isRest_63 : decode M_Fs_isRest.2.1 63 = .ok (.iload_n 2, 1) := by decide +kernel
theorem d_Fs_isRest_64 : decode M_Fs_isRest.2.1 64 = .ok (.invokestatic 316, 3) := by decide +kernel
theorem d_Fs_isRest_67 : decode M_Fs_isRest.2.1 67 = .ok (.if_icmp .lt 7, 3) := by decide +kernel
theorem d_Fs_isRest_70 : decode M_Fs_isRest.2.1 70 = .ok (.iconst 1, 1) := by decide +kernel
theorem d_Fs_isRest_71 : decode M_Fs_isRest.2.1 71 = .ok (.goto 4, 3) := by decide +kernel
theorem d_Fs_isRest_74 : decode M_Fs_isRest.2.1 74 = .ok (.iconst 0, 1) := by decide +kernel
theorem d_Fs_isRest_75 : decode M_Fs_isRest.2.1 75 = .ok (.ireturn, 1) := by decide +kernel
theorem d_Fs_inLowestTerms_0 : decode M_Fs_inLowestTerms.2.1 0 = .ok (.lload_n 2, 1) := by decide +kernel
theorem d_Fs_inLowestTerms_1 : decode M_Fs_inLowestTerms.2.1 1 = .ok (.lstore 5, 2) := by decide +kernel
theorem d_Fs_inLowestTerms_3 : decode M_Fs_inLowestTerms.2.1 3 = .ok (.lload_n 0, 1) := by decide +kernel
theorem d_Fs_inLowestTerms_4 : decode M_Fs_inLowestTerms.2.1 4 = .ok (.lstore 7, 2) := by decide +kernel
theorem d_Fs_inLowestTerms_6 : decode M_Fs_inLowestTerms.2.1 6 = .ok (.iconst 0, 1) := by decide +kernel
theorem d_Fs_inLowestTerms_7 : decode M_Fs_inLowestTerms.2.1 7 = .ok (.istore 9, 2) := by decide +kernel
theorem d_Fs_inLowestTerms_9 : decode M_Fs_inLowestTerms.2.1 9 = .ok (.iload 9, 2) := by decide +kernel
theorem d_Fs_inLowestTerms_11 : decode M_Fs_inLowestTerms.2.1 11 = .ok (.sipush 200, 3) := by decide +kernel
theorem d_Fs_inLowestTerms_14 : decode M_Fs_inLowestTerms.2.1 14 = .ok (.if_icmp .ge 31, 3) := by decide +kernel
theorem d_Fs_inLowestTerms_17 : decode M_Fs_inLowestTerms.2.1 17 = .ok (.lload 7, 2) := by decide +kernel
theorem d_Fs_inLowestTerms_19 : decode M_Fs_inLowestTerms.2.1 19 = .ok (.lconst 0, 1) := by decide +kernel
theorem d_Fs_inLowestTerms_20 : decode M_Fs_inLowestTerms.2.1 20 = .ok (.lcmp, 1) := by decide +kernel
theorem d_Fs_inLowestTerms_21 : decode M_Fs_inLowestTerms.2.1 21 = .ok (.ifCond .eq 24, 3) := by decide +kernel
theorem d_Fs_inLowestTerms_24 : decode M_Fs_inLowestTerms.2.1 24 = .ok (.lload 5, 2) := by decide +kernel
theorem d_Fs_inLowestTerms_26 : decode M_Fs_inLowestTerms.2.1 26 = .ok (.lload 7, 2) := by decide +kernel
theorem d_Fs_inLowestTerms_28 : decode M_Fs_inLowestTerms.2.1 28 = .ok (.lrem, 1) := by decide +kernel
theorem d_Fs_inLowestTerms_29 : decode M_Fs_inLowestTerms.2.1 29 = .ok (.lstore 10, 2) := by decide +kernel
theorem d_Fs_inLowestTerms_31 : decode M_Fs_inLowestTerms.2.1 31 = .ok (.lload 7, 2) := by decide +kernel
theorem d_Fs_inLowestTerms_33 : decode M_Fs_inLowestTerms.2.1 33 = .ok (.lstore 5, 2) := by decide +kernel
theorem d_Fs_inLowestTerms_35 : decode M_Fs_inLowestTerms.2.1 35 = .ok (.lload 10, 2) := by decide +kernel
theorem d_Fs_inLowestTerms_37 : decode M_Fs_inLowestTerms.2.1 37 = .ok (.lstore 7, 2) := by decide +kernel
theorem d_Fs_inLowestTerms_39 : decode M_Fs_inLowestTerms.2.1 39 = .ok (.iinc 9 1, 3) := by decide +kernel
theorem d_Fs_inLowestTerms_42 : decode M_Fs_inLowestTerms.2.1 42 = .ok (.goto (-33), 3) := by decide +kernel
theorem d_Fs_inLowestTerms_45 : decode M_Fs_inLowestTerms.2.1 45 = .ok (.lload 5, 2) := by decide +kernel
theorem d_Fs_inLowestTerms_47 : decode M_Fs_inLowestTerms.2.1 47 = .ok (.lconst 0, 1) := by decide +kernel
theorem d_Fs_inLowestTerms_48 : decode M_Fs_inLowestTerms.2.1 48 = .ok (.lcmp, 1) := by decide +kernel
theorem d_Fs_inLowestTerms_49 : decode M_Fs_inLowestTerms.2.1 49 = .ok (.ifCond .ne 7, 3) := by decide +kernel
theorem d_Fs_inLowestTerms_52 : decode M_Fs_inLowestTerms.2.1 52 = .ok (.ldc2_w 301, 3) := by decide +kernel
theorem d_Fs_inLowestTerms_55 : decode M_Fs_inLowestTerms.2.1 55 = .ok (.lreturn, 1) := by decide +kernel
theorem d_Fs_inLowestTerms_56 : decode M_Fs_inLowestTerms.2.1 56 = .ok (.iload 4, 2) := by decide +kernel
theorem d_Fs_inLowestTerms_58 : decode M_Fs_inLowestTerms.2.1 58 = .ok (.ifCond .eq 7, 3) := by decide +kernel
theorem d_Fs_inLowestTerms_61 : decode M_Fs_inLowestTerms.2.1 61 = .ok (.lload_n 2, 1) := by decide +kernel
theorem d_Fs_inLowestTerms_62 : decode M_Fs_inLowestTerms.2.1 62 = .ok (.goto 4, 3) := by decide +kernel
theorem d_Fs_inLowestTerms_65 : decode M_Fs_inLowestTerms.2.1 65 = .ok (.lload_n 0, 1) := by decide +kernel
theorem d_Fs_inLowestTerms_66 : decode M_Fs_inLowestTerms.2.1 66 = .ok (.lload 5, 2) := by decide +kernel
theorem d_Fs_inLowestTerms_68 : decode M_Fs_inLowestTerms.2.1 68 = .ok (.ldiv, 1) := by decide +kernel
theorem d_Fs_inLowestTerms_69 : decode M_Fs_inLowestTerms.2.1 69 = .ok (.lreturn, 1) := by decide +kernel
set_option maxRecDepth 4000 in
theorem t_Fs_tryLetter {d : Nat} {I : Nat → Nat → Int32} {J : Nat → Nat → Int64} {R : Nat → Nat → Option Nat} {Q : Option Value → ow_H → Prop}   (hR : ow_RF R) (T : (ow_AM M_Fs_lacksShire d [.ref 0] (85, I, J, R) (fun r h' => ∃ (r3 : Int32) (I3 : Nat → Nat → Int32) (J3 : Nat → Nat → Int64) (R3 : Nat → Nat → Option Nat), r = some (.int r3) ∧ h' = (85, I3, J3, R3) ∧ ow_RF R3 ∧ ((r3 = 0 → (ow_AM M_Fits_findTry d [.ref 54] (85, I3, J3, R3) (fun r h' => ∃ (I4 : Nat → Nat → Int32) (J4 : Nat → Nat → Int64) (R4 : Nat → Nat → Option Nat), r = none ∧ h' = (85, I4, J4, R4) ∧ ow_RF R4 ∧ Q (some (.int (I4 54 5))) (85, I4, J4, R4)))) ∧ (¬ r3 = 0 → Q (some (.int (-1))) (85, I3, J3, R3)))))) : ow_AM M_Fs_tryLetter (d + 1) [.ref 0] (85, I, J, R) Q := by
  refine ow_enter (by decide) (Nat.le_of_ble_eq_true rfl) ?_
  show ow_AW ow_Y0 (ow_Z Q) M_Fs_tryLetter (d + 1) 0 0 0 [(0, .ref 0)] [] (85, I, J, R) 0 0
  refine ow_aload_n 0 rfl d_Fs_tryLetter_0 ?_
  refine ow_callV (b := 0) (cq := 11) (As := []) (rest := []) (d2 := d) d_Fs_tryLetter_1 l_Fs_208 v_Fs_lacksShire (show 0 < 85 by decide) rfl (by decide) rfl (Nat.le_of_ble_eq_true rfl) (Nat.le_refl _) ⟨Nat.le_refl _, Nat.le_refl _⟩ (ow_mono T ?_)
  rintro r h' ⟨r3, I3, J3, R3, rfl, rfl, hR3, T⟩
  show ow_AW ow_Y0 (ow_Z Q) M_Fs_tryLetter (d + 1) 0 0 4 [(0, .ref 0)] [.int r3] (85, I3, J3, R3) 0 0
  refine ow_if_eq (tgt := 9) d_Fs_tryLetter_4 (by decide) (fun c => ?_) (fun c => ?_)
  · replace T := T.1 c
    refine ow_aload_n 0 rfl d_Fs_tryLetter_9 ?_
    refine ow_gR (a := 54) 160 d_Fs_tryLetter_10 rfl rfl (by decide) rfl ⟨rfl, hR3 0 9 (by decide)⟩ ?_
    refine ow_callV (b := 54) (cq := 1) (As := []) (rest := []) (d2 := d) d_Fs_tryLetter_13 l_Fs_290 v_Fits_findTry (show 54 < 85 by decide) rfl (by decide) rfl (Nat.le_of_ble_eq_true rfl) (Nat.le_refl _) ⟨Nat.le_refl _, Nat.le_refl _⟩ (ow_mono T ?_)
    rintro r h' ⟨I4, J4, R4, rfl, rfl, hR4, T⟩
    show ow_AW ow_Y0 (ow_Z Q) M_Fs_tryLetter (d + 1) 0 0 16 [(0, .ref 0)] [] (85, I4, J4, R4) 0 0
    refine ow_aload_n 0 rfl d_Fs_tryLetter_16 ?_
    refine ow_gR (a := 54) 160 d_Fs_tryLetter_17 rfl rfl (by decide) rfl ⟨rfl, hR4 0 9 (by decide)⟩ ?_
    refine ow_gI 133 d_Fs_tryLetter_20 rfl rfl (by decide) rfl (Or.inl rfl) ?_
    exact ow_iret d_Fs_tryLetter_23 rfl T
  · replace T := T.2 c
    refine ow_iconst (v := (-1)) (by decide) d_Fs_tryLetter_7 ?_
    exact ow_iret d_Fs_tryLetter_8 rfl T
set_option maxRecDepth 4000 in
theorem t_Fs_tryLeaves {d : Nat} {I : Nat → Nat → Int32} {J : Nat → Nat → Int64} {R : Nat → Nat → Option Nat} {Q : Option Value → ow_H → Prop}   (hR : ow_RF R) (T : (ow_AM M_Fs_lacksShire d [.ref 0] (85, I, J, R) (fun r h' => ∃ (r3 : Int32) (I3 : Nat → Nat → Int32) (J3 : Nat → Nat → Int64) (R3 : Nat → Nat → Option Nat), r = some (.int r3) ∧ h' = (85, I3, J3, R3) ∧ ow_RF R3 ∧ ((r3 = 0 → (ow_AM M_Fits_findTry d [.ref 54] (85, I3, J3, R3) (fun r h' => ∃ (I4 : Nat → Nat → Int32) (J4 : Nat → Nat → Int64) (R4 : Nat → Nat → Option Nat), r = none ∧ h' = (85, I4, J4, R4) ∧ ow_RF R4 ∧ Q (some (.int (I4 54 6))) (85, I4, J4, R4)))) ∧ (¬ r3 = 0 → Q (some (.int (-1))) (85, I3, J3, R3)))))) : ow_AM M_Fs_tryLeaves (d + 1) [.ref 0] (85, I, J, R) Q := by
  refine ow_enter (by decide) (Nat.le_of_ble_eq_true rfl) ?_
  show ow_AW ow_Y0 (ow_Z Q) M_Fs_tryLeaves (d + 1) 0 0 0 [(0, .ref 0)] [] (85, I, J, R) 0 0
  refine ow_aload_n 0 rfl d_Fs_tryLeaves_0 ?_
  refine ow_callV (b := 0) (cq := 11) (As := []) (rest := []) (d2 := d) d_Fs_tryLeaves_1 l_Fs_208 v_Fs_lacksShire (show 0 < 85 by decide) rfl (by decide) rfl (Nat.le_of_ble_eq_true rfl) (Nat.le_refl _) ⟨Nat.le_refl _, Nat.le_refl _⟩ (ow_mono T ?_)
  rintro r h' ⟨r3, I3, J3, R3, rfl, rfl, hR3, T⟩
  show ow_AW ow_Y0 (ow_Z Q) M_Fs_tryLeaves (d + 1) 0 0 4 [(0, .ref 0)] [.int r3] (85, I3, J3, R3) 0 0
  refine ow_if_eq (tgt := 9) d_Fs_tryLeaves_4 (by decide) (fun c => ?_) (fun c => ?_)
  · replace T := T.1 c
    refine ow_aload_n 0 rfl d_Fs_tryLeaves_9 ?_
    refine ow_gR (a := 54) 160 d_Fs_tryLeaves_10 rfl rfl (by decide) rfl ⟨rfl, hR3 0 9 (by decide)⟩ ?_
    refine ow_callV (b := 54) (cq := 1) (As := []) (rest := []) (d2 := d) d_Fs_tryLeaves_13 l_Fs_290 v_Fits_findTry (show 54 < 85 by decide) rfl (by decide) rfl (Nat.le_of_ble_eq_true rfl) (Nat.le_refl _) ⟨Nat.le_refl _, Nat.le_refl _⟩ (ow_mono T ?_)
    rintro r h' ⟨I4, J4, R4, rfl, rfl, hR4, T⟩
    show ow_AW ow_Y0 (ow_Z Q) M_Fs_tryLeaves (d + 1) 0 0 16 [(0, .ref 0)] [] (85, I4, J4, R4) 0 0
    refine ow_aload_n 0 rfl d_Fs_tryLeaves_16 ?_
    refine ow_gR (a := 54) 160 d_Fs_tryLeaves_17 rfl rfl (by decide) rfl ⟨rfl, hR4 0 9 (by decide)⟩ ?_
    refine ow_gI 135 d_Fs_tryLeaves_20 rfl rfl (by decide) rfl (Or.inl rfl) ?_
    exact ow_iret d_Fs_tryLeaves_23 rfl T
  · replace T := T.2 c
    refine ow_iconst (v := (-1)) (by decide) d_Fs_tryLeaves_7 ?_
    exact ow_iret d_Fs_tryLeaves_8 rfl T
set_option maxRecDepth 4000 in
theorem t_Fs_judge {d : Nat} {I : Nat → Nat → Int32} {J : Nat → Nat → Int64} {R : Nat → Nat → Option Nat} {Q : Option Value → ow_H → Prop}   (hR : ow_RF R) (T : (ow_AM M_Fs_lacksShire d [.ref 0] (85, I, J, R) (fun r h' => ∃ (r3 : Int32) (I3 : Nat → Nat → Int32) (J3 : Nat → Nat → Int64) (R3 : Nat → Nat → Option Nat), r = some (.int r3) ∧ h' = (85, I3, J3, R3) ∧ ow_RF R3 ∧ ((r3 = 0 → (ow_AM M_Fits_firstUntrue d [.ref 54] (85, I3, J3, R3) (fun r h' => ∃ (r4 : Int32) (I4 : Nat → Nat → Int32) (J4 : Nat → Nat → Int64) (R4 : Nat → Nat → Option Nat), r = some (.int r4) ∧ h' = (85, I4, J4, R4) ∧ ow_RF R4 ∧ Q (some (.int r4)) (85, I4, J4, R4)))) ∧ (¬ r3 = 0 → Q (some (.int (-1))) (85, I3, J3, R3)))))) : ow_AM M_Fs_judge (d + 1) [.ref 0] (85, I, J, R) Q := by
  refine ow_enter (by decide) (Nat.le_of_ble_eq_true rfl) ?_
  show ow_AW ow_Y0 (ow_Z Q) M_Fs_judge (d + 1) 0 0 0 [(0, .ref 0)] [] (85, I, J, R) 0 0
  refine ow_aload_n 0 rfl d_Fs_judge_0 ?_
  refine ow_callV (b := 0) (cq := 11) (As := []) (rest := []) (d2 := d) d_Fs_judge_1 l_Fs_208 v_Fs_lacksShire (show 0 < 85 by decide) rfl (by decide) rfl (Nat.le_of_ble_eq_true rfl) (Nat.le_refl _) ⟨Nat.le_refl _, Nat.le_refl _⟩ (ow_mono T ?_)
  rintro r h' ⟨r3, I3, J3, R3, rfl, rfl, hR3, T⟩
  show ow_AW ow_Y0 (ow_Z Q) M_Fs_judge (d + 1) 0 0 4 [(0, .ref 0)] [.int r3] (85, I3, J3, R3) 0 0
  refine ow_if_eq (tgt := 9) d_Fs_judge_4 (by decide) (fun c => ?_) (fun c => ?_)
  · replace T := T.1 c
    refine ow_aload_n 0 rfl d_Fs_judge_9 ?_
    refine ow_gR (a := 54) 160 d_Fs_judge_10 rfl rfl (by decide) rfl ⟨rfl, hR3 0 9 (by decide)⟩ ?_
    refine ow_callV (b := 54) (cq := 1) (As := []) (rest := []) (d2 := d) d_Fs_judge_13 l_Fs_297 v_Fits_firstUntrue (show 54 < 85 by decide) rfl (by decide) rfl (Nat.le_of_ble_eq_true rfl) (Nat.le_refl _) ⟨Nat.le_refl _, Nat.le_refl _⟩ (ow_mono T ?_)
    rintro r h' ⟨r4, I4, J4, R4, rfl, rfl, hR4, T⟩
    show ow_AW ow_Y0 (ow_Z Q) M_Fs_judge (d + 1) 0 0 16 [(0, .ref 0)] [.int r4] (85, I4, J4, R4) 0 0
    exact ow_iret d_Fs_judge_16 rfl T
  · replace T := T.2 c
    refine ow_iconst (v := (-1)) (by decide) d_Fs_judge_7 ?_
    exact ow_iret d_Fs_judge_8 rfl T
set_option maxRecDepth 4000 in
theorem t_Fs_power {d : Nat} {I : Nat → Nat → Int32} {J : Nat → Nat → Int64} {R : Nat → Nat → Option Nat} {Q : Option Value → ow_H → Prop} {p1 : Int32} {p2 : Int32}  (hR : ow_RF R) (T : (ow_AM M_Fs_lacksEstate d [.ref 0, .int p1] (85, I, J, R) (fun r h' => ∃ (r5 : Int32) (I5 : Nat → Nat → Int32) (J5 : Nat → Nat → Int64) (R5 : Nat → Nat → Option Nat), r = some (.int r5) ∧ h' = (85, I5, J5, R5) ∧ ow_RF R5 ∧ ((r5 = 0 → (ow_AM M_Votes_countSwung d [.ref 62, .int p1] (85, I5, J5, R5) (fun r h' => ∃ (r6 : Int32) (I6 : Nat → Nat → Int32) (J6 : Nat → Nat → Int64) (R6 : Nat → Nat → Option Nat), r = some (.int r6) ∧ h' = (85, I6, J6, R6) ∧ ow_RF R6 ∧ (ow_AM M_Votes_countSetsOfOthers d [.ref 62] (85, I6, J6, R6) (fun r h' => ∃ (r7 : Int32) (I7 : Nat → Nat → Int32) (J7 : Nat → Nat → Int64) (R7 : Nat → Nat → Option Nat), r = some (.int r7) ∧ h' = (85, I7, J7, R7) ∧ ow_RF R7 ∧ (ow_AM M_Fs_inLowestTerms d [.long (Int32.toInt64 r6), .long (Int32.toInt64 r7), .int p2] (85, I7, J7, R7) (fun r h' => ∃ (r8 : Int64) (I8 : Nat → Nat → Int32) (J8 : Nat → Nat → Int64) (R8 : Nat → Nat → Option Nat), r = some (.long r8) ∧ h' = (85, I8, J8, R8) ∧ ow_RF R8 ∧ Q (some (.long r8)) (85, I8, J8, R8)))))))) ∧ (¬ r5 = 0 → Q (some (.long (-1))) (85, I5, J5, R5)))))) : ow_AM M_Fs_power (d + 1) [.ref 0, .int p1, .int p2] (85, I, J, R) Q := by
  refine ow_enter (by decide) (Nat.le_of_ble_eq_true rfl) ?_
  show ow_AW ow_Y0 (ow_Z Q) M_Fs_power (d + 1) 0 0 0 [(0, .ref 0), (1, .int p1), (2, .int p2)] [] (85, I, J, R) 0 0
  refine ow_aload_n 0 rfl d_Fs_power_0 ?_
  refine ow_iload_n 1 rfl d_Fs_power_1 ?_
  refine ow_callV (b := 0) (cq := 11) (As := [.int p1]) (rest := []) (d2 := d) d_Fs_power_2 l_Fs_173 v_Fs_lacksEstate (show 0 < 85 by decide) rfl (by decide) rfl (Nat.le_of_ble_eq_true rfl) (Nat.le_refl _) ⟨Nat.le_refl _, Nat.le_refl _⟩ (ow_mono T ?_)
  rintro r h' ⟨r5, I5, J5, R5, rfl, rfl, hR5, T⟩
  show ow_AW ow_Y0 (ow_Z Q) M_Fs_power (d + 1) 0 0 5 [(0, .ref 0), (1, .int p1), (2, .int p2)] [.int r5] (85, I5, J5, R5) 0 0
  refine ow_if_eq (tgt := 12) d_Fs_power_5 (by decide) (fun c => ?_) (fun c => ?_)
  · replace T := T.1 c
    refine ow_aload_n 0 rfl d_Fs_power_12 ?_
    refine ow_gR (a := 62) 161 d_Fs_power_13 rfl rfl (by decide) rfl ⟨rfl, hR5 0 10 (by decide)⟩ ?_
    refine ow_iload_n 1 rfl d_Fs_power_16 ?_
    refine ow_callV (b := 62) (cq := 9) (As := [.int p1]) (rest := []) (d2 := d) d_Fs_power_17 l_Fs_303 v_Votes_countSwung (show 62 < 85 by decide) rfl (by decide) rfl (Nat.le_of_ble_eq_true rfl) (Nat.le_refl _) ⟨Nat.le_refl _, Nat.le_refl _⟩ (ow_mono T ?_)
    rintro r h' ⟨r6, I6, J6, R6, rfl, rfl, hR6, T⟩
    show ow_AW ow_Y0 (ow_Z Q) M_Fs_power (d + 1) 0 0 20 [(0, .ref 0), (1, .int p1), (2, .int p2)] [.int r6] (85, I6, J6, R6) 0 0
    refine ow_i2l d_Fs_power_20 ?_
    refine ow_aload_n 0 rfl d_Fs_power_21 ?_
    refine ow_gR (a := 62) 161 d_Fs_power_22 rfl rfl (by decide) rfl ⟨rfl, hR6 0 10 (by decide)⟩ ?_
    refine ow_callV (b := 62) (cq := 9) (As := []) (rest := [.long (Int32.toInt64 r6)]) (d2 := d) d_Fs_power_25 l_Fs_306 v_Votes_countSetsOfOthers (show 62 < 85 by decide) rfl (by decide) rfl (Nat.le_of_ble_eq_true rfl) (Nat.le_refl _) ⟨Nat.le_refl _, Nat.le_refl _⟩ (ow_mono T ?_)
    rintro r h' ⟨r7, I7, J7, R7, rfl, rfl, hR7, T⟩
    show ow_AW ow_Y0 (ow_Z Q) M_Fs_power (d + 1) 0 0 28 [(0, .ref 0), (1, .int p1), (2, .int p2)] [.int r7, .long (Int32.toInt64 r6)] (85, I7, J7, R7) 0 0
    refine ow_i2l d_Fs_power_28 ?_
    refine ow_iload_n 2 rfl d_Fs_power_29 ?_
    refine ow_callS (As := [.long (Int32.toInt64 r6), .long (Int32.toInt64 r7), .int p2]) (rest := []) (d2 := d) d_Fs_power_30 l_Fs_309 v_Fs_inLowestTerms (Nat.le_of_ble_eq_true rfl) (Nat.le_refl _) ⟨Nat.le_refl _, Nat.le_refl _⟩ (ow_mono T ?_)
    rintro r h' ⟨r8, I8, J8, R8, rfl, rfl, hR8, T⟩
    show ow_AW ow_Y0 (ow_Z Q) M_Fs_power (d + 1) 0 0 33 [(0, .ref 0), (1, .int p1), (2, .int p2)] [.long r8] (85, I8, J8, R8) 0 0
    exact ow_lret d_Fs_power_33 rfl T
  · replace T := T.2 c
    refine ow_ldc2 (v := (-1)) d_Fs_power_8 k_Fs_301 ?_
    exact ow_lret d_Fs_power_11 rfl T
set_option maxRecDepth 4000 in
theorem t_Fs_rule {d : Nat} {I : Nat → Nat → Int32} {J : Nat → Nat → Int64} {R : Nat → Nat → Option Nat} {Q : Option Value → ow_H → Prop}   (hR : ow_RF R) (T : (ow_AM M_Fs_lacksShire d [.ref 0] (85, I, J, R) (fun r h' => ∃ (r3 : Int32) (I3 : Nat → Nat → Int32) (J3 : Nat → Nat → Int64) (R3 : Nat → Nat → Option Nat), r = some (.int r3) ∧ h' = (85, I3, J3, R3) ∧ ow_RF R3 ∧ ((r3 = 0 → (ow_AM M_Votes_fewestRuling d [.ref 62] (85, I3, J3, R3) (fun r h' => ∃ (r4 : Int32) (I4 : Nat → Nat → Int32) (J4 : Nat → Nat → Int64) (R4 : Nat → Nat → Option Nat), r = some (.int r4) ∧ h' = (85, I4, J4, R4) ∧ ow_RF R4 ∧ Q (some (.int r4)) (85, I4, J4, R4)))) ∧ (¬ r3 = 0 → Q (some (.int (-1))) (85, I3, J3, R3)))))) : ow_AM M_Fs_rule (d + 1) [.ref 0] (85, I, J, R) Q := by
  refine ow_enter (by decide) (Nat.le_of_ble_eq_true rfl) ?_
  show ow_AW ow_Y0 (ow_Z Q) M_Fs_rule (d + 1) 0 0 0 [(0, .ref 0)] [] (85, I, J, R) 0 0
  refine ow_aload_n 0 rfl d_Fs_rule_0 ?_
  refine ow_callV (b := 0) (cq := 11) (As := []) (rest := []) (d2 := d) d_Fs_rule_1 l_Fs_208 v_Fs_lacksShire (show 0 < 85 by decide) rfl (by decide) rfl (Nat.le_of_ble_eq_true rfl) (Nat.le_refl _) ⟨Nat.le_refl _, Nat.le_refl _⟩ (ow_mono T ?_)
  rintro r h' ⟨r3, I3, J3, R3, rfl, rfl, hR3, T⟩
  show ow_AW ow_Y0 (ow_Z Q) M_Fs_rule (d + 1) 0 0 4 [(0, .ref 0)] [.int r3] (85, I3, J3, R3) 0 0
  refine ow_if_eq (tgt := 9) d_Fs_rule_4 (by decide) (fun c => ?_) (fun c => ?_)
  · replace T := T.1 c
    refine ow_aload_n 0 rfl d_Fs_rule_9 ?_
    refine ow_gR (a := 62) 161 d_Fs_rule_10 rfl rfl (by decide) rfl ⟨rfl, hR3 0 10 (by decide)⟩ ?_
    refine ow_callV (b := 62) (cq := 9) (As := []) (rest := []) (d2 := d) d_Fs_rule_13 l_Fs_313 v_Votes_fewestRuling (show 62 < 85 by decide) rfl (by decide) rfl (Nat.le_of_ble_eq_true rfl) (Nat.le_refl _) ⟨Nat.le_refl _, Nat.le_refl _⟩ (ow_mono T ?_)
    rintro r h' ⟨r4, I4, J4, R4, rfl, rfl, hR4, T⟩
    show ow_AW ow_Y0 (ow_Z Q) M_Fs_rule (d + 1) 0 0 16 [(0, .ref 0)] [.int r4] (85, I4, J4, R4) 0 0
    exact ow_iret d_Fs_rule_16 rfl T
  · replace T := T.2 c
    refine ow_iconst (v := (-1)) (by decide) d_Fs_rule_7 ?_
    exact ow_iret d_Fs_rule_8 rfl T
set_option maxRecDepth 4000 in
theorem t_Fs_sues {d : Nat} {I : Nat → Nat → Int32} {J : Nat → Nat → Int64} {R : Nat → Nat → Option Nat} {Q : Option Value → ow_H → Prop} {p1 : Int32} {p2 : Int32} {p3 : Int32} {p4 : Int32}  (hR : ow_RF R) (T : (ow_AM M_Fs_lacksShire d [.ref 0] (85, I, J, R) (fun r h' => ∃ (r5 : Int32) (I5 : Nat → Nat → Int32) (J5 : Nat → Nat → Int64) (R5 : Nat → Nat → Option Nat), r = some (.int r5) ∧ h' = (85, I5, J5, R5) ∧ ow_RF R5 ∧ ((¬ r5 = 0 → Q (some (.int (-100))) (85, I5, J5, R5)) ∧ (r5 = 0 → (ow_AM M_Fs_isOutside d [.ref 0, .int p1, .int 0, .int 9] (85, I5, J5, R5) (fun r h' => ∃ (r6 : Int32) (I6 : Nat → Nat → Int32) (J6 : Nat → Nat → Int64) (R6 : Nat → Nat → Option Nat), r = some (.int r6) ∧ h' = (85, I6, J6, R6) ∧ ow_RF R6 ∧ ((r6 = 0 → ((p4 = 0 → (ow_AM M_Fs_gain d [.int p1, .int p2, .int p3] (85, I6, J6, R6) (fun r h' => ∃ (r7 : Int32) (I7 : Nat → Nat → Int32) (J7 : Nat → Nat → Int64) (R7 : Nat → Nat → Option Nat), r = some (.int r7) ∧ h' = (85, I7, J7, R7) ∧ ow_RF R7 ∧ Q (some (.int r7)) (85, I7, J7, R7)))) ∧ (¬ p4 = 0 → (ow_AM M_Fs_gain d [.int p1, .int p3, .int p2] (85, I6, J6, R6) (fun r h' => ∃ (r8 : Int32) (I8 : Nat → Nat → Int32) (J8 : Nat → Nat → Int64) (R8 : Nat → Nat → Option Nat), r = some (.int r8) ∧ h' = (85, I8, J8, R8) ∧ ow_RF R8 ∧ Q (some (.int r8)) (85, I8, J8, R8)))))) ∧ (¬ r6 = 0 → Q (some (.int (-100))) (85, I6, J6, R6)))))))))) : ow_AM M_Fs_sues (d + 1) [.ref 0, .int p1, .int p2, .int p3, .int p4] (85, I, J, R) Q := by
  refine ow_enter (by decide) (Nat.le_of_ble_eq_true rfl) ?_
  show ow_AW ow_Y0 (ow_Z Q) M_Fs_sues (d + 1) 0 0 0 [(0, .ref 0), (1, .int p1), (2, .int p2), (3, .int p3), (4, .int p4)] [] (85, I, J, R) 0 0
  refine ow_aload_n 0 rfl d_Fs_sues_0 ?_
  refine ow_callV (b := 0) (cq := 11) (As := []) (rest := []) (d2 := d) d_Fs_sues_1 l_Fs_208 v_Fs_lacksShire (show 0 < 85 by decide) rfl (by decide) rfl (Nat.le_of_ble_eq_true rfl) (Nat.le_refl _) ⟨Nat.le_refl _, Nat.le_refl _⟩ (ow_mono T ?_)
  rintro r h' ⟨r5, I5, J5, R5, rfl, rfl, hR5, T⟩
  show ow_AW ow_Y0 (ow_Z Q) M_Fs_sues (d + 1) 0 0 4 [(0, .ref 0), (1, .int p1), (2, .int p2), (3, .int p3), (4, .int p4)] [.int r5] (85, I5, J5, R5) 0 0
  refine ow_if_ne (tgt := 18) d_Fs_sues_4 (by decide) (fun c => ?_) (fun c => ?_)
  · replace T := T.1 c
    refine ow_bipush (v := (-100)) (by decide) d_Fs_sues_18 ?_
    exact ow_iret d_Fs_sues_20 rfl T
  · replace T := T.2 c
    refine ow_aload_n 0 rfl d_Fs_sues_7 ?_
    refine ow_iload_n 1 rfl d_Fs_sues_8 ?_
    refine ow_iconst (v := 0) (by decide) d_Fs_sues_9 ?_
    refine ow_bipush (v := 9) (by decide) d_Fs_sues_10 ?_
    refine ow_callV (b := 0) (cq := 11) (As := [.int p1, .int 0, .int 9]) (rest := []) (d2 := d) d_Fs_sues_12 l_Fs_251 v_Fs_isOutside (show 0 < 85 by decide) rfl (by decide) rfl (Nat.le_of_ble_eq_true rfl) (Nat.le_refl _) ⟨Nat.le_refl _, Nat.le_refl _⟩ (ow_mono T ?_)
    rintro r h' ⟨r6, I6, J6, R6, rfl, rfl, hR6, T⟩
    show ow_AW ow_Y0 (ow_Z Q) M_Fs_sues (d + 1) 0 0 15 [(0, .ref 0), (1, .int p1), (2, .int p2), (3, .int p3), (4, .int p4)] [.int r6] (85, I6, J6, R6) 0 0
    refine ow_if_eq (tgt := 21) d_Fs_sues_15 (by decide) (fun c => ?_) (fun c => ?_)
    · replace T := T.1 c
      refine ow_iload 4 rfl d_Fs_sues_21 ?_
      refine ow_if_eq (tgt := 35) d_Fs_sues_23 (by decide) (fun c => ?_) (fun c => ?_)
      · replace T := T.1 c
        refine ow_iload_n 1 rfl d_Fs_sues_35 ?_
        refine ow_iload_n 2 rfl d_Fs_sues_36 ?_
        refine ow_iload_n 3 rfl d_Fs_sues_37 ?_
        refine ow_callS (As := [.int p1, .int p2, .int p3]) (rest := []) (d2 := d) d_Fs_sues_38 l_Fs_316 v_Fs_gain (Nat.le_of_ble_eq_true rfl) (Nat.le_refl _) ⟨Nat.le_refl _, Nat.le_refl _⟩ (ow_mono T ?_)
        rintro r h' ⟨r7, I7, J7, R7, rfl, rfl, hR7, T⟩
        show ow_AW ow_Y0 (ow_Z Q) M_Fs_sues (d + 1) 0 0 41 [(0, .ref 0), (1, .int p1), (2, .int p2), (3, .int p3), (4, .int p4)] [.int r7] (85, I7, J7, R7) 0 0
        exact ow_iret d_Fs_sues_41 rfl T
      · replace T := T.2 c
        refine ow_iload_n 1 rfl d_Fs_sues_26 ?_
        refine ow_iload_n 3 rfl d_Fs_sues_27 ?_
        refine ow_iload_n 2 rfl d_Fs_sues_28 ?_
        refine ow_callS (As := [.int p1, .int p3, .int p2]) (rest := []) (d2 := d) d_Fs_sues_29 l_Fs_316 v_Fs_gain (Nat.le_of_ble_eq_true rfl) (Nat.le_refl _) ⟨Nat.le_refl _, Nat.le_refl _⟩ (ow_mono T ?_)
        rintro r h' ⟨r8, I8, J8, R8, rfl, rfl, hR8, T⟩
        show ow_AW ow_Y0 (ow_Z Q) M_Fs_sues (d + 1) 0 0 32 [(0, .ref 0), (1, .int p1), (2, .int p2), (3, .int p3), (4, .int p4)] [.int r8] (85, I8, J8, R8) 0 0
        refine ow_goto (tgt := 41) d_Fs_sues_32 (by decide) ?_
        exact ow_iret d_Fs_sues_41 rfl T
    · replace T := T.2 c
      refine ow_bipush (v := (-100)) (by decide) d_Fs_sues_18 ?_
      exact ow_iret d_Fs_sues_20 rfl T
set_option maxRecDepth 4000 in
theorem t_Fs_rests_24 {d : Nat} {I : Nat → Nat → Int32} {J : Nat → Nat → Int64} {R : Nat → Nat → Option Nat} {Q : Option Value → ow_H → Prop}  {v1 : Int32} {v2 : Int32} {v3 : Int32}  (hR : ow_RF R) (T : ((4 ≤ v3 → Q (some (.int v2)) (85, I, J, R)) ∧ (¬ 4 ≤ v3 → (ow_AM M_Fs_isRest d [.int v1, .int v3] (85, I, J, R) (fun r h' => ∃ (r3 : Int32) (I3 : Nat → Nat → Int32) (J3 : Nat → Nat → Int64) (R3 : Nat → Nat → Option Nat), r = some (.int r3) ∧ h' = (85, I3, J3, R3) ∧ ow_RF R3 ∧ ((r3 = 0 → ow_AW ow_Y0 (ow_Z Q) M_Fs_rests (d + 1) 0 0 24 [(1, .int v1), (2, .int v2), (3, .int (v3 + 1))] [] (85, I3, J3, R3) 0 0) ∧ (¬ r3 = 0 → ow_AW ow_Y0 (ow_Z Q) M_Fs_rests (d + 1) 0 0 24 [(1, .int v1), (2, .int (v2 + 1)), (3, .int (v3 + 1))] [] (85, I3, J3, R3) 0 0))))))) : ow_AW ow_Y0 (ow_Z Q) M_Fs_rests (d + 1) 0 0 24 [(1, .int v1), (2, .int v2), (3, .int v3)] [] (85, I, J, R) 0 0 := by
  refine ow_iload_n 2 rfl d_Fs_rests_24 ?_
  refine ow_iconst (v := 4) (by decide) d_Fs_rests_25 ?_
  refine ow_icmp_ge (tgt := 46) d_Fs_rests_26 (by decide) (fun c => ?_) (fun c => ?_)
  · replace T := T.1 c
    refine ow_iload_n 1 rfl d_Fs_rests_46 ?_
    exact ow_iret d_Fs_rests_47 rfl T
  · replace T := T.2 c
    refine ow_iload_n 0 rfl d_Fs_rests_29 ?_
    refine ow_iload_n 2 rfl d_Fs_rests_30 ?_
    refine ow_callS (As := [.int v1, .int v3]) (rest := []) (d2 := d) d_Fs_rests_31 l_Fs_320 v_Fs_isRest (Nat.le_of_ble_eq_true rfl) (Nat.le_refl _) ⟨Nat.le_refl _, Nat.le_refl _⟩ (ow_mono T ?_)
    rintro r h' ⟨r3, I3, J3, R3, rfl, rfl, hR3, T⟩
    show ow_AW ow_Y0 (ow_Z Q) M_Fs_rests (d + 1) 0 0 34 [(1, .int v1), (2, .int v2), (3, .int v3)] [.int r3] (85, I3, J3, R3) 0 0
    refine ow_if_eq (tgt := 40) d_Fs_rests_34 (by decide) (fun c => ?_) (fun c => ?_)
    · replace T := T.1 c
      refine ow_iinc 2 (v := (v3 + 1)) (ls2 := [(3, .int (v3 + 1)), (1, .int v1), (2, .int v2)]) d_Fs_rests_40 rfl rfl (by decide) rfl ?_
      refine ow_goto (tgt := 24) d_Fs_rests_43 (by decide) ?_
      refine ow_sub [1, 2, 0] rfl ?_
      exact T
    · replace T := T.2 c
      refine ow_iinc 1 (v := (v2 + 1)) (ls2 := [(2, .int (v2 + 1)), (1, .int v1), (3, .int v3)]) d_Fs_rests_37 rfl rfl (by decide) rfl ?_
      refine ow_iinc 2 (v := (v3 + 1)) (ls2 := [(3, .int (v3 + 1)), (2, .int (v2 + 1)), (1, .int v1)]) d_Fs_rests_40 rfl rfl (by decide) rfl ?_
      refine ow_goto (tgt := 24) d_Fs_rests_43 (by decide) ?_
      refine ow_sub [2, 1, 0] rfl ?_
      exact T
set_option maxRecDepth 4000 in
theorem t_Fs_rests {d : Nat} {I : Nat → Nat → Int32} {J : Nat → Nat → Int64} {R : Nat → Nat → Option Nat} {Q : Option Value → ow_H → Prop} {p1 : Int32}  (hR : ow_RF R) (T : (ow_AM M_Fs_lacksShire d [.ref 0] (85, I, J, R) (fun r h' => ∃ (r4 : Int32) (I4 : Nat → Nat → Int32) (J4 : Nat → Nat → Int64) (R4 : Nat → Nat → Option Nat), r = some (.int r4) ∧ h' = (85, I4, J4, R4) ∧ ow_RF R4 ∧ ((¬ r4 = 0 → Q (some (.int (-1))) (85, I4, J4, R4)) ∧ (r4 = 0 → (ow_AM M_Fs_isOutside d [.ref 0, .int p1, .int 0, .int 9] (85, I4, J4, R4) (fun r h' => ∃ (r5 : Int32) (I5 : Nat → Nat → Int32) (J5 : Nat → Nat → Int64) (R5 : Nat → Nat → Option Nat), r = some (.int r5) ∧ h' = (85, I5, J5, R5) ∧ ow_RF R5 ∧ ((r5 = 0 → ow_AW ow_Y0 (ow_Z Q) M_Fs_rests (d + 1) 0 0 24 [(1, .int p1), (2, .int 0), (3, .int 0)] [] (85, I5, J5, R5) 0 0) ∧ (¬ r5 = 0 → Q (some (.int (-1))) (85, I5, J5, R5)))))))))) : ow_AM M_Fs_rests (d + 1) [.ref 0, .int p1] (85, I, J, R) Q := by
  refine ow_enter (by decide) (Nat.le_of_ble_eq_true rfl) ?_
  show ow_AW ow_Y0 (ow_Z Q) M_Fs_rests (d + 1) 0 0 0 [(0, .ref 0), (1, .int p1)] [] (85, I, J, R) 0 0
  refine ow_aload_n 0 rfl d_Fs_rests_0 ?_
  refine ow_callV (b := 0) (cq := 11) (As := []) (rest := []) (d2 := d) d_Fs_rests_1 l_Fs_208 v_Fs_lacksShire (show 0 < 85 by decide) rfl (by decide) rfl (Nat.le_of_ble_eq_true rfl) (Nat.le_refl _) ⟨Nat.le_refl _, Nat.le_refl _⟩ (ow_mono T ?_)
  rintro r h' ⟨r4, I4, J4, R4, rfl, rfl, hR4, T⟩
  show ow_AW ow_Y0 (ow_Z Q) M_Fs_rests (d + 1) 0 0 4 [(0, .ref 0), (1, .int p1)] [.int r4] (85, I4, J4, R4) 0 0
  refine ow_if_ne (tgt := 18) d_Fs_rests_4 (by decide) (fun c => ?_) (fun c => ?_)
  · replace T := T.1 c
    refine ow_iconst (v := (-1)) (by decide) d_Fs_rests_18 ?_
    exact ow_iret d_Fs_rests_19 rfl T
  · replace T := T.2 c
    refine ow_aload_n 0 rfl d_Fs_rests_7 ?_
    refine ow_iload_n 1 rfl d_Fs_rests_8 ?_
    refine ow_iconst (v := 0) (by decide) d_Fs_rests_9 ?_
    refine ow_bipush (v := 9) (by decide) d_Fs_rests_10 ?_
    refine ow_callV (b := 0) (cq := 11) (As := [.int p1, .int 0, .int 9]) (rest := []) (d2 := d) d_Fs_rests_12 l_Fs_251 v_Fs_isOutside (show 0 < 85 by decide) rfl (by decide) rfl (Nat.le_of_ble_eq_true rfl) (Nat.le_refl _) ⟨Nat.le_refl _, Nat.le_refl _⟩ (ow_mono T ?_)
    rintro r h' ⟨r5, I5, J5, R5, rfl, rfl, hR5, T⟩
    show ow_AW ow_Y0 (ow_Z Q) M_Fs_rests (d + 1) 0 0 15 [(0, .ref 0), (1, .int p1)] [.int r5] (85, I5, J5, R5) 0 0
    refine ow_if_eq (tgt := 20) d_Fs_rests_15 (by decide) (fun c => ?_) (fun c => ?_)
    · replace T := T.1 c
      refine ow_iconst (v := 0) (by decide) d_Fs_rests_20 ?_
      refine ow_istore_n (ls2 := [(2, .int 0), (0, .ref 0), (1, .int p1)]) d_Fs_rests_21 (by decide) rfl ?_
      refine ow_iconst (v := 0) (by decide) d_Fs_rests_22 ?_
      refine ow_istore_n (ls2 := [(3, .int 0), (2, .int 0), (0, .ref 0), (1, .int p1)]) d_Fs_rests_23 (by decide) rfl ?_
      refine ow_sub [3, 1, 0] rfl ?_
      exact T
    · replace T := T.2 c
      refine ow_iconst (v := (-1)) (by decide) d_Fs_rests_18 ?_
      exact ow_iret d_Fs_rests_19 rfl T
set_option maxRecDepth 4000 in
theorem t_Fs_rest_22 {d : Nat} {I : Nat → Nat → Int32} {J : Nat → Nat → Int64} {R : Nat → Nat → Option Nat} {Q : Option Value → ow_H → Prop}  {v1 : Int32} {v2 : Int32}  (hR : ow_RF R) (T : ((4 ≤ v2 → Q (some (.int (-2))) (85, I, J, R)) ∧ (¬ 4 ≤ v2 → (ow_AM M_Fs_isRest d [.int v1, .int v2] (85, I, J, R) (fun r h' => ∃ (r3 : Int32) (I3 : Nat → Nat → Int32) (J3 : Nat → Nat → Int64) (R3 : Nat → Nat → Option Nat), r = some (.int r3) ∧ h' = (85, I3, J3, R3) ∧ ow_RF R3 ∧ ((r3 = 0 → ow_AW ow_Y0 (ow_Z Q) M_Fs_rest (d + 1) 0 0 22 [(1, .int v1), (2, .int (v2 + 1))] [] (85, I3, J3, R3) 0 0) ∧ (¬ r3 = 0 → Q (some (.int (((10 : Int32) * (v2 >>> (1 &&& 31))) + (v2 &&& 1)))) (85, I3, J3, R3)))))))) : ow_AW ow_Y0 (ow_Z Q) M_Fs_rest (d + 1) 0 0 22 [(1, .int v1), (2, .int v2)] [] (85, I, J, R) 0 0 := by
  refine ow_iload_n 1 rfl d_Fs_rest_22 ?_
  refine ow_iconst (v := 4) (by decide) d_Fs_rest_23 ?_
  refine ow_icmp_ge (tgt := 52) d_Fs_rest_24 (by decide) (fun c => ?_) (fun c => ?_)
  · replace T := T.1 c
    refine ow_bipush (v := (-2)) (by decide) d_Fs_rest_52 ?_
    exact ow_iret d_Fs_rest_54 rfl T
  · replace T := T.2 c
    refine ow_iload_n 0 rfl d_Fs_rest_27 ?_
    refine ow_iload_n 1 rfl d_Fs_rest_28 ?_
    refine ow_callS (As := [.int v1, .int v2]) (rest := []) (d2 := d) d_Fs_rest_29 l_Fs_320 v_Fs_isRest (Nat.le_of_ble_eq_true rfl) (Nat.le_refl _) ⟨Nat.le_refl _, Nat.le_refl _⟩ (ow_mono T ?_)
    rintro r h' ⟨r3, I3, J3, R3, rfl, rfl, hR3, T⟩
    show ow_AW ow_Y0 (ow_Z Q) M_Fs_rest (d + 1) 0 0 32 [(1, .int v1), (2, .int v2)] [.int r3] (85, I3, J3, R3) 0 0
    refine ow_if_eq (tgt := 46) d_Fs_rest_32 (by decide) (fun c => ?_) (fun c => ?_)
    · replace T := T.1 c
      refine ow_iinc 1 (v := (v2 + 1)) (ls2 := [(2, .int (v2 + 1)), (1, .int v1)]) d_Fs_rest_46 rfl rfl (by decide) rfl ?_
      refine ow_goto (tgt := 22) d_Fs_rest_49 (by decide) ?_
      refine ow_sub [1, 0] rfl ?_
      exact T
    · replace T := T.2 c
      refine ow_bipush (v := 10) (by decide) d_Fs_rest_35 ?_
      refine ow_iload_n 1 rfl d_Fs_rest_37 ?_
      refine ow_iconst (v := 1) (by decide) d_Fs_rest_38 ?_
      refine ow_ishr d_Fs_rest_39 ?_
      refine ow_imul d_Fs_rest_40 ?_
      refine ow_iload_n 1 rfl d_Fs_rest_41 ?_
      refine ow_iconst (v := 1) (by decide) d_Fs_rest_42 ?_
      refine ow_iand d_Fs_rest_43 ?_
      refine ow_iadd d_Fs_rest_44 ?_
      exact ow_iret d_Fs_rest_45 rfl T
set_option maxRecDepth 4000 in
theorem t_Fs_rest {d : Nat} {I : Nat → Nat → Int32} {J : Nat → Nat → Int64} {R : Nat → Nat → Option Nat} {Q : Option Value → ow_H → Prop} {p1 : Int32}  (hR : ow_RF R) (T : (ow_AM M_Fs_lacksShire d [.ref 0] (85, I, J, R) (fun r h' => ∃ (r4 : Int32) (I4 : Nat → Nat → Int32) (J4 : Nat → Nat → Int64) (R4 : Nat → Nat → Option Nat), r = some (.int r4) ∧ h' = (85, I4, J4, R4) ∧ ow_RF R4 ∧ ((¬ r4 = 0 → Q (some (.int (-1))) (85, I4, J4, R4)) ∧ (r4 = 0 → (ow_AM M_Fs_isOutside d [.ref 0, .int p1, .int 0, .int 9] (85, I4, J4, R4) (fun r h' => ∃ (r5 : Int32) (I5 : Nat → Nat → Int32) (J5 : Nat → Nat → Int64) (R5 : Nat → Nat → Option Nat), r = some (.int r5) ∧ h' = (85, I5, J5, R5) ∧ ow_RF R5 ∧ ((r5 = 0 → ow_AW ow_Y0 (ow_Z Q) M_Fs_rest (d + 1) 0 0 22 [(1, .int p1), (2, .int 0)] [] (85, I5, J5, R5) 0 0) ∧ (¬ r5 = 0 → Q (some (.int (-1))) (85, I5, J5, R5)))))))))) : ow_AM M_Fs_rest (d + 1) [.ref 0, .int p1] (85, I, J, R) Q := by
  refine ow_enter (by decide) (Nat.le_of_ble_eq_true rfl) ?_
  show ow_AW ow_Y0 (ow_Z Q) M_Fs_rest (d + 1) 0 0 0 [(0, .ref 0), (1, .int p1)] [] (85, I, J, R) 0 0
  refine ow_aload_n 0 rfl d_Fs_rest_0 ?_
  refine ow_callV (b := 0) (cq := 11) (As := []) (rest := []) (d2 := d) d_Fs_rest_1 l_Fs_208 v_Fs_lacksShire (show 0 < 85 by decide) rfl (by decide) rfl (Nat.le_of_ble_eq_true rfl) (Nat.le_refl _) ⟨Nat.le_refl _, Nat.le_refl _⟩ (ow_mono T ?_)
  rintro r h' ⟨r4, I4, J4, R4, rfl, rfl, hR4, T⟩
  show ow_AW ow_Y0 (ow_Z Q) M_Fs_rest (d + 1) 0 0 4 [(0, .ref 0), (1, .int p1)] [.int r4] (85, I4, J4, R4) 0 0
  refine ow_if_ne (tgt := 18) d_Fs_rest_4 (by decide) (fun c => ?_) (fun c => ?_)
  · replace T := T.1 c
    refine ow_iconst (v := (-1)) (by decide) d_Fs_rest_18 ?_
    exact ow_iret d_Fs_rest_19 rfl T
  · replace T := T.2 c
    refine ow_aload_n 0 rfl d_Fs_rest_7 ?_
    refine ow_iload_n 1 rfl d_Fs_rest_8 ?_
    refine ow_iconst (v := 0) (by decide) d_Fs_rest_9 ?_
    refine ow_bipush (v := 9) (by decide) d_Fs_rest_10 ?_
    refine ow_callV (b := 0) (cq := 11) (As := [.int p1, .int 0, .int 9]) (rest := []) (d2 := d) d_Fs_rest_12 l_Fs_251 v_Fs_isOutside (show 0 < 85 by decide) rfl (by decide) rfl (Nat.le_of_ble_eq_true rfl) (Nat.le_refl _) ⟨Nat.le_refl _, Nat.le_refl _⟩ (ow_mono T ?_)
    rintro r h' ⟨r5, I5, J5, R5, rfl, rfl, hR5, T⟩
    show ow_AW ow_Y0 (ow_Z Q) M_Fs_rest (d + 1) 0 0 15 [(0, .ref 0), (1, .int p1)] [.int r5] (85, I5, J5, R5) 0 0
    refine ow_if_eq (tgt := 20) d_Fs_rest_15 (by decide) (fun c => ?_) (fun c => ?_)
    · replace T := T.1 c
      refine ow_iconst (v := 0) (by decide) d_Fs_rest_20 ?_
      refine ow_istore_n (ls2 := [(2, .int 0), (0, .ref 0), (1, .int p1)]) d_Fs_rest_21 (by decide) rfl ?_
      refine ow_sub [2, 0] rfl ?_
      exact T
    · replace T := T.2 c
      refine ow_iconst (v := (-1)) (by decide) d_Fs_rest_18 ?_
      exact ow_iret d_Fs_rest_19 rfl T
set_option maxRecDepth 4000 in
theorem t_Fs_odds {d : Nat} {I : Nat → Nat → Int32} {J : Nat → Nat → Int64} {R : Nat → Nat → Option Nat} {Q : Option Value → ow_H → Prop} {p1 : Int32} {p2 : Int32} {p3 : Int32} {p4 : Int32}  (hR : ow_RF R) (T : (ow_AM M_Fs_lacksFolly d [.ref 0, .int p1] (85, I, J, R) (fun r h' => ∃ (r5 : Int32) (I5 : Nat → Nat → Int32) (J5 : Nat → Nat → Int64) (R5 : Nat → Nat → Option Nat), r = some (.int r5) ∧ h' = (85, I5, J5, R5) ∧ ow_RF R5 ∧ ((r5 = 0 → (ow_AM M_Winds_weigh d [.ref 63, .ref 29, .int p1, .int p2] (85, I5, J5, R5) (fun r h' => ∃ (I6 : Nat → Nat → Int32) (J6 : Nat → Nat → Int64) (R6 : Nat → Nat → Option Nat), r = none ∧ h' = (85, I6, J6, R6) ∧ ow_RF R6 ∧ ((p3 = 0 → (ow_AM M_Fs_inLowestTerms d [.long (J6 63 4), .long (J6 63 5), .int p4] (85, I6, J6, R6) (fun r h' => ∃ (r7 : Int64) (I7 : Nat → Nat → Int32) (J7 : Nat → Nat → Int64) (R7 : Nat → Nat → Option Nat), r = some (.long r7) ∧ h' = (85, I7, J7, R7) ∧ ow_RF R7 ∧ Q (some (.long r7)) (85, I7, J7, R7)))) ∧ (¬ p3 = 0 → (ow_AM M_Fs_inLowestTerms d [.long (J6 63 3), .long (J6 63 5), .int p4] (85, I6, J6, R6) (fun r h' => ∃ (r8 : Int64) (I8 : Nat → Nat → Int32) (J8 : Nat → Nat → Int64) (R8 : Nat → Nat → Option Nat), r = some (.long r8) ∧ h' = (85, I8, J8, R8) ∧ ow_RF R8 ∧ Q (some (.long r8)) (85, I8, J8, R8)))))))) ∧ (¬ r5 = 0 → Q (some (.long (-1))) (85, I5, J5, R5)))))) : ow_AM M_Fs_odds (d + 1) [.ref 0, .int p1, .int p2, .int p3, .int p4] (85, I, J, R) Q := by
  refine ow_enter (by decide) (Nat.le_of_ble_eq_true rfl) ?_
  show ow_AW ow_Y0 (ow_Z Q) M_Fs_odds (d + 1) 0 0 0 [(0, .ref 0), (1, .int p1), (2, .int p2), (3, .int p3), (4, .int p4)] [] (85, I, J, R) 0 0
  refine ow_aload_n 0 rfl d_Fs_odds_0 ?_
  refine ow_iload_n 1 rfl d_Fs_odds_1 ?_
  refine ow_callV (b := 0) (cq := 11) (As := [.int p1]) (rest := []) (d2 := d) d_Fs_odds_2 l_Fs_146 v_Fs_lacksFolly (show 0 < 85 by decide) rfl (by decide) rfl (Nat.le_of_ble_eq_true rfl) (Nat.le_refl _) ⟨Nat.le_refl _, Nat.le_refl _⟩ (ow_mono T ?_)
  rintro r h' ⟨r5, I5, J5, R5, rfl, rfl, hR5, T⟩
  show ow_AW ow_Y0 (ow_Z Q) M_Fs_odds (d + 1) 0 0 5 [(0, .ref 0), (1, .int p1), (2, .int p2), (3, .int p3), (4, .int p4)] [.int r5] (85, I5, J5, R5) 0 0
  refine ow_if_eq (tgt := 12) d_Fs_odds_5 (by decide) (fun c => ?_) (fun c => ?_)
  · replace T := T.1 c
    refine ow_aload_n 0 rfl d_Fs_odds_12 ?_
    refine ow_gR (a := 63) 162 d_Fs_odds_13 rfl rfl (by decide) rfl ⟨rfl, hR5 0 11 (by decide)⟩ ?_
    refine ow_aload_n 0 rfl d_Fs_odds_16 ?_
    refine ow_gR (a := 29) 155 d_Fs_odds_17 rfl rfl (by decide) rfl ⟨rfl, hR5 0 4 (by decide)⟩ ?_
    refine ow_iload_n 1 rfl d_Fs_odds_20 ?_
    refine ow_iload_n 2 rfl d_Fs_odds_21 ?_
    refine ow_callV (b := 63) (cq := 10) (As := [.ref 29, .int p1, .int p2]) (rest := []) (d2 := d) d_Fs_odds_22 l_Fs_323 v_Winds_weigh (show 63 < 85 by decide) rfl (by decide) rfl (Nat.le_of_ble_eq_true rfl) (Nat.le_refl _) ⟨Nat.le_refl _, Nat.le_refl _⟩ (ow_mono T ?_)
    rintro r h' ⟨I6, J6, R6, rfl, rfl, hR6, T⟩
    show ow_AW ow_Y0 (ow_Z Q) M_Fs_odds (d + 1) 0 0 25 [(0, .ref 0), (1, .int p1), (2, .int p2), (3, .int p3), (4, .int p4)] [] (85, I6, J6, R6) 0 0
    refine ow_iload_n 3 rfl d_Fs_odds_25 ?_
    refine ow_if_eq (tgt := 39) d_Fs_odds_26 (by decide) (fun c => ?_) (fun c => ?_)
    · replace T := T.1 c
      refine ow_aload_n 0 rfl d_Fs_odds_39 ?_
      refine ow_gR (a := 63) 162 d_Fs_odds_40 rfl rfl (by decide) rfl ⟨rfl, hR6 0 11 (by decide)⟩ ?_
      refine ow_gJ 144 d_Fs_odds_43 rfl rfl (by decide) rfl rfl ?_
      refine ow_aload_n 0 rfl d_Fs_odds_46 ?_
      refine ow_gR (a := 63) 162 d_Fs_odds_47 rfl rfl (by decide) rfl ⟨rfl, hR6 0 11 (by decide)⟩ ?_
      refine ow_gJ 146 d_Fs_odds_50 rfl rfl (by decide) rfl rfl ?_
      refine ow_iload 4 rfl d_Fs_odds_53 ?_
      refine ow_callS (As := [.long (J6 63 4), .long (J6 63 5), .int p4]) (rest := []) (d2 := d) d_Fs_odds_55 l_Fs_309 v_Fs_inLowestTerms (Nat.le_of_ble_eq_true rfl) (Nat.le_refl _) ⟨Nat.le_refl _, Nat.le_refl _⟩ (ow_mono T ?_)
      rintro r h' ⟨r7, I7, J7, R7, rfl, rfl, hR7, T⟩
      show ow_AW ow_Y0 (ow_Z Q) M_Fs_odds (d + 1) 0 0 58 [(0, .ref 0), (1, .int p1), (2, .int p2), (3, .int p3), (4, .int p4)] [.long r7] (85, I7, J7, R7) 0 0
      exact ow_lret d_Fs_odds_58 rfl T
    · replace T := T.2 c
      refine ow_aload_n 0 rfl d_Fs_odds_29 ?_
      refine ow_gR (a := 63) 162 d_Fs_odds_30 rfl rfl (by decide) rfl ⟨rfl, hR6 0 11 (by decide)⟩ ?_
      refine ow_gJ 142 d_Fs_odds_33 rfl rfl (by decide) rfl rfl ?_
      refine ow_goto (tgt := 46) d_Fs_odds_36 (by decide) ?_
      refine ow_aload_n 0 rfl d_Fs_odds_46 ?_
      refine ow_gR (a := 63) 162 d_Fs_odds_47 rfl rfl (by decide) rfl ⟨rfl, hR6 0 11 (by decide)⟩ ?_
      refine ow_gJ 146 d_Fs_odds_50 rfl rfl (by decide) rfl rfl ?_
      refine ow_iload 4 rfl d_Fs_odds_53 ?_
      refine ow_callS (As := [.long (J6 63 3), .long (J6 63 5), .int p4]) (rest := []) (d2 := d) d_Fs_odds_55 l_Fs_309 v_Fs_inLowestTerms (Nat.le_of_ble_eq_true rfl) (Nat.le_refl _) ⟨Nat.le_refl _, Nat.le_refl _⟩ (ow_mono T ?_)
      rintro r h' ⟨r8, I8, J8, R8, rfl, rfl, hR8, T⟩
      show ow_AW ow_Y0 (ow_Z Q) M_Fs_odds (d + 1) 0 0 58 [(0, .ref 0), (1, .int p1), (2, .int p2), (3, .int p3), (4, .int p4)] [.long r8] (85, I8, J8, R8) 0 0
      exact ow_lret d_Fs_odds_58 rfl T
  · replace T := T.2 c
    refine ow_ldc2 (v := (-1)) d_Fs_odds_8 k_Fs_301 ?_
    exact ow_lret d_Fs_odds_11 rfl T
set_option maxRecDepth 4000 in
theorem t_Fs_lostOdds {d : Nat} {I : Nat → Nat → Int32} {J : Nat → Nat → Int64} {R : Nat → Nat → Option Nat} {Q : Option Value → ow_H → Prop} {p1 : Int32} {p2 : Int32} {p3 : Int32}  (hR : ow_RF R) (T : (ow_AM M_Fs_lacksFolly d [.ref 0, .int p1] (85, I, J, R) (fun r h' => ∃ (r4 : Int32) (I4 : Nat → Nat → Int32) (J4 : Nat → Nat → Int64) (R4 : Nat → Nat → Option Nat), r = some (.int r4) ∧ h' = (85, I4, J4, R4) ∧ ow_RF R4 ∧ ((r4 = 0 → (ow_AM M_Winds_weigh d [.ref 63, .ref 29, .int p1, .int p2] (85, I4, J4, R4) (fun r h' => ∃ (I5 : Nat → Nat → Int32) (J5 : Nat → Nat → Int64) (R5 : Nat → Nat → Option Nat), r = none ∧ h' = (85, I5, J5, R5) ∧ ow_RF R5 ∧ (ow_AM M_Fs_inLowestTerms d [.long (((J5 63 5) - (J5 63 3)) - (J5 63 4)), .long (J5 63 5), .int p3] (85, I5, J5, R5) (fun r h' => ∃ (r6 : Int64) (I6 : Nat → Nat → Int32) (J6 : Nat → Nat → Int64) (R6 : Nat → Nat → Option Nat), r = some (.long r6) ∧ h' = (85, I6, J6, R6) ∧ ow_RF R6 ∧ Q (some (.long r6)) (85, I6, J6, R6)))))) ∧ (¬ r4 = 0 → Q (some (.long (-1))) (85, I4, J4, R4)))))) : ow_AM M_Fs_lostOdds (d + 1) [.ref 0, .int p1, .int p2, .int p3] (85, I, J, R) Q := by
  refine ow_enter (by decide) (Nat.le_of_ble_eq_true rfl) ?_
  show ow_AW ow_Y0 (ow_Z Q) M_Fs_lostOdds (d + 1) 0 0 0 [(0, .ref 0), (1, .int p1), (2, .int p2), (3, .int p3)] [] (85, I, J, R) 0 0
  refine ow_aload_n 0 rfl d_Fs_lostOdds_0 ?_
  refine ow_iload_n 1 rfl d_Fs_lostOdds_1 ?_
  refine ow_callV (b := 0) (cq := 11) (As := [.int p1]) (rest := []) (d2 := d) d_Fs_lostOdds_2 l_Fs_146 v_Fs_lacksFolly (show 0 < 85 by decide) rfl (by decide) rfl (Nat.le_of_ble_eq_true rfl) (Nat.le_refl _) ⟨Nat.le_refl _, Nat.le_refl _⟩ (ow_mono T ?_)
  rintro r h' ⟨r4, I4, J4, R4, rfl, rfl, hR4, T⟩
  show ow_AW ow_Y0 (ow_Z Q) M_Fs_lostOdds (d + 1) 0 0 5 [(0, .ref 0), (1, .int p1), (2, .int p2), (3, .int p3)] [.int r4] (85, I4, J4, R4) 0 0
  refine ow_if_eq (tgt := 12) d_Fs_lostOdds_5 (by decide) (fun c => ?_) (fun c => ?_)
  · replace T := T.1 c
    refine ow_aload_n 0 rfl d_Fs_lostOdds_12 ?_
    refine ow_gR (a := 63) 162 d_Fs_lostOdds_13 rfl rfl (by decide) rfl ⟨rfl, hR4 0 11 (by decide)⟩ ?_
    refine ow_aload_n 0 rfl d_Fs_lostOdds_16 ?_
    refine ow_gR (a := 29) 155 d_Fs_lostOdds_17 rfl rfl (by decide) rfl ⟨rfl, hR4 0 4 (by decide)⟩ ?_
    refine ow_iload_n 1 rfl d_Fs_lostOdds_20 ?_
    refine ow_iload_n 2 rfl d_Fs_lostOdds_21 ?_
    refine ow_callV (b := 63) (cq := 10) (As := [.ref 29, .int p1, .int p2]) (rest := []) (d2 := d) d_Fs_lostOdds_22 l_Fs_323 v_Winds_weigh (show 63 < 85 by decide) rfl (by decide) rfl (Nat.le_of_ble_eq_true rfl) (Nat.le_refl _) ⟨Nat.le_refl _, Nat.le_refl _⟩ (ow_mono T ?_)
    rintro r h' ⟨I5, J5, R5, rfl, rfl, hR5, T⟩
    show ow_AW ow_Y0 (ow_Z Q) M_Fs_lostOdds (d + 1) 0 0 25 [(0, .ref 0), (1, .int p1), (2, .int p2), (3, .int p3)] [] (85, I5, J5, R5) 0 0
    refine ow_aload_n 0 rfl d_Fs_lostOdds_25 ?_
    refine ow_gR (a := 63) 162 d_Fs_lostOdds_26 rfl rfl (by decide) rfl ⟨rfl, hR5 0 11 (by decide)⟩ ?_
    refine ow_gJ 146 d_Fs_lostOdds_29 rfl rfl (by decide) rfl rfl ?_
    refine ow_aload_n 0 rfl d_Fs_lostOdds_32 ?_
    refine ow_gR (a := 63) 162 d_Fs_lostOdds_33 rfl rfl (by decide) rfl ⟨rfl, hR5 0 11 (by decide)⟩ ?_
    refine ow_gJ 142 d_Fs_lostOdds_36 rfl rfl (by decide) rfl rfl ?_
    refine ow_lsub d_Fs_lostOdds_39 ?_
    refine ow_aload_n 0 rfl d_Fs_lostOdds_40 ?_
    refine ow_gR (a := 63) 162 d_Fs_lostOdds_41 rfl rfl (by decide) rfl ⟨rfl, hR5 0 11 (by decide)⟩ ?_
    refine ow_gJ 144 d_Fs_lostOdds_44 rfl rfl (by decide) rfl rfl ?_
    refine ow_lsub d_Fs_lostOdds_47 ?_
    refine ow_aload_n 0 rfl d_Fs_lostOdds_48 ?_
    refine ow_gR (a := 63) 162 d_Fs_lostOdds_49 rfl rfl (by decide) rfl ⟨rfl, hR5 0 11 (by decide)⟩ ?_
    refine ow_gJ 146 d_Fs_lostOdds_52 rfl rfl (by decide) rfl rfl ?_
    refine ow_iload_n 3 rfl d_Fs_lostOdds_55 ?_
    refine ow_callS (As := [.long (((J5 63 5) - (J5 63 3)) - (J5 63 4)), .long (J5 63 5), .int p3]) (rest := []) (d2 := d) d_Fs_lostOdds_56 l_Fs_309 v_Fs_inLowestTerms (Nat.le_of_ble_eq_true rfl) (Nat.le_refl _) ⟨Nat.le_refl _, Nat.le_refl _⟩ (ow_mono T ?_)
    rintro r h' ⟨r6, I6, J6, R6, rfl, rfl, hR6, T⟩
    show ow_AW ow_Y0 (ow_Z Q) M_Fs_lostOdds (d + 1) 0 0 59 [(0, .ref 0), (1, .int p1), (2, .int p2), (3, .int p3)] [.long r6] (85, I6, J6, R6) 0 0
    exact ow_lret d_Fs_lostOdds_59 rfl T
  · replace T := T.2 c
    refine ow_ldc2 (v := (-1)) d_Fs_lostOdds_8 k_Fs_301 ?_
    exact ow_lret d_Fs_lostOdds_11 rfl T
set_option maxRecDepth 4000 in
theorem t_Fs_blown {d : Nat} {I : Nat → Nat → Int32} {J : Nat → Nat → Int64} {R : Nat → Nat → Option Nat} {Q : Option Value → ow_H → Prop} {p1 : Int32} {p2 : Int32} {p3 : Int32}  (hR : ow_RF R) (T : (ow_AM M_Fs_lacksFolly d [.ref 0, .int p1] (85, I, J, R) (fun r h' => ∃ (r5 : Int32) (I5 : Nat → Nat → Int32) (J5 : Nat → Nat → Int64) (R5 : Nat → Nat → Option Nat), r = some (.int r5) ∧ h' = (85, I5, J5, R5) ∧ ow_RF R5 ∧ ((¬ r5 = 0 → Q (some (.int (-1))) (85, I5, J5, R5)) ∧ (r5 = 0 → (ow_AM M_Fs_isOutside d [.ref 0, .int p3, .int 0, .int 65536] (85, I5, J5, R5) (fun r h' => ∃ (r6 : Int32) (I6 : Nat → Nat → Int32) (J6 : Nat → Nat → Int64) (R6 : Nat → Nat → Option Nat), r = some (.int r6) ∧ h' = (85, I6, J6, R6) ∧ ow_RF R6 ∧ ((r6 = 0 → (∀ (I7 : Nat → Nat → Int32), I7 = ow_u I6 63 2 p3 → (ow_AM M_Winds_blow d [.ref 63, .ref 29, .int p1, .int p2] (85, I7, J6, R6) (fun r h' => ∃ (r8 : Int32) (I8 : Nat → Nat → Int32) (J8 : Nat → Nat → Int64) (R8 : Nat → Nat → Option Nat), r = some (.int r8) ∧ h' = (85, I8, J8, R8) ∧ ow_RF R8 ∧ Q (some (.int r8)) (85, I8, J8, R8))))) ∧ (¬ r6 = 0 → Q (some (.int (-1))) (85, I6, J6, R6)))))))))) : ow_AM M_Fs_blown (d + 1) [.ref 0, .int p1, .int p2, .int p3] (85, I, J, R) Q := by
  refine ow_enter (by decide) (Nat.le_of_ble_eq_true rfl) ?_
  show ow_AW ow_Y0 (ow_Z Q) M_Fs_blown (d + 1) 0 0 0 [(0, .ref 0), (1, .int p1), (2, .int p2), (3, .int p3)] [] (85, I, J, R) 0 0
  refine ow_aload_n 0 rfl d_Fs_blown_0 ?_
  refine ow_iload_n 1 rfl d_Fs_blown_1 ?_
  refine ow_callV (b := 0) (cq := 11) (As := [.int p1]) (rest := []) (d2 := d) d_Fs_blown_2 l_Fs_146 v_Fs_lacksFolly (show 0 < 85 by decide) rfl (by decide) rfl (Nat.le_of_ble_eq_true rfl) (Nat.le_refl _) ⟨Nat.le_refl _, Nat.le_refl _⟩ (ow_mono T ?_)
  rintro r h' ⟨r5, I5, J5, R5, rfl, rfl, hR5, T⟩
  show ow_AW ow_Y0 (ow_Z Q) M_Fs_blown (d + 1) 0 0 5 [(0, .ref 0), (1, .int p1), (2, .int p2), (3, .int p3)] [.int r5] (85, I5, J5, R5) 0 0
  refine ow_if_ne (tgt := 20) d_Fs_blown_5 (by decide) (fun c => ?_) (fun c => ?_)
  · replace T := T.1 c
    refine ow_iconst (v := (-1)) (by decide) d_Fs_blown_20 ?_
    exact ow_iret d_Fs_blown_21 rfl T
  · replace T := T.2 c
    refine ow_aload_n 0 rfl d_Fs_blown_8 ?_
    refine ow_iload_n 3 rfl d_Fs_blown_9 ?_
    refine ow_iconst (v := 0) (by decide) d_Fs_blown_10 ?_
    refine ow_ldcw (v := 65536) d_Fs_blown_11 k_Fs_336 ?_
    refine ow_callV (b := 0) (cq := 11) (As := [.int p3, .int 0, .int 65536]) (rest := []) (d2 := d) d_Fs_blown_14 l_Fs_251 v_Fs_isOutside (show 0 < 85 by decide) rfl (by decide) rfl (Nat.le_of_ble_eq_true rfl) (Nat.le_refl _) ⟨Nat.le_refl _, Nat.le_refl _⟩ (ow_mono T ?_)
    rintro r h' ⟨r6, I6, J6, R6, rfl, rfl, hR6, T⟩
    show ow_AW ow_Y0 (ow_Z Q) M_Fs_blown (d + 1) 0 0 17 [(0, .ref 0), (1, .int p1), (2, .int p2), (3, .int p3)] [.int r6] (85, I6, J6, R6) 0 0
    refine ow_if_eq (tgt := 22) d_Fs_blown_17 (by decide) (fun c => ?_) (fun c => ?_)
    · replace T := T.1 c
      refine ow_aload_n 0 rfl d_Fs_blown_22 ?_
      refine ow_gR (a := 63) 162 d_Fs_blown_23 rfl rfl (by decide) rfl ⟨rfl, hR6 0 11 (by decide)⟩ ?_
      refine ow_iload_n 3 rfl d_Fs_blown_26 ?_
      refine ow_pI 140 d_Fs_blown_27 rfl rfl (by decide) rfl rfl rfl ?_
      obtain ⟨I7, eI7⟩ : ∃ uu, uu = ow_u I6 63 2 p3 := ⟨_, rfl⟩
      replace T := T I7 eI7
      rw [← eI7]
      refine ow_aload_n 0 rfl d_Fs_blown_30 ?_
      refine ow_gR (a := 63) 162 d_Fs_blown_31 rfl rfl (by decide) rfl ⟨rfl, hR6 0 11 (by decide)⟩ ?_
      refine ow_aload_n 0 rfl d_Fs_blown_34 ?_
      refine ow_gR (a := 29) 155 d_Fs_blown_35 rfl rfl (by decide) rfl ⟨rfl, hR6 0 4 (by decide)⟩ ?_
      refine ow_iload_n 1 rfl d_Fs_blown_38 ?_
      refine ow_iload_n 2 rfl d_Fs_blown_39 ?_
      refine ow_callV (b := 63) (cq := 10) (As := [.ref 29, .int p1, .int p2]) (rest := []) (d2 := d) d_Fs_blown_40 l_Fs_340 v_Winds_blow (show 63 < 85 by decide) rfl (by decide) rfl (Nat.le_of_ble_eq_true rfl) (Nat.le_refl _) ⟨Nat.le_refl _, Nat.le_refl _⟩ (ow_mono T ?_)
      rintro r h' ⟨r8, I8, J8, R8, rfl, rfl, hR8, T⟩
      show ow_AW ow_Y0 (ow_Z Q) M_Fs_blown (d + 1) 0 0 43 [(0, .ref 0), (1, .int p1), (2, .int p2), (3, .int p3)] [.int r8] (85, I8, J8, R8) 0 0
      exact ow_iret d_Fs_blown_43 rfl T
    · replace T := T.2 c
      refine ow_iconst (v := (-1)) (by decide) d_Fs_blown_20 ?_
      exact ow_iret d_Fs_blown_21 rfl T
set_option maxRecDepth 4000 in
theorem t_Fs_yeses_48 {d : Nat} {I : Nat → Nat → Int32} {J : Nat → Nat → Int64} {R : Nat → Nat → Option Nat} {Q : Option Value → ow_H → Prop}  {v1 : Int32} {v2 : Int32} {v4 : Int32} {v5 : Int32} {v6 : Int32}  (hR : ow_RF R) (T : ((v4 ≤ v6 → Q (some (.int v5)) (85, I, J, R)) ∧ (¬ v4 ≤ v6 → (ow_AM M_Winds_blow d [.ref 63, .ref 29, .int v1, .int v2] (85, I, J, R) (fun r h' => ∃ (r5 : Int32) (I5 : Nat → Nat → Int32) (J5 : Nat → Nat → Int64) (R5 : Nat → Nat → Option Nat), r = some (.int r5) ∧ h' = (85, I5, J5, R5) ∧ ow_RF R5 ∧ ((¬ r5 = 1 → ow_AW ow_Y0 (ow_Z Q) M_Fs_yeses (d + 1) 0 0 48 [(0, .ref 0), (1, .int v1), (2, .int v2), (4, .int v4), (5, .int v5), (6, .int (v6 + 1))] [] (85, I5, J5, R5) 0 0) ∧ (r5 = 1 → ow_AW ow_Y0 (ow_Z Q) M_Fs_yeses (d + 1) 0 0 48 [(0, .ref 0), (1, .int v1), (2, .int v2), (4, .int v4), (5, .int (v5 + 1)), (6, .int (v6 + 1))] [] (85, I5, J5, R5) 0 0))))))) : ow_AW ow_Y0 (ow_Z Q) M_Fs_yeses (d + 1) 0 0 48 [(0, .ref 0), (1, .int v1), (2, .int v2), (4, .int v4), (5, .int v5), (6, .int v6)] [] (85, I, J, R) 0 0 := by
  refine ow_iload 5 rfl d_Fs_yeses_48 ?_
  refine ow_iload 3 rfl d_Fs_yeses_50 ?_
  refine ow_icmp_ge (tgt := 81) d_Fs_yeses_52 (by decide) (fun c => ?_) (fun c => ?_)
  · replace T := T.1 c
    refine ow_iload 4 rfl d_Fs_yeses_81 ?_
    exact ow_iret d_Fs_yeses_83 rfl T
  · replace T := T.2 c
    refine ow_aload_n 0 rfl d_Fs_yeses_55 ?_
    refine ow_gR (a := 63) 162 d_Fs_yeses_56 rfl rfl (by decide) rfl ⟨rfl, hR 0 11 (by decide)⟩ ?_
    refine ow_aload_n 0 rfl d_Fs_yeses_59 ?_
    refine ow_gR (a := 29) 155 d_Fs_yeses_60 rfl rfl (by decide) rfl ⟨rfl, hR 0 4 (by decide)⟩ ?_
    refine ow_iload_n 1 rfl d_Fs_yeses_63 ?_
    refine ow_iload_n 2 rfl d_Fs_yeses_64 ?_
    refine ow_callV (b := 63) (cq := 10) (As := [.ref 29, .int v1, .int v2]) (rest := []) (d2 := d) d_Fs_yeses_65 l_Fs_340 v_Winds_blow (show 63 < 85 by decide) rfl (by decide) rfl (Nat.le_of_ble_eq_true rfl) (Nat.le_refl _) ⟨Nat.le_refl _, Nat.le_refl _⟩ (ow_mono T ?_)
    rintro r h' ⟨r5, I5, J5, R5, rfl, rfl, hR5, T⟩
    show ow_AW ow_Y0 (ow_Z Q) M_Fs_yeses (d + 1) 0 0 68 [(0, .ref 0), (1, .int v1), (2, .int v2), (4, .int v4), (5, .int v5), (6, .int v6)] [.int r5] (85, I5, J5, R5) 0 0
    refine ow_iconst (v := 1) (by decide) d_Fs_yeses_68 ?_
    refine ow_icmp_ne (tgt := 75) d_Fs_yeses_69 (by decide) (fun c => ?_) (fun c => ?_)
    · replace T := T.1 c
      refine ow_iinc 5 (v := (v6 + 1)) (ls2 := [(6, .int (v6 + 1)), (0, .ref 0), (1, .int v1), (2, .int v2), (4, .int v4), (5, .int v5)]) d_Fs_yeses_75 rfl rfl (by decide) rfl ?_
      refine ow_goto (tgt := 48) d_Fs_yeses_78 (by decide) ?_
      refine ow_sub [1, 2, 3, 4, 5, 0] rfl ?_
      exact T
    · replace T := T.2 c
      refine ow_iinc 4 (v := (v5 + 1)) (ls2 := [(5, .int (v5 + 1)), (0, .ref 0), (1, .int v1), (2, .int v2), (4, .int v4), (6, .int v6)]) d_Fs_yeses_72 rfl rfl (by decide) rfl ?_
      refine ow_iinc 5 (v := (v6 + 1)) (ls2 := [(6, .int (v6 + 1)), (5, .int (v5 + 1)), (0, .ref 0), (1, .int v1), (2, .int v2), (4, .int v4)]) d_Fs_yeses_75 rfl rfl (by decide) rfl ?_
      refine ow_goto (tgt := 48) d_Fs_yeses_78 (by decide) ?_
      refine ow_sub [2, 3, 4, 5, 1, 0] rfl ?_
      exact T
set_option maxRecDepth 4000 in
theorem t_Fs_yeses {d : Nat} {I : Nat → Nat → Int32} {J : Nat → Nat → Int64} {R : Nat → Nat → Option Nat} {Q : Option Value → ow_H → Prop} {p1 : Int32} {p2 : Int32} {p3 : Int32} {p4 : Int32}  (hR : ow_RF R) (T : (ow_AM M_Fs_lacksFolly d [.ref 0, .int p1] (85, I, J, R) (fun r h' => ∃ (r6 : Int32) (I6 : Nat → Nat → Int32) (J6 : Nat → Nat → Int64) (R6 : Nat → Nat → Option Nat), r = some (.int r6) ∧ h' = (85, I6, J6, R6) ∧ ow_RF R6 ∧ ((¬ r6 = 0 → Q (some (.int (-1))) (85, I6, J6, R6)) ∧ (r6 = 0 → (ow_AM M_Fs_isOutside d [.ref 0, .int p3, .int 0, .int 65536] (85, I6, J6, R6) (fun r h' => ∃ (r7 : Int32) (I7 : Nat → Nat → Int32) (J7 : Nat → Nat → Int64) (R7 : Nat → Nat → Option Nat), r = some (.int r7) ∧ h' = (85, I7, J7, R7) ∧ ow_RF R7 ∧ ((¬ r7 = 0 → Q (some (.int (-1))) (85, I7, J7, R7)) ∧ (r7 = 0 → (ow_AM M_Fs_isOutside d [.ref 0, .int p4, .int 0, .int 60] (85, I7, J7, R7) (fun r h' => ∃ (r8 : Int32) (I8 : Nat → Nat → Int32) (J8 : Nat → Nat → Int64) (R8 : Nat → Nat → Option Nat), r = some (.int r8) ∧ h' = (85, I8, J8, R8) ∧ ow_RF R8 ∧ ((r8 = 0 → (∀ (I9 : Nat → Nat → Int32), I9 = ow_u I8 63 2 p3 → ow_AW ow_Y0 (ow_Z Q) M_Fs_yeses (d + 1) 0 0 48 [(0, .ref 0), (1, .int p1), (2, .int p2), (4, .int p4), (5, .int 0), (6, .int 0)] [] (85, I9, J8, R8) 0 0)) ∧ (¬ r8 = 0 → Q (some (.int (-1))) (85, I8, J8, R8)))))))))))))) : ow_AM M_Fs_yeses (d + 1) [.ref 0, .int p1, .int p2, .int p3, .int p4] (85, I, J, R) Q := by
  refine ow_enter (by decide) (Nat.le_of_ble_eq_true rfl) ?_
  show ow_AW ow_Y0 (ow_Z Q) M_Fs_yeses (d + 1) 0 0 0 [(0, .ref 0), (1, .int p1), (2, .int p2), (3, .int p3), (4, .int p4)] [] (85, I, J, R) 0 0
  refine ow_aload_n 0 rfl d_Fs_yeses_0 ?_
  refine ow_iload_n 1 rfl d_Fs_yeses_1 ?_
  refine ow_callV (b := 0) (cq := 11) (As := [.int p1]) (rest := []) (d2 := d) d_Fs_yeses_2 l_Fs_146 v_Fs_lacksFolly (show 0 < 85 by decide) rfl (by decide) rfl (Nat.le_of_ble_eq_true rfl) (Nat.le_refl _) ⟨Nat.le_refl _, Nat.le_refl _⟩ (ow_mono T ?_)
  rintro r h' ⟨r6, I6, J6, R6, rfl, rfl, hR6, T⟩
  show ow_AW ow_Y0 (ow_Z Q) M_Fs_yeses (d + 1) 0 0 5 [(0, .ref 0), (1, .int p1), (2, .int p2), (3, .int p3), (4, .int p4)] [.int r6] (85, I6, J6, R6) 0 0
  refine ow_if_ne (tgt := 32) d_Fs_yeses_5 (by decide) (fun c => ?_) (fun c => ?_)
  · replace T := T.1 c
    refine ow_iconst (v := (-1)) (by decide) d_Fs_yeses_32 ?_
    exact ow_iret d_Fs_yeses_33 rfl T
  · replace T := T.2 c
    refine ow_aload_n 0 rfl d_Fs_yeses_8 ?_
    refine ow_iload_n 3 rfl d_Fs_yeses_9 ?_
    refine ow_iconst (v := 0) (by decide) d_Fs_yeses_10 ?_
    refine ow_ldcw (v := 65536) d_Fs_yeses_11 k_Fs_336 ?_
    refine ow_callV (b := 0) (cq := 11) (As := [.int p3, .int 0, .int 65536]) (rest := []) (d2 := d) d_Fs_yeses_14 l_Fs_251 v_Fs_isOutside (show 0 < 85 by decide) rfl (by decide) rfl (Nat.le_of_ble_eq_true rfl) (Nat.le_refl _) ⟨Nat.le_refl _, Nat.le_refl _⟩ (ow_mono T ?_)
    rintro r h' ⟨r7, I7, J7, R7, rfl, rfl, hR7, T⟩
    show ow_AW ow_Y0 (ow_Z Q) M_Fs_yeses (d + 1) 0 0 17 [(0, .ref 0), (1, .int p1), (2, .int p2), (3, .int p3), (4, .int p4)] [.int r7] (85, I7, J7, R7) 0 0
    refine ow_if_ne (tgt := 32) d_Fs_yeses_17 (by decide) (fun c => ?_) (fun c => ?_)
    · replace T := T.1 c
      refine ow_iconst (v := (-1)) (by decide) d_Fs_yeses_32 ?_
      exact ow_iret d_Fs_yeses_33 rfl T
    · replace T := T.2 c
      refine ow_aload_n 0 rfl d_Fs_yeses_20 ?_
      refine ow_iload 4 rfl d_Fs_yeses_21 ?_
      refine ow_iconst (v := 0) (by decide) d_Fs_yeses_23 ?_
      refine ow_bipush (v := 60) (by decide) d_Fs_yeses_24 ?_
      refine ow_callV (b := 0) (cq := 11) (As := [.int p4, .int 0, .int 60]) (rest := []) (d2 := d) d_Fs_yeses_26 l_Fs_251 v_Fs_isOutside (show 0 < 85 by decide) rfl (by decide) rfl (Nat.le_of_ble_eq_true rfl) (Nat.le_refl _) ⟨Nat.le_refl _, Nat.le_refl _⟩ (ow_mono T ?_)
      rintro r h' ⟨r8, I8, J8, R8, rfl, rfl, hR8, T⟩
      show ow_AW ow_Y0 (ow_Z Q) M_Fs_yeses (d + 1) 0 0 29 [(0, .ref 0), (1, .int p1), (2, .int p2), (3, .int p3), (4, .int p4)] [.int r8] (85, I8, J8, R8) 0 0
      refine ow_if_eq (tgt := 34) d_Fs_yeses_29 (by decide) (fun c => ?_) (fun c => ?_)
      · replace T := T.1 c
        refine ow_aload_n 0 rfl d_Fs_yeses_34 ?_
        refine ow_gR (a := 63) 162 d_Fs_yeses_35 rfl rfl (by decide) rfl ⟨rfl, hR8 0 11 (by decide)⟩ ?_
        refine ow_iload_n 3 rfl d_Fs_yeses_38 ?_
        refine ow_pI 140 d_Fs_yeses_39 rfl rfl (by decide) rfl rfl rfl ?_
        obtain ⟨I9, eI9⟩ : ∃ uu, uu = ow_u I8 63 2 p3 := ⟨_, rfl⟩
        replace T := T I9 eI9
        rw [← eI9]
        refine ow_iconst (v := 0) (by decide) d_Fs_yeses_42 ?_
        refine ow_istore (ls2 := [(5, .int 0), (0, .ref 0), (1, .int p1), (2, .int p2), (3, .int p3), (4, .int p4)]) d_Fs_yeses_43 (by decide) rfl ?_
        refine ow_iconst (v := 0) (by decide) d_Fs_yeses_45 ?_
        refine ow_istore (ls2 := [(6, .int 0), (5, .int 0), (0, .ref 0), (1, .int p1), (2, .int p2), (3, .int p3), (4, .int p4)]) d_Fs_yeses_46 (by decide) rfl ?_
        refine ow_sub [2, 3, 4, 6, 1, 0] rfl ?_
        exact T
      · replace T := T.2 c
        refine ow_iconst (v := (-1)) (by decide) d_Fs_yeses_32 ?_
        exact ow_iret d_Fs_yeses_33 rfl T
set_option maxRecDepth 4000 in
theorem t_Fs_year {d : Nat} {I : Nat → Nat → Int32} {J : Nat → Nat → Int64} {R : Nat → Nat → Option Nat} {Q : Option Value → ow_H → Prop}   (hR : ow_RF R) (T : (ow_AM M_Fs_lacksShire d [.ref 0] (85, I, J, R) (fun r h' => ∃ (r7 : Int32) (I7 : Nat → Nat → Int32) (J7 : Nat → Nat → Int64) (R7 : Nat → Nat → Option Nat), r = some (.int r7) ∧ h' = (85, I7, J7, R7) ∧ ow_RF R7 ∧ ((r7 = 0 → (((I7 29 1) < 999 → (ow_AM M_Snaps_push d [.ref 66, .ref 29] (85, I7, J7, R7) (fun r h' => ∃ (I8 : Nat → Nat → Int32) (J8 : Nat → Nat → Int64) (R8 : Nat → Nat → Option Nat), r = none ∧ h' = (85, I8, J8, R8) ∧ ow_RF R8 ∧ (ow_AM M_Scene_bitsSound d [.ref 29] (85, I8, J8, R8) (fun r h' => ∃ (r9 : Int32) (I9 : Nat → Nat → Int32) (J9 : Nat → Nat → Int64) (R9 : Nat → Nat → Option Nat), r = some (.int r9) ∧ h' = (85, I9, J9, R9) ∧ ow_RF R9 ∧ (ow_AM M_Scene_age d [.ref 29, .int (I9 2 1), .int 1] (85, I9, J9, R9) (fun r h' => ∃ (I10 : Nat → Nat → Int32) (J10 : Nat → Nat → Int64) (R10 : Nat → Nat → Option Nat), r = none ∧ h' = (85, I10, J10, R10) ∧ ow_RF R10 ∧ (ow_AM M_Scene_bitsSound d [.ref 29] (85, I10, J10, R10) (fun r h' => ∃ (r11 : Int32) (I11 : Nat → Nat → Int32) (J11 : Nat → Nat → Int64) (R11 : Nat → Nat → Option Nat), r = some (.int r11) ∧ h' = (85, I11, J11, R11) ∧ ow_RF R11 ∧ Q (some (.int (r9 &&& (r11 ^^^ (-1))))) (85, I11, J11, R11)))))))))) ∧ (¬ (I7 29 1) < 999 → (ow_AM M_Fs_refused d [.ref 0, .int 3] (85, I7, J7, R7) (fun r h' => ∃ (r12 : Int32) (I12 : Nat → Nat → Int32) (J12 : Nat → Nat → Int64) (R12 : Nat → Nat → Option Nat), r = some (.int r12) ∧ h' = (85, I12, J12, R12) ∧ ow_RF R12 ∧ Q (some (.int r12)) (85, I12, J12, R12)))))) ∧ (¬ r7 = 0 → Q (some (.int (-1))) (85, I7, J7, R7)))))) : ow_AM M_Fs_year (d + 1) [.ref 0] (85, I, J, R) Q := by
  refine ow_enter (by decide) (Nat.le_of_ble_eq_true rfl) ?_
  show ow_AW ow_Y0 (ow_Z Q) M_Fs_year (d + 1) 0 0 0 [(0, .ref 0)] [] (85, I, J, R) 0 0
  refine ow_aload_n 0 rfl d_Fs_year_0 ?_
  refine ow_callV (b := 0) (cq := 11) (As := []) (rest := []) (d2 := d) d_Fs_year_1 l_Fs_208 v_Fs_lacksShire (show 0 < 85 by decide) rfl (by decide) rfl (Nat.le_of_ble_eq_true rfl) (Nat.le_refl _) ⟨Nat.le_refl _, Nat.le_refl _⟩ (ow_mono T ?_)
  rintro r h' ⟨r7, I7, J7, R7, rfl, rfl, hR7, T⟩
  show ow_AW ow_Y0 (ow_Z Q) M_Fs_year (d + 1) 0 0 4 [(0, .ref 0)] [.int r7] (85, I7, J7, R7) 0 0
  refine ow_if_eq (tgt := 9) d_Fs_year_4 (by decide) (fun c => ?_) (fun c => ?_)
  · replace T := T.1 c
    refine ow_aload_n 0 rfl d_Fs_year_9 ?_
    refine ow_gR (a := 29) 155 d_Fs_year_10 rfl rfl (by decide) rfl ⟨rfl, hR7 0 4 (by decide)⟩ ?_
    refine ow_gI 8 d_Fs_year_13 rfl rfl (by decide) rfl (Or.inl rfl) ?_
    refine ow_sipush (v := 999) (by decide) d_Fs_year_16 ?_
    refine ow_icmp_lt (tgt := 28) d_Fs_year_19 (by decide) (fun c => ?_) (fun c => ?_)
    · replace T := T.1 c
      refine ow_aload_n 0 rfl d_Fs_year_28 ?_
      refine ow_gR (a := 66) 163 d_Fs_year_29 rfl rfl (by decide) rfl ⟨rfl, hR7 0 12 (by decide)⟩ ?_
      refine ow_aload_n 0 rfl d_Fs_year_32 ?_
      refine ow_gR (a := 29) 155 d_Fs_year_33 rfl rfl (by decide) rfl ⟨rfl, hR7 0 4 (by decide)⟩ ?_
      refine ow_callV (b := 66) (cq := 6) (As := [.ref 29]) (rest := []) (d2 := d) d_Fs_year_36 l_Fs_347 v_Snaps_push (show 66 < 85 by decide) rfl (by decide) rfl (Nat.le_of_ble_eq_true rfl) (Nat.le_refl _) ⟨Nat.le_refl _, Nat.le_refl _⟩ (ow_mono T ?_)
      rintro r h' ⟨I8, J8, R8, rfl, rfl, hR8, T⟩
      show ow_AW ow_Y0 (ow_Z Q) M_Fs_year (d + 1) 0 0 39 [(0, .ref 0)] [] (85, I8, J8, R8) 0 0
      refine ow_aload_n 0 rfl d_Fs_year_39 ?_
      refine ow_gR (a := 29) 155 d_Fs_year_40 rfl rfl (by decide) rfl ⟨rfl, hR8 0 4 (by decide)⟩ ?_
      refine ow_callV (b := 29) (cq := 4) (As := []) (rest := []) (d2 := d) d_Fs_year_43 l_Fs_350 v_Scene_bitsSound (show 29 < 85 by decide) rfl (by decide) rfl (Nat.le_of_ble_eq_true rfl) (Nat.le_refl _) ⟨Nat.le_refl _, Nat.le_refl _⟩ (ow_mono T ?_)
      rintro r h' ⟨r9, I9, J9, R9, rfl, rfl, hR9, T⟩
      show ow_AW ow_Y0 (ow_Z Q) M_Fs_year (d + 1) 0 0 46 [(0, .ref 0)] [.int r9] (85, I9, J9, R9) 0 0
      refine ow_istore_n (ls2 := [(1, .int r9), (0, .ref 0)]) d_Fs_year_46 (by decide) rfl ?_
      refine ow_aload_n 1 rfl d_Fs_year_47 ?_
      refine ow_gR (a := 29) 155 d_Fs_year_48 rfl rfl (by decide) rfl ⟨rfl, hR9 0 4 (by decide)⟩ ?_
      refine ow_aload_n 1 rfl d_Fs_year_51 ?_
      refine ow_gR (a := 2) 153 d_Fs_year_52 rfl rfl (by decide) rfl ⟨rfl, hR9 0 2 (by decide)⟩ ?_
      refine ow_gI 33 d_Fs_year_55 rfl rfl (by decide) rfl (Or.inl rfl) ?_
      refine ow_iconst (v := 1) (by decide) d_Fs_year_58 ?_
      refine ow_callV (b := 29) (cq := 4) (As := [.int (I9 2 1), .int 1]) (rest := []) (d2 := d) d_Fs_year_59 l_Fs_353 v_Scene_age (show 29 < 85 by decide) rfl (by decide) rfl (Nat.le_of_ble_eq_true rfl) (Nat.le_refl _) ⟨Nat.le_refl _, Nat.le_refl _⟩ (ow_mono T ?_)
      rintro r h' ⟨I10, J10, R10, rfl, rfl, hR10, T⟩
      show ow_AW ow_Y0 (ow_Z Q) M_Fs_year (d + 1) 0 0 62 [(1, .int r9), (0, .ref 0)] [] (85, I10, J10, R10) 0 0
      refine ow_iload_n 0 rfl d_Fs_year_62 ?_
      refine ow_aload_n 1 rfl d_Fs_year_63 ?_
      refine ow_gR (a := 29) 155 d_Fs_year_64 rfl rfl (by decide) rfl ⟨rfl, hR10 0 4 (by decide)⟩ ?_
      refine ow_callV (b := 29) (cq := 4) (As := []) (rest := [.int r9]) (d2 := d) d_Fs_year_67 l_Fs_350 v_Scene_bitsSound (show 29 < 85 by decide) rfl (by decide) rfl (Nat.le_of_ble_eq_true rfl) (Nat.le_refl _) ⟨Nat.le_refl _, Nat.le_refl _⟩ (ow_mono T ?_)
      rintro r h' ⟨r11, I11, J11, R11, rfl, rfl, hR11, T⟩
      show ow_AW ow_Y0 (ow_Z Q) M_Fs_year (d + 1) 0 0 70 [(1, .int r9), (0, .ref 0)] [.int r11, .int r9] (85, I11, J11, R11) 0 0
      refine ow_iconst (v := (-1)) (by decide) d_Fs_year_70 ?_
      refine ow_ixor d_Fs_year_71 ?_
      refine ow_iand d_Fs_year_72 ?_
      exact ow_iret d_Fs_year_73 rfl T
    · replace T := T.2 c
      refine ow_aload_n 0 rfl d_Fs_year_22 ?_
      refine ow_iconst (v := 3) (by decide) d_Fs_year_23 ?_
      refine ow_callV (b := 0) (cq := 11) (As := [.int 3]) (rest := []) (d2 := d) d_Fs_year_24 l_Fs_102 v_Fs_refused (show 0 < 85 by decide) rfl (by decide) rfl (Nat.le_of_ble_eq_true rfl) (Nat.le_refl _) ⟨Nat.le_refl _, Nat.le_refl _⟩ (ow_mono T ?_)
      rintro r h' ⟨r12, I12, J12, R12, rfl, rfl, hR12, T⟩
      show ow_AW ow_Y0 (ow_Z Q) M_Fs_year (d + 1) 0 0 27 [(0, .ref 0)] [.int r12] (85, I12, J12, R12) 0 0
      exact ow_iret d_Fs_year_27 rfl T
  · replace T := T.2 c
    refine ow_iconst (v := (-1)) (by decide) d_Fs_year_7 ?_
    exact ow_iret d_Fs_year_8 rfl T
set_option maxRecDepth 4000 in
theorem t_Fs_mend {d : Nat} {I : Nat → Nat → Int32} {J : Nat → Nat → Int64} {R : Nat → Nat → Option Nat} {Q : Option Value → ow_H → Prop} {p1 : Int32}  (hR : ow_RF R) (T : (ow_AM M_Fs_lacksFolly d [.ref 0, .int p1] (85, I, J, R) (fun r h' => ∃ (r5 : Int32) (I5 : Nat → Nat → Int32) (J5 : Nat → Nat → Int64) (R5 : Nat → Nat → Option Nat), r = some (.int r5) ∧ h' = (85, I5, J5, R5) ∧ ow_RF R5 ∧ ((r5 = 0 → (vp_in p1 6 ∧ (vp_in p1 6 ∧ ((¬ (I5 31 p1.toNatClampNeg) = (I5 5 p1.toNatClampNeg) → (ow_AM M_Snaps_push d [.ref 66, .ref 29] (85, I5, J5, R5) (fun r h' => ∃ (I6 : Nat → Nat → Int32) (J6 : Nat → Nat → Int64) (R6 : Nat → Nat → Option Nat), r = none ∧ h' = (85, I6, J6, R6) ∧ ow_RF R6 ∧ (vp_in p1 6 ∧ (∀ (I7 : Nat → Nat → Int32), I7 = ow_u I6 31 (p1.toNatClampNeg) (I5 5 p1.toNatClampNeg) → Q (some (.int (I5 5 p1.toNatClampNeg))) (85, I7, J6, R6)))))) ∧ ((I5 31 p1.toNatClampNeg) = (I5 5 p1.toNatClampNeg) → (ow_AM M_Fs_refused d [.ref 0, .int 5] (85, I5, J5, R5) (fun r h' => ∃ (r8 : Int32) (I8 : Nat → Nat → Int32) (J8 : Nat → Nat → Int64) (R8 : Nat → Nat → Option Nat), r = some (.int r8) ∧ h' = (85, I8, J8, R8) ∧ ow_RF R8 ∧ Q (some (.int r8)) (85, I8, J8, R8)))))))) ∧ (¬ r5 = 0 → Q (some (.int (-1))) (85, I5, J5, R5)))))) : ow_AM M_Fs_mend (d + 1) [.ref 0, .int p1] (85, I, J, R) Q := by
  refine ow_enter (by decide) (Nat.le_of_ble_eq_true rfl) ?_
  show ow_AW ow_Y0 (ow_Z Q) M_Fs_mend (d + 1) 0 0 0 [(0, .ref 0), (1, .int p1)] [] (85, I, J, R) 0 0
  refine ow_aload_n 0 rfl d_Fs_mend_0 ?_
  refine ow_iload_n 1 rfl d_Fs_mend_1 ?_
  refine ow_callV (b := 0) (cq := 11) (As := [.int p1]) (rest := []) (d2 := d) d_Fs_mend_2 l_Fs_146 v_Fs_lacksFolly (show 0 < 85 by decide) rfl (by decide) rfl (Nat.le_of_ble_eq_true rfl) (Nat.le_refl _) ⟨Nat.le_refl _, Nat.le_refl _⟩ (ow_mono T ?_)
  rintro r h' ⟨r5, I5, J5, R5, rfl, rfl, hR5, T⟩
  show ow_AW ow_Y0 (ow_Z Q) M_Fs_mend (d + 1) 0 0 5 [(0, .ref 0), (1, .int p1)] [.int r5] (85, I5, J5, R5) 0 0
  refine ow_if_eq (tgt := 10) d_Fs_mend_5 (by decide) (fun c => ?_) (fun c => ?_)
  · replace T := T.1 c
    refine ow_aload_n 0 rfl d_Fs_mend_10 ?_
    refine ow_gR (a := 2) 153 d_Fs_mend_11 rfl rfl (by decide) rfl ⟨rfl, hR5 0 2 (by decide)⟩ ?_
    refine ow_gR (a := 3) 37 d_Fs_mend_14 rfl rfl (by decide) rfl ⟨rfl, hR5 2 2 (by decide)⟩ ?_
    refine ow_gR (a := 5) 19 d_Fs_mend_17 rfl rfl (by decide) rfl ⟨rfl, hR5 3 4 (by decide)⟩ ?_
    refine ow_iload_n 1 rfl d_Fs_mend_20 ?_
    obtain ⟨cI, T⟩ := T
    refine ow_hiaload d_Fs_mend_21 (by decide) rfl rfl cI ?_
    refine ow_istore_n (ls2 := [(2, .int (I5 5 p1.toNatClampNeg)), (0, .ref 0), (1, .int p1)]) d_Fs_mend_22 (by decide) rfl ?_
    refine ow_aload_n 1 rfl d_Fs_mend_23 ?_
    refine ow_gR (a := 29) 155 d_Fs_mend_24 rfl rfl (by decide) rfl ⟨rfl, hR5 0 4 (by decide)⟩ ?_
    refine ow_gR (a := 31) 19 d_Fs_mend_27 rfl rfl (by decide) rfl ⟨rfl, hR5 29 4 (by decide)⟩ ?_
    refine ow_iload_n 2 rfl d_Fs_mend_30 ?_
    obtain ⟨cI, T⟩ := T
    refine ow_hiaload d_Fs_mend_31 (by decide) rfl rfl cI ?_
    refine ow_iload_n 0 rfl d_Fs_mend_32 ?_
    refine ow_icmp_ne (tgt := 42) d_Fs_mend_33 (by decide) (fun c => ?_) (fun c => ?_)
    · replace T := T.1 c
      refine ow_aload_n 1 rfl d_Fs_mend_42 ?_
      refine ow_gR (a := 66) 163 d_Fs_mend_43 rfl rfl (by decide) rfl ⟨rfl, hR5 0 12 (by decide)⟩ ?_
      refine ow_aload_n 1 rfl d_Fs_mend_46 ?_
      refine ow_gR (a := 29) 155 d_Fs_mend_47 rfl rfl (by decide) rfl ⟨rfl, hR5 0 4 (by decide)⟩ ?_
      refine ow_callV (b := 66) (cq := 6) (As := [.ref 29]) (rest := []) (d2 := d) d_Fs_mend_50 l_Fs_347 v_Snaps_push (show 66 < 85 by decide) rfl (by decide) rfl (Nat.le_of_ble_eq_true rfl) (Nat.le_refl _) ⟨Nat.le_refl _, Nat.le_refl _⟩ (ow_mono T ?_)
      rintro r h' ⟨I6, J6, R6, rfl, rfl, hR6, T⟩
      show ow_AW ow_Y0 (ow_Z Q) M_Fs_mend (d + 1) 0 0 53 [(2, .int (I5 5 p1.toNatClampNeg)), (0, .ref 0), (1, .int p1)] [] (85, I6, J6, R6) 0 0
      refine ow_aload_n 1 rfl d_Fs_mend_53 ?_
      refine ow_gR (a := 29) 155 d_Fs_mend_54 rfl rfl (by decide) rfl ⟨rfl, hR6 0 4 (by decide)⟩ ?_
      refine ow_gR (a := 31) 19 d_Fs_mend_57 rfl rfl (by decide) rfl ⟨rfl, hR6 29 4 (by decide)⟩ ?_
      refine ow_iload_n 2 rfl d_Fs_mend_60 ?_
      refine ow_iload_n 0 rfl d_Fs_mend_61 ?_
      obtain ⟨cI, T⟩ := T
      refine ow_hiastore d_Fs_mend_62 (by decide) rfl rfl cI ?_
      obtain ⟨I7, eI7⟩ : ∃ uu, uu = ow_u I6 31 (p1.toNatClampNeg) (I5 5 p1.toNatClampNeg) := ⟨_, rfl⟩
      replace T := T I7 eI7
      rw [← eI7]
      refine ow_iload_n 0 rfl d_Fs_mend_63 ?_
      exact ow_iret d_Fs_mend_64 rfl T
    · replace T := T.2 c
      refine ow_aload_n 1 rfl d_Fs_mend_36 ?_
      refine ow_iconst (v := 5) (by decide) d_Fs_mend_37 ?_
      refine ow_callV (b := 0) (cq := 11) (As := [.int 5]) (rest := []) (d2 := d) d_Fs_mend_38 l_Fs_102 v_Fs_refused (show 0 < 85 by decide) rfl (by decide) rfl (Nat.le_of_ble_eq_true rfl) (Nat.le_refl _) ⟨Nat.le_refl _, Nat.le_refl _⟩ (ow_mono T ?_)
      rintro r h' ⟨r8, I8, J8, R8, rfl, rfl, hR8, T⟩
      show ow_AW ow_Y0 (ow_Z Q) M_Fs_mend (d + 1) 0 0 41 [(2, .int (I5 5 p1.toNatClampNeg)), (0, .ref 0), (1, .int p1)] [.int r8] (85, I8, J8, R8) 0 0
      exact ow_iret d_Fs_mend_41 rfl T
  · replace T := T.2 c
    refine ow_iconst (v := (-1)) (by decide) d_Fs_mend_8 ?_
    exact ow_iret d_Fs_mend_9 rfl T
set_option maxRecDepth 4000 in
theorem t_Fs_hire {d : Nat} {I : Nat → Nat → Int32} {J : Nat → Nat → Int64} {R : Nat → Nat → Option Nat} {Q : Option Value → ow_H → Prop} {p1 : Int32}  (hR : ow_RF R) (T : (ow_AM M_Fs_lacksFolly d [.ref 0, .int p1] (85, I, J, R) (fun r h' => ∃ (r4 : Int32) (I4 : Nat → Nat → Int32) (J4 : Nat → Nat → Int64) (R4 : Nat → Nat → Option Nat), r = some (.int r4) ∧ h' = (85, I4, J4, R4) ∧ ow_RF R4 ∧ ((r4 = 0 → (ow_AM M_Snaps_push d [.ref 66, .ref 29] (85, I4, J4, R4) (fun r h' => ∃ (I5 : Nat → Nat → Int32) (J5 : Nat → Nat → Int64) (R5 : Nat → Nat → Option Nat), r = none ∧ h' = (85, I5, J5, R5) ∧ ow_RF R5 ∧ (∀ (I6 : Nat → Nat → Int32), I6 = ow_u I5 29 2 ((I5 29 2) ^^^ ((1 : Int32) <<< (p1 &&& 31))) → Q (some (.int (((I6 29 2) >>> (p1 &&& 31)) &&& 1))) (85, I6, J5, R5))))) ∧ (¬ r4 = 0 → Q (some (.int (-1))) (85, I4, J4, R4)))))) : ow_AM M_Fs_hire (d + 1) [.ref 0, .int p1] (85, I, J, R) Q := by
  refine ow_enter (by decide) (Nat.le_of_ble_eq_true rfl) ?_
  show ow_AW ow_Y0 (ow_Z Q) M_Fs_hire (d + 1) 0 0 0 [(0, .ref 0), (1, .int p1)] [] (85, I, J, R) 0 0
  refine ow_aload_n 0 rfl d_Fs_hire_0 ?_
  refine ow_iload_n 1 rfl d_Fs_hire_1 ?_
  refine ow_callV (b := 0) (cq := 11) (As := [.int p1]) (rest := []) (d2 := d) d_Fs_hire_2 l_Fs_146 v_Fs_lacksFolly (show 0 < 85 by decide) rfl (by decide) rfl (Nat.le_of_ble_eq_true rfl) (Nat.le_refl _) ⟨Nat.le_refl _, Nat.le_refl _⟩ (ow_mono T ?_)
  rintro r h' ⟨r4, I4, J4, R4, rfl, rfl, hR4, T⟩
  show ow_AW ow_Y0 (ow_Z Q) M_Fs_hire (d + 1) 0 0 5 [(0, .ref 0), (1, .int p1)] [.int r4] (85, I4, J4, R4) 0 0
  refine ow_if_eq (tgt := 10) d_Fs_hire_5 (by decide) (fun c => ?_) (fun c => ?_)
  · replace T := T.1 c
    refine ow_aload_n 0 rfl d_Fs_hire_10 ?_
    refine ow_gR (a := 66) 163 d_Fs_hire_11 rfl rfl (by decide) rfl ⟨rfl, hR4 0 12 (by decide)⟩ ?_
    refine ow_aload_n 0 rfl d_Fs_hire_14 ?_
    refine ow_gR (a := 29) 155 d_Fs_hire_15 rfl rfl (by decide) rfl ⟨rfl, hR4 0 4 (by decide)⟩ ?_
    refine ow_callV (b := 66) (cq := 6) (As := [.ref 29]) (rest := []) (d2 := d) d_Fs_hire_18 l_Fs_347 v_Snaps_push (show 66 < 85 by decide) rfl (by decide) rfl (Nat.le_of_ble_eq_true rfl) (Nat.le_refl _) ⟨Nat.le_refl _, Nat.le_refl _⟩ (ow_mono T ?_)
    rintro r h' ⟨I5, J5, R5, rfl, rfl, hR5, T⟩
    show ow_AW ow_Y0 (ow_Z Q) M_Fs_hire (d + 1) 0 0 21 [(0, .ref 0), (1, .int p1)] [] (85, I5, J5, R5) 0 0
    refine ow_aload_n 0 rfl d_Fs_hire_21 ?_
    refine ow_gR (a := 29) 155 d_Fs_hire_22 rfl rfl (by decide) rfl ⟨rfl, hR5 0 4 (by decide)⟩ ?_
    refine ow_dup rfl d_Fs_hire_25 ?_
    refine ow_gI 11 d_Fs_hire_26 rfl rfl (by decide) rfl (Or.inl rfl) ?_
    refine ow_iconst (v := 1) (by decide) d_Fs_hire_29 ?_
    refine ow_iload_n 1 rfl d_Fs_hire_30 ?_
    refine ow_ishl d_Fs_hire_31 ?_
    refine ow_ixor d_Fs_hire_32 ?_
    refine ow_pI 11 d_Fs_hire_33 rfl rfl (by decide) rfl rfl rfl ?_
    obtain ⟨I6, eI6⟩ : ∃ uu, uu = ow_u I5 29 2 ((I5 29 2) ^^^ ((1 : Int32) <<< (p1 &&& 31))) := ⟨_, rfl⟩
    replace T := T I6 eI6
    rw [← eI6]
    refine ow_aload_n 0 rfl d_Fs_hire_36 ?_
    refine ow_gR (a := 29) 155 d_Fs_hire_37 rfl rfl (by decide) rfl ⟨rfl, hR5 0 4 (by decide)⟩ ?_
    refine ow_gI 11 d_Fs_hire_40 rfl rfl (by decide) rfl (Or.inl rfl) ?_
    refine ow_iload_n 1 rfl d_Fs_hire_43 ?_
    refine ow_ishr d_Fs_hire_44 ?_
    refine ow_iconst (v := 1) (by decide) d_Fs_hire_45 ?_
    refine ow_iand d_Fs_hire_46 ?_
    exact ow_iret d_Fs_hire_47 rfl T
  · replace T := T.2 c
    refine ow_iconst (v := (-1)) (by decide) d_Fs_hire_8 ?_
    exact ow_iret d_Fs_hire_9 rfl T
set_option maxRecDepth 4000 in
theorem t_Fs_send {d : Nat} {I : Nat → Nat → Int32} {J : Nat → Nat → Int64} {R : Nat → Nat → Option Nat} {Q : Option Value → ow_H → Prop} {p1 : Int32} {p2 : Int32}  (hR : ow_RF R) (T : (ow_AM M_Fs_lacksFolly d [.ref 0, .int p1] (85, I, J, R) (fun r h' => ∃ (r9 : Int32) (I9 : Nat → Nat → Int32) (J9 : Nat → Nat → Int64) (R9 : Nat → Nat → Option Nat), r = some (.int r9) ∧ h' = (85, I9, J9, R9) ∧ ow_RF R9 ∧ ((¬ r9 = 0 → Q (some (.int 0)) (85, I9, J9, R9)) ∧ (r9 = 0 → (ow_AM M_Fs_lacksFolly d [.ref 0, .int p2] (85, I9, J9, R9) (fun r h' => ∃ (r10 : Int32) (I10 : Nat → Nat → Int32) (J10 : Nat → Nat → Int64) (R10 : Nat → Nat → Option Nat), r = some (.int r10) ∧ h' = (85, I10, J10, R10) ∧ ow_RF R10 ∧ ((r10 = 0 → ((¬ p2 = p1 → (vp_in p1 6 ∧ ((¬ (I10 32 p1.toNatClampNeg) = p2 → (ow_AM M_Snaps_push d [.ref 66, .ref 29] (85, I10, J10, R10) (fun r h' => ∃ (I11 : Nat → Nat → Int32) (J11 : Nat → Nat → Int64) (R11 : Nat → Nat → Option Nat), r = none ∧ h' = (85, I11, J11, R11) ∧ ow_RF R11 ∧ (vp_in p1 6 ∧ (∀ (I12 : Nat → Nat → Int32), I12 = ow_u I11 32 (p1.toNatClampNeg) p2 → Q (some (.int 1)) (85, I12, J11, R11)))))) ∧ ((I10 32 p1.toNatClampNeg) = p2 → (∀ (I13 : Nat → Nat → Int32), I13 = ow_u I10 0 15 5 → Q (some (.int 0)) (85, I13, J10, R10)))))) ∧ (p2 = p1 → (vp_in p1 6 ∧ ((¬ (I10 32 p1.toNatClampNeg) = (-2) → (ow_AM M_Snaps_push d [.ref 66, .ref 29] (85, I10, J10, R10) (fun r h' => ∃ (I14 : Nat → Nat → Int32) (J14 : Nat → Nat → Int64) (R14 : Nat → Nat → Option Nat), r = none ∧ h' = (85, I14, J14, R14) ∧ ow_RF R14 ∧ (vp_in p1 6 ∧ (∀ (I15 : Nat → Nat → Int32), I15 = ow_u I14 32 (p1.toNatClampNeg) (-2) → Q (some (.int 1)) (85, I15, J14, R14)))))) ∧ ((I10 32 p1.toNatClampNeg) = (-2) → (∀ (I16 : Nat → Nat → Int32), I16 = ow_u I10 0 15 5 → Q (some (.int 0)) (85, I16, J10, R10)))))))) ∧ (¬ r10 = 0 → Q (some (.int 0)) (85, I10, J10, R10)))))))))) : ow_AM M_Fs_send (d + 1) [.ref 0, .int p1, .int p2] (85, I, J, R) Q := by
  refine ow_enter (by decide) (Nat.le_of_ble_eq_true rfl) ?_
  show ow_AW ow_Y0 (ow_Z Q) M_Fs_send (d + 1) 0 0 0 [(0, .ref 0), (1, .int p1), (2, .int p2)] [] (85, I, J, R) 0 0
  refine ow_aload_n 0 rfl d_Fs_send_0 ?_
  refine ow_iload_n 1 rfl d_Fs_send_1 ?_
  refine ow_callV (b := 0) (cq := 11) (As := [.int p1]) (rest := []) (d2 := d) d_Fs_send_2 l_Fs_146 v_Fs_lacksFolly (show 0 < 85 by decide) rfl (by decide) rfl (Nat.le_of_ble_eq_true rfl) (Nat.le_refl _) ⟨Nat.le_refl _, Nat.le_refl _⟩ (ow_mono T ?_)
  rintro r h' ⟨r9, I9, J9, R9, rfl, rfl, hR9, T⟩
  show ow_AW ow_Y0 (ow_Z Q) M_Fs_send (d + 1) 0 0 5 [(0, .ref 0), (1, .int p1), (2, .int p2)] [.int r9] (85, I9, J9, R9) 0 0
  refine ow_if_ne (tgt := 16) d_Fs_send_5 (by decide) (fun c => ?_) (fun c => ?_)
  · replace T := T.1 c
    refine ow_iconst (v := 0) (by decide) d_Fs_send_16 ?_
    exact ow_zret d_Fs_send_17 rfl (by decide) T
  · replace T := T.2 c
    refine ow_aload_n 0 rfl d_Fs_send_8 ?_
    refine ow_iload_n 2 rfl d_Fs_send_9 ?_
    refine ow_callV (b := 0) (cq := 11) (As := [.int p2]) (rest := []) (d2 := d) d_Fs_send_10 l_Fs_146 v_Fs_lacksFolly (show 0 < 85 by decide) rfl (by decide) rfl (Nat.le_of_ble_eq_true rfl) (Nat.le_refl _) ⟨Nat.le_refl _, Nat.le_refl _⟩ (ow_mono T ?_)
    rintro r h' ⟨r10, I10, J10, R10, rfl, rfl, hR10, T⟩
    show ow_AW ow_Y0 (ow_Z Q) M_Fs_send (d + 1) 0 0 13 [(0, .ref 0), (1, .int p1), (2, .int p2)] [.int r10] (85, I10, J10, R10) 0 0
    refine ow_if_eq (tgt := 18) d_Fs_send_13 (by decide) (fun c => ?_) (fun c => ?_)
    · replace T := T.1 c
      refine ow_iload_n 2 rfl d_Fs_send_18 ?_
      refine ow_iload_n 1 rfl d_Fs_send_19 ?_
      refine ow_icmp_ne (tgt := 28) d_Fs_send_20 (by decide) (fun c => ?_) (fun c => ?_)
      · replace T := T.1 c
        refine ow_iload_n 2 rfl d_Fs_send_28 ?_
        refine ow_istore_n (ls2 := [(3, .int p2), (0, .ref 0), (1, .int p1), (2, .int p2)]) d_Fs_send_29 (by decide) rfl ?_
        refine ow_aload_n 1 rfl d_Fs_send_30 ?_
        refine ow_gR (a := 29) 155 d_Fs_send_31 rfl rfl (by decide) rfl ⟨rfl, hR10 0 4 (by decide)⟩ ?_
        refine ow_gR (a := 32) 24 d_Fs_send_34 rfl rfl (by decide) rfl ⟨rfl, hR10 29 5 (by decide)⟩ ?_
        refine ow_iload_n 2 rfl d_Fs_send_37 ?_
        obtain ⟨cI, T⟩ := T
        refine ow_hiaload d_Fs_send_38 (by decide) rfl rfl cI ?_
        refine ow_iload_n 0 rfl d_Fs_send_39 ?_
        refine ow_icmp_ne (tgt := 50) d_Fs_send_40 (by decide) (fun c => ?_) (fun c => ?_)
        · replace T := T.1 c
          refine ow_aload_n 1 rfl d_Fs_send_50 ?_
          refine ow_gR (a := 66) 163 d_Fs_send_51 rfl rfl (by decide) rfl ⟨rfl, hR10 0 12 (by decide)⟩ ?_
          refine ow_aload_n 1 rfl d_Fs_send_54 ?_
          refine ow_gR (a := 29) 155 d_Fs_send_55 rfl rfl (by decide) rfl ⟨rfl, hR10 0 4 (by decide)⟩ ?_
          refine ow_callV (b := 66) (cq := 6) (As := [.ref 29]) (rest := []) (d2 := d) d_Fs_send_58 l_Fs_347 v_Snaps_push (show 66 < 85 by decide) rfl (by decide) rfl (Nat.le_of_ble_eq_true rfl) (Nat.le_refl _) ⟨Nat.le_refl _, Nat.le_refl _⟩ (ow_mono T ?_)
          rintro r h' ⟨I11, J11, R11, rfl, rfl, hR11, T⟩
          show ow_AW ow_Y0 (ow_Z Q) M_Fs_send (d + 1) 0 0 61 [(3, .int p2), (0, .ref 0), (1, .int p1), (2, .int p2)] [] (85, I11, J11, R11) 0 0
          refine ow_aload_n 1 rfl d_Fs_send_61 ?_
          refine ow_gR (a := 29) 155 d_Fs_send_62 rfl rfl (by decide) rfl ⟨rfl, hR11 0 4 (by decide)⟩ ?_
          refine ow_gR (a := 32) 24 d_Fs_send_65 rfl rfl (by decide) rfl ⟨rfl, hR11 29 5 (by decide)⟩ ?_
          refine ow_iload_n 2 rfl d_Fs_send_68 ?_
          refine ow_iload_n 0 rfl d_Fs_send_69 ?_
          obtain ⟨cI, T⟩ := T
          refine ow_hiastore d_Fs_send_70 (by decide) rfl rfl cI ?_
          obtain ⟨I12, eI12⟩ : ∃ uu, uu = ow_u I11 32 (p1.toNatClampNeg) p2 := ⟨_, rfl⟩
          replace T := T I12 eI12
          rw [← eI12]
          refine ow_iconst (v := 1) (by decide) d_Fs_send_71 ?_
          exact ow_zret d_Fs_send_72 rfl (by decide) T
        · replace T := T.2 c
          refine ow_aload_n 1 rfl d_Fs_send_43 ?_
          refine ow_iconst (v := 5) (by decide) d_Fs_send_44 ?_
          refine ow_pI 166 d_Fs_send_45 rfl rfl (by decide) rfl rfl rfl ?_
          obtain ⟨I13, eI13⟩ : ∃ uu, uu = ow_u I10 0 15 5 := ⟨_, rfl⟩
          replace T := T I13 eI13
          rw [← eI13]
          refine ow_iconst (v := 0) (by decide) d_Fs_send_48 ?_
          exact ow_zret d_Fs_send_49 rfl (by decide) T
      · replace T := T.2 c
        refine ow_bipush (v := (-2)) (by decide) d_Fs_send_23 ?_
        refine ow_goto (tgt := 29) d_Fs_send_25 (by decide) ?_
        refine ow_istore_n (ls2 := [(3, .int (-2)), (0, .ref 0), (1, .int p1), (2, .int p2)]) d_Fs_send_29 (by decide) rfl ?_
        refine ow_aload_n 1 rfl d_Fs_send_30 ?_
        refine ow_gR (a := 29) 155 d_Fs_send_31 rfl rfl (by decide) rfl ⟨rfl, hR10 0 4 (by decide)⟩ ?_
        refine ow_gR (a := 32) 24 d_Fs_send_34 rfl rfl (by decide) rfl ⟨rfl, hR10 29 5 (by decide)⟩ ?_
        refine ow_iload_n 2 rfl d_Fs_send_37 ?_
        obtain ⟨cI, T⟩ := T
        refine ow_hiaload d_Fs_send_38 (by decide) rfl rfl cI ?_
        refine ow_iload_n 0 rfl d_Fs_send_39 ?_
        refine ow_icmp_ne (tgt := 50) d_Fs_send_40 (by decide) (fun c => ?_) (fun c => ?_)
        · replace T := T.1 c
          refine ow_aload_n 1 rfl d_Fs_send_50 ?_
          refine ow_gR (a := 66) 163 d_Fs_send_51 rfl rfl (by decide) rfl ⟨rfl, hR10 0 12 (by decide)⟩ ?_
          refine ow_aload_n 1 rfl d_Fs_send_54 ?_
          refine ow_gR (a := 29) 155 d_Fs_send_55 rfl rfl (by decide) rfl ⟨rfl, hR10 0 4 (by decide)⟩ ?_
          refine ow_callV (b := 66) (cq := 6) (As := [.ref 29]) (rest := []) (d2 := d) d_Fs_send_58 l_Fs_347 v_Snaps_push (show 66 < 85 by decide) rfl (by decide) rfl (Nat.le_of_ble_eq_true rfl) (Nat.le_refl _) ⟨Nat.le_refl _, Nat.le_refl _⟩ (ow_mono T ?_)
          rintro r h' ⟨I14, J14, R14, rfl, rfl, hR14, T⟩
          show ow_AW ow_Y0 (ow_Z Q) M_Fs_send (d + 1) 0 0 61 [(3, .int (-2)), (0, .ref 0), (1, .int p1), (2, .int p2)] [] (85, I14, J14, R14) 0 0
          refine ow_aload_n 1 rfl d_Fs_send_61 ?_
          refine ow_gR (a := 29) 155 d_Fs_send_62 rfl rfl (by decide) rfl ⟨rfl, hR14 0 4 (by decide)⟩ ?_
          refine ow_gR (a := 32) 24 d_Fs_send_65 rfl rfl (by decide) rfl ⟨rfl, hR14 29 5 (by decide)⟩ ?_
          refine ow_iload_n 2 rfl d_Fs_send_68 ?_
          refine ow_iload_n 0 rfl d_Fs_send_69 ?_
          obtain ⟨cI, T⟩ := T
          refine ow_hiastore d_Fs_send_70 (by decide) rfl rfl cI ?_
          obtain ⟨I15, eI15⟩ : ∃ uu, uu = ow_u I14 32 (p1.toNatClampNeg) (-2) := ⟨_, rfl⟩
          replace T := T I15 eI15
          rw [← eI15]
          refine ow_iconst (v := 1) (by decide) d_Fs_send_71 ?_
          exact ow_zret d_Fs_send_72 rfl (by decide) T
        · replace T := T.2 c
          refine ow_aload_n 1 rfl d_Fs_send_43 ?_
          refine ow_iconst (v := 5) (by decide) d_Fs_send_44 ?_
          refine ow_pI 166 d_Fs_send_45 rfl rfl (by decide) rfl rfl rfl ?_
          obtain ⟨I16, eI16⟩ : ∃ uu, uu = ow_u I10 0 15 5 := ⟨_, rfl⟩
          replace T := T I16 eI16
          rw [← eI16]
          refine ow_iconst (v := 0) (by decide) d_Fs_send_48 ?_
          exact ow_zret d_Fs_send_49 rfl (by decide) T
    · replace T := T.2 c
      refine ow_iconst (v := 0) (by decide) d_Fs_send_16 ?_
      exact ow_zret d_Fs_send_17 rfl (by decide) T
set_option maxRecDepth 4000 in
theorem t_Fs_undo {d : Nat} {I : Nat → Nat → Int32} {J : Nat → Nat → Int64} {R : Nat → Nat → Option Nat} {Q : Option Value → ow_H → Prop}   (hR : ow_RF R) (T : ((¬ (I 66 2) = 0 → (∀ (I4 : Nat → Nat → Int32), I4 = ow_u I 0 15 0 → (ow_AM M_Snaps_pop d [.ref 66, .ref 29] (85, I4, J, R) (fun r h' => ∃ (I5 : Nat → Nat → Int32) (J5 : Nat → Nat → Int64) (R5 : Nat → Nat → Option Nat), r = none ∧ h' = (85, I5, J5, R5) ∧ ow_RF R5 ∧ Q (some (.int 1)) (85, I5, J5, R5))))) ∧ ((I 66 2) = 0 → (∀ (I6 : Nat → Nat → Int32), I6 = ow_u I 0 15 6 → Q (some (.int 0)) (85, I6, J, R))))) : ow_AM M_Fs_undo (d + 1) [.ref 0] (85, I, J, R) Q := by
  refine ow_enter (by decide) (Nat.le_of_ble_eq_true rfl) ?_
  show ow_AW ow_Y0 (ow_Z Q) M_Fs_undo (d + 1) 0 0 0 [(0, .ref 0)] [] (85, I, J, R) 0 0
  refine ow_aload_n 0 rfl d_Fs_undo_0 ?_
  refine ow_gR (a := 66) 163 d_Fs_undo_1 rfl rfl (by decide) rfl ⟨rfl, hR 0 12 (by decide)⟩ ?_
  refine ow_gI 150 d_Fs_undo_4 rfl rfl (by decide) rfl (Or.inl rfl) ?_
  refine ow_if_ne (tgt := 18) d_Fs_undo_7 (by decide) (fun c => ?_) (fun c => ?_)
  · replace T := T.1 c
    refine ow_aload_n 0 rfl d_Fs_undo_18 ?_
    refine ow_iconst (v := 0) (by decide) d_Fs_undo_19 ?_
    refine ow_pI 166 d_Fs_undo_20 rfl rfl (by decide) rfl rfl rfl ?_
    obtain ⟨I4, eI4⟩ : ∃ uu, uu = ow_u I 0 15 0 := ⟨_, rfl⟩
    replace T := T I4 eI4
    rw [← eI4]
    refine ow_aload_n 0 rfl d_Fs_undo_23 ?_
    refine ow_gR (a := 66) 163 d_Fs_undo_24 rfl rfl (by decide) rfl ⟨rfl, hR 0 12 (by decide)⟩ ?_
    refine ow_aload_n 0 rfl d_Fs_undo_27 ?_
    refine ow_gR (a := 29) 155 d_Fs_undo_28 rfl rfl (by decide) rfl ⟨rfl, hR 0 4 (by decide)⟩ ?_
    refine ow_callV (b := 66) (cq := 6) (As := [.ref 29]) (rest := []) (d2 := d) d_Fs_undo_31 l_Fs_359 v_Snaps_pop (show 66 < 85 by decide) rfl (by decide) rfl (Nat.le_of_ble_eq_true rfl) (Nat.le_refl _) ⟨Nat.le_refl _, Nat.le_refl _⟩ (ow_mono T ?_)
    rintro r h' ⟨I5, J5, R5, rfl, rfl, hR5, T⟩
    show ow_AW ow_Y0 (ow_Z Q) M_Fs_undo (d + 1) 0 0 34 [(0, .ref 0)] [] (85, I5, J5, R5) 0 0
    refine ow_iconst (v := 1) (by decide) d_Fs_undo_34 ?_
    exact ow_zret d_Fs_undo_35 rfl (by decide) T
  · replace T := T.2 c
    refine ow_aload_n 0 rfl d_Fs_undo_10 ?_
    refine ow_bipush (v := 6) (by decide) d_Fs_undo_11 ?_
    refine ow_pI 166 d_Fs_undo_13 rfl rfl (by decide) rfl rfl rfl ?_
    obtain ⟨I6, eI6⟩ : ∃ uu, uu = ow_u I 0 15 6 := ⟨_, rfl⟩
    replace T := T I6 eI6
    rw [← eI6]
    refine ow_iconst (v := 0) (by decide) d_Fs_undo_16 ?_
    exact ow_zret d_Fs_undo_17 rfl (by decide) T
set_option maxRecDepth 4000 in
theorem t_Fs_image {d : Nat} {I : Nat → Nat → Int32} {J : Nat → Nat → Int64} {R : Nat → Nat → Option Nat} {Q : Option Value → ow_H → Prop}   (hR : ow_RF R) (T : (ow_AM M_Fs_lacksShire d [.ref 0] (85, I, J, R) (fun r h' => ∃ (r4 : Int32) (I4 : Nat → Nat → Int32) (J4 : Nat → Nat → Int64) (R4 : Nat → Nat → Option Nat), r = some (.int r4) ∧ h' = (85, I4, J4, R4) ∧ ow_RF R4 ∧ ((r4 = 0 → ((¬ (I4 68 2) = 3 → (ow_AM M_Snaps_push d [.ref 68, .ref 29] (85, I4, J4, R4) (fun r h' => ∃ (I5 : Nat → Nat → Int32) (J5 : Nat → Nat → Int64) (R5 : Nat → Nat → Option Nat), r = none ∧ h' = (85, I5, J5, R5) ∧ ow_RF R5 ∧ Q (some (.int ((I5 68 2) - 1))) (85, I5, J5, R5)))) ∧ ((I4 68 2) = 3 → (ow_AM M_Fs_refused d [.ref 0, .int 3] (85, I4, J4, R4) (fun r h' => ∃ (r6 : Int32) (I6 : Nat → Nat → Int32) (J6 : Nat → Nat → Int64) (R6 : Nat → Nat → Option Nat), r = some (.int r6) ∧ h' = (85, I6, J6, R6) ∧ ow_RF R6 ∧ Q (some (.int r6)) (85, I6, J6, R6)))))) ∧ (¬ r4 = 0 → Q (some (.int (-1))) (85, I4, J4, R4)))))) : ow_AM M_Fs_image (d + 1) [.ref 0] (85, I, J, R) Q := by
  refine ow_enter (by decide) (Nat.le_of_ble_eq_true rfl) ?_
  show ow_AW ow_Y0 (ow_Z Q) M_Fs_image (d + 1) 0 0 0 [(0, .ref 0)] [] (85, I, J, R) 0 0
  refine ow_aload_n 0 rfl d_Fs_image_0 ?_
  refine ow_callV (b := 0) (cq := 11) (As := []) (rest := []) (d2 := d) d_Fs_image_1 l_Fs_208 v_Fs_lacksShire (show 0 < 85 by decide) rfl (by decide) rfl (Nat.le_of_ble_eq_true rfl) (Nat.le_refl _) ⟨Nat.le_refl _, Nat.le_refl _⟩ (ow_mono T ?_)
  rintro r h' ⟨r4, I4, J4, R4, rfl, rfl, hR4, T⟩
  show ow_AW ow_Y0 (ow_Z Q) M_Fs_image (d + 1) 0 0 4 [(0, .ref 0)] [.int r4] (85, I4, J4, R4) 0 0
  refine ow_if_eq (tgt := 9) d_Fs_image_4 (by decide) (fun c => ?_) (fun c => ?_)
  · replace T := T.1 c
    refine ow_aload_n 0 rfl d_Fs_image_9 ?_
    refine ow_gR (a := 68) 164 d_Fs_image_10 rfl rfl (by decide) rfl ⟨rfl, hR4 0 13 (by decide)⟩ ?_
    refine ow_gI 150 d_Fs_image_13 rfl rfl (by decide) rfl (Or.inl rfl) ?_
    refine ow_iconst (v := 3) (by decide) d_Fs_image_16 ?_
    refine ow_icmp_ne (tgt := 26) d_Fs_image_17 (by decide) (fun c => ?_) (fun c => ?_)
    · replace T := T.1 c
      refine ow_aload_n 0 rfl d_Fs_image_26 ?_
      refine ow_gR (a := 68) 164 d_Fs_image_27 rfl rfl (by decide) rfl ⟨rfl, hR4 0 13 (by decide)⟩ ?_
      refine ow_aload_n 0 rfl d_Fs_image_30 ?_
      refine ow_gR (a := 29) 155 d_Fs_image_31 rfl rfl (by decide) rfl ⟨rfl, hR4 0 4 (by decide)⟩ ?_
      refine ow_callV (b := 68) (cq := 6) (As := [.ref 29]) (rest := []) (d2 := d) d_Fs_image_34 l_Fs_347 v_Snaps_push (show 68 < 85 by decide) rfl (by decide) rfl (Nat.le_of_ble_eq_true rfl) (Nat.le_refl _) ⟨Nat.le_refl _, Nat.le_refl _⟩ (ow_mono T ?_)
      rintro r h' ⟨I5, J5, R5, rfl, rfl, hR5, T⟩
      show ow_AW ow_Y0 (ow_Z Q) M_Fs_image (d + 1) 0 0 37 [(0, .ref 0)] [] (85, I5, J5, R5) 0 0
      refine ow_aload_n 0 rfl d_Fs_image_37 ?_
      refine ow_gR (a := 68) 164 d_Fs_image_38 rfl rfl (by decide) rfl ⟨rfl, hR5 0 13 (by decide)⟩ ?_
      refine ow_gI 150 d_Fs_image_41 rfl rfl (by decide) rfl (Or.inl rfl) ?_
      refine ow_iconst (v := 1) (by decide) d_Fs_image_44 ?_
      refine ow_isub d_Fs_image_45 ?_
      exact ow_iret d_Fs_image_46 rfl T
    · replace T := T.2 c
      refine ow_aload_n 0 rfl d_Fs_image_20 ?_
      refine ow_iconst (v := 3) (by decide) d_Fs_image_21 ?_
      refine ow_callV (b := 0) (cq := 11) (As := [.int 3]) (rest := []) (d2 := d) d_Fs_image_22 l_Fs_102 v_Fs_refused (show 0 < 85 by decide) rfl (by decide) rfl (Nat.le_of_ble_eq_true rfl) (Nat.le_refl _) ⟨Nat.le_refl _, Nat.le_refl _⟩ (ow_mono T ?_)
      rintro r h' ⟨r6, I6, J6, R6, rfl, rfl, hR6, T⟩
      show ow_AW ow_Y0 (ow_Z Q) M_Fs_image (d + 1) 0 0 25 [(0, .ref 0)] [.int r6] (85, I6, J6, R6) 0 0
      exact ow_iret d_Fs_image_25 rfl T
  · replace T := T.2 c
    refine ow_iconst (v := (-1)) (by decide) d_Fs_image_7 ?_
    exact ow_iret d_Fs_image_8 rfl T
set_option maxRecDepth 4000 in
theorem t_Fs_back {d : Nat} {I : Nat → Nat → Int32} {J : Nat → Nat → Int64} {R : Nat → Nat → Option Nat} {Q : Option Value → ow_H → Prop} {p1 : Int32}  (hR : ow_RF R) (T : ((p1 < 0 → (∀ (I6 : Nat → Nat → Int32), I6 = ow_u I 0 15 1 → Q (some (.int 0)) (85, I6, J, R))) ∧ (¬ p1 < 0 → ((p1 < (I 68 2) → (∀ (I7 : Nat → Nat → Int32), I7 = ow_u I 0 15 0 → (ow_AM M_Snaps_show d [.ref 68, .int p1, .ref 29] (85, I7, J, R) (fun r h' => ∃ (I8 : Nat → Nat → Int32) (J8 : Nat → Nat → Int64) (R8 : Nat → Nat → Option Nat), r = none ∧ h' = (85, I8, J8, R8) ∧ ow_RF R8 ∧ (ow_AM M_Snaps_clear d [.ref 66] (85, I8, J8, R8) (fun r h' => ∃ (I9 : Nat → Nat → Int32) (J9 : Nat → Nat → Int64) (R9 : Nat → Nat → Option Nat), r = none ∧ h' = (85, I9, J9, R9) ∧ ow_RF R9 ∧ Q (some (.int 1)) (85, I9, J9, R9))))))) ∧ (¬ p1 < (I 68 2) → (∀ (I10 : Nat → Nat → Int32), I10 = ow_u I 0 15 1 → Q (some (.int 0)) (85, I10, J, R))))))) : ow_AM M_Fs_back (d + 1) [.ref 0, .int p1] (85, I, J, R) Q := by
  refine ow_enter (by decide) (Nat.le_of_ble_eq_true rfl) ?_
  show ow_AW ow_Y0 (ow_Z Q) M_Fs_back (d + 1) 0 0 0 [(0, .ref 0), (1, .int p1)] [] (85, I, J, R) 0 0
  refine ow_iload_n 1 rfl d_Fs_back_0 ?_
  refine ow_if_lt (tgt := 15) d_Fs_back_1 (by decide) (fun c => ?_) (fun c => ?_)
  · replace T := T.1 c
    refine ow_aload_n 0 rfl d_Fs_back_15 ?_
    refine ow_iconst (v := 1) (by decide) d_Fs_back_16 ?_
    refine ow_pI 166 d_Fs_back_17 rfl rfl (by decide) rfl rfl rfl ?_
    obtain ⟨I6, eI6⟩ : ∃ uu, uu = ow_u I 0 15 1 := ⟨_, rfl⟩
    replace T := T I6 eI6
    rw [← eI6]
    refine ow_iconst (v := 0) (by decide) d_Fs_back_20 ?_
    exact ow_zret d_Fs_back_21 rfl (by decide) T
  · replace T := T.2 c
    refine ow_iload_n 1 rfl d_Fs_back_4 ?_
    refine ow_aload_n 0 rfl d_Fs_back_5 ?_
    refine ow_gR (a := 68) 164 d_Fs_back_6 rfl rfl (by decide) rfl ⟨rfl, hR 0 13 (by decide)⟩ ?_
    refine ow_gI 150 d_Fs_back_9 rfl rfl (by decide) rfl (Or.inl rfl) ?_
    refine ow_icmp_lt (tgt := 22) d_Fs_back_12 (by decide) (fun c => ?_) (fun c => ?_)
    · replace T := T.1 c
      refine ow_aload_n 0 rfl d_Fs_back_22 ?_
      refine ow_iconst (v := 0) (by decide) d_Fs_back_23 ?_
      refine ow_pI 166 d_Fs_back_24 rfl rfl (by decide) rfl rfl rfl ?_
      obtain ⟨I7, eI7⟩ : ∃ uu, uu = ow_u I 0 15 0 := ⟨_, rfl⟩
      replace T := T I7 eI7
      rw [← eI7]
      refine ow_aload_n 0 rfl d_Fs_back_27 ?_
      refine ow_gR (a := 68) 164 d_Fs_back_28 rfl rfl (by decide) rfl ⟨rfl, hR 0 13 (by decide)⟩ ?_
      refine ow_iload_n 1 rfl d_Fs_back_31 ?_
      refine ow_aload_n 0 rfl d_Fs_back_32 ?_
      refine ow_gR (a := 29) 155 d_Fs_back_33 rfl rfl (by decide) rfl ⟨rfl, hR 0 4 (by decide)⟩ ?_
      refine ow_callV (b := 68) (cq := 6) (As := [.int p1, .ref 29]) (rest := []) (d2 := d) d_Fs_back_36 l_Fs_362 v_Snaps_show (show 68 < 85 by decide) rfl (by decide) rfl (Nat.le_of_ble_eq_true rfl) (Nat.le_refl _) ⟨Nat.le_refl _, Nat.le_refl _⟩ (ow_mono T ?_)
      rintro r h' ⟨I8, J8, R8, rfl, rfl, hR8, T⟩
      show ow_AW ow_Y0 (ow_Z Q) M_Fs_back (d + 1) 0 0 39 [(0, .ref 0), (1, .int p1)] [] (85, I8, J8, R8) 0 0
      refine ow_aload_n 0 rfl d_Fs_back_39 ?_
      refine ow_gR (a := 66) 163 d_Fs_back_40 rfl rfl (by decide) rfl ⟨rfl, hR8 0 12 (by decide)⟩ ?_
      refine ow_callV (b := 66) (cq := 6) (As := []) (rest := []) (d2 := d) d_Fs_back_43 l_Fs_133 v_Snaps_clear (show 66 < 85 by decide) rfl (by decide) rfl (Nat.le_of_ble_eq_true rfl) (Nat.le_refl _) ⟨Nat.le_refl _, Nat.le_refl _⟩ (ow_mono T ?_)
      rintro r h' ⟨I9, J9, R9, rfl, rfl, hR9, T⟩
      show ow_AW ow_Y0 (ow_Z Q) M_Fs_back (d + 1) 0 0 46 [(0, .ref 0), (1, .int p1)] [] (85, I9, J9, R9) 0 0
      refine ow_iconst (v := 1) (by decide) d_Fs_back_46 ?_
      exact ow_zret d_Fs_back_47 rfl (by decide) T
    · replace T := T.2 c
      refine ow_aload_n 0 rfl d_Fs_back_15 ?_
      refine ow_iconst (v := 1) (by decide) d_Fs_back_16 ?_
      refine ow_pI 166 d_Fs_back_17 rfl rfl (by decide) rfl rfl rfl ?_
      obtain ⟨I10, eI10⟩ : ∃ uu, uu = ow_u I 0 15 1 := ⟨_, rfl⟩
      replace T := T I10 eI10
      rw [← eI10]
      refine ow_iconst (v := 0) (by decide) d_Fs_back_20 ?_
      exact ow_zret d_Fs_back_21 rfl (by decide) T
set_option maxRecDepth 4000 in
theorem t_Fs_size {d : Nat} {I : Nat → Nat → Int32} {J : Nat → Nat → Int64} {R : Nat → Nat → Option Nat} {Q : Option Value → ow_H → Prop} {p1 : Int32}  (hR : ow_RF R) (T : ((p1 = 0 → Q (some (.int (I 2 0))) (85, I, J, R)) ∧ ((p1 = 1 → Q (some (.int (I 2 1))) (85, I, J, R)) ∧ ((p1 = 2 → Q (some (.int (I 29 0))) (85, I, J, R)) ∧ ((p1 = 3 → (ow_AM M_Scene_countSending d [.ref 29] (85, I, J, R) (fun r h' => ∃ (r3 : Int32) (I3 : Nat → Nat → Int32) (J3 : Nat → Nat → Int64) (R3 : Nat → Nat → Option Nat), r = some (.int r3) ∧ h' = (85, I3, J3, R3) ∧ ow_RF R3 ∧ Q (some (.int r3)) (85, I3, J3, R3)))) ∧ ((p1 = 4 → (ow_AM M_Integer_bitCount d [.int (I 29 2)] (85, I, J, R) (fun r h' => ∃ (r4 : Int32) (I4 : Nat → Nat → Int32) (J4 : Nat → Nat → Int64) (R4 : Nat → Nat → Option Nat), r = some (.int r4) ∧ h' = (85, I4, J4, R4) ∧ ow_RF R4 ∧ Q (some (.int r4)) (85, I4, J4, R4)))) ∧ ((p1 = 5 → Q (some (.int (I 2 3))) (85, I, J, R)) ∧ ((p1 = 6 → Q (some (.int (I 2 7))) (85, I, J, R)) ∧ ((p1 = 7 → Q (some (.int (I 2 9))) (85, I, J, R)) ∧ ((p1 = 8 → Q (some (.int (I 29 1))) (85, I, J, R)) ∧ ((p1 = 9 → Q (some (.int (I 66 2))) (85, I, J, R)) ∧ ((p1 = 10 → Q (some (.int (I 68 2))) (85, I, J, R)) ∧ ((p1 = 11 → Q (some (.int (I 0 1))) (85, I, J, R)) ∧ (¬ p1 = 0 ∧ ¬ p1 = 1 ∧ ¬ p1 = 2 ∧ ¬ p1 = 3 ∧ ¬ p1 = 4 ∧ ¬ p1 = 5 ∧ ¬ p1 = 6 ∧ ¬ p1 = 7 ∧ ¬ p1 = 8 ∧ ¬ p1 = 9 ∧ ¬ p1 = 10 ∧ ¬ p1 = 11 → Q (some (.int (-1))) (85, I, J, R))))))))))))))) : ow_AM M_Fs_size (d + 1) [.ref 0, .int p1] (85, I, J, R) Q := by
  refine ow_enter (by decide) (Nat.le_of_ble_eq_true rfl) ?_
  show ow_AW ow_Y0 (ow_Z Q) M_Fs_size (d + 1) 0 0 0 [(0, .ref 0), (1, .int p1)] [] (85, I, J, R) 0 0
  refine ow_iload_n 1 rfl d_Fs_size_0 ?_
  by_cases c0 : p1 = 0
  · replace T := T.1 c0
    refine ow_tabIn (off := 63) (tgt := 64) d_Fs_size_1 (by rw [c0]; decide) (by rw [c0]; decide) (by rw [c0]; rfl) (by decide) ?_
    refine ow_aload_n 0 rfl d_Fs_size_64 ?_
    refine ow_gR (a := 2) 153 d_Fs_size_65 rfl rfl (by decide) rfl ⟨rfl, hR 0 2 (by decide)⟩ ?_
    refine ow_gI 29 d_Fs_size_68 rfl rfl (by decide) rfl (Or.inl rfl) ?_
    exact ow_iret d_Fs_size_71 rfl T
  replace T := T.2
  by_cases c1 : p1 = 1
  · replace T := T.1 c1
    refine ow_tabIn (off := 71) (tgt := 72) d_Fs_size_1 (by rw [c1]; decide) (by rw [c1]; decide) (by rw [c1]; rfl) (by decide) ?_
    refine ow_aload_n 0 rfl d_Fs_size_72 ?_
    refine ow_gR (a := 2) 153 d_Fs_size_73 rfl rfl (by decide) rfl ⟨rfl, hR 0 2 (by decide)⟩ ?_
    refine ow_gI 33 d_Fs_size_76 rfl rfl (by decide) rfl (Or.inl rfl) ?_
    exact ow_iret d_Fs_size_79 rfl T
  replace T := T.2
  by_cases c2 : p1 = 2
  · replace T := T.1 c2
    refine ow_tabIn (off := 79) (tgt := 80) d_Fs_size_1 (by rw [c2]; decide) (by rw [c2]; decide) (by rw [c2]; rfl) (by decide) ?_
    refine ow_aload_n 0 rfl d_Fs_size_80 ?_
    refine ow_gR (a := 29) 155 d_Fs_size_81 rfl rfl (by decide) rfl ⟨rfl, hR 0 4 (by decide)⟩ ?_
    refine ow_gI 3 d_Fs_size_84 rfl rfl (by decide) rfl (Or.inl rfl) ?_
    exact ow_iret d_Fs_size_87 rfl T
  replace T := T.2
  by_cases c3 : p1 = 3
  · replace T := T.1 c3
    refine ow_tabIn (off := 87) (tgt := 88) d_Fs_size_1 (by rw [c3]; decide) (by rw [c3]; decide) (by rw [c3]; rfl) (by decide) ?_
    refine ow_aload_n 0 rfl d_Fs_size_88 ?_
    refine ow_gR (a := 29) 155 d_Fs_size_89 rfl rfl (by decide) rfl ⟨rfl, hR 0 4 (by decide)⟩ ?_
    refine ow_callV (b := 29) (cq := 4) (As := []) (rest := []) (d2 := d) d_Fs_size_92 l_Fs_375 v_Scene_countSending (show 29 < 85 by decide) rfl (by decide) rfl (Nat.le_of_ble_eq_true rfl) (Nat.le_refl _) ⟨Nat.le_refl _, Nat.le_refl _⟩ (ow_mono T ?_)
    rintro r h' ⟨r3, I3, J3, R3, rfl, rfl, hR3, T⟩
    show ow_AW ow_Y0 (ow_Z Q) M_Fs_size (d + 1) 0 0 95 [(0, .ref 0), (1, .int p1)] [.int r3] (85, I3, J3, R3) 0 0
    exact ow_iret d_Fs_size_95 rfl T
  replace T := T.2
  by_cases c4 : p1 = 4
  · replace T := T.1 c4
    refine ow_tabIn (off := 95) (tgt := 96) d_Fs_size_1 (by rw [c4]; decide) (by rw [c4]; decide) (by rw [c4]; rfl) (by decide) ?_
    refine ow_aload_n 0 rfl d_Fs_size_96 ?_
    refine ow_gR (a := 29) 155 d_Fs_size_97 rfl rfl (by decide) rfl ⟨rfl, hR 0 4 (by decide)⟩ ?_
    refine ow_gI 11 d_Fs_size_100 rfl rfl (by decide) rfl (Or.inl rfl) ?_
    refine ow_callS (As := [.int (I 29 2)]) (rest := []) (d2 := d) d_Fs_size_103 l_Fs_378 v_Integer_bitCount (Nat.le_of_ble_eq_true rfl) (Nat.le_refl _) ⟨Nat.le_refl _, Nat.le_refl _⟩ (ow_mono T ?_)
    rintro r h' ⟨r4, I4, J4, R4, rfl, rfl, hR4, T⟩
    show ow_AW ow_Y0 (ow_Z Q) M_Fs_size (d + 1) 0 0 106 [(0, .ref 0), (1, .int p1)] [.int r4] (85, I4, J4, R4) 0 0
    exact ow_iret d_Fs_size_106 rfl T
  replace T := T.2
  by_cases c5 : p1 = 5
  · replace T := T.1 c5
    refine ow_tabIn (off := 106) (tgt := 107) d_Fs_size_1 (by rw [c5]; decide) (by rw [c5]; decide) (by rw [c5]; rfl) (by decide) ?_
    refine ow_aload_n 0 rfl d_Fs_size_107 ?_
    refine ow_gR (a := 2) 153 d_Fs_size_108 rfl rfl (by decide) rfl ⟨rfl, hR 0 2 (by decide)⟩ ?_
    refine ow_gI 42 d_Fs_size_111 rfl rfl (by decide) rfl (Or.inl rfl) ?_
    exact ow_iret d_Fs_size_114 rfl T
  replace T := T.2
  by_cases c6 : p1 = 6
  · replace T := T.1 c6
    refine ow_tabIn (off := 114) (tgt := 115) d_Fs_size_1 (by rw [c6]; decide) (by rw [c6]; decide) (by rw [c6]; rfl) (by decide) ?_
    refine ow_aload_n 0 rfl d_Fs_size_115 ?_
    refine ow_gR (a := 2) 153 d_Fs_size_116 rfl rfl (by decide) rfl ⟨rfl, hR 0 2 (by decide)⟩ ?_
    refine ow_gI 54 d_Fs_size_119 rfl rfl (by decide) rfl (Or.inl rfl) ?_
    exact ow_iret d_Fs_size_122 rfl T
  replace T := T.2
  by_cases c7 : p1 = 7
  · replace T := T.1 c7
    refine ow_tabIn (off := 122) (tgt := 123) d_Fs_size_1 (by rw [c7]; decide) (by rw [c7]; decide) (by rw [c7]; rfl) (by decide) ?_
    refine ow_aload_n 0 rfl d_Fs_size_123 ?_
    refine ow_gR (a := 2) 153 d_Fs_size_124 rfl rfl (by decide) rfl ⟨rfl, hR 0 2 (by decide)⟩ ?_
    refine ow_gI 60 d_Fs_size_127 rfl rfl (by decide) rfl (Or.inl rfl) ?_
    exact ow_iret d_Fs_size_130 rfl T
  replace T := T.2
  by_cases c8 : p1 = 8
  · replace T := T.1 c8
    refine ow_tabIn (off := 130) (tgt := 131) d_Fs_size_1 (by rw [c8]; decide) (by rw [c8]; decide) (by rw [c8]; rfl) (by decide) ?_
    refine ow_aload_n 0 rfl d_Fs_size_131 ?_
    refine ow_gR (a := 29) 155 d_Fs_size_132 rfl rfl (by decide) rfl ⟨rfl, hR 0 4 (by decide)⟩ ?_
    refine ow_gI 8 d_Fs_size_135 rfl rfl (by decide) rfl (Or.inl rfl) ?_
    exact ow_iret d_Fs_size_138 rfl T
  replace T := T.2
  by_cases c9 : p1 = 9
  · replace T := T.1 c9
    refine ow_tabIn (off := 138) (tgt := 139) d_Fs_size_1 (by rw [c9]; decide) (by rw [c9]; decide) (by rw [c9]; rfl) (by decide) ?_
    refine ow_aload_n 0 rfl d_Fs_size_139 ?_
    refine ow_gR (a := 66) 163 d_Fs_size_140 rfl rfl (by decide) rfl ⟨rfl, hR 0 12 (by decide)⟩ ?_
    refine ow_gI 150 d_Fs_size_143 rfl rfl (by decide) rfl (Or.inl rfl) ?_
    exact ow_iret d_Fs_size_146 rfl T
  replace T := T.2
  by_cases c10 : p1 = 10
  · replace T := T.1 c10
    refine ow_tabIn (off := 146) (tgt := 147) d_Fs_size_1 (by rw [c10]; decide) (by rw [c10]; decide) (by rw [c10]; rfl) (by decide) ?_
    refine ow_aload_n 0 rfl d_Fs_size_147 ?_
    refine ow_gR (a := 68) 164 d_Fs_size_148 rfl rfl (by decide) rfl ⟨rfl, hR 0 13 (by decide)⟩ ?_
    refine ow_gI 150 d_Fs_size_151 rfl rfl (by decide) rfl (Or.inl rfl) ?_
    exact ow_iret d_Fs_size_154 rfl T
  replace T := T.2
  by_cases c11 : p1 = 11
  · replace T := T.1 c11
    refine ow_tabIn (off := 154) (tgt := 155) d_Fs_size_1 (by rw [c11]; decide) (by rw [c11]; decide) (by rw [c11]; rfl) (by decide) ?_
    refine ow_aload_n 0 rfl d_Fs_size_155 ?_
    refine ow_gI 152 d_Fs_size_156 rfl rfl (by decide) rfl (Or.inl rfl) ?_
    exact ow_iret d_Fs_size_159 rfl T
  replace T := T.2
  replace T := T ⟨c0, c1, c2, c3, c4, c5, c6, c7, c8, c9, c10, c11⟩
  replace c0 := ow_ne (z := 0) c0 rfl
  replace c1 := ow_ne (z := 1) c1 rfl
  replace c2 := ow_ne (z := 2) c2 rfl
  replace c3 := ow_ne (z := 3) c3 rfl
  replace c4 := ow_ne (z := 4) c4 rfl
  replace c5 := ow_ne (z := 5) c5 rfl
  replace c6 := ow_ne (z := 6) c6 rfl
  replace c7 := ow_ne (z := 7) c7 rfl
  replace c8 := ow_ne (z := 8) c8 rfl
  replace c9 := ow_ne (z := 9) c9 rfl
  replace c10 := ow_ne (z := 10) c10 rfl
  replace c11 := ow_ne (z := 11) c11 rfl
  refine ow_tabOut (tgt := 160) d_Fs_size_1 (by omega) (by decide) ?_
  refine ow_iconst (v := (-1)) (by decide) d_Fs_size_160 ?_
  exact ow_iret d_Fs_size_161 rfl T
set_option maxRecDepth 4000 in
theorem t_Fs_trouble {d : Nat} {I : Nat → Nat → Int32} {J : Nat → Nat → Int64} {R : Nat → Nat → Option Nat} {Q : Option Value → ow_H → Prop}   (hR : ow_RF R) (T : Q (some (.int (I 0 15))) (85, I, J, R)) : ow_AM M_Fs_trouble (d + 1) [.ref 0] (85, I, J, R) Q := by
  refine ow_enter (by decide) (Nat.le_of_ble_eq_true rfl) ?_
  show ow_AW ow_Y0 (ow_Z Q) M_Fs_trouble (d + 1) 0 0 0 [(0, .ref 0)] [] (85, I, J, R) 0 0
  refine ow_aload_n 0 rfl d_Fs_trouble_0 ?_
  refine ow_gI 166 d_Fs_trouble_1 rfl rfl (by decide) rfl (Or.inl rfl) ?_
  exact ow_iret d_Fs_trouble_4 rfl T
set_option maxRecDepth 4000 in
theorem t_Fs_tapeWord_3 {d : Nat} {I : Nat → Nat → Int32} {J : Nat → Nat → Int64} {R : Nat → Nat → Option Nat} {Q : Option Value → ow_H → Prop}  {v1 : Int32} {v2 : Int32}  (hR : ow_RF R) (T : ((v2 < 0 → Q none (85, I, J, R)) ∧ (¬ v2 < 0 → ((900 ≤ (I 0 1) → ow_AW ow_Y0 (ow_Z Q) M_Fs_tapeWord (d + 1) 0 0 3 [(0, .ref 0), (1, .int v1), (2, .int (v2 + (-8)))] [] (85, I, J, R) 0 0) ∧ (¬ 900 ≤ (I 0 1) → (vp_in (I 0 1) 900 ∧ (∀ (I1 : Nat → Nat → Int32), I1 = ow_u I 1 ((I 0 1).toNatClampNeg) (vp_nar .byte ((Int32.toInt8 (v1 >>> (v2 &&& 31))).toInt32)) → (∀ (I2 : Nat → Nat → Int32), I2 = ow_u I1 0 1 ((I1 0 1) + 1) → ow_AW ow_Y0 (ow_Z Q) M_Fs_tapeWord (d + 1) 0 0 3 [(0, .ref 0), (1, .int v1), (2, .int (v2 + (-8)))] [] (85, I2, J, R) 0 0)))))))) : ow_AW ow_Y0 (ow_Z Q) M_Fs_tapeWord (d + 1) 0 0 3 [(0, .ref 0), (1, .int v1), (2, .int v2)] [] (85, I, J, R) 0 0 := by
  refine ow_iload_n 2 rfl d_Fs_tapeWord_3 ?_
  refine ow_if_lt (tgt := 46) d_Fs_tapeWord_4 (by decide) (fun c => ?_) (fun c => ?_)
  · replace T := T.1 c
    exact ow_vret d_Fs_tapeWord_46 rfl T
  · replace T := T.2 c
    refine ow_aload_n 0 rfl d_Fs_tapeWord_7 ?_
    refine ow_gI 152 d_Fs_tapeWord_8 rfl rfl (by decide) rfl (Or.inl rfl) ?_
    refine ow_sipush (v := 900) (by decide) d_Fs_tapeWord_11 ?_
    refine ow_icmp_ge (tgt := 40) d_Fs_tapeWord_14 (by decide) (fun c => ?_) (fun c => ?_)
    · replace T := T.1 c
      refine ow_iinc 2 (v := (v2 + (-8))) (ls2 := [(2, .int (v2 + (-8))), (0, .ref 0), (1, .int v1)]) d_Fs_tapeWord_40 rfl rfl (by decide) rfl ?_
      refine ow_goto (tgt := 3) d_Fs_tapeWord_43 (by decide) ?_
      refine ow_sub [1, 2, 0] rfl ?_
      exact T
    · replace T := T.2 c
      refine ow_aload_n 0 rfl d_Fs_tapeWord_17 ?_
      refine ow_gR (a := 1) 151 d_Fs_tapeWord_18 rfl rfl (by decide) rfl ⟨rfl, hR 0 0 (by decide)⟩ ?_
      refine ow_aload_n 0 rfl d_Fs_tapeWord_21 ?_
      refine ow_gI 152 d_Fs_tapeWord_22 rfl rfl (by decide) rfl (Or.inl rfl) ?_
      refine ow_iload_n 1 rfl d_Fs_tapeWord_25 ?_
      refine ow_iload_n 2 rfl d_Fs_tapeWord_26 ?_
      refine ow_ishr d_Fs_tapeWord_27 ?_
      refine ow_i2b d_Fs_tapeWord_28 ?_
      obtain ⟨cI, T⟩ := T
      refine ow_hbastore d_Fs_tapeWord_29 (by decide) rfl rfl cI ?_
      obtain ⟨I1, eI1⟩ : ∃ uu, uu = ow_u I 1 ((I 0 1).toNatClampNeg) (vp_nar .byte ((Int32.toInt8 (v1 >>> (v2 &&& 31))).toInt32)) := ⟨_, rfl⟩
      replace T := T I1 eI1
      rw [← eI1]
      refine ow_aload_n 0 rfl d_Fs_tapeWord_30 ?_
      refine ow_dup rfl d_Fs_tapeWord_31 ?_
      refine ow_gI 152 d_Fs_tapeWord_32 rfl rfl (by decide) rfl (Or.inl rfl) ?_
      refine ow_iconst (v := 1) (by decide) d_Fs_tapeWord_35 ?_
      refine ow_iadd d_Fs_tapeWord_36 ?_
      refine ow_pI 152 d_Fs_tapeWord_37 rfl rfl (by decide) rfl rfl rfl ?_
      obtain ⟨I2, eI2⟩ : ∃ uu, uu = ow_u I1 0 1 ((I1 0 1) + 1) := ⟨_, rfl⟩
      replace T := T I2 eI2
      rw [← eI2]
      refine ow_iinc 2 (v := (v2 + (-8))) (ls2 := [(2, .int (v2 + (-8))), (0, .ref 0), (1, .int v1)]) d_Fs_tapeWord_40 rfl rfl (by decide) rfl ?_
      refine ow_goto (tgt := 3) d_Fs_tapeWord_43 (by decide) ?_
      refine ow_sub [1, 2, 0] rfl ?_
      exact T
set_option maxRecDepth 4000 in
theorem t_Fs_tapeWord {d : Nat} {I : Nat → Nat → Int32} {J : Nat → Nat → Int64} {R : Nat → Nat → Option Nat} {Q : Option Value → ow_H → Prop} {p1 : Int32}  (hR : ow_RF R) (T : ow_AW ow_Y0 (ow_Z Q) M_Fs_tapeWord (d + 1) 0 0 3 [(0, .ref 0), (1, .int p1), (2, .int 24)] [] (85, I, J, R) 0 0) : ow_AM M_Fs_tapeWord (d + 1) [.ref 0, .int p1] (85, I, J, R) Q := by
  refine ow_enter (by decide) (Nat.le_of_ble_eq_true rfl) ?_
  show ow_AW ow_Y0 (ow_Z Q) M_Fs_tapeWord (d + 1) 0 0 0 [(0, .ref 0), (1, .int p1)] [] (85, I, J, R) 0 0
  refine ow_bipush (v := 24) (by decide) d_Fs_tapeWord_0 ?_
  refine ow_istore_n (ls2 := [(2, .int 24), (0, .ref 0), (1, .int p1)]) d_Fs_tapeWord_2 (by decide) rfl ?_
  refine ow_sub [1, 2, 0] rfl ?_
  exact T
set_option maxRecDepth 4000 in
theorem t_Fs_refused {d : Nat} {I : Nat → Nat → Int32} {J : Nat → Nat → Int64} {R : Nat → Nat → Option Nat} {Q : Option Value → ow_H → Prop} {p1 : Int32}  (hR : ow_RF R) (T : (∀ (I2 : Nat → Nat → Int32), I2 = ow_u I 0 15 p1 → Q (some (.int (-1))) (85, I2, J, R))) : ow_AM M_Fs_refused (d + 1) [.ref 0, .int p1] (85, I, J, R) Q := by
  refine ow_enter (by decide) (Nat.le_of_ble_eq_true rfl) ?_
  show ow_AW ow_Y0 (ow_Z Q) M_Fs_refused (d + 1) 0 0 0 [(0, .ref 0), (1, .int p1)] [] (85, I, J, R) 0 0
  refine ow_aload_n 0 rfl d_Fs_refused_0 ?_
  refine ow_iload_n 1 rfl d_Fs_refused_1 ?_
  refine ow_pI 166 d_Fs_refused_2 rfl rfl (by decide) rfl rfl rfl ?_
  obtain ⟨I2, eI2⟩ : ∃ uu, uu = ow_u I 0 15 p1 := ⟨_, rfl⟩
  replace T := T I2 eI2
  rw [← eI2]
  refine ow_iconst (v := (-1)) (by decide) d_Fs_refused_5 ?_
  exact ow_iret d_Fs_refused_6 rfl T
set_option maxRecDepth 4000 in
theorem t_Fs_lacksShire {d : Nat} {I : Nat → Nat → Int32} {J : Nat → Nat → Int64} {R : Nat → Nat → Option Nat} {Q : Option Value → ow_H → Prop}   (hR : ow_RF R) (T : (((I 0 14) = 0 → (∀ (I3 : Nat → Nat → Int32), I3 = ow_u I 0 15 1 → ((¬ (I3 0 14) = 0 → Q (some (.int 0)) (85, I3, J, R)) ∧ ((I3 0 14) = 0 → Q (some (.int 1)) (85, I3, J, R))))) ∧ (¬ (I 0 14) = 0 → (∀ (I4 : Nat → Nat → Int32), I4 = ow_u I 0 15 0 → ((¬ (I4 0 14) = 0 → Q (some (.int 0)) (85, I4, J, R)) ∧ ((I4 0 14) = 0 → Q (some (.int 1)) (85, I4, J, R))))))) : ow_AM M_Fs_lacksShire (d + 1) [.ref 0] (85, I, J, R) Q := by
  refine ow_enter (by decide) (Nat.le_of_ble_eq_true rfl) ?_
  show ow_AW ow_Y0 (ow_Z Q) M_Fs_lacksShire (d + 1) 0 0 0 [(0, .ref 0)] [] (85, I, J, R) 0 0
  refine ow_aload_n 0 rfl d_Fs_lacksShire_0 ?_
  refine ow_aload_n 0 rfl d_Fs_lacksShire_1 ?_
  refine ow_gI 165 d_Fs_lacksShire_2 rfl rfl (by decide) rfl (Or.inr rfl) ?_
  refine ow_if_eq (tgt := 12) d_Fs_lacksShire_5 (by decide) (fun c => ?_) (fun c => ?_)
  · replace T := T.1 c
    refine ow_iconst (v := 1) (by decide) d_Fs_lacksShire_12 ?_
    refine ow_pI 166 d_Fs_lacksShire_13 rfl rfl (by decide) rfl rfl rfl ?_
    obtain ⟨I3, eI3⟩ : ∃ uu, uu = ow_u I 0 15 1 := ⟨_, rfl⟩
    replace T := T I3 eI3
    rw [← eI3]
    refine ow_aload_n 0 rfl d_Fs_lacksShire_16 ?_
    refine ow_gI 165 d_Fs_lacksShire_17 rfl rfl (by decide) rfl (Or.inr rfl) ?_
    refine ow_if_ne (tgt := 27) d_Fs_lacksShire_20 (by decide) (fun c => ?_) (fun c => ?_)
    · replace T := T.1 c
      refine ow_iconst (v := 0) (by decide) d_Fs_lacksShire_27 ?_
      exact ow_zret d_Fs_lacksShire_28 rfl (by decide) T
    · replace T := T.2 c
      refine ow_iconst (v := 1) (by decide) d_Fs_lacksShire_23 ?_
      refine ow_goto (tgt := 28) d_Fs_lacksShire_24 (by decide) ?_
      exact ow_zret d_Fs_lacksShire_28 rfl (by decide) T
  · replace T := T.2 c
    refine ow_iconst (v := 0) (by decide) d_Fs_lacksShire_8 ?_
    refine ow_goto (tgt := 13) d_Fs_lacksShire_9 (by decide) ?_
    refine ow_pI 166 d_Fs_lacksShire_13 rfl rfl (by decide) rfl rfl rfl ?_
    obtain ⟨I4, eI4⟩ : ∃ uu, uu = ow_u I 0 15 0 := ⟨_, rfl⟩
    replace T := T I4 eI4
    rw [← eI4]
    refine ow_aload_n 0 rfl d_Fs_lacksShire_16 ?_
    refine ow_gI 165 d_Fs_lacksShire_17 rfl rfl (by decide) rfl (Or.inr rfl) ?_
    refine ow_if_ne (tgt := 27) d_Fs_lacksShire_20 (by decide) (fun c => ?_) (fun c => ?_)
    · replace T := T.1 c
      refine ow_iconst (v := 0) (by decide) d_Fs_lacksShire_27 ?_
      exact ow_zret d_Fs_lacksShire_28 rfl (by decide) T
    · replace T := T.2 c
      refine ow_iconst (v := 1) (by decide) d_Fs_lacksShire_23 ?_
      refine ow_goto (tgt := 28) d_Fs_lacksShire_24 (by decide) ?_
      exact ow_zret d_Fs_lacksShire_28 rfl (by decide) T
set_option maxRecDepth 4000 in
theorem t_Fs_lacksFolly {d : Nat} {I : Nat → Nat → Int32} {J : Nat → Nat → Int64} {R : Nat → Nat → Option Nat} {Q : Option Value → ow_H → Prop} {p1 : Int32}  (hR : ow_RF R) (T : (((I 0 14) = 0 → (∀ (I5 : Nat → Nat → Int32), I5 = ow_u I 0 15 1 → Q (some (.int 1)) (85, I5, J, R))) ∧ (¬ (I 0 14) = 0 → ((p1 < 0 → (∀ (I6 : Nat → Nat → Int32), I6 = ow_u I 0 15 1 → Q (some (.int 1)) (85, I6, J, R))) ∧ (¬ p1 < 0 → ((p1 < (I 29 0) → (∀ (I7 : Nat → Nat → Int32), I7 = ow_u I 0 15 0 → Q (some (.int 0)) (85, I7, J, R))) ∧ (¬ p1 < (I 29 0) → (∀ (I8 : Nat → Nat → Int32), I8 = ow_u I 0 15 1 → Q (some (.int 1)) (85, I8, J, R))))))))) : ow_AM M_Fs_lacksFolly (d + 1) [.ref 0, .int p1] (85, I, J, R) Q := by
  refine ow_enter (by decide) (Nat.le_of_ble_eq_true rfl) ?_
  show ow_AW ow_Y0 (ow_Z Q) M_Fs_lacksFolly (d + 1) 0 0 0 [(0, .ref 0), (1, .int p1)] [] (85, I, J, R) 0 0
  refine ow_aload_n 0 rfl d_Fs_lacksFolly_0 ?_
  refine ow_gI 165 d_Fs_lacksFolly_1 rfl rfl (by decide) rfl (Or.inr rfl) ?_
  refine ow_if_eq (tgt := 22) d_Fs_lacksFolly_4 (by decide) (fun c => ?_) (fun c => ?_)
  · replace T := T.1 c
    refine ow_iconst (v := 1) (by decide) d_Fs_lacksFolly_22 ?_
    refine ow_goto (tgt := 27) d_Fs_lacksFolly_23 (by decide) ?_
    refine ow_istore_n (ls2 := [(2, .int 1), (0, .ref 0), (1, .int p1)]) d_Fs_lacksFolly_27 (by decide) rfl ?_
    refine ow_aload_n 1 rfl d_Fs_lacksFolly_28 ?_
    refine ow_iload_n 0 rfl d_Fs_lacksFolly_29 ?_
    refine ow_if_eq (tgt := 37) d_Fs_lacksFolly_30 (by decide) (fun c => ?_) (fun c => ?_)
    · exact absurd c (by decide)
    · clear c
      refine ow_iconst (v := 1) (by decide) d_Fs_lacksFolly_33 ?_
      refine ow_goto (tgt := 38) d_Fs_lacksFolly_34 (by decide) ?_
      refine ow_pI 166 d_Fs_lacksFolly_38 rfl rfl (by decide) rfl rfl rfl ?_
      obtain ⟨I5, eI5⟩ : ∃ uu, uu = ow_u I 0 15 1 := ⟨_, rfl⟩
      replace T := T I5 eI5
      rw [← eI5]
      refine ow_iload_n 0 rfl d_Fs_lacksFolly_41 ?_
      exact ow_zret d_Fs_lacksFolly_42 rfl (by decide) T
  · replace T := T.2 c
    refine ow_iload_n 1 rfl d_Fs_lacksFolly_7 ?_
    refine ow_if_lt (tgt := 22) d_Fs_lacksFolly_8 (by decide) (fun c => ?_) (fun c => ?_)
    · replace T := T.1 c
      refine ow_iconst (v := 1) (by decide) d_Fs_lacksFolly_22 ?_
      refine ow_goto (tgt := 27) d_Fs_lacksFolly_23 (by decide) ?_
      refine ow_istore_n (ls2 := [(2, .int 1), (0, .ref 0), (1, .int p1)]) d_Fs_lacksFolly_27 (by decide) rfl ?_
      refine ow_aload_n 1 rfl d_Fs_lacksFolly_28 ?_
      refine ow_iload_n 0 rfl d_Fs_lacksFolly_29 ?_
      refine ow_if_eq (tgt := 37) d_Fs_lacksFolly_30 (by decide) (fun c => ?_) (fun c => ?_)
      · exact absurd c (by decide)
      · clear c
        refine ow_iconst (v := 1) (by decide) d_Fs_lacksFolly_33 ?_
        refine ow_goto (tgt := 38) d_Fs_lacksFolly_34 (by decide) ?_
        refine ow_pI 166 d_Fs_lacksFolly_38 rfl rfl (by decide) rfl rfl rfl ?_
        obtain ⟨I6, eI6⟩ : ∃ uu, uu = ow_u I 0 15 1 := ⟨_, rfl⟩
        replace T := T I6 eI6
        rw [← eI6]
        refine ow_iload_n 0 rfl d_Fs_lacksFolly_41 ?_
        exact ow_zret d_Fs_lacksFolly_42 rfl (by decide) T
    · replace T := T.2 c
      refine ow_iload_n 1 rfl d_Fs_lacksFolly_11 ?_
      refine ow_aload_n 0 rfl d_Fs_lacksFolly_12 ?_
      refine ow_gR (a := 29) 155 d_Fs_lacksFolly_13 rfl rfl (by decide) rfl ⟨rfl, hR 0 4 (by decide)⟩ ?_
      refine ow_gI 3 d_Fs_lacksFolly_16 rfl rfl (by decide) rfl (Or.inl rfl) ?_
      refine ow_icmp_lt (tgt := 26) d_Fs_lacksFolly_19 (by decide) (fun c => ?_) (fun c => ?_)
      · replace T := T.1 c
        refine ow_iconst (v := 0) (by decide) d_Fs_lacksFolly_26 ?_
        refine ow_istore_n (ls2 := [(2, .int 0), (0, .ref 0), (1, .int p1)]) d_Fs_lacksFolly_27 (by decide) rfl ?_
        refine ow_aload_n 1 rfl d_Fs_lacksFolly_28 ?_
        refine ow_iload_n 0 rfl d_Fs_lacksFolly_29 ?_
        refine ow_if_eq (tgt := 37) d_Fs_lacksFolly_30 (by decide) (fun c => ?_) (fun c => ?_)
        · clear c
          refine ow_iconst (v := 0) (by decide) d_Fs_lacksFolly_37 ?_
          refine ow_pI 166 d_Fs_lacksFolly_38 rfl rfl (by decide) rfl rfl rfl ?_
          obtain ⟨I7, eI7⟩ : ∃ uu, uu = ow_u I 0 15 0 := ⟨_, rfl⟩
          replace T := T I7 eI7
          rw [← eI7]
          refine ow_iload_n 0 rfl d_Fs_lacksFolly_41 ?_
          exact ow_zret d_Fs_lacksFolly_42 rfl (by decide) T
        · exact absurd c (by decide)
      · replace T := T.2 c
        refine ow_iconst (v := 1) (by decide) d_Fs_lacksFolly_22 ?_
        refine ow_goto (tgt := 27) d_Fs_lacksFolly_23 (by decide) ?_
        refine ow_istore_n (ls2 := [(2, .int 1), (0, .ref 0), (1, .int p1)]) d_Fs_lacksFolly_27 (by decide) rfl ?_
        refine ow_aload_n 1 rfl d_Fs_lacksFolly_28 ?_
        refine ow_iload_n 0 rfl d_Fs_lacksFolly_29 ?_
        refine ow_if_eq (tgt := 37) d_Fs_lacksFolly_30 (by decide) (fun c => ?_) (fun c => ?_)
        · exact absurd c (by decide)
        · clear c
          refine ow_iconst (v := 1) (by decide) d_Fs_lacksFolly_33 ?_
          refine ow_goto (tgt := 38) d_Fs_lacksFolly_34 (by decide) ?_
          refine ow_pI 166 d_Fs_lacksFolly_38 rfl rfl (by decide) rfl rfl rfl ?_
          obtain ⟨I8, eI8⟩ : ∃ uu, uu = ow_u I 0 15 1 := ⟨_, rfl⟩
          replace T := T I8 eI8
          rw [← eI8]
          refine ow_iload_n 0 rfl d_Fs_lacksFolly_41 ?_
          exact ow_zret d_Fs_lacksFolly_42 rfl (by decide) T
set_option maxRecDepth 4000 in
theorem t_Fs_lacksEstate {d : Nat} {I : Nat → Nat → Int32} {J : Nat → Nat → Int64} {R : Nat → Nat → Option Nat} {Q : Option Value → ow_H → Prop} {p1 : Int32}  (hR : ow_RF R) (T : (((I 0 14) = 0 → (∀ (I5 : Nat → Nat → Int32), I5 = ow_u I 0 15 1 → Q (some (.int 1)) (85, I5, J, R))) ∧ (¬ (I 0 14) = 0 → ((p1 < 0 → (∀ (I6 : Nat → Nat → Int32), I6 = ow_u I 0 15 1 → Q (some (.int 1)) (85, I6, J, R))) ∧ (¬ p1 < 0 → ((p1 < (I 2 3) → (∀ (I7 : Nat → Nat → Int32), I7 = ow_u I 0 15 0 → Q (some (.int 0)) (85, I7, J, R))) ∧ (¬ p1 < (I 2 3) → (∀ (I8 : Nat → Nat → Int32), I8 = ow_u I 0 15 1 → Q (some (.int 1)) (85, I8, J, R))))))))) : ow_AM M_Fs_lacksEstate (d + 1) [.ref 0, .int p1] (85, I, J, R) Q := by
  refine ow_enter (by decide) (Nat.le_of_ble_eq_true rfl) ?_
  show ow_AW ow_Y0 (ow_Z Q) M_Fs_lacksEstate (d + 1) 0 0 0 [(0, .ref 0), (1, .int p1)] [] (85, I, J, R) 0 0
  refine ow_aload_n 0 rfl d_Fs_lacksEstate_0 ?_
  refine ow_gI 165 d_Fs_lacksEstate_1 rfl rfl (by decide) rfl (Or.inr rfl) ?_
  refine ow_if_eq (tgt := 22) d_Fs_lacksEstate_4 (by decide) (fun c => ?_) (fun c => ?_)
  · replace T := T.1 c
    refine ow_iconst (v := 1) (by decide) d_Fs_lacksEstate_22 ?_
    refine ow_goto (tgt := 27) d_Fs_lacksEstate_23 (by decide) ?_
    refine ow_istore_n (ls2 := [(2, .int 1), (0, .ref 0), (1, .int p1)]) d_Fs_lacksEstate_27 (by decide) rfl ?_
    refine ow_aload_n 1 rfl d_Fs_lacksEstate_28 ?_
    refine ow_iload_n 0 rfl d_Fs_lacksEstate_29 ?_
    refine ow_if_eq (tgt := 37) d_Fs_lacksEstate_30 (by decide) (fun c => ?_) (fun c => ?_)
    · exact absurd c (by decide)
    · clear c
      refine ow_iconst (v := 1) (by decide) d_Fs_lacksEstate_33 ?_
      refine ow_goto (tgt := 38) d_Fs_lacksEstate_34 (by decide) ?_
      refine ow_pI 166 d_Fs_lacksEstate_38 rfl rfl (by decide) rfl rfl rfl ?_
      obtain ⟨I5, eI5⟩ : ∃ uu, uu = ow_u I 0 15 1 := ⟨_, rfl⟩
      replace T := T I5 eI5
      rw [← eI5]
      refine ow_iload_n 0 rfl d_Fs_lacksEstate_41 ?_
      exact ow_zret d_Fs_lacksEstate_42 rfl (by decide) T
  · replace T := T.2 c
    refine ow_iload_n 1 rfl d_Fs_lacksEstate_7 ?_
    refine ow_if_lt (tgt := 22) d_Fs_lacksEstate_8 (by decide) (fun c => ?_) (fun c => ?_)
    · replace T := T.1 c
      refine ow_iconst (v := 1) (by decide) d_Fs_lacksEstate_22 ?_
      refine ow_goto (tgt := 27) d_Fs_lacksEstate_23 (by decide) ?_
      refine ow_istore_n (ls2 := [(2, .int 1), (0, .ref 0), (1, .int p1)]) d_Fs_lacksEstate_27 (by decide) rfl ?_
      refine ow_aload_n 1 rfl d_Fs_lacksEstate_28 ?_
      refine ow_iload_n 0 rfl d_Fs_lacksEstate_29 ?_
      refine ow_if_eq (tgt := 37) d_Fs_lacksEstate_30 (by decide) (fun c => ?_) (fun c => ?_)
      · exact absurd c (by decide)
      · clear c
        refine ow_iconst (v := 1) (by decide) d_Fs_lacksEstate_33 ?_
        refine ow_goto (tgt := 38) d_Fs_lacksEstate_34 (by decide) ?_
        refine ow_pI 166 d_Fs_lacksEstate_38 rfl rfl (by decide) rfl rfl rfl ?_
        obtain ⟨I6, eI6⟩ : ∃ uu, uu = ow_u I 0 15 1 := ⟨_, rfl⟩
        replace T := T I6 eI6
        rw [← eI6]
        refine ow_iload_n 0 rfl d_Fs_lacksEstate_41 ?_
        exact ow_zret d_Fs_lacksEstate_42 rfl (by decide) T
    · replace T := T.2 c
      refine ow_iload_n 1 rfl d_Fs_lacksEstate_11 ?_
      refine ow_aload_n 0 rfl d_Fs_lacksEstate_12 ?_
      refine ow_gR (a := 2) 153 d_Fs_lacksEstate_13 rfl rfl (by decide) rfl ⟨rfl, hR 0 2 (by decide)⟩ ?_
      refine ow_gI 42 d_Fs_lacksEstate_16 rfl rfl (by decide) rfl (Or.inl rfl) ?_
      refine ow_icmp_lt (tgt := 26) d_Fs_lacksEstate_19 (by decide) (fun c => ?_) (fun c => ?_)
      · replace T := T.1 c
        refine ow_iconst (v := 0) (by decide) d_Fs_lacksEstate_26 ?_
        refine ow_istore_n (ls2 := [(2, .int 0), (0, .ref 0), (1, .int p1)]) d_Fs_lacksEstate_27 (by decide) rfl ?_
        refine ow_aload_n 1 rfl d_Fs_lacksEstate_28 ?_
        refine ow_iload_n 0 rfl d_Fs_lacksEstate_29 ?_
        refine ow_if_eq (tgt := 37) d_Fs_lacksEstate_30 (by decide) (fun c => ?_) (fun c => ?_)
        · clear c
          refine ow_iconst (v := 0) (by decide) d_Fs_lacksEstate_37 ?_
          refine ow_pI 166 d_Fs_lacksEstate_38 rfl rfl (by decide) rfl rfl rfl ?_
          obtain ⟨I7, eI7⟩ : ∃ uu, uu = ow_u I 0 15 0 := ⟨_, rfl⟩
          replace T := T I7 eI7
          rw [← eI7]
          refine ow_iload_n 0 rfl d_Fs_lacksEstate_41 ?_
          exact ow_zret d_Fs_lacksEstate_42 rfl (by decide) T
        · exact absurd c (by decide)
      · replace T := T.2 c
        refine ow_iconst (v := 1) (by decide) d_Fs_lacksEstate_22 ?_
        refine ow_goto (tgt := 27) d_Fs_lacksEstate_23 (by decide) ?_
        refine ow_istore_n (ls2 := [(2, .int 1), (0, .ref 0), (1, .int p1)]) d_Fs_lacksEstate_27 (by decide) rfl ?_
        refine ow_aload_n 1 rfl d_Fs_lacksEstate_28 ?_
        refine ow_iload_n 0 rfl d_Fs_lacksEstate_29 ?_
        refine ow_if_eq (tgt := 37) d_Fs_lacksEstate_30 (by decide) (fun c => ?_) (fun c => ?_)
        · exact absurd c (by decide)
        · clear c
          refine ow_iconst (v := 1) (by decide) d_Fs_lacksEstate_33 ?_
          refine ow_goto (tgt := 38) d_Fs_lacksEstate_34 (by decide) ?_
          refine ow_pI 166 d_Fs_lacksEstate_38 rfl rfl (by decide) rfl rfl rfl ?_
          obtain ⟨I8, eI8⟩ : ∃ uu, uu = ow_u I 0 15 1 := ⟨_, rfl⟩
          replace T := T I8 eI8
          rw [← eI8]
          refine ow_iload_n 0 rfl d_Fs_lacksEstate_41 ?_
          exact ow_zret d_Fs_lacksEstate_42 rfl (by decide) T
set_option maxRecDepth 4000 in
theorem t_Fs_isOutside {d : Nat} {I : Nat → Nat → Int32} {J : Nat → Nat → Int64} {R : Nat → Nat → Option Nat} {Q : Option Value → ow_H → Prop} {p1 : Int32} {p2 : Int32} {p3 : Int32}  (hR : ow_RF R) (T : ((p1 < p2 → (∀ (I4 : Nat → Nat → Int32), I4 = ow_u I 0 15 2 → Q (some (.int 1)) (85, I4, J, R))) ∧ (¬ p1 < p2 → ((p1 ≤ p3 → (∀ (I5 : Nat → Nat → Int32), I5 = ow_u I 0 15 0 → Q (some (.int 0)) (85, I5, J, R))) ∧ (¬ p1 ≤ p3 → (∀ (I6 : Nat → Nat → Int32), I6 = ow_u I 0 15 2 → Q (some (.int 1)) (85, I6, J, R))))))) : ow_AM M_Fs_isOutside (d + 1) [.ref 0, .int p1, .int p2, .int p3] (85, I, J, R) Q := by
  refine ow_enter (by decide) (Nat.le_of_ble_eq_true rfl) ?_
  show ow_AW ow_Y0 (ow_Z Q) M_Fs_isOutside (d + 1) 0 0 0 [(0, .ref 0), (1, .int p1), (2, .int p2), (3, .int p3)] [] (85, I, J, R) 0 0
  refine ow_iload_n 1 rfl d_Fs_isOutside_0 ?_
  refine ow_iload_n 2 rfl d_Fs_isOutside_1 ?_
  refine ow_icmp_lt (tgt := 10) d_Fs_isOutside_2 (by decide) (fun c => ?_) (fun c => ?_)
  · replace T := T.1 c
    refine ow_iconst (v := 1) (by decide) d_Fs_isOutside_10 ?_
    refine ow_goto (tgt := 15) d_Fs_isOutside_11 (by decide) ?_
    refine ow_istore (ls2 := [(4, .int 1), (0, .ref 0), (1, .int p1), (2, .int p2), (3, .int p3)]) d_Fs_isOutside_15 (by decide) rfl ?_
    refine ow_aload_n 1 rfl d_Fs_isOutside_17 ?_
    refine ow_iload 0 rfl d_Fs_isOutside_18 ?_
    refine ow_if_eq (tgt := 27) d_Fs_isOutside_20 (by decide) (fun c => ?_) (fun c => ?_)
    · exact absurd c (by decide)
    · clear c
      refine ow_iconst (v := 2) (by decide) d_Fs_isOutside_23 ?_
      refine ow_goto (tgt := 28) d_Fs_isOutside_24 (by decide) ?_
      refine ow_pI 166 d_Fs_isOutside_28 rfl rfl (by decide) rfl rfl rfl ?_
      obtain ⟨I4, eI4⟩ : ∃ uu, uu = ow_u I 0 15 2 := ⟨_, rfl⟩
      replace T := T I4 eI4
      rw [← eI4]
      refine ow_iload 0 rfl d_Fs_isOutside_31 ?_
      exact ow_zret d_Fs_isOutside_33 rfl (by decide) T
  · replace T := T.2 c
    refine ow_iload_n 1 rfl d_Fs_isOutside_5 ?_
    refine ow_iload_n 3 rfl d_Fs_isOutside_6 ?_
    refine ow_icmp_le (tgt := 14) d_Fs_isOutside_7 (by decide) (fun c => ?_) (fun c => ?_)
    · replace T := T.1 c
      refine ow_iconst (v := 0) (by decide) d_Fs_isOutside_14 ?_
      refine ow_istore (ls2 := [(4, .int 0), (0, .ref 0), (1, .int p1), (2, .int p2), (3, .int p3)]) d_Fs_isOutside_15 (by decide) rfl ?_
      refine ow_aload_n 1 rfl d_Fs_isOutside_17 ?_
      refine ow_iload 0 rfl d_Fs_isOutside_18 ?_
      refine ow_if_eq (tgt := 27) d_Fs_isOutside_20 (by decide) (fun c => ?_) (fun c => ?_)
      · clear c
        refine ow_iconst (v := 0) (by decide) d_Fs_isOutside_27 ?_
        refine ow_pI 166 d_Fs_isOutside_28 rfl rfl (by decide) rfl rfl rfl ?_
        obtain ⟨I5, eI5⟩ : ∃ uu, uu = ow_u I 0 15 0 := ⟨_, rfl⟩
        replace T := T I5 eI5
        rw [← eI5]
        refine ow_iload 0 rfl d_Fs_isOutside_31 ?_
        exact ow_zret d_Fs_isOutside_33 rfl (by decide) T
      · exact absurd c (by decide)
    · replace T := T.2 c
      refine ow_iconst (v := 1) (by decide) d_Fs_isOutside_10 ?_
      refine ow_goto (tgt := 15) d_Fs_isOutside_11 (by decide) ?_
      refine ow_istore (ls2 := [(4, .int 1), (0, .ref 0), (1, .int p1), (2, .int p2), (3, .int p3)]) d_Fs_isOutside_15 (by decide) rfl ?_
      refine ow_aload_n 1 rfl d_Fs_isOutside_17 ?_
      refine ow_iload 0 rfl d_Fs_isOutside_18 ?_
      refine ow_if_eq (tgt := 27) d_Fs_isOutside_20 (by decide) (fun c => ?_) (fun c => ?_)
      · exact absurd c (by decide)
      · clear c
        refine ow_iconst (v := 2) (by decide) d_Fs_isOutside_23 ?_
        refine ow_goto (tgt := 28) d_Fs_isOutside_24 (by decide) ?_
        refine ow_pI 166 d_Fs_isOutside_28 rfl rfl (by decide) rfl rfl rfl ?_
        obtain ⟨I6, eI6⟩ : ∃ uu, uu = ow_u I 0 15 2 := ⟨_, rfl⟩
        replace T := T I6 eI6
        rw [← eI6]
        refine ow_iload 0 rfl d_Fs_isOutside_31 ?_
        exact ow_zret d_Fs_isOutside_33 rfl (by decide) T
set_option maxRecDepth 4000 in
theorem t_Fs_lookAhead {d : Nat} {I : Nat → Nat → Int32} {J : Nat → Nat → Int64} {R : Nat → Nat → Option Nat} {Q : Option Value → ow_H → Prop} {p1 : Int32}  (hR : ow_RF R) (T : (ow_AM M_Scene_take d [.ref 33, .ref 29] (85, I, J, R) (fun r h' => ∃ (I3 : Nat → Nat → Int32) (J3 : Nat → Nat → Int64) (R3 : Nat → Nat → Option Nat), r = none ∧ h' = (85, I3, J3, R3) ∧ ow_RF R3 ∧ (ow_AM M_Scene_age d [.ref 33, .int (I3 2 1), .int p1] (85, I3, J3, R3) (fun r h' => ∃ (I4 : Nat → Nat → Int32) (J4 : Nat → Nat → Int64) (R4 : Nat → Nat → Option Nat), r = none ∧ h' = (85, I4, J4, R4) ∧ ow_RF R4 ∧ Q none (85, I4, J4, R4)))))) : ow_AM M_Fs_lookAhead (d + 1) [.ref 0, .int p1] (85, I, J, R) Q := by
  refine ow_enter (by decide) (Nat.le_of_ble_eq_true rfl) ?_
  show ow_AW ow_Y0 (ow_Z Q) M_Fs_lookAhead (d + 1) 0 0 0 [(0, .ref 0), (1, .int p1)] [] (85, I, J, R) 0 0
  refine ow_aload_n 0 rfl d_Fs_lookAhead_0 ?_
  refine ow_gR (a := 33) 156 d_Fs_lookAhead_1 rfl rfl (by decide) rfl ⟨rfl, hR 0 5 (by decide)⟩ ?_
  refine ow_aload_n 0 rfl d_Fs_lookAhead_4 ?_
  refine ow_gR (a := 29) 155 d_Fs_lookAhead_5 rfl rfl (by decide) rfl ⟨rfl, hR 0 4 (by decide)⟩ ?_
  refine ow_callV (b := 33) (cq := 4) (As := [.ref 29]) (rest := []) (d2 := d) d_Fs_lookAhead_8 l_Fs_130 v_Scene_take (show 33 < 85 by decide) rfl (by decide) rfl (Nat.le_of_ble_eq_true rfl) (Nat.le_refl _) ⟨Nat.le_refl _, Nat.le_refl _⟩ (ow_mono T ?_)
  rintro r h' ⟨I3, J3, R3, rfl, rfl, hR3, T⟩
  show ow_AW ow_Y0 (ow_Z Q) M_Fs_lookAhead (d + 1) 0 0 11 [(0, .ref 0), (1, .int p1)] [] (85, I3, J3, R3) 0 0
  refine ow_aload_n 0 rfl d_Fs_lookAhead_11 ?_
  refine ow_gR (a := 33) 156 d_Fs_lookAhead_12 rfl rfl (by decide) rfl ⟨rfl, hR3 0 5 (by decide)⟩ ?_
  refine ow_aload_n 0 rfl d_Fs_lookAhead_15 ?_
  refine ow_gR (a := 2) 153 d_Fs_lookAhead_16 rfl rfl (by decide) rfl ⟨rfl, hR3 0 2 (by decide)⟩ ?_
  refine ow_gI 33 d_Fs_lookAhead_19 rfl rfl (by decide) rfl (Or.inl rfl) ?_
  refine ow_iload_n 1 rfl d_Fs_lookAhead_22 ?_
  refine ow_callV (b := 33) (cq := 4) (As := [.int (I3 2 1), .int p1]) (rest := []) (d2 := d) d_Fs_lookAhead_23 l_Fs_353 v_Scene_age (show 33 < 85 by decide) rfl (by decide) rfl (Nat.le_of_ble_eq_true rfl) (Nat.le_refl _) ⟨Nat.le_refl _, Nat.le_refl _⟩ (ow_mono T ?_)
  rintro r h' ⟨I4, J4, R4, rfl, rfl, hR4, T⟩
  show ow_AW ow_Y0 (ow_Z Q) M_Fs_lookAhead (d + 1) 0 0 26 [(0, .ref 0), (1, .int p1)] [] (85, I4, J4, R4) 0 0
  exact ow_vret d_Fs_lookAhead_26 rfl T
set_option maxRecDepth 4000 in
theorem t_Fs_isServedIn {d : Nat} {I : Nat → Nat → Int32} {J : Nat → Nat → Int64} {R : Nat → Nat → Option Nat} {Q : Option Value → ow_H → Prop} {p1 : Int32} {p2 : Int32}  (hR : ow_RF R) (T : (ow_AM M_Fs_lookAhead d [.ref 0, .int p2] (85, I, J, R) (fun r h' => ∃ (I3 : Nat → Nat → Int32) (J3 : Nat → Nat → Int64) (R3 : Nat → Nat → Option Nat), r = none ∧ h' = (85, I3, J3, R3) ∧ ow_RF R3 ∧ (ow_AM M_Serving_bitsServed d [.ref 39, .ref 33] (85, I3, J3, R3) (fun r h' => ∃ (r4 : Int32) (I4 : Nat → Nat → Int32) (J4 : Nat → Nat → Int64) (R4 : Nat → Nat → Option Nat), r = some (.int r4) ∧ h' = (85, I4, J4, R4) ∧ ow_RF R4 ∧ ((((r4 >>> (p1 &&& 31)) &&& 1) = 0 → Q (some (.int 0)) (85, I4, J4, R4)) ∧ (¬ ((r4 >>> (p1 &&& 31)) &&& 1) = 0 → Q (some (.int 1)) (85, I4, J4, R4)))))))) : ow_AM M_Fs_isServedIn (d + 1) [.ref 0, .int p1, .int p2] (85, I, J, R) Q := by
  refine ow_enter (by decide) (Nat.le_of_ble_eq_true rfl) ?_
  show ow_AW ow_Y0 (ow_Z Q) M_Fs_isServedIn (d + 1) 0 0 0 [(0, .ref 0), (1, .int p1), (2, .int p2)] [] (85, I, J, R) 0 0
  refine ow_aload_n 0 rfl d_Fs_isServedIn_0 ?_
  refine ow_iload_n 2 rfl d_Fs_isServedIn_1 ?_
  refine ow_callV (b := 0) (cq := 11) (As := [.int p2]) (rest := []) (d2 := d) d_Fs_isServedIn_2 l_Fs_255 v_Fs_lookAhead (show 0 < 85 by decide) rfl (by decide) rfl (Nat.le_of_ble_eq_true rfl) (Nat.le_refl _) ⟨Nat.le_refl _, Nat.le_refl _⟩ (ow_mono T ?_)
  rintro r h' ⟨I3, J3, R3, rfl, rfl, hR3, T⟩
  show ow_AW ow_Y0 (ow_Z Q) M_Fs_isServedIn (d + 1) 0 0 5 [(0, .ref 0), (1, .int p1), (2, .int p2)] [] (85, I3, J3, R3) 0 0
  refine ow_aload_n 0 rfl d_Fs_isServedIn_5 ?_
  refine ow_gR (a := 39) 158 d_Fs_isServedIn_6 rfl rfl (by decide) rfl ⟨rfl, hR3 0 7 (by decide)⟩ ?_
  refine ow_aload_n 0 rfl d_Fs_isServedIn_9 ?_
  refine ow_gR (a := 33) 156 d_Fs_isServedIn_10 rfl rfl (by decide) rfl ⟨rfl, hR3 0 5 (by decide)⟩ ?_
  refine ow_callV (b := 39) (cq := 5) (As := [.ref 33]) (rest := []) (d2 := d) d_Fs_isServedIn_13 l_Fs_182 v_Serving_bitsServed (show 39 < 85 by decide) rfl (by decide) rfl (Nat.le_of_ble_eq_true rfl) (Nat.le_refl _) ⟨Nat.le_refl _, Nat.le_refl _⟩ (ow_mono T ?_)
  rintro r h' ⟨r4, I4, J4, R4, rfl, rfl, hR4, T⟩
  show ow_AW ow_Y0 (ow_Z Q) M_Fs_isServedIn (d + 1) 0 0 16 [(0, .ref 0), (1, .int p1), (2, .int p2)] [.int r4] (85, I4, J4, R4) 0 0
  refine ow_iload_n 1 rfl d_Fs_isServedIn_16 ?_
  refine ow_ishr d_Fs_isServedIn_17 ?_
  refine ow_iconst (v := 1) (by decide) d_Fs_isServedIn_18 ?_
  refine ow_iand d_Fs_isServedIn_19 ?_
  refine ow_if_eq (tgt := 27) d_Fs_isServedIn_20 (by decide) (fun c => ?_) (fun c => ?_)
  · replace T := T.1 c
    refine ow_iconst (v := 0) (by decide) d_Fs_isServedIn_27 ?_
    exact ow_zret d_Fs_isServedIn_28 rfl (by decide) T
  · replace T := T.2 c
    refine ow_iconst (v := 1) (by decide) d_Fs_isServedIn_23 ?_
    refine ow_goto (tgt := 28) d_Fs_isServedIn_24 (by decide) ?_
    exact ow_zret d_Fs_isServedIn_28 rfl (by decide) T
set_option maxRecDepth 4000 in
theorem t_Fs_yearsToRuin {d : Nat} {I : Nat → Nat → Int32} {J : Nat → Nat → Int64} {R : Nat → Nat → Option Nat} {Q : Option Value → ow_H → Prop} {p1 : Int32} {p2 : Int32}  (hR : ow_RF R) (T : ((¬ p1 = 0 → ((p2 ≤ 0 → Q (some (.int (-2))) (85, I, J, R)) ∧ (¬ p2 ≤ 0 → (¬ p2 = 0 ∧ Q (some (.int (((p1 + p2) - 1) / p2))) (85, I, J, R))))) ∧ (p1 = 0 → Q (some (.int 0)) (85, I, J, R)))) : ow_AM M_Fs_yearsToRuin (d + 1) [.int p1, .int p2] (85, I, J, R) Q := by
  refine ow_enter (by decide) (Nat.le_of_ble_eq_true rfl) ?_
  show ow_AW ow_Y0 (ow_Z Q) M_Fs_yearsToRuin (d + 1) 0 0 0 [(0, .int p1), (1, .int p2)] [] (85, I, J, R) 0 0
  refine ow_iload_n 0 rfl d_Fs_yearsToRuin_0 ?_
  refine ow_if_ne (tgt := 6) d_Fs_yearsToRuin_1 (by decide) (fun c => ?_) (fun c => ?_)
  · replace T := T.1 c
    refine ow_iload_n 1 rfl d_Fs_yearsToRuin_6 ?_
    refine ow_if_le (tgt := 20) d_Fs_yearsToRuin_7 (by decide) (fun c => ?_) (fun c => ?_)
    · replace T := T.1 c
      refine ow_bipush (v := (-2)) (by decide) d_Fs_yearsToRuin_20 ?_
      exact ow_iret d_Fs_yearsToRuin_22 rfl T
    · replace T := T.2 c
      refine ow_iload_n 0 rfl d_Fs_yearsToRuin_10 ?_
      refine ow_iload_n 1 rfl d_Fs_yearsToRuin_11 ?_
      refine ow_iadd d_Fs_yearsToRuin_12 ?_
      refine ow_iconst (v := 1) (by decide) d_Fs_yearsToRuin_13 ?_
      refine ow_isub d_Fs_yearsToRuin_14 ?_
      refine ow_iload_n 1 rfl d_Fs_yearsToRuin_15 ?_
      obtain ⟨c, T⟩ := T
      refine ow_idiv c d_Fs_yearsToRuin_16 ?_
      refine ow_goto (tgt := 22) d_Fs_yearsToRuin_17 (by decide) ?_
      exact ow_iret d_Fs_yearsToRuin_22 rfl T
  · replace T := T.2 c
    refine ow_iconst (v := 0) (by decide) d_Fs_yearsToRuin_4 ?_
    exact ow_iret d_Fs_yearsToRuin_5 rfl T
set_option maxRecDepth 4000 in
theorem t_Fs_gain {d : Nat} {I : Nat → Nat → Int32} {J : Nat → Nat → Int64} {R : Nat → Nat → Option Nat} {Q : Option Value → ow_H → Prop} {p1 : Int32} {p2 : Int32} {p3 : Int32}  (hR : ow_RF R) (T : ((p3 = 0 → ((p2 = 0 → Q (some (.int 2)) (85, I, J, R)) ∧ (¬ p2 = 0 → Q (some (.int 3)) (85, I, J, R)))) ∧ (¬ p3 = 0 → ((p2 = 0 → Q (some (.int (-p1))) (85, I, J, R)) ∧ (¬ p2 = 0 → Q (some (.int (1 - p1))) (85, I, J, R)))))) : ow_AM M_Fs_gain (d + 1) [.int p1, .int p2, .int p3] (85, I, J, R) Q := by
  refine ow_enter (by decide) (Nat.le_of_ble_eq_true rfl) ?_
  show ow_AW ow_Y0 (ow_Z Q) M_Fs_gain (d + 1) 0 0 0 [(0, .int p1), (1, .int p2), (2, .int p3)] [] (85, I, J, R) 0 0
  refine ow_iload_n 2 rfl d_Fs_gain_0 ?_
  refine ow_if_eq (tgt := 17) d_Fs_gain_1 (by decide) (fun c => ?_) (fun c => ?_)
  · replace T := T.1 c
    refine ow_iload_n 1 rfl d_Fs_gain_17 ?_
    refine ow_if_eq (tgt := 25) d_Fs_gain_18 (by decide) (fun c => ?_) (fun c => ?_)
    · replace T := T.1 c
      refine ow_iconst (v := 2) (by decide) d_Fs_gain_25 ?_
      exact ow_iret d_Fs_gain_26 rfl T
    · replace T := T.2 c
      refine ow_iconst (v := 3) (by decide) d_Fs_gain_21 ?_
      refine ow_goto (tgt := 26) d_Fs_gain_22 (by decide) ?_
      exact ow_iret d_Fs_gain_26 rfl T
  · replace T := T.2 c
    refine ow_iload_n 1 rfl d_Fs_gain_4 ?_
    refine ow_if_eq (tgt := 14) d_Fs_gain_5 (by decide) (fun c => ?_) (fun c => ?_)
    · replace T := T.1 c
      refine ow_iload_n 0 rfl d_Fs_gain_14 ?_
      refine ow_ineg d_Fs_gain_15 ?_
      exact ow_iret d_Fs_gain_16 rfl T
    · replace T := T.2 c
      refine ow_iconst (v := 1) (by decide) d_Fs_gain_8 ?_
      refine ow_iload_n 0 rfl d_Fs_gain_9 ?_
      refine ow_isub d_Fs_gain_10 ?_
      refine ow_goto (tgt := 16) d_Fs_gain_11 (by decide) ?_
      exact ow_iret d_Fs_gain_16 rfl T
set_option maxRecDepth 4000 in
theorem t_Fs_isRest {d : Nat} {I : Nat → Nat → Int32} {J : Nat → Nat → Int64} {R : Nat → Nat → Option Nat} {Q : Option Value → ow_H → Prop} {p1 : Int32} {p2 : Int32}  (hR : ow_RF R) (T : (((p2 &&& 2) = 0 → (((p2 &&& 1) = 0 → (ow_AM M_Fs_gain d [.int p1, .int 0, .int 0] (85, I, J, R) (fun r h' => ∃ (r17 : Int32) (I17 : Nat → Nat → Int32) (J17 : Nat → Nat → Int64) (R17 : Nat → Nat → Option Nat), r = some (.int r17) ∧ h' = (85, I17, J17, R17) ∧ ow_RF R17 ∧ (ow_AM M_Fs_gain d [.int p1, .int 1, .int 0] (85, I17, J17, R17) (fun r h' => ∃ (r18 : Int32) (I18 : Nat → Nat → Int32) (J18 : Nat → Nat → Int64) (R18 : Nat → Nat → Option Nat), r = some (.int r18) ∧ h' = (85, I18, J18, R18) ∧ ow_RF R18 ∧ ((r17 < r18 → Q (some (.int 0)) (85, I18, J18, R18)) ∧ (¬ r17 < r18 → (ow_AM M_Fs_gain d [.int p1, .int 0, .int 0] (85, I18, J18, R18) (fun r h' => ∃ (r19 : Int32) (I19 : Nat → Nat → Int32) (J19 : Nat → Nat → Int64) (R19 : Nat → Nat → Option Nat), r = some (.int r19) ∧ h' = (85, I19, J19, R19) ∧ ow_RF R19 ∧ (ow_AM M_Fs_gain d [.int p1, .int 1, .int 0] (85, I19, J19, R19) (fun r h' => ∃ (r20 : Int32) (I20 : Nat → Nat → Int32) (J20 : Nat → Nat → Int64) (R20 : Nat → Nat → Option Nat), r = some (.int r20) ∧ h' = (85, I20, J20, R20) ∧ ow_RF R20 ∧ ((r19 < r20 → Q (some (.int 0)) (85, I20, J20, R20)) ∧ (¬ r19 < r20 → Q (some (.int 1)) (85, I20, J20, R20)))))))))))))) ∧ (¬ (p2 &&& 1) = 0 → (ow_AM M_Fs_gain d [.int p1, .int 0, .int 1] (85, I, J, R) (fun r h' => ∃ (r21 : Int32) (I21 : Nat → Nat → Int32) (J21 : Nat → Nat → Int64) (R21 : Nat → Nat → Option Nat), r = some (.int r21) ∧ h' = (85, I21, J21, R21) ∧ ow_RF R21 ∧ (ow_AM M_Fs_gain d [.int p1, .int 1, .int 1] (85, I21, J21, R21) (fun r h' => ∃ (r22 : Int32) (I22 : Nat → Nat → Int32) (J22 : Nat → Nat → Int64) (R22 : Nat → Nat → Option Nat), r = some (.int r22) ∧ h' = (85, I22, J22, R22) ∧ ow_RF R22 ∧ ((r21 < r22 → Q (some (.int 0)) (85, I22, J22, R22)) ∧ (¬ r21 < r22 → (ow_AM M_Fs_gain d [.int p1, .int 1, .int 0] (85, I22, J22, R22) (fun r h' => ∃ (r23 : Int32) (I23 : Nat → Nat → Int32) (J23 : Nat → Nat → Int64) (R23 : Nat → Nat → Option Nat), r = some (.int r23) ∧ h' = (85, I23, J23, R23) ∧ ow_RF R23 ∧ (ow_AM M_Fs_gain d [.int p1, .int 0, .int 0] (85, I23, J23, R23) (fun r h' => ∃ (r24 : Int32) (I24 : Nat → Nat → Int32) (J24 : Nat → Nat → Int64) (R24 : Nat → Nat → Option Nat), r = some (.int r24) ∧ h' = (85, I24, J24, R24) ∧ ow_RF R24 ∧ ((r23 < r24 → Q (some (.int 0)) (85, I24, J24, R24)) ∧ (¬ r23 < r24 → Q (some (.int 1)) (85, I24, J24, R24)))))))))))))))) ∧ (¬ (p2 &&& 2) = 0 → (((p2 &&& 1) = 0 → (ow_AM M_Fs_gain d [.int p1, .int 1, .int 0] (85, I, J, R) (fun r h' => ∃ (r25 : Int32) (I25 : Nat → Nat → Int32) (J25 : Nat → Nat → Int64) (R25 : Nat → Nat → Option Nat), r = some (.int r25) ∧ h' = (85, I25, J25, R25) ∧ ow_RF R25 ∧ (ow_AM M_Fs_gain d [.int p1, .int 0, .int 0] (85, I25, J25, R25) (fun r h' => ∃ (r26 : Int32) (I26 : Nat → Nat → Int32) (J26 : Nat → Nat → Int64) (R26 : Nat → Nat → Option Nat), r = some (.int r26) ∧ h' = (85, I26, J26, R26) ∧ ow_RF R26 ∧ ((r25 < r26 → Q (some (.int 0)) (85, I26, J26, R26)) ∧ (¬ r25 < r26 → (ow_AM M_Fs_gain d [.int p1, .int 0, .int 1] (85, I26, J26, R26) (fun r h' => ∃ (r27 : Int32) (I27 : Nat → Nat → Int32) (J27 : Nat → Nat → Int64) (R27 : Nat → Nat → Option Nat), r = some (.int r27) ∧ h' = (85, I27, J27, R27) ∧ ow_RF R27 ∧ (ow_AM M_Fs_gain d [.int p1, .int 1, .int 1] (85, I27, J27, R27) (fun r h' => ∃ (r28 : Int32) (I28 : Nat → Nat → Int32) (J28 : Nat → Nat → Int64) (R28 : Nat → Nat → Option Nat), r = some (.int r28) ∧ h' = (85, I28, J28, R28) ∧ ow_RF R28 ∧ ((r27 < r28 → Q (some (.int 0)) (85, I28, J28, R28)) ∧ (¬ r27 < r28 → Q (some (.int 1)) (85, I28, J28, R28)))))))))))))) ∧ (¬ (p2 &&& 1) = 0 → (ow_AM M_Fs_gain d [.int p1, .int 1, .int 1] (85, I, J, R) (fun r h' => ∃ (r29 : Int32) (I29 : Nat → Nat → Int32) (J29 : Nat → Nat → Int64) (R29 : Nat → Nat → Option Nat), r = some (.int r29) ∧ h' = (85, I29, J29, R29) ∧ ow_RF R29 ∧ (ow_AM M_Fs_gain d [.int p1, .int 0, .int 1] (85, I29, J29, R29) (fun r h' => ∃ (r30 : Int32) (I30 : Nat → Nat → Int32) (J30 : Nat → Nat → Int64) (R30 : Nat → Nat → Option Nat), r = some (.int r30) ∧ h' = (85, I30, J30, R30) ∧ ow_RF R30 ∧ ((r29 < r30 → Q (some (.int 0)) (85, I30, J30, R30)) ∧ (¬ r29 < r30 → (ow_AM M_Fs_gain d [.int p1, .int 1, .int 1] (85, I30, J30, R30) (fun r h' => ∃ (r31 : Int32) (I31 : Nat → Nat → Int32) (J31 : Nat → Nat → Int64) (R31 : Nat → Nat → Option Nat), r = some (.int r31) ∧ h' = (85, I31, J31, R31) ∧ ow_RF R31 ∧ (ow_AM M_Fs_gain d [.int p1, .int 0, .int 1] (85, I31, J31, R31) (fun r h' => ∃ (r32 : Int32) (I32 : Nat → Nat → Int32) (J32 : Nat → Nat → Int64) (R32 : Nat → Nat → Option Nat), r = some (.int r32) ∧ h' = (85, I32, J32, R32) ∧ ow_RF R32 ∧ ((r31 < r32 → Q (some (.int 0)) (85, I32, J32, R32)) ∧ (¬ r31 < r32 → Q (some (.int 1)) (85, I32, J32, R32)))))))))))))))))) : ow_AM M_Fs_isRest (d + 1) [.int p1, .int p2] (85, I, J, R) Q := by
  refine ow_enter (by decide) (Nat.le_of_ble_eq_true rfl) ?_
  show ow_AW ow_Y0 (ow_Z Q) M_Fs_isRest (d + 1) 0 0 0 [(0, .int p1), (1, .int p2)] [] (85, I, J, R) 0 0
  refine ow_iload_n 1 rfl d_Fs_isRest_0 ?_
  refine ow_iconst (v := 2) (by decide) d_Fs_isRest_1 ?_
  refine ow_iand d_Fs_isRest_2 ?_
  refine ow_if_eq (tgt := 10) d_Fs_isRest_3 (by decide) (fun c => ?_) (fun c => ?_)
  · replace T := T.1 c
    refine ow_iconst (v := 0) (by decide) d_Fs_isRest_10 ?_
    refine ow_istore_n (ls2 := [(2, .int 0), (0, .int p1), (1, .int p2)]) d_Fs_isRest_11 (by decide) rfl ?_
    refine ow_iload_n 2 rfl d_Fs_isRest_12 ?_
    refine ow_iconst (v := 1) (by decide) d_Fs_isRest_13 ?_
    refine ow_iand d_Fs_isRest_14 ?_
    refine ow_if_eq (tgt := 22) d_Fs_isRest_15 (by decide) (fun c => ?_) (fun c => ?_)
    · replace T := T.1 c
      refine ow_iconst (v := 0) (by decide) d_Fs_isRest_22 ?_
      refine ow_istore_n (ls2 := [(3, .int 0), (2, .int 0), (0, .int p1), (1, .int p2)]) d_Fs_isRest_23 (by decide) rfl ?_
      refine ow_iload_n 2 rfl d_Fs_isRest_24 ?_
      refine ow_iload_n 1 rfl d_Fs_isRest_25 ?_
      refine ow_iload_n 0 rfl d_Fs_isRest_26 ?_
      refine ow_callS (As := [.int p1, .int 0, .int 0]) (rest := []) (d2 := d) d_Fs_isRest_27 l_Fs_316 v_Fs_gain (Nat.le_of_ble_eq_true rfl) (Nat.le_refl _) ⟨Nat.le_refl _, Nat.le_refl _⟩ (ow_mono T ?_)
      rintro r h' ⟨r17, I17, J17, R17, rfl, rfl, hR17, T⟩
      show ow_AW ow_Y0 (ow_Z Q) M_Fs_isRest (d + 1) 0 0 30 [(3, .int 0), (2, .int 0), (0, .int p1), (1, .int p2)] [.int r17] (85, I17, J17, R17) 0 0
      refine ow_iload_n 2 rfl d_Fs_isRest_30 ?_
      refine ow_iload_n 1 rfl d_Fs_isRest_31 ?_
      refine ow_if_ne (tgt := 39) d_Fs_isRest_32 (by decide) (fun c => ?_) (fun c => ?_)
      · exact absurd c (by decide)
      · clear c
        refine ow_iconst (v := 1) (by decide) d_Fs_isRest_35 ?_
        refine ow_goto (tgt := 40) d_Fs_isRest_36 (by decide) ?_
        refine ow_iload_n 0 rfl d_Fs_isRest_40 ?_
        refine ow_callS (As := [.int p1, .int 1, .int 0]) (rest := [.int r17]) (d2 := d) d_Fs_isRest_41 l_Fs_316 v_Fs_gain (Nat.le_of_ble_eq_true rfl) (Nat.le_refl _) ⟨Nat.le_refl _, Nat.le_refl _⟩ (ow_mono T ?_)
        rintro r h' ⟨r18, I18, J18, R18, rfl, rfl, hR18, T⟩
        show ow_AW ow_Y0 (ow_Z Q) M_Fs_isRest (d + 1) 0 0 44 [(3, .int 0), (2, .int 0), (0, .int p1), (1, .int p2)] [.int r18, .int r17] (85, I18, J18, R18) 0 0
        refine ow_icmp_lt (tgt := 74) d_Fs_isRest_44 (by decide) (fun c => ?_) (fun c => ?_)
        · replace T := T.1 c
          refine ow_iconst (v := 0) (by decide) d_Fs_isRest_74 ?_
          exact ow_zret d_Fs_isRest_75 rfl (by decide) T
        · replace T := T.2 c
          refine ow_iload_n 2 rfl d_Fs_isRest_47 ?_
          refine ow_iload_n 0 rfl d_Fs_isRest_48 ?_
          refine ow_iload_n 1 rfl d_Fs_isRest_49 ?_
          refine ow_callS (As := [.int p1, .int 0, .int 0]) (rest := []) (d2 := d) d_Fs_isRest_50 l_Fs_316 v_Fs_gain (Nat.le_of_ble_eq_true rfl) (Nat.le_refl _) ⟨Nat.le_refl _, Nat.le_refl _⟩ (ow_mono T ?_)
          rintro r h' ⟨r19, I19, J19, R19, rfl, rfl, hR19, T⟩
          show ow_AW ow_Y0 (ow_Z Q) M_Fs_isRest (d + 1) 0 0 53 [(3, .int 0), (2, .int 0), (0, .int p1), (1, .int p2)] [.int r19] (85, I19, J19, R19) 0 0
          refine ow_iload_n 2 rfl d_Fs_isRest_53 ?_
          refine ow_iload_n 0 rfl d_Fs_isRest_54 ?_
          refine ow_if_ne (tgt := 62) d_Fs_isRest_55 (by decide) (fun c => ?_) (fun c => ?_)
          · exact absurd c (by decide)
          · clear c
            refine ow_iconst (v := 1) (by decide) d_Fs_isRest_58 ?_
            refine ow_goto (tgt := 63) d_Fs_isRest_59 (by decide) ?_
            refine ow_iload_n 1 rfl d_Fs_isRest_63 ?_
            refine ow_callS (As := [.int p1, .int 1, .int 0]) (rest := [.int r19]) (d2 := d) d_Fs_isRest_64 l_Fs_316 v_Fs_gain (Nat.le_of_ble_eq_true rfl) (Nat.le_refl _) ⟨Nat.le_refl _, Nat.le_refl _⟩ (ow_mono T ?_)
            rintro r h' ⟨r20, I20, J20, R20, rfl, rfl, hR20, T⟩
            show ow_AW ow_Y0 (ow_Z Q) M_Fs_isRest (d + 1) 0 0 67 [(3, .int 0), (2, .int 0), (0, .int p1), (1, .int p2)] [.int r20, .int r19] (85, I20, J20, R20) 0 0
            refine ow_icmp_lt (tgt := 74) d_Fs_isRest_67 (by decide) (fun c => ?_) (fun c => ?_)
            · replace T := T.1 c
              refine ow_iconst (v := 0) (by decide) d_Fs_isRest_74 ?_
              exact ow_zret d_Fs_isRest_75 rfl (by decide) T
            · replace T := T.2 c
              refine ow_iconst (v := 1) (by decide) d_Fs_isRest_70 ?_
              refine ow_goto (tgt := 75) d_Fs_isRest_71 (by decide) ?_
              exact ow_zret d_Fs_isRest_75 rfl (by decide) T
    · replace T := T.2 c
      refine ow_iconst (v := 1) (by decide) d_Fs_isRest_18 ?_
      refine ow_goto (tgt := 23) d_Fs_isRest_19 (by decide) ?_
      refine ow_istore_n (ls2 := [(3, .int 1), (2, .int 0), (0, .int p1), (1, .int p2)]) d_Fs_isRest_23 (by decide) rfl ?_
      refine ow_iload_n 2 rfl d_Fs_isRest_24 ?_
      refine ow_iload_n 1 rfl d_Fs_isRest_25 ?_
      refine ow_iload_n 0 rfl d_Fs_isRest_26 ?_
      refine ow_callS (As := [.int p1, .int 0, .int 1]) (rest := []) (d2 := d) d_Fs_isRest_27 l_Fs_316 v_Fs_gain (Nat.le_of_ble_eq_true rfl) (Nat.le_refl _) ⟨Nat.le_refl _, Nat.le_refl _⟩ (ow_mono T ?_)
      rintro r h' ⟨r21, I21, J21, R21, rfl, rfl, hR21, T⟩
      show ow_AW ow_Y0 (ow_Z Q) M_Fs_isRest (d + 1) 0 0 30 [(3, .int 1), (2, .int 0), (0, .int p1), (1, .int p2)] [.int r21] (85, I21, J21, R21) 0 0
      refine ow_iload_n 2 rfl d_Fs_isRest_30 ?_
      refine ow_iload_n 1 rfl d_Fs_isRest_31 ?_
      refine ow_if_ne (tgt := 39) d_Fs_isRest_32 (by decide) (fun c => ?_) (fun c => ?_)
      · exact absurd c (by decide)
      · clear c
        refine ow_iconst (v := 1) (by decide) d_Fs_isRest_35 ?_
        refine ow_goto (tgt := 40) d_Fs_isRest_36 (by decide) ?_
        refine ow_iload_n 0 rfl d_Fs_isRest_40 ?_
        refine ow_callS (As := [.int p1, .int 1, .int 1]) (rest := [.int r21]) (d2 := d) d_Fs_isRest_41 l_Fs_316 v_Fs_gain (Nat.le_of_ble_eq_true rfl) (Nat.le_refl _) ⟨Nat.le_refl _, Nat.le_refl _⟩ (ow_mono T ?_)
        rintro r h' ⟨r22, I22, J22, R22, rfl, rfl, hR22, T⟩
        show ow_AW ow_Y0 (ow_Z Q) M_Fs_isRest (d + 1) 0 0 44 [(3, .int 1), (2, .int 0), (0, .int p1), (1, .int p2)] [.int r22, .int r21] (85, I22, J22, R22) 0 0
        refine ow_icmp_lt (tgt := 74) d_Fs_isRest_44 (by decide) (fun c => ?_) (fun c => ?_)
        · replace T := T.1 c
          refine ow_iconst (v := 0) (by decide) d_Fs_isRest_74 ?_
          exact ow_zret d_Fs_isRest_75 rfl (by decide) T
        · replace T := T.2 c
          refine ow_iload_n 2 rfl d_Fs_isRest_47 ?_
          refine ow_iload_n 0 rfl d_Fs_isRest_48 ?_
          refine ow_iload_n 1 rfl d_Fs_isRest_49 ?_
          refine ow_callS (As := [.int p1, .int 1, .int 0]) (rest := []) (d2 := d) d_Fs_isRest_50 l_Fs_316 v_Fs_gain (Nat.le_of_ble_eq_true rfl) (Nat.le_refl _) ⟨Nat.le_refl _, Nat.le_refl _⟩ (ow_mono T ?_)
          rintro r h' ⟨r23, I23, J23, R23, rfl, rfl, hR23, T⟩
          show ow_AW ow_Y0 (ow_Z Q) M_Fs_isRest (d + 1) 0 0 53 [(3, .int 1), (2, .int 0), (0, .int p1), (1, .int p2)] [.int r23] (85, I23, J23, R23) 0 0
          refine ow_iload_n 2 rfl d_Fs_isRest_53 ?_
          refine ow_iload_n 0 rfl d_Fs_isRest_54 ?_
          refine ow_if_ne (tgt := 62) d_Fs_isRest_55 (by decide) (fun c => ?_) (fun c => ?_)
          · clear c
            refine ow_iconst (v := 0) (by decide) d_Fs_isRest_62 ?_
            refine ow_iload_n 1 rfl d_Fs_isRest_63 ?_
            refine ow_callS (As := [.int p1, .int 0, .int 0]) (rest := [.int r23]) (d2 := d) d_Fs_isRest_64 l_Fs_316 v_Fs_gain (Nat.le_of_ble_eq_true rfl) (Nat.le_refl _) ⟨Nat.le_refl _, Nat.le_refl _⟩ (ow_mono T ?_)
            rintro r h' ⟨r24, I24, J24, R24, rfl, rfl, hR24, T⟩
            show ow_AW ow_Y0 (ow_Z Q) M_Fs_isRest (d + 1) 0 0 67 [(3, .int 1), (2, .int 0), (0, .int p1), (1, .int p2)] [.int r24, .int r23] (85, I24, J24, R24) 0 0
            refine ow_icmp_lt (tgt := 74) d_Fs_isRest_67 (by decide) (fun c => ?_) (fun c => ?_)
            · replace T := T.1 c
              refine ow_iconst (v := 0) (by decide) d_Fs_isRest_74 ?_
              exact ow_zret d_Fs_isRest_75 rfl (by decide) T
            · replace T := T.2 c
              refine ow_iconst (v := 1) (by decide) d_Fs_isRest_70 ?_
              refine ow_goto (tgt := 75) d_Fs_isRest_71 (by decide) ?_
              exact ow_zret d_Fs_isRest_75 rfl (by decide) T
          · exact absurd c (by decide)
  · replace T := T.2 c
    refine ow_iconst (v := 1) (by decide) d_Fs_isRest_6 ?_
    refine ow_goto (tgt := 11) d_Fs_isRest_7 (by decide) ?_
    refine ow_istore_n (ls2 := [(2, .int 1), (0, .int p1), (1, .int p2)]) d_Fs_isRest_11 (by decide) rfl ?_
    refine ow_iload_n 2 rfl d_Fs_isRest_12 ?_
    refine ow_iconst (v := 1) (by decide) d_Fs_isRest_13 ?_
    refine ow_iand d_Fs_isRest_14 ?_
    refine ow_if_eq (tgt := 22) d_Fs_isRest_15 (by decide) (fun c => ?_) (fun c => ?_)
    · replace T := T.1 c
      refine ow_iconst (v := 0) (by decide) d_Fs_isRest_22 ?_
      refine ow_istore_n (ls2 := [(3, .int 0), (2, .int 1), (0, .int p1), (1, .int p2)]) d_Fs_isRest_23 (by decide) rfl ?_
      refine ow_iload_n 2 rfl d_Fs_isRest_24 ?_
      refine ow_iload_n 1 rfl d_Fs_isRest_25 ?_
      refine ow_iload_n 0 rfl d_Fs_isRest_26 ?_
      refine ow_callS (As := [.int p1, .int 1, .int 0]) (rest := []) (d2 := d) d_Fs_isRest_27 l_Fs_316 v_Fs_gain (Nat.le_of_ble_eq_true rfl) (Nat.le_refl _) ⟨Nat.le_refl _, Nat.le_refl _⟩ (ow_mono T ?_)
      rintro r h' ⟨r25, I25, J25, R25, rfl, rfl, hR25, T⟩
      show ow_AW ow_Y0 (ow_Z Q) M_Fs_isRest (d + 1) 0 0 30 [(3, .int 0), (2, .int 1), (0, .int p1), (1, .int p2)] [.int r25] (85, I25, J25, R25) 0 0
      refine ow_iload_n 2 rfl d_Fs_isRest_30 ?_
      refine ow_iload_n 1 rfl d_Fs_isRest_31 ?_
      refine ow_if_ne (tgt := 39) d_Fs_isRest_32 (by decide) (fun c => ?_) (fun c => ?_)
      · clear c
        refine ow_iconst (v := 0) (by decide) d_Fs_isRest_39 ?_
        refine ow_iload_n 0 rfl d_Fs_isRest_40 ?_
        refine ow_callS (As := [.int p1, .int 0, .int 0]) (rest := [.int r25]) (d2 := d) d_Fs_isRest_41 l_Fs_316 v_Fs_gain (Nat.le_of_ble_eq_true rfl) (Nat.le_refl _) ⟨Nat.le_refl _, Nat.le_refl _⟩ (ow_mono T ?_)
        rintro r h' ⟨r26, I26, J26, R26, rfl, rfl, hR26, T⟩
        show ow_AW ow_Y0 (ow_Z Q) M_Fs_isRest (d + 1) 0 0 44 [(3, .int 0), (2, .int 1), (0, .int p1), (1, .int p2)] [.int r26, .int r25] (85, I26, J26, R26) 0 0
        refine ow_icmp_lt (tgt := 74) d_Fs_isRest_44 (by decide) (fun c => ?_) (fun c => ?_)
        · replace T := T.1 c
          refine ow_iconst (v := 0) (by decide) d_Fs_isRest_74 ?_
          exact ow_zret d_Fs_isRest_75 rfl (by decide) T
        · replace T := T.2 c
          refine ow_iload_n 2 rfl d_Fs_isRest_47 ?_
          refine ow_iload_n 0 rfl d_Fs_isRest_48 ?_
          refine ow_iload_n 1 rfl d_Fs_isRest_49 ?_
          refine ow_callS (As := [.int p1, .int 0, .int 1]) (rest := []) (d2 := d) d_Fs_isRest_50 l_Fs_316 v_Fs_gain (Nat.le_of_ble_eq_true rfl) (Nat.le_refl _) ⟨Nat.le_refl _, Nat.le_refl _⟩ (ow_mono T ?_)
          rintro r h' ⟨r27, I27, J27, R27, rfl, rfl, hR27, T⟩
          show ow_AW ow_Y0 (ow_Z Q) M_Fs_isRest (d + 1) 0 0 53 [(3, .int 0), (2, .int 1), (0, .int p1), (1, .int p2)] [.int r27] (85, I27, J27, R27) 0 0
          refine ow_iload_n 2 rfl d_Fs_isRest_53 ?_
          refine ow_iload_n 0 rfl d_Fs_isRest_54 ?_
          refine ow_if_ne (tgt := 62) d_Fs_isRest_55 (by decide) (fun c => ?_) (fun c => ?_)
          · exact absurd c (by decide)
          · clear c
            refine ow_iconst (v := 1) (by decide) d_Fs_isRest_58 ?_
            refine ow_goto (tgt := 63) d_Fs_isRest_59 (by decide) ?_
            refine ow_iload_n 1 rfl d_Fs_isRest_63 ?_
            refine ow_callS (As := [.int p1, .int 1, .int 1]) (rest := [.int r27]) (d2 := d) d_Fs_isRest_64 l_Fs_316 v_Fs_gain (Nat.le_of_ble_eq_true rfl) (Nat.le_refl _) ⟨Nat.le_refl _, Nat.le_refl _⟩ (ow_mono T ?_)
            rintro r h' ⟨r28, I28, J28, R28, rfl, rfl, hR28, T⟩
            show ow_AW ow_Y0 (ow_Z Q) M_Fs_isRest (d + 1) 0 0 67 [(3, .int 0), (2, .int 1), (0, .int p1), (1, .int p2)] [.int r28, .int r27] (85, I28, J28, R28) 0 0
            refine ow_icmp_lt (tgt := 74) d_Fs_isRest_67 (by decide) (fun c => ?_) (fun c => ?_)
            · replace T := T.1 c
              refine ow_iconst (v := 0) (by decide) d_Fs_isRest_74 ?_
              exact ow_zret d_Fs_isRest_75 rfl (by decide) T
            · replace T := T.2 c
              refine ow_iconst (v := 1) (by decide) d_Fs_isRest_70 ?_
              refine ow_goto (tgt := 75) d_Fs_isRest_71 (by decide) ?_
              exact ow_zret d_Fs_isRest_75 rfl (by decide) T
      · exact absurd c (by decide)
    · replace T := T.2 c
      refine ow_iconst (v := 1) (by decide) d_Fs_isRest_18 ?_
      refine ow_goto (tgt := 23) d_Fs_isRest_19 (by decide) ?_
      refine ow_istore_n (ls2 := [(3, .int 1), (2, .int 1), (0, .int p1), (1, .int p2)]) d_Fs_isRest_23 (by decide) rfl ?_
      refine ow_iload_n 2 rfl d_Fs_isRest_24 ?_
      refine ow_iload_n 1 rfl d_Fs_isRest_25 ?_
      refine ow_iload_n 0 rfl d_Fs_isRest_26 ?_
      refine ow_callS (As := [.int p1, .int 1, .int 1]) (rest := []) (d2 := d) d_Fs_isRest_27 l_Fs_316 v_Fs_gain (Nat.le_of_ble_eq_true rfl) (Nat.le_refl _) ⟨Nat.le_refl _, Nat.le_refl _⟩ (ow_mono T ?_)
      rintro r h' ⟨r29, I29, J29, R29, rfl, rfl, hR29, T⟩
      show ow_AW ow_Y0 (ow_Z Q) M_Fs_isRest (d + 1) 0 0 30 [(3, .int 1), (2, .int 1), (0, .int p1), (1, .int p2)] [.int r29] (85, I29, J29, R29) 0 0
      refine ow_iload_n 2 rfl d_Fs_isRest_30 ?_
      refine ow_iload_n 1 rfl d_Fs_isRest_31 ?_
      refine ow_if_ne (tgt := 39) d_Fs_isRest_32 (by decide) (fun c => ?_) (fun c => ?_)
      · clear c
        refine ow_iconst (v := 0) (by decide) d_Fs_isRest_39 ?_
        refine ow_iload_n 0 rfl d_Fs_isRest_40 ?_
        refine ow_callS (As := [.int p1, .int 0, .int 1]) (rest := [.int r29]) (d2 := d) d_Fs_isRest_41 l_Fs_316 v_Fs_gain (Nat.le_of_ble_eq_true rfl) (Nat.le_refl _) ⟨Nat.le_refl _, Nat.le_refl _⟩ (ow_mono T ?_)
        rintro r h' ⟨r30, I30, J30, R30, rfl, rfl, hR30, T⟩
        show ow_AW ow_Y0 (ow_Z Q) M_Fs_isRest (d + 1) 0 0 44 [(3, .int 1), (2, .int 1), (0, .int p1), (1, .int p2)] [.int r30, .int r29] (85, I30, J30, R30) 0 0
        refine ow_icmp_lt (tgt := 74) d_Fs_isRest_44 (by decide) (fun c => ?_) (fun c => ?_)
        · replace T := T.1 c
          refine ow_iconst (v := 0) (by decide) d_Fs_isRest_74 ?_
          exact ow_zret d_Fs_isRest_75 rfl (by decide) T
        · replace T := T.2 c
          refine ow_iload_n 2 rfl d_Fs_isRest_47 ?_
          refine ow_iload_n 0 rfl d_Fs_isRest_48 ?_
          refine ow_iload_n 1 rfl d_Fs_isRest_49 ?_
          refine ow_callS (As := [.int p1, .int 1, .int 1]) (rest := []) (d2 := d) d_Fs_isRest_50 l_Fs_316 v_Fs_gain (Nat.le_of_ble_eq_true rfl) (Nat.le_refl _) ⟨Nat.le_refl _, Nat.le_refl _⟩ (ow_mono T ?_)
          rintro r h' ⟨r31, I31, J31, R31, rfl, rfl, hR31, T⟩
          show ow_AW ow_Y0 (ow_Z Q) M_Fs_isRest (d + 1) 0 0 53 [(3, .int 1), (2, .int 1), (0, .int p1), (1, .int p2)] [.int r31] (85, I31, J31, R31) 0 0
          refine ow_iload_n 2 rfl d_Fs_isRest_53 ?_
          refine ow_iload_n 0 rfl d_Fs_isRest_54 ?_
          refine ow_if_ne (tgt := 62) d_Fs_isRest_55 (by decide) (fun c => ?_) (fun c => ?_)
          · clear c
            refine ow_iconst (v := 0) (by decide) d_Fs_isRest_62 ?_
            refine ow_iload_n 1 rfl d_Fs_isRest_63 ?_
            refine ow_callS (As := [.int p1, .int 0, .int 1]) (rest := [.int r31]) (d2 := d) d_Fs_isRest_64 l_Fs_316 v_Fs_gain (Nat.le_of_ble_eq_true rfl) (Nat.le_refl _) ⟨Nat.le_refl _, Nat.le_refl _⟩ (ow_mono T ?_)
            rintro r h' ⟨r32, I32, J32, R32, rfl, rfl, hR32, T⟩
            show ow_AW ow_Y0 (ow_Z Q) M_Fs_isRest (d + 1) 0 0 67 [(3, .int 1), (2, .int 1), (0, .int p1), (1, .int p2)] [.int r32, .int r31] (85, I32, J32, R32) 0 0
            refine ow_icmp_lt (tgt := 74) d_Fs_isRest_67 (by decide) (fun c => ?_) (fun c => ?_)
            · replace T := T.1 c
              refine ow_iconst (v := 0) (by decide) d_Fs_isRest_74 ?_
              exact ow_zret d_Fs_isRest_75 rfl (by decide) T
            · replace T := T.2 c
              refine ow_iconst (v := 1) (by decide) d_Fs_isRest_70 ?_
              refine ow_goto (tgt := 75) d_Fs_isRest_71 (by decide) ?_
              exact ow_zret d_Fs_isRest_75 rfl (by decide) T
          · exact absurd c (by decide)
      · exact absurd c (by decide)
set_option maxRecDepth 4000 in
theorem t_Fs_inLowestTerms_9 {d : Nat} {I : Nat → Nat → Int32} {J : Nat → Nat → Int64} {R : Nat → Nat → Option Nat} {Q : Option Value → ow_H → Prop}  {v0 : Int64} {v2 : Int64} {v4 : Int32} {v5 : Int64} {v7 : Int64} {v9 : Int32}  (hR : ow_RF R) (T : ((200 ≤ v9 → ((¬ (lg_cmp v5 0) = 0 → ((v4 = 0 → (¬ v5 = 0 ∧ Q (some (.long (v0 / v5))) (85, I, J, R))) ∧ (¬ v4 = 0 → (¬ v5 = 0 ∧ Q (some (.long (v2 / v5))) (85, I, J, R))))) ∧ ((lg_cmp v5 0) = 0 → Q (some (.long (-1))) (85, I, J, R)))) ∧ (¬ 200 ≤ v9 → (((lg_cmp v7 0) = 0 → ((¬ (lg_cmp v5 0) = 0 → ((v4 = 0 → (¬ v5 = 0 ∧ Q (some (.long (v0 / v5))) (85, I, J, R))) ∧ (¬ v4 = 0 → (¬ v5 = 0 ∧ Q (some (.long (v2 / v5))) (85, I, J, R))))) ∧ ((lg_cmp v5 0) = 0 → Q (some (.long (-1))) (85, I, J, R)))) ∧ (¬ (lg_cmp v7 0) = 0 → (¬ v7 = 0 ∧ ow_AW ow_Y0 (ow_Z Q) M_Fs_inLowestTerms (d + 1) 0 0 9 [(0, .long v0), (2, .long v2), (4, .int v4), (5, .long v7), (7, .long (v5 - v5 / v7 * v7)), (9, .int (v9 + 1))] [] (85, I, J, R) 0 0)))))) : ow_AW ow_Y0 (ow_Z Q) M_Fs_inLowestTerms (d + 1) 0 0 9 [(0, .long v0), (2, .long v2), (4, .int v4), (5, .long v5), (7, .long v7), (9, .int v9)] [] (85, I, J, R) 0 0 := by
  refine ow_iload 5 rfl d_Fs_inLowestTerms_9 ?_
  refine ow_sipush (v := 200) (by decide) d_Fs_inLowestTerms_11 ?_
  refine ow_icmp_ge (tgt := 45) d_Fs_inLowestTerms_14 (by decide) (fun c => ?_) (fun c => ?_)
  · replace T := T.1 c
    refine ow_lload 3 rfl d_Fs_inLowestTerms_45 ?_
    refine ow_lconst (v := 0) (by decide) d_Fs_inLowestTerms_47 ?_
    refine ow_lcmp d_Fs_inLowestTerms_48 ?_
    refine ow_if_ne (tgt := 56) d_Fs_inLowestTerms_49 (by decide) (fun c => ?_) (fun c => ?_)
    · replace T := T.1 c
      refine ow_iload 2 rfl d_Fs_inLowestTerms_56 ?_
      refine ow_if_eq (tgt := 65) d_Fs_inLowestTerms_58 (by decide) (fun c => ?_) (fun c => ?_)
      · replace T := T.1 c
        refine ow_lload_n 0 rfl d_Fs_inLowestTerms_65 ?_
        refine ow_lload 3 rfl d_Fs_inLowestTerms_66 ?_
        obtain ⟨c, T⟩ := T
        refine ow_ldiv c d_Fs_inLowestTerms_68 ?_
        exact ow_lret d_Fs_inLowestTerms_69 rfl T
      · replace T := T.2 c
        refine ow_lload_n 1 rfl d_Fs_inLowestTerms_61 ?_
        refine ow_goto (tgt := 66) d_Fs_inLowestTerms_62 (by decide) ?_
        refine ow_lload 3 rfl d_Fs_inLowestTerms_66 ?_
        obtain ⟨c, T⟩ := T
        refine ow_ldiv c d_Fs_inLowestTerms_68 ?_
        exact ow_lret d_Fs_inLowestTerms_69 rfl T
    · replace T := T.2 c
      refine ow_ldc2 (v := (-1)) d_Fs_inLowestTerms_52 k_Fs_301 ?_
      exact ow_lret d_Fs_inLowestTerms_55 rfl T
  · replace T := T.2 c
    refine ow_lload 4 rfl d_Fs_inLowestTerms_17 ?_
    refine ow_lconst (v := 0) (by decide) d_Fs_inLowestTerms_19 ?_
    refine ow_lcmp d_Fs_inLowestTerms_20 ?_
    refine ow_if_eq (tgt := 45) d_Fs_inLowestTerms_21 (by decide) (fun c => ?_) (fun c => ?_)
    · replace T := T.1 c
      refine ow_lload 3 rfl d_Fs_inLowestTerms_45 ?_
      refine ow_lconst (v := 0) (by decide) d_Fs_inLowestTerms_47 ?_
      refine ow_lcmp d_Fs_inLowestTerms_48 ?_
      refine ow_if_ne (tgt := 56) d_Fs_inLowestTerms_49 (by decide) (fun c => ?_) (fun c => ?_)
      · replace T := T.1 c
        refine ow_iload 2 rfl d_Fs_inLowestTerms_56 ?_
        refine ow_if_eq (tgt := 65) d_Fs_inLowestTerms_58 (by decide) (fun c => ?_) (fun c => ?_)
        · replace T := T.1 c
          refine ow_lload_n 0 rfl d_Fs_inLowestTerms_65 ?_
          refine ow_lload 3 rfl d_Fs_inLowestTerms_66 ?_
          obtain ⟨c, T⟩ := T
          refine ow_ldiv c d_Fs_inLowestTerms_68 ?_
          exact ow_lret d_Fs_inLowestTerms_69 rfl T
        · replace T := T.2 c
          refine ow_lload_n 1 rfl d_Fs_inLowestTerms_61 ?_
          refine ow_goto (tgt := 66) d_Fs_inLowestTerms_62 (by decide) ?_
          refine ow_lload 3 rfl d_Fs_inLowestTerms_66 ?_
          obtain ⟨c, T⟩ := T
          refine ow_ldiv c d_Fs_inLowestTerms_68 ?_
          exact ow_lret d_Fs_inLowestTerms_69 rfl T
      · replace T := T.2 c
        refine ow_ldc2 (v := (-1)) d_Fs_inLowestTerms_52 k_Fs_301 ?_
        exact ow_lret d_Fs_inLowestTerms_55 rfl T
    · replace T := T.2 c
      refine ow_lload 3 rfl d_Fs_inLowestTerms_24 ?_
      refine ow_lload 4 rfl d_Fs_inLowestTerms_26 ?_
      obtain ⟨c, T⟩ := T
      refine ow_lrem c d_Fs_inLowestTerms_28 ?_
      refine ow_lstore (ls2 := [(10, .long (v5 - v5 / v7 * v7)), (0, .long v0), (2, .long v2), (4, .int v4), (5, .long v5), (7, .long v7), (9, .int v9)]) d_Fs_inLowestTerms_29 (by decide) rfl ?_
      refine ow_lload 5 rfl d_Fs_inLowestTerms_31 ?_
      refine ow_lstore (ls2 := [(5, .long v7), (10, .long (v5 - v5 / v7 * v7)), (0, .long v0), (2, .long v2), (4, .int v4), (7, .long v7), (9, .int v9)]) d_Fs_inLowestTerms_33 (by decide) rfl ?_
      refine ow_lload 1 rfl d_Fs_inLowestTerms_35 ?_
      refine ow_lstore (ls2 := [(7, .long (v5 - v5 / v7 * v7)), (5, .long v7), (10, .long (v5 - v5 / v7 * v7)), (0, .long v0), (2, .long v2), (4, .int v4), (9, .int v9)]) d_Fs_inLowestTerms_37 (by decide) rfl ?_
      refine ow_iinc 6 (v := (v9 + 1)) (ls2 := [(9, .int (v9 + 1)), (7, .long (v5 - v5 / v7 * v7)), (5, .long v7), (10, .long (v5 - v5 / v7 * v7)), (0, .long v0), (2, .long v2), (4, .int v4)]) d_Fs_inLowestTerms_39 rfl rfl (by decide) rfl ?_
      refine ow_goto (tgt := 9) d_Fs_inLowestTerms_42 (by decide) ?_
      refine ow_sub [4, 5, 6, 2, 1, 0] rfl ?_
      exact T
set_option maxRecDepth 4000 in
theorem t_Fs_inLowestTerms {d : Nat} {I : Nat → Nat → Int32} {J : Nat → Nat → Int64} {R : Nat → Nat → Option Nat} {Q : Option Value → ow_H → Prop} {p1 : Int64} {p2 : Int64} {p3 : Int32}  (hR : ow_RF R) (T : ow_AW ow_Y0 (ow_Z Q) M_Fs_inLowestTerms (d + 1) 0 0 9 [(0, .long p1), (2, .long p2), (4, .int p3), (5, .long p2), (7, .long p1), (9, .int 0)] [] (85, I, J, R) 0 0) : ow_AM M_Fs_inLowestTerms (d + 1) [.long p1, .long p2, .int p3] (85, I, J, R) Q := by
  refine ow_enter (by decide) (Nat.le_of_ble_eq_true rfl) ?_
  show ow_AW ow_Y0 (ow_Z Q) M_Fs_inLowestTerms (d + 1) 0 0 0 [(0, .long p1), (2, .long p2), (4, .int p3)] [] (85, I, J, R) 0 0
  refine ow_lload_n 1 rfl d_Fs_inLowestTerms_0 ?_
  refine ow_lstore (ls2 := [(5, .long p2), (0, .long p1), (2, .long p2), (4, .int p3)]) d_Fs_inLowestTerms_1 (by decide) rfl ?_
  refine ow_lload_n 1 rfl d_Fs_inLowestTerms_3 ?_
  refine ow_lstore (ls2 := [(7, .long p1), (5, .long p2), (0, .long p1), (2, .long p2), (4, .int p3)]) d_Fs_inLowestTerms_4 (by decide) rfl ?_
  refine ow_iconst (v := 0) (by decide) d_Fs_inLowestTerms_6 ?_
  refine ow_istore (ls2 := [(9, .int 0), (7, .long p1), (5, .long p2), (0, .long p1), (2, .long p2), (4, .int p3)]) d_Fs_inLowestTerms_7 (by decide) rfl ?_
  refine ow_sub [3, 4, 5, 2, 1, 0] rfl ?_
  exact T
