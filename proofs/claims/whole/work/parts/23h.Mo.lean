/-! Own rows, by program: Mo_image Mo_back Mo_led Mo_senders Mo_size Mo_trouble -/
theorem d_Mo_image_0 : decode M_Mo_image.2.1 0 = .ok (.aload_n 0, 1) := by decide +kernel
theorem d_Mo_image_1 : decode M_Mo_image.2.1 1 = .ok (.invokevirtual 154, 3) := by decide +kernel
theorem d_Mo_image_4 : decode M_Mo_image.2.1 4 = .ok (.aload_n 0, 1) := by decide +kernel
theorem d_Mo_image_5 : decode M_Mo_image.2.1 5 = .ok (.getfield 167, 3) := by decide +kernel
theorem d_Mo_image_8 : decode M_Mo_image.2.1 8 = .ok (.ifCond .ne 9, 3) := by decide +kernel
theorem d_Mo_image_11 : decode M_Mo_image.2.1 11 = .ok (.aload_n 0, 1) := by decide +kernel
theorem d_Mo_image_12 : decode M_Mo_image.2.1 12 = .ok (.iconst 1, 1) := by decide +kernel
theorem d_Mo_image_13 : decode M_Mo_image.2.1 13 = .ok (.invokevirtual 157, 3) := by decide +kernel
theorem d_Mo_image_16 : decode M_Mo_image.2.1 16 = .ok (.ireturn, 1) := by decide +kernel
theorem d_Mo_image_17 : decode M_Mo_image.2.1 17 = .ok (.aload_n 0, 1) := by decide +kernel
theorem d_Mo_image_18 : decode M_Mo_image.2.1 18 = .ok (.getfield 173, 3) := by decide +kernel
theorem d_Mo_image_21 : decode M_Mo_image.2.1 21 = .ok (.iconst 3, 1) := by decide +kernel
theorem d_Mo_image_22 : decode M_Mo_image.2.1 22 = .ok (.if_icmp .ne 9, 3) := by decide +kernel
theorem d_Mo_image_25 : decode M_Mo_image.2.1 25 = .ok (.aload_n 0, 1) := by decide +kernel
theorem d_Mo_image_26 : decode M_Mo_image.2.1 26 = .ok (.iconst 3, 1) := by decide +kernel
theorem d_Mo_image_27 : decode M_Mo_image.2.1 27 = .ok (.invokevirtual 157, 3) := by decide +kernel
theorem d_Mo_image_30 : decode M_Mo_image.2.1 30 = .ok (.ireturn, 1) := by decide +kernel
theorem d_Mo_image_31 : decode M_Mo_image.2.1 31 = .ok (.aload_n 0, 1) := by decide +kernel
theorem d_Mo_image_32 : decode M_Mo_image.2.1 32 = .ok (.getfield 32, 3) := by decide +kernel
theorem d_Mo_image_35 : decode M_Mo_image.2.1 35 = .ok (.iconst 0, 1) := by decide +kernel
theorem d_Mo_image_36 : decode M_Mo_image.2.1 36 = .ok (.aload_n 0, 1) := by decide +kernel
theorem d_Mo_image_37 : decode M_Mo_image.2.1 37 = .ok (.getfield 38, 3) := by decide +kernel
theorem d_Mo_image_40 : decode M_Mo_image.2.1 40 = .ok (.bipush 14, 2) := by decide +kernel
theorem d_Mo_image_42 : decode M_Mo_image.2.1 42 = .ok (.aload_n 0, 1) := by decide +kernel
theorem d_Mo_image_43 : decode M_Mo_image.2.1 43 = .ok (.getfield 173, 3) := by decide +kernel
theorem d_Mo_image_46 : decode M_Mo_image.2.1 46 = .ok (.imul, 1) := by decide +kernel
theorem d_Mo_image_47 : decode M_Mo_image.2.1 47 = .ok (.bipush 14, 2) := by decide +kernel
theorem d_Mo_image_49 : decode M_Mo_image.2.1 49 = .ok (.invokestatic 163, 3) := by decide +kernel
theorem d_Mo_image_52 : decode M_Mo_image.2.1 52 = .ok (.aload_n 0, 1) := by decide +kernel
theorem d_Mo_image_53 : decode M_Mo_image.2.1 53 = .ok (.dup, 1) := by decide +kernel
theorem d_Mo_image_54 : decode M_Mo_image.2.1 54 = .ok (.getfield 173, 3) := by decide +kernel
theorem d_Mo_image_57 : decode M_Mo_image.2.1 57 = .ok (.iconst 1, 1) := by decide +kernel
theorem d_Mo_image_58 : decode M_Mo_image.2.1 58 = .ok (.iadd, 1) := by decide +kernel
theorem d_Mo_image_59 : decode M_Mo_image.2.1 59 = .ok (.putfield 173, 3) := by decide +kernel
theorem d_Mo_image_62 : decode M_Mo_image.2.1 62 = .ok (.aload_n 0, 1) := by decide +kernel
theorem d_Mo_image_63 : decode M_Mo_image.2.1 63 = .ok (.getfield 173, 3) := by decide +kernel
theorem d_Mo_image_66 : decode M_Mo_image.2.1 66 = .ok (.iconst 1, 1) := by decide +kernel
theorem d_Mo_image_67 : decode M_Mo_image.2.1 67 = .ok (.isub, 1) := by decide +kernel
theorem d_Mo_image_68 : decode M_Mo_image.2.1 68 = .ok (.ireturn, 1) := by decide +kernel
theorem d_Mo_back_0 : decode M_Mo_back.2.1 0 = .ok (.aload_n 0, 1) := by decide +kernel
theorem d_Mo_back_1 : decode M_Mo_back.2.1 1 = .ok (.invokevirtual 154, 3) := by decide +kernel
theorem d_Mo_back_4 : decode M_Mo_back.2.1 4 = .ok (.iload_n 1, 1) := by decide +kernel
theorem d_Mo_back_5 : decode M_Mo_back.2.1 5 = .ok (.iconst 0, 1) := by decide +kernel
theorem d_Mo_back_6 : decode M_Mo_back.2.1 6 = .ok (.aload_n 0, 1) := by decide +kernel
theorem d_Mo_back_7 : decode M_Mo_back.2.1 7 = .ok (.getfield 173, 3) := by decide +kernel
theorem d_Mo_back_10 : decode M_Mo_back.2.1 10 = .ok (.iconst 1, 1) := by decide +kernel
theorem d_Mo_back_11 : decode M_Mo_back.2.1 11 = .ok (.isub, 1) := by decide +kernel
theorem d_Mo_back_12 : decode M_Mo_back.2.1 12 = .ok (.invokestatic 142, 3) := by decide +kernel
theorem d_Mo_back_15 : decode M_Mo_back.2.1 15 = .ok (.ifCond .ne 9, 3) := by decide +kernel
theorem d_Mo_back_18 : decode M_Mo_back.2.1 18 = .ok (.aload_n 0, 1) := by decide +kernel
theorem d_Mo_back_19 : decode M_Mo_back.2.1 19 = .ok (.iconst 1, 1) := by decide +kernel
theorem d_Mo_back_20 : decode M_Mo_back.2.1 20 = .ok (.invokevirtual 420, 3) := by decide +kernel
theorem d_Mo_back_23 : decode M_Mo_back.2.1 23 = .ok (.ireturn, 1) := by decide +kernel
theorem d_Mo_back_24 : decode M_Mo_back.2.1 24 = .ok (.aload_n 0, 1) := by decide +kernel
theorem d_Mo_back_25 : decode M_Mo_back.2.1 25 = .ok (.getfield 38, 3) := by decide +kernel
theorem d_Mo_back_28 : decode M_Mo_back.2.1 28 = .ok (.bipush 14, 2) := by decide +kernel
theorem d_Mo_back_30 : decode M_Mo_back.2.1 30 = .ok (.iload_n 1, 1) := by decide +kernel
theorem d_Mo_back_31 : decode M_Mo_back.2.1 31 = .ok (.imul, 1) := by decide +kernel
theorem d_Mo_back_32 : decode M_Mo_back.2.1 32 = .ok (.aload_n 0, 1) := by decide +kernel
theorem d_Mo_back_33 : decode M_Mo_back.2.1 33 = .ok (.getfield 32, 3) := by decide +kernel
theorem d_Mo_back_36 : decode M_Mo_back.2.1 36 = .ok (.iconst 0, 1) := by decide +kernel
theorem d_Mo_back_37 : decode M_Mo_back.2.1 37 = .ok (.bipush 14, 2) := by decide +kernel
theorem d_Mo_back_39 : decode M_Mo_back.2.1 39 = .ok (.invokestatic 163, 3) := by decide +kernel
theorem d_Mo_back_42 : decode M_Mo_back.2.1 42 = .ok (.aload_n 0, 1) := by decide +kernel
theorem d_Mo_back_43 : decode M_Mo_back.2.1 43 = .ok (.iconst 0, 1) := by decide +kernel
theorem d_Mo_back_44 : decode M_Mo_back.2.1 44 = .ok (.putfield 170, 3) := by decide +kernel
theorem d_Mo_back_47 : decode M_Mo_back.2.1 47 = .ok (.iconst 1, 1) := by decide +kernel
theorem d_Mo_back_48 : decode M_Mo_back.2.1 48 = .ok (.ireturn, 1) := by decide +kernel
theorem d_Mo_led_0 : decode M_Mo_led.2.1 0 = .ok (.iconst 0, 1) := by decide +kernel
theorem d_Mo_led_1 : decode M_Mo_led.2.1 1 = .ok (.istore_n 2, 1) := by decide +kernel
theorem d_Mo_led_2 : decode M_Mo_led.2.1 2 = .ok (.aload_n 0, 1) := by decide +kernel
theorem d_Mo_led_3 : decode M_Mo_led.2.1 3 = .ok (.getfield 167, 3) := by decide +kernel
theorem d_Mo_led_6 : decode M_Mo_led.2.1 6 = .ok (.ifCond .eq 7, 3) := by decide +kernel
theorem d_Mo_led_9 : decode M_Mo_led.2.1 9 = .ok (.aload_n 0, 1) := by decide +kernel
theorem d_Mo_led_10 : decode M_Mo_led.2.1 10 = .ok (.invokevirtual 281, 3) := by decide +kernel
theorem d_Mo_led_13 : decode M_Mo_led.2.1 13 = .ok (.iconst 0, 1) := by decide +kernel
theorem d_Mo_led_14 : decode M_Mo_led.2.1 14 = .ok (.istore_n 3, 1) := by decide +kernel
theorem d_Mo_led_15 : decode M_Mo_led.2.1 15 = .ok (.aload_n 0, 1) := by decide +kernel
theorem d_Mo_led_16 : decode M_Mo_led.2.1 16 = .ok (.getfield 167, 3) := by decide +kernel
theorem d_Mo_led_19 : decode M_Mo_led.2.1 19 = .ok (.ifCond .eq 52, 3) := by decide +kernel
theorem d_Mo_led_22 : decode M_Mo_led.2.1 22 = .ok (.iload_n 3, 1) := by decide +kernel
theorem d_Mo_led_23 : decode M_Mo_led.2.1 23 = .ok (.aload_n 0, 1) := by decide +kernel
theorem d_Mo_led_24 : decode M_Mo_led.2.1 24 = .ok (.getfield 20, 3) := by decide +kernel
theorem d_Mo_led_27 : decode M_Mo_led.2.1 27 = .ok (.iconst 3, 1) := by decide +kernel
theorem d_Mo_led_28 : decode M_Mo_led.2.1 28 = .ok (.iaload, 1) := by decide +kernel
theorem d_Mo_led_29 : decode M_Mo_led.2.1 29 = .ok (.if_icmp .ge 42, 3) := by decide +kernel
theorem d_Mo_led_32 : decode M_Mo_led.2.1 32 = .ok (.aload_n 0, 1) := by decide +kernel
theorem d_Mo_led_33 : decode M_Mo_led.2.1 33 = .ok (.aload_n 0, 1) := by decide +kernel
theorem d_Mo_led_34 : decode M_Mo_led.2.1 34 = .ok (.getfield 32, 3) := by decide +kernel
theorem d_Mo_led_37 : decode M_Mo_led.2.1 37 = .ok (.invokevirtual 284, 3) := by decide +kernel
theorem d_Mo_led_40 : decode M_Mo_led.2.1 40 = .ok (.iload_n 3, 1) := by decide +kernel
theorem d_Mo_led_41 : decode M_Mo_led.2.1 41 = .ok (.invokestatic 231, 3) := by decide +kernel
theorem d_Mo_led_44 : decode M_Mo_led.2.1 44 = .ok (.ifCond .eq 6, 3) := by decide +kernel
theorem d_Mo_led_47 : decode M_Mo_led.2.1 47 = .ok (.goto 18, 3) := by decide +kernel
theorem d_Mo_led_50 : decode M_Mo_led.2.1 50 = .ok (.iload_n 2, 1) := by decide +kernel
theorem d_Mo_led_51 : decode M_Mo_led.2.1 51 = .ok (.iload_n 1, 1) := by decide +kernel
theorem d_Mo_led_52 : decode M_Mo_led.2.1 52 = .ok (.if_icmp .ne 10, 3) := by decide +kernel
theorem d_Mo_led_55 : decode M_Mo_led.2.1 55 = .ok (.aload_n 0, 1) := by decide +kernel
theorem d_Mo_led_56 : decode M_Mo_led.2.1 56 = .ok (.iconst 0, 1) := by decide +kernel
theorem d_Mo_led_57 : decode M_Mo_led.2.1 57 = .ok (.putfield 53, 3) := by decide +kernel
theorem d_Mo_led_60 : decode M_Mo_led.2.1 60 = .ok (.iload_n 3, 1) := by decide +kernel
theorem d_Mo_led_61 : decode M_Mo_led.2.1 61 = .ok (.ireturn, 1) := by decide +kernel
theorem d_Mo_led_62 : decode M_Mo_led.2.1 62 = .ok (.iinc 2 1, 3) := by decide +kernel
theorem d_Mo_led_65 : decode M_Mo_led.2.1 65 = .ok (.iinc 3 1, 3) := by decide +kernel
theorem d_Mo_led_68 : decode M_Mo_led.2.1 68 = .ok (.goto (-53), 3) := by decide +kernel
theorem d_Mo_led_71 : decode M_Mo_led.2.1 71 = .ok (.aload_n 0, 1) := by decide +kernel
theorem d_Mo_led_72 : decode M_Mo_led.2.1 72 = .ok (.iconst 1, 1) := by decide +kernel
theorem d_Mo_led_73 : decode M_Mo_led.2.1 73 = .ok (.putfield 53, 3) := by decide +kernel
theorem d_Mo_led_76 : decode M_Mo_led.2.1 76 = .ok (.iconst 0, 1) := by decide +kernel
theorem d_Mo_led_77 : decode M_Mo_led.2.1 77 = .ok (.ireturn, 1) := by decide +kernel
theorem d_Mo_senders_0 : decode M_Mo_senders.2.1 0 = .ok (.iconst 0, 1) := by decide +kernel
theorem d_Mo_senders_1 : decode M_Mo_senders.2.1 1 = .ok (.istore_n 1, 1) := by decide +kernel
theorem d_Mo_senders_2 : decode M_Mo_senders.2.1 2 = .ok (.iconst 0, 1) := by decide +kernel
theorem d_Mo_senders_3 : decode M_Mo_senders.2.1 3 = .ok (.istore_n 2, 1) := by decide +kernel
theorem d_Mo_senders_4 : decode M_Mo_senders.2.1 4 = .ok (.iload_n 2, 1) := by decide +kernel
theorem d_Mo_senders_5 : decode M_Mo_senders.2.1 5 = .ok (.aload_n 0, 1) := by decide +kernel
theorem d_Mo_senders_6 : decode M_Mo_senders.2.1 6 = .ok (.getfield 20, 3) := by decide +kernel
theorem d_Mo_senders_9 : decode M_Mo_senders.2.1 9 = .ok (.iconst 2, 1) := by decide +kernel
theorem d_Mo_senders_10 : decode M_Mo_senders.2.1 10 = .ok (.iaload, 1) := by decide +kernel
theorem d_Mo_senders_11 : decode M_Mo_senders.2.1 11 = .ok (.if_icmp .ge 29, 3) := by decide +kernel
theorem d_Mo_senders_14 : decode M_Mo_senders.2.1 14 = .ok (.iload_n 1, 1) := by decide +kernel
theorem d_Mo_senders_15 : decode M_Mo_senders.2.1 15 = .ok (.aload_n 0, 1) := by decide +kernel
theorem d_Mo_senders_16 : decode M_Mo_senders.2.1 16 = .ok (.getfield 32, 3) := by decide +kernel
theorem d_Mo_senders_19 : decode M_Mo_senders.2.1 19 = .ok (.bipush 6, 2) := by decide +kernel
theorem d_Mo_senders_21 : decode M_Mo_senders.2.1 21 = .ok (.iload_n 2, 1) := by decide +kernel
theorem d_Mo_senders_22 : decode M_Mo_senders.2.1 22 = .ok (.iadd, 1) := by decide +kernel
theorem d_Mo_senders_23 : decode M_Mo_senders.2.1 23 = .ok (.iaload, 1) := by decide +kernel
theorem d_Mo_senders_24 : decode M_Mo_senders.2.1 24 = .ok (.ifCond .le 7, 3) := by decide +kernel
theorem d_Mo_senders_27 : decode M_Mo_senders.2.1 27 = .ok (.iconst 1, 1) := by decide +kernel
theorem d_Mo_senders_28 : decode M_Mo_senders.2.1 28 = .ok (.goto 4, 3) := by decide +kernel
theorem d_Mo_senders_31 : decode M_Mo_senders.2.1 31 = .ok (.iconst 0, 1) := by decide +kernel
theorem d_Mo_senders_32 : decode M_Mo_senders.2.1 32 = .ok (.iadd, 1) := by decide +kernel
theorem d_Mo_senders_33 : decode M_Mo_senders.2.1 33 = .ok (.istore_n 1, 1) := by decide +kernel
theorem d_Mo_senders_34 : decode M_Mo_senders.2.1 34 = .ok (.iinc 2 1, 3) := by decide +kernel
theorem d_Mo_senders_37 : decode M_Mo_senders.2.1 37 = .ok (.goto (-33), 3) := by decide +kernel
theorem d_Mo_senders_40 : decode M_Mo_senders.2.1 40 = .ok (.iload_n 1, 1) := by decide +kernel
theorem d_Mo_senders_41 : decode M_Mo_senders.2.1 41 = .ok (.ireturn, 1) := by decide +kernel
theorem d_Mo_size_0 : decode M_Mo_size.2.1 0 = .ok (.aload_n 0, 1) := by decide +kernel
theorem d_Mo_size_1 : decode M_Mo_size.2.1 1 = .ok (.iconst 0, 1) := by decide +kernel
theorem d_Mo_size_2 : decode M_Mo_size.2.1 2 = .ok (.putfield 53, 3) := by decide +kernel
theorem d_Mo_size_5 : decode M_Mo_size.2.1 5 = .ok (.iload_n 1, 1) := by decide +kernel
theorem d_Mo_size_6 : decode M_Mo_size.2.1 6 = .ok (.bipush 11, 2) := by decide +kernel
theorem d_Mo_size_8 : decode M_Mo_size.2.1 8 = .ok (.if_icmp .ne 8, 3) := by decide +kernel
theorem d_Mo_size_11 : decode M_Mo_size.2.1 11 = .ok (.aload_n 0, 1) := by decide +kernel
theorem d_Mo_size_12 : decode M_Mo_size.2.1 12 = .ok (.getfield 59, 3) := by decide +kernel
theorem d_Mo_size_15 : decode M_Mo_size.2.1 15 = .ok (.ireturn, 1) := by decide +kernel
theorem d_Mo_size_16 : decode M_Mo_size.2.1 16 = .ok (.aload_n 0, 1) := by decide +kernel
theorem d_Mo_size_17 : decode M_Mo_size.2.1 17 = .ok (.getfield 167, 3) := by decide +kernel
theorem d_Mo_size_20 : decode M_Mo_size.2.1 20 = .ok (.ifCond .ne 19, 3) := by decide +kernel
theorem d_Mo_size_23 : decode M_Mo_size.2.1 23 = .ok (.iload_n 1, 1) := by decide +kernel
theorem d_Mo_size_24 : decode M_Mo_size.2.1 24 = .ok (.iconst 0, 1) := by decide +kernel
theorem d_Mo_size_25 : decode M_Mo_size.2.1 25 = .ok (.bipush 10, 2) := by decide +kernel
theorem d_Mo_size_27 : decode M_Mo_size.2.1 27 = .ok (.invokestatic 142, 3) := by decide +kernel
theorem d_Mo_size_30 : decode M_Mo_size.2.1 30 = .ok (.ifCond .eq 7, 3) := by decide +kernel
theorem d_Mo_size_33 : decode M_Mo_size.2.1 33 = .ok (.iconst 0, 1) := by decide +kernel
theorem d_Mo_size_34 : decode M_Mo_size.2.1 34 = .ok (.goto 4, 3) := by decide +kernel
theorem d_Mo_size_37 : decode M_Mo_size.2.1 37 = .ok (.iconst (-1), 1) := by decide +kernel
theorem d_Mo_size_38 : decode M_Mo_size.2.1 38 = .ok (.ireturn, 1) := by decide +kernel
theorem d_Mo_size_39 : decode M_Mo_size.2.1 39 = .ok (.iload_n 1, 1) := by decide +kernel
theorem d_Mo_size_40 : decode M_Mo_size.2.1 40 = .ok (.tableswitch 110 0 10 #[60, 60, 60, 67, 72, 83, 83, 83, 92, 100, 105], 60) := by decide +kernel
theorem d_Mo_size_100 : decode M_Mo_size.2.1 100 = .ok (.aload_n 0, 1) := by decide +kernel
theorem d_Mo_size_101 : decode M_Mo_size.2.1 101 = .ok (.getfield 20, 3) := by decide +kernel
theorem d_Mo_size_104 : decode M_Mo_size.2.1 104 = .ok (.iload_n 1, 1) := by decide +kernel
theorem d_Mo_size_105 : decode M_Mo_size.2.1 105 = .ok (.iaload, 1) := by decide +kernel
theorem d_Mo_size_106 : decode M_Mo_size.2.1 106 = .ok (.ireturn, 1) := by decide +kernel
theorem d_Mo_size_107 : decode M_Mo_size.2.1 107 = .ok (.aload_n 0, 1) := by decide +kernel
theorem d_Mo_size_108 : decode M_Mo_size.2.1 108 = .ok (.invokevirtual 423, 3) := by decide +kernel
theorem d_Mo_size_111 : decode M_Mo_size.2.1 111 = .ok (.ireturn, 1) := by decide +kernel
theorem d_Mo_size_112 : decode M_Mo_size.2.1 112 = .ok (.aload_n 0, 1) := by decide +kernel
theorem d_Mo_size_113 : decode M_Mo_size.2.1 113 = .ok (.getfield 32, 3) := by decide +kernel
theorem d_Mo_size_116 : decode M_Mo_size.2.1 116 = .ok (.bipush 12, 2) := by decide +kernel
theorem d_Mo_size_118 : decode M_Mo_size.2.1 118 = .ok (.iaload, 1) := by decide +kernel
theorem d_Mo_size_119 : decode M_Mo_size.2.1 119 = .ok (.invokestatic 307, 3) := by decide +kernel
theorem d_Mo_size_122 : decode M_Mo_size.2.1 122 = .ok (.ireturn, 1) := by decide +kernel
theorem d_Mo_size_123 : decode M_Mo_size.2.1 123 = .ok (.aload_n 0, 1) := by decide +kernel
theorem d_Mo_size_124 : decode M_Mo_size.2.1 124 = .ok (.getfield 20, 3) := by decide +kernel
theorem d_Mo_size_127 : decode M_Mo_size.2.1 127 = .ok (.iload_n 1, 1) := by decide +kernel
theorem d_Mo_size_128 : decode M_Mo_size.2.1 128 = .ok (.iconst 2, 1) := by decide +kernel
theorem d_Mo_size_129 : decode M_Mo_size.2.1 129 = .ok (.isub, 1) := by decide +kernel
theorem d_Mo_size_130 : decode M_Mo_size.2.1 130 = .ok (.iaload, 1) := by decide +kernel
theorem d_Mo_size_131 : decode M_Mo_size.2.1 131 = .ok (.ireturn, 1) := by decide +kernel
theorem d_Mo_size_132 : decode M_Mo_size.2.1 132 = .ok (.aload_n 0, 1) := by decide +kernel
theorem d_Mo_size_133 : decode M_Mo_size.2.1 133 = .ok (.getfield 32, 3) := by decide +kernel
theorem d_Mo_size_136 : decode M_Mo_size.2.1 136 = .ok (.bipush 13, 2) := by decide +kernel
theorem d_Mo_size_138 : decode M_Mo_size.2.1 138 = .ok (.iaload, 1) := by decide +kernel
theorem d_Mo_size_139 : decode M_Mo_size.2.1 139 = .ok (.ireturn, 1) := by decide +kernel
theorem d_Mo_size_140 : decode M_Mo_size.2.1 140 = .ok (.aload_n 0, 1) := by decide +kernel
theorem d_Mo_size_141 : decode M_Mo_size.2.1 141 = .ok (.getfield 170, 3) := by decide +kernel
theorem d_Mo_size_144 : decode M_Mo_size.2.1 144 = .ok (.ireturn, 1) := by decide +kernel
theorem d_Mo_size_145 : decode M_Mo_size.2.1 145 = .ok (.aload_n 0, 1) := by decide +kernel
theorem d_Mo_size_146 : decode M_Mo_size.2.1 146 = .ok (.getfield 173, 3) := by decide +kernel
theorem d_Mo_size_149 : decode M_Mo_size.2.1 149 = .ok (.ireturn, 1) := by decide +kernel
theorem d_Mo_size_150 : decode M_Mo_size.2.1 150 = .ok (.iconst (-1), 1) := by decide +kernel
theorem d_Mo_size_151 : decode M_Mo_size.2.1 151 = .ok (.ireturn, 1) := by decide +kernel
theorem d_Mo_trouble_0 : decode M_Mo_trouble.2.1 0 = .ok (.aload_n 0, 1) := by decide +kernel
theorem d_Mo_trouble_1 : decode M_Mo_trouble.2.1 1 = .ok (.iconst 0, 1) := by decide +kernel
theorem d_Mo_trouble_2 : decode M_Mo_trouble.2.1 2 = .ok (.putfield 53, 3) := by decide +kernel
theorem d_Mo_trouble_5 : decode M_Mo_trouble.2.1 5 = .ok (.aload_n 0, 1) := by decide +kernel
theorem d_Mo_trouble_6 : decode M_Mo_trouble.2.1 6 = .ok (.getfield 56, 3) := by decide +kernel
theorem d_Mo_trouble_9 : decode M_Mo_trouble.2.1 9 = .ok (.ireturn, 1) := by decide +kernel
set_option maxRecDepth 4000 in
theorem t_Mo_image {d : Nat} {I : Nat → Nat → Int32} {J : Nat → Nat → Int64} {R : Nat → Nat → Option Nat} {Q : Option Value → ow_H → Prop}   (hR : ow_RF R) (T : (ow_AM M_Mo_good d [.ref 70] (85, I, J, R) (fun r h' => ∃ (I6 : Nat → Nat → Int32) (J6 : Nat → Nat → Int64) (R6 : Nat → Nat → Option Nat), r = none ∧ h' = (85, I6, J6, R6) ∧ ow_RF R6 ∧ ((¬ (I6 70 14) = 0 → ((¬ (I6 70 23) = 3 → (ow_AM M_Mo_copy d [.ref 77, .int 0, .ref 79, .int (14 * (I6 70 23)), .int 14] (85, I6, J6, R6) (fun r h' => ∃ (I7 : Nat → Nat → Int32) (J7 : Nat → Nat → Int64) (R7 : Nat → Nat → Option Nat), r = none ∧ h' = (85, I7, J7, R7) ∧ ow_RF R7 ∧ (∀ (I8 : Nat → Nat → Int32), I8 = ow_u I7 70 23 ((I7 70 23) + 1) → Q (some (.int ((I8 70 23) - 1))) (85, I8, J7, R7))))) ∧ ((I6 70 23) = 3 → (ow_AM M_Mo_no d [.ref 70, .int 3] (85, I6, J6, R6) (fun r h' => ∃ (r9 : Int32) (I9 : Nat → Nat → Int32) (J9 : Nat → Nat → Int64) (R9 : Nat → Nat → Option Nat), r = some (.int r9) ∧ h' = (85, I9, J9, R9) ∧ ow_RF R9 ∧ Q (some (.int r9)) (85, I9, J9, R9)))))) ∧ ((I6 70 14) = 0 → (ow_AM M_Mo_no d [.ref 70, .int 1] (85, I6, J6, R6) (fun r h' => ∃ (r10 : Int32) (I10 : Nat → Nat → Int32) (J10 : Nat → Nat → Int64) (R10 : Nat → Nat → Option Nat), r = some (.int r10) ∧ h' = (85, I10, J10, R10) ∧ ow_RF R10 ∧ Q (some (.int r10)) (85, I10, J10, R10)))))))) : ow_AM M_Mo_image (d + 1) [.ref 70] (85, I, J, R) Q := by
  refine ow_enter (by decide) (Nat.le_of_ble_eq_true rfl) ?_
  show ow_AW ow_Y0 (ow_Z Q) M_Mo_image (d + 1) 0 0 0 [(0, .ref 70)] [] (85, I, J, R) 0 0
  refine ow_aload_n 0 rfl d_Mo_image_0 ?_
  refine ow_callV (b := 70) (cq := 12) (As := []) (rest := []) (d2 := d) d_Mo_image_1 l_Mo_154 v_Mo_good (show 70 < 85 by decide) rfl (by decide) rfl (Nat.le_of_ble_eq_true rfl) (Nat.le_refl _) ⟨Nat.le_refl _, Nat.le_refl _⟩ (ow_mono T ?_)
  rintro r h' ⟨I6, J6, R6, rfl, rfl, hR6, T⟩
  show ow_AW ow_Y0 (ow_Z Q) M_Mo_image (d + 1) 0 0 4 [(0, .ref 70)] [] (85, I6, J6, R6) 0 0
  refine ow_aload_n 0 rfl d_Mo_image_4 ?_
  refine ow_gI 183 d_Mo_image_5 rfl rfl (by decide) rfl (Or.inr rfl) ?_
  refine ow_if_ne (tgt := 17) d_Mo_image_8 (by decide) (fun c => ?_) (fun c => ?_)
  · replace T := T.1 c
    refine ow_aload_n 0 rfl d_Mo_image_17 ?_
    refine ow_gI 192 d_Mo_image_18 rfl rfl (by decide) rfl (Or.inl rfl) ?_
    refine ow_iconst (v := 3) (by decide) d_Mo_image_21 ?_
    refine ow_icmp_ne (tgt := 31) d_Mo_image_22 (by decide) (fun c => ?_) (fun c => ?_)
    · replace T := T.1 c
      refine ow_aload_n 0 rfl d_Mo_image_31 ?_
      refine ow_gR (a := 77) 188 d_Mo_image_32 rfl rfl (by decide) rfl ⟨rfl, hR6 70 19 (by decide)⟩ ?_
      refine ow_iconst (v := 0) (by decide) d_Mo_image_35 ?_
      refine ow_aload_n 0 rfl d_Mo_image_36 ?_
      refine ow_gR (a := 79) 190 d_Mo_image_37 rfl rfl (by decide) rfl ⟨rfl, hR6 70 21 (by decide)⟩ ?_
      refine ow_bipush (v := 14) (by decide) d_Mo_image_40 ?_
      refine ow_aload_n 0 rfl d_Mo_image_42 ?_
      refine ow_gI 192 d_Mo_image_43 rfl rfl (by decide) rfl (Or.inl rfl) ?_
      refine ow_imul d_Mo_image_46 ?_
      refine ow_bipush (v := 14) (by decide) d_Mo_image_47 ?_
      refine ow_callS (As := [.ref 77, .int 0, .ref 79, .int (14 * (I6 70 23)), .int 14]) (rest := []) (d2 := d) d_Mo_image_49 l_Mo_163 v_Mo_copy (Nat.le_of_ble_eq_true rfl) (Nat.le_refl _) ⟨Nat.le_refl _, Nat.le_refl _⟩ (ow_mono T ?_)
      rintro r h' ⟨I7, J7, R7, rfl, rfl, hR7, T⟩
      show ow_AW ow_Y0 (ow_Z Q) M_Mo_image (d + 1) 0 0 52 [(0, .ref 70)] [] (85, I7, J7, R7) 0 0
      refine ow_aload_n 0 rfl d_Mo_image_52 ?_
      refine ow_dup rfl d_Mo_image_53 ?_
      refine ow_gI 192 d_Mo_image_54 rfl rfl (by decide) rfl (Or.inl rfl) ?_
      refine ow_iconst (v := 1) (by decide) d_Mo_image_57 ?_
      refine ow_iadd d_Mo_image_58 ?_
      refine ow_pI 192 d_Mo_image_59 rfl rfl (by decide) rfl rfl rfl ?_
      obtain ⟨I8, eI8⟩ : ∃ uu, uu = ow_u I7 70 23 ((I7 70 23) + 1) := ⟨_, rfl⟩
      replace T := T I8 eI8
      rw [← eI8]
      refine ow_aload_n 0 rfl d_Mo_image_62 ?_
      refine ow_gI 192 d_Mo_image_63 rfl rfl (by decide) rfl (Or.inl rfl) ?_
      refine ow_iconst (v := 1) (by decide) d_Mo_image_66 ?_
      refine ow_isub d_Mo_image_67 ?_
      exact ow_iret d_Mo_image_68 rfl T
    · replace T := T.2 c
      refine ow_aload_n 0 rfl d_Mo_image_25 ?_
      refine ow_iconst (v := 3) (by decide) d_Mo_image_26 ?_
      refine ow_callV (b := 70) (cq := 12) (As := [.int 3]) (rest := []) (d2 := d) d_Mo_image_27 l_Mo_157 v_Mo_no (show 70 < 85 by decide) rfl (by decide) rfl (Nat.le_of_ble_eq_true rfl) (Nat.le_refl _) ⟨Nat.le_refl _, Nat.le_refl _⟩ (ow_mono T ?_)
      rintro r h' ⟨r9, I9, J9, R9, rfl, rfl, hR9, T⟩
      show ow_AW ow_Y0 (ow_Z Q) M_Mo_image (d + 1) 0 0 30 [(0, .ref 70)] [.int r9] (85, I9, J9, R9) 0 0
      exact ow_iret d_Mo_image_30 rfl T
  · replace T := T.2 c
    refine ow_aload_n 0 rfl d_Mo_image_11 ?_
    refine ow_iconst (v := 1) (by decide) d_Mo_image_12 ?_
    refine ow_callV (b := 70) (cq := 12) (As := [.int 1]) (rest := []) (d2 := d) d_Mo_image_13 l_Mo_157 v_Mo_no (show 70 < 85 by decide) rfl (by decide) rfl (Nat.le_of_ble_eq_true rfl) (Nat.le_refl _) ⟨Nat.le_refl _, Nat.le_refl _⟩ (ow_mono T ?_)
    rintro r h' ⟨r10, I10, J10, R10, rfl, rfl, hR10, T⟩
    show ow_AW ow_Y0 (ow_Z Q) M_Mo_image (d + 1) 0 0 16 [(0, .ref 70)] [.int r10] (85, I10, J10, R10) 0 0
    exact ow_iret d_Mo_image_16 rfl T
set_option maxRecDepth 4000 in
theorem t_Mo_back {d : Nat} {I : Nat → Nat → Int32} {J : Nat → Nat → Int64} {R : Nat → Nat → Option Nat} {Q : Option Value → ow_H → Prop} {p1 : Int32}  (hR : ow_RF R) (T : (ow_AM M_Mo_good d [.ref 70] (85, I, J, R) (fun r h' => ∃ (I6 : Nat → Nat → Int32) (J6 : Nat → Nat → Int64) (R6 : Nat → Nat → Option Nat), r = none ∧ h' = (85, I6, J6, R6) ∧ ow_RF R6 ∧ (ow_AM M_Mo_in d [.int p1, .int 0, .int ((I6 70 23) - 1)] (85, I6, J6, R6) (fun r h' => ∃ (r7 : Int32) (I7 : Nat → Nat → Int32) (J7 : Nat → Nat → Int64) (R7 : Nat → Nat → Option Nat), r = some (.int r7) ∧ h' = (85, I7, J7, R7) ∧ ow_RF R7 ∧ ((¬ r7 = 0 → (ow_AM M_Mo_copy d [.ref 79, .int (14 * p1), .ref 77, .int 0, .int 14] (85, I7, J7, R7) (fun r h' => ∃ (I8 : Nat → Nat → Int32) (J8 : Nat → Nat → Int64) (R8 : Nat → Nat → Option Nat), r = none ∧ h' = (85, I8, J8, R8) ∧ ow_RF R8 ∧ (∀ (I9 : Nat → Nat → Int32), I9 = ow_u I8 70 22 0 → Q (some (.int 1)) (85, I9, J8, R8))))) ∧ (r7 = 0 → (ow_AM M_Mo_isNot d [.ref 70, .int 1] (85, I7, J7, R7) (fun r h' => ∃ (r10 : Int32) (I10 : Nat → Nat → Int32) (J10 : Nat → Nat → Int64) (R10 : Nat → Nat → Option Nat), r = some (.int r10) ∧ h' = (85, I10, J10, R10) ∧ ow_RF R10 ∧ ((r10 = 0 ∨ r10 = 1) ∧ Q (some (.int r10)) (85, I10, J10, R10))))))))))) : ow_AM M_Mo_back (d + 1) [.ref 70, .int p1] (85, I, J, R) Q := by
  refine ow_enter (by decide) (Nat.le_of_ble_eq_true rfl) ?_
  show ow_AW ow_Y0 (ow_Z Q) M_Mo_back (d + 1) 0 0 0 [(0, .ref 70), (1, .int p1)] [] (85, I, J, R) 0 0
  refine ow_aload_n 0 rfl d_Mo_back_0 ?_
  refine ow_callV (b := 70) (cq := 12) (As := []) (rest := []) (d2 := d) d_Mo_back_1 l_Mo_154 v_Mo_good (show 70 < 85 by decide) rfl (by decide) rfl (Nat.le_of_ble_eq_true rfl) (Nat.le_refl _) ⟨Nat.le_refl _, Nat.le_refl _⟩ (ow_mono T ?_)
  rintro r h' ⟨I6, J6, R6, rfl, rfl, hR6, T⟩
  show ow_AW ow_Y0 (ow_Z Q) M_Mo_back (d + 1) 0 0 4 [(0, .ref 70), (1, .int p1)] [] (85, I6, J6, R6) 0 0
  refine ow_iload_n 1 rfl d_Mo_back_4 ?_
  refine ow_iconst (v := 0) (by decide) d_Mo_back_5 ?_
  refine ow_aload_n 0 rfl d_Mo_back_6 ?_
  refine ow_gI 192 d_Mo_back_7 rfl rfl (by decide) rfl (Or.inl rfl) ?_
  refine ow_iconst (v := 1) (by decide) d_Mo_back_10 ?_
  refine ow_isub d_Mo_back_11 ?_
  refine ow_callS (As := [.int p1, .int 0, .int ((I6 70 23) - 1)]) (rest := []) (d2 := d) d_Mo_back_12 l_Mo_142 v_Mo_in (Nat.le_of_ble_eq_true rfl) (Nat.le_refl _) ⟨Nat.le_refl _, Nat.le_refl _⟩ (ow_mono T ?_)
  rintro r h' ⟨r7, I7, J7, R7, rfl, rfl, hR7, T⟩
  show ow_AW ow_Y0 (ow_Z Q) M_Mo_back (d + 1) 0 0 15 [(0, .ref 70), (1, .int p1)] [.int r7] (85, I7, J7, R7) 0 0
  refine ow_if_ne (tgt := 24) d_Mo_back_15 (by decide) (fun c => ?_) (fun c => ?_)
  · replace T := T.1 c
    refine ow_aload_n 0 rfl d_Mo_back_24 ?_
    refine ow_gR (a := 79) 190 d_Mo_back_25 rfl rfl (by decide) rfl ⟨rfl, hR7 70 21 (by decide)⟩ ?_
    refine ow_bipush (v := 14) (by decide) d_Mo_back_28 ?_
    refine ow_iload_n 1 rfl d_Mo_back_30 ?_
    refine ow_imul d_Mo_back_31 ?_
    refine ow_aload_n 0 rfl d_Mo_back_32 ?_
    refine ow_gR (a := 77) 188 d_Mo_back_33 rfl rfl (by decide) rfl ⟨rfl, hR7 70 19 (by decide)⟩ ?_
    refine ow_iconst (v := 0) (by decide) d_Mo_back_36 ?_
    refine ow_bipush (v := 14) (by decide) d_Mo_back_37 ?_
    refine ow_callS (As := [.ref 79, .int (14 * p1), .ref 77, .int 0, .int 14]) (rest := []) (d2 := d) d_Mo_back_39 l_Mo_163 v_Mo_copy (Nat.le_of_ble_eq_true rfl) (Nat.le_refl _) ⟨Nat.le_refl _, Nat.le_refl _⟩ (ow_mono T ?_)
    rintro r h' ⟨I8, J8, R8, rfl, rfl, hR8, T⟩
    show ow_AW ow_Y0 (ow_Z Q) M_Mo_back (d + 1) 0 0 42 [(0, .ref 70), (1, .int p1)] [] (85, I8, J8, R8) 0 0
    refine ow_aload_n 0 rfl d_Mo_back_42 ?_
    refine ow_iconst (v := 0) (by decide) d_Mo_back_43 ?_
    refine ow_pI 191 d_Mo_back_44 rfl rfl (by decide) rfl rfl rfl ?_
    obtain ⟨I9, eI9⟩ : ∃ uu, uu = ow_u I8 70 22 0 := ⟨_, rfl⟩
    replace T := T I9 eI9
    rw [← eI9]
    refine ow_iconst (v := 1) (by decide) d_Mo_back_47 ?_
    exact ow_zret d_Mo_back_48 rfl (by decide) T
  · replace T := T.2 c
    refine ow_aload_n 0 rfl d_Mo_back_18 ?_
    refine ow_iconst (v := 1) (by decide) d_Mo_back_19 ?_
    refine ow_callV (b := 70) (cq := 12) (As := [.int 1]) (rest := []) (d2 := d) d_Mo_back_20 l_Mo_420 v_Mo_isNot (show 70 < 85 by decide) rfl (by decide) rfl (Nat.le_of_ble_eq_true rfl) (Nat.le_refl _) ⟨Nat.le_refl _, Nat.le_refl _⟩ (ow_mono T ?_)
    rintro r h' ⟨r10, I10, J10, R10, rfl, rfl, hR10, T⟩
    show ow_AW ow_Y0 (ow_Z Q) M_Mo_back (d + 1) 0 0 23 [(0, .ref 70), (1, .int p1)] [.int r10] (85, I10, J10, R10) 0 0
    exact ow_zret d_Mo_back_23 rfl T.1 T.2
set_option maxRecDepth 4000 in
theorem t_Mo_led_15 {d : Nat} {I : Nat → Nat → Int32} {J : Nat → Nat → Int64} {R : Nat → Nat → Option Nat} {Q : Option Value → ow_H → Prop}  {v1 : Int32} {v2 : Int32} {v3 : Int32}  (hR : ow_RF R) (T : (((I 70 14) = 0 → (∀ (I2 : Nat → Nat → Int32), I2 = ow_u I 70 0 1 → Q (some (.int 0)) (85, I2, J, R))) ∧ (¬ (I 70 14) = 0 → (((I 73 3) ≤ v3 → (∀ (I3 : Nat → Nat → Int32), I3 = ow_u I 70 0 1 → Q (some (.int 0)) (85, I3, J, R))) ∧ (¬ (I 73 3) ≤ v3 → (ow_AM M_Mo_servedOn d [.ref 70, .ref 77] (85, I, J, R) (fun r h' => ∃ (r4 : Int32) (I4 : Nat → Nat → Int32) (J4 : Nat → Nat → Int64) (R4 : Nat → Nat → Option Nat), r = some (.int r4) ∧ h' = (85, I4, J4, R4) ∧ ow_RF R4 ∧ (ow_AM M_Mo_hasBit d [.int r4, .int v3] (85, I4, J4, R4) (fun r h' => ∃ (r5 : Int32) (I5 : Nat → Nat → Int32) (J5 : Nat → Nat → Int64) (R5 : Nat → Nat → Option Nat), r = some (.int r5) ∧ h' = (85, I5, J5, R5) ∧ ow_RF R5 ∧ ((r5 = 0 → ((¬ v2 = v1 → ow_AW ow_Y0 (ow_Z Q) M_Mo_led (d + 1) 0 0 15 [(0, .ref 70), (1, .int v1), (2, .int (v2 + 1)), (3, .int (v3 + 1))] [] (85, I5, J5, R5) 0 0) ∧ (v2 = v1 → (∀ (I6 : Nat → Nat → Int32), I6 = ow_u I5 70 0 0 → Q (some (.int v3)) (85, I6, J5, R5))))) ∧ (¬ r5 = 0 → ow_AW ow_Y0 (ow_Z Q) M_Mo_led (d + 1) 0 0 15 [(0, .ref 70), (1, .int v1), (2, .int v2), (3, .int (v3 + 1))] [] (85, I5, J5, R5) 0 0))))))))))) : ow_AW ow_Y0 (ow_Z Q) M_Mo_led (d + 1) 0 0 15 [(0, .ref 70), (1, .int v1), (2, .int v2), (3, .int v3)] [] (85, I, J, R) 0 0 := by
  refine ow_aload_n 0 rfl d_Mo_led_15 ?_
  refine ow_gI 183 d_Mo_led_16 rfl rfl (by decide) rfl (Or.inr rfl) ?_
  refine ow_if_eq (tgt := 71) d_Mo_led_19 (by decide) (fun c => ?_) (fun c => ?_)
  · replace T := T.1 c
    refine ow_aload_n 0 rfl d_Mo_led_71 ?_
    refine ow_iconst (v := 1) (by decide) d_Mo_led_72 ?_
    refine ow_pI 169 d_Mo_led_73 rfl rfl (by decide) rfl rfl rfl ?_
    obtain ⟨I2, eI2⟩ : ∃ uu, uu = ow_u I 70 0 1 := ⟨_, rfl⟩
    replace T := T I2 eI2
    rw [← eI2]
    refine ow_iconst (v := 0) (by decide) d_Mo_led_76 ?_
    exact ow_iret d_Mo_led_77 rfl T
  · replace T := T.2 c
    refine ow_iload_n 3 rfl d_Mo_led_22 ?_
    refine ow_aload_n 0 rfl d_Mo_led_23 ?_
    refine ow_gR (a := 73) 184 d_Mo_led_24 rfl rfl (by decide) rfl ⟨rfl, hR 70 15 (by decide)⟩ ?_
    refine ow_iconst (v := 3) (by decide) d_Mo_led_27 ?_
    refine ow_hiaload d_Mo_led_28 (by decide) rfl rfl (show vp_in (3 : Int32) 146 by unfold vp_in; decide) ?_
    show ow_AW ow_Y0 (ow_Z Q) M_Mo_led (d + 1) 0 0 29 [(0, .ref 70), (1, .int v1), (2, .int v2), (3, .int v3)] [.int (I 73 3), .int v3] (85, I, J, R) 0 0
    refine ow_icmp_ge (tgt := 71) d_Mo_led_29 (by decide) (fun c => ?_) (fun c => ?_)
    · replace T := T.1 c
      refine ow_aload_n 0 rfl d_Mo_led_71 ?_
      refine ow_iconst (v := 1) (by decide) d_Mo_led_72 ?_
      refine ow_pI 169 d_Mo_led_73 rfl rfl (by decide) rfl rfl rfl ?_
      obtain ⟨I3, eI3⟩ : ∃ uu, uu = ow_u I 70 0 1 := ⟨_, rfl⟩
      replace T := T I3 eI3
      rw [← eI3]
      refine ow_iconst (v := 0) (by decide) d_Mo_led_76 ?_
      exact ow_iret d_Mo_led_77 rfl T
    · replace T := T.2 c
      refine ow_aload_n 0 rfl d_Mo_led_32 ?_
      refine ow_aload_n 0 rfl d_Mo_led_33 ?_
      refine ow_gR (a := 77) 188 d_Mo_led_34 rfl rfl (by decide) rfl ⟨rfl, hR 70 19 (by decide)⟩ ?_
      refine ow_callV (b := 70) (cq := 12) (As := [.ref 77]) (rest := []) (d2 := d) d_Mo_led_37 l_Mo_284 v_Mo_servedOn (show 70 < 85 by decide) rfl (by decide) rfl (Nat.le_of_ble_eq_true rfl) (Nat.le_refl _) ⟨Nat.le_refl _, Nat.le_refl _⟩ (ow_mono T ?_)
      rintro r h' ⟨r4, I4, J4, R4, rfl, rfl, hR4, T⟩
      show ow_AW ow_Y0 (ow_Z Q) M_Mo_led (d + 1) 0 0 40 [(0, .ref 70), (1, .int v1), (2, .int v2), (3, .int v3)] [.int r4] (85, I4, J4, R4) 0 0
      refine ow_iload_n 3 rfl d_Mo_led_40 ?_
      refine ow_callS (As := [.int r4, .int v3]) (rest := []) (d2 := d) d_Mo_led_41 l_Mo_231 v_Mo_hasBit (Nat.le_of_ble_eq_true rfl) (Nat.le_refl _) ⟨Nat.le_refl _, Nat.le_refl _⟩ (ow_mono T ?_)
      rintro r h' ⟨r5, I5, J5, R5, rfl, rfl, hR5, T⟩
      show ow_AW ow_Y0 (ow_Z Q) M_Mo_led (d + 1) 0 0 44 [(0, .ref 70), (1, .int v1), (2, .int v2), (3, .int v3)] [.int r5] (85, I5, J5, R5) 0 0
      refine ow_if_eq (tgt := 50) d_Mo_led_44 (by decide) (fun c => ?_) (fun c => ?_)
      · replace T := T.1 c
        refine ow_iload_n 2 rfl d_Mo_led_50 ?_
        refine ow_iload_n 1 rfl d_Mo_led_51 ?_
        refine ow_icmp_ne (tgt := 62) d_Mo_led_52 (by decide) (fun c => ?_) (fun c => ?_)
        · replace T := T.1 c
          refine ow_iinc 2 (v := (v2 + 1)) (ls2 := [(2, .int (v2 + 1)), (0, .ref 70), (1, .int v1), (3, .int v3)]) d_Mo_led_62 rfl rfl (by decide) rfl ?_
          refine ow_iinc 3 (v := (v3 + 1)) (ls2 := [(3, .int (v3 + 1)), (2, .int (v2 + 1)), (0, .ref 70), (1, .int v1)]) d_Mo_led_65 rfl rfl (by decide) rfl ?_
          refine ow_goto (tgt := 15) d_Mo_led_68 (by decide) ?_
          refine ow_sub [2, 3, 1, 0] rfl ?_
          exact T
        · replace T := T.2 c
          refine ow_aload_n 0 rfl d_Mo_led_55 ?_
          refine ow_iconst (v := 0) (by decide) d_Mo_led_56 ?_
          refine ow_pI 169 d_Mo_led_57 rfl rfl (by decide) rfl rfl rfl ?_
          obtain ⟨I6, eI6⟩ : ∃ uu, uu = ow_u I5 70 0 0 := ⟨_, rfl⟩
          replace T := T I6 eI6
          rw [← eI6]
          refine ow_iload_n 3 rfl d_Mo_led_60 ?_
          exact ow_iret d_Mo_led_61 rfl T
      · replace T := T.2 c
        refine ow_goto (tgt := 65) d_Mo_led_47 (by decide) ?_
        refine ow_iinc 3 (v := (v3 + 1)) (ls2 := [(3, .int (v3 + 1)), (0, .ref 70), (1, .int v1), (2, .int v2)]) d_Mo_led_65 rfl rfl (by decide) rfl ?_
        refine ow_goto (tgt := 15) d_Mo_led_68 (by decide) ?_
        refine ow_sub [1, 2, 3, 0] rfl ?_
        exact T
set_option maxRecDepth 4000 in
theorem t_Mo_led {d : Nat} {I : Nat → Nat → Int32} {J : Nat → Nat → Int64} {R : Nat → Nat → Option Nat} {Q : Option Value → ow_H → Prop} {p1 : Int32}  (hR : ow_RF R) (T : (((I 70 14) = 0 → ow_AW ow_Y0 (ow_Z Q) M_Mo_led (d + 1) 0 0 15 [(0, .ref 70), (1, .int p1), (2, .int 0), (3, .int 0)] [] (85, I, J, R) 0 0) ∧ (¬ (I 70 14) = 0 → (ow_AM M_Mo_asToldShapes d [.ref 70] (85, I, J, R) (fun r h' => ∃ (I7 : Nat → Nat → Int32) (J7 : Nat → Nat → Int64) (R7 : Nat → Nat → Option Nat), r = none ∧ h' = (85, I7, J7, R7) ∧ ow_RF R7 ∧ ow_AW ow_Y0 (ow_Z Q) M_Mo_led (d + 1) 0 0 15 [(0, .ref 70), (1, .int p1), (2, .int 0), (3, .int 0)] [] (85, I7, J7, R7) 0 0))))) : ow_AM M_Mo_led (d + 1) [.ref 70, .int p1] (85, I, J, R) Q := by
  refine ow_enter (by decide) (Nat.le_of_ble_eq_true rfl) ?_
  show ow_AW ow_Y0 (ow_Z Q) M_Mo_led (d + 1) 0 0 0 [(0, .ref 70), (1, .int p1)] [] (85, I, J, R) 0 0
  refine ow_iconst (v := 0) (by decide) d_Mo_led_0 ?_
  refine ow_istore_n (ls2 := [(2, .int 0), (0, .ref 70), (1, .int p1)]) d_Mo_led_1 (by decide) rfl ?_
  refine ow_aload_n 1 rfl d_Mo_led_2 ?_
  refine ow_gI 183 d_Mo_led_3 rfl rfl (by decide) rfl (Or.inr rfl) ?_
  refine ow_if_eq (tgt := 13) d_Mo_led_6 (by decide) (fun c => ?_) (fun c => ?_)
  · replace T := T.1 c
    refine ow_iconst (v := 0) (by decide) d_Mo_led_13 ?_
    refine ow_istore_n (ls2 := [(3, .int 0), (2, .int 0), (0, .ref 70), (1, .int p1)]) d_Mo_led_14 (by decide) rfl ?_
    refine ow_sub [2, 3, 1, 0] rfl ?_
    exact T
  · replace T := T.2 c
    refine ow_aload_n 1 rfl d_Mo_led_9 ?_
    refine ow_callV (b := 70) (cq := 12) (As := []) (rest := []) (d2 := d) d_Mo_led_10 l_Mo_281 v_Mo_asToldShapes (show 70 < 85 by decide) rfl (by decide) rfl (Nat.le_of_ble_eq_true rfl) (Nat.le_refl _) ⟨Nat.le_refl _, Nat.le_refl _⟩ (ow_mono T ?_)
    rintro r h' ⟨I7, J7, R7, rfl, rfl, hR7, T⟩
    show ow_AW ow_Y0 (ow_Z Q) M_Mo_led (d + 1) 0 0 13 [(2, .int 0), (0, .ref 70), (1, .int p1)] [] (85, I7, J7, R7) 0 0
    refine ow_iconst (v := 0) (by decide) d_Mo_led_13 ?_
    refine ow_istore_n (ls2 := [(3, .int 0), (2, .int 0), (0, .ref 70), (1, .int p1)]) d_Mo_led_14 (by decide) rfl ?_
    refine ow_sub [2, 3, 1, 0] rfl ?_
    exact T
set_option maxRecDepth 4000 in
theorem t_Mo_senders_4 {d : Nat} {I : Nat → Nat → Int32} {J : Nat → Nat → Int64} {R : Nat → Nat → Option Nat} {Q : Option Value → ow_H → Prop}  {v1 : Int32} {v2 : Int32}  (hR : ow_RF R) (T : (((I 73 2) ≤ v2 → Q (some (.int v1)) (85, I, J, R)) ∧ (¬ (I 73 2) ≤ v2 → (vp_in (6 + v2) 14 ∧ (((I 77 (6 + v2).toNatClampNeg) ≤ 0 → ow_AW ow_Y0 (ow_Z Q) M_Mo_senders (d + 1) 0 0 4 [(0, .ref 70), (1, .int (v1 + 0)), (2, .int (v2 + 1))] [] (85, I, J, R) 0 0) ∧ (¬ (I 77 (6 + v2).toNatClampNeg) ≤ 0 → ow_AW ow_Y0 (ow_Z Q) M_Mo_senders (d + 1) 0 0 4 [(0, .ref 70), (1, .int (v1 + 1)), (2, .int (v2 + 1))] [] (85, I, J, R) 0 0)))))) : ow_AW ow_Y0 (ow_Z Q) M_Mo_senders (d + 1) 0 0 4 [(0, .ref 70), (1, .int v1), (2, .int v2)] [] (85, I, J, R) 0 0 := by
  refine ow_iload_n 2 rfl d_Mo_senders_4 ?_
  refine ow_aload_n 0 rfl d_Mo_senders_5 ?_
  refine ow_gR (a := 73) 184 d_Mo_senders_6 rfl rfl (by decide) rfl ⟨rfl, hR 70 15 (by decide)⟩ ?_
  refine ow_iconst (v := 2) (by decide) d_Mo_senders_9 ?_
  refine ow_hiaload d_Mo_senders_10 (by decide) rfl rfl (show vp_in (2 : Int32) 146 by unfold vp_in; decide) ?_
  show ow_AW ow_Y0 (ow_Z Q) M_Mo_senders (d + 1) 0 0 11 [(0, .ref 70), (1, .int v1), (2, .int v2)] [.int (I 73 2), .int v2] (85, I, J, R) 0 0
  refine ow_icmp_ge (tgt := 40) d_Mo_senders_11 (by decide) (fun c => ?_) (fun c => ?_)
  · replace T := T.1 c
    refine ow_iload_n 1 rfl d_Mo_senders_40 ?_
    exact ow_iret d_Mo_senders_41 rfl T
  · replace T := T.2 c
    refine ow_iload_n 1 rfl d_Mo_senders_14 ?_
    refine ow_aload_n 0 rfl d_Mo_senders_15 ?_
    refine ow_gR (a := 77) 188 d_Mo_senders_16 rfl rfl (by decide) rfl ⟨rfl, hR 70 19 (by decide)⟩ ?_
    refine ow_bipush (v := 6) (by decide) d_Mo_senders_19 ?_
    refine ow_iload_n 2 rfl d_Mo_senders_21 ?_
    refine ow_iadd d_Mo_senders_22 ?_
    obtain ⟨cI, T⟩ := T
    refine ow_hiaload d_Mo_senders_23 (by decide) rfl rfl cI ?_
    refine ow_if_le (tgt := 31) d_Mo_senders_24 (by decide) (fun c => ?_) (fun c => ?_)
    · replace T := T.1 c
      refine ow_iconst (v := 0) (by decide) d_Mo_senders_31 ?_
      refine ow_iadd d_Mo_senders_32 ?_
      refine ow_istore_n (ls2 := [(1, .int (v1 + 0)), (0, .ref 70), (2, .int v2)]) d_Mo_senders_33 (by decide) rfl ?_
      refine ow_iinc 2 (v := (v2 + 1)) (ls2 := [(2, .int (v2 + 1)), (1, .int (v1 + 0)), (0, .ref 70)]) d_Mo_senders_34 rfl rfl (by decide) rfl ?_
      refine ow_goto (tgt := 4) d_Mo_senders_37 (by decide) ?_
      refine ow_sub [2, 1, 0] rfl ?_
      exact T
    · replace T := T.2 c
      refine ow_iconst (v := 1) (by decide) d_Mo_senders_27 ?_
      refine ow_goto (tgt := 32) d_Mo_senders_28 (by decide) ?_
      refine ow_iadd d_Mo_senders_32 ?_
      refine ow_istore_n (ls2 := [(1, .int (v1 + 1)), (0, .ref 70), (2, .int v2)]) d_Mo_senders_33 (by decide) rfl ?_
      refine ow_iinc 2 (v := (v2 + 1)) (ls2 := [(2, .int (v2 + 1)), (1, .int (v1 + 1)), (0, .ref 70)]) d_Mo_senders_34 rfl rfl (by decide) rfl ?_
      refine ow_goto (tgt := 4) d_Mo_senders_37 (by decide) ?_
      refine ow_sub [2, 1, 0] rfl ?_
      exact T
set_option maxRecDepth 4000 in
theorem t_Mo_senders {d : Nat} {I : Nat → Nat → Int32} {J : Nat → Nat → Int64} {R : Nat → Nat → Option Nat} {Q : Option Value → ow_H → Prop}   (hR : ow_RF R) (T : ow_AW ow_Y0 (ow_Z Q) M_Mo_senders (d + 1) 0 0 4 [(0, .ref 70), (1, .int 0), (2, .int 0)] [] (85, I, J, R) 0 0) : ow_AM M_Mo_senders (d + 1) [.ref 70] (85, I, J, R) Q := by
  refine ow_enter (by decide) (Nat.le_of_ble_eq_true rfl) ?_
  show ow_AW ow_Y0 (ow_Z Q) M_Mo_senders (d + 1) 0 0 0 [(0, .ref 70)] [] (85, I, J, R) 0 0
  refine ow_iconst (v := 0) (by decide) d_Mo_senders_0 ?_
  refine ow_istore_n (ls2 := [(1, .int 0), (0, .ref 70)]) d_Mo_senders_1 (by decide) rfl ?_
  refine ow_iconst (v := 0) (by decide) d_Mo_senders_2 ?_
  refine ow_istore_n (ls2 := [(2, .int 0), (1, .int 0), (0, .ref 70)]) d_Mo_senders_3 (by decide) rfl ?_
  refine ow_sub [2, 1, 0] rfl ?_
  exact T
set_option maxRecDepth 4000 in
theorem t_Mo_size {d : Nat} {I : Nat → Nat → Int32} {J : Nat → Nat → Int64} {R : Nat → Nat → Option Nat} {Q : Option Value → ow_H → Prop} {p1 : Int32}  (hR : ow_RF R) (T : (∀ (I5 : Nat → Nat → Int32), I5 = ow_u I 70 0 0 → ((¬ p1 = 11 → ((¬ (I5 70 14) = 0 → ((p1 = 0 → (vp_in p1 146 ∧ Q (some (.int (I5 73 p1.toNatClampNeg))) (85, I5, J, R))) ∧ ((p1 = 1 → (vp_in p1 146 ∧ Q (some (.int (I5 73 p1.toNatClampNeg))) (85, I5, J, R))) ∧ ((p1 = 2 → (vp_in p1 146 ∧ Q (some (.int (I5 73 p1.toNatClampNeg))) (85, I5, J, R))) ∧ ((p1 = 3 → (ow_AM M_Mo_senders d [.ref 70] (85, I5, J, R) (fun r h' => ∃ (r6 : Int32) (I6 : Nat → Nat → Int32) (J6 : Nat → Nat → Int64) (R6 : Nat → Nat → Option Nat), r = some (.int r6) ∧ h' = (85, I6, J6, R6) ∧ ow_RF R6 ∧ Q (some (.int r6)) (85, I6, J6, R6)))) ∧ ((p1 = 4 → (ow_AM M_Mo_ones d [.int (I5 77 12)] (85, I5, J, R) (fun r h' => ∃ (r7 : Int32) (I7 : Nat → Nat → Int32) (J7 : Nat → Nat → Int64) (R7 : Nat → Nat → Option Nat), r = some (.int r7) ∧ h' = (85, I7, J7, R7) ∧ ow_RF R7 ∧ Q (some (.int r7)) (85, I7, J7, R7)))) ∧ ((p1 = 5 → (vp_in (p1 - 2) 146 ∧ Q (some (.int (I5 73 (p1 - 2).toNatClampNeg))) (85, I5, J, R))) ∧ ((p1 = 6 → (vp_in (p1 - 2) 146 ∧ Q (some (.int (I5 73 (p1 - 2).toNatClampNeg))) (85, I5, J, R))) ∧ ((p1 = 7 → (vp_in (p1 - 2) 146 ∧ Q (some (.int (I5 73 (p1 - 2).toNatClampNeg))) (85, I5, J, R))) ∧ ((p1 = 8 → Q (some (.int (I5 77 13))) (85, I5, J, R)) ∧ ((p1 = 9 → Q (some (.int (I5 70 22))) (85, I5, J, R)) ∧ ((p1 = 10 → Q (some (.int (I5 70 23))) (85, I5, J, R)) ∧ (¬ p1 = 0 ∧ ¬ p1 = 1 ∧ ¬ p1 = 2 ∧ ¬ p1 = 3 ∧ ¬ p1 = 4 ∧ ¬ p1 = 5 ∧ ¬ p1 = 6 ∧ ¬ p1 = 7 ∧ ¬ p1 = 8 ∧ ¬ p1 = 9 ∧ ¬ p1 = 10 → Q (some (.int (-1))) (85, I5, J, R)))))))))))))) ∧ ((I5 70 14) = 0 → (ow_AM M_Mo_in d [.int p1, .int 0, .int 10] (85, I5, J, R) (fun r h' => ∃ (r8 : Int32) (I8 : Nat → Nat → Int32) (J8 : Nat → Nat → Int64) (R8 : Nat → Nat → Option Nat), r = some (.int r8) ∧ h' = (85, I8, J8, R8) ∧ ow_RF R8 ∧ ((r8 = 0 → Q (some (.int (-1))) (85, I8, J8, R8)) ∧ (¬ r8 = 0 → Q (some (.int 0)) (85, I8, J8, R8)))))))) ∧ (p1 = 11 → Q (some (.int (I5 70 2))) (85, I5, J, R))))) : ow_AM M_Mo_size (d + 1) [.ref 70, .int p1] (85, I, J, R) Q := by
  refine ow_enter (by decide) (Nat.le_of_ble_eq_true rfl) ?_
  show ow_AW ow_Y0 (ow_Z Q) M_Mo_size (d + 1) 0 0 0 [(0, .ref 70), (1, .int p1)] [] (85, I, J, R) 0 0
  refine ow_aload_n 0 rfl d_Mo_size_0 ?_
  refine ow_iconst (v := 0) (by decide) d_Mo_size_1 ?_
  refine ow_pI 169 d_Mo_size_2 rfl rfl (by decide) rfl rfl rfl ?_
  obtain ⟨I5, eI5⟩ : ∃ uu, uu = ow_u I 70 0 0 := ⟨_, rfl⟩
  replace T := T I5 eI5
  rw [← eI5]
  refine ow_iload_n 1 rfl d_Mo_size_5 ?_
  refine ow_bipush (v := 11) (by decide) d_Mo_size_6 ?_
  refine ow_icmp_ne (tgt := 16) d_Mo_size_8 (by decide) (fun c => ?_) (fun c => ?_)
  · replace T := T.1 c
    refine ow_aload_n 0 rfl d_Mo_size_16 ?_
    refine ow_gI 183 d_Mo_size_17 rfl rfl (by decide) rfl (Or.inr rfl) ?_
    refine ow_if_ne (tgt := 39) d_Mo_size_20 (by decide) (fun c => ?_) (fun c => ?_)
    · replace T := T.1 c
      refine ow_iload_n 1 rfl d_Mo_size_39 ?_
      by_cases c0 : p1 = 0
      · replace T := T.1 c0
        refine ow_tabIn (off := 60) (tgt := 100) d_Mo_size_40 (by rw [c0]; decide) (by rw [c0]; decide) (by rw [c0]; rfl) (by decide) ?_
        refine ow_aload_n 0 rfl d_Mo_size_100 ?_
        refine ow_gR (a := 73) 184 d_Mo_size_101 rfl rfl (by decide) rfl ⟨rfl, hR 70 15 (by decide)⟩ ?_
        refine ow_iload_n 1 rfl d_Mo_size_104 ?_
        obtain ⟨cI, T⟩ := T
        refine ow_hiaload d_Mo_size_105 (by decide) rfl rfl cI ?_
        exact ow_iret d_Mo_size_106 rfl T
      replace T := T.2
      by_cases c1 : p1 = 1
      · replace T := T.1 c1
        refine ow_tabIn (off := 60) (tgt := 100) d_Mo_size_40 (by rw [c1]; decide) (by rw [c1]; decide) (by rw [c1]; rfl) (by decide) ?_
        refine ow_aload_n 0 rfl d_Mo_size_100 ?_
        refine ow_gR (a := 73) 184 d_Mo_size_101 rfl rfl (by decide) rfl ⟨rfl, hR 70 15 (by decide)⟩ ?_
        refine ow_iload_n 1 rfl d_Mo_size_104 ?_
        obtain ⟨cI, T⟩ := T
        refine ow_hiaload d_Mo_size_105 (by decide) rfl rfl cI ?_
        exact ow_iret d_Mo_size_106 rfl T
      replace T := T.2
      by_cases c2 : p1 = 2
      · replace T := T.1 c2
        refine ow_tabIn (off := 60) (tgt := 100) d_Mo_size_40 (by rw [c2]; decide) (by rw [c2]; decide) (by rw [c2]; rfl) (by decide) ?_
        refine ow_aload_n 0 rfl d_Mo_size_100 ?_
        refine ow_gR (a := 73) 184 d_Mo_size_101 rfl rfl (by decide) rfl ⟨rfl, hR 70 15 (by decide)⟩ ?_
        refine ow_iload_n 1 rfl d_Mo_size_104 ?_
        obtain ⟨cI, T⟩ := T
        refine ow_hiaload d_Mo_size_105 (by decide) rfl rfl cI ?_
        exact ow_iret d_Mo_size_106 rfl T
      replace T := T.2
      by_cases c3 : p1 = 3
      · replace T := T.1 c3
        refine ow_tabIn (off := 67) (tgt := 107) d_Mo_size_40 (by rw [c3]; decide) (by rw [c3]; decide) (by rw [c3]; rfl) (by decide) ?_
        refine ow_aload_n 0 rfl d_Mo_size_107 ?_
        refine ow_callV (b := 70) (cq := 12) (As := []) (rest := []) (d2 := d) d_Mo_size_108 l_Mo_423 v_Mo_senders (show 70 < 85 by decide) rfl (by decide) rfl (Nat.le_of_ble_eq_true rfl) (Nat.le_refl _) ⟨Nat.le_refl _, Nat.le_refl _⟩ (ow_mono T ?_)
        rintro r h' ⟨r6, I6, J6, R6, rfl, rfl, hR6, T⟩
        show ow_AW ow_Y0 (ow_Z Q) M_Mo_size (d + 1) 0 0 111 [(0, .ref 70), (1, .int p1)] [.int r6] (85, I6, J6, R6) 0 0
        exact ow_iret d_Mo_size_111 rfl T
      replace T := T.2
      by_cases c4 : p1 = 4
      · replace T := T.1 c4
        refine ow_tabIn (off := 72) (tgt := 112) d_Mo_size_40 (by rw [c4]; decide) (by rw [c4]; decide) (by rw [c4]; rfl) (by decide) ?_
        refine ow_aload_n 0 rfl d_Mo_size_112 ?_
        refine ow_gR (a := 77) 188 d_Mo_size_113 rfl rfl (by decide) rfl ⟨rfl, hR 70 19 (by decide)⟩ ?_
        refine ow_bipush (v := 12) (by decide) d_Mo_size_116 ?_
        refine ow_hiaload d_Mo_size_118 (by decide) rfl rfl (show vp_in (12 : Int32) 14 by unfold vp_in; decide) ?_
        show ow_AW ow_Y0 (ow_Z Q) M_Mo_size (d + 1) 0 0 119 [(0, .ref 70), (1, .int p1)] [.int (I5 77 12)] (85, I5, J, R) 0 0
        refine ow_callS (As := [.int (I5 77 12)]) (rest := []) (d2 := d) d_Mo_size_119 l_Mo_307 v_Mo_ones (Nat.le_of_ble_eq_true rfl) (Nat.le_refl _) ⟨Nat.le_refl _, Nat.le_refl _⟩ (ow_mono T ?_)
        rintro r h' ⟨r7, I7, J7, R7, rfl, rfl, hR7, T⟩
        show ow_AW ow_Y0 (ow_Z Q) M_Mo_size (d + 1) 0 0 122 [(0, .ref 70), (1, .int p1)] [.int r7] (85, I7, J7, R7) 0 0
        exact ow_iret d_Mo_size_122 rfl T
      replace T := T.2
      by_cases c5 : p1 = 5
      · replace T := T.1 c5
        refine ow_tabIn (off := 83) (tgt := 123) d_Mo_size_40 (by rw [c5]; decide) (by rw [c5]; decide) (by rw [c5]; rfl) (by decide) ?_
        refine ow_aload_n 0 rfl d_Mo_size_123 ?_
        refine ow_gR (a := 73) 184 d_Mo_size_124 rfl rfl (by decide) rfl ⟨rfl, hR 70 15 (by decide)⟩ ?_
        refine ow_iload_n 1 rfl d_Mo_size_127 ?_
        refine ow_iconst (v := 2) (by decide) d_Mo_size_128 ?_
        refine ow_isub d_Mo_size_129 ?_
        obtain ⟨cI, T⟩ := T
        refine ow_hiaload d_Mo_size_130 (by decide) rfl rfl cI ?_
        exact ow_iret d_Mo_size_131 rfl T
      replace T := T.2
      by_cases c6 : p1 = 6
      · replace T := T.1 c6
        refine ow_tabIn (off := 83) (tgt := 123) d_Mo_size_40 (by rw [c6]; decide) (by rw [c6]; decide) (by rw [c6]; rfl) (by decide) ?_
        refine ow_aload_n 0 rfl d_Mo_size_123 ?_
        refine ow_gR (a := 73) 184 d_Mo_size_124 rfl rfl (by decide) rfl ⟨rfl, hR 70 15 (by decide)⟩ ?_
        refine ow_iload_n 1 rfl d_Mo_size_127 ?_
        refine ow_iconst (v := 2) (by decide) d_Mo_size_128 ?_
        refine ow_isub d_Mo_size_129 ?_
        obtain ⟨cI, T⟩ := T
        refine ow_hiaload d_Mo_size_130 (by decide) rfl rfl cI ?_
        exact ow_iret d_Mo_size_131 rfl T
      replace T := T.2
      by_cases c7 : p1 = 7
      · replace T := T.1 c7
        refine ow_tabIn (off := 83) (tgt := 123) d_Mo_size_40 (by rw [c7]; decide) (by rw [c7]; decide) (by rw [c7]; rfl) (by decide) ?_
        refine ow_aload_n 0 rfl d_Mo_size_123 ?_
        refine ow_gR (a := 73) 184 d_Mo_size_124 rfl rfl (by decide) rfl ⟨rfl, hR 70 15 (by decide)⟩ ?_
        refine ow_iload_n 1 rfl d_Mo_size_127 ?_
        refine ow_iconst (v := 2) (by decide) d_Mo_size_128 ?_
        refine ow_isub d_Mo_size_129 ?_
        obtain ⟨cI, T⟩ := T
        refine ow_hiaload d_Mo_size_130 (by decide) rfl rfl cI ?_
        exact ow_iret d_Mo_size_131 rfl T
      replace T := T.2
      by_cases c8 : p1 = 8
      · replace T := T.1 c8
        refine ow_tabIn (off := 92) (tgt := 132) d_Mo_size_40 (by rw [c8]; decide) (by rw [c8]; decide) (by rw [c8]; rfl) (by decide) ?_
        refine ow_aload_n 0 rfl d_Mo_size_132 ?_
        refine ow_gR (a := 77) 188 d_Mo_size_133 rfl rfl (by decide) rfl ⟨rfl, hR 70 19 (by decide)⟩ ?_
        refine ow_bipush (v := 13) (by decide) d_Mo_size_136 ?_
        refine ow_hiaload d_Mo_size_138 (by decide) rfl rfl (show vp_in (13 : Int32) 14 by unfold vp_in; decide) ?_
        show ow_AW ow_Y0 (ow_Z Q) M_Mo_size (d + 1) 0 0 139 [(0, .ref 70), (1, .int p1)] [.int (I5 77 13)] (85, I5, J, R) 0 0
        exact ow_iret d_Mo_size_139 rfl T
      replace T := T.2
      by_cases c9 : p1 = 9
      · replace T := T.1 c9
        refine ow_tabIn (off := 100) (tgt := 140) d_Mo_size_40 (by rw [c9]; decide) (by rw [c9]; decide) (by rw [c9]; rfl) (by decide) ?_
        refine ow_aload_n 0 rfl d_Mo_size_140 ?_
        refine ow_gI 191 d_Mo_size_141 rfl rfl (by decide) rfl (Or.inl rfl) ?_
        exact ow_iret d_Mo_size_144 rfl T
      replace T := T.2
      by_cases c10 : p1 = 10
      · replace T := T.1 c10
        refine ow_tabIn (off := 105) (tgt := 145) d_Mo_size_40 (by rw [c10]; decide) (by rw [c10]; decide) (by rw [c10]; rfl) (by decide) ?_
        refine ow_aload_n 0 rfl d_Mo_size_145 ?_
        refine ow_gI 192 d_Mo_size_146 rfl rfl (by decide) rfl (Or.inl rfl) ?_
        exact ow_iret d_Mo_size_149 rfl T
      replace T := T.2
      replace T := T ⟨c0, c1, c2, c3, c4, c5, c6, c7, c8, c9, c10⟩
      replace c0 := ow_ne (z := 0) c0 rfl
      replace c1 := ow_ne (z := 1) c1 rfl
      replace c2 := ow_ne (z := 2) c2 rfl
      replace c3 := ow_ne (z := 3) c3 rfl
      replace c4 := ow_ne (z := 4) c4 rfl
      replace c5 := ow_ne (z := 5) c5 rfl
      replace c6 := ow_ne (z := 6) c6 rfl
      replace c7 := ow_ne (z := 7) c7 rfl
      replace c8 := ow_ne (z := 8) c8 rfl
      replace c9 := ow_ne (z := 9) c9 rfl
      replace c10 := ow_ne (z := 10) c10 rfl
      refine ow_tabOut (tgt := 150) d_Mo_size_40 (by omega) (by decide) ?_
      refine ow_iconst (v := (-1)) (by decide) d_Mo_size_150 ?_
      exact ow_iret d_Mo_size_151 rfl T
    · replace T := T.2 c
      refine ow_iload_n 1 rfl d_Mo_size_23 ?_
      refine ow_iconst (v := 0) (by decide) d_Mo_size_24 ?_
      refine ow_bipush (v := 10) (by decide) d_Mo_size_25 ?_
      refine ow_callS (As := [.int p1, .int 0, .int 10]) (rest := []) (d2 := d) d_Mo_size_27 l_Mo_142 v_Mo_in (Nat.le_of_ble_eq_true rfl) (Nat.le_refl _) ⟨Nat.le_refl _, Nat.le_refl _⟩ (ow_mono T ?_)
      rintro r h' ⟨r8, I8, J8, R8, rfl, rfl, hR8, T⟩
      show ow_AW ow_Y0 (ow_Z Q) M_Mo_size (d + 1) 0 0 30 [(0, .ref 70), (1, .int p1)] [.int r8] (85, I8, J8, R8) 0 0
      refine ow_if_eq (tgt := 37) d_Mo_size_30 (by decide) (fun c => ?_) (fun c => ?_)
      · replace T := T.1 c
        refine ow_iconst (v := (-1)) (by decide) d_Mo_size_37 ?_
        exact ow_iret d_Mo_size_38 rfl T
      · replace T := T.2 c
        refine ow_iconst (v := 0) (by decide) d_Mo_size_33 ?_
        refine ow_goto (tgt := 38) d_Mo_size_34 (by decide) ?_
        exact ow_iret d_Mo_size_38 rfl T
  · replace T := T.2 c
    refine ow_aload_n 0 rfl d_Mo_size_11 ?_
    refine ow_gI 171 d_Mo_size_12 rfl rfl (by decide) rfl (Or.inl rfl) ?_
    exact ow_iret d_Mo_size_15 rfl T
set_option maxRecDepth 4000 in
theorem t_Mo_trouble {d : Nat} {I : Nat → Nat → Int32} {J : Nat → Nat → Int64} {R : Nat → Nat → Option Nat} {Q : Option Value → ow_H → Prop}   (hR : ow_RF R) (T : (∀ (I2 : Nat → Nat → Int32), I2 = ow_u I 70 0 0 → Q (some (.int (I2 70 11))) (85, I2, J, R))) : ow_AM M_Mo_trouble (d + 1) [.ref 70] (85, I, J, R) Q := by
  refine ow_enter (by decide) (Nat.le_of_ble_eq_true rfl) ?_
  show ow_AW ow_Y0 (ow_Z Q) M_Mo_trouble (d + 1) 0 0 0 [(0, .ref 70)] [] (85, I, J, R) 0 0
  refine ow_aload_n 0 rfl d_Mo_trouble_0 ?_
  refine ow_iconst (v := 0) (by decide) d_Mo_trouble_1 ?_
  refine ow_pI 169 d_Mo_trouble_2 rfl rfl (by decide) rfl rfl rfl ?_
  obtain ⟨I2, eI2⟩ : ∃ uu, uu = ow_u I 70 0 0 := ⟨_, rfl⟩
  replace T := T I2 eI2
  rw [← eI2]
  refine ow_aload_n 0 rfl d_Mo_trouble_5 ?_
  refine ow_gI 180 d_Mo_trouble_6 rfl rfl (by decide) rfl (Or.inl rfl) ?_
  exact ow_iret d_Mo_trouble_9 rfl T
