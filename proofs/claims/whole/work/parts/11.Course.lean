/-! Own rows, by program: Course_run -/
theorem d_Course_run_0 : decode M_Course_run.2.1 0 = .ok (.aload_n 0, 1) := by decide +kernel
theorem d_Course_run_1 : decode M_Course_run.2.1 1 = .ok (.iconst 0, 1) := by decide +kernel
theorem d_Course_run_2 : decode M_Course_run.2.1 2 = .ok (.putfield 15, 3) := by decide +kernel
theorem d_Course_run_5 : decode M_Course_run.2.1 5 = .ok (.aload_n 0, 1) := by decide +kernel
theorem d_Course_run_6 : decode M_Course_run.2.1 6 = .ok (.iconst 0, 1) := by decide +kernel
theorem d_Course_run_7 : decode M_Course_run.2.1 7 = .ok (.putfield 19, 3) := by decide +kernel
theorem d_Course_run_10 : decode M_Course_run.2.1 10 = .ok (.aload_n 0, 1) := by decide +kernel
theorem d_Course_run_11 : decode M_Course_run.2.1 11 = .ok (.bipush (-2), 2) := by decide +kernel
theorem d_Course_run_13 : decode M_Course_run.2.1 13 = .ok (.putfield 22, 3) := by decide +kernel
theorem d_Course_run_16 : decode M_Course_run.2.1 16 = .ok (.aload_n 0, 1) := by decide +kernel
theorem d_Course_run_17 : decode M_Course_run.2.1 17 = .ok (.bipush (-2), 2) := by decide +kernel
theorem d_Course_run_19 : decode M_Course_run.2.1 19 = .ok (.putfield 25, 3) := by decide +kernel
theorem d_Course_run_22 : decode M_Course_run.2.1 22 = .ok (.iconst 0, 1) := by decide +kernel
theorem d_Course_run_23 : decode M_Course_run.2.1 23 = .ok (.istore 4, 2) := by decide +kernel
theorem d_Course_run_25 : decode M_Course_run.2.1 25 = .ok (.iload_n 2, 1) := by decide +kernel
theorem d_Course_run_26 : decode M_Course_run.2.1 26 = .ok (.istore 5, 2) := by decide +kernel
theorem d_Course_run_28 : decode M_Course_run.2.1 28 = .ok (.iload_n 3, 1) := by decide +kernel
theorem d_Course_run_29 : decode M_Course_run.2.1 29 = .ok (.ifCond .eq 7, 3) := by decide +kernel
theorem d_Course_run_32 : decode M_Course_run.2.1 32 = .ok (.iconst 1, 1) := by decide +kernel
theorem d_Course_run_33 : decode M_Course_run.2.1 33 = .ok (.goto 4, 3) := by decide +kernel
theorem d_Course_run_36 : decode M_Course_run.2.1 36 = .ok (.iconst 0, 1) := by decide +kernel
theorem d_Course_run_37 : decode M_Course_run.2.1 37 = .ok (.istore 6, 2) := by decide +kernel
theorem d_Course_run_39 : decode M_Course_run.2.1 39 = .ok (.aload_n 0, 1) := by decide +kernel
theorem d_Course_run_40 : decode M_Course_run.2.1 40 = .ok (.getfield 15, 3) := by decide +kernel
theorem d_Course_run_43 : decode M_Course_run.2.1 43 = .ok (.bipush 6, 2) := by decide +kernel
theorem d_Course_run_45 : decode M_Course_run.2.1 45 = .ok (.if_icmp .ge 117, 3) := by decide +kernel
theorem d_Course_run_48 : decode M_Course_run.2.1 48 = .ok (.aload_n 1, 1) := by decide +kernel
theorem d_Course_run_49 : decode M_Course_run.2.1 49 = .ok (.iload 5, 2) := by decide +kernel
theorem d_Course_run_51 : decode M_Course_run.2.1 51 = .ok (.invokevirtual 28, 3) := by decide +kernel
theorem d_Course_run_54 : decode M_Course_run.2.1 54 = .ok (.ifCond .eq 108, 3) := by decide +kernel
theorem d_Course_run_57 : decode M_Course_run.2.1 57 = .ok (.iload 4, 2) := by decide +kernel
theorem d_Course_run_59 : decode M_Course_run.2.1 59 = .ok (.iload 5, 2) := by decide +kernel
theorem d_Course_run_61 : decode M_Course_run.2.1 61 = .ok (.ishr, 1) := by decide +kernel
theorem d_Course_run_62 : decode M_Course_run.2.1 62 = .ok (.iconst 1, 1) := by decide +kernel
theorem d_Course_run_63 : decode M_Course_run.2.1 63 = .ok (.iand, 1) := by decide +kernel
theorem d_Course_run_64 : decode M_Course_run.2.1 64 = .ok (.ifCond .ne 98, 3) := by decide +kernel
theorem d_Course_run_67 : decode M_Course_run.2.1 67 = .ok (.iload 4, 2) := by decide +kernel
theorem d_Course_run_69 : decode M_Course_run.2.1 69 = .ok (.iconst 1, 1) := by decide +kernel
theorem d_Course_run_70 : decode M_Course_run.2.1 70 = .ok (.iload 5, 2) := by decide +kernel
theorem d_Course_run_72 : decode M_Course_run.2.1 72 = .ok (.ishl, 1) := by decide +kernel
theorem d_Course_run_73 : decode M_Course_run.2.1 73 = .ok (.ior, 1) := by decide +kernel
theorem d_Course_run_74 : decode M_Course_run.2.1 74 = .ok (.istore 4, 2) := by decide +kernel
theorem d_Course_run_76 : decode M_Course_run.2.1 76 = .ok (.aload_n 0, 1) := by decide +kernel
theorem d_Course_run_77 : decode M_Course_run.2.1 77 = .ok (.getfield 9, 3) := by decide +kernel
theorem d_Course_run_80 : decode M_Course_run.2.1 80 = .ok (.aload_n 0, 1) := by decide +kernel
theorem d_Course_run_81 : decode M_Course_run.2.1 81 = .ok (.getfield 15, 3) := by decide +kernel
theorem d_Course_run_84 : decode M_Course_run.2.1 84 = .ok (.iload 5, 2) := by decide +kernel
theorem d_Course_run_86 : decode M_Course_run.2.1 86 = .ok (.iastore, 1) := by decide +kernel
theorem d_Course_run_87 : decode M_Course_run.2.1 87 = .ok (.aload_n 0, 1) := by decide +kernel
theorem d_Course_run_88 : decode M_Course_run.2.1 88 = .ok (.dup, 1) := by decide +kernel
theorem d_Course_run_89 : decode M_Course_run.2.1 89 = .ok (.getfield 15, 3) := by decide +kernel
theorem d_Course_run_92 : decode M_Course_run.2.1 92 = .ok (.iconst 1, 1) := by decide +kernel
theorem d_Course_run_93 : decode M_Course_run.2.1 93 = .ok (.iadd, 1) := by decide +kernel
theorem d_Course_run_94 : decode M_Course_run.2.1 94 = .ok (.putfield 15, 3) := by decide +kernel
theorem d_Course_run_97 : decode M_Course_run.2.1 97 = .ok (.aload_n 1, 1) := by decide +kernel
theorem d_Course_run_98 : decode M_Course_run.2.1 98 = .ok (.iload 5, 2) := by decide +kernel
theorem d_Course_run_100 : decode M_Course_run.2.1 100 = .ok (.iload 6, 2) := by decide +kernel
theorem d_Course_run_102 : decode M_Course_run.2.1 102 = .ok (.invokevirtual 34, 3) := by decide +kernel
theorem d_Course_run_105 : decode M_Course_run.2.1 105 = .ok (.istore 6, 2) := by decide +kernel
theorem d_Course_run_107 : decode M_Course_run.2.1 107 = .ok (.iload 6, 2) := by decide +kernel
theorem d_Course_run_109 : decode M_Course_run.2.1 109 = .ok (.bipush (-2), 2) := by decide +kernel
theorem d_Course_run_111 : decode M_Course_run.2.1 111 = .ok (.if_icmp .ne 4, 3) := by decide +kernel
theorem d_Course_run_114 : decode M_Course_run.2.1 114 = .ok (.return_, 1) := by decide +kernel
theorem d_Course_run_115 : decode M_Course_run.2.1 115 = .ok (.aload_n 0, 1) := by decide +kernel
theorem d_Course_run_116 : decode M_Course_run.2.1 116 = .ok (.dup, 1) := by decide +kernel
theorem d_Course_run_117 : decode M_Course_run.2.1 117 = .ok (.getfield 19, 3) := by decide +kernel
theorem d_Course_run_120 : decode M_Course_run.2.1 120 = .ok (.iconst 1, 1) := by decide +kernel
theorem d_Course_run_121 : decode M_Course_run.2.1 121 = .ok (.iadd, 1) := by decide +kernel
theorem d_Course_run_122 : decode M_Course_run.2.1 122 = .ok (.putfield 19, 3) := by decide +kernel
theorem d_Course_run_125 : decode M_Course_run.2.1 125 = .ok (.aload_n 1, 1) := by decide +kernel
theorem d_Course_run_126 : decode M_Course_run.2.1 126 = .ok (.getfield 38, 3) := by decide +kernel
theorem d_Course_run_129 : decode M_Course_run.2.1 129 = .ok (.iload 5, 2) := by decide +kernel
theorem d_Course_run_131 : decode M_Course_run.2.1 131 = .ok (.iaload, 1) := by decide +kernel
theorem d_Course_run_132 : decode M_Course_run.2.1 132 = .ok (.bipush (-2), 2) := by decide +kernel
theorem d_Course_run_134 : decode M_Course_run.2.1 134 = .ok (.if_icmp .ne 16, 3) := by decide +kernel
theorem d_Course_run_137 : decode M_Course_run.2.1 137 = .ok (.aload_n 0, 1) := by decide +kernel
theorem d_Course_run_138 : decode M_Course_run.2.1 138 = .ok (.iload 5, 2) := by decide +kernel
theorem d_Course_run_140 : decode M_Course_run.2.1 140 = .ok (.putfield 22, 3) := by decide +kernel
theorem d_Course_run_143 : decode M_Course_run.2.1 143 = .ok (.aload_n 0, 1) := by decide +kernel
theorem d_Course_run_144 : decode M_Course_run.2.1 144 = .ok (.iload 6, 2) := by decide +kernel
theorem d_Course_run_146 : decode M_Course_run.2.1 146 = .ok (.putfield 25, 3) := by decide +kernel
theorem d_Course_run_149 : decode M_Course_run.2.1 149 = .ok (.return_, 1) := by decide +kernel
theorem d_Course_run_150 : decode M_Course_run.2.1 150 = .ok (.aload_n 1, 1) := by decide +kernel
theorem d_Course_run_151 : decode M_Course_run.2.1 151 = .ok (.getfield 38, 3) := by decide +kernel
theorem d_Course_run_154 : decode M_Course_run.2.1 154 = .ok (.iload 5, 2) := by decide +kernel
theorem d_Course_run_156 : decode M_Course_run.2.1 156 = .ok (.iaload, 1) := by decide +kernel
theorem d_Course_run_157 : decode M_Course_run.2.1 157 = .ok (.istore 5, 2) := by decide +kernel
theorem d_Course_run_159 : decode M_Course_run.2.1 159 = .ok (.goto (-120), 3) := by decide +kernel
theorem d_Course_run_162 : decode M_Course_run.2.1 162 = .ok (.return_, 1) := by decide +kernel
set_option maxRecDepth 4000 in
theorem t_Course_run_39 {d : Nat} {I : Nat → Nat → Int32} {J : Nat → Nat → Int64} {R : Nat → Nat → Option Nat} {Q : Option Value → ow_H → Prop} {w : Nat} {o : Nat} {v4 : Int32} {v5 : Int32} {v6 : Int32} (hw : w ∈ [37, 40, 55, 64]) (ho : o ∈ [3, 15, 29, 33, 42, 47, 57]) (hR : ow_RF R) (T : ((6 ≤ (I w 1) → Q none (85, I, J, R)) ∧ (¬ 6 ≤ (I w 1) → (ow_AM M_Scene_has d [.ref o, .int v5] (85, I, J, R) (fun r h' => ∃ (r5 : Int32) (I5 : Nat → Nat → Int32) (J5 : Nat → Nat → Int64) (R5 : Nat → Nat → Option Nat), r = some (.int r5) ∧ h' = (85, I5, J5, R5) ∧ ow_RF R5 ∧ ((r5 = 0 → Q none (85, I5, J5, R5)) ∧ (¬ r5 = 0 → ((¬ ((v4 >>> (v5 &&& 31)) &&& 1) = 0 → Q none (85, I5, J5, R5)) ∧ (((v4 >>> (v5 &&& 31)) &&& 1) = 0 → (vp_in (I5 w 1) 6 ∧ (∀ (I6 : Nat → Nat → Int32), I6 = ow_u I5 (w + 1) ((I5 w 1).toNatClampNeg) v5 → (∀ (I7 : Nat → Nat → Int32), I7 = ow_u I6 w 1 ((I6 w 1) + 1) → (ow_AM M_Scene_reply d [.ref o, .int v5, .int v6] (85, I7, J5, R5) (fun r h' => ∃ (r8 : Int32) (I8 : Nat → Nat → Int32) (J8 : Nat → Nat → Int64) (R8 : Nat → Nat → Option Nat), r = some (.int r8) ∧ h' = (85, I8, J8, R8) ∧ ow_RF R8 ∧ ((¬ r8 = (-2) → (∀ (I9 : Nat → Nat → Int32), I9 = ow_u I8 w 2 ((I8 w 2) + 1) → (vp_in v5 6 ∧ ((¬ (I9 (o + 3) v5.toNatClampNeg) = (-2) → (vp_in v5 6 ∧ ow_AW ow_Y0 (ow_Z Q) M_Course_run (d + 1) 0 0 39 [(0, .ref w), (1, .ref o), (4, .int (v4 ||| ((1 : Int32) <<< (v5 &&& 31)))), (5, .int (I9 (o + 3) v5.toNatClampNeg)), (6, .int r8)] [] (85, I9, J8, R8) 0 0)) ∧ ((I9 (o + 3) v5.toNatClampNeg) = (-2) → (∀ (I10 : Nat → Nat → Int32), I10 = ow_u I9 w 3 v5 → (∀ (I11 : Nat → Nat → Int32), I11 = ow_u I10 w 4 r8 → Q none (85, I11, J8, R8)))))))) ∧ (r8 = (-2) → Q none (85, I8, J8, R8))))))))))))))))) : ow_AW ow_Y0 (ow_Z Q) M_Course_run (d + 1) 0 0 39 [(0, .ref w), (1, .ref o), (4, .int v4), (5, .int v5), (6, .int v6)] [] (85, I, J, R) 0 0 := by
  obtain ⟨w_lt, w_kd, w_r0, w_k1, w_n1⟩ := ow_co_ok w hw
  obtain ⟨o_lt, o_kd, o_r3, o_r4, o_r5, o_k1, o_k2, o_k3, o_n1, o_n2, o_n3⟩ := ow_sc_ok o ho
  refine ow_aload_n 0 rfl d_Course_run_39 ?_
  refine ow_gI 89 d_Course_run_40 rfl rfl (by omega) w_kd (Or.inl rfl) ?_
  refine ow_bipush (v := 6) (by decide) d_Course_run_43 ?_
  refine ow_icmp_ge (tgt := 162) d_Course_run_45 (by decide) (fun c => ?_) (fun c => ?_)
  · replace T := T.1 c
    exact ow_vret d_Course_run_162 rfl T
  · replace T := T.2 c
    refine ow_aload_n 1 rfl d_Course_run_48 ?_
    refine ow_iload 3 rfl d_Course_run_49 ?_
    refine ow_callV (b := o) (cq := 4) (As := [.int v5]) (rest := []) (d2 := d) d_Course_run_51 l_Course_28 v_Scene_has (show o < 85 by omega) o_kd (by decide) rfl (Nat.le_of_ble_eq_true rfl) (Nat.le_refl _) ⟨Nat.le_refl _, Nat.le_refl _⟩ (ow_mono T ?_)
    rintro r h' ⟨r5, I5, J5, R5, rfl, rfl, hR5, T⟩
    show ow_AW ow_Y0 (ow_Z Q) M_Course_run (d + 1) 0 0 54 [(0, .ref w), (1, .ref o), (4, .int v4), (5, .int v5), (6, .int v6)] [.int r5] (85, I5, J5, R5) 0 0
    refine ow_if_eq (tgt := 162) d_Course_run_54 (by decide) (fun c => ?_) (fun c => ?_)
    · replace T := T.1 c
      exact ow_vret d_Course_run_162 rfl T
    · replace T := T.2 c
      refine ow_iload 2 rfl d_Course_run_57 ?_
      refine ow_iload 3 rfl d_Course_run_59 ?_
      refine ow_ishr d_Course_run_61 ?_
      refine ow_iconst (v := 1) (by decide) d_Course_run_62 ?_
      refine ow_iand d_Course_run_63 ?_
      refine ow_if_ne (tgt := 162) d_Course_run_64 (by decide) (fun c => ?_) (fun c => ?_)
      · replace T := T.1 c
        exact ow_vret d_Course_run_162 rfl T
      · replace T := T.2 c
        refine ow_iload 2 rfl d_Course_run_67 ?_
        refine ow_iconst (v := 1) (by decide) d_Course_run_69 ?_
        refine ow_iload 3 rfl d_Course_run_70 ?_
        refine ow_ishl d_Course_run_72 ?_
        refine ow_ior d_Course_run_73 ?_
        refine ow_istore (ls2 := [(4, .int (v4 ||| ((1 : Int32) <<< (v5 &&& 31)))), (0, .ref w), (1, .ref o), (5, .int v5), (6, .int v6)]) d_Course_run_74 (by decide) rfl ?_
        refine ow_aload_n 1 rfl d_Course_run_76 ?_
        refine ow_gR (a := w + 1) 86 d_Course_run_77 rfl rfl (by omega) w_kd ⟨rfl, (hR5 _ _ (fun q => by rw [q.1] at w_kd; exact absurd w_kd (by decide))).trans w_r0⟩ ?_
        refine ow_aload_n 1 rfl d_Course_run_80 ?_
        refine ow_gI 89 d_Course_run_81 rfl rfl (by omega) w_kd (Or.inl rfl) ?_
        refine ow_iload 3 rfl d_Course_run_84 ?_
        obtain ⟨cI, T⟩ := T
        refine ow_hiastore d_Course_run_86 (by omega) w_k1 w_n1 cI ?_
        obtain ⟨I6, eI6⟩ : ∃ uu, uu = ow_u I5 (w + 1) ((I5 w 1).toNatClampNeg) v5 := ⟨_, rfl⟩
        replace T := T I6 eI6
        rw [← eI6]
        refine ow_aload_n 1 rfl d_Course_run_87 ?_
        refine ow_dup rfl d_Course_run_88 ?_
        refine ow_gI 89 d_Course_run_89 rfl rfl (by omega) w_kd (Or.inl rfl) ?_
        refine ow_iconst (v := 1) (by decide) d_Course_run_92 ?_
        refine ow_iadd d_Course_run_93 ?_
        refine ow_pI 89 d_Course_run_94 rfl rfl (by omega) w_kd rfl rfl ?_
        obtain ⟨I7, eI7⟩ : ∃ uu, uu = ow_u I6 w 1 ((I6 w 1) + 1) := ⟨_, rfl⟩
        replace T := T I7 eI7
        rw [← eI7]
        refine ow_aload_n 2 rfl d_Course_run_97 ?_
        refine ow_iload 3 rfl d_Course_run_98 ?_
        refine ow_iload 4 rfl d_Course_run_100 ?_
        refine ow_callV (b := o) (cq := 4) (As := [.int v5, .int v6]) (rest := []) (d2 := d) d_Course_run_102 l_Course_34 v_Scene_reply (show o < 85 by omega) o_kd (by decide) rfl (Nat.le_of_ble_eq_true rfl) (Nat.le_refl _) ⟨Nat.le_refl _, Nat.le_refl _⟩ (ow_mono T ?_)
        rintro r h' ⟨r8, I8, J8, R8, rfl, rfl, hR8, T⟩
        show ow_AW ow_Y0 (ow_Z Q) M_Course_run (d + 1) 0 0 105 [(4, .int (v4 ||| ((1 : Int32) <<< (v5 &&& 31)))), (0, .ref w), (1, .ref o), (5, .int v5), (6, .int v6)] [.int r8] (85, I8, J8, R8) 0 0
        refine ow_istore (ls2 := [(6, .int r8), (4, .int (v4 ||| ((1 : Int32) <<< (v5 &&& 31)))), (0, .ref w), (1, .ref o), (5, .int v5)]) d_Course_run_105 (by decide) rfl ?_
        refine ow_iload 0 rfl d_Course_run_107 ?_
        refine ow_bipush (v := (-2)) (by decide) d_Course_run_109 ?_
        refine ow_icmp_ne (tgt := 115) d_Course_run_111 (by decide) (fun c => ?_) (fun c => ?_)
        · replace T := T.1 c
          refine ow_aload_n 2 rfl d_Course_run_115 ?_
          refine ow_dup rfl d_Course_run_116 ?_
          refine ow_gI 92 d_Course_run_117 rfl rfl (by omega) w_kd (Or.inl rfl) ?_
          refine ow_iconst (v := 1) (by decide) d_Course_run_120 ?_
          refine ow_iadd d_Course_run_121 ?_
          refine ow_pI 92 d_Course_run_122 rfl rfl (by omega) w_kd rfl rfl ?_
          obtain ⟨I9, eI9⟩ : ∃ uu, uu = ow_u I8 w 2 ((I8 w 2) + 1) := ⟨_, rfl⟩
          replace T := T I9 eI9
          rw [← eI9]
          refine ow_aload_n 3 rfl d_Course_run_125 ?_
          refine ow_gR (a := o + 3) 22 d_Course_run_126 rfl rfl (by omega) o_kd ⟨rfl, (hR8 _ _ (fun q => absurd q.2 (by decide))).trans o_r5⟩ ?_
          refine ow_iload 4 rfl d_Course_run_129 ?_
          obtain ⟨cI, T⟩ := T
          refine ow_hiaload d_Course_run_131 (by omega) o_k3 o_n3 cI ?_
          refine ow_bipush (v := (-2)) (by decide) d_Course_run_132 ?_
          refine ow_icmp_ne (tgt := 150) d_Course_run_134 (by decide) (fun c => ?_) (fun c => ?_)
          · replace T := T.1 c
            refine ow_aload_n 3 rfl d_Course_run_150 ?_
            refine ow_gR (a := o + 3) 22 d_Course_run_151 rfl rfl (by omega) o_kd ⟨rfl, (hR8 _ _ (fun q => absurd q.2 (by decide))).trans o_r5⟩ ?_
            refine ow_iload 4 rfl d_Course_run_154 ?_
            obtain ⟨cI, T⟩ := T
            refine ow_hiaload d_Course_run_156 (by omega) o_k3 o_n3 cI ?_
            refine ow_istore (ls2 := [(5, .int (I9 (o + 3) v5.toNatClampNeg)), (6, .int r8), (4, .int (v4 ||| ((1 : Int32) <<< (v5 &&& 31)))), (0, .ref w), (1, .ref o)]) d_Course_run_157 (by decide) rfl ?_
            refine ow_goto (tgt := 39) d_Course_run_159 (by decide) ?_
            refine ow_sub [3, 4, 2, 0, 1] rfl ?_
            exact T
          · replace T := T.2 c
            refine ow_aload_n 2 rfl d_Course_run_137 ?_
            refine ow_iload 4 rfl d_Course_run_138 ?_
            refine ow_pI 95 d_Course_run_140 rfl rfl (by omega) w_kd rfl rfl ?_
            obtain ⟨I10, eI10⟩ : ∃ uu, uu = ow_u I9 w 3 v5 := ⟨_, rfl⟩
            replace T := T I10 eI10
            rw [← eI10]
            refine ow_aload_n 2 rfl d_Course_run_143 ?_
            refine ow_iload 0 rfl d_Course_run_144 ?_
            refine ow_pI 98 d_Course_run_146 rfl rfl (by omega) w_kd rfl rfl ?_
            obtain ⟨I11, eI11⟩ : ∃ uu, uu = ow_u I10 w 4 r8 := ⟨_, rfl⟩
            replace T := T I11 eI11
            rw [← eI11]
            exact ow_vret d_Course_run_149 rfl T
        · replace T := T.2 c
          exact ow_vret d_Course_run_114 rfl T
set_option maxRecDepth 4000 in
theorem t_Course_run {d : Nat} {I : Nat → Nat → Int32} {J : Nat → Nat → Int64} {R : Nat → Nat → Option Nat} {Q : Option Value → ow_H → Prop} {w : Nat} {o : Nat} {p1 : Int32} {p2 : Int32} (hw : w ∈ [37, 40, 55, 64]) (ho : o ∈ [3, 15, 29, 33, 42, 47, 57]) (hR : ow_RF R) (T : (∀ (I12 : Nat → Nat → Int32), I12 = ow_u I w 1 0 → (∀ (I13 : Nat → Nat → Int32), I13 = ow_u I12 w 2 0 → (∀ (I14 : Nat → Nat → Int32), I14 = ow_u I13 w 3 (-2) → (∀ (I15 : Nat → Nat → Int32), I15 = ow_u I14 w 4 (-2) → ((p2 = 0 → ow_AW ow_Y0 (ow_Z Q) M_Course_run (d + 1) 0 0 39 [(0, .ref w), (1, .ref o), (4, .int 0), (5, .int p1), (6, .int 0)] [] (85, I15, J, R) 0 0) ∧ (¬ p2 = 0 → ow_AW ow_Y0 (ow_Z Q) M_Course_run (d + 1) 0 0 39 [(0, .ref w), (1, .ref o), (4, .int 0), (5, .int p1), (6, .int 1)] [] (85, I15, J, R) 0 0))))))) : ow_AM M_Course_run (d + 1) [.ref w, .ref o, .int p1, .int p2] (85, I, J, R) Q := by
  refine ow_enter (by decide) (Nat.le_of_ble_eq_true rfl) ?_
  show ow_AW ow_Y0 (ow_Z Q) M_Course_run (d + 1) 0 0 0 [(0, .ref w), (1, .ref o), (2, .int p1), (3, .int p2)] [] (85, I, J, R) 0 0
  obtain ⟨w_lt, w_kd, w_r0, w_k1, w_n1⟩ := ow_co_ok w hw
  obtain ⟨o_lt, o_kd, o_r3, o_r4, o_r5, o_k1, o_k2, o_k3, o_n1, o_n2, o_n3⟩ := ow_sc_ok o ho
  refine ow_aload_n 0 rfl d_Course_run_0 ?_
  refine ow_iconst (v := 0) (by decide) d_Course_run_1 ?_
  refine ow_pI 89 d_Course_run_2 rfl rfl (by omega) w_kd rfl rfl ?_
  obtain ⟨I12, eI12⟩ : ∃ uu, uu = ow_u I w 1 0 := ⟨_, rfl⟩
  replace T := T I12 eI12
  rw [← eI12]
  refine ow_aload_n 0 rfl d_Course_run_5 ?_
  refine ow_iconst (v := 0) (by decide) d_Course_run_6 ?_
  refine ow_pI 92 d_Course_run_7 rfl rfl (by omega) w_kd rfl rfl ?_
  obtain ⟨I13, eI13⟩ : ∃ uu, uu = ow_u I12 w 2 0 := ⟨_, rfl⟩
  replace T := T I13 eI13
  rw [← eI13]
  refine ow_aload_n 0 rfl d_Course_run_10 ?_
  refine ow_bipush (v := (-2)) (by decide) d_Course_run_11 ?_
  refine ow_pI 95 d_Course_run_13 rfl rfl (by omega) w_kd rfl rfl ?_
  obtain ⟨I14, eI14⟩ : ∃ uu, uu = ow_u I13 w 3 (-2) := ⟨_, rfl⟩
  replace T := T I14 eI14
  rw [← eI14]
  refine ow_aload_n 0 rfl d_Course_run_16 ?_
  refine ow_bipush (v := (-2)) (by decide) d_Course_run_17 ?_
  refine ow_pI 98 d_Course_run_19 rfl rfl (by omega) w_kd rfl rfl ?_
  obtain ⟨I15, eI15⟩ : ∃ uu, uu = ow_u I14 w 4 (-2) := ⟨_, rfl⟩
  replace T := T I15 eI15
  rw [← eI15]
  refine ow_iconst (v := 0) (by decide) d_Course_run_22 ?_
  refine ow_istore (ls2 := [(4, .int 0), (0, .ref w), (1, .ref o), (2, .int p1), (3, .int p2)]) d_Course_run_23 (by decide) rfl ?_
  refine ow_iload_n 3 rfl d_Course_run_25 ?_
  refine ow_istore (ls2 := [(5, .int p1), (4, .int 0), (0, .ref w), (1, .ref o), (2, .int p1), (3, .int p2)]) d_Course_run_26 (by decide) rfl ?_
  refine ow_iload_n 5 rfl d_Course_run_28 ?_
  refine ow_if_eq (tgt := 36) d_Course_run_29 (by decide) (fun c => ?_) (fun c => ?_)
  · replace T := T.1 c
    refine ow_iconst (v := 0) (by decide) d_Course_run_36 ?_
    refine ow_istore (ls2 := [(6, .int 0), (5, .int p1), (4, .int 0), (0, .ref w), (1, .ref o), (2, .int p1), (3, .int p2)]) d_Course_run_37 (by decide) rfl ?_
    refine ow_sub [3, 4, 2, 1, 0] rfl ?_
    exact T
  · replace T := T.2 c
    refine ow_iconst (v := 1) (by decide) d_Course_run_32 ?_
    refine ow_goto (tgt := 37) d_Course_run_33 (by decide) ?_
    refine ow_istore (ls2 := [(6, .int 1), (5, .int p1), (4, .int 0), (0, .ref w), (1, .ref o), (2, .int p1), (3, .int p2)]) d_Course_run_37 (by decide) rfl ?_
    refine ow_sub [3, 4, 2, 1, 0] rfl ?_
    exact T
