/-! Own rows, by program: Course_run -/
theorem d_Course_run_0 : decode M_Course_run.2.1 0 = .ok (.aload_n 0, 1) := by decide +kernel
theorem d_Course_run_1 : decode M_Course_run.2.1 1 = .ok (.iconst 0, 1) := by decide +kernel
theorem d_Course_run_2 : decode M_Course_run.2.1 2 = .ok (.putfield 15, 3) := by decide +kernel
theorem d_Course_run_5 : decode M_Course_run.2.1 5 = .ok (.aload_n 0, 1) := by decide +kernel
theorem d_Course_run_6 : decode M_Course_run.2.1 6 = .ok (.iconst 0, 1) := by decide +kernel
theorem d_Course_run_7 : decode M_Course_run.2.1 7 = .ok (.putfield 19, 3) := by decide +kernel
theorem d_Course_run_10 : decode M_Course_run.2.1 10 = .ok (.aload_n 0, 1) := by decide +kernel
theorem d_Course_run_11 : decode M_Course_run.2.1 11 = .ok (.bipush (-2), 2) := by decide +kernel
theorem d_Course_run_13 : decode M_Course_run.2.1 13 = .ok (.putfield 22, 3) := by decide +kernel
theorem d_Course_run_16 : decode M_Course_run.2.1 16 = .ok (.aload_n 0, 1) := by decide +kernel
theorem d_Course_run_17 : decode M_Course_run.2.1 17 = .ok (.bipush (-2), 2) := by decide +kernel
theorem d_Course_run_19 : decode M_Course_run.2.1 19 = .ok (.putfield 25, 3) := by decide +kernel
theorem d_Course_run_22 : decode M_Course_run.2.1 22 = .ok (.iconst 0, 1) := by decide +kernel
theorem d_Course_run_23 : decode M_Course_run.2.1 23 = .ok (.istore 4, 2) := by decide +kernel
theorem d_Course_run_25 : decode M_Course_run.2.1 25 = .ok (.iload_n 2, 1) := by decide +kernel
theorem d_Course_run_26 : decode M_Course_run.2.1 26 = .ok (.istore 5, 2) := by decide +kernel
theorem d_Course_run_28 : decode M_Course_run.2.1 28 = .ok (.iload_n 3, 1) := by decide +kernel
theorem d_Course_run_29 : decode M_Course_run.2.1 29 = .ok (.ifCond .eq 7, 3) := by decide +kernel
theorem d_Course_run_32 : decode M_Course_run.2.1 32 = .ok (.iconst 1, 1) := by decide +kernel
theorem d_Course_run_33 : decode M_Course_run.2.1 33 = .ok (.goto 4, 3) := by decide +kernel
theorem d_Course_run_36 : decode M_Course_run.2.1 36 = .ok (.iconst 0, 1) := by decide +kernel
theorem d_Course_run_37 : decode M_Course_run.2.1 37 = .ok (.istore 6, 2) := by decide +kernel
theorem d_Course_run_39 : decode M_Course_run.2.1 39 = .ok (.aload_n 0, 1) := by decide +kernel
theorem d_Course_run_40 : decode M_Course_run.2.1 40 = .ok (.getfield 15, 3) := by decide +kernel
theorem d_Course_run_43 : decode M_Course_run.2.1 43 = .ok (.bipush 6, 2) := by decide +kernel
theorem d_Course_run_45 : decode M_Course_run.2.1 45 = .ok (.if_icmp .ge 108, 3) := by decide +kernel
theorem d_Course_run_48 : decode M_Course_run.2.1 48 = .ok (.iload 4, 2) := by decide +kernel
theorem d_Course_run_50 : decode M_Course_run.2.1 50 = .ok (.iload 5, 2) := by decide +kernel
theorem d_Course_run_52 : decode M_Course_run.2.1 52 = .ok (.ishr, 1) := by decide +kernel
theorem d_Course_run_53 : decode M_Course_run.2.1 53 = .ok (.iconst 1, 1) := by decide +kernel
theorem d_Course_run_54 : decode M_Course_run.2.1 54 = .ok (.iand, 1) := by decide +kernel
theorem d_Course_run_55 : decode M_Course_run.2.1 55 = .ok (.ifCond .ne 98, 3) := by decide +kernel
theorem d_Course_run_58 : decode M_Course_run.2.1 58 = .ok (.iload 4, 2) := by decide +kernel
theorem d_Course_run_60 : decode M_Course_run.2.1 60 = .ok (.iconst 1, 1) := by decide +kernel
theorem d_Course_run_61 : decode M_Course_run.2.1 61 = .ok (.iload 5, 2) := by decide +kernel
theorem d_Course_run_63 : decode M_Course_run.2.1 63 = .ok (.ishl, 1) := by decide +kernel
theorem d_Course_run_64 : decode M_Course_run.2.1 64 = .ok (.ior, 1) := by decide +kernel
theorem d_Course_run_65 : decode M_Course_run.2.1 65 = .ok (.istore 4, 2) := by decide +kernel
theorem d_Course_run_67 : decode M_Course_run.2.1 67 = .ok (.aload_n 0, 1) := by decide +kernel
theorem d_Course_run_68 : decode M_Course_run.2.1 68 = .ok (.getfield 9, 3) := by decide +kernel
theorem d_Course_run_71 : decode M_Course_run.2.1 71 = .ok (.aload_n 0, 1) := by decide +kernel
theorem d_Course_run_72 : decode M_Course_run.2.1 72 = .ok (.getfield 15, 3) := by decide +kernel
theorem d_Course_run_75 : decode M_Course_run.2.1 75 = .ok (.iload 5, 2) := by decide +kernel
theorem d_Course_run_77 : decode M_Course_run.2.1 77 = .ok (.iastore, 1) := by decide +kernel
theorem d_Course_run_78 : decode M_Course_run.2.1 78 = .ok (.aload_n 0, 1) := by decide +kernel
theorem d_Course_run_79 : decode M_Course_run.2.1 79 = .ok (.dup, 1) := by decide +kernel
theorem d_Course_run_80 : decode M_Course_run.2.1 80 = .ok (.getfield 15, 3) := by decide +kernel
theorem d_Course_run_83 : decode M_Course_run.2.1 83 = .ok (.iconst 1, 1) := by decide +kernel
theorem d_Course_run_84 : decode M_Course_run.2.1 84 = .ok (.iadd, 1) := by decide +kernel
theorem d_Course_run_85 : decode M_Course_run.2.1 85 = .ok (.putfield 15, 3) := by decide +kernel
theorem d_Course_run_88 : decode M_Course_run.2.1 88 = .ok (.aload_n 1, 1) := by decide +kernel
theorem d_Course_run_89 : decode M_Course_run.2.1 89 = .ok (.iload 5, 2) := by decide +kernel
theorem d_Course_run_91 : decode M_Course_run.2.1 91 = .ok (.iload 6, 2) := by decide +kernel
theorem d_Course_run_93 : decode M_Course_run.2.1 93 = .ok (.invokevirtual 28, 3) := by decide +kernel
theorem d_Course_run_96 : decode M_Course_run.2.1 96 = .ok (.istore 6, 2) := by decide +kernel
theorem d_Course_run_98 : decode M_Course_run.2.1 98 = .ok (.iload 6, 2) := by decide +kernel
theorem d_Course_run_100 : decode M_Course_run.2.1 100 = .ok (.bipush (-2), 2) := by decide +kernel
theorem d_Course_run_102 : decode M_Course_run.2.1 102 = .ok (.if_icmp .ne 4, 3) := by decide +kernel
theorem d_Course_run_105 : decode M_Course_run.2.1 105 = .ok (.return_, 1) := by decide +kernel
theorem d_Course_run_106 : decode M_Course_run.2.1 106 = .ok (.aload_n 0, 1) := by decide +kernel
theorem d_Course_run_107 : decode M_Course_run.2.1 107 = .ok (.dup, 1) := by decide +kernel
theorem d_Course_run_108 : decode M_Course_run.2.1 108 = .ok (.getfield 19, 3) := by decide +kernel
theorem d_Course_run_111 : decode M_Course_run.2.1 111 = .ok (.iconst 1, 1) := by decide +kernel
theorem d_Course_run_112 : decode M_Course_run.2.1 112 = .ok (.iadd, 1) := by decide +kernel
theorem d_Course_run_113 : decode M_Course_run.2.1 113 = .ok (.putfield 19, 3) := by decide +kernel
theorem d_Course_run_116 : decode M_Course_run.2.1 116 = .ok (.aload_n 1, 1) := by decide +kernel
theorem d_Course_run_117 : decode M_Course_run.2.1 117 = .ok (.getfield 34, 3) := by decide +kernel
theorem d_Course_run_120 : decode M_Course_run.2.1 120 = .ok (.iload 5, 2) := by decide +kernel
theorem d_Course_run_122 : decode M_Course_run.2.1 122 = .ok (.iaload, 1) := by decide +kernel
theorem d_Course_run_123 : decode M_Course_run.2.1 123 = .ok (.bipush (-2), 2) := by decide +kernel
theorem d_Course_run_125 : decode M_Course_run.2.1 125 = .ok (.if_icmp .ne 16, 3) := by decide +kernel
theorem d_Course_run_128 : decode M_Course_run.2.1 128 = .ok (.aload_n 0, 1) := by decide +kernel
theorem d_Course_run_129 : decode M_Course_run.2.1 129 = .ok (.iload 5, 2) := by decide +kernel
theorem d_Course_run_131 : decode M_Course_run.2.1 131 = .ok (.putfield 22, 3) := by decide +kernel
theorem d_Course_run_134 : decode M_Course_run.2.1 134 = .ok (.aload_n 0, 1) := by decide +kernel
theorem d_Course_run_135 : decode M_Course_run.2.1 135 = .ok (.iload 6, 2) := by decide +kernel
theorem d_Course_run_137 : decode M_Course_run.2.1 137 = .ok (.putfield 25, 3) := by decide +kernel
theorem d_Course_run_140 : decode M_Course_run.2.1 140 = .ok (.return_, 1) := by decide +kernel
theorem d_Course_run_141 : decode M_Course_run.2.1 141 = .ok (.aload_n 1, 1) := by decide +kernel
theorem d_Course_run_142 : decode M_Course_run.2.1 142 = .ok (.getfield 34, 3) := by decide +kernel
theorem d_Course_run_145 : decode M_Course_run.2.1 145 = .ok (.iload 5, 2) := by decide +kernel
theorem d_Course_run_147 : decode M_Course_run.2.1 147 = .ok (.iaload, 1) := by decide +kernel
theorem d_Course_run_148 : decode M_Course_run.2.1 148 = .ok (.istore 5, 2) := by decide +kernel
theorem d_Course_run_150 : decode M_Course_run.2.1 150 = .ok (.goto (-111), 3) := by decide +kernel
theorem d_Course_run_153 : decode M_Course_run.2.1 153 = .ok (.return_, 1) := by decide +kernel
set_option maxRecDepth 4000 in
theorem t_Course_run_39 {d : Nat} {I : Nat → Nat → Int32} {J : Nat → Nat → Int64} {R : Nat → Nat → Option Nat} {Q : Option Value → ow_H → Prop} {w : Nat} {o : Nat} {v4 : Int32} {v5 : Int32} {v6 : Int32} (hw : w ∈ [37, 40, 55, 65]) (ho : o ∈ [3, 15, 29, 33, 42, 47, 57]) (hR : ow_RF R) (T : ((6 ≤ (I w 1) → Q none (86, I, J, R)) ∧ (¬ 6 ≤ (I w 1) → ((¬ ((v4 >>> (v5 &&& 31)) &&& 1) = 0 → Q none (86, I, J, R)) ∧ (((v4 >>> (v5 &&& 31)) &&& 1) = 0 → (vp_in (I w 1) 6 ∧ (∀ (I5 : Nat → Nat → Int32), I5 = ow_u I (w + 1) ((I w 1).toNatClampNeg) v5 → (∀ (I6 : Nat → Nat → Int32), I6 = ow_u I5 w 1 ((I5 w 1) + 1) → (ow_AM M_Scene_reply d [.ref o, .int v5, .int v6] (86, I6, J, R) (fun r h' => ∃ (r7 : Int32) (I7 : Nat → Nat → Int32) (J7 : Nat → Nat → Int64) (R7 : Nat → Nat → Option Nat), r = some (.int r7) ∧ h' = (86, I7, J7, R7) ∧ ow_RF R7 ∧ ((¬ r7 = (-2) → (∀ (I8 : Nat → Nat → Int32), I8 = ow_u I7 w 2 ((I7 w 2) + 1) → (vp_in v5 6 ∧ ((¬ (I8 (o + 3) v5.toNatClampNeg) = (-2) → (vp_in v5 6 ∧ ow_AW ow_Y0 (ow_Z Q) M_Course_run (d + 1) 0 0 39 [(0, .ref w), (1, .ref o), (4, .int (v4 ||| ((1 : Int32) <<< (v5 &&& 31)))), (5, .int (I8 (o + 3) v5.toNatClampNeg)), (6, .int r7)] [] (86, I8, J7, R7) 0 0)) ∧ ((I8 (o + 3) v5.toNatClampNeg) = (-2) → (∀ (I9 : Nat → Nat → Int32), I9 = ow_u I8 w 3 v5 → (∀ (I10 : Nat → Nat → Int32), I10 = ow_u I9 w 4 r7 → Q none (86, I10, J7, R7)))))))) ∧ (r7 = (-2) → Q none (86, I7, J7, R7))))))))))))) : ow_AW ow_Y0 (ow_Z Q) M_Course_run (d + 1) 0 0 39 [(0, .ref w), (1, .ref o), (4, .int v4), (5, .int v5), (6, .int v6)] [] (86, I, J, R) 0 0 := by
  obtain ⟨w_lt, w_kd, w_r0, w_k1, w_n1⟩ := ow_co_ok w hw
  obtain ⟨o_lt, o_kd, o_r3, o_r4, o_r5, o_k1, o_k2, o_k3, o_n1, o_n2, o_n3⟩ := ow_sc_ok o ho
  refine ow_aload_n 0 rfl d_Course_run_39 ?_
  refine ow_gI 90 d_Course_run_40 rfl rfl (by omega) w_kd (Or.inl rfl) ?_
  refine ow_bipush (v := 6) (by decide) d_Course_run_43 ?_
  refine ow_icmp_ge (tgt := 153) d_Course_run_45 (by decide) (fun c => ?_) (fun c => ?_)
  · replace T := T.1 c
    exact ow_vret d_Course_run_153 rfl T
  · replace T := T.2 c
    refine ow_iload 2 rfl d_Course_run_48 ?_
    refine ow_iload 3 rfl d_Course_run_50 ?_
    refine ow_ishr d_Course_run_52 ?_
    refine ow_iconst (v := 1) (by decide) d_Course_run_53 ?_
    refine ow_iand d_Course_run_54 ?_
    refine ow_if_ne (tgt := 153) d_Course_run_55 (by decide) (fun c => ?_) (fun c => ?_)
    · replace T := T.1 c
      exact ow_vret d_Course_run_153 rfl T
    · replace T := T.2 c
      refine ow_iload 2 rfl d_Course_run_58 ?_
      refine ow_iconst (v := 1) (by decide) d_Course_run_60 ?_
      refine ow_iload 3 rfl d_Course_run_61 ?_
      refine ow_ishl d_Course_run_63 ?_
      refine ow_ior d_Course_run_64 ?_
      refine ow_istore (ls2 := [(4, .int (v4 ||| ((1 : Int32) <<< (v5 &&& 31)))), (0, .ref w), (1, .ref o), (5, .int v5), (6, .int v6)]) d_Course_run_65 (by decide) rfl ?_
      refine ow_aload_n 1 rfl d_Course_run_67 ?_
      refine ow_gR (a := w + 1) 87 d_Course_run_68 rfl rfl (by omega) w_kd ⟨rfl, (hR _ _ (fun q => by rw [q.1] at w_kd; exact absurd w_kd (by decide))).trans w_r0⟩ ?_
      refine ow_aload_n 1 rfl d_Course_run_71 ?_
      refine ow_gI 90 d_Course_run_72 rfl rfl (by omega) w_kd (Or.inl rfl) ?_
      refine ow_iload 3 rfl d_Course_run_75 ?_
      obtain ⟨cI, T⟩ := T
      refine ow_hiastore d_Course_run_77 (by omega) w_k1 w_n1 cI ?_
      obtain ⟨I5, eI5⟩ : ∃ uu, uu = ow_u I (w + 1) ((I w 1).toNatClampNeg) v5 := ⟨_, rfl⟩
      replace T := T I5 eI5
      rw [← eI5]
      refine ow_aload_n 1 rfl d_Course_run_78 ?_
      refine ow_dup rfl d_Course_run_79 ?_
      refine ow_gI 90 d_Course_run_80 rfl rfl (by omega) w_kd (Or.inl rfl) ?_
      refine ow_iconst (v := 1) (by decide) d_Course_run_83 ?_
      refine ow_iadd d_Course_run_84 ?_
      refine ow_pI 90 d_Course_run_85 rfl rfl (by omega) w_kd rfl rfl ?_
      obtain ⟨I6, eI6⟩ : ∃ uu, uu = ow_u I5 w 1 ((I5 w 1) + 1) := ⟨_, rfl⟩
      replace T := T I6 eI6
      rw [← eI6]
      refine ow_aload_n 2 rfl d_Course_run_88 ?_
      refine ow_iload 3 rfl d_Course_run_89 ?_
      refine ow_iload 4 rfl d_Course_run_91 ?_
      refine ow_callV (b := o) (cq := 4) (As := [.int v5, .int v6]) (rest := []) (d2 := d) d_Course_run_93 l_Course_28 v_Scene_reply (show o < 86 by omega) o_kd (by decide) rfl (Nat.le_of_ble_eq_true rfl) (Nat.le_refl _) ⟨Nat.le_refl _, Nat.le_refl _⟩ (ow_mono T ?_)
      rintro r h' ⟨r7, I7, J7, R7, rfl, rfl, hR7, T⟩
      show ow_AW ow_Y0 (ow_Z Q) M_Course_run (d + 1) 0 0 96 [(4, .int (v4 ||| ((1 : Int32) <<< (v5 &&& 31)))), (0, .ref w), (1, .ref o), (5, .int v5), (6, .int v6)] [.int r7] (86, I7, J7, R7) 0 0
      refine ow_istore (ls2 := [(6, .int r7), (4, .int (v4 ||| ((1 : Int32) <<< (v5 &&& 31)))), (0, .ref w), (1, .ref o), (5, .int v5)]) d_Course_run_96 (by decide) rfl ?_
      refine ow_iload 0 rfl d_Course_run_98 ?_
      refine ow_bipush (v := (-2)) (by decide) d_Course_run_100 ?_
      refine ow_icmp_ne (tgt := 106) d_Course_run_102 (by decide) (fun c => ?_) (fun c => ?_)
      · replace T := T.1 c
        refine ow_aload_n 2 rfl d_Course_run_106 ?_
        refine ow_dup rfl d_Course_run_107 ?_
        refine ow_gI 93 d_Course_run_108 rfl rfl (by omega) w_kd (Or.inl rfl) ?_
        refine ow_iconst (v := 1) (by decide) d_Course_run_111 ?_
        refine ow_iadd d_Course_run_112 ?_
        refine ow_pI 93 d_Course_run_113 rfl rfl (by omega) w_kd rfl rfl ?_
        obtain ⟨I8, eI8⟩ : ∃ uu, uu = ow_u I7 w 2 ((I7 w 2) + 1) := ⟨_, rfl⟩
        replace T := T I8 eI8
        rw [← eI8]
        refine ow_aload_n 3 rfl d_Course_run_116 ?_
        refine ow_gR (a := o + 3) 22 d_Course_run_117 rfl rfl (by omega) o_kd ⟨rfl, (hR7 _ _ (fun q => absurd q.2 (by decide))).trans o_r5⟩ ?_
        refine ow_iload 4 rfl d_Course_run_120 ?_
        obtain ⟨cI, T⟩ := T
        refine ow_hiaload d_Course_run_122 (by omega) o_k3 o_n3 cI ?_
        refine ow_bipush (v := (-2)) (by decide) d_Course_run_123 ?_
        refine ow_icmp_ne (tgt := 141) d_Course_run_125 (by decide) (fun c => ?_) (fun c => ?_)
        · replace T := T.1 c
          refine ow_aload_n 3 rfl d_Course_run_141 ?_
          refine ow_gR (a := o + 3) 22 d_Course_run_142 rfl rfl (by omega) o_kd ⟨rfl, (hR7 _ _ (fun q => absurd q.2 (by decide))).trans o_r5⟩ ?_
          refine ow_iload 4 rfl d_Course_run_145 ?_
          obtain ⟨cI, T⟩ := T
          refine ow_hiaload d_Course_run_147 (by omega) o_k3 o_n3 cI ?_
          refine ow_istore (ls2 := [(5, .int (I8 (o + 3) v5.toNatClampNeg)), (6, .int r7), (4, .int (v4 ||| ((1 : Int32) <<< (v5 &&& 31)))), (0, .ref w), (1, .ref o)]) d_Course_run_148 (by decide) rfl ?_
          refine ow_goto (tgt := 39) d_Course_run_150 (by decide) ?_
          refine ow_sub [3, 4, 2, 0, 1] rfl ?_
          exact T
        · replace T := T.2 c
          refine ow_aload_n 2 rfl d_Course_run_128 ?_
          refine ow_iload 4 rfl d_Course_run_129 ?_
          refine ow_pI 96 d_Course_run_131 rfl rfl (by omega) w_kd rfl rfl ?_
          obtain ⟨I9, eI9⟩ : ∃ uu, uu = ow_u I8 w 3 v5 := ⟨_, rfl⟩
          replace T := T I9 eI9
          rw [← eI9]
          refine ow_aload_n 2 rfl d_Course_run_134 ?_
          refine ow_iload 0 rfl d_Course_run_135 ?_
          refine ow_pI 99 d_Course_run_137 rfl rfl (by omega) w_kd rfl rfl ?_
          obtain ⟨I10, eI10⟩ : ∃ uu, uu = ow_u I9 w 4 r7 := ⟨_, rfl⟩
          replace T := T I10 eI10
          rw [← eI10]
          exact ow_vret d_Course_run_140 rfl T
      · replace T := T.2 c
        exact ow_vret d_Course_run_105 rfl T
set_option maxRecDepth 4000 in
theorem t_Course_run {d : Nat} {I : Nat → Nat → Int32} {J : Nat → Nat → Int64} {R : Nat → Nat → Option Nat} {Q : Option Value → ow_H → Prop} {w : Nat} {o : Nat} {p1 : Int32} {p2 : Int32} (hw : w ∈ [37, 40, 55, 65]) (ho : o ∈ [3, 15, 29, 33, 42, 47, 57]) (hR : ow_RF R) (T : (∀ (I11 : Nat → Nat → Int32), I11 = ow_u I w 1 0 → (∀ (I12 : Nat → Nat → Int32), I12 = ow_u I11 w 2 0 → (∀ (I13 : Nat → Nat → Int32), I13 = ow_u I12 w 3 (-2) → (∀ (I14 : Nat → Nat → Int32), I14 = ow_u I13 w 4 (-2) → ((p2 = 0 → ow_AW ow_Y0 (ow_Z Q) M_Course_run (d + 1) 0 0 39 [(0, .ref w), (1, .ref o), (4, .int 0), (5, .int p1), (6, .int 0)] [] (86, I14, J, R) 0 0) ∧ (¬ p2 = 0 → ow_AW ow_Y0 (ow_Z Q) M_Course_run (d + 1) 0 0 39 [(0, .ref w), (1, .ref o), (4, .int 0), (5, .int p1), (6, .int 1)] [] (86, I14, J, R) 0 0))))))) : ow_AM M_Course_run (d + 1) [.ref w, .ref o, .int p1, .int p2] (86, I, J, R) Q := by
  refine ow_enter (by decide) (Nat.le_of_ble_eq_true rfl) ?_
  show ow_AW ow_Y0 (ow_Z Q) M_Course_run (d + 1) 0 0 0 [(0, .ref w), (1, .ref o), (2, .int p1), (3, .int p2)] [] (86, I, J, R) 0 0
  obtain ⟨w_lt, w_kd, w_r0, w_k1, w_n1⟩ := ow_co_ok w hw
  obtain ⟨o_lt, o_kd, o_r3, o_r4, o_r5, o_k1, o_k2, o_k3, o_n1, o_n2, o_n3⟩ := ow_sc_ok o ho
  refine ow_aload_n 0 rfl d_Course_run_0 ?_
  refine ow_iconst (v := 0) (by decide) d_Course_run_1 ?_
  refine ow_pI 90 d_Course_run_2 rfl rfl (by omega) w_kd rfl rfl ?_
  obtain ⟨I11, eI11⟩ : ∃ uu, uu = ow_u I w 1 0 := ⟨_, rfl⟩
  replace T := T I11 eI11
  rw [← eI11]
  refine ow_aload_n 0 rfl d_Course_run_5 ?_
  refine ow_iconst (v := 0) (by decide) d_Course_run_6 ?_
  refine ow_pI 93 d_Course_run_7 rfl rfl (by omega) w_kd rfl rfl ?_
  obtain ⟨I12, eI12⟩ : ∃ uu, uu = ow_u I11 w 2 0 := ⟨_, rfl⟩
  replace T := T I12 eI12
  rw [← eI12]
  refine ow_aload_n 0 rfl d_Course_run_10 ?_
  refine ow_bipush (v := (-2)) (by decide) d_Course_run_11 ?_
  refine ow_pI 96 d_Course_run_13 rfl rfl (by omega) w_kd rfl rfl ?_
  obtain ⟨I13, eI13⟩ : ∃ uu, uu = ow_u I12 w 3 (-2) := ⟨_, rfl⟩
  replace T := T I13 eI13
  rw [← eI13]
  refine ow_aload_n 0 rfl d_Course_run_16 ?_
  refine ow_bipush (v := (-2)) (by decide) d_Course_run_17 ?_
  refine ow_pI 99 d_Course_run_19 rfl rfl (by omega) w_kd rfl rfl ?_
  obtain ⟨I14, eI14⟩ : ∃ uu, uu = ow_u I13 w 4 (-2) := ⟨_, rfl⟩
  replace T := T I14 eI14
  rw [← eI14]
  refine ow_iconst (v := 0) (by decide) d_Course_run_22 ?_
  refine ow_istore (ls2 := [(4, .int 0), (0, .ref w), (1, .ref o), (2, .int p1), (3, .int p2)]) d_Course_run_23 (by decide) rfl ?_
  refine ow_iload_n 3 rfl d_Course_run_25 ?_
  refine ow_istore (ls2 := [(5, .int p1), (4, .int 0), (0, .ref w), (1, .ref o), (2, .int p1), (3, .int p2)]) d_Course_run_26 (by decide) rfl ?_
  refine ow_iload_n 5 rfl d_Course_run_28 ?_
  refine ow_if_eq (tgt := 36) d_Course_run_29 (by decide) (fun c => ?_) (fun c => ?_)
  · replace T := T.1 c
    refine ow_iconst (v := 0) (by decide) d_Course_run_36 ?_
    refine ow_istore (ls2 := [(6, .int 0), (5, .int p1), (4, .int 0), (0, .ref w), (1, .ref o), (2, .int p1), (3, .int p2)]) d_Course_run_37 (by decide) rfl ?_
    refine ow_sub [3, 4, 2, 1, 0] rfl ?_
    exact T
  · replace T := T.2 c
    refine ow_iconst (v := 1) (by decide) d_Course_run_32 ?_
    refine ow_goto (tgt := 37) d_Course_run_33 (by decide) ?_
    refine ow_istore (ls2 := [(6, .int 1), (5, .int p1), (4, .int 0), (0, .ref w), (1, .ref o), (2, .int p1), (3, .int p2)]) d_Course_run_37 (by decide) rfl ?_
    refine ow_sub [3, 4, 2, 1, 0] rfl ?_
    exact T
