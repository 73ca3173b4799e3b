/-! Own rows: texts. -/
theorem ow_s1 : Cond.fieldLink "java/lang/String" 38 "java/lang/String" "COMPACT_STRINGS" "Z" ∈ ow_tb := ow_mem 646 (by decide +kernel) (by decide +kernel)
theorem ow_s2 : Cond.fieldLink "java/lang/String" 1053 "jdk/internal/util/Preconditions" "SIOOBE_FORMATTER" "Ljava/util/function/BiFunction;" ∈ ow_tb := ow_mem 662 (by decide +kernel) (by decide +kernel)
theorem ow_s3 : Cond.fieldLink "java/lang/String" 9 "java/lang/String" "value" "[B" ∈ ow_tb := ow_mem 2004 (by decide +kernel) (by decide +kernel)
theorem ow_s4 : Cond.fieldLink "java/lang/String" 15 "java/lang/String" "code\x72" "B" ∈ ow_tb := ow_mem 2005 (by decide +kernel) (by decide +kernel)
theorem d_Str_length_0 : decode M_Str_length.2.1 0 = .ok (.aload_n 0, 1) := by decide +kernel
theorem d_Str_length_1 : decode M_Str_length.2.1 1 = .ok (.getfield 9, 3) := by decide +kernel
theorem d_Str_length_4 : decode M_Str_length.2.1 4 = .ok (.arraylength, 1) := by decide +kernel
theorem d_Str_length_5 : decode M_Str_length.2.1 5 = .ok (.aload_n 0, 1) := by decide +kernel
theorem d_Str_length_6 : decode M_Str_length.2.1 6 = .ok (.invokevirtual 335, 3) := by decide +kernel
theorem d_Str_length_9 : decode M_Str_length.2.1 9 = .ok (.ishr, 1) := by decide +kernel
theorem d_Str_length_10 : decode M_Str_length.2.1 10 = .ok (.ireturn, 1) := by decide +kernel
theorem d_Str_coder_0 : decode M_Str_coder.2.1 0 = .ok (.getstatic 38, 3) := by decide +kernel
theorem d_Str_coder_3 : decode M_Str_coder.2.1 3 = .ok (.ifCond .eq 10, 3) := by decide +kernel
theorem d_Str_coder_6 : decode M_Str_coder.2.1 6 = .ok (.aload_n 0, 1) := by decide +kernel
theorem d_Str_coder_7 : decode M_Str_coder.2.1 7 = .ok (.getfield 15, 3) := by decide +kernel
theorem d_Str_coder_10 : decode M_Str_coder.2.1 10 = .ok (.goto 4, 3) := by decide +kernel
theorem d_Str_coder_13 : decode M_Str_coder.2.1 13 = .ok (.iconst 1, 1) := by decide +kernel
theorem d_Str_coder_14 : decode M_Str_coder.2.1 14 = .ok (.ireturn, 1) := by decide +kernel
theorem d_Str_charAt_0 : decode M_Str_charAt.2.1 0 = .ok (.aload_n 0, 1) := by decide +kernel
theorem d_Str_charAt_1 : decode M_Str_charAt.2.1 1 = .ok (.invokevirtual 492, 3) := by decide +kernel
theorem d_Str_charAt_4 : decode M_Str_charAt.2.1 4 = .ok (.ifCond .eq 12, 3) := by decide +kernel
theorem d_Str_charAt_7 : decode M_Str_charAt.2.1 7 = .ok (.aload_n 0, 1) := by decide +kernel
theorem d_Str_charAt_8 : decode M_Str_charAt.2.1 8 = .ok (.getfield 9, 3) := by decide +kernel
theorem d_Str_charAt_11 : decode M_Str_charAt.2.1 11 = .ok (.iload_n 1, 1) := by decide +kernel
theorem d_Str_charAt_12 : decode M_Str_charAt.2.1 12 = .ok (.invokestatic 495, 3) := by decide +kernel
theorem d_Str_charAt_15 : decode M_Str_charAt.2.1 15 = .ok (.ireturn, 1) := by decide +kernel
theorem d_Str_charAt_16 : decode M_Str_charAt.2.1 16 = .ok (.aload_n 0, 1) := by decide +kernel
theorem d_Str_charAt_17 : decode M_Str_charAt.2.1 17 = .ok (.getfield 9, 3) := by decide +kernel
theorem d_Str_charAt_20 : decode M_Str_charAt.2.1 20 = .ok (.iload_n 1, 1) := by decide +kernel
theorem d_Str_charAt_21 : decode M_Str_charAt.2.1 21 = .ok (.invokestatic 498, 3) := by decide +kernel
theorem d_Str_charAt_24 : decode M_Str_charAt.2.1 24 = .ok (.ireturn, 1) := by decide +kernel
theorem d_Str_isLatin1_0 : decode M_Str_isLatin1.2.1 0 = .ok (.getstatic 38, 3) := by decide +kernel
theorem d_Str_isLatin1_3 : decode M_Str_isLatin1.2.1 3 = .ok (.ifCond .eq 14, 3) := by decide +kernel
theorem d_Str_isLatin1_6 : decode M_Str_isLatin1.2.1 6 = .ok (.aload_n 0, 1) := by decide +kernel
theorem d_Str_isLatin1_7 : decode M_Str_isLatin1.2.1 7 = .ok (.getfield 15, 3) := by decide +kernel
theorem d_Str_isLatin1_10 : decode M_Str_isLatin1.2.1 10 = .ok (.ifCond .ne 7, 3) := by decide +kernel
theorem d_Str_isLatin1_13 : decode M_Str_isLatin1.2.1 13 = .ok (.iconst 1, 1) := by decide +kernel
theorem d_Str_isLatin1_14 : decode M_Str_isLatin1.2.1 14 = .ok (.goto 4, 3) := by decide +kernel
theorem d_Str_isLatin1_17 : decode M_Str_isLatin1.2.1 17 = .ok (.iconst 0, 1) := by decide +kernel
theorem d_Str_isLatin1_18 : decode M_Str_isLatin1.2.1 18 = .ok (.ireturn, 1) := by decide +kernel
theorem d_Str_checkIndex_0 : decode M_Str_checkIndex.2.1 0 = .ok (.iload_n 0, 1) := by decide +kernel
theorem d_Str_checkIndex_1 : decode M_Str_checkIndex.2.1 1 = .ok (.iload_n 1, 1) := by decide +kernel
theorem d_Str_checkIndex_2 : decode M_Str_checkIndex.2.1 2 = .ok (.getstatic 1053, 3) := by decide +kernel
theorem d_Str_checkIndex_5 : decode M_Str_checkIndex.2.1 5 = .ok (.invokestatic 1059, 3) := by decide +kernel
theorem d_Str_checkIndex_8 : decode M_Str_checkIndex.2.1 8 = .ok (.pop, 1) := by decide +kernel
theorem d_Str_checkIndex_9 : decode M_Str_checkIndex.2.1 9 = .ok (.return_, 1) := by decide +kernel
theorem d_StrL_charAt_0 : decode M_StrL_charAt.2.1 0 = .ok (.iload_n 1, 1) := by decide +kernel
theorem d_StrL_charAt_1 : decode M_StrL_charAt.2.1 1 = .ok (.aload_n 0, 1) := by decide +kernel
theorem d_StrL_charAt_2 : decode M_StrL_charAt.2.1 2 = .ok (.arraylength, 1) := by decide +kernel
theorem d_StrL_charAt_3 : decode M_StrL_charAt.2.1 3 = .ok (.invokestatic 9, 3) := by decide +kernel
theorem d_StrL_charAt_6 : decode M_StrL_charAt.2.1 6 = .ok (.aload_n 0, 1) := by decide +kernel
theorem d_StrL_charAt_7 : decode M_StrL_charAt.2.1 7 = .ok (.iload_n 1, 1) := by decide +kernel
theorem d_StrL_charAt_8 : decode M_StrL_charAt.2.1 8 = .ok (.baload, 1) := by decide +kernel
theorem d_StrL_charAt_9 : decode M_StrL_charAt.2.1 9 = .ok (.sipush 255, 3) := by decide +kernel
theorem d_StrL_charAt_12 : decode M_StrL_charAt.2.1 12 = .ok (.iand, 1) := by decide +kernel
theorem d_StrL_charAt_13 : decode M_StrL_charAt.2.1 13 = .ok (.i2c, 1) := by decide +kernel
theorem d_StrL_charAt_14 : decode M_StrL_charAt.2.1 14 = .ok (.ireturn, 1) := by decide +kernel
theorem d_Pre_checkIndex_0 : decode M_Pre_checkIndex.2.1 0 = .ok (.iload_n 0, 1) := by decide +kernel
theorem d_Pre_checkIndex_1 : decode M_Pre_checkIndex.2.1 1 = .ok (.ifCond .lt 8, 3) := by decide +kernel
theorem d_Pre_checkIndex_4 : decode M_Pre_checkIndex.2.1 4 = .ok (.iload_n 0, 1) := by decide +kernel
theorem d_Pre_checkIndex_5 : decode M_Pre_checkIndex.2.1 5 = .ok (.iload_n 1, 1) := by decide +kernel
theorem d_Pre_checkIndex_6 : decode M_Pre_checkIndex.2.1 6 = .ok (.if_icmp .lt 10, 3) := by decide +kernel
theorem d_Pre_checkIndex_9 : decode M_Pre_checkIndex.2.1 9 = .ok (.aload_n 2, 1) := by decide +kernel
theorem d_Pre_checkIndex_10 : decode M_Pre_checkIndex.2.1 10 = .ok (.iload_n 0, 1) := by decide +kernel
theorem d_Pre_checkIndex_11 : decode M_Pre_checkIndex.2.1 11 = .ok (.iload_n 1, 1) := by decide +kernel
theorem d_Pre_checkIndex_12 : decode M_Pre_checkIndex.2.1 12 = .ok (.invokestatic 95, 3) := by decide +kernel
theorem d_Pre_checkIndex_16 : decode M_Pre_checkIndex.2.1 16 = .ok (.iload_n 0, 1) := by decide +kernel
theorem d_Pre_checkIndex_17 : decode M_Pre_checkIndex.2.1 17 = .ok (.ireturn, 1) := by decide +kernel
section OWT
variable {Y : ow_Yt} {Z : ow_Zt} {M : ow_M} {d mc ms pc k n : Nat} {ls : List (Nat × Value)} {rest : List Value} {h : ow_H}
theorem ow_gsC {idx : Nat} (hd : decode M.2.1 pc = .ok (.getstatic idx, 3)) (hw : Cond.fieldLink M.1.cls idx "java/lang/String" "COMPACT_STRINGS" "Z" ∈ ow_tb) (kk : ow_AW Y Z M d mc ms (pc + 3) ls (.int 1 :: rest) h k n) : ow_AW Y Z M d mc ms pc ls rest h k n := by
  intro p l e R s m args below meth c ad0 ad n0 D cs A H locs lsA C hY hR hSt hX hl
  obtain ⟨hx, hb, hr, hml, hown, hts, hlk, hnm⟩ := id C
  obtain ⟨hK, hP, hD, hS, hA, had, hn0, hn9⟩ := id hX
  refine va_gets hx hb hSt.2.2.1 hS hown (hts _ hw) (fun _ q => q) hd ?_
  exact kk p l e R s m args below meth c ad0 ad n0 D cs A H locs lsA C hY hR hSt hX hl
theorem ow_gsF {idx : Nat} (hd : decode M.2.1 pc = .ok (.getstatic idx, 3)) (hw : Cond.fieldLink M.1.cls idx "jdk/internal/util/Preconditions" "SIOOBE_FORMATTER" "Ljava/util/function/BiFunction;" ∈ ow_tb) (kk : ∀ v : Value, v.category = 1 → ow_AW Y Z M d mc ms (pc + 3) ls (v :: rest) h k n) : ow_AW Y Z M d mc ms pc ls rest h k n := by
  intro p l e R s m args below meth c ad0 ad n0 D cs A H locs lsA C hY hR hSt hX hl
  obtain ⟨hx, hb, hr, hml, hown, hts, hlk, hnm⟩ := id C
  obtain ⟨hK, hP, hD, hS, hA, had, hn0, hn9⟩ := id hX
  rcases hSt.2.2.2 with hz | hz
  · refine va_gets hx hb hz hS hown (hts _ hw) (fun _ q => q) hd ?_
    exact kk .null rfl p l e R s m args below meth c ad0 ad n0 D cs A H locs lsA C hY hR hSt hX hl
  · refine va_gets hx hb hz hS hown (hts _ hw) (fun _ q => q) hd ?_
    have K := kk (.ref 970) rfl p l e R s m args below meth c ad0 ad n0 D cs A H locs lsA C hY hR hSt hX hl
    have e : ow_tv ad (.ref 970) = .ref (ad0 970) := by show Value.ref (ad 970) = _; rw [had 970 (Or.inr (by decide))]
    rw [List.map_cons, e] at K
    exact K
theorem ow_sval {idx i : Nat} (hi : i < ow_ns) (hd : decode M.2.1 pc = .ok (.getfield idx, 3)) (hw : Cond.fieldLink M.1.cls idx "java/lang/String" "value" "[B" ∈ ow_tb) (kk : ow_AW Y Z M d mc ms (pc + 3) ls (.ref (1100 + i) :: rest) h k n) : ow_AW Y Z M d mc ms pc ls (.ref (1000 + i) :: rest) h k n := by
  intro p l e R s m args below meth c ad0 ad n0 D cs A H locs lsA C hY hR hSt hX hl
  obtain ⟨hx, hb, hr, hml, hown, hts, hlk, hnm⟩ := id C
  obtain ⟨hK, hP, hD, hS, hA, had, hn0, hn9⟩ := id hX
  have K := kk p l e R s m args below meth c ad0 ad n0 D cs A H locs lsA C hY hR hSt hX hl
  show W p l e R s m args below meth c H locs k n _ (F0 m pc lsA (.ref (ad (1000 + i)) :: rest.map (ow_tv ad)))
  have K : W p l e R s m args below meth c H locs k n _ (F0 m (pc + 3) lsA (.ref (ad (1100 + i)) :: rest.map (ow_tv ad))) := K
  rw [had (1000 + i) (Or.inr (by omega))]
  rw [had (1100 + i) (Or.inr (by omega))] at K
  exact vk_getf hx hb (hSt.1 i hi).2.2.1 hS hown (hts _ hw) (fun _ q => q) hd K
theorem ow_scod {idx i : Nat} (hi : i < ow_ns) (hd : decode M.2.1 pc = .ok (.getfield idx, 3)) (hw : Cond.fieldLink M.1.cls idx "java/lang/String" "code\x72" "B" ∈ ow_tb) (kk : ow_AW Y Z M d mc ms (pc + 3) ls (.int 0 :: rest) h k n) : ow_AW Y Z M d mc ms pc ls (.ref (1000 + i) :: rest) h k n := by
  intro p l e R s m args below meth c ad0 ad n0 D cs A H locs lsA C hY hR hSt hX hl
  obtain ⟨hx, hb, hr, hml, hown, hts, hlk, hnm⟩ := id C
  obtain ⟨hK, hP, hD, hS, hA, had, hn0, hn9⟩ := id hX
  have K := kk p l e R s m args below meth c ad0 ad n0 D cs A H locs lsA C hY hR hSt hX hl
  show W p l e R s m args below meth c H locs k n _ (F0 m pc lsA (.ref (ad (1000 + i)) :: rest.map (ow_tv ad)))
  rw [had (1000 + i) (Or.inr (by omega))]
  exact vk_getf hx hb (hSt.1 i hi).2.1 hS hown (hts _ hw) (fun _ q => q) hd K
theorem ow_slen {i : Nat} (hi : i < ow_ns) (hd : decode M.2.1 pc = .ok (.arraylength, 1)) (kk : ow_AW Y Z M d mc ms (pc + 1) ls (.int (nI (ow_bt i).length) :: rest) h k n) : ow_AW Y Z M d mc ms pc ls (.ref (1100 + i) :: rest) h k n := by
  intro p l e R s m args below meth c ad0 ad n0 D cs A H locs lsA C hY hR hSt hX hl
  obtain ⟨hx, hb, hr, hml, hown, hts, hlk, hnm⟩ := id C
  obtain ⟨hK, hP, hD, hS, hA, had, hn0, hn9⟩ := id hX
  have K := kk p l e R s m args below meth c ad0 ad n0 D cs A H locs lsA C hY hR hSt hX hl
  show W p l e R s m args below meth c H locs k n _ (F0 m pc lsA (.ref (ad (1100 + i)) :: rest.map (ow_tv ad)))
  rw [had (1100 + i) (Or.inr (by omega))]
  exact va_tlen hx hb (hSt.1 i hi).2.2.2 hS rfl hd K
theorem ow_sbal {i : Nat} {j : Int32} (hi : i < ow_ns) (hd : decode M.2.1 pc = .ok (.baload, 1)) (hj : vp_in j (ow_bt i).length) (kk : ow_AW Y Z M d mc ms (pc + 1) ls (.int ((ow_bt i).getD j.toNatClampNeg 0) :: rest) h k n) : ow_AW Y Z M d mc ms pc ls (.int j :: .ref (1100 + i) :: rest) h k n := by
  intro p l e R s m args below meth c ad0 ad n0 D cs A H locs lsA C hY hR hSt hX hl
  obtain ⟨hx, hb, hr, hml, hown, hts, hlk, hnm⟩ := id C
  obtain ⟨hK, hP, hD, hS, hA, had, hn0, hn9⟩ := id hX
  have K := kk p l e R s m args below meth c ad0 ad n0 D cs A H locs lsA C hY hR hSt hX hl
  show W p l e R s m args below meth c H locs k n _ (F0 m pc lsA (.int j :: .ref (ad (1100 + i)) :: rest.map (ow_tv ad)))
  rw [had (1100 + i) (Or.inr (by omega))]
  exact va_tb hx hb (hSt.1 i hi).2.2.2 hS hj rfl hd K
end OWT
theorem ow_nret {M : ow_M} {d pc : Nat} {ls : List (Nat × Value)} {h : ow_H} {Q : Option Value → ow_H → Prop} {x : Int32} {ty : FieldType} (hd : decode M.2.1 pc = .ok (.ireturn, 1)) (hr : M.2.2.2 = some ty) (hz : narrow ty (.int x) = .int x) (hq : Q (some (.int x)) h) : ow_AW ow_Y0 (ow_Z Q) M d 0 0 pc ls [.int x] h 0 0 := by
  intro p l e R s m args below meth c ad0 ad n0 D cs A H locs lsA C hY hR hSt hX hl
  obtain ⟨hx, hb, hrt, hml, hown, hts, hlk, hnm⟩ := C
  obtain ⟨hK, hP, hD, hS, hA, had, hn0, hn9, hnk⟩ := hX
  have hY : ad = ad0 := hY
  subst hY
  exact W.zret (ty := ty) hx hb (hrt.trans hr) hz (fun t ht hW => ⟨⟨some (.int x), h, rfl, hq, by omega, by rw [ht]; exact hP, va_K.moved hW.alike hK, hD⟩, hS.F ht⟩) hS.2.2 hd hlk
section STR
variable {d : Nat} {h : ow_H} {Q : Option Value → ow_H → Prop} {i : Nat}
theorem c_Str_coder (hi : i < ow_ns) (hQ : Q (some (.int 0)) h) : ow_AM M_Str_coder (d + 1) [.ref (1000 + i)] h Q := by
  refine ow_enter (by decide) (Nat.le_of_ble_eq_true rfl) ?_
  refine ow_gsC d_Str_coder_0 ow_s1 ?_
  refine ow_if_eq (tgt := 13) d_Str_coder_3 (by decide) (fun c => absurd c (by decide)) (fun c => ?_)
  refine ow_aload_n 0 rfl d_Str_coder_6 ?_
  refine ow_scod hi d_Str_coder_7 ow_s4 ?_
  refine ow_goto (tgt := 14) d_Str_coder_10 (by decide) ?_
  exact ow_nret d_Str_coder_14 rfl (by decide) hQ
theorem c_Str_length (hi : i < ow_ns) (hQ : Q (some (.int (nI (ow_bt i).length))) h) : ow_AM M_Str_length (d + 2) [.ref (1000 + i)] h Q := by
  refine ow_enter (by decide) (Nat.le_of_ble_eq_true rfl) ?_
  refine ow_aload_n 0 rfl d_Str_length_0 ?_
  refine ow_sval hi d_Str_length_1 ow_s3 ?_
  refine ow_slen hi d_Str_length_4 ?_
  refine ow_aload_n 0 rfl d_Str_length_5 ?_
  refine ow_callT (i := i) (As := []) (rest := [.int (nI (ow_bt i).length)]) (d2 := d + 1) d_Str_length_6 l_Str_335 v_Str_coder hi rfl (Nat.le_of_ble_eq_true rfl) (by omega) ⟨Nat.le_refl _, Nat.le_refl _⟩ (c_Str_coder hi ?_)
  show ow_AW ow_Y0 (ow_Z Q) M_Str_length (d + 2) 0 0 9 [(0, .ref (1000 + i))] [.int 0, .int (nI (ow_bt i).length)] h 0 0
  refine ow_ishr d_Str_length_9 ?_
  refine ow_iret d_Str_length_10 rfl ?_
  rw [sb_shr0]
  exact hQ
theorem c_Pre_checkIndex {x y : Int32} {v : Value} (hv : v.category = 1) (h1 : ¬ x < 0) (h2 : x < y) (hQ : Q (some (.int x)) h) : ow_AM M_Pre_checkIndex (d + 1) [.int x, .int y, v] h Q := by
  refine ow_enter (by decide) ?_ ?_
  · cases v <;> first | exact Nat.le_of_ble_eq_true rfl | (simp [Value.category] at hv)
  · show ow_AW ow_Y0 (ow_Z Q) M_Pre_checkIndex (d + 1) 0 0 0 [(0, .int x), (1, .int y), (2, v)] [] h 0 0
    refine ow_iload_n 0 rfl d_Pre_checkIndex_0 ?_
    refine ow_if_lt (tgt := 9) d_Pre_checkIndex_1 (by decide) (fun c => absurd c h1) (fun c => ?_)
    refine ow_iload_n 0 rfl d_Pre_checkIndex_4 ?_
    refine ow_iload_n 1 rfl d_Pre_checkIndex_5 ?_
    refine ow_icmp_lt (tgt := 16) d_Pre_checkIndex_6 (by decide) (fun c => ?_) (fun c => absurd h2 c)
    refine ow_iload_n 0 rfl d_Pre_checkIndex_16 ?_
    exact ow_iret d_Pre_checkIndex_17 rfl hQ
theorem c_Str_checkIndex {x y : Int32} (h1 : ¬ x < 0) (h2 : x < y) (hQ : Q none h) : ow_AM M_Str_checkIndex (d + 2) [.int x, .int y] h Q := by
  refine ow_enter (by decide) (Nat.le_of_ble_eq_true rfl) ?_
  refine ow_iload_n 0 rfl d_Str_checkIndex_0 ?_
  refine ow_iload_n 1 rfl d_Str_checkIndex_1 ?_
  refine ow_gsF d_Str_checkIndex_2 ow_s2 (fun v hv => ?_)
  refine ow_callS (As := [.int x, .int y, v]) (rest := []) (d2 := d + 1) d_Str_checkIndex_5 l_Str_1059 v_Pre_checkIndex (Nat.le_of_ble_eq_true rfl) (by omega) ⟨Nat.le_refl _, Nat.le_refl _⟩ (c_Pre_checkIndex hv h1 h2 ?_)
  show ow_AW ow_Y0 (ow_Z Q) M_Str_checkIndex (d + 2) 0 0 8 [(0, .int x), (1, .int y)] [.int x] h 0 0
  refine ow_pop rfl d_Str_checkIndex_8 ?_
  exact ow_vret d_Str_checkIndex_9 rfl hQ
theorem ow_bt_ok : ∀ i, i < ow_ns → ∀ j, j < (ow_bt i).length → ((((ow_bt i).getD j 0 &&& 255).toUInt32 % 65536).toInt32 = (ow_bt i).getD j 0 ∧ narrow .char (.int ((ow_bt i).getD j 0)) = .int ((ow_bt i).getD j 0) ∧ (ow_bt i).length < 100) := by decide +kernel
theorem c_StrL_charAt {j : Nat} (hi : i < ow_ns) (hj : j < (ow_bt i).length) (hQ : Q (some (.int ((ow_bt i).getD j 0))) h) : ow_AM M_StrL_charAt (d + 3) [.ref (1100 + i), .int (nI j)] h Q := by
  obtain ⟨b1, b2, b3⟩ := ow_bt_ok i hi j hj
  refine ow_enter (by decide) (Nat.le_of_ble_eq_true rfl) ?_
  refine ow_iload_n 1 rfl d_StrL_charAt_0 ?_
  refine ow_aload_n 0 rfl d_StrL_charAt_1 ?_
  refine ow_slen hi d_StrL_charAt_2 ?_
  refine ow_callS (As := [.int (nI j), .int (nI (ow_bt i).length)]) (rest := []) (d2 := d + 2) d_StrL_charAt_3 l_StrL_9 v_Str_checkIndex (Nat.le_of_ble_eq_true rfl) (by omega) ⟨Nat.le_refl _, Nat.le_refl _⟩ (c_Str_checkIndex (nI_pos (by omega)) (nI_lt hj (by omega)) ?_)
  show ow_AW ow_Y0 (ow_Z Q) M_StrL_charAt (d + 3) 0 0 6 [(0, .ref (1100 + i)), (1, .int (nI j))] [] h 0 0
  refine ow_aload_n 0 rfl d_StrL_charAt_6 ?_
  refine ow_iload_n 1 rfl d_StrL_charAt_7 ?_
  refine ow_sbal hi d_StrL_charAt_8 (vp_in_nI hj (by omega)) ?_
  refine ow_sipush (v := 255) (by decide) d_StrL_charAt_9 ?_
  refine ow_iand d_StrL_charAt_12 ?_
  refine ow_i2c d_StrL_charAt_13 ?_
  rw [nI_clamp (by omega), b1]
  exact ow_nret d_StrL_charAt_14 rfl b2 hQ
theorem c_Str_isLatin1 (hi : i < ow_ns) (hQ : Q (some (.int 1)) h) : ow_AM M_Str_isLatin1 (d + 1) [.ref (1000 + i)] h Q := by
  refine ow_enter (by decide) (Nat.le_of_ble_eq_true rfl) ?_
  refine ow_gsC d_Str_isLatin1_0 ow_s1 ?_
  refine ow_if_eq (tgt := 17) d_Str_isLatin1_3 (by decide) (fun c => absurd c (by decide)) (fun c => ?_)
  refine ow_aload_n 0 rfl d_Str_isLatin1_6 ?_
  refine ow_scod hi d_Str_isLatin1_7 ow_s4 ?_
  refine ow_if_ne (tgt := 17) d_Str_isLatin1_10 (by decide) (fun c => absurd rfl c) (fun c => ?_)
  refine ow_iconst (v := 1) (by decide) d_Str_isLatin1_13 ?_
  refine ow_goto (tgt := 18) d_Str_isLatin1_14 (by decide) ?_
  exact ow_zret d_Str_isLatin1_18 rfl (by decide) hQ
theorem c_Str_charAt {j : Nat} (hi : i < ow_ns) (hj : j < (ow_bt i).length) (hQ : Q (some (.int ((ow_bt i).getD j 0))) h) : ow_AM M_Str_charAt (d + 4) [.ref (1000 + i), .int (nI j)] h Q := by
  obtain ⟨b1, b2, b3⟩ := ow_bt_ok i hi j hj
  refine ow_enter (by decide) (Nat.le_of_ble_eq_true rfl) ?_
  refine ow_aload_n 0 rfl d_Str_charAt_0 ?_
  refine ow_callT (i := i) (As := []) (rest := []) (d2 := d + 3) d_Str_charAt_1 l_Str_492 v_Str_isLatin1 hi rfl (Nat.le_of_ble_eq_true rfl) (by omega) ⟨Nat.le_refl _, Nat.le_refl _⟩ (c_Str_isLatin1 hi ?_)
  show ow_AW ow_Y0 (ow_Z Q) M_Str_charAt (d + 4) 0 0 4 [(0, .ref (1000 + i)), (1, .int (nI j))] [.int 1] h 0 0
  refine ow_if_eq (tgt := 16) d_Str_charAt_4 (by decide) (fun c => absurd c (by decide)) (fun c => ?_)
  refine ow_aload_n 0 rfl d_Str_charAt_7 ?_
  refine ow_sval hi d_Str_charAt_8 ow_s3 ?_
  refine ow_iload_n 1 rfl d_Str_charAt_11 ?_
  refine ow_callS (As := [.ref (1100 + i), .int (nI j)]) (rest := []) (d2 := d + 3) d_Str_charAt_12 l_Str_495 v_StrL_charAt (Nat.le_of_ble_eq_true rfl) (by omega) ⟨Nat.le_refl _, Nat.le_refl _⟩ (c_StrL_charAt hi hj ?_)
  show ow_AW ow_Y0 (ow_Z Q) M_Str_charAt (d + 4) 0 0 15 [(0, .ref (1000 + i)), (1, .int (nI j))] [.int ((ow_bt i).getD j 0)] h 0 0
  exact ow_nret d_Str_charAt_15 rfl b2 hQ
end STR
