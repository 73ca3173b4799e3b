/-! Own rows: max and min. -/
theorem ow_w_max1 : Cond.static Lib.Math.max.name ∈ ow_tb := ow_mem 1000 (by decide +kernel) (by decide +kernel)
theorem ow_w_max2 : Cond.code Lib.Math.max.name Lib.Math.max.code 2 (some .int) ∈ ow_tb := ow_mem 1001 (by decide +kernel) (by decide +kernel)
theorem ow_w_max3 : Cond.initialized "java/lang/Math" ∈ ow_tb := ow_mem 117 (by decide +kernel) (by decide +kernel)
theorem ow_mmax {Y : ow_Yt} {Z : ow_Zt} {M : ow_M} {d mc ms pc k n : Nat} {ls : List (Nat × Value)} {rest : List Value} {h : ow_H} {idx : Nat} {x y : Int32} (hd : decode M.2.1 pc = .ok (.invokestatic idx, 3)) (hl2 : Cond.methodLink M.1.cls idx Lib.Math.max.name ∈ ow_tb) (hd1 : 1 ≤ d) (hcat : (rest.map fun v => v.category).sum ≤ 8) (hkn : k ≤ mc ∧ n ≤ ms) (kk : ow_AW Y Z M d mc ms (pc + 3) ls (.int (if x < y then y else x) :: rest) h k n) : ow_AW Y Z M d mc ms pc ls (.int y :: .int x :: rest) h k n := by
  intro p l e R s m args below meth c ad0 ad n0 D cs A H locs lsA C hY hR hSt hX hl
  obtain ⟨hx, hb, hr, hml, hown, hts, hlk, hnm⟩ := id C
  obtain ⟨r1, r2, r3, r4⟩ := id hR
  refine va_mmax (x := x) (y := y) (rest := rest.map (ow_tv ad)) hx hb (by rw [hml]; exact hl.1.symm) hown (hts _ hl2) (hts _ ow_w_max1) (hts _ ow_w_max3) (hts _ ow_w_max2) (by omega) (by rw [ow_cats]; omega) (by omega) (by omega) hd ?_
  exact kk p l e R s m args below meth c ad0 ad n0 D cs A H locs lsA C hY hR hSt hX hl
theorem ow_w_min1 : Cond.static Lib.Math.min.name ∈ ow_tb := ow_mem 615 (by decide +kernel) (by decide +kernel)
theorem ow_w_min2 : Cond.code Lib.Math.min.name Lib.Math.min.code 2 (some .int) ∈ ow_tb := ow_mem 616 (by decide +kernel) (by decide +kernel)
theorem ow_w_min3 : Cond.initialized "java/lang/Math" ∈ ow_tb := ow_mem 117 (by decide +kernel) (by decide +kernel)
theorem ow_mmin {Y : ow_Yt} {Z : ow_Zt} {M : ow_M} {d mc ms pc k n : Nat} {ls : List (Nat × Value)} {rest : List Value} {h : ow_H} {idx : Nat} {x y : Int32} (hd : decode M.2.1 pc = .ok (.invokestatic idx, 3)) (hl2 : Cond.methodLink M.1.cls idx Lib.Math.min.name ∈ ow_tb) (hd1 : 1 ≤ d) (hcat : (rest.map fun v => v.category).sum ≤ 8) (hkn : k ≤ mc ∧ n ≤ ms) (kk : ow_AW Y Z M d mc ms (pc + 3) ls (.int (if y < x then y else x) :: rest) h k n) : ow_AW Y Z M d mc ms pc ls (.int y :: .int x :: rest) h k n := by
  intro p l e R s m args below meth c ad0 ad n0 D cs A H locs lsA C hY hR hSt hX hl
  obtain ⟨hx, hb, hr, hml, hown, hts, hlk, hnm⟩ := id C
  obtain ⟨r1, r2, r3, r4⟩ := id hR
  refine va_mmin (x := x) (y := y) (rest := rest.map (ow_tv ad)) hx hb (by rw [hml]; exact hl.1.symm) hown (hts _ hl2) (hts _ ow_w_min1) (hts _ ow_w_min3) (hts _ ow_w_min2) (by omega) (by rw [ow_cats]; omega) (by omega) (by omega) hd ?_
  exact kk p l e R s m args below meth c ad0 ad n0 D cs A H locs lsA C hY hR hSt hX hl
