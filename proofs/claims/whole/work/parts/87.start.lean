/-! Own rows: the start. -/
def ow_ixR : List Nat := [105, 111, 113, 115, 117, 119, 121, 123, 136, 203, 205, 207, 209, 211, 146, 168, 213, 215, 217]
def ow_ixM : List Nat := [122, 124, 126, 128, 130, 132, 134, 204, 210, 216, 218, 220, 222, 224, 226, 235, 237, 239, 243]
def ow_tR (i : Nat) : Term := .string "FollyShire$Reade\x72" (ow_ixR.getD i 0)
def ow_tM (i : Nat) : Term := .string "FollyShireModel" (ow_ixM.getD i 0)
def ow_fl1 : List Cond := flatC (Jvm.Cond.and given_1 narrow_1)
theorem ow_q1 : ∀ i, i < 19 → Cond.exactly (ow_tR i) "java/lang/String" ∈ ow_fl1 := fun i hi => List.mem_of_getElem? ((by decide +kernel : ∀ i, i < 19 → ow_fl1[([24, 33, 42, 51, 61, 71, 81, 91, 99, 106, 115, 123, 134, 145, 155, 164, 172, 179, 185] : List Nat).getD i 0]? = some (Cond.exactly (ow_tR i) "java/lang/String")) i hi)
theorem ow_q2 : ∀ i, i < 19 → Cond.eq (.field (ow_tR i) "java/lang/String" "code\x72" "B") (.int 0) ∈ ow_fl1 := fun i hi => List.mem_of_getElem? ((by decide +kernel : ∀ i, i < 19 → ow_fl1[([25, 34, 43, 52, 62, 72, 82, 92, 100, 107, 116, 124, 135, 146, 156, 165, 173, 180, 186] : List Nat).getD i 0]? = some (Cond.eq (.field (ow_tR i) "java/lang/String" "code\x72" "B") (.int 0))) i hi)
theorem ow_q3 : ∀ i, i < 19 → Cond.arrayOf (.field (ow_tR i) "java/lang/String" "value" "[B") .byte ∈ ow_fl1 := fun i hi => List.mem_of_getElem? ((by decide +kernel : ∀ i, i < 19 → ow_fl1[([26, 35, 44, 53, 63, 73, 83, 93, 101, 108, 117, 125, 136, 147, 157, 166, 174, 181, 187] : List Nat).getD i 0]? = some (Cond.arrayOf (.field (ow_tR i) "java/lang/String" "value" "[B") .byte)) i hi)
theorem ow_q4 : ∀ i, i < 19 → Cond.eq (.length (.field (ow_tR i) "java/lang/String" "value" "[B")) (.int (Int32.ofNat (ow_bt i).length)) ∈ ow_fl1 := fun i hi => List.mem_of_getElem? ((by decide +kernel : ∀ i, i < 19 → ow_fl1[([27, 36, 45, 54, 64, 74, 84, 94, 102, 109, 118, 126, 137, 148, 158, 167, 175, 182, 188] : List Nat).getD i 0]? = some (Cond.eq (.length (.field (ow_tR i) "java/lang/String" "value" "[B")) (.int (Int32.ofNat (ow_bt i).length)))) i hi)
theorem ow_q5 : ∀ i, i < 19 → ∀ j, j < (ow_bt i).length → Cond.eq (.elem (.field (ow_tR i) "java/lang/String" "value" "[B") (.int (Int32.ofNat j))) (.int ((ow_bt i).getD j 0)) ∈ ow_fl1 := fun i hi j hj => List.mem_of_getElem? ((by decide +kernel : ∀ i, i < 19 → ∀ j, j < (ow_bt i).length → ow_fl1[(([[28, 29, 30, 31, 32], [37, 38, 39, 40, 41], [46, 47, 48, 49, 50], [55, 56, 57, 58, 59, 60], [65, 66, 67, 68, 69, 70], [75, 76, 77, 78, 79, 80], [85, 86, 87, 88, 89, 90], [95, 96, 97, 98], [103, 104, 105], [110, 111, 112, 113, 114], [119, 120, 121, 122], [127, 128, 129, 130, 131, 132, 133], [138, 139, 140, 141, 142, 143, 144], [149, 150, 151, 152, 153, 154], [159, 160, 161, 162, 163], [168, 169, 170, 171], [176, 177, 178], [183, 184], [189, 190, 191, 192]] : List (List Nat)).getD i []).getD j 0]? = some (Cond.eq (.elem (.field (ow_tR i) "java/lang/String" "value" "[B") (.int (Int32.ofNat j))) (.int ((ow_bt i).getD j 0)))) i hi j hj)
theorem ow_q6 : ∀ i, i < 19 → Cond.eq (ow_tR i) (ow_tM i) ∈ ow_fl1 := fun i hi => List.mem_of_getElem? ((by decide +kernel : ∀ i, i < 19 → ow_fl1[([202, 229, 239, 250, 261, 272, 283, 211, 219, 293, 302, 314, 326, 337, 347, 356, 364, 371, 380] : List Nat).getD i 0]? = some (Cond.eq (ow_tR i) (ow_tM i))) i hi)
theorem ow_q7 : ∀ q ∈ ow_strs, q.2.2.2 < 19 ∧ (Term.string q.1 q.2.1 = ow_tR q.2.2.2 ∨ Term.string q.1 q.2.1 = ow_tM q.2.2.2) ∧ Cond.stringRef q.1 q.2.1 q.2.2.1 ∈ lw_tbl := by decide +kernel
theorem ow_q8 : Cond.eq (.static "java/lang/String" "COMPACT_STRINGS" "Z") (.int 1) ∈ ow_fl1 := List.mem_of_getElem? (i := 4) (by decide +kernel)
theorem ow_q9 : Cond.isRef (.static "jdk/internal/util/Preconditions" "SIOOBE_FORMATTER" "Ljava/util/function/BiFunction;") ∈ ow_fl1 := List.mem_of_getElem? (i := 5) (by decide +kernel)
theorem ow_q10 : Cond.isRef (.static Bundle.tN "UNASSIGNED_STACK" Bundle.steD) ∈ ow_fl1 := List.mem_of_getElem? (i := 9) (by decide +kernel)
theorem ow_q11 : Cond.isRef (.static Bundle.tN "SUPPRESSED_SENTINEL" Bundle.listD) ∈ ow_fl1 := List.mem_of_getElem? (i := 10) (by decide +kernel)
theorem ow_sw1 : ∀ w ∈ ([.laysStatic "java/lang/String" "COMPACT_STRINGS" "Z", .initialized "java/lang/String", .laysStatic "jdk/internal/util/Preconditions" "SIOOBE_FORMATTER" "Ljava/util/function/BiFunction;", .initialized "jdk/internal/util/Preconditions", .laysStatic Bundle.tN "UNASSIGNED_STACK" Bundle.steD, .laysStatic Bundle.tN "SUPPRESSED_SENTINEL" Bundle.listD, .initialized Bundle.tN] : List Cond), w ∈ lw_tbl := by decide +kernel
theorem ow_sw2 : ∀ w ∈ ow_xB, w ∈ lw_tbl := by decide +kernel
theorem ow_sw3 : ∀ c, c < 13 → Cond.instantiable (ow_cn c) (ow_nf c) ∈ lw_tbl := by decide +kernel
theorem ow_sw4 : ∀ ty ∈ ([.byte, .int, .long] : List FieldType), Cond.arrayClass ty ∈ lw_tbl := by decide +kernel
theorem ow_arr {s : State} {args : Array Value} {ty : FieldType} (h : (Cond.arrayClass ty).before args s = true) (hb : ty = .byte ∨ ty = .int ∨ ty = .long) : ∃ cA : ClassId, ArrOfT s cA ty ∧ va_RA s cA ty := by
  obtain ⟨cA, kA, comp, h1, h2, h3⟩ := Cond.arrayClass_spec (args := args) (first := s) (o := none) (s := s) (idx := []) h
  refine ⟨cA, fun n z => ⟨fun k h => (by cases h), kA, h2, comp, h3⟩, ?_⟩
  rcases hb with rfl | rfl | rfl <;> exact h1
theorem whole_start {p : Program} {e : Env} {s : State} {m : MethodId} {below : List Frame} {meth : Method} {c : Code} (l : Launch) (hflags : l.flags = flags0) {b L : Nat} {xs : Nat → Int32} (hL : L ≤ 3072) (C0 : lw_At p s m meth c b L xs) (hname : meth.name = M_Law_law.1.name) : W p l e room_1 s m #[Value.ref b] below meth c s.heap [] 0 0 (lw_Z below #[Value.ref b] s) (entryFrame m ([Value.ref b] : List Value).toArray 7) := by
  obtain ⟨hx, hb, hr, hml, hown, hts, hX, hbl, hlk, hgv⟩ := id C0
  have hs : ∀ w ∈ ow_fl1, w.before #[Value.ref b] s = true := flat_of_before _ hgv
  have hA : ∀ a : Nat, a < s.heap.size → ¬ (fun q : Nat => s.heap.size ≤ q) a := fun a h => Nat.not_le.mpr h
  have h0 : ∀ i : Nat, ∃ q : Nat × Nat, i < 19 → (ow_tR i).eval #[Value.ref b] s none [] s = some (.ref q.1) ∧ va_O "java/lang/String" q.1 (fun q : Nat => s.heap.size ≤ q) s s.heap ∧ va_OF "java/lang/String" "code\x72" "B" (.int 0) q.1 (fun q : Nat => s.heap.size ≤ q) s s.heap ∧ va_OF "java/lang/String" "value" "[B" (.ref q.2) q.1 (fun q : Nat => s.heap.size ≤ q) s s.heap ∧ va_T .byte q.2 (ow_bt i).length (fun j => .int ((ow_bt i).getD j 0)) (fun q : Nat => s.heap.size ≤ q) s s.heap := by
    intro i
    by_cases hi : i < 19
    · have hlen : (ow_bt i).length < 2 ^ 31 := by
        have K : ∀ i, i < 19 → (ow_bt i).length < 100 := by decide
        have := K i hi
        omega
      obtain ⟨a, c, cA, kA, q1, q2, q3, q4, q5, q6, -⟩ := Cond.exactly_spec (args := #[Value.ref b]) (first := s) (o := none) (s := s) (idx := []) (t := ow_tR i) (cls := "java/lang/String") (hs _ (ow_q1 i hi))
      obtain ⟨t, ht, hT⟩ := va_Tof (f := fun j => .int ((ow_bt i).getD j 0)) (A := fun q : Nat => s.heap.size ≤ q) hlen (hs _ (ow_q3 i hi)) (va_eqt (hs _ (ow_q4 i hi))) (fun j hj => va_eqt (hs _ (ow_q5 i hi j hj))) hA
      exact ⟨(a, t), fun _ => ⟨q1, ⟨cA, q3, q5, by rw [q6]; exact q2, hA a (Array.getElem?_eq_some_iff.mp q3).1⟩, vk_OFof q1 (va_eqt (hs _ (ow_q2 i hi))) hA, vk_OFof q1 ht hA, hT⟩⟩
    · exact ⟨(0, 0), fun h => absurd h hi⟩
  obtain ⟨ak, hak⟩ := Classical.axiomOfChoice h0
  have hf := va_Zqof (A := fun q : Nat => s.heap.size ≤ q) (hts _ (ow_sw1 _ (by simp))) (hts _ (ow_sw1 (.initialized "jdk/internal/util/Preconditions") (by simp))) (hs _ ow_q9) hA
  obtain ⟨fm, hfm⟩ : ∃ fm : Nat, va_Z "jdk/internal/util/Preconditions" "SIOOBE_FORMATTER" "Ljava/util/function/BiFunction;" .null (fun q : Nat => s.heap.size ≤ q) s s.heap ∨ va_Z "jdk/internal/util/Preconditions" "SIOOBE_FORMATTER" "Ljava/util/function/BiFunction;" (.ref fm) (fun q : Nat => s.heap.size ≤ q) s s.heap := by
    rcases hf with h | ⟨t, h⟩
    · exact ⟨0, Or.inl h⟩
    · exact ⟨t, Or.inr h⟩
  obtain ⟨ad0, had0⟩ : ∃ ad0 : Nat → Nat, ad0 = fun i => if i = 980 then b else if i = 970 then fm else if i < 1100 then (ak (i - 1000)).1 else (ak (i - 1100)).2 := ⟨_, rfl⟩
  have g980 : ad0 980 = b := by rw [had0]; rfl
  have g970 : ad0 970 = fm := by rw [had0]; rfl
  have gk : ∀ i, i < 19 → ad0 (1000 + i) = (ak i).1 := fun i hi => by
    rw [had0]
    show (if 1000 + i = 980 then b else if 1000 + i = 970 then fm else if 1000 + i < 1100 then (ak (1000 + i - 1000)).1 else (ak (1000 + i - 1100)).2) = _
    rw [if_neg (by omega), if_neg (by omega), if_pos (by omega), show 1000 + i - 1000 = i from by omega]
  have gv : ∀ i, i < 19 → ad0 (1100 + i) = (ak i).2 := fun i hi => by
    rw [had0]
    show (if 1100 + i = 980 then b else if 1100 + i = 970 then fm else if 1100 + i < 1100 then (ak (1100 + i - 1000)).1 else (ak (1100 + i - 1100)).2) = _
    rw [if_neg (by omega), if_neg (by omega), if_neg (by omega), show 1100 + i - 1100 = i from by omega]
  have hS : ow_S ad0 (fun q : Nat => s.heap.size ≤ q) s := by
    refine ⟨fun i hi => ?_, fun q hq => ?_, ?_, ?_⟩
    · rw [gk i hi, gv i hi]
      exact (hak i hi).2
    · obtain ⟨k1, k2, k3⟩ := ow_q7 q hq
      rw [gk _ k1]
      refine vk_R.of (hts _ k3) ?_
      rcases k2 with k2 | k2
      · rw [k2]; exact (hak _ k1).1
      · rw [k2]; exact va_eqR (hs _ (ow_q6 _ k1)) (hak _ k1).1
    · exact va_Zof (hts _ (ow_sw1 _ (by simp))) (hts _ (ow_sw1 (.initialized "java/lang/String") (by simp))) (va_eqi (hs _ ow_q8)) hA
    · rw [g970]
      exact hfm
  have hXs : ow_Xs (fun q : Nat => s.heap.size ≤ q) s := ⟨⟨vx_Zqof (hts _ (ow_sw1 _ (by simp))) (hts _ (ow_sw1 (.initialized Bundle.tN) (by simp))) (hs _ ow_q10) hA, vx_Zqof (hts _ (ow_sw1 _ (by simp))) (hts _ (ow_sw1 (.initialized Bundle.tN) (by simp))) (hs _ ow_q11) hA⟩, fun w hw => va_Nw.of (ow_xB_t w hw) (hts _ (ow_sw2 w hw))⟩
  have hKn : ∀ c : Nat, ∃ q : ClassId × (Nat → Nat), c < 13 → u_Kn s (ow_cn c) (ow_T c) (ow_nf c) q.1 q.2 := by
    intro c
    by_cases hc : c < 13
    · obtain ⟨cC, iS, h⟩ := u_known (C := ow_cn c) (T := ow_T c) (N := ow_nf c) (n := ow_nf c) (ws := lw_tbl) hts (fun w hw => (List.mem_filter.mp (ow_in hc w hw)).1) (hts _ (ow_sw3 c hc))
      exact ⟨(cC, iS), fun _ => h⟩
    · exact ⟨(s.heap.size, fun _ => 0), fun h => absurd h hc⟩
  obtain ⟨dd, hdd⟩ := Classical.axiomOfChoice hKn
  obtain ⟨c1, a1, r1⟩ := ow_arr (hts _ (ow_sw4 .byte (by simp))) (Or.inl rfl)
  obtain ⟨c2, a2, r2⟩ := ow_arr (hts _ (ow_sw4 .int (by simp))) (Or.inr (Or.inl rfl))
  obtain ⟨c3, a3, r3⟩ := ow_arr (hts _ (ow_sw4 .long (by simp))) (Or.inr (Or.inr rfl))
  have hK : va_K (fun c => (dd c).1, fun c => (dd c).2) ow_cl (ow_tys (c1, c2, c3)) s := by
    refine ⟨fun c q hq => ?_, fun k q hq => ?_⟩
    · by_cases hc : c < 13
      · rw [ow_cl_at hc] at hq
        cases hq
        exact hdd c hc
      · exfalso
        have := (List.getElem?_eq_some_iff.mp hq).1
        simp [ow_cl] at this
        omega
    · match k, hq with
      | 0, hq => cases hq; exact ⟨a1, r1⟩
      | 1, hq => cases hq; exact ⟨a2, r2⟩
      | 2, hq => cases hq; exact ⟨a3, r3⟩
      | k + 3, hq => simp [ow_tys] at hq
  have hst : l.stackTraces = false := by
    unfold Launch.stackTraces
    rw [hflags]
    decide
  have hl := lv_entry ([.ref b]) (n := 7) (Nat.le_of_ble_eq_true rfl)
  rw [lg_entry_eq]
  generalize (lg_sl ([.ref b]) ++ List.replicate (7 - (lg_sl ([.ref b])).length) Slot.unset).toArray = ls at hl ⊢
  have hl2 : lv_has ls 7 (([(0, .ref 980)] : List (Nat × Value)).map (ow_tp ad0)) := by
    show lv_has ls 7 [(0, .ref (ad0 980))]
    rw [g980]
    exact hl
  have K := lw_make (xs := xs) hL p l e room_1 s m #[Value.ref b] below meth c ad0 ad0 0 (fun c => (dd c).1, fun c => (dd c).2) (c1, c2, c3) (fun q : Nat => s.heap.size ≤ q) s.heap [] ls ⟨hx, hb, hr, hml, hown, fun w hw => hts w (List.mem_filter.mp hw).1, hlk, hname⟩ (fun q hq => va_Nw.of rfl (hts _ (ow_nst_ok q hq))) ⟨by decide, by decide, Nat.le_refl _, Nat.le_refl _⟩ hS ⟨hK, fun k q h => by simp [ow_W] at h, ⟨fun i j p q h => by simp [ow_W] at h, fun k q h => by simp [ow_W] at h⟩, va_S.rf, fun q hq => hq, fun _ _ => rfl, Nat.le_refl _, by decide, Nat.le_refl _⟩ hl2
  intro T hT X
  obtain ⟨t, q1, q2⟩ := K T hT X
  refine ⟨t, q1, q2 ⟨rfl, hst, hXs, by rw [g980]; exact hX, by rw [g980]; exact hbl, by rw [g980]; exact hA b hbl, rfl, by rw [g980], fun q hq => hq⟩⟩
