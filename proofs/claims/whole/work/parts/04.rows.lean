/-! Own rows: the judgement and its rows. -/
abbrev ow_Yt : Type := State → Array Value → (Nat → Nat) → (Nat → Nat) → (Nat → Prop) → Prop
abbrev ow_Zt : Type := Program → Launch → Env → Room → State → MethodId → Array Value → List Frame → (Nat → Nat) → Nat → va_G → ow_CS → (Nat → Prop) → State → Prop
def ow_S (ad : Nat → Nat) (A : Nat → Prop) (U : State) : Prop :=
  (∀ i : Nat, i < ow_ns → va_O "java/lang/String" (ad (1000 + i)) A U U.heap ∧ va_OF "java/lang/String" "code\x72" "B" (.int 0) (ad (1000 + i)) A U U.heap ∧ va_OF "java/lang/String" "value" "[B" (.ref (ad (1100 + i))) (ad (1000 + i)) A U U.heap ∧ va_T .byte (ad (1100 + i)) (ow_bt i).length (fun j => .int ((ow_bt i).getD j 0)) A U U.heap) ∧ (∀ q ∈ ow_strs, vk_R q.1 q.2.1 q.2.2.1 (ad (1000 + q.2.2.2)) U) ∧ va_Z "java/lang/String" "COMPACT_STRINGS" "Z" (.int 1) A U U.heap ∧ (va_Z "jdk/internal/util/Preconditions" "SIOOBE_FORMATTER" "Ljava/util/function/BiFunction;" .null A U U.heap ∨ va_Z "jdk/internal/util/Preconditions" "SIOOBE_FORMATTER" "Ljava/util/function/BiFunction;" (.ref (ad 970)) A U U.heap)
def ow_C (M : ow_M) (p : Program) (s : State) (m : MethodId) (args : Array Value) (meth : Method) (c : Code) : Prop :=
  p.tables.exec = Jvm.exec ∧ c.code = M.2.1 ∧ meth.sig.returnType = M.2.2.2 ∧ c.maxLocals = M.2.2.1 ∧ s.vm.findClass M.1.cls = some m.cls ∧ (∀ w ∈ ow_tb, w.before args s = true) ∧ meth.locks = false ∧ meth.name = M.1.name
def ow_R (s : State) (ad0 ad : Nat → Nat) (n0 : Nat) (D : va_G) (cs : ow_CS) (A : Nat → Prop) (h : ow_H) (H : Heap) (locs : List Loc) (k : Nat) : Prop :=
  va_K D ow_cl (ow_tys cs) s ∧ va_P D ow_cl (ow_W ad cs h) H ∧ va_D A (ow_W ad cs h) ∧ va_S A s.heap H locs ∧ (∀ q : Nat, s.heap.size ≤ q → A q) ∧ (∀ i : Nat, (i < n0 ∨ 950 ≤ i) → ad i = ad0 i) ∧ n0 ≤ h.1 ∧ h.1 ≤ 900 ∧ h.1 ≤ n0 + k
def ow_Rm (d mc ms : Nat) (R : Room) : Prop := d ≤ R.frames ∧ 41 * d ≤ R.locals ∧ mc ≤ R.cells ∧ ms ≤ R.slots
def ow_AW (Y : ow_Yt) (Z : ow_Zt) (M : ow_M) (d mc ms pc : Nat) (ls : List (Nat × Value)) (st : List Value) (h : ow_H) (k n : Nat) : Prop :=
  ∀ (p : Program) (l : Launch) (e : Env) (R : Room) (s : State) (m : MethodId) (args : Array Value) (below : List Frame) (meth : Method) (c : Code) (ad0 ad : Nat → Nat) (n0 : Nat) (D : va_G) (cs : ow_CS) (A : Nat → Prop) (H : Heap) (locs : List Loc) (lsA : Array Slot),
    ow_C M p s m args meth c → Y s args ad0 ad A → ow_Rm d mc ms R → ow_S ad0 A s → ow_R s ad0 ad n0 D cs A h H locs k → lv_has lsA M.2.2.1 (ls.map (ow_tp ad)) →
    W p l e R s m args below meth c H locs k n (Z p l e R s m args below ad0 n0 D cs A) (F0 m pc lsA (st.map (ow_tv ad)))
section OWR
variable {Y : ow_Yt} {Z : ow_Zt} {M : ow_M} {d mc ms pc k n : Nat} {ls : List (Nat × Value)} {rest : List Value} {h : ow_H}
theorem ow_iconst {z : Int} {v : Int32} (hv : Int32.ofInt z = v) (hd : decode M.2.1 pc = .ok (.iconst z, 1)) (kk : ow_AW Y Z M d mc ms (pc + 1) ls (.int v :: rest) h k n) : ow_AW Y Z M d mc ms (pc) ls (rest) h k n := by
  intro p l e R s m args below meth c ad0 ad n0 D cs A H locs lsA C hY hR hSt hX hl
  obtain ⟨hx, hb, hr, hml, hown, hts, hlk, hnm⟩ := id C
  refine lv_iconst hx hb hd hv ?_
  exact kk p l e R s m args below meth c ad0 ad n0 D cs A H locs lsA C hY hR hSt hX hl
theorem ow_bipush {z : Int} {v : Int32} (hv : (Int8.ofInt z).toInt32 = v) (hd : decode M.2.1 pc = .ok (.bipush z, 2)) (kk : ow_AW Y Z M d mc ms (pc + 2) ls (.int v :: rest) h k n) : ow_AW Y Z M d mc ms (pc) ls (rest) h k n := by
  intro p l e R s m args below meth c ad0 ad n0 D cs A H locs lsA C hY hR hSt hX hl
  obtain ⟨hx, hb, hr, hml, hown, hts, hlk, hnm⟩ := id C
  refine lv_bipush hx hb hd hv ?_
  exact kk p l e R s m args below meth c ad0 ad n0 D cs A H locs lsA C hY hR hSt hX hl
theorem ow_sipush {z : Int} {v : Int32} (hv : (Int16.ofInt z).toInt32 = v) (hd : decode M.2.1 pc = .ok (.sipush z, 3)) (kk : ow_AW Y Z M d mc ms (pc + 3) ls (.int v :: rest) h k n) : ow_AW Y Z M d mc ms (pc) ls (rest) h k n := by
  intro p l e R s m args below meth c ad0 ad n0 D cs A H locs lsA C hY hR hSt hX hl
  obtain ⟨hx, hb, hr, hml, hown, hts, hlk, hnm⟩ := id C
  refine lv_sipush hx hb hd hv ?_
  exact kk p l e R s m args below meth c ad0 ad n0 D cs A H locs lsA C hY hR hSt hX hl
theorem ow_lconst {z : Fin 2} {v : Int64} (hv : Int64.ofNat (z : Nat) = v) (hd : decode M.2.1 pc = .ok (.lconst z, 1)) (kk : ow_AW Y Z M d mc ms (pc + 1) ls (.long v :: rest) h k n) : ow_AW Y Z M d mc ms (pc) ls (rest) h k n := by
  intro p l e R s m args below meth c ad0 ad n0 D cs A H locs lsA C hY hR hSt hX hl
  obtain ⟨hx, hb, hr, hml, hown, hts, hlk, hnm⟩ := id C
  refine lv_lconst hx hb hd hv ?_
  exact kk p l e R s m args below meth c ad0 ad n0 D cs A H locs lsA C hY hR hSt hX hl
theorem ow_lat {ad : Nat → Nat} {lsA : Array Slot} {nL : Nat} (hl : lv_has lsA nL (ls.map (ow_tp ad))) (j : Nat) {i : Nat} {v : Value} (hj : ls[j]? = some (i, v)) : lsA[i]? = some (.val (ow_tv ad v)) := lv_at hl j (by rw [List.getElem?_map, hj]; rfl)
theorem ow_iload_n (j : Nat) {qi : Fin 4} {x : Int32} (hj : ls[j]? = some ((qi : Nat), .int x)) (hd : decode M.2.1 pc = .ok (.iload_n qi, 1)) (kk : ow_AW Y Z M d mc ms (pc + 1) ls (.int x :: rest) h k n) : ow_AW Y Z M d mc ms (pc) ls (rest) h k n := by
  intro p l e R s m args below meth c ad0 ad n0 D cs A H locs lsA C hY hR hSt hX hl
  obtain ⟨hx, hb, hr, hml, hown, hts, hlk, hnm⟩ := id C
  refine lv_iload_n hx hb hd rfl (ow_lat hl j hj) ?_
  exact kk p l e R s m args below meth c ad0 ad n0 D cs A H locs lsA C hY hR hSt hX hl
theorem ow_iload (j : Nat) {i : Nat} {x : Int32} (hj : ls[j]? = some (i, .int x)) (hd : decode M.2.1 pc = .ok (.iload i, 2)) (kk : ow_AW Y Z M d mc ms (pc + 2) ls (.int x :: rest) h k n) : ow_AW Y Z M d mc ms (pc) ls (rest) h k n := by
  intro p l e R s m args below meth c ad0 ad n0 D cs A H locs lsA C hY hR hSt hX hl
  obtain ⟨hx, hb, hr, hml, hown, hts, hlk, hnm⟩ := id C
  refine lv_iload hx hb hd (ow_lat hl j hj) ?_
  exact kk p l e R s m args below meth c ad0 ad n0 D cs A H locs lsA C hY hR hSt hX hl
theorem ow_lload_n (j : Nat) {qi : Fin 4} {x : Int64} (hj : ls[j]? = some ((qi : Nat), .long x)) (hd : decode M.2.1 pc = .ok (.lload_n qi, 1)) (kk : ow_AW Y Z M d mc ms (pc + 1) ls (.long x :: rest) h k n) : ow_AW Y Z M d mc ms (pc) ls (rest) h k n := by
  intro p l e R s m args below meth c ad0 ad n0 D cs A H locs lsA C hY hR hSt hX hl
  obtain ⟨hx, hb, hr, hml, hown, hts, hlk, hnm⟩ := id C
  refine lv_lload_n hx hb hd rfl (ow_lat hl j hj) ?_
  exact kk p l e R s m args below meth c ad0 ad n0 D cs A H locs lsA C hY hR hSt hX hl
theorem ow_lload (j : Nat) {i : Nat} {x : Int64} (hj : ls[j]? = some (i, .long x)) (hd : decode M.2.1 pc = .ok (.lload i, 2)) (kk : ow_AW Y Z M d mc ms (pc + 2) ls (.long x :: rest) h k n) : ow_AW Y Z M d mc ms (pc) ls (rest) h k n := by
  intro p l e R s m args below meth c ad0 ad n0 D cs A H locs lsA C hY hR hSt hX hl
  obtain ⟨hx, hb, hr, hml, hown, hts, hlk, hnm⟩ := id C
  refine lv_lload hx hb hd (ow_lat hl j hj) ?_
  exact kk p l e R s m args below meth c ad0 ad n0 D cs A H locs lsA C hY hR hSt hX hl
theorem ow_aload_n (j : Nat) {qi : Fin 4} {x : Nat} (hj : ls[j]? = some ((qi : Nat), .ref x)) (hd : decode M.2.1 pc = .ok (.aload_n qi, 1)) (kk : ow_AW Y Z M d mc ms (pc + 1) ls (.ref x :: rest) h k n) : ow_AW Y Z M d mc ms (pc) ls (rest) h k n := by
  intro p l e R s m args below meth c ad0 ad n0 D cs A H locs lsA C hY hR hSt hX hl
  obtain ⟨hx, hb, hr, hml, hown, hts, hlk, hnm⟩ := id C
  refine lv_aload_n hx hb hd rfl (ow_lat hl j hj) ?_
  exact kk p l e R s m args below meth c ad0 ad n0 D cs A H locs lsA C hY hR hSt hX hl
theorem ow_aload (j : Nat) {i : Nat} {x : Nat} (hj : ls[j]? = some (i, .ref x)) (hd : decode M.2.1 pc = .ok (.aload i, 2)) (kk : ow_AW Y Z M d mc ms (pc + 2) ls (.ref x :: rest) h k n) : ow_AW Y Z M d mc ms (pc) ls (rest) h k n := by
  intro p l e R s m args below meth c ad0 ad n0 D cs A H locs lsA C hY hR hSt hX hl
  obtain ⟨hx, hb, hr, hml, hown, hts, hlk, hnm⟩ := id C
  refine lv_aload hx hb hd (ow_lat hl j hj) ?_
  exact kk p l e R s m args below meth c ad0 ad n0 D cs A H locs lsA C hY hR hSt hX hl
theorem ow_fmap {ad : Nat → Nat} (P : Nat → Nat → Bool) : (ls.map (ow_tp ad)).filter (fun q => P q.1 q.2.category) = (ls.filter (fun q => P q.1 q.2.category)).map (ow_tp ad) := by
  rw [List.filter_map]
  congr 1
  apply List.filter_congr
  intro q _
  show P q.1 (ow_tv ad q.2).category = _
  rw [ow_tv_cat]
theorem ow_istore_n {qi : Fin 4} {x : Int32} {ls2 : List (Nat × Value)} (hd : decode M.2.1 pc = .ok (.istore_n qi, 1)) (hn : (qi : Nat) < M.2.2.1) (hl2 : ((qi : Nat), Value.int x) :: ls.filter (fun q => !(q.1 == (qi : Nat)) && !(q.1 + 1 == (qi : Nat) && q.2.category == 2)) = ls2) (kk : ow_AW Y Z M d mc ms (pc + 1) ls2 (rest) h k n) : ow_AW Y Z M d mc ms (pc) ls (.int x :: rest) h k n := by
  intro p l e R s m args below meth c ad0 ad n0 D cs A H locs lsA C hY hR hSt hX hl
  obtain ⟨hx, hb, hr, hml, hown, hts, hlk, hnm⟩ := id C
  subst hl2
  refine lv_istore_n (i := (qi : Nat)) (x := x) (rest := rest.map (ow_tv ad)) (lv := ls.map (ow_tp ad)) hx hb hd rfl hl hn (congrArg (List.cons (_, Value.int _)) (ow_fmap (fun a b => !(a == (qi : Nat)) && !(a + 1 == (qi : Nat) && b == 2)))) (fun lsA hl => ?_)
  exact kk p l e R s m args below meth c ad0 ad n0 D cs A H locs lsA C hY hR hSt hX hl
theorem ow_istore {i : Nat} {x : Int32} {ls2 : List (Nat × Value)} (hd : decode M.2.1 pc = .ok (.istore i, 2)) (hn : i < M.2.2.1) (hl2 : (i, Value.int x) :: ls.filter (fun q => !(q.1 == i) && !(q.1 + 1 == i && q.2.category == 2)) = ls2) (kk : ow_AW Y Z M d mc ms (pc + 2) ls2 (rest) h k n) : ow_AW Y Z M d mc ms (pc) ls (.int x :: rest) h k n := by
  intro p l e R s m args below meth c ad0 ad n0 D cs A H locs lsA C hY hR hSt hX hl
  obtain ⟨hx, hb, hr, hml, hown, hts, hlk, hnm⟩ := id C
  subst hl2
  refine lv_istore (i := i) (x := x) (rest := rest.map (ow_tv ad)) (lv := ls.map (ow_tp ad)) hx hb hd hl hn (congrArg (List.cons (_, Value.int _)) (ow_fmap (fun a b => !(a == i) && !(a + 1 == i && b == 2)))) (fun lsA hl => ?_)
  exact kk p l e R s m args below meth c ad0 ad n0 D cs A H locs lsA C hY hR hSt hX hl
theorem ow_lstore_n {qi : Fin 4} {x : Int64} {ls2 : List (Nat × Value)} (hd : decode M.2.1 pc = .ok (.lstore_n qi, 1)) (hn : (qi : Nat) + 1 < M.2.2.1) (hl2 : ((qi : Nat), Value.long x) :: ls.filter (fun q => !(q.1 == (qi : Nat)) && (!(q.1 == (qi : Nat) + 1) && !(q.1 + 1 == (qi : Nat) && q.2.category == 2))) = ls2) (kk : ow_AW Y Z M d mc ms (pc + 1) ls2 (rest) h k n) : ow_AW Y Z M d mc ms (pc) ls (.long x :: rest) h k n := by
  intro p l e R s m args below meth c ad0 ad n0 D cs A H locs lsA C hY hR hSt hX hl
  obtain ⟨hx, hb, hr, hml, hown, hts, hlk, hnm⟩ := id C
  subst hl2
  refine lv_lstore_n (i := (qi : Nat)) (x := x) (rest := rest.map (ow_tv ad)) (lv := ls.map (ow_tp ad)) hx hb hd rfl hl hn (congrArg (List.cons (_, Value.long _)) (ow_fmap (fun a b => !(a == (qi : Nat)) && (!(a == (qi : Nat) + 1) && !(a + 1 == (qi : Nat) && b == 2))))) (fun lsA hl => ?_)
  exact kk p l e R s m args below meth c ad0 ad n0 D cs A H locs lsA C hY hR hSt hX hl
theorem ow_lstore {i : Nat} {x : Int64} {ls2 : List (Nat × Value)} (hd : decode M.2.1 pc = .ok (.lstore i, 2)) (hn : i + 1 < M.2.2.1) (hl2 : (i, Value.long x) :: ls.filter (fun q => !(q.1 == i) && (!(q.1 == i + 1) && !(q.1 + 1 == i && q.2.category == 2))) = ls2) (kk : ow_AW Y Z M d mc ms (pc + 2) ls2 (rest) h k n) : ow_AW Y Z M d mc ms (pc) ls (.long x :: rest) h k n := by
  intro p l e R s m args below meth c ad0 ad n0 D cs A H locs lsA C hY hR hSt hX hl
  obtain ⟨hx, hb, hr, hml, hown, hts, hlk, hnm⟩ := id C
  subst hl2
  refine lv_lstore (i := i) (x := x) (rest := rest.map (ow_tv ad)) (lv := ls.map (ow_tp ad)) hx hb hd hl hn (congrArg (List.cons (_, Value.long _)) (ow_fmap (fun a b => !(a == i) && (!(a == i + 1) && !(a + 1 == i && b == 2))))) (fun lsA hl => ?_)
  exact kk p l e R s m args below meth c ad0 ad n0 D cs A H locs lsA C hY hR hSt hX hl
theorem ow_astore_n {qi : Fin 4} {x : Nat} {ls2 : List (Nat × Value)} (hd : decode M.2.1 pc = .ok (.astore_n qi, 1)) (hn : (qi : Nat) < M.2.2.1) (hl2 : ((qi : Nat), Value.ref x) :: ls.filter (fun q => !(q.1 == (qi : Nat)) && !(q.1 + 1 == (qi : Nat) && q.2.category == 2)) = ls2) (kk : ow_AW Y Z M d mc ms (pc + 1) ls2 (rest) h k n) : ow_AW Y Z M d mc ms (pc) ls (.ref x :: rest) h k n := by
  intro p l e R s m args below meth c ad0 ad n0 D cs A H locs lsA C hY hR hSt hX hl
  obtain ⟨hx, hb, hr, hml, hown, hts, hlk, hnm⟩ := id C
  subst hl2
  refine lv_astore_n (i := (qi : Nat)) (x := (ad x)) (rest := rest.map (ow_tv ad)) (lv := ls.map (ow_tp ad)) hx hb hd rfl hl hn (congrArg (List.cons (_, Value.ref _)) (ow_fmap (fun a b => !(a == (qi : Nat)) && !(a + 1 == (qi : Nat) && b == 2)))) (fun lsA hl => ?_)
  exact kk p l e R s m args below meth c ad0 ad n0 D cs A H locs lsA C hY hR hSt hX hl
theorem ow_astore {i : Nat} {x : Nat} {ls2 : List (Nat × Value)} (hd : decode M.2.1 pc = .ok (.astore i, 2)) (hn : i < M.2.2.1) (hl2 : (i, Value.ref x) :: ls.filter (fun q => !(q.1 == i) && !(q.1 + 1 == i && q.2.category == 2)) = ls2) (kk : ow_AW Y Z M d mc ms (pc + 2) ls2 (rest) h k n) : ow_AW Y Z M d mc ms (pc) ls (.ref x :: rest) h k n := by
  intro p l e R s m args below meth c ad0 ad n0 D cs A H locs lsA C hY hR hSt hX hl
  obtain ⟨hx, hb, hr, hml, hown, hts, hlk, hnm⟩ := id C
  subst hl2
  refine lv_astore (i := i) (x := (ad x)) (rest := rest.map (ow_tv ad)) (lv := ls.map (ow_tp ad)) hx hb hd hl hn (congrArg (List.cons (_, Value.ref _)) (ow_fmap (fun a b => !(a == i) && !(a + 1 == i && b == 2)))) (fun lsA hl => ?_)
  exact kk p l e R s m args below meth c ad0 ad n0 D cs A H locs lsA C hY hR hSt hX hl
theorem ow_iinc (j : Nat) {i : Nat} {z : Int} {x v : Int32} {ls2 : List (Nat × Value)} (hd : decode M.2.1 pc = .ok (.iinc i z, 3)) (hj : ls[j]? = some (i, .int x)) (hv : x + Int32.ofInt z = v) (hn : i < M.2.2.1) (hl2 : (i, Value.int v) :: ls.filter (fun q => !(q.1 == i) && !(q.1 + 1 == i && q.2.category == 2)) = ls2) (kk : ow_AW Y Z M d mc ms (pc + 3) ls2 (rest) h k n) : ow_AW Y Z M d mc ms (pc) ls (rest) h k n := by
  intro p l e R s m args below meth c ad0 ad n0 D cs A H locs lsA C hY hR hSt hX hl
  obtain ⟨hx, hb, hr, hml, hown, hts, hlk, hnm⟩ := id C
  subst hl2
  refine lv_iinc (k := j) (lv := ls.map (ow_tp ad)) hx hb hd hl (by rw [List.getElem?_map, hj]; rfl) hv hn (congrArg (List.cons (_, Value.int _)) (ow_fmap (fun a b => !(a == i) && !(a + 1 == i && b == 2)))) (fun lsA hl => ?_)
  exact kk p l e R s m args below meth c ad0 ad n0 D cs A H locs lsA C hY hR hSt hX hl
theorem ow_iadd {x y : Int32} (hd : decode M.2.1 pc = .ok (.iadd, 1)) (kk : ow_AW Y Z M d mc ms (pc + 1) ls (.int (x + y) :: rest) h k n) : ow_AW Y Z M d mc ms (pc) ls (.int y :: .int x :: rest) h k n := by
  intro p l e R s m args below meth c ad0 ad n0 D cs A H locs lsA C hY hR hSt hX hl
  obtain ⟨hx, hb, hr, hml, hown, hts, hlk, hnm⟩ := id C
  refine lv_iadd (x := x) (y := y) (rest := rest.map (ow_tv ad)) hx hb hd ?_
  exact kk p l e R s m args below meth c ad0 ad n0 D cs A H locs lsA C hY hR hSt hX hl
theorem ow_isub {x y : Int32} (hd : decode M.2.1 pc = .ok (.isub, 1)) (kk : ow_AW Y Z M d mc ms (pc + 1) ls (.int (x - y) :: rest) h k n) : ow_AW Y Z M d mc ms (pc) ls (.int y :: .int x :: rest) h k n := by
  intro p l e R s m args below meth c ad0 ad n0 D cs A H locs lsA C hY hR hSt hX hl
  obtain ⟨hx, hb, hr, hml, hown, hts, hlk, hnm⟩ := id C
  refine lv_isub (x := x) (y := y) (rest := rest.map (ow_tv ad)) hx hb hd ?_
  exact kk p l e R s m args below meth c ad0 ad n0 D cs A H locs lsA C hY hR hSt hX hl
theorem ow_imul {x y : Int32} (hd : decode M.2.1 pc = .ok (.imul, 1)) (kk : ow_AW Y Z M d mc ms (pc + 1) ls (.int (x * y) :: rest) h k n) : ow_AW Y Z M d mc ms (pc) ls (.int y :: .int x :: rest) h k n := by
  intro p l e R s m args below meth c ad0 ad n0 D cs A H locs lsA C hY hR hSt hX hl
  obtain ⟨hx, hb, hr, hml, hown, hts, hlk, hnm⟩ := id C
  refine lv_imul (x := x) (y := y) (rest := rest.map (ow_tv ad)) hx hb hd ?_
  exact kk p l e R s m args below meth c ad0 ad n0 D cs A H locs lsA C hY hR hSt hX hl
theorem ow_iand {x y : Int32} (hd : decode M.2.1 pc = .ok (.iand, 1)) (kk : ow_AW Y Z M d mc ms (pc + 1) ls (.int (x &&& y) :: rest) h k n) : ow_AW Y Z M d mc ms (pc) ls (.int y :: .int x :: rest) h k n := by
  intro p l e R s m args below meth c ad0 ad n0 D cs A H locs lsA C hY hR hSt hX hl
  obtain ⟨hx, hb, hr, hml, hown, hts, hlk, hnm⟩ := id C
  refine lv_iand (x := x) (y := y) (rest := rest.map (ow_tv ad)) hx hb hd ?_
  exact kk p l e R s m args below meth c ad0 ad n0 D cs A H locs lsA C hY hR hSt hX hl
theorem ow_ior {x y : Int32} (hd : decode M.2.1 pc = .ok (.ior, 1)) (kk : ow_AW Y Z M d mc ms (pc + 1) ls (.int (x ||| y) :: rest) h k n) : ow_AW Y Z M d mc ms (pc) ls (.int y :: .int x :: rest) h k n := by
  intro p l e R s m args below meth c ad0 ad n0 D cs A H locs lsA C hY hR hSt hX hl
  obtain ⟨hx, hb, hr, hml, hown, hts, hlk, hnm⟩ := id C
  refine lv_ior (x := x) (y := y) (rest := rest.map (ow_tv ad)) hx hb hd ?_
  exact kk p l e R s m args below meth c ad0 ad n0 D cs A H locs lsA C hY hR hSt hX hl
theorem ow_ixor {x y : Int32} (hd : decode M.2.1 pc = .ok (.ixor, 1)) (kk : ow_AW Y Z M d mc ms (pc + 1) ls (.int (x ^^^ y) :: rest) h k n) : ow_AW Y Z M d mc ms (pc) ls (.int y :: .int x :: rest) h k n := by
  intro p l e R s m args below meth c ad0 ad n0 D cs A H locs lsA C hY hR hSt hX hl
  obtain ⟨hx, hb, hr, hml, hown, hts, hlk, hnm⟩ := id C
  refine lv_ixor (x := x) (y := y) (rest := rest.map (ow_tv ad)) hx hb hd ?_
  exact kk p l e R s m args below meth c ad0 ad n0 D cs A H locs lsA C hY hR hSt hX hl
theorem ow_ishl {x y : Int32} (hd : decode M.2.1 pc = .ok (.ishl, 1)) (kk : ow_AW Y Z M d mc ms (pc + 1) ls (.int (x <<< (y &&& 31)) :: rest) h k n) : ow_AW Y Z M d mc ms (pc) ls (.int y :: .int x :: rest) h k n := by
  intro p l e R s m args below meth c ad0 ad n0 D cs A H locs lsA C hY hR hSt hX hl
  obtain ⟨hx, hb, hr, hml, hown, hts, hlk, hnm⟩ := id C
  refine lv_ishl (x := x) (y := y) (rest := rest.map (ow_tv ad)) hx hb hd ?_
  exact kk p l e R s m args below meth c ad0 ad n0 D cs A H locs lsA C hY hR hSt hX hl
theorem ow_ishr {x y : Int32} (hd : decode M.2.1 pc = .ok (.ishr, 1)) (kk : ow_AW Y Z M d mc ms (pc + 1) ls (.int (x >>> (y &&& 31)) :: rest) h k n) : ow_AW Y Z M d mc ms (pc) ls (.int y :: .int x :: rest) h k n := by
  intro p l e R s m args below meth c ad0 ad n0 D cs A H locs lsA C hY hR hSt hX hl
  obtain ⟨hx, hb, hr, hml, hown, hts, hlk, hnm⟩ := id C
  refine lv_ishr (x := x) (y := y) (rest := rest.map (ow_tv ad)) hx hb hd ?_
  exact kk p l e R s m args below meth c ad0 ad n0 D cs A H locs lsA C hY hR hSt hX hl
theorem ow_idiv {x y : Int32} (hne : ¬ y = 0) (hd : decode M.2.1 pc = .ok (.idiv, 1)) (kk : ow_AW Y Z M d mc ms (pc + 1) ls (.int (x / y) :: rest) h k n) : ow_AW Y Z M d mc ms (pc) ls (.int y :: .int x :: rest) h k n := by
  intro p l e R s m args below meth c ad0 ad n0 D cs A H locs lsA C hY hR hSt hX hl
  obtain ⟨hx, hb, hr, hml, hown, hts, hlk, hnm⟩ := id C
  refine lv_idiv (x := x) (y := y) (rest := rest.map (ow_tv ad)) hx hb hd hne ?_
  exact kk p l e R s m args below meth c ad0 ad n0 D cs A H locs lsA C hY hR hSt hX hl
theorem ow_irem {x y : Int32} (hne : ¬ y = 0) (hd : decode M.2.1 pc = .ok (.irem, 1)) (kk : ow_AW Y Z M d mc ms (pc + 1) ls (.int (x - x / y * y) :: rest) h k n) : ow_AW Y Z M d mc ms (pc) ls (.int y :: .int x :: rest) h k n := by
  intro p l e R s m args below meth c ad0 ad n0 D cs A H locs lsA C hY hR hSt hX hl
  obtain ⟨hx, hb, hr, hml, hown, hts, hlk, hnm⟩ := id C
  refine lv_irem (x := x) (y := y) (rest := rest.map (ow_tv ad)) hx hb hd hne ?_
  exact kk p l e R s m args below meth c ad0 ad n0 D cs A H locs lsA C hY hR hSt hX hl
theorem ow_ladd {x y : Int64} (hd : decode M.2.1 pc = .ok (.ladd, 1)) (kk : ow_AW Y Z M d mc ms (pc + 1) ls (.long (x + y) :: rest) h k n) : ow_AW Y Z M d mc ms (pc) ls (.long y :: .long x :: rest) h k n := by
  intro p l e R s m args below meth c ad0 ad n0 D cs A H locs lsA C hY hR hSt hX hl
  obtain ⟨hx, hb, hr, hml, hown, hts, hlk, hnm⟩ := id C
  refine lv_ladd (x := x) (y := y) (rest := rest.map (ow_tv ad)) hx hb hd ?_
  exact kk p l e R s m args below meth c ad0 ad n0 D cs A H locs lsA C hY hR hSt hX hl
theorem ow_lsub {x y : Int64} (hd : decode M.2.1 pc = .ok (.lsub, 1)) (kk : ow_AW Y Z M d mc ms (pc + 1) ls (.long (x - y) :: rest) h k n) : ow_AW Y Z M d mc ms (pc) ls (.long y :: .long x :: rest) h k n := by
  intro p l e R s m args below meth c ad0 ad n0 D cs A H locs lsA C hY hR hSt hX hl
  obtain ⟨hx, hb, hr, hml, hown, hts, hlk, hnm⟩ := id C
  refine lv_lsub (x := x) (y := y) (rest := rest.map (ow_tv ad)) hx hb hd ?_
  exact kk p l e R s m args below meth c ad0 ad n0 D cs A H locs lsA C hY hR hSt hX hl
theorem ow_lmul {x y : Int64} (hd : decode M.2.1 pc = .ok (.lmul, 1)) (kk : ow_AW Y Z M d mc ms (pc + 1) ls (.long (x * y) :: rest) h k n) : ow_AW Y Z M d mc ms (pc) ls (.long y :: .long x :: rest) h k n := by
  intro p l e R s m args below meth c ad0 ad n0 D cs A H locs lsA C hY hR hSt hX hl
  obtain ⟨hx, hb, hr, hml, hown, hts, hlk, hnm⟩ := id C
  refine lv_lmul (x := x) (y := y) (rest := rest.map (ow_tv ad)) hx hb hd ?_
  exact kk p l e R s m args below meth c ad0 ad n0 D cs A H locs lsA C hY hR hSt hX hl
theorem ow_ldiv {x y : Int64} (hne : ¬ y = 0) (hd : decode M.2.1 pc = .ok (.ldiv, 1)) (kk : ow_AW Y Z M d mc ms (pc + 1) ls (.long (x / y) :: rest) h k n) : ow_AW Y Z M d mc ms (pc) ls (.long y :: .long x :: rest) h k n := by
  intro p l e R s m args below meth c ad0 ad n0 D cs A H locs lsA C hY hR hSt hX hl
  obtain ⟨hx, hb, hr, hml, hown, hts, hlk, hnm⟩ := id C
  refine lv_ldiv (x := x) (y := y) (rest := rest.map (ow_tv ad)) hx hb hd hne ?_
  exact kk p l e R s m args below meth c ad0 ad n0 D cs A H locs lsA C hY hR hSt hX hl
theorem ow_lrem {x y : Int64} (hne : ¬ y = 0) (hd : decode M.2.1 pc = .ok (.lrem, 1)) (kk : ow_AW Y Z M d mc ms (pc + 1) ls (.long (x - x / y * y) :: rest) h k n) : ow_AW Y Z M d mc ms (pc) ls (.long y :: .long x :: rest) h k n := by
  intro p l e R s m args below meth c ad0 ad n0 D cs A H locs lsA C hY hR hSt hX hl
  obtain ⟨hx, hb, hr, hml, hown, hts, hlk, hnm⟩ := id C
  refine lv_lrem (x := x) (y := y) (rest := rest.map (ow_tv ad)) hx hb hd hne ?_
  exact kk p l e R s m args below meth c ad0 ad n0 D cs A H locs lsA C hY hR hSt hX hl
theorem ow_ineg {x : Int32} (hd : decode M.2.1 pc = .ok (.ineg, 1)) (kk : ow_AW Y Z M d mc ms (pc + 1) ls (.int (-x) :: rest) h k n) : ow_AW Y Z M d mc ms (pc) ls (.int x :: rest) h k n := by
  intro p l e R s m args below meth c ad0 ad n0 D cs A H locs lsA C hY hR hSt hX hl
  obtain ⟨hx, hb, hr, hml, hown, hts, hlk, hnm⟩ := id C
  refine lv_ineg (x := x) (rest := rest.map (ow_tv ad)) hx hb hd ?_
  exact kk p l e R s m args below meth c ad0 ad n0 D cs A H locs lsA C hY hR hSt hX hl
theorem ow_i2l {x : Int32} (hd : decode M.2.1 pc = .ok (.i2l, 1)) (kk : ow_AW Y Z M d mc ms (pc + 1) ls (.long x.toInt64 :: rest) h k n) : ow_AW Y Z M d mc ms (pc) ls (.int x :: rest) h k n := by
  intro p l e R s m args below meth c ad0 ad n0 D cs A H locs lsA C hY hR hSt hX hl
  obtain ⟨hx, hb, hr, hml, hown, hts, hlk, hnm⟩ := id C
  refine lv_i2l (x := x) (rest := rest.map (ow_tv ad)) hx hb hd rfl ?_
  exact kk p l e R s m args below meth c ad0 ad n0 D cs A H locs lsA C hY hR hSt hX hl
theorem ow_i2b {x : Int32} (hd : decode M.2.1 pc = .ok (.i2b, 1)) (kk : ow_AW Y Z M d mc ms (pc + 1) ls (.int x.toInt8.toInt32 :: rest) h k n) : ow_AW Y Z M d mc ms (pc) ls (.int x :: rest) h k n := by
  intro p l e R s m args below meth c ad0 ad n0 D cs A H locs lsA C hY hR hSt hX hl
  obtain ⟨hx, hb, hr, hml, hown, hts, hlk, hnm⟩ := id C
  refine lv_i2b (x := x) (rest := rest.map (ow_tv ad)) hx hb hd rfl ?_
  exact kk p l e R s m args below meth c ad0 ad n0 D cs A H locs lsA C hY hR hSt hX hl
theorem ow_i2c {x : Int32} (hd : decode M.2.1 pc = .ok (.i2c, 1)) (kk : ow_AW Y Z M d mc ms (pc + 1) ls (.int (x.toUInt32 % 65536).toInt32 :: rest) h k n) : ow_AW Y Z M d mc ms (pc) ls (.int x :: rest) h k n := by
  intro p l e R s m args below meth c ad0 ad n0 D cs A H locs lsA C hY hR hSt hX hl
  obtain ⟨hx, hb, hr, hml, hown, hts, hlk, hnm⟩ := id C
  refine lv_i2c (x := x) (rest := rest.map (ow_tv ad)) hx hb hd rfl ?_
  exact kk p l e R s m args below meth c ad0 ad n0 D cs A H locs lsA C hY hR hSt hX hl
theorem ow_iushr {x y : Int32} (hd : decode M.2.1 pc = .ok (.iushr, 1)) (kk : ow_AW Y Z M d mc ms (pc + 1) ls (.int (x.toUInt32 >>> (y.toUInt32 &&& Int32.toUInt32 31)).toInt32 :: rest) h k n) : ow_AW Y Z M d mc ms (pc) ls (.int y :: .int x :: rest) h k n := by
  intro p l e R s m args below meth c ad0 ad n0 D cs A H locs lsA C hY hR hSt hX hl
  obtain ⟨hx, hb, hr, hml, hown, hts, hlk, hnm⟩ := id C
  refine lv_iushr (x := x) (y := y) (rest := rest.map (ow_tv ad)) hx hb hd rfl ?_
  exact kk p l e R s m args below meth c ad0 ad n0 D cs A H locs lsA C hY hR hSt hX hl
theorem ow_lshl {x : Int64} {y : Int32} (hd : decode M.2.1 pc = .ok (.lshl, 1)) (kk : ow_AW Y Z M d mc ms (pc + 1) ls (.long (x <<< (y.toInt64 &&& 63)) :: rest) h k n) : ow_AW Y Z M d mc ms (pc) ls (.int y :: .long x :: rest) h k n := by
  intro p l e R s m args below meth c ad0 ad n0 D cs A H locs lsA C hY hR hSt hX hl
  obtain ⟨hx, hb, hr, hml, hown, hts, hlk, hnm⟩ := id C
  refine lv_lshl (x := x) (y := y) (rest := rest.map (ow_tv ad)) hx hb hd rfl ?_
  exact kk p l e R s m args below meth c ad0 ad n0 D cs A H locs lsA C hY hR hSt hX hl
theorem ow_lcmp {x y : Int64} (hd : decode M.2.1 pc = .ok (.lcmp, 1)) (kk : ow_AW Y Z M d mc ms (pc + 1) ls (.int (lg_cmp x y) :: rest) h k n) : ow_AW Y Z M d mc ms (pc) ls (.long y :: .long x :: rest) h k n := by
  intro p l e R s m args below meth c ad0 ad n0 D cs A H locs lsA C hY hR hSt hX hl
  obtain ⟨hx, hb, hr, hml, hown, hts, hlk, hnm⟩ := id C
  refine W.lcmp (x := x) (y := y) (rest := rest.map (ow_tv ad)) hx hb hd ?_
  exact kk p l e R s m args below meth c ad0 ad n0 D cs A H locs lsA C hY hR hSt hX hl
theorem ow_dup {v : Value} (hv : v.category = 1) (hd : decode M.2.1 pc = .ok (.dup, 1)) (kk : ow_AW Y Z M d mc ms (pc + 1) ls (v :: v :: rest) h k n) : ow_AW Y Z M d mc ms (pc) ls (v :: rest) h k n := by
  intro p l e R s m args below meth c ad0 ad n0 D cs A H locs lsA C hY hR hSt hX hl
  obtain ⟨hx, hb, hr, hml, hown, hts, hlk, hnm⟩ := id C
  refine lv_dup (va := ow_tv ad v) (rest := rest.map (ow_tv ad)) hx hb hd (by rw [ow_tv_cat]; exact hv) ?_
  exact kk p l e R s m args below meth c ad0 ad n0 D cs A H locs lsA C hY hR hSt hX hl
theorem ow_pop {v : Value} (hv : v.category = 1) (hd : decode M.2.1 pc = .ok (.pop, 1)) (kk : ow_AW Y Z M d mc ms (pc + 1) ls (rest) h k n) : ow_AW Y Z M d mc ms (pc) ls (v :: rest) h k n := by
  intro p l e R s m args below meth c ad0 ad n0 D cs A H locs lsA C hY hR hSt hX hl
  obtain ⟨hx, hb, hr, hml, hown, hts, hlk, hnm⟩ := id C
  refine lv_pop (va := ow_tv ad v) (rest := rest.map (ow_tv ad)) hx hb hd (by rw [ow_tv_cat]; exact hv) ?_
  exact kk p l e R s m args below meth c ad0 ad n0 D cs A H locs lsA C hY hR hSt hX hl
theorem ow_dup2_11 {v u : Value} (hv : v.category = 1) (hu : u.category = 1) (hd : decode M.2.1 pc = .ok (.dup2, 1)) (kk : ow_AW Y Z M d mc ms (pc + 1) ls (v :: u :: v :: u :: rest) h k n) : ow_AW Y Z M d mc ms (pc) ls (v :: u :: rest) h k n := by
  intro p l e R s m args below meth c ad0 ad n0 D cs A H locs lsA C hY hR hSt hX hl
  obtain ⟨hx, hb, hr, hml, hown, hts, hlk, hnm⟩ := id C
  refine lv_dup2_11 (va := ow_tv ad v) (vb := ow_tv ad u) (rest := rest.map (ow_tv ad)) hx hb hd (by rw [ow_tv_cat]; exact hv) (by rw [ow_tv_cat]; exact hu) ?_
  exact kk p l e R s m args below meth c ad0 ad n0 D cs A H locs lsA C hY hR hSt hX hl
theorem ow_if_eq {x : Int32} {off : Int} {tgt : Nat} (hd : decode M.2.1 pc = .ok (.ifCond .eq off, 3)) (ht : (pc : Int) + off = (tgt : Int)) (kt : x = 0 → ow_AW Y Z M d mc ms (tgt) ls (rest) h k n) (kf : ¬ x = 0 → ow_AW Y Z M d mc ms (pc + 3) ls (rest) h k n) : ow_AW Y Z M d mc ms (pc) ls (.int x :: rest) h k n := by
  intro p l e R s m args below meth c ad0 ad n0 D cs A H locs lsA C hY hR hSt hX hl
  obtain ⟨hx, hb, hr, hml, hown, hts, hlk, hnm⟩ := id C
  refine lv_if_eq (x := x) (rest := rest.map (ow_tv ad)) hx hb hd ht (fun q => ?_) (fun q => ?_)
  · exact kt q p l e R s m args below meth c ad0 ad n0 D cs A H locs lsA C hY hR hSt hX hl
  · exact kf q p l e R s m args below meth c ad0 ad n0 D cs A H locs lsA C hY hR hSt hX hl
theorem ow_if_ne {x : Int32} {off : Int} {tgt : Nat} (hd : decode M.2.1 pc = .ok (.ifCond .ne off, 3)) (ht : (pc : Int) + off = (tgt : Int)) (kt : ¬ x = 0 → ow_AW Y Z M d mc ms (tgt) ls (rest) h k n) (kf : x = 0 → ow_AW Y Z M d mc ms (pc + 3) ls (rest) h k n) : ow_AW Y Z M d mc ms (pc) ls (.int x :: rest) h k n := by
  intro p l e R s m args below meth c ad0 ad n0 D cs A H locs lsA C hY hR hSt hX hl
  obtain ⟨hx, hb, hr, hml, hown, hts, hlk, hnm⟩ := id C
  refine lv_if_ne (x := x) (rest := rest.map (ow_tv ad)) hx hb hd ht (fun q => ?_) (fun q => ?_)
  · exact kt q p l e R s m args below meth c ad0 ad n0 D cs A H locs lsA C hY hR hSt hX hl
  · exact kf q p l e R s m args below meth c ad0 ad n0 D cs A H locs lsA C hY hR hSt hX hl
theorem ow_if_lt {x : Int32} {off : Int} {tgt : Nat} (hd : decode M.2.1 pc = .ok (.ifCond .lt off, 3)) (ht : (pc : Int) + off = (tgt : Int)) (kt : x < 0 → ow_AW Y Z M d mc ms (tgt) ls (rest) h k n) (kf : ¬ x < 0 → ow_AW Y Z M d mc ms (pc + 3) ls (rest) h k n) : ow_AW Y Z M d mc ms (pc) ls (.int x :: rest) h k n := by
  intro p l e R s m args below meth c ad0 ad n0 D cs A H locs lsA C hY hR hSt hX hl
  obtain ⟨hx, hb, hr, hml, hown, hts, hlk, hnm⟩ := id C
  refine lv_if_lt (x := x) (rest := rest.map (ow_tv ad)) hx hb hd ht (fun q => ?_) (fun q => ?_)
  · exact kt q p l e R s m args below meth c ad0 ad n0 D cs A H locs lsA C hY hR hSt hX hl
  · exact kf q p l e R s m args below meth c ad0 ad n0 D cs A H locs lsA C hY hR hSt hX hl
theorem ow_if_ge {x : Int32} {off : Int} {tgt : Nat} (hd : decode M.2.1 pc = .ok (.ifCond .ge off, 3)) (ht : (pc : Int) + off = (tgt : Int)) (kt : 0 ≤ x → ow_AW Y Z M d mc ms (tgt) ls (rest) h k n) (kf : ¬ 0 ≤ x → ow_AW Y Z M d mc ms (pc + 3) ls (rest) h k n) : ow_AW Y Z M d mc ms (pc) ls (.int x :: rest) h k n := by
  intro p l e R s m args below meth c ad0 ad n0 D cs A H locs lsA C hY hR hSt hX hl
  obtain ⟨hx, hb, hr, hml, hown, hts, hlk, hnm⟩ := id C
  refine lv_if_ge (x := x) (rest := rest.map (ow_tv ad)) hx hb hd ht (fun q => ?_) (fun q => ?_)
  · exact kt q p l e R s m args below meth c ad0 ad n0 D cs A H locs lsA C hY hR hSt hX hl
  · exact kf q p l e R s m args below meth c ad0 ad n0 D cs A H locs lsA C hY hR hSt hX hl
theorem ow_if_gt {x : Int32} {off : Int} {tgt : Nat} (hd : decode M.2.1 pc = .ok (.ifCond .gt off, 3)) (ht : (pc : Int) + off = (tgt : Int)) (kt : 0 < x → ow_AW Y Z M d mc ms (tgt) ls (rest) h k n) (kf : ¬ 0 < x → ow_AW Y Z M d mc ms (pc + 3) ls (rest) h k n) : ow_AW Y Z M d mc ms (pc) ls (.int x :: rest) h k n := by
  intro p l e R s m args below meth c ad0 ad n0 D cs A H locs lsA C hY hR hSt hX hl
  obtain ⟨hx, hb, hr, hml, hown, hts, hlk, hnm⟩ := id C
  refine lv_if_gt (x := x) (rest := rest.map (ow_tv ad)) hx hb hd ht (fun q => ?_) (fun q => ?_)
  · exact kt q p l e R s m args below meth c ad0 ad n0 D cs A H locs lsA C hY hR hSt hX hl
  · exact kf q p l e R s m args below meth c ad0 ad n0 D cs A H locs lsA C hY hR hSt hX hl
theorem ow_if_le {x : Int32} {off : Int} {tgt : Nat} (hd : decode M.2.1 pc = .ok (.ifCond .le off, 3)) (ht : (pc : Int) + off = (tgt : Int)) (kt : x ≤ 0 → ow_AW Y Z M d mc ms (tgt) ls (rest) h k n) (kf : ¬ x ≤ 0 → ow_AW Y Z M d mc ms (pc + 3) ls (rest) h k n) : ow_AW Y Z M d mc ms (pc) ls (.int x :: rest) h k n := by
  intro p l e R s m args below meth c ad0 ad n0 D cs A H locs lsA C hY hR hSt hX hl
  obtain ⟨hx, hb, hr, hml, hown, hts, hlk, hnm⟩ := id C
  refine lv_if_le (x := x) (rest := rest.map (ow_tv ad)) hx hb hd ht (fun q => ?_) (fun q => ?_)
  · exact kt q p l e R s m args below meth c ad0 ad n0 D cs A H locs lsA C hY hR hSt hX hl
  · exact kf q p l e R s m args below meth c ad0 ad n0 D cs A H locs lsA C hY hR hSt hX hl
theorem ow_icmp_eq {x y : Int32} {off : Int} {tgt : Nat} (hd : decode M.2.1 pc = .ok (.if_icmp .eq off, 3)) (ht : (pc : Int) + off = (tgt : Int)) (kt : x = y → ow_AW Y Z M d mc ms (tgt) ls (rest) h k n) (kf : ¬ x = y → ow_AW Y Z M d mc ms (pc + 3) ls (rest) h k n) : ow_AW Y Z M d mc ms (pc) ls (.int y :: .int x :: rest) h k n := by
  intro p l e R s m args below meth c ad0 ad n0 D cs A H locs lsA C hY hR hSt hX hl
  obtain ⟨hx, hb, hr, hml, hown, hts, hlk, hnm⟩ := id C
  refine lv_icmp_eq (x := x) (y := y) (rest := rest.map (ow_tv ad)) hx hb hd ht (fun q => ?_) (fun q => ?_)
  · exact kt q p l e R s m args below meth c ad0 ad n0 D cs A H locs lsA C hY hR hSt hX hl
  · exact kf q p l e R s m args below meth c ad0 ad n0 D cs A H locs lsA C hY hR hSt hX hl
theorem ow_icmp_ne {x y : Int32} {off : Int} {tgt : Nat} (hd : decode M.2.1 pc = .ok (.if_icmp .ne off, 3)) (ht : (pc : Int) + off = (tgt : Int)) (kt : ¬ x = y → ow_AW Y Z M d mc ms (tgt) ls (rest) h k n) (kf : x = y → ow_AW Y Z M d mc ms (pc + 3) ls (rest) h k n) : ow_AW Y Z M d mc ms (pc) ls (.int y :: .int x :: rest) h k n := by
  intro p l e R s m args below meth c ad0 ad n0 D cs A H locs lsA C hY hR hSt hX hl
  obtain ⟨hx, hb, hr, hml, hown, hts, hlk, hnm⟩ := id C
  refine lv_icmp_ne (x := x) (y := y) (rest := rest.map (ow_tv ad)) hx hb hd ht (fun q => ?_) (fun q => ?_)
  · exact kt q p l e R s m args below meth c ad0 ad n0 D cs A H locs lsA C hY hR hSt hX hl
  · exact kf q p l e R s m args below meth c ad0 ad n0 D cs A H locs lsA C hY hR hSt hX hl
theorem ow_icmp_lt {x y : Int32} {off : Int} {tgt : Nat} (hd : decode M.2.1 pc = .ok (.if_icmp .lt off, 3)) (ht : (pc : Int) + off = (tgt : Int)) (kt : x < y → ow_AW Y Z M d mc ms (tgt) ls (rest) h k n) (kf : ¬ x < y → ow_AW Y Z M d mc ms (pc + 3) ls (rest) h k n) : ow_AW Y Z M d mc ms (pc) ls (.int y :: .int x :: rest) h k n := by
  intro p l e R s m args below meth c ad0 ad n0 D cs A H locs lsA C hY hR hSt hX hl
  obtain ⟨hx, hb, hr, hml, hown, hts, hlk, hnm⟩ := id C
  refine lv_icmp_lt (x := x) (y := y) (rest := rest.map (ow_tv ad)) hx hb hd ht (fun q => ?_) (fun q => ?_)
  · exact kt q p l e R s m args below meth c ad0 ad n0 D cs A H locs lsA C hY hR hSt hX hl
  · exact kf q p l e R s m args below meth c ad0 ad n0 D cs A H locs lsA C hY hR hSt hX hl
theorem ow_icmp_ge {x y : Int32} {off : Int} {tgt : Nat} (hd : decode M.2.1 pc = .ok (.if_icmp .ge off, 3)) (ht : (pc : Int) + off = (tgt : Int)) (kt : y ≤ x → ow_AW Y Z M d mc ms (tgt) ls (rest) h k n) (kf : ¬ y ≤ x → ow_AW Y Z M d mc ms (pc + 3) ls (rest) h k n) : ow_AW Y Z M d mc ms (pc) ls (.int y :: .int x :: rest) h k n := by
  intro p l e R s m args below meth c ad0 ad n0 D cs A H locs lsA C hY hR hSt hX hl
  obtain ⟨hx, hb, hr, hml, hown, hts, hlk, hnm⟩ := id C
  refine lv_icmp_ge (x := x) (y := y) (rest := rest.map (ow_tv ad)) hx hb hd ht (fun q => ?_) (fun q => ?_)
  · exact kt q p l e R s m args below meth c ad0 ad n0 D cs A H locs lsA C hY hR hSt hX hl
  · exact kf q p l e R s m args below meth c ad0 ad n0 D cs A H locs lsA C hY hR hSt hX hl
theorem ow_icmp_gt {x y : Int32} {off : Int} {tgt : Nat} (hd : decode M.2.1 pc = .ok (.if_icmp .gt off, 3)) (ht : (pc : Int) + off = (tgt : Int)) (kt : y < x → ow_AW Y Z M d mc ms (tgt) ls (rest) h k n) (kf : ¬ y < x → ow_AW Y Z M d mc ms (pc + 3) ls (rest) h k n) : ow_AW Y Z M d mc ms (pc) ls (.int y :: .int x :: rest) h k n := by
  intro p l e R s m args below meth c ad0 ad n0 D cs A H locs lsA C hY hR hSt hX hl
  obtain ⟨hx, hb, hr, hml, hown, hts, hlk, hnm⟩ := id C
  refine lv_icmp_gt (x := x) (y := y) (rest := rest.map (ow_tv ad)) hx hb hd ht (fun q => ?_) (fun q => ?_)
  · exact kt q p l e R s m args below meth c ad0 ad n0 D cs A H locs lsA C hY hR hSt hX hl
  · exact kf q p l e R s m args below meth c ad0 ad n0 D cs A H locs lsA C hY hR hSt hX hl
theorem ow_icmp_le {x y : Int32} {off : Int} {tgt : Nat} (hd : decode M.2.1 pc = .ok (.if_icmp .le off, 3)) (ht : (pc : Int) + off = (tgt : Int)) (kt : x ≤ y → ow_AW Y Z M d mc ms (tgt) ls (rest) h k n) (kf : ¬ x ≤ y → ow_AW Y Z M d mc ms (pc + 3) ls (rest) h k n) : ow_AW Y Z M d mc ms (pc) ls (.int y :: .int x :: rest) h k n := by
  intro p l e R s m args below meth c ad0 ad n0 D cs A H locs lsA C hY hR hSt hX hl
  obtain ⟨hx, hb, hr, hml, hown, hts, hlk, hnm⟩ := id C
  refine lv_icmp_le (x := x) (y := y) (rest := rest.map (ow_tv ad)) hx hb hd ht (fun q => ?_) (fun q => ?_)
  · exact kt q p l e R s m args below meth c ad0 ad n0 D cs A H locs lsA C hY hR hSt hX hl
  · exact kf q p l e R s m args below meth c ad0 ad n0 D cs A H locs lsA C hY hR hSt hX hl
theorem ow_goto {off : Int} {tgt : Nat} (hd : decode M.2.1 pc = .ok (.goto off, 3)) (ht : (pc : Int) + off = (tgt : Int)) (kk : ow_AW Y Z M d mc ms (tgt) ls (rest) h k n) : ow_AW Y Z M d mc ms (pc) ls (rest) h k n := by
  intro p l e R s m args below meth c ad0 ad n0 D cs A H locs lsA C hY hR hSt hX hl
  obtain ⟨hx, hb, hr, hml, hown, hts, hlk, hnm⟩ := id C
  refine lv_goto hx hb hd ht ?_
  exact kk p l e R s m args below meth c ad0 ad n0 D cs A H locs lsA C hY hR hSt hX hl
theorem ow_tabIn {dflt lo hi : Int} {offs : Array Int} {len : Nat} {x : Int32} {off : Int} {tgt : Nat} (hd : decode M.2.1 pc = .ok (.tableswitch dflt lo hi offs, len)) (h1 : ¬ x.toInt < lo) (h2 : ¬ hi < x.toInt) (ho : offs[(x.toInt - lo).toNat]? = some off) (ht : (pc : Int) + off = (tgt : Int)) (kk : ow_AW Y Z M d mc ms (tgt) ls (rest) h k n) : ow_AW Y Z M d mc ms (pc) ls (.int x :: rest) h k n := by
  intro p l e R s m args below meth c ad0 ad n0 D cs A H locs lsA C hY hR hSt hX hl
  obtain ⟨hx, hb, hr, hml, hown, hts, hlk, hnm⟩ := id C
  refine lv_tableIn (x := x) (rest := rest.map (ow_tv ad)) hx hb hd h1 h2 ho ht ?_
  exact kk p l e R s m args below meth c ad0 ad n0 D cs A H locs lsA C hY hR hSt hX hl
theorem ow_tabOut {dflt lo hi : Int} {offs : Array Int} {len : Nat} {x : Int32} {tgt : Nat} (hd : decode M.2.1 pc = .ok (.tableswitch dflt lo hi offs, len)) (h1 : x.toInt < lo ∨ hi < x.toInt) (ht : (pc : Int) + dflt = (tgt : Int)) (kk : ow_AW Y Z M d mc ms (tgt) ls (rest) h k n) : ow_AW Y Z M d mc ms (pc) ls (.int x :: rest) h k n := by
  intro p l e R s m args below meth c ad0 ad n0 D cs A H locs lsA C hY hR hSt hX hl
  obtain ⟨hx, hb, hr, hml, hown, hts, hlk, hnm⟩ := id C
  refine lv_tableOut (x := x) (rest := rest.map (ow_tv ad)) hx hb hd h1 ht ?_
  exact kk p l e R s m args below meth c ad0 ad n0 D cs A H locs lsA C hY hR hSt hX hl
theorem ow_ldc {i : Nat} {v : Int32} (hd : decode M.2.1 pc = .ok (.ldc i, 2)) (hc : Cond.constant M.1.cls i v ∈ ow_tb) (kk : ow_AW Y Z M d mc ms (pc + 2) ls (.int v :: rest) h k n) : ow_AW Y Z M d mc ms (pc) ls (rest) h k n := by
  intro p l e R s m args below meth c ad0 ad n0 D cs A H locs lsA C hY hR hSt hX hl
  obtain ⟨hx, hb, hr, hml, hown, hts, hlk, hnm⟩ := id C
  refine lv_ldc hx hb hown (hts _ hc) hd ?_
  exact kk p l e R s m args below meth c ad0 ad n0 D cs A H locs lsA C hY hR hSt hX hl
theorem ow_ldcw {i : Nat} {v : Int32} (hd : decode M.2.1 pc = .ok (.ldc_w i, 3)) (hc : Cond.constant M.1.cls i v ∈ ow_tb) (kk : ow_AW Y Z M d mc ms (pc + 3) ls (.int v :: rest) h k n) : ow_AW Y Z M d mc ms (pc) ls (rest) h k n := by
  intro p l e R s m args below meth c ad0 ad n0 D cs A H locs lsA C hY hR hSt hX hl
  obtain ⟨hx, hb, hr, hml, hown, hts, hlk, hnm⟩ := id C
  refine lv_ldcw hx hb hown (hts _ hc) hd ?_
  exact kk p l e R s m args below meth c ad0 ad n0 D cs A H locs lsA C hY hR hSt hX hl
theorem ow_ldc2 {i : Nat} {v : Int64} (hd : decode M.2.1 pc = .ok (.ldc2_w i, 3)) (hc : Cond.constantLong M.1.cls i v ∈ ow_tb) (kk : ow_AW Y Z M d mc ms (pc + 3) ls (.long v :: rest) h k n) : ow_AW Y Z M d mc ms (pc) ls (rest) h k n := by
  intro p l e R s m args below meth c ad0 ad n0 D cs A H locs lsA C hY hR hSt hX hl
  obtain ⟨hx, hb, hr, hml, hown, hts, hlk, hnm⟩ := id C
  refine lv_ldc2 hx hb hown (hts _ hc) hd ?_
  exact kk p l e R s m args below meth c ad0 ad n0 D cs A H locs lsA C hY hR hSt hX hl
theorem ow_vrf {ad : Nat → Nat} {q : Option Nat} {a : Nat} (hq : q = some a) : va_rf (q.map ad) = ow_tv ad (.ref a) := by subst hq; rfl
theorem ow_getI {own idx cq kq pq o : Nat}  (jF : Nat) (hd : decode M.2.1 pc = .ok (.getfield idx, 3)) (hF : ow_FL[jF]? = some (own, idx, cq, kq, pq)) (ho : M.1.cls = ow_cn own) (hn : o < h.1) (hk : ow_kd o = cq) (ht : ow_ft cq kq = 0 ∨ ow_ft cq kq = 3) (kk : ow_AW Y Z M d mc ms (pc + 3) ls (.int (h.2.1 o kq) :: rest) h k n) : ow_AW Y Z M d mc ms (pc) ls (.ref o :: rest) h k n := by
  intro p l e R s m args below meth c ad0 ad n0 D cs A H locs lsA C hY hR hSt hX hl
  obtain ⟨hx, hb, hr, hml, hown, hts, hlk, hnm⟩ := id C
  obtain ⟨f1, f2, f3, f4⟩ := ow_FL_ok _ (List.mem_of_getElem? hF)
  dsimp only at f1 f2 f3 f4
  subst hk
  obtain ⟨hK, hP, hD, hS, -⟩ := id hX
  refine va_get (D := D) (T := ow_T (ow_kd o)) (C := ow_cn (ow_kd o)) (N := ow_nf (ow_kd o)) (ref := ow_cn (ow_kd o)) (ci := ow_kd o) (v := ow_tv ad (.int (h.2.1 o kq))) (fs := ow_fl ad h o) hx hb hts (ow_in f2) (by rw [← ho]; exact hown) hK hP o ((ow_W_at hn).trans (by rw [ow_E_obj f2])) (ow_cl_at f2) kq f3 (hts _ (ow_mem _ f1 rfl)) (by rw [f4]; exact fun _ q => q) ((ow_fl_at f3).trans (congrArg some ?_)) hd ?_
  · unfold ow_fv; rw [if_neg (by omega), if_neg (by omega)]; rfl
  · exact kk p l e R s m args below meth c ad0 ad n0 D cs A H locs lsA C hY hR hSt hX hl
theorem ow_getJ {own idx cq kq pq o : Nat}  (jF : Nat) (hd : decode M.2.1 pc = .ok (.getfield idx, 3)) (hF : ow_FL[jF]? = some (own, idx, cq, kq, pq)) (ho : M.1.cls = ow_cn own) (hn : o < h.1) (hk : ow_kd o = cq) (ht : ow_ft cq kq = 1) (kk : ow_AW Y Z M d mc ms (pc + 3) ls (.long (h.2.2.1 o kq) :: rest) h k n) : ow_AW Y Z M d mc ms (pc) ls (.ref o :: rest) h k n := by
  intro p l e R s m args below meth c ad0 ad n0 D cs A H locs lsA C hY hR hSt hX hl
  obtain ⟨hx, hb, hr, hml, hown, hts, hlk, hnm⟩ := id C
  obtain ⟨f1, f2, f3, f4⟩ := ow_FL_ok _ (List.mem_of_getElem? hF)
  dsimp only at f1 f2 f3 f4
  subst hk
  obtain ⟨hK, hP, hD, hS, -⟩ := id hX
  refine va_get (D := D) (T := ow_T (ow_kd o)) (C := ow_cn (ow_kd o)) (N := ow_nf (ow_kd o)) (ref := ow_cn (ow_kd o)) (ci := ow_kd o) (v := ow_tv ad (.long (h.2.2.1 o kq))) (fs := ow_fl ad h o) hx hb hts (ow_in f2) (by rw [← ho]; exact hown) hK hP o ((ow_W_at hn).trans (by rw [ow_E_obj f2])) (ow_cl_at f2) kq f3 (hts _ (ow_mem _ f1 rfl)) (by rw [f4]; exact fun _ q => q) ((ow_fl_at f3).trans (congrArg some ?_)) hd ?_
  · unfold ow_fv; rw [if_pos ht]; rfl
  · exact kk p l e R s m args below meth c ad0 ad n0 D cs A H locs lsA C hY hR hSt hX hl
theorem ow_getR {own idx cq kq pq o : Nat} {a : Nat} (jF : Nat) (hd : decode M.2.1 pc = .ok (.getfield idx, 3)) (hF : ow_FL[jF]? = some (own, idx, cq, kq, pq)) (ho : M.1.cls = ow_cn own) (hn : o < h.1) (hk : ow_kd o = cq) (ht : ow_ft cq kq = 2 ∧ h.2.2.2 o kq = some a) (kk : ow_AW Y Z M d mc ms (pc + 3) ls (.ref a :: rest) h k n) : ow_AW Y Z M d mc ms (pc) ls (.ref o :: rest) h k n := by
  intro p l e R s m args below meth c ad0 ad n0 D cs A H locs lsA C hY hR hSt hX hl
  obtain ⟨hx, hb, hr, hml, hown, hts, hlk, hnm⟩ := id C
  obtain ⟨f1, f2, f3, f4⟩ := ow_FL_ok _ (List.mem_of_getElem? hF)
  dsimp only at f1 f2 f3 f4
  subst hk
  obtain ⟨hK, hP, hD, hS, -⟩ := id hX
  refine va_get (D := D) (T := ow_T (ow_kd o)) (C := ow_cn (ow_kd o)) (N := ow_nf (ow_kd o)) (ref := ow_cn (ow_kd o)) (ci := ow_kd o) (v := ow_tv ad (.ref a)) (fs := ow_fl ad h o) hx hb hts (ow_in f2) (by rw [← ho]; exact hown) hK hP o ((ow_W_at hn).trans (by rw [ow_E_obj f2])) (ow_cl_at f2) kq f3 (hts _ (ow_mem _ f1 rfl)) (by rw [f4]; exact fun _ q => q) ((ow_fl_at f3).trans (congrArg some ?_)) hd ?_
  · unfold ow_fv; rw [if_neg (by omega), if_pos ht.1]; exact ow_vrf ht.2
  · exact kk p l e R s m args below meth c ad0 ad n0 D cs A H locs lsA C hY hR hSt hX hl
theorem ow_putI {own idx cq kq pq o : Nat} {v : Int32} (jF : Nat) (hd : decode M.2.1 pc = .ok (.putfield idx, 3)) (hF : ow_FL[jF]? = some (own, idx, cq, kq, pq)) (ho : M.1.cls = ow_cn own) (hn : o < h.1) (hk : ow_kd o = cq) (ht : ow_ft cq kq = 0) (hfin : (ow_T cq kq).2.2.2 = false) (kk : ow_AW Y Z M d mc ms (pc + 3) ls (rest) (h.1, ow_u h.2.1 o kq v, h.2.2.1, h.2.2.2) k n) : ow_AW Y Z M d mc ms (pc) ls (.int v :: .ref o :: rest) h k n := by
  intro p l e R s m args below meth c ad0 ad n0 D cs A H locs lsA C hY hR hSt hX hl
  obtain ⟨hx, hb, hr, hml, hown, hts, hlk, hnm⟩ := id C
  obtain ⟨f1, f2, f3, f4⟩ := ow_FL_ok _ (List.mem_of_getElem? hF)
  dsimp only at f1 f2 f3 f4
  subst hk
  obtain ⟨hK, hP, hD, hS, hA, had, hn0, hn9⟩ := id hX
  refine va_put (D := D) (T := ow_T (ow_kd o)) (C := ow_cn (ow_kd o)) (N := ow_nf (ow_kd o)) (ref := ow_cn (ow_kd o)) (ci := ow_kd o) (v := ow_tv ad (.int v)) (ty := ow_ty (ow_kd o) kq) (fs := ow_fl ad h o) (rest := rest.map (ow_tv ad)) hx hb hts (ow_in f2) (ow_ty (ow_kd o)) (ow_ty_ok _ f2) (ow_nm_ok _ f2) (by rw [← ho]; exact hown) hK hP hD hS o ((ow_W_at hn).trans (by rw [ow_E_obj f2])) (ow_cl_at f2) kq f3 (hts _ (ow_mem _ f1 rfl)) (by rw [f4]; exact fun _ q => q) hfin (ow_ty_ok _ f2 kq f3) (by rw [(ow_ft_ok _ f2 kq f3).1 ht]; rfl) (by rw [(ow_ft_ok _ f2 kq f3).1 ht]; rfl) (by rw [ow_fl_len]; exact f3) hd (fun H1 locs1 hP1 hD1 hS1 => ?_)
  have e0 : (ow_fl ad h o).set kq (ow_tv ad (.int v)) = ow_fl ad (h.1, ow_u h.2.1 o kq v, h.2.2.1, h.2.2.2) o := by
    refine ow_fl_set ?_ (fun b hb => ow_fv_i (ow_u_nk hb))
    unfold ow_fv
    rw [if_neg (by omega), if_neg (by omega)]; dsimp only; rw [ow_u_at]; rfl
  have e1 := ow_W_set (ad := ad) (cs := cs) (h := h) (h' := (h.1, ow_u h.2.1 o kq v, h.2.2.1, h.2.2.2)) (o := o) (E' := .inr (ow_kd o, (ow_fl ad h o).set kq (ow_tv ad (.int v)))) rfl (by rw [ow_E_obj f2, e0]) (fun a ha => ow_E_ext (ow_u_ne ha) rfl rfl)
  rw [e1] at hP1 hD1
  exact kk p l e R s m args below meth c ad0 ad n0 D cs A H1 locs1 lsA C hY hR hSt ⟨hK, hP1, hD1, hS1, hA, had, hn0, hn9⟩ hl
theorem ow_putZ {own idx cq kq pq o : Nat} {v : Int32} (jF : Nat) (hd : decode M.2.1 pc = .ok (.putfield idx, 3)) (hF : ow_FL[jF]? = some (own, idx, cq, kq, pq)) (ho : M.1.cls = ow_cn own) (hn : o < h.1) (hk : ow_kd o = cq) (ht : ow_ft cq kq = 3 ∧ (v = 0 ∨ v = 1)) (hfin : (ow_T cq kq).2.2.2 = false) (kk : ow_AW Y Z M d mc ms (pc + 3) ls (rest) (h.1, ow_u h.2.1 o kq v, h.2.2.1, h.2.2.2) k n) : ow_AW Y Z M d mc ms (pc) ls (.int v :: .ref o :: rest) h k n := by
  intro p l e R s m args below meth c ad0 ad n0 D cs A H locs lsA C hY hR hSt hX hl
  obtain ⟨hx, hb, hr, hml, hown, hts, hlk, hnm⟩ := id C
  obtain ⟨f1, f2, f3, f4⟩ := ow_FL_ok _ (List.mem_of_getElem? hF)
  dsimp only at f1 f2 f3 f4
  subst hk
  obtain ⟨hK, hP, hD, hS, hA, had, hn0, hn9⟩ := id hX
  refine va_put (D := D) (T := ow_T (ow_kd o)) (C := ow_cn (ow_kd o)) (N := ow_nf (ow_kd o)) (ref := ow_cn (ow_kd o)) (ci := ow_kd o) (v := ow_tv ad (.int v)) (ty := ow_ty (ow_kd o) kq) (fs := ow_fl ad h o) (rest := rest.map (ow_tv ad)) hx hb hts (ow_in f2) (ow_ty (ow_kd o)) (ow_ty_ok _ f2) (ow_nm_ok _ f2) (by rw [← ho]; exact hown) hK hP hD hS o ((ow_W_at hn).trans (by rw [ow_E_obj f2])) (ow_cl_at f2) kq f3 (hts _ (ow_mem _ f1 rfl)) (by rw [f4]; exact fun _ q => q) hfin (ow_ty_ok _ f2 kq f3) (by rw [(ow_ft_ok _ f2 kq f3).2.2.1 ht.1]; rcases ht.2 with rfl | rfl <;> rfl) (by rw [(ow_ft_ok _ f2 kq f3).2.2.1 ht.1]; rcases ht.2 with rfl | rfl <;> rfl) (by rw [ow_fl_len]; exact f3) hd (fun H1 locs1 hP1 hD1 hS1 => ?_)
  have e0 : (ow_fl ad h o).set kq (ow_tv ad (.int v)) = ow_fl ad (h.1, ow_u h.2.1 o kq v, h.2.2.1, h.2.2.2) o := by
    refine ow_fl_set ?_ (fun b hb => ow_fv_i (ow_u_nk hb))
    unfold ow_fv
    rw [if_neg (by omega), if_neg (by omega)]; dsimp only; rw [ow_u_at]; rfl
  have e1 := ow_W_set (ad := ad) (cs := cs) (h := h) (h' := (h.1, ow_u h.2.1 o kq v, h.2.2.1, h.2.2.2)) (o := o) (E' := .inr (ow_kd o, (ow_fl ad h o).set kq (ow_tv ad (.int v)))) rfl (by rw [ow_E_obj f2, e0]) (fun a ha => ow_E_ext (ow_u_ne ha) rfl rfl)
  rw [e1] at hP1 hD1
  exact kk p l e R s m args below meth c ad0 ad n0 D cs A H1 locs1 lsA C hY hR hSt ⟨hK, hP1, hD1, hS1, hA, had, hn0, hn9⟩ hl
theorem ow_putJ {own idx cq kq pq o : Nat} {v : Int64} (jF : Nat) (hd : decode M.2.1 pc = .ok (.putfield idx, 3)) (hF : ow_FL[jF]? = some (own, idx, cq, kq, pq)) (ho : M.1.cls = ow_cn own) (hn : o < h.1) (hk : ow_kd o = cq) (ht : ow_ft cq kq = 1) (hfin : (ow_T cq kq).2.2.2 = false) (kk : ow_AW Y Z M d mc ms (pc + 3) ls (rest) (h.1, h.2.1, ow_u h.2.2.1 o kq v, h.2.2.2) k n) : ow_AW Y Z M d mc ms (pc) ls (.long v :: .ref o :: rest) h k n := by
  intro p l e R s m args below meth c ad0 ad n0 D cs A H locs lsA C hY hR hSt hX hl
  obtain ⟨hx, hb, hr, hml, hown, hts, hlk, hnm⟩ := id C
  obtain ⟨f1, f2, f3, f4⟩ := ow_FL_ok _ (List.mem_of_getElem? hF)
  dsimp only at f1 f2 f3 f4
  subst hk
  obtain ⟨hK, hP, hD, hS, hA, had, hn0, hn9⟩ := id hX
  refine va_put (D := D) (T := ow_T (ow_kd o)) (C := ow_cn (ow_kd o)) (N := ow_nf (ow_kd o)) (ref := ow_cn (ow_kd o)) (ci := ow_kd o) (v := ow_tv ad (.long v)) (ty := ow_ty (ow_kd o) kq) (fs := ow_fl ad h o) (rest := rest.map (ow_tv ad)) hx hb hts (ow_in f2) (ow_ty (ow_kd o)) (ow_ty_ok _ f2) (ow_nm_ok _ f2) (by rw [← ho]; exact hown) hK hP hD hS o ((ow_W_at hn).trans (by rw [ow_E_obj f2])) (ow_cl_at f2) kq f3 (hts _ (ow_mem _ f1 rfl)) (by rw [f4]; exact fun _ q => q) hfin (ow_ty_ok _ f2 kq f3) (by rw [(ow_ft_ok _ f2 kq f3).2.1 ht]; rfl) (by rw [(ow_ft_ok _ f2 kq f3).2.1 ht]; rfl) (by rw [ow_fl_len]; exact f3) hd (fun H1 locs1 hP1 hD1 hS1 => ?_)
  have e0 : (ow_fl ad h o).set kq (ow_tv ad (.long v)) = ow_fl ad (h.1, h.2.1, ow_u h.2.2.1 o kq v, h.2.2.2) o := by
    refine ow_fl_set ?_ (fun b hb => ow_fv_l (ow_u_nk hb))
    unfold ow_fv
    rw [if_pos ht]; dsimp only; rw [ow_u_at]; rfl
  have e1 := ow_W_set (ad := ad) (cs := cs) (h := h) (h' := (h.1, h.2.1, ow_u h.2.2.1 o kq v, h.2.2.2)) (o := o) (E' := .inr (ow_kd o, (ow_fl ad h o).set kq (ow_tv ad (.long v)))) rfl (by rw [ow_E_obj f2, e0]) (fun a ha => ow_E_ext rfl (ow_u_ne ha) rfl)
  rw [e1] at hP1 hD1
  exact kk p l e R s m args below meth c ad0 ad n0 D cs A H1 locs1 lsA C hY hR hSt ⟨hK, hP1, hD1, hS1, hA, had, hn0, hn9⟩ hl
theorem ow_iaload {o : Nat} {i : Int32} (hd : decode M.2.1 pc = .ok (.iaload, 1)) (hn : o < h.1) (hk : ow_kd o = 14) (hi : vp_in i (ow_ln o)) (kk : ow_AW Y Z M d mc ms (pc + 1) ls (.int (h.2.1 o i.toNatClampNeg) :: rest) h k n) : ow_AW Y Z M d mc ms (pc) ls (.int i :: .ref o :: rest) h k n := by
  intro p l e R s m args below meth c ad0 ad n0 D cs A H locs lsA C hY hR hSt hX hl
  obtain ⟨hx, hb, hr, hml, hown, hts, hlk, hnm⟩ := id C
  obtain ⟨hK, hP, hD, hS, -⟩ := id hX
  refine va_iald (rest := rest.map (ow_tv ad)) hx hb hK hP o 1 ((ow_W_at hn).trans (by rw [ow_E_i hk])) rfl hi hd ?_
  exact kk p l e R s m args below meth c ad0 ad n0 D cs A H locs lsA C hY hR hSt hX hl
theorem ow_baload {o : Nat} {i : Int32} (hd : decode M.2.1 pc = .ok (.baload, 1)) (hn : o < h.1) (hk : ow_kd o = 13) (hi : vp_in i (ow_ln o)) (kk : ow_AW Y Z M d mc ms (pc + 1) ls (.int (h.2.1 o i.toNatClampNeg) :: rest) h k n) : ow_AW Y Z M d mc ms (pc) ls (.int i :: .ref o :: rest) h k n := by
  intro p l e R s m args below meth c ad0 ad n0 D cs A H locs lsA C hY hR hSt hX hl
  obtain ⟨hx, hb, hr, hml, hown, hts, hlk, hnm⟩ := id C
  obtain ⟨hK, hP, hD, hS, -⟩ := id hX
  refine va_bald (rest := rest.map (ow_tv ad)) hx hb hK hP o 0 ((ow_W_at hn).trans (by rw [ow_E_b hk])) rfl hi hd ?_
  exact kk p l e R s m args below meth c ad0 ad n0 D cs A H locs lsA C hY hR hSt hX hl
theorem ow_laload {o : Nat} {i : Int32} (hd : decode M.2.1 pc = .ok (.laload, 1)) (hn : o < h.1) (hk : ow_kd o = 15) (hi : vp_in i (ow_ln o)) (kk : ow_AW Y Z M d mc ms (pc + 1) ls (.long (h.2.2.1 o i.toNatClampNeg) :: rest) h k n) : ow_AW Y Z M d mc ms (pc) ls (.int i :: .ref o :: rest) h k n := by
  intro p l e R s m args below meth c ad0 ad n0 D cs A H locs lsA C hY hR hSt hX hl
  obtain ⟨hx, hb, hr, hml, hown, hts, hlk, hnm⟩ := id C
  obtain ⟨hK, hP, hD, hS, -⟩ := id hX
  refine va_lald (rest := rest.map (ow_tv ad)) hx hb hK hP o 2 ((ow_W_at hn).trans (by rw [ow_E_j hk])) rfl hi hd ?_
  exact kk p l e R s m args below meth c ad0 ad n0 D cs A H locs lsA C hY hR hSt hX hl
theorem ow_iastore {o : Nat} {i : Int32} {v : Int32} (hd : decode M.2.1 pc = .ok (.iastore, 1)) (hn : o < h.1) (hk : ow_kd o = 14) (hi : vp_in i (ow_ln o)) (kk : ow_AW Y Z M d mc ms (pc + 1) ls (rest) (h.1, ow_u h.2.1 o i.toNatClampNeg v, h.2.2.1, h.2.2.2) k n) : ow_AW Y Z M d mc ms (pc) ls (.int v :: .int i :: .ref o :: rest) h k n := by
  intro p l e R s m args below meth c ad0 ad n0 D cs A H locs lsA C hY hR hSt hX hl
  obtain ⟨hx, hb, hr, hml, hown, hts, hlk, hnm⟩ := id C
  obtain ⟨hK, hP, hD, hS, hA, had, hn0, hn9⟩ := id hX
  refine va_iast (x := v) (rest := rest.map (ow_tv ad)) hx hb hK hP hD hS o 1 ((ow_W_at hn).trans (by rw [ow_E_i hk])) rfl hi hd (fun H1 locs1 hP1 hD1 hS1 => ?_)
  have e1 := ow_W_set (ad := ad) (cs := cs) (h := h) (h' := (h.1, ow_u h.2.1 o i.toNatClampNeg v, h.2.2.1, h.2.2.2)) (o := o) (E' := .inl (cs.2.1, ow_ln o, .inl (upd (h.2.1 o) i.toNatClampNeg v))) rfl (by rw [ow_E_i hk]; dsimp only; rw [ow_u_row]) (fun a ha => ow_E_ext (ow_u_ne ha) rfl rfl)
  rw [e1] at hP1 hD1
  exact kk p l e R s m args below meth c ad0 ad n0 D cs A H1 locs1 lsA C hY hR hSt ⟨hK, hP1, hD1, hS1, hA, had, hn0, hn9⟩ hl
theorem ow_bastore {o : Nat} {i : Int32} {v : Int32} (hd : decode M.2.1 pc = .ok (.bastore, 1)) (hn : o < h.1) (hk : ow_kd o = 13) (hi : vp_in i (ow_ln o)) (kk : ow_AW Y Z M d mc ms (pc + 1) ls (rest) (h.1, ow_u h.2.1 o i.toNatClampNeg (vp_nar .byte v), h.2.2.1, h.2.2.2) k n) : ow_AW Y Z M d mc ms (pc) ls (.int v :: .int i :: .ref o :: rest) h k n := by
  intro p l e R s m args below meth c ad0 ad n0 D cs A H locs lsA C hY hR hSt hX hl
  obtain ⟨hx, hb, hr, hml, hown, hts, hlk, hnm⟩ := id C
  obtain ⟨hK, hP, hD, hS, hA, had, hn0, hn9⟩ := id hX
  refine va_bast (x := v) (rest := rest.map (ow_tv ad)) hx hb hK hP hD hS o 0 ((ow_W_at hn).trans (by rw [ow_E_b hk])) rfl hi hd (fun H1 locs1 hP1 hD1 hS1 => ?_)
  have e1 := ow_W_set (ad := ad) (cs := cs) (h := h) (h' := (h.1, ow_u h.2.1 o i.toNatClampNeg (vp_nar .byte v), h.2.2.1, h.2.2.2)) (o := o) (E' := .inl (cs.1, ow_ln o, .inl (upd (h.2.1 o) i.toNatClampNeg (vp_nar .byte v)))) rfl (by rw [ow_E_b hk]; dsimp only; rw [ow_u_row]) (fun a ha => ow_E_ext (ow_u_ne ha) rfl rfl)
  rw [e1] at hP1 hD1
  exact kk p l e R s m args below meth c ad0 ad n0 D cs A H1 locs1 lsA C hY hR hSt ⟨hK, hP1, hD1, hS1, hA, had, hn0, hn9⟩ hl
theorem ow_lastore {o : Nat} {i : Int32} {v : Int64} (hd : decode M.2.1 pc = .ok (.lastore, 1)) (hn : o < h.1) (hk : ow_kd o = 15) (hi : vp_in i (ow_ln o)) (kk : ow_AW Y Z M d mc ms (pc + 1) ls (rest) (h.1, h.2.1, ow_u h.2.2.1 o i.toNatClampNeg v, h.2.2.2) k n) : ow_AW Y Z M d mc ms (pc) ls (.long v :: .int i :: .ref o :: rest) h k n := by
  intro p l e R s m args below meth c ad0 ad n0 D cs A H locs lsA C hY hR hSt hX hl
  obtain ⟨hx, hb, hr, hml, hown, hts, hlk, hnm⟩ := id C
  obtain ⟨hK, hP, hD, hS, hA, had, hn0, hn9⟩ := id hX
  refine va_last (x := v) (rest := rest.map (ow_tv ad)) hx hb hK hP hD hS o 2 ((ow_W_at hn).trans (by rw [ow_E_j hk])) rfl hi hd (fun H1 locs1 hP1 hD1 hS1 => ?_)
  have e1 := ow_W_set (ad := ad) (cs := cs) (h := h) (h' := (h.1, h.2.1, ow_u h.2.2.1 o i.toNatClampNeg v, h.2.2.2)) (o := o) (E' := .inl (cs.2.2, ow_ln o, .inr (.inl (vp_updL (h.2.2.1 o) i.toNatClampNeg v)))) rfl (by rw [ow_E_j hk]; dsimp only; rw [ow_u_rowL]) (fun a ha => ow_E_ext rfl (ow_u_ne ha) rfl)
  rw [e1] at hP1 hD1
  exact kk p l e R s m args below meth c ad0 ad n0 D cs A H1 locs1 lsA C hY hR hSt ⟨hK, hP1, hD1, hS1, hA, had, hn0, hn9⟩ hl
theorem ow_alen_b {o : Nat} (hd : decode M.2.1 pc = .ok (.arraylength, 1)) (hn : o < h.1) (hk : ow_kd o = 13) (kk : ow_AW Y Z M d mc ms (pc + 1) ls (.int (Int32.ofNat (ow_ln o)) :: rest) h k n) : ow_AW Y Z M d mc ms (pc) ls (.ref o :: rest) h k n := by
  intro p l e R s m args below meth c ad0 ad n0 D cs A H locs lsA C hY hR hSt hX hl
  obtain ⟨hx, hb, hr, hml, hown, hts, hlk, hnm⟩ := id C
  obtain ⟨hK, hP, hD, hS, -⟩ := id hX
  refine va_alen (rest := rest.map (ow_tv ad)) hx hb hK hP o 0 ((ow_W_at hn).trans (by rw [ow_E_b hk])) rfl rfl hd ?_
  exact kk p l e R s m args below meth c ad0 ad n0 D cs A H locs lsA C hY hR hSt hX hl
theorem ow_alen_i {o : Nat} (hd : decode M.2.1 pc = .ok (.arraylength, 1)) (hn : o < h.1) (hk : ow_kd o = 14) (kk : ow_AW Y Z M d mc ms (pc + 1) ls (.int (Int32.ofNat (ow_ln o)) :: rest) h k n) : ow_AW Y Z M d mc ms (pc) ls (.ref o :: rest) h k n := by
  intro p l e R s m args below meth c ad0 ad n0 D cs A H locs lsA C hY hR hSt hX hl
  obtain ⟨hx, hb, hr, hml, hown, hts, hlk, hnm⟩ := id C
  obtain ⟨hK, hP, hD, hS, -⟩ := id hX
  refine va_alen (rest := rest.map (ow_tv ad)) hx hb hK hP o 1 ((ow_W_at hn).trans (by rw [ow_E_i hk])) rfl rfl hd ?_
  exact kk p l e R s m args below meth c ad0 ad n0 D cs A H locs lsA C hY hR hSt hX hl
end OWR
