/-! Own rows: the law, its script, its end. The first rows stand in the skeleton of kit/laws. -/
def R_law : String := "FollyShireLaw"
def lw_P (b : Addr) (xs : List Int32) (args : Array Value) (s : State) : Prop := args = #[.ref b] ∧ s.IntsAt b xs ∧ xs.length ≤ 3072 ∧ (Jvm.Cond.and given_1 narrow_1).before args s = true
def lw_Q (_ : Array Value) (s : State) (o : Outcome) (t : State) : Prop := o = .returned (some (.int 1)) ∧ Framed s o t [] 601024 7293034
def lw_Z (below : List Frame) (a : Array Value) (s : State) : State → Prop := fun t => ∃ o, t.status = .running ∧ Ended t below o ∧ lw_Q a s o t
/-- the law's own end, with 1 on the stack, nothing written that was there before, its room as the claim has it -/
theorem lw_ret {p : Program} {l : Launch} {e : Env} {s : State} {m : MethodId} {below : List Frame} {meth : Method} {c : Code} {b : Nat} (hx : p.tables.exec = Jvm.exec) (hb : c.code = code) (hr : meth.sig.returnType = ret) (hlocks : meth.locks = false) {pc : Nat} {H : Heap} {ls : Array Slot} (hdg : decode code pc = .ok (.ireturn, 1)) : W p l e room_1 s m #[Value.ref b] below meth c H [] 601024 7293034 (lw_Z below #[Value.ref b] s) (F0 m pc ls [.int 1]) := by
  intro T hT X
  obtain ⟨fs, hret, hrun, hended, hW, hframe⟩ := X.leave (v := some (.int 1)) (hlocks := hlocks) (fun h => by rw [hr] at h; cases h)
  have hmeth' : T.vm.method? m = some meth := X.method'
  refine ⟨T.setFrames fs, ?_, .returned (some (.int 1)), hrun, hended, rfl, ⟨_, rfl⟩, hW, hframe⟩
  jvm_step X.here [X.here.top, hx, hb, hdg, hmeth', hr, ret, narrow_b1]
  (try refine ⟨rfl, ?_⟩); (try refine ⟨rfl, ?_⟩)
  first | (intro acts; rw [hret _ acts rfl rfl rfl]) | rw [hret _ _ rfl rfl rfl]
  exact Steps.refl _
/-- what holds at the law's entry: the machine, the code, the tables' words (any of lw_tbl by 'hts w (by decide +kernel)'), the script of L ints xs at the cell b, what the Statement gives of the start (any of its parts by flat_of_before) -/
def lw_At (p : Program) (s : State) (m : MethodId) (meth : Method) (c : Code) (b L : Nat) (xs : Nat → Int32) : Prop :=
  p.tables.exec = Jvm.exec ∧ c.code = code ∧ meth.sig.returnType = ret ∧ c.maxLocals = 7 ∧ s.vm.findClass R_law = some m.cls ∧ (∀ w ∈ lw_tbl, w.before #[Value.ref b] s = true) ∧ va_X b L xs s s.heap ∧ b < s.heap.size ∧ meth.locks = false ∧ (Jvm.Cond.and given_1 narrow_1).before #[Value.ref b] s = true

def ow_Fw (L : Nat) (xs : Nat → Int32) (l : Launch) (R : Room) (s : State) (args : Array Value) (ad0 : Nat → Nat) (n0 : Nat) (A : Nat → Prop) : Prop := n0 = 0 ∧ l.stackTraces = false ∧ ow_Xs A s ∧ va_X (ad0 980) L xs s s.heap ∧ ad0 980 < s.heap.size ∧ (¬ A (ad0 980)) ∧ R = room_1 ∧ args = #[.ref (ad0 980)] ∧ ∀ q, A q → s.heap.size ≤ q
def ow_Zw (L : Nat) (xs : Nat → Int32) : ow_Zt := fun _ l _ R s _ args below ad0 n0 _ _ A t => ow_Fw L xs l R s args ad0 n0 A → lw_Z below args s t
section LAWR
variable {L : Nat} {xs : Nat → Int32} {d mc ms pc k n : Nat} {ls : List (Nat × Value)} {rest : List Value} {h : ow_H}
theorem ow_sld {i : Int32} (hd : decode M_Law_law.2.1 pc = .ok (.iaload, 1)) (hi : vp_in i L) (kk : ow_AW ow_Y1 (ow_Zw L xs) M_Law_law d mc ms (pc + 1) ls (.int (xs i.toNatClampNeg) :: rest) h k n) : ow_AW ow_Y1 (ow_Zw L xs) M_Law_law d mc ms pc ls (.int i :: .ref 980 :: rest) h k n := by
  intro p l e R s m args below meth c ad0 ad n0 D cs A H locs lsA C hY hR hSt hX hl
  obtain ⟨hx, hb, hrt, hml, hown, hts, hlk, hnm⟩ := id C
  obtain ⟨hK, hP, hD, hS, hA, had, hn0, hn9, hnk⟩ := id hX
  intro T hT X
  by_cases hF : ow_Fw L xs l R s args ad0 n0 A
  case neg => exact ⟨_, Steps.refl _, fun hf => absurd hf hF⟩
  have K := kk p l e R s m args below meth c ad0 ad n0 D cs A H locs lsA C hY hR hSt hX hl
  have e980 : ad 980 = ad0 980 := had 980 (Or.inr (by decide))
  have V : va_X (ad 980) L xs s s.heap := by rw [e980]; exact hF.2.2.2.1
  exact va_sld (rest := rest.map (ow_tv ad)) hx hb V (by rw [e980]; exact hF.2.2.2.2.1) (by rw [e980]; exact hF.2.2.2.2.2.1) hS hi hd K T hT X
theorem ow_scrlen (hd : decode M_Law_law.2.1 pc = .ok (.arraylength, 1)) (kk : ow_AW ow_Y1 (ow_Zw L xs) M_Law_law d mc ms (pc + 1) ls (.int (nI L) :: rest) h k n) : ow_AW ow_Y1 (ow_Zw L xs) M_Law_law d mc ms pc ls (.ref 980 :: rest) h k n := by
  intro p l e R s m args below meth c ad0 ad n0 D cs A H locs lsA C hY hR hSt hX hl
  obtain ⟨hx, hb, hrt, hml, hown, hts, hlk, hnm⟩ := id C
  obtain ⟨hK, hP, hD, hS, hA, had, hn0, hn9, hnk⟩ := id hX
  intro T hT X
  by_cases hF : ow_Fw L xs l R s args ad0 n0 A
  case neg => exact ⟨_, Steps.refl _, fun hf => absurd hf hF⟩
  have K := kk p l e R s m args below meth c ad0 ad n0 D cs A H locs lsA C hY hR hSt hX hl
  have e980 : ad 980 = ad0 980 := had 980 (Or.inr (by decide))
  have V : va_X (ad 980) L xs s s.heap := by rw [e980]; exact hF.2.2.2.1
  exact va_slen (rest := rest.map (ow_tv ad)) hx hb V (by rw [e980]; exact hF.2.2.2.2.1) (by rw [e980]; exact hF.2.2.2.2.2.1) hS hd K T hT X
/-- the law's end: true -/
theorem ow_retW (hd : decode M_Law_law.2.1 pc = .ok (.ireturn, 1)) (hk : k ≤ 601024) (hn : n ≤ 7293034) : ow_AW ow_Y1 (ow_Zw L xs) M_Law_law d mc ms pc ls [.int 1] h k n := by
  intro p l e R s m args below meth c ad0 ad n0 D cs A H locs lsA C hY hR hSt hX hl
  obtain ⟨hx, hb, hrt, hml, hown, hts, hlk, hnm⟩ := id C
  obtain ⟨hK, hP, hD, hS, hA, had, hn0, hn9, hnk⟩ := id hX
  intro T hT X
  by_cases hF : ow_Fw L xs l R s args ad0 n0 A
  case neg => exact ⟨_, Steps.refl _, fun hf => absurd hf hF⟩
  obtain ⟨f0, f1, f2, f3, f4, f5, f6, f7, f8⟩ := id hF
  subst f6
  subst f7
  have K : W p l e room_1 s m #[Value.ref (ad0 980)] below meth c H locs k n (lw_Z below #[Value.ref (ad0 980)] s) (F0 m pc lsA [.int 1]) := by
    refine W.widen hk hn ?_
    refine va_forget (fun q hq => f8 _ (hS.2.2 q hq)) ?_
    exact lw_ret (b := ad0 980) hx hb hrt hlk hd
  obtain ⟨t, a1, b1⟩ := K T hT X
  exact ⟨t, a1, fun _ => b1⟩
theorem ow_bool {Y : ow_Yt} {Z : ow_Zt} {M : ow_M} {x : Int32} (d0 : decode M.2.1 pc = .ok (.ifCond .eq 7, 3)) (d3 : decode M.2.1 (pc + 3) = .ok (.iconst 1, 1)) (d4 : decode M.2.1 (pc + 4) = .ok (.goto 4, 3)) (d7 : decode M.2.1 (pc + 7) = .ok (.iconst 0, 1)) (kk : ow_AW Y Z M d mc ms (pc + 8) ls (.int (sp_jb (!decide (x = 0))) :: rest) h k n) : ow_AW Y Z M d mc ms pc ls (.int x :: rest) h k n := by
  refine ow_if_eq (tgt := pc + 7) d0 (by omega) (fun c => ?_) (fun c => ?_)
  · refine ow_iconst (v := 0) (by decide) d7 ?_
    rw [decide_eq_true c] at kk
    exact kk
  · refine ow_iconst (v := 1) (by decide) d3 ?_
    refine ow_goto (tgt := pc + 8) d4 (by omega) ?_
    rw [decide_eq_false c] at kk
    exact kk
end LAWR
