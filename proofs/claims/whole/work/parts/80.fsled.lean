/-! Own rows: led of the class, which may throw: its contract. -/
def ow_xB : List Cond := [.declares (Bundle.init0 "java/lang/RuntimeException"), .declares (Bundle.init0 "java/lang/Exception"), .declares (Bundle.init0 "java/lang/Throwable"), .castable "java/util/NoSuchElementException" "java/util/NoSuchElementException"]
theorem ow_xat1 : ∀ w ∈ (vx_at0 "FollyShire" 371 "java/util/NoSuchElementException" ["java/lang/RuntimeException", "java/lang/Exception"]).filter goodWord, w ∈ ow_tb := by
  intro w hw
  have K : ∀ w ∈ (vx_at0 "FollyShire" 371 "java/util/NoSuchElementException" ["java/lang/RuntimeException", "java/lang/Exception"]).filter goodWord, w ∈ lw_tbl := by decide +kernel
  exact List.mem_filter.mpr ⟨K w hw, (List.mem_filter.mp hw).2⟩
theorem ow_xat2 : ∀ w ∈ (vx_at0 "FollyShire" 371 "java/util/NoSuchElementException" ["java/lang/RuntimeException", "java/lang/Exception"]).filter (fun w => !goodWord w), w ∈ ow_xB := by decide +kernel
theorem ow_xat3 : ∀ w ∈ Cond.classLink "FollyShire" 369 "java/util/NoSuchElementException" :: Cond.initialized "java/util/NoSuchElementException" :: vx_at0 "FollyShire" 371 "java/util/NoSuchElementException" ["java/lang/RuntimeException", "java/lang/Exception"], vx_ot w = true := by decide +kernel
theorem ow_xk : Cond.classLink "FollyShire" 369 "java/util/NoSuchElementException" ∈ ow_tb := List.mem_filter.mpr ⟨by decide +kernel, by decide⟩
theorem ow_xi : Cond.initialized "java/util/NoSuchElementException" ∈ ow_tb := List.mem_filter.mpr ⟨by decide +kernel, by decide⟩
theorem ow_xB_t : ∀ w ∈ ow_xB, w.onTables = true := by decide
theorem ow_xB_use {s : State} {args : Array Value} (h : ∀ w ∈ ow_xB, va_Nw w s) : ∀ w ∈ ow_xB, w.before args s = true := fun w hw => va_Nw.use (ow_xB_t w hw) (h w hw)
theorem ow_xB_warm {s U : State} (hW : s.WarmedH U.vm) (h : ∀ w ∈ ow_xB, va_Nw w s) : ∀ w ∈ ow_xB, va_Nw w U := by
  intro w hw
  have hz := h w hw
  simp only [ow_xB, List.mem_cons, List.not_mem_nil, or_false] at hw
  rcases hw with rfl | rfl | rfl | rfl
  · exact va_Nw.warmD hW hz
  · exact va_Nw.warmD hW hz
  · exact va_Nw.warmD hW hz
  · exact va_Nw.warmC hW hz
/-- what a throw needs of the heap and of the tables -/
def ow_Xs (A : Nat → Prop) (U : State) : Prop := (vx_Zq Bundle.tN "UNASSIGNED_STACK" Bundle.steD A U U.heap ∧ vx_Zq Bundle.tN "SUPPRESSED_SENTINEL" Bundle.listD A U U.heap) ∧ ∀ w ∈ ow_xB, va_Nw w U
def ow_Fx (l : Launch) (s : State) (m : MethodId) (A : Nat → Prop) : Prop := l.stackTraces = false ∧ ow_Xs A s ∧ ∀ (meth : Method) (c : Code), s.vm.method? m = some meth → meth.code = some c → ∀ x ∈ c.exceptionTable.toList, False
def ow_BX (ad : Nat → Nat) (D : va_G) (cs : ow_CS) (A : Nat → Prop) (n0 : Nat) : String → ow_H → State → Prop := fun E h t => E = "java/util/NoSuchElementException" ∧ h.1 = n0 ∧ va_P D ow_cl (ow_W ad cs h) t.heap ∧ va_K D ow_cl (ow_tys cs) t ∧ va_D A (ow_W ad cs h)
def ow_Zx (Q : Option Value → ow_H → Prop) (QX : ow_H → Prop) : ow_Zt := fun _ l _ _ s m args below ad0 n0 D cs A t => ow_Fx l s m A → vx_MQ below (ow_Qc ad0 D cs A n0 Q) (vx_X QX (ow_BX ad0 D cs A n0) A) args s 1 6 A t
/-- the contract of a method that comes back or throws -/
def ow_AX (M : ow_M) (d : Nat) (av : List Value) (h : ow_H) (Q : Option Value → ow_H → Prop) (QX : ow_H → Prop) : Prop :=
  ∀ (l : Launch) (ad : Nat → Nat) (D : va_G) (cs : ow_CS) (sz : Nat), l.stackTraces = false → h.1 ≤ 900 →
    vx_Met l M.1 (ow_ws M) (ow_roomN d 1 6) (va_Pc (av.map (ow_tv ad)) (fun U => ow_Pre ad D cs h sz U ∧ ow_Xs (va_A (ow_W ad cs h) sz) U)) (ow_Qc ad D cs (va_A (ow_W ad cs h) sz) h.1 Q) (vx_X QX (ow_BX ad D cs (va_A (ow_W ad cs h) sz) h.1) (va_A (ow_W ad cs h) sz)) 1 6 (va_A (ow_W ad cs h) sz)
theorem ow_enterX {M : ow_M} {d : Nat} {av : List Value} {h : ow_H} {Q : Option Value → ow_H → Prop} {QX : ow_H → Prop} (hp : plainName M.1.cls = true) (hlen : (lg_sl av).length ≤ M.2.2.1) (kk : ow_AW ow_Y0 (ow_Zx Q QX) M d 1 6 0 (lv_args 0 av) [] h 0 0) : ow_AX M d av h Q QX := by
  intro l ad D cs sz hst h9
  refine vx_ofW (cc := M.2.1) (maxL := M.2.2.1) (ret := M.2.2.2) hp rfl ?_
  intro p e s m args below meth c s₁ B hml htab hv
  obtain ⟨rfl, ⟨hsz, hP, hK, hD0, hSt⟩, hXs⟩ := hv
  subst hsz
  have hD := hD0.self (sz := s.heap.size)
  have hts := atoms_spec (ws := ow_ws M) B.pre
  have hown : s.vm.findClass M.1.cls = some m.cls := findClass_of_methodNamed B.named
  have hin : meth.name = M.1.name := (name_of_methodNamed B.named B.method).1
  have hl := lv_entry (av.map (ow_tv ad)) (n := M.2.2.1) (by rw [ow_lgsl]; exact hlen)
  rw [ow_lvargs] at hl
  rw [lg_entry_eq]
  have K := kk p l e (headSpec (ow_ws M) (ow_roomN d 1 6)).room s m _ below meth c ad ad h.1 D cs _ s.heap [] _ ⟨B.exec, B.bytes, B.returns, hml, hown, fun w hw => hts w (List.mem_cons_of_mem _ hw), B.notSynchronized, hin⟩ rfl ⟨Nat.le_refl _, Nat.le_refl _, Nat.le_refl _, Nat.le_refl _⟩ hSt ⟨hK, hP, hD, va_S.rf, fun q hq => Or.inr hq, fun _ _ => rfl, Nat.le_refl _, h9, Nat.le_refl _⟩ hl
  intro T hT X
  obtain ⟨t, a1, b1⟩ := K T hT X
  refine ⟨t, a1, b1 ⟨hst, hXs, fun meth2 c2 h1 h2 => ?_⟩⟩
  have e1 : meth2 = meth := Option.some.inj (h1.symm.trans X.method)
  subst e1
  have e2 : c2 = c := Option.some.inj (h2.symm.trans X.code)
  subst e2
  exact htab
theorem ow_iretX {M : ow_M} {d pc : Nat} {ls : List (Nat × Value)} {h : ow_H} {Q : Option Value → ow_H → Prop} {QX : ow_H → Prop} {x : Int32} (hd : decode M.2.1 pc = .ok (.ireturn, 1)) (hr : M.2.2.2 = some .int) (hq : Q (some (.int x)) h) : ow_AW ow_Y0 (ow_Zx Q QX) M d 1 6 pc ls [.int x] h 0 0 := by
  intro p l e R s m args below meth c ad0 ad n0 D cs A H locs lsA C hY hR hSt hX hl
  obtain ⟨hx, hb, hrt, hml, hown, hts, hlk, hnm⟩ := C
  obtain ⟨hK, hP, hD, hS, hA, had, hn0, hn9, hnk⟩ := hX
  have hY : ad = ad0 := hY
  subst hY
  have K : W p l e R s m args below meth c H locs 0 0 (vx_MQ below (ow_Qc ad D cs A n0 Q) (vx_X QX (ow_BX ad D cs A n0) A) args s 1 6 A) (F0 m pc lsA [.int x]) := by
    refine vx_ret ?_
    refine W.widen (Nat.zero_le 1) (Nat.zero_le 6) ?_
    exact W.iret hx hb (hrt.trans hr) (fun t ht hW => ⟨⟨some (.int x), h, rfl, hq, by omega, by rw [ht]; exact hP, va_K.moved hW.alike hK, hD⟩, hS.F ht⟩) hS.2.2 hd hlk
  intro T hT X
  obtain ⟨t, a1, b1⟩ := K T hT X
  exact ⟨t, a1, fun _ => b1⟩
theorem ow_throw71 {d : Nat} {h : ow_H} {Q : Option Value → ow_H → Prop} {QX : ow_H → Prop} (hq : QX h) : ow_AW ow_Y0 (ow_Zx Q QX) M_Fs_led (d + 12) 1 6 71 [] [] h 0 0 := by
  intro p l e R s m args below meth c ad0 ad n0 D cs A H locs lsA C hY hR hSt hX hl
  obtain ⟨hx, hb, hrt, hml, hown, hts, hlk, hnm⟩ := C
  obtain ⟨hK, hP, hD, hS, hA, had, hn0, hn9, hnk⟩ := hX
  have hY : ad = ad0 := hY
  subst hY
  intro T hT X
  by_cases hF : ow_Fx l s m A
  · obtain ⟨f1, ⟨⟨f2, f3⟩, f4⟩, f5⟩ := id hF
    have hsz : lsA.size = c.maxLocals := hl.1.trans hml.symm
    obtain ⟨r1, r2, r3, r4⟩ := hR
    have K : W p l e R s m args below meth c H locs 0 0 (vx_MQ below (ow_Qc ad D cs A n0 Q) (vx_X QX (ow_BX ad D cs A n0) A) args s 1 6 A) (F0 m 71 lsA []) :=
      vx_throw0 (own := "FollyShire") (cls := "java/util/NoSuchElementException") (names := ["java/lang/RuntimeException", "java/lang/Exception"]) (ik := 369) (ic := 371) (A := A) (cc := M_Fs_led.2.1) hx hb f1 hown (by decide) (by decide) (hts _ ow_xk) (hts _ ow_xi) (vx_hat (fun w hw => hts w (ow_xat1 w hw)) ow_xat2 (ow_xB_use f4)) ow_xat3 f2 f3 hS hsz (by decide +kernel) (by decide +kernel) (by decide +kernel) (by decide +kernel) (fun x hx => absurd (f5 meth c X.method X.code x hx) id) (by show 2 + 3 < R.frames; omega) (by show (0 : Nat) + (13 * 3 + 42) ≤ R.locals; omega) (by omega) (by omega) hlk
        (fun t hal h1 h2 => ⟨h, hq, ⟨rfl, by omega, hP.kept (fun k q hk => h2 _ (hP k q hk).lt), va_K.moved hal hK, hD⟩, ⟨Nat.le_trans hS.1 h1, fun q q1 q2 => by rw [h2 q (Nat.lt_of_lt_of_le q1 hS.1)]; exact hS.2.1 q q1 q2⟩⟩) hS.2.2 (Nat.le_refl _) (Nat.le_refl _)
    obtain ⟨t, a1, b1⟩ := K T hT X
    exact ⟨t, a1, fun _ => b1⟩
  · exact ⟨_, Steps.refl _, fun hf => absurd hf hF⟩
section FSLED
variable {d : Nat} {I : Nat → Nat → Int32} {J : Nat → Nat → Int64} {R : Nat → Nat → Option Nat} {Q : Option Value → ow_H → Prop} {QX : ow_H → Prop} {T : sp_T} {V : sp_V}
theorem c_Fs_led {p1 : Int32} (hR : ow_RF R) (hC : sp_CN I T V) (hT : st_ok T) (hV : st_now T V) (kr : ∀ (e : Nat) (I2 : Nat → Nat → Int32), sp_led (sp_bits V (st_eo T)) p1 (st_ne T) 0 0 = some e → sp_fr sp_cS sp_cE I I2 → I2 0 15 = I 0 15 → Q (some (.int (nI e))) (85, I2, J, R)) (kt : ∀ I2 : Nat → Nat → Int32, sp_led (sp_bits V (st_eo T)) p1 (st_ne T) 0 0 = none → sp_fr sp_cS sp_cE I I2 → I2 0 15 = I 0 15 → QX (85, I2, J, R)) : ow_AX M_Fs_led (d + 12) [.ref 0, .int p1] (85, I, J, R) Q QX := by
  refine ow_enterX (by decide) (Nat.le_of_ble_eq_true rfl) ?_
  exact w_Fs_led hR hC hT hV (fun e I2 h1 h2 h3 => ow_iretX d_Fs_led_61 rfl (kr e I2 h1 h2 h3)) (fun I2 h1 h2 h3 => ow_throw71 (kt I2 h1 h2 h3))
theorem c_Fs_led0 {p1 : Int32} (hR : ow_RF R) (h1 : I 0 14 = 0) (h3 : I 2 3 = 0) (kt : QX (85, I, J, R)) : ow_AX M_Fs_led (d + 12) [.ref 0, .int p1] (85, I, J, R) Q QX := by
  refine ow_enterX (by decide) (Nat.le_of_ble_eq_true rfl) ?_
  exact w_Fs_led0 hR h1 h3 (ow_throw71 kt)
end FSLED
