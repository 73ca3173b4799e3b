/-! Own rows, by program: the law's led, its loop. -/
theorem ow_ll1 : Cond.codeWith M_Law_led.1 M_Law_led.2.1 4 (some .int) [(0, 9, 12, 13)] ∈ ow_tb := List.mem_filter.mpr ⟨by decide +kernel, by decide +kernel⟩
theorem ow_ll2 : Cond.static M_Law_led.1 ∈ ow_tb := List.mem_filter.mpr ⟨by decide +kernel, by decide +kernel⟩
theorem ow_ll3 : Cond.initialized M_Law_led.1.cls ∈ ow_tb := List.mem_filter.mpr ⟨by decide +kernel, by decide +kernel⟩
theorem ow_llg : GoodIn ow_tb (va_wsS "FollyShireLaw" 236 M_Law_led.1 ow_wsL) := by
  refine ow_good (fun w hw => ?_) (fun w hw => hw)
  rcases List.mem_append.mp hw with h | h
  · simp only [List.mem_cons, List.not_mem_nil, or_false] at h
    rcases h with rfl | rfl | rfl
    · exact l_Law_236
    · exact ow_ll2
    · exact ow_ll3
  · rcases List.mem_cons.mp h with rfl | h
    · exact ow_ll1
    · exact h
section LLED
variable {L i k n : Nat} {xs : Nat → Int32} {I : Nat → Nat → Int32} {J : Nat → Nat → Int64} {R : Nat → Nat → Option Nat}
theorem ow_callL {p1 : Int32} {ls : List (Nat × Value)} {h : ow_H} (hkn : k + 1 ≤ 601024 ∧ n + 6 ≤ 7293034) (kk : ow_AL 39 [.ref 0, .int p1, .ref 84] h (fun r h' => ow_AW ow_Y1 (ow_Zw L xs) M_Law_law 40 601024 7293034 2001 ls (r.toList ++ []) h' (k + 1) (n + 6))) : ow_AW ow_Y1 (ow_Zw L xs) M_Law_law 40 601024 7293034 1998 ls [.ref 84, .int p1, .ref 0] h k n := by
  intro p l e R s m args below meth c ad0 ad n0 D cs A H locs lsA C hY hR hSt hX hl
  obtain ⟨hx, hb, hrt, hml, hown, hts, hlk, hnm⟩ := id C
  obtain ⟨hK, hP, hD, hS, hA, had, hn0, hn9, hnk⟩ := id hX
  obtain ⟨r1, r2, r3, r4⟩ := id hR
  intro T hT X
  by_cases hF : ow_Fw L xs l R s args ad0 n0 A
  case neg => exact ⟨_, Steps.refl _, fun hf => absurd hf hF⟩
  obtain ⟨f0, f1, f2, f3⟩ := id hF
  have hFc : ∀ q, va_A (ow_W ad cs h) H.size q → A q := by
    intro q hq
    rcases hq with ⟨i, e', hi⟩ | hq
    · exact hD.2 i _ hi
    · exact hA q (Nat.le_trans hS.1 hq)
  have hr := vx_runSW (As := [.ref (ad 0), .int p1, .ref (ad 84)]) (rest := []) (Ts := ow_tb) (nL := M_Law_law.2.2.1) (n := 3) (own := "FollyShireLaw") (index := 236) (maxL := 4) (bytes := M_Law_led.2.1) (ret := some .int) (hh := [(0, 9, 12, 13)]) (g := F0 m 1998 lsA [.ref (ad 84), .int p1, .ref (ad 0)]) (mc := 1) (ms := 6) (cells := k) (slots := n) (locs := locs) (H := H) (e := e) (below := below) (meth := meth) (R := R) ⟨hx, hb, hml, hown, hts⟩ (kk l ad D cs H.size f1 hn9) (vx_cwSW 3 hts ow_llg rfl rfl rfl ⟨by decide, by decide, by decide +kernel⟩ ⟨by show 39 + 1 ≤ R.frames; omega, by show 8 + (4 + 11) + 41 * 39 ≤ R.locals; omega⟩)
    ⟨ow_Xs_blind, fun U hU hW => ⟨rfl, ⟨by rw [hU], by rw [hU]; exact hP, va_K.moved hW.alike hK, hD.weaken (fun _ _ _ _ => trivial), ow_S_move hSt (fun i hi => had i (Or.inr hi)) hS hFc hU hW⟩, ow_Xs_move f2 hS hFc hU hW⟩⟩ rfl rfl hl.1 rfl (lv_room (Nat.le_of_ble_eq_true rfl)) d_Law_law_1998 ⟨by omega, by omega⟩
  obtain ⟨v, st₀, t, T', LL, h0, X', hL, e1, e2, ⟨⟨r, h', hv, hq, hn', hP1, hK1, hD1⟩, hz, hk⟩, st⟩ := hr T hT X
  cases hv
  rw [h0] at hz hk
  have hS' : va_S A s.heap T'.heap (locs ++ LL) := by
    refine ⟨Nat.le_trans hS.1 (by rw [e1]; exact hz), fun q h1 h2 => ?_, fun q hq => ?_⟩
    · rw [e1, hk q (Nat.lt_of_lt_of_le h1 hS.1) (fun z => h2 (hFc q z))]
      exact hS.2.1 q h1 h2
    · rcases List.mem_append.mp hq with h | h
      · exact hS.2.2 q h
      · exact hFc _ (hL q h)
  have K := hq p l e R s m args below meth c ad0 ad n0 D cs A T'.heap (locs ++ LL) lsA C hY hR hSt ⟨hK, by rw [e1]; exact hP1, hD1.weaken (fun _ q _ hq => hFc q.1 hq), hS', hA, had, by omega, by omega, by omega⟩ hl
  obtain ⟨t2, a1, b1⟩ := K T' rfl X'
  refine ⟨t2, st t2 ?_, b1⟩
  cases r <;> exact a1
/-- behind the law's led -/
theorem lw_led_tail {r bv : Int32} (hR : ow_RF R) (hkn : k + 1 ≤ 601024 ∧ n + 6 ≤ 7293034) (hv : ∀ j, j < 6 → vp_in (nI i + nI j) L) (hMo : ∀ Q2 : Option Value → ow_H → Prop, (∀ I3 : Nat → Nat → Int32, sp_W I3 → I3 70 0 = r → (r = 0 → J 84 0 = bv.toInt64) → Q2 (some (.int bv)) (85, I3, J, R)) → ow_AM M_Mo_led 39 [.ref 70, .int (xs (nI i + 1).toNatClampNeg)] (85, I, J, R) Q2) (next : ∀ (I2 : Nat → Nat → Int32) (J2 : Nat → Nat → Int64) (R2 : Nat → Nat → Option Nat) (k2 n2 : Nat), ow_RF R2 → sp_W I2 → k2 ≤ k + 1 → n2 ≤ n + 6 → ow_AW ow_Y1 (ow_Zw L xs) M_Law_law 40 601024 7293034 2084 [(0, .ref 980), (1, .ref 0), (2, .ref 70), (3, .ref 84), (4, .int (nI i))] [] (85, I2, J2, R2) k2 n2) : ow_AW ow_Y1 (ow_Zw L xs) M_Law_law 40 601024 7293034 2001 [(0, .ref 980), (1, .ref 0), (2, .ref 70), (3, .ref 84), (4, .int (nI i))] [.int r] (85, I, J, R) (k + 1) (n + 6) := by
  refine ow_istore (ls2 := [(5, .int r), (0, .ref 980), (1, .ref 0), (2, .ref 70), (3, .ref 84), (4, .int (nI i))]) d_Law_law_2001 (by decide) rfl ?_
  refine ow_aload_n 3 rfl d_Law_law_2003 ?_
  refine ow_aload_n 1 rfl d_Law_law_2004 ?_
  refine ow_iload 5 rfl d_Law_law_2005 ?_
  refine ow_iconst (v := 1) (by decide) d_Law_law_2007 ?_
  refine ow_iadd d_Law_law_2008 ?_
  refine ow_sld d_Law_law_2009 (hv 1 (by decide)) ?_
  refine ow_callV (b := 70) (cq := 12) (As := [.int (xs (nI i + 1).toNatClampNeg)]) (rest := []) (d2 := 39) d_Law_law_2010 l_Law_241 v_Mo_led (show 70 < 85 by decide) rfl (by decide) rfl (Nat.le_of_ble_eq_true rfl) (Nat.le_refl _) hkn ?_
  refine hMo _ ?_
  intro I3 hW3 h0 hJ
  show ow_AW ow_Y1 (ow_Zw L xs) M_Law_law 40 601024 7293034 2013 [(5, .int r), (0, .ref 980), (1, .ref 0), (2, .ref 70), (3, .ref 84), (4, .int (nI i))] [.int bv] (85, I3, J, R) (k + 1) (n + 6)
  refine ow_istore (ls2 := [(6, .int bv), (5, .int r), (0, .ref 980), (1, .ref 0), (2, .ref 70), (3, .ref 84), (4, .int (nI i))]) d_Law_law_2013 (by decide) rfl ?_
  refine ow_aload_n 4 rfl d_Law_law_2015 ?_
  refine ow_callV (b := 70) (cq := 12) (As := []) (rest := []) (d2 := 39) d_Law_law_2016 l_Law_242 v_Mo_thrown (show 70 < 85 by decide) rfl (by decide) rfl (Nat.le_of_ble_eq_true rfl) (Nat.le_refl _) hkn ?_
  refine c_Mo_thrown (d := 27) hR ?_
  rw [h0]
  show ow_AW ow_Y1 (ow_Zw L xs) M_Law_law 40 601024 7293034 2019 [(6, .int bv), (5, .int r), (0, .ref 980), (1, .ref 0), (2, .ref 70), (3, .ref 84), (4, .int (nI i))] [.int r] (85, I3, J, R) (k + 1) (n + 6)
  have N : ow_AW ow_Y1 (ow_Zw L xs) M_Law_law 40 601024 7293034 2043 [(6, .int bv), (5, .int r), (0, .ref 980), (1, .ref 0), (2, .ref 70), (3, .ref 84), (4, .int (nI i))] [] (85, I3, J, R) (k + 1) (n + 6) := by
    refine ow_goto (tgt := 2084) d_Law_law_2043 (by decide) ?_
    refine ow_sub [2, 3, 4, 5, 6] rfl ?_
    exact next I3 J R (k + 1) (n + 6) hR hW3 (Nat.le_refl _) (Nat.le_refl _)
  refine ow_iload 1 rfl d_Law_law_2019 ?_
  refine ow_icmp_eq (tgt := 2026) d_Law_law_2021 (by decide) (fun _ => ?_) (fun c => absurd rfl c)
  refine ow_iload 1 rfl d_Law_law_2026 ?_
  refine ow_if_ne (tgt := 2043) d_Law_law_2028 (by decide) (fun _ => N) (fun c => ?_)
  refine ow_aload_n 5 rfl d_Law_law_2031 ?_
  refine ow_iconst (v := 0) (by decide) d_Law_law_2032 ?_
  refine ow_hlaload (z := 1) d_Law_law_2033 (by decide) (by decide) (by decide) (by unfold vp_in; decide) ?_
  refine ow_iload 0 rfl d_Law_law_2034 ?_
  refine ow_i2l d_Law_law_2036 ?_
  refine ow_lcmp d_Law_law_2037 ?_
  rw [show J 84 (Int32.toNatClampNeg 0) = bv.toInt64 from hJ c]
  exact ow_if_eq (tgt := 2043) d_Law_law_2038 (by decide) (fun _ => N) (fun c => absurd (sp_lcmp _) c)
/-- the object's own cells change, TROUBLE aside -/
theorem sp_W_c {I2 : Nat → Nat → Int32} (hW : sp_W I) (f2 : sp_fr sp_cS sp_cE I I2) (v2 : I2 0 15 = I 0 15) : sp_W I2 := by
  obtain ⟨⟨t, B, hG⟩, ⟨y1, y2, y3, y4, y5⟩, hS⟩ := hW
  have hi := sp_aS_hi (sp_ca f2)
  refine ⟨⟨t, B, sp_Gl_a hG (sp_ca f2)⟩, ⟨?_, ?_, ?_, ?_, ?_⟩, ?_⟩
  · rw [hi 70 (by decide), v2]; exact y1
  · rw [hi 70 (by decide), f2 0 (by decide) 16 (by decide)]; exact y2
  · rw [hi 70 (by decide), v2, f2 0 (by decide) 17 (by decide)]; exact y3
  · rw [f2 66 (by decide) 0 (by decide)]; exact y4
  · rw [f2 68 (by decide) 0 (by decide)]; exact y5
  rcases hS with ⟨T, V, h, H, g, G, x1, x2, x3, x4, x5, x6⟩ | ⟨x1, x2⟩
  · exact Or.inl ⟨T, V, h, H, g, G, x1, x2, x3, x4, sp_CX_k x5 f2, sp_MX_r x6 hi⟩
  · exact Or.inr ⟨sp_C0_k x1 f2, sp_M0_r x2 hi⟩
theorem lw_case_51 (hR : ow_RF R) (hW : sp_W I) (hkn : k + 1 ≤ 601024 ∧ n + 6 ≤ 7293034) (hv : ∀ j, j < 6 → vp_in (nI i + nI j) L) (next : ∀ (I2 : Nat → Nat → Int32) (J2 : Nat → Nat → Int64) (R2 : Nat → Nat → Option Nat) (k2 n2 : Nat), ow_RF R2 → sp_W I2 → k2 ≤ k + 1 → n2 ≤ n + 6 → ow_AW ow_Y1 (ow_Zw L xs) M_Law_law 40 601024 7293034 2084 [(0, .ref 980), (1, .ref 0), (2, .ref 70), (3, .ref 84), (4, .int (nI i))] [] (85, I2, J2, R2) k2 n2) : ow_AW ow_Y1 (ow_Zw L xs) M_Law_law 40 601024 7293034 1990 [(0, .ref 980), (1, .ref 0), (2, .ref 70), (3, .ref 84), (4, .int (nI i))] [] (85, I, J, R) k n := by
  refine ow_aload_n 1 rfl d_Law_law_1990 ?_
  refine ow_aload_n 0 rfl d_Law_law_1991 ?_
  refine ow_iload 4 rfl d_Law_law_1992 ?_
  refine ow_iconst (v := 1) (by decide) d_Law_law_1994 ?_
  refine ow_iadd d_Law_law_1995 ?_
  refine ow_sld d_Law_law_1996 (hv 1 (by decide)) ?_
  refine ow_aload_n 3 rfl d_Law_law_1997 ?_
  refine ow_callL hkn ?_
  refine c_Law_led (d := 26) ?_
  rcases id hW.2.2 with ⟨T, V, h, H, g, G, x1, x2, x3, x4, x5, x6⟩ | ⟨x1, x2⟩
  · refine c_Fs_led (d := 26) hR x5.1 x1 x2 (fun e I2 he f2 v2 => ⟨nI e, I2, J, R, rfl, rfl, ?_⟩) (fun I2 he f2 v2 => ?_)
    · refine lw_led_tail (bv := nI e) hR hkn hv (fun Q2 hQ2 => ?_) next
      refine c_Mo_led (d := 27) hR (sp_MX_r x6 (sp_aS_hi (sp_ca f2))).1 x1 x2 ?_
      intro I3 f3 v3 w3
      rw [he] at w3 ⊢
      exact hQ2 I3 (sp_W_m (sp_W_c hW f2 v2) f3 v3) w3 (fun _ => by rw [ow_u_at])
    · refine lw_led_tail (bv := 0) hR hkn hv (fun Q2 hQ2 => ?_) next
      refine c_Mo_led (d := 27) hR (sp_MX_r x6 (sp_aS_hi (sp_ca f2))).1 x1 x2 ?_
      intro I3 f3 v3 w3
      rw [he] at w3 ⊢
      exact hQ2 I3 (sp_W_m (sp_W_c hW f2 v2) f3 v3) w3 (fun c => absurd c (by decide))
  · refine c_Fs_led0 (d := 26) hR x1.1 x1.2.1.2.2.1 ?_
    refine lw_led_tail (bv := 0) hR hkn hv (fun Q2 hQ2 => ?_) next
    refine c_Mo_led0 (d := 27) hR x2.1 ?_
    intro I3 e3
    exact hQ2 I3 (sp_W_t hW e3) (by rw [e3, ow_u_at]) (fun c => absurd c (by decide))
end LLED
