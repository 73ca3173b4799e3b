/-! Own rows, by program: led. -/
theorem d_Fs_led_0 : decode M_Fs_led.2.1 0 = .ok (.aload_n 0, 1) := by decide +kernel
theorem d_Fs_led_1 : decode M_Fs_led.2.1 1 = .ok (.getfield 139, 3) := by decide +kernel
theorem d_Fs_led_4 : decode M_Fs_led.2.1 4 = .ok (.ifCond .eq 19, 3) := by decide +kernel
theorem d_Fs_led_7 : decode M_Fs_led.2.1 7 = .ok (.aload_n 0, 1) := by decide +kernel
theorem d_Fs_led_8 : decode M_Fs_led.2.1 8 = .ok (.getfield 49, 3) := by decide +kernel
theorem d_Fs_led_11 : decode M_Fs_led.2.1 11 = .ok (.aload_n 0, 1) := by decide +kernel
theorem d_Fs_led_12 : decode M_Fs_led.2.1 12 = .ok (.getfield 30, 3) := by decide +kernel
theorem d_Fs_led_15 : decode M_Fs_led.2.1 15 = .ok (.invokevirtual 182, 3) := by decide +kernel
theorem d_Fs_led_18 : decode M_Fs_led.2.1 18 = .ok (.iconst (-1), 1) := by decide +kernel
theorem d_Fs_led_19 : decode M_Fs_led.2.1 19 = .ok (.ixor, 1) := by decide +kernel
theorem d_Fs_led_20 : decode M_Fs_led.2.1 20 = .ok (.goto 4, 3) := by decide +kernel
theorem d_Fs_led_23 : decode M_Fs_led.2.1 23 = .ok (.iconst 0, 1) := by decide +kernel
theorem d_Fs_led_24 : decode M_Fs_led.2.1 24 = .ok (.istore_n 2, 1) := by decide +kernel
theorem d_Fs_led_25 : decode M_Fs_led.2.1 25 = .ok (.iconst 0, 1) := by decide +kernel
theorem d_Fs_led_26 : decode M_Fs_led.2.1 26 = .ok (.istore_n 3, 1) := by decide +kernel
theorem d_Fs_led_27 : decode M_Fs_led.2.1 27 = .ok (.iconst 0, 1) := by decide +kernel
theorem d_Fs_led_28 : decode M_Fs_led.2.1 28 = .ok (.istore 4, 2) := by decide +kernel
theorem d_Fs_led_30 : decode M_Fs_led.2.1 30 = .ok (.iload 4, 2) := by decide +kernel
theorem d_Fs_led_32 : decode M_Fs_led.2.1 32 = .ok (.aload_n 0, 1) := by decide +kernel
theorem d_Fs_led_33 : decode M_Fs_led.2.1 33 = .ok (.getfield 16, 3) := by decide +kernel
theorem d_Fs_led_36 : decode M_Fs_led.2.1 36 = .ok (.getfield 366, 3) := by decide +kernel
theorem d_Fs_led_39 : decode M_Fs_led.2.1 39 = .ok (.if_icmp .ge 32, 3) := by decide +kernel
theorem d_Fs_led_42 : decode M_Fs_led.2.1 42 = .ok (.iload_n 2, 1) := by decide +kernel
theorem d_Fs_led_43 : decode M_Fs_led.2.1 43 = .ok (.iload 4, 2) := by decide +kernel
theorem d_Fs_led_45 : decode M_Fs_led.2.1 45 = .ok (.ishr, 1) := by decide +kernel
theorem d_Fs_led_46 : decode M_Fs_led.2.1 46 = .ok (.iconst 1, 1) := by decide +kernel
theorem d_Fs_led_47 : decode M_Fs_led.2.1 47 = .ok (.iand, 1) := by decide +kernel
theorem d_Fs_led_48 : decode M_Fs_led.2.1 48 = .ok (.ifCond .ne 6, 3) := by decide +kernel
theorem d_Fs_led_51 : decode M_Fs_led.2.1 51 = .ok (.goto 14, 3) := by decide +kernel
theorem d_Fs_led_54 : decode M_Fs_led.2.1 54 = .ok (.iload_n 3, 1) := by decide +kernel
theorem d_Fs_led_55 : decode M_Fs_led.2.1 55 = .ok (.iload_n 1, 1) := by decide +kernel
theorem d_Fs_led_56 : decode M_Fs_led.2.1 56 = .ok (.if_icmp .ne 6, 3) := by decide +kernel
theorem d_Fs_led_59 : decode M_Fs_led.2.1 59 = .ok (.iload 4, 2) := by decide +kernel
theorem d_Fs_led_61 : decode M_Fs_led.2.1 61 = .ok (.ireturn, 1) := by decide +kernel
theorem d_Fs_led_62 : decode M_Fs_led.2.1 62 = .ok (.iinc 3 1, 3) := by decide +kernel
theorem d_Fs_led_65 : decode M_Fs_led.2.1 65 = .ok (.iinc 4 1, 3) := by decide +kernel
theorem d_Fs_led_68 : decode M_Fs_led.2.1 68 = .ok (.goto (-38), 3) := by decide +kernel
set_option maxRecDepth 4000 in
theorem t_Fs_led_30 {d : Nat} {I : Nat → Nat → Int32} {J : Nat → Nat → Int64} {R : Nat → Nat → Option Nat} {Z : ow_Zt} {v1 : Int32} {v2 : Int32} {v3 : Int32} {v4 : Int32}  (hR : ow_RF R) (T : (((I 2 3) ≤ v4 → ow_AW ow_Y0 Z M_Fs_led (d + 1) 1 6 71 [] [] (85, I, J, R) 0 0) ∧ (¬ (I 2 3) ≤ v4 → ((¬ ((v2 >>> (v4 &&& 31)) &&& 1) = 0 → ((¬ v3 = v1 → ow_AW ow_Y0 Z M_Fs_led (d + 1) 1 6 30 [(0, .ref 0), (1, .int v1), (2, .int v2), (3, .int (v3 + 1)), (4, .int (v4 + 1))] [] (85, I, J, R) 0 0) ∧ (v3 = v1 → ow_AW ow_Y0 Z M_Fs_led (d + 1) 1 6 61 [] [.int v4] (85, I, J, R) 0 0))) ∧ (((v2 >>> (v4 &&& 31)) &&& 1) = 0 → ow_AW ow_Y0 Z M_Fs_led (d + 1) 1 6 30 [(0, .ref 0), (1, .int v1), (2, .int v2), (3, .int v3), (4, .int (v4 + 1))] [] (85, I, J, R) 0 0))))) : ow_AW ow_Y0 Z M_Fs_led (d + 1) 1 6 30 [(0, .ref 0), (1, .int v1), (2, .int v2), (3, .int v3), (4, .int v4)] [] (85, I, J, R) 0 0 := by
  refine ow_iload 4 rfl d_Fs_led_30 ?_
  refine ow_aload_n 0 rfl d_Fs_led_32 ?_
  refine ow_gR (a := 2) 153 d_Fs_led_33 rfl rfl (by decide) rfl ⟨rfl, hR 0 2 (by decide)⟩ ?_
  refine ow_gI 42 d_Fs_led_36 rfl rfl (by decide) rfl (Or.inl rfl) ?_
  refine ow_icmp_ge (tgt := 71) d_Fs_led_39 (by decide) (fun c => ?_) (fun c => ?_)
  · replace T := T.1 c
    refine ow_sub [] rfl ?_
    exact T
  · replace T := T.2 c
    refine ow_iload_n 2 rfl d_Fs_led_42 ?_
    refine ow_iload 4 rfl d_Fs_led_43 ?_
    refine ow_ishr d_Fs_led_45 ?_
    refine ow_iconst (v := 1) (by decide) d_Fs_led_46 ?_
    refine ow_iand d_Fs_led_47 ?_
    refine ow_if_ne (tgt := 54) d_Fs_led_48 (by decide) (fun c => ?_) (fun c => ?_)
    · replace T := T.1 c
      refine ow_iload_n 3 rfl d_Fs_led_54 ?_
      refine ow_iload_n 1 rfl d_Fs_led_55 ?_
      refine ow_icmp_ne (tgt := 62) d_Fs_led_56 (by decide) (fun c => ?_) (fun c => ?_)
      · replace T := T.1 c
        refine ow_iinc 3 (v := (v3 + 1)) (ls2 := [(3, .int (v3 + 1)), (0, .ref 0), (1, .int v1), (2, .int v2), (4, .int v4)]) d_Fs_led_62 rfl rfl (by decide) rfl ?_
        refine ow_iinc 4 (v := (v4 + 1)) (ls2 := [(4, .int (v4 + 1)), (3, .int (v3 + 1)), (0, .ref 0), (1, .int v1), (2, .int v2)]) d_Fs_led_65 rfl rfl (by decide) rfl ?_
        refine ow_goto (tgt := 30) d_Fs_led_68 (by decide) ?_
        refine ow_sub [2, 3, 4, 1, 0] rfl ?_
        exact T
      · replace T := T.2 c
        refine ow_iload 4 rfl d_Fs_led_59 ?_
        refine ow_sub [] rfl ?_
        exact T
    · replace T := T.2 c
      refine ow_goto (tgt := 65) d_Fs_led_51 (by decide) ?_
      refine ow_iinc 4 (v := (v4 + 1)) (ls2 := [(4, .int (v4 + 1)), (0, .ref 0), (1, .int v1), (2, .int v2), (3, .int v3)]) d_Fs_led_65 rfl rfl (by decide) rfl ?_
      refine ow_goto (tgt := 30) d_Fs_led_68 (by decide) ?_
      refine ow_sub [1, 2, 3, 4, 0] rfl ?_
      exact T
set_option maxRecDepth 4000 in
theorem t_Fs_led {d : Nat} {I : Nat → Nat → Int32} {J : Nat → Nat → Int64} {R : Nat → Nat → Option Nat} {Z : ow_Zt} {p1 : Int32} (hR : ow_RF R) (T : (((I 0 14) = 0 → ow_AW ow_Y0 Z M_Fs_led (d + 1) 1 6 30 [(0, .ref 0), (1, .int p1), (2, .int 0), (3, .int 0), (4, .int 0)] [] (85, I, J, R) 0 0) ∧ (¬ (I 0 14) = 0 → (ow_AM M_Serving_bitsServed d [.ref 39, .ref 29] (85, I, J, R) (fun r h' => ∃ (r2 : Int32) (I2 : Nat → Nat → Int32) (J2 : Nat → Nat → Int64) (R2 : Nat → Nat → Option Nat), r = some (.int r2) ∧ h' = (85, I2, J2, R2) ∧ ow_RF R2 ∧ ow_AW ow_Y0 Z M_Fs_led (d + 1) 1 6 30 [(0, .ref 0), (1, .int p1), (2, .int (r2 ^^^ (-1))), (3, .int 0), (4, .int 0)] [] (85, I2, J2, R2) 0 0))))) : ow_AW ow_Y0 Z M_Fs_led (d + 1) 1 6 0 [(0, .ref 0), (1, .int p1)] [] (85, I, J, R) 0 0 := by
  refine ow_aload_n 0 rfl d_Fs_led_0 ?_
  refine ow_gI 165 d_Fs_led_1 rfl rfl (by decide) rfl (Or.inr rfl) ?_
  refine ow_if_eq (tgt := 23) d_Fs_led_4 (by decide) (fun c => ?_) (fun c => ?_)
  · replace T := T.1 c
    refine ow_iconst (v := 0) (by decide) d_Fs_led_23 ?_
    refine ow_istore_n (ls2 := [(2, .int 0), (0, .ref 0), (1, .int p1)]) d_Fs_led_24 (by decide) rfl ?_
    refine ow_iconst (v := 0) (by decide) d_Fs_led_25 ?_
    refine ow_istore_n (ls2 := [(3, .int 0), (2, .int 0), (0, .ref 0), (1, .int p1)]) d_Fs_led_26 (by decide) rfl ?_
    refine ow_iconst (v := 0) (by decide) d_Fs_led_27 ?_
    refine ow_istore (ls2 := [(4, .int 0), (3, .int 0), (2, .int 0), (0, .ref 0), (1, .int p1)]) d_Fs_led_28 (by decide) rfl ?_
    refine ow_sub [3, 4, 2, 1, 0] rfl ?_
    exact T
  · replace T := T.2 c
    refine ow_aload_n 0 rfl d_Fs_led_7 ?_
    refine ow_gR (a := 39) 158 d_Fs_led_8 rfl rfl (by decide) rfl ⟨rfl, hR 0 7 (by decide)⟩ ?_
    refine ow_aload_n 0 rfl d_Fs_led_11 ?_
    refine ow_gR (a := 29) 155 d_Fs_led_12 rfl rfl (by decide) rfl ⟨rfl, hR 0 4 (by decide)⟩ ?_
    refine ow_callV (b := 39) (cq := 5) (As := [.ref 29]) (rest := []) (d2 := d) d_Fs_led_15 l_Fs_182 v_Serving_bitsServed (show 39 < 85 by decide) rfl (by decide) rfl (Nat.le_of_ble_eq_true rfl) (Nat.le_refl _) ⟨Nat.zero_le _, Nat.zero_le _⟩ (ow_mono T ?_)
    rintro r h' ⟨r2, I2, J2, R2, rfl, rfl, hR2, T⟩
    show ow_AW ow_Y0 Z M_Fs_led (d + 1) 1 6 18 [(0, .ref 0), (1, .int p1)] [.int r2] (85, I2, J2, R2) 0 0
    refine ow_iconst (v := (-1)) (by decide) d_Fs_led_18 ?_
    refine ow_ixor d_Fs_led_19 ?_
    refine ow_goto (tgt := 24) d_Fs_led_20 (by decide) ?_
    refine ow_istore_n (ls2 := [(2, .int (r2 ^^^ (-1))), (0, .ref 0), (1, .int p1)]) d_Fs_led_24 (by decide) rfl ?_
    refine ow_iconst (v := 0) (by decide) d_Fs_led_25 ?_
    refine ow_istore_n (ls2 := [(3, .int 0), (2, .int (r2 ^^^ (-1))), (0, .ref 0), (1, .int p1)]) d_Fs_led_26 (by decide) rfl ?_
    refine ow_iconst (v := 0) (by decide) d_Fs_led_27 ?_
    refine ow_istore (ls2 := [(4, .int 0), (3, .int 0), (2, .int (r2 ^^^ (-1))), (0, .ref 0), (1, .int p1)]) d_Fs_led_28 (by decide) rfl ?_
    refine ow_sub [3, 4, 2, 1, 0] rfl ?_
    exact T
/-- the i-th estate not served -/
def sp_led (m : Nat) (p : Int32) : Nat → Nat → Nat → Option Nat
  | 0, _, _ => none
  | k + 1, e, n => if m.testBit e then sp_led m p k (e + 1) n else if nI n = p then some e else sp_led m p k (e + 1) (n + 1)
def sp_ldv (o : Option Nat) : Int32 := match o with
  | some e => nI e
  | none => 0
def sp_ldt (o : Option Nat) : Int32 := match o with
  | some _ => 0
  | none => 1
theorem sp_nb : ∀ m, m < 32 → ∀ e, e < 6 → (((nI m ^^^ (-1)) >>> (nI e &&& 31)) &&& 1 = if m.testBit e then 0 else 1) := by decide +kernel
section LED
variable {d : Nat} {I : Nat → Nat → Int32} {J : Nat → Nat → Int64} {R : Nat → Nat → Option Nat} {Q : Option Value → ow_H → Prop} {Z : ow_Zt} {T : sp_T} {V : sp_V}
theorem w_Fs_led30 {m ne : Nat} {p1 : Int32} (hR : ow_RF R) (hm : m < 32) (hne : ne ≤ 5) (h3 : I 2 3 = nI ne) (kr : ∀ e, sp_led m p1 ne 0 0 = some e → ow_AW ow_Y0 Z M_Fs_led (d + 1) 1 6 61 [] [.int (nI e)] (85, I, J, R) 0 0) (kt : sp_led m p1 ne 0 0 = none → ow_AW ow_Y0 Z M_Fs_led (d + 1) 1 6 71 [] [] (85, I, J, R) 0 0) : ∀ (k e n : Nat), e + k = ne → n ≤ e → sp_led m p1 k e n = sp_led m p1 ne 0 0 → ow_AW ow_Y0 Z M_Fs_led (d + 1) 1 6 30 [(0, .ref 0), (1, .int p1), (2, .int (nI m ^^^ (-1))), (3, .int (nI n)), (4, .int (nI e))] [] (85, I, J, R) 0 0 := by
  intro k
  induction k with
  | zero =>
    intro e n hek hn hs
    apply t_Fs_led_30 hR
    rw [h3]
    refine ⟨fun _ => kt (by rw [← hs]; rfl), fun c => absurd ((nI_leI (by omega) (by omega)).mpr (by omega)) c⟩
  | succ k ih =>
    intro e n hek hn hs
    apply t_Fs_led_30 hR
    rw [h3, sp_nb m hm e (by omega), nI_1, nI_1]
    rw [sp_led] at hs
    refine ⟨fun c => absurd ((nI_leI (by omega) (by omega)).mp c) (by omega), fun _ => ?_⟩
    cases hb : m.testBit e with
    | true =>
      rw [hb, if_pos rfl] at hs
      rw [if_pos rfl]
      refine ⟨fun c => absurd rfl c, fun _ => ih (e + 1) n (by omega) (by omega) hs⟩
    | false =>
      rw [hb, if_neg (by decide)] at hs
      rw [if_neg (by decide)]
      refine ⟨fun _ => ⟨fun c => ?_, fun c => ?_⟩, fun c => absurd c (by decide)⟩
      · rw [if_neg c] at hs
        exact ih (e + 1) (n + 1) (by omega) (by omega) hs
      · rw [if_pos c] at hs
        exact kr e hs.symm
theorem w_Fs_led {p1 : Int32} (hR : ow_RF R) (hC : sp_CN I T V) (hT : st_ok T) (hV : st_now T V) (kr : ∀ (e : Nat) (I2 : Nat → Nat → Int32), sp_led (sp_bits V (st_eo T)) p1 (st_ne T) 0 0 = some e → sp_fr sp_cS sp_cE I I2 → I2 0 15 = I 0 15 → ow_AW ow_Y0 Z M_Fs_led (d + 12) 1 6 61 [] [.int (nI e)] (85, I2, J, R) 0 0) (kt : ∀ I2 : Nat → Nat → Int32, sp_led (sp_bits V (st_eo T)) p1 (st_ne T) 0 0 = none → sp_fr sp_cS sp_cE I I2 → I2 0 15 = I 0 15 → ow_AW ow_Y0 Z M_Fs_led (d + 12) 1 6 71 [] [] (85, I2, J, R) 0 0) : ow_AW ow_Y0 Z M_Fs_led (d + 12) 1 6 0 [(0, .ref 0), (1, .int p1)] [] (85, I, J, R) 0 0 := by
  apply t_Fs_led hR
  refine ⟨fun c => absurd c (by rw [hC.1]; decide), fun _ => ?_⟩
  refine c_Serving_bitsServed hR (by decide) hC.2.2 hV.1 (sp_CN_E hC hV) (st_eok hT) ?_
  intro I2 k0
  have f2 := sp_cw k0 (by decide)
  have v2 : I2 0 15 = I 0 15 := by rw [k0 0 (by decide)]
  refine ⟨_, I2, J, R, rfl, rfl, hR, ?_⟩
  refine w_Fs_led30 hR (sp_bits_lt hV.1 (st_eok hT)) hT.2.2.2.2.2.1 ?_ (fun e he => kr e I2 he f2 v2) (fun hn => kt I2 hn f2 v2) (st_ne T) 0 0 (by omega) (Nat.le_refl _) rfl
  exact (sp_CN_k hC f2).2.1.2.2.1
theorem w_Fs_led0 {p1 : Int32} (hR : ow_RF R) (h1 : I 0 14 = 0) (h3 : I 2 3 = 0) (kt : ow_AW ow_Y0 Z M_Fs_led (d + 12) 1 6 71 [] [] (85, I, J, R) 0 0) : ow_AW ow_Y0 Z M_Fs_led (d + 12) 1 6 0 [(0, .ref 0), (1, .int p1)] [] (85, I, J, R) 0 0 := by
  apply t_Fs_led hR
  refine ⟨fun _ => ?_, fun c => absurd h1 c⟩
  apply t_Fs_led_30 hR
  rw [h3]
  exact ⟨fun _ => kt, fun c => absurd (by decide) c⟩
theorem c_Mo_led15 {p1 : Int32} (hR : ow_RF R) (hM : sp_MN I T V) (hT : st_ok T) (hV : st_now T V) (hQ : ∀ I2 : Nat → Nat → Int32, sp_fr sp_mS sp_mE I I2 → I2 70 11 = I 70 11 → I2 70 0 = sp_ldt (sp_led (sp_bits V (st_eo T)) p1 (st_ne T) 0 0) → Q (some (.int (sp_ldv (sp_led (sp_bits V (st_eo T)) p1 (st_ne T) 0 0)))) (85, I2, J, R)) : ∀ (k e n : Nat) (I1 : Nat → Nat → Int32), e + k = st_ne T → n ≤ e → sp_led (sp_bits V (st_eo T)) p1 k e n = sp_led (sp_bits V (st_eo T)) p1 (st_ne T) 0 0 → sp_fr sp_mS sp_mE I I1 → I1 70 11 = I 70 11 → sp_Mh I1 V → ow_AW ow_Y0 (ow_Z Q) M_Mo_led (d + 12) 0 0 15 [(0, .ref 70), (1, .int p1), (2, .int (nI n)), (3, .int (nI e))] [] (85, I1, J, R) 0 0 := by
  have hne := hT.2.2.2.2.2.1
  have hm := sp_bits_lt (eo := st_eo T) hV.1 (st_eok hT)
  intro k
  induction k with
  | zero =>
    intro e n I1 hek hn hs f1 v1 hh
    have h1 := sp_MN_k hM f1
    apply t_Mo_led_15 hR
    rw [h1.1, h1.2.1.2.2.2.1]
    refine ⟨fun c => absurd c (by decide), fun _ => ⟨fun _ I3 e3 => ?_, fun c => absurd ((nI_leI (by omega) (by omega)).mpr (by omega)) c⟩⟩
    have hz : sp_led (sp_bits V (st_eo T)) p1 (st_ne T) 0 0 = none := by rw [← hs]; rfl
    rw [hz] at hQ
    exact hQ I3 (sp_fr_tr f1 (sp_fr_ue e3 (by decide))) (by rw [e3, ow_u_nk (by decide)]; exact v1) (by rw [e3, ow_u_at]; rfl)
  | succ k ih =>
    intro e n I1 hek hn hs f1 v1 hh
    have h1 := sp_MN_k hM f1
    rw [sp_led] at hs
    apply t_Mo_led_15 hR
    rw [h1.1, h1.2.1.2.2.2.1]
    refine ⟨fun c => absurd c (by decide), fun _ => ⟨fun c => absurd ((nI_leI (by omega) (by omega)).mp c) (by omega), fun _ => ?_⟩⟩
    refine c_Mo_servedOn hR (by decide) (sp_Mr_of h1.2.2 hh) (sp_MN_T h1 hT hV) hV.1 ?_
    intro I2 k0
    refine ⟨_, I2, J, R, rfl, rfl, hR, ?_⟩
    have f2 : sp_fr sp_mS sp_mE I I2 := sp_fr_tr f1 (sp_mg k0)
    have v2 : I2 70 11 = I 70 11 := by rw [k0 70 (by decide) 11 (by decide)]; exact v1
    have hh2 : sp_Mh I2 V := sp_Mh_k hh (sp_fr_row k0 (by decide) (by simp))
    refine c_Mo_hasBit (m := sp_bits V (st_eo T)) (f := e) hR (by omega) (by omega) ⟨_, I2, J, R, rfl, rfl, hR, ?_⟩
    rw [nI_1, nI_1]
    cases hb : (sp_bits V (st_eo T)).testBit e with
    | true =>
      rw [hb, if_pos rfl] at hs
      exact ⟨fun c => absurd c (by decide), fun _ => ih (e + 1) n I2 (by omega) (by omega) hs f2 v2 hh2⟩
    | false =>
      rw [hb, if_neg (by decide)] at hs
      refine ⟨fun _ => ⟨fun c => ?_, fun c I6 e6 => ?_⟩, fun c => absurd rfl c⟩
      · rw [if_neg c] at hs
        exact ih (e + 1) (n + 1) I2 (by omega) (by omega) hs f2 v2 hh2
      · rw [if_pos c] at hs
        rw [← hs] at hQ
        exact hQ I6 (sp_fr_tr f2 (sp_fr_ue e6 (by decide))) (by rw [e6, ow_u_nk (by decide)]; exact v2) (by rw [e6, ow_u_at]; rfl)
theorem c_Mo_led {p1 : Int32} (hR : ow_RF R) (hM : sp_MN I T V) (hT : st_ok T) (hV : st_now T V) (hQ : ∀ I2 : Nat → Nat → Int32, sp_fr sp_mS sp_mE I I2 → I2 70 11 = I 70 11 → I2 70 0 = sp_ldt (sp_led (sp_bits V (st_eo T)) p1 (st_ne T) 0 0) → Q (some (.int (sp_ldv (sp_led (sp_bits V (st_eo T)) p1 (st_ne T) 0 0)))) (85, I2, J, R)) : ow_AM M_Mo_led (d + 12) [.ref 70, .int p1] (85, I, J, R) Q := by
  apply t_Mo_led hR
  refine ⟨fun c => absurd c (by rw [hM.1]; decide), fun _ => ?_⟩
  refine c_Mo_asToldShapes hR (sp_MN_n hM hV) (st_n6 hV) (sp_MN_q hM hV) ?_
  intro I2 g2 g3
  refine ⟨I2, J, R, rfl, rfl, hR, ?_⟩
  exact c_Mo_led15 hR hM hT hV hQ (st_ne T) 0 0 I2 (by omega) (Nat.le_refl _) rfl (sp_mh g2) (by rw [g2 70 (by decide)]) g3
theorem c_Mo_led0 {p1 : Int32} (hR : ow_RF R) (h1 : I 70 14 = 0) (hQ : ∀ I2 : Nat → Nat → Int32, I2 = ow_u I 70 0 1 → Q (some (.int 0)) (85, I2, J, R)) : ow_AM M_Mo_led (d + 12) [.ref 70, .int p1] (85, I, J, R) Q := by
  apply t_Mo_led hR
  refine ⟨fun _ => ?_, fun c => absurd h1 c⟩
  apply t_Mo_led_15 hR
  exact ⟨fun _ I2 e2 => hQ I2 e2, fun c => absurd h1 c⟩
theorem c_Mo_thrown (hR : ow_RF R) (hQ : Q (some (.int (I 70 0))) (85, I, J, R)) : ow_AM M_Mo_thrown (d + 12) [.ref 70] (85, I, J, R) Q := t_Mo_thrown hR hQ
end LED
