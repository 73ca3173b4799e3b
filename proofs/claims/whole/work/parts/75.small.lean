/-! Own rows: fault, where, trouble, size, shire, on both sides together. -/
section SMALL
theorem sp_W_2 {I I2 I3 : Nat → Nat → Int32} {tr : Int32} (hW : sp_W I) (f2 : sp_fr sp_cS sp_cE I I2) (v2 : I2 0 15 = tr) (f3 : sp_fr sp_mS sp_mE I2 I3) (v3 : I3 70 11 = tr) (h4 : tr ≠ 4) : sp_W I3 := by
  obtain ⟨⟨t, B, hG⟩, hT, hS⟩ := hW
  refine ⟨⟨t, B, sp_Gl_o (sp_Gl_a hG (sp_ca f2)) (sp_mo f3)⟩, sp_Tr_2 hT (sp_ca f2) v2 (sp_mo f3) v3 h4, ?_⟩
  rcases hS with ⟨T, V, h, H, g, G, x1, x2, x3, x4, x5, x6⟩ | ⟨x1, x2⟩
  · exact Or.inl ⟨T, V, h, H, g, G, x1, x2, x3, x4, sp_CX_r (sp_CX_k x5 f2) (sp_oS_lo (sp_mo f3)), sp_MX_k (sp_MX_r x6 (sp_aS_hi (sp_ca f2))) f3⟩
  · exact Or.inr ⟨sp_C0_r (sp_C0_k x1 f2) (sp_oS_lo (sp_mo f3)), sp_M0_k (sp_M0_r x2 (sp_aS_hi (sp_ca f2))) f3⟩
/-- the reference's own cells change, TROUBLE aside -/
theorem sp_W_m {I I2 : Nat → Nat → Int32} (hW : sp_W I) (f2 : sp_fr sp_mS sp_mE I I2) (v2 : I2 70 11 = I 70 11) : sp_W I2 := by
  obtain ⟨⟨t, B, hG⟩, ⟨y1, y2, y3, y4, y5⟩, hS⟩ := hW
  have lo := sp_oS_lo (sp_mo f2)
  refine ⟨⟨t, B, sp_Gl_o hG (sp_mo f2)⟩, ⟨?_, ?_, ?_, ?_, ?_⟩, ?_⟩
  · rw [lo 0 (by decide), v2]; exact y1
  · rw [lo 0 (by decide), f2 70 (by decide) 9 (by decide)]; exact y2
  · rw [lo 0 (by decide), f2 70 (by decide) 10 (by decide)]; exact y3
  · rw [lo 66 (by decide)]; exact y4
  · rw [lo 68 (by decide)]; exact y5
  rcases hS with ⟨T, V, h, H, g, G, x1, x2, x3, x4, x5, x6⟩ | ⟨x1, x2⟩
  · exact Or.inl ⟨T, V, h, H, g, G, x1, x2, x3, x4, sp_CX_r x5 lo, sp_MX_k x6 f2⟩
  · exact Or.inr ⟨sp_C0_r x1 lo, sp_M0_k x2 f2⟩
theorem sp_W_t {I I2 : Nat → Nat → Int32} {v : Int32} (hW : sp_W I) (e2 : I2 = ow_u I 70 0 v) : sp_W I2 := sp_W_m hW (sp_fr_ue e2 (by decide)) (by rw [e2, ow_u_nk (by decide)])
theorem p_fault : sp_U Value.int M_Fs_fault M_Mo_fault [] := by
  intro d I J R Q hR hW hQ
  apply t_Fs_fault hR
  refine hQ _ I J R hR ?_
  intro Q2 hQ2
  apply t_Mo_fault hR
  intro I2 e2
  rw [show I2 70 9 = I 0 16 from by rw [e2, ow_u_nk (by decide)]; exact hW.2.1.2.1.symm]
  exact hQ2 I2 J R hR (sp_W_t hW e2)
theorem p_trouble : sp_U Value.int M_Fs_trouble M_Mo_trouble [] := by
  intro d I J R Q hR hW hQ
  apply t_Fs_trouble hR
  refine hQ _ I J R hR ?_
  intro Q2 hQ2
  apply t_Mo_trouble hR
  intro I2 e2
  rw [show I2 70 11 = I 0 15 from by rw [e2, ow_u_nk (by decide)]; exact hW.2.1.1.symm]
  exact hQ2 I2 J R hR (sp_W_t hW e2)
theorem p_where : sp_U Value.int M_Fs_where M_Mo_where [] := by
  intro d I J R Q hR hW hQ
  apply t_Fs_where hR
  refine ⟨fun c => ?_, fun c => ?_⟩
  · refine hQ _ I J R hR ?_
    intro Q2 hQ2
    apply t_Mo_where hR
    intro I2 e2
    rw [show I2 70 11 = I 0 15 from by rw [e2, ow_u_nk (by decide)]; exact hW.2.1.1.symm]
    exact ⟨fun _ => hQ2 I2 J R hR (sp_W_t hW e2), fun c2 => absurd c2 c⟩
  · refine hQ _ I J R hR ?_
    intro Q2 hQ2
    apply t_Mo_where hR
    intro I2 e2
    rw [show I2 70 11 = I 0 15 from by rw [e2, ow_u_nk (by decide)]; exact hW.2.1.1.symm, show I2 70 10 = I 0 17 from by rw [e2, ow_u_nk (by decide)]; exact (hW.2.1.2.2.1 c).symm]
    exact ⟨fun c2 => absurd c c2, fun _ => hQ2 I2 J R hR (sp_W_t hW e2)⟩
theorem c_Mo_senders {d : Nat} {I : Nat → Nat → Int32} {J : Nat → Nat → Int64} {R : Nat → Nat → Option Nat} {Q : Option Value → ow_H → Prop} {V : sp_V} (hR : ow_RF R) (hn : I 73 2 = nI (sp_n V)) (hM : sp_Mw I 77 V) (hV : sp_ok V) (hQ : Q (some (.int (nI (sp_cs V (sp_n V))))) (85, I, J, R)) : ow_AM M_Mo_senders (d + 1) [.ref 70] (85, I, J, R) Q := by
  have hn6 := hV.1
  apply t_Mo_senders hR
  refine sp_up (σ := Unit) (N := sp_n V) (G := fun i _ => ow_AW ow_Y0 (ow_Z Q) M_Mo_senders (d + 1) 0 0 4 [(0, .ref 70), (1, .int (nI (sp_cs V i))), (2, .int (nI i))] [] (85, I, J, R) 0 0) (Inv := fun _ _ => True) ?_ ?_ 0 () (Nat.zero_le _) trivial
  · intro _ _
    apply t_Mo_senders_4 hR
    rw [hn]
    exact ⟨fun _ => hQ, fun c => absurd (Int32.le_refl _) c⟩
  · intro i _ hi _ ih
    have K := ih () trivial
    rw [sp_cs] at K
    have b3 := (hV.2.2.2 i hi).2.2
    apply t_Mo_senders_4 hR
    rw [hn, show (6 : Int32) + nI i = nI (6 + i) from nI_add 6 i, sp_cl (by omega), (hM.1 i hi).2, nI_1, nI_1, Int32.add_zero]
    refine ⟨fun c => absurd c (nI_ge hi (by omega)), fun _ => ⟨vp_in_nI (by omega) (by decide), fun c => ?_, fun c => ?_⟩⟩
    · by_cases h : sp_to V i = 0
      · rw [if_pos h] at K; exact K
      · exact absurd c (nI_ge (a := 0) (b := sp_to V i) (by omega) (by omega))
    · by_cases h : sp_to V i = 0
      · rw [h] at c; exact absurd (by decide) c
      · rw [if_neg h] at K; exact K
/-- the reference's size, no shire told -/
theorem z_size {d : Nat} {I : Nat → Nat → Int32} {J : Nat → Nat → Int64} {R : Nat → Nat → Option Nat} {Q : Option Value → ow_H → Prop} {k : Nat} (hR : ow_RF R) (h1 : I 70 14 = 0) (hk : k ≤ 10) (hQ : ∀ I2 : Nat → Nat → Int32, I2 = ow_u I 70 0 0 → Q (some (.int 0)) (85, I2, J, R)) : ow_AM M_Mo_size (d + 12) [.ref 70, .int (nI k)] (85, I, J, R) Q := by
  apply t_Mo_size hR
  intro I5 e5
  refine ⟨fun _ => ⟨fun c => absurd (by rw [e5, ow_u_nk (by decide)]; exact h1) c, fun _ => ?_⟩, fun c => absurd c (fun c2 => by have := (nI_eq (b := 11) (by omega) (by decide)).mp c2; omega)⟩
  refine c_Mo_inG (a := 0) (b := 10) hR (by decide) (by decide) ⟨_, I5, J, R, rfl, rfl, hR, ?_⟩
  rw [sp_bt_of (Nat.zero_le _) hk (by decide)]
  exact ⟨fun c => absurd c (by decide), fun _ => hQ I5 e5⟩
def sp_szv (T : sp_T) (V : sp_V) (h g : Nat) : Nat → Int32
  | 0 => nI (st_wd T)
  | 1 => nI (st_rt T)
  | 2 => nI (st_n T)
  | 3 => nI (sp_cs V (sp_n V))
  | 4 => nI (sp_pc (sp_h V))
  | 5 => nI (st_ne T)
  | 6 => nI (st_nv T)
  | 7 => nI (st_ns T)
  | 8 => nI (sp_y V)
  | 9 => nI h
  | 10 => nI g
  | _ => -1
theorem c_Mo_sizeS {d : Nat} {I : Nat → Nat → Int32} {J : Nat → Nat → Int64} {R : Nat → Nat → Option Nat} {Q : Option Value → ow_H → Prop} {T : sp_T} {V : sp_V} {h g k : Nat} {H G : Nat → sp_V} (hR : ow_RF R) (x : sp_MX I T V h H g G) (hV : st_now T V) (hk : k ≤ 10) (hQ : ∀ I2 : Nat → Nat → Int32, I2 = ow_u I 70 0 0 → Q (some (.int (sp_szv T V h g k))) (85, I2, J, R)) : ow_AM M_Mo_size (d + 12) [.ref 70, .int (nI k)] (85, I, J, R) Q := by
  apply t_Mo_size hR
  intro I5 e5
  have r5 : ∀ a, a ≠ 70 → I5 a = I a := fun a h => by rw [e5, ow_u_ne h]
  have q5 : ∀ j, j ≠ 0 → I5 70 j = I 70 j := fun j h => by rw [e5, ow_u_nk h]
  have K := hQ I5 e5
  obtain ⟨⟨x1, ⟨y1, y2, y3, y4, y5, y6, yr⟩, x3⟩, x4, x5, x6, x7, x8, x9⟩ := x
  have hn : I5 73 2 = nI (sp_n V) := by rw [r5 73 (by decide), hV.2.1]; exact y3
  refine ⟨fun _ => ⟨fun _ => ?_, fun c => absurd c (by rw [q5 14 (by decide), x1]; decide)⟩, fun c => absurd c (fun c2 => by have := (nI_eq (b := 11) (by omega) (by decide)).mp c2; omega)⟩
  have kk : k = 0 ∨ k = 1 ∨ k = 2 ∨ k = 3 ∨ k = 4 ∨ k = 5 ∨ k = 6 ∨ k = 7 ∨ k = 8 ∨ k = 9 ∨ k = 10 := by omega
  have W : ∀ (j : Nat) (P : Prop), j ≤ 10 → (k = j → P) → (nI k = nI j → P) := fun j P hj hP c => hP ((nI_eq (by omega) (by omega)).mp c)
  refine ⟨W 0 _ (by decide) ?_, W 1 _ (by decide) ?_, W 2 _ (by decide) ?_, W 3 _ (by decide) ?_, W 4 _ (by decide) ?_, W 5 _ (by decide) ?_, W 6 _ (by decide) ?_, W 7 _ (by decide) ?_, W 8 _ (by decide) ?_, W 9 _ (by decide) ?_, W 10 _ (by decide) ?_, ?_⟩
  · intro c
    rw [c] at K ⊢
    rw [sp_cl (by decide), r5 73 (by decide), y1]
    exact ⟨vp_in_nI (by decide) (by decide), K⟩
  · intro c
    rw [c] at K ⊢
    rw [sp_cl (by decide), r5 73 (by decide), y2]
    exact ⟨vp_in_nI (by decide) (by decide), K⟩
  · intro c
    rw [c] at K ⊢
    rw [sp_cl (by decide), r5 73 (by decide), y3]
    exact ⟨vp_in_nI (by decide) (by decide), K⟩
  · intro c
    rw [c] at K
    exact c_Mo_senders hR hn (sp_Mw_k x3 (r5 77 (by decide))) hV.1 ⟨_, I5, J, R, rfl, rfl, hR, K⟩
  · intro c
    rw [c] at K
    rw [r5 77 (by decide), x3.2.1]
    exact c_Mo_ones hR hV.1.2.2.1 ⟨_, I5, J, R, rfl, rfl, hR, K⟩
  · intro c
    rw [c] at K ⊢
    rw [show nI 5 - 2 = nI 3 from rfl, sp_cl (by decide), r5 73 (by decide), y4]
    exact ⟨vp_in_nI (by decide) (by decide), K⟩
  · intro c
    rw [c] at K ⊢
    rw [show nI 6 - 2 = nI 4 from rfl, sp_cl (by decide), r5 73 (by decide), y5]
    exact ⟨vp_in_nI (by decide) (by decide), K⟩
  · intro c
    rw [c] at K ⊢
    rw [show nI 7 - 2 = nI 5 from rfl, sp_cl (by decide), r5 73 (by decide), y6]
    exact ⟨vp_in_nI (by decide) (by decide), K⟩
  · intro c
    rw [c] at K
    rw [r5 77 (by decide), x3.2.2]
    exact K
  · intro c
    rw [c] at K
    rw [q5 22 (by decide), x4]
    exact K
  · intro c
    rw [c] at K
    rw [q5 23 (by decide), x7]
    exact K
  · intro c
    rcases kk with c2 | c2 | c2 | c2 | c2 | c2 | c2 | c2 | c2 | c2 | c2
    all_goals
      rw [c2] at c
      exact absurd c (by decide)
theorem p_size {x : Int32} : sp_U Value.int M_Fs_size M_Mo_size [.int x] := by
  intro d I J R Q hR hW hQ
  apply t_Fs_size hR
  have E : x = 11 → Q (some (.int (I 0 1))) (85, I, J, R) := by
    intro c
    refine hQ _ I J R hR ?_
    intro Q2 hQ2
    apply t_Mo_size hR
    intro I5 e5
    obtain ⟨⟨t, B, hG⟩, _⟩ := id hW
    refine ⟨fun c2 => absurd c c2, fun _ => ?_⟩
    rw [show I5 70 2 = I 0 1 from by rw [e5, ow_u_nk (by decide), hG.2.2.1, hG.2.2.2.1]]
    exact hQ2 I5 J R hR (sp_W_t hW e5)
  have F : (¬ x = 0 ∧ ¬ x = 1 ∧ ¬ x = 2 ∧ ¬ x = 3 ∧ ¬ x = 4 ∧ ¬ x = 5 ∧ ¬ x = 6 ∧ ¬ x = 7 ∧ ¬ x = 8 ∧ ¬ x = 9 ∧ ¬ x = 10 ∧ ¬ x = 11) → Q (some (.int (-1))) (85, I, J, R) := by
    intro ⟨c0, c1, c2, c3, c4, c5, c6, c7, c8, c9, c10, c11⟩
    refine hQ _ I J R hR ?_
    intro Q2 hQ2
    apply t_Mo_size hR
    intro I5 e5
    have K := hQ2 I5 J R hR (sp_W_t hW e5)
    refine ⟨fun _ => ⟨fun _ => ⟨fun c => absurd c c0, fun c => absurd c c1, fun c => absurd c c2, fun c => absurd c c3, fun c => absurd c c4, fun c => absurd c c5, fun c => absurd c c6, fun c => absurd c c7, fun c => absurd c c8, fun c => absurd c c9, fun c => absurd c c10, fun _ => K⟩, fun _ => ?_⟩, fun c => absurd c c11⟩
    refine c_Mo_inG (a := 0) (b := 10) hR (by decide) (by decide) ⟨_, I5, J, R, rfl, rfl, hR, ?_⟩
    cases hb : sp_bt x 0 10 with
    | false => exact ⟨fun _ => K, fun c => absurd rfl c⟩
    | true =>
      obtain ⟨n, _, hn, hx⟩ := sp_bt_nI hb
      exfalso
      have kk : n = 0 ∨ n = 1 ∨ n = 2 ∨ n = 3 ∨ n = 4 ∨ n = 5 ∨ n = 6 ∨ n = 7 ∨ n = 8 ∨ n = 9 ∨ n = 10 := by omega
      rcases kk with c | c | c | c | c | c | c | c | c | c | c
      all_goals rw [c] at hx
      · exact c0 hx
      · exact c1 hx
      · exact c2 hx
      · exact c3 hx
      · exact c4 hx
      · exact c5 hx
      · exact c6 hx
      · exact c7 hx
      · exact c8 hx
      · exact c9 hx
      · exact c10 hx
  rcases hW.2.2 with ⟨T, V, h, H, g, G, x1, x2, x3, x4, x5, x6⟩ | ⟨x1, x2⟩
  · have N : ∀ (k : Nat) (v : Int32), k ≤ 10 → x = nI k → v = sp_szv T V h g k → Q (some (.int v)) (85, I, J, R) := by
      intro k v hk hx hv
      refine hQ v I J R hR ?_
      intro Q2 hQ2
      rw [hx]
      rw [hv] at hQ2
      exact c_Mo_sizeS hR x6 x2 hk (fun I2 e2 => hQ2 I2 J R hR (sp_W_t hW e2))
    obtain ⟨⟨y0, ⟨y1, y2, y3, y4, y5, yr⟩, y6⟩, y7, z1, z2, z3, z4, z5, z6, z7⟩ := x5
    refine ⟨fun c => N 0 _ (by decide) c y1, fun c => N 1 _ (by decide) c y2, fun c => N 2 _ (by decide) c (by rw [y6.1, x2.2.1]; rfl), fun c => ?_, fun c => ?_, fun c => N 5 _ (by decide) c y3, fun c => N 6 _ (by decide) c y4, fun c => N 7 _ (by decide) c y5, fun c => N 8 _ (by decide) c y6.2.1, fun c => N 9 _ (by decide) c z2, fun c => N 10 _ (by decide) c z6, E, F⟩
    · exact c_Scene_countSending hR (by decide) y6 x2.1 ⟨_, I, J, R, rfl, rfl, hR, N 3 _ (by decide) c rfl⟩
    · rw [y6.2.2.1]
      exact c_bitCount hR x2.1.2.2.1 ⟨_, I, J, R, rfl, rfl, hR, N 4 _ (by decide) c rfl⟩
  · have N : ∀ (k : Nat) (v : Int32), k ≤ 10 → x = nI k → v = 0 → Q (some (.int v)) (85, I, J, R) := by
      intro k v hk hx hv
      refine hQ v I J R hR ?_
      intro Q2 hQ2
      rw [hx]
      rw [hv] at hQ2
      exact z_size hR x2.1 hk (fun I2 e2 => hQ2 I2 J R hR (sp_W_t hW e2))
    obtain ⟨y0, ⟨y1, y2, y3, y4, y5⟩, y6, z2, z6⟩ := x1
    have o0 : sp_ok sp_V0 := ⟨Nat.zero_le _, by decide, by decide, fun f hf => absurd hf (Nat.not_lt_zero _)⟩
    refine ⟨fun c => N 0 _ (by decide) c y1, fun c => N 1 _ (by decide) c y2, fun c => N 2 _ (by decide) c y6.1, fun c => ?_, fun c => ?_, fun c => N 5 _ (by decide) c y3, fun c => N 6 _ (by decide) c y4, fun c => N 7 _ (by decide) c y5, fun c => N 8 _ (by decide) c y6.2.1, fun c => N 9 _ (by decide) c z2, fun c => N 10 _ (by decide) c z6, E, F⟩
    · exact c_Scene_countSending hR (by decide) y6 o0 ⟨_, I, J, R, rfl, rfl, hR, N 3 _ (by decide) c rfl⟩
    · rw [y6.2.2.1]
      exact c_bitCount hR (by decide) ⟨_, I, J, R, rfl, rfl, hR, N 4 _ (by decide) c rfl⟩
end SMALL
