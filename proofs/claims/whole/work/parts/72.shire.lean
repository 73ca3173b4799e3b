/-! Own rows, by program: shire, on both sides. -/
def sp_hS : List Nat := [72, 73, 74, 75, 76, 77]
def sp_hE : List (Nat × Nat) := [(70, 4), (70, 5), (70, 6), (70, 7), (70, 8), (70, 9), (70, 10), (70, 13), (70, 3), (70, 11), (70, 14), (70, 22), (70, 23)]
theorem sp_fh {I I2 : Nat → Nat → Int32} (h : sp_fr sp_fS sp_fE I I2) : sp_fr sp_hS sp_hE I I2 := sp_fr_mono h (by decide) (by decide)
def pr_tl (X : sp_Tx) (k : Nat) (D : sp_D) (p : Nat) : sp_E sp_D := if tk_k X p = 0 then (if 0 < st_n (dd_T D) then .inr D else er X 6 p) else if tk_k X p = 3 then pr_go X k D (tk_n X p) else er X 1 p
theorem st_dk {E : sp_D} (hk : dk E) (hn : 0 < st_n (dd_T E)) : st_ok (dd_T E) := by
  obtain ⟨k1, k2, k3, k4, k5, k6, k7, k8, k9, k10, k11, k12, k13, k14, k15, k16⟩ := hk
  exact ⟨⟨k1, by show sp_y (dd_T E).1 < 2000; omega, k7, k11⟩, hn, k8, k9, k10, k2, k12, k3, k13, k14, k4, k15⟩
section MSH
variable {d : Nat} {I : Nat → Nat → Int32} {J : Nat → Nat → Int64} {R : Nat → Nat → Option Nat} {Q : Option Value → ow_H → Prop} {X : sp_Tx}
/-- a fault's end, a good end of the reference's shire -/
def shF (Q : Option Value → ow_H → Prop) (I : Nat → Nat → Int32) (J : Nat → Nat → Int64) (R : Nat → Nat → Option Nat) (q : Nat × Nat) : Prop := ∀ I2 : Nat → Nat → Int32, sp_fr sp_hS sp_hE I I2 → I2 70 9 = nI q.1 → I2 70 10 = nI q.2 → I2 70 11 = 4 → (I2 73 = I 73 ∧ I2 75 = I 75 ∧ I2 77 = I 77 ∧ I2 70 14 = I 70 14 ∧ I2 70 22 = I 70 22 ∧ I2 70 23 = I 70 23) → Q (some (.int (-1))) (85, I2, J, R)
def shO (Q : Option Value → ow_H → Prop) (I : Nat → Nat → Int32) (J : Nat → Nat → Int64) (R : Nat → Nat → Option Nat) (E : sp_D) : Prop := ∀ I2 : Nat → Nat → Int32, sp_fr sp_hS sp_hE I I2 → sp_mt I2 (dd_T E) → sp_Mw I2 77 (dd_T E).1 → I2 70 14 = 1 → I2 70 22 = 0 → I2 70 23 = 0 → I2 70 11 = I 70 11 → I2 70 9 = 0 → Q (some (.int (nI (st_n (dd_T E))))) (85, I2, J, R)
theorem c_sh184_d {q : Nat × Nat} {I1 : Nat → Nat → Int32} (hR : ow_RF R) (hF : shF Q I J R q) (f1 : sp_fr sp_fS (sp_fE ++ [(70, 3)]) I I1) (h1 : md q I1) : ow_AW ow_Y0 (ow_Z Q) M_Mo_shire (d + 12) 0 0 184 [(0, .ref 70)] [] (85, I1, J, R) 0 0 := by
  apply t_Mo_shire_184 hR
  rw [h1.1]
  refine ⟨fun c => absurd c (by decide), fun _ => ?_⟩
  refine c_Mo_no hR ?_
  intro I2 f2 v2
  refine ⟨_, I2, J, R, rfl, rfl, hR, ?_⟩
  have f3 : sp_fr sp_hS sp_hE I I2 := sp_fr_tr (sp_fr_mono f1 (by decide) (by decide)) (sp_fr_mono f2 (by decide) (by decide))
  refine hF I2 f3 (by rw [f2 70 (by decide) 9 (by decide)]; exact h1.2.1) (by rw [f2 70 (by decide) 10 (by decide)]; exact h1.2.2) v2 ⟨?_, ?_, ?_, ?_, ?_, ?_⟩
  · rw [sp_fr_row f2 (by decide) (by simp), sp_fr_row f1 (by decide) (by simp [sp_fE])]
  · rw [sp_fr_row f2 (by decide) (by simp), sp_fr_row f1 (by decide) (by simp [sp_fE])]
  · rw [sp_fr_row f2 (by decide) (by simp), sp_fr_row f1 (by decide) (by simp [sp_fE])]
  · rw [f2 70 (by decide) 14 (by decide), f1 70 (by decide) 14 (by decide)]
  · rw [f2 70 (by decide) 22 (by decide), f1 70 (by decide) 22 (by decide)]
  · rw [f2 70 (by decide) 23 (by decide), f1 70 (by decide) 23 (by decide)]
theorem c_sh98_d {q : Nat × Nat} {I1 : Nat → Nat → Int32} (hR : ow_RF R) (hF : shF Q I J R q) (f1 : sp_fr sp_fS (sp_fE ++ [(70, 3)]) I I1) (h1 : md q I1) : ow_AW ow_Y0 (ow_Z Q) M_Mo_shire (d + 12) 0 0 98 [(0, .ref 70)] [] (85, I1, J, R) 0 0 := by
  apply t_Mo_shire_98 hR
  rw [h1.1]
  refine ⟨fun _ => ?_, fun c => absurd c (by decide)⟩
  apply t_Mo_shire_125 hR
  rw [h1.1]
  refine ⟨fun _ => ?_, fun c => absurd c (by decide)⟩
  apply t_Mo_shire_148 hR
  rw [h1.1]
  exact ⟨fun _ => c_sh184_d hR hF f1 h1, fun c => absurd c (by decide)⟩
theorem c_sh148_d {q : Nat × Nat} {I1 : Nat → Nat → Int32} (hR : ow_RF R) (hF : shF Q I J R q) (f1 : sp_fr sp_fS (sp_fE ++ [(70, 3)]) I I1) (h1 : md q I1) : ow_AW ow_Y0 (ow_Z Q) M_Mo_shire (d + 12) 0 0 148 [(0, .ref 70)] [] (85, I1, J, R) 0 0 := by
  apply t_Mo_shire_148 hR
  rw [h1.1]
  exact ⟨fun _ => c_sh184_d hR hF f1 h1, fun c => absurd c (by decide)⟩
theorem c_sh184 {E : sp_D} {I1 : Nat → Nat → Int32} (hR : ow_RF R) (hO : shO Q I J R E) (f1 : sp_fr sp_fS (sp_fE ++ [(70, 3)]) I I1) (h9 : I1 70 9 = 0) (hf : I1 70 13 = 0) (hD : dM I1 E) (hk : dk E) : ow_AW ow_Y0 (ow_Z Q) M_Mo_shire (d + 12) 0 0 184 [(0, .ref 70)] [] (85, I1, J, R) 0 0 := by
  obtain ⟨⟨a1, a2, a3, a4, a5, a6, a7⟩, b1, b2, b3, b4, b5, b6⟩ := hD.1
  obtain ⟨k1, k2, k3, k4, k5, k6, k7, k8, k9⟩ := hk
  apply t_Mo_shire_184 hR
  rw [hf]
  refine ⟨fun _ => ?_, fun c => absurd rfl c⟩
  refine c_Mo_copy (i := 0) (j := 0) (n := 146) hR (by decide) (by decide) (by decide) (by decide) (by decide) (by decide) (by decide) (by decide) (by decide) ?_
  intro I2 g2 x2
  refine ⟨I2, J, R, rfl, rfl, hR, ?_⟩
  refine c_Mo_copy (i := 0) (j := 0) (n := 14) hR (by decide) (by decide) (by decide) (by decide) (by decide) (by decide) (by decide) (by decide) (by decide) ?_
  intro I3 g3 x3
  refine ⟨I3, J, R, rfl, rfl, hR, ?_⟩
  refine c_Mo_copy (i := 0) (j := 0) (n := 14) hR (by decide) (by decide) (by decide) (by decide) (by decide) (by decide) (by decide) (by decide) (by decide) ?_
  intro I4 g4 x4
  refine ⟨I4, J, R, rfl, rfl, hR, ?_⟩
  intro I5 e5 I6 e6 I7 e7
  have r7 : ∀ a, a ≠ 70 → I7 a = I4 a := fun a h => by rw [e7, ow_u_ne h, e6, ow_u_ne h, e5, ow_u_ne h]
  have c74 : ∀ j, j < 146 → I7 73 j = I1 74 j := by
    intro j hj
    rw [r7 73 (by decide), g4 73 (by decide), g3 73 (by decide), x2 j, if_pos (by omega)]
    congr 1
    omega
  have c76 : ∀ j, j < 14 → I7 75 j = I1 76 j := by
    intro j hj
    rw [r7 75 (by decide), g4 75 (by decide), x3 j, if_pos (by omega), g2 76 (by decide)]
    congr 1
    omega
  have c78 : ∀ j, j < 14 → I7 77 j = I1 76 j := by
    intro j hj
    rw [r7 77 (by decide), x4 j, if_pos (by omega), g3 76 (by decide), g2 76 (by decide)]
    congr 1
    omega
  have q71 : ∀ k, k ≠ 14 → k ≠ 22 → k ≠ 23 → I7 70 k = I1 70 k := fun k h1 h2 h3 => by rw [e7, ow_u_nk h3, e6, ow_u_nk h2, e5, ow_u_nk h1, g4 70 (by decide), g3 70 (by decide), g2 70 (by decide)]
  have f7 : sp_fr sp_hS sp_hE I I7 := by
    refine sp_fr_tr (sp_fr_mono f1 (by decide) (by decide)) ?_
    refine sp_fr_tr (sp_fr_mono (E := []) (sp_frq g2) (by decide) (by decide)) ?_
    refine sp_fr_tr (sp_fr_mono (E := []) (sp_frq g3) (by decide) (by decide)) ?_
    refine sp_fr_tr (sp_fr_mono (E := []) (sp_frq g4) (by decide) (by decide)) ?_
    exact sp_fr_tr (sp_fr_tr (sp_fr_ue e5 (by decide)) (sp_fr_ue e6 (by decide))) (sp_fr_ue e7 (by decide))
  have mw : ∀ a, (∀ j, j < 14 → I7 a j = I1 76 j) → sp_Mw I7 a (dd_T E).1 := by
    intro a ha
    refine ⟨fun f hf => ?_, ?_, ?_⟩
    · have hf : f < st_n (dd_T E) := hf
      rw [ha f (by omega), ha (6 + f) (by omega)]
      exact ⟨(b1 f hf).2.2.1, (b1 f hf).2.2.2⟩
    · rw [ha 12 (by decide)]; exact b3.1
    · rw [ha 13 (by decide), k8]; exact b3.2
  rw [c74 2 (by decide), a3]
  refine hO I7 f7 ⟨?_, ?_, ?_, ?_, ?_, ?_, fun f hf => ?_, fun e he => ?_, fun k hk => ?_, fun k hk => ?_, mw 75 c76⟩ (mw 77 c78) ?_ ?_ ?_ ?_ ?_
  · rw [c74 0 (by decide)]; exact a1
  · rw [c74 1 (by decide)]; exact a2
  · rw [c74 2 (by decide)]; exact a3
  · rw [c74 3 (by decide)]; exact a4
  · rw [c74 4 (by decide)]; exact a5
  · rw [c74 5 (by decide)]; exact a6
  · rw [c74 _ (by omega), c74 _ (by omega)]; exact ⟨(b1 f hf).1, (b1 f hf).2.1⟩
  · rw [c74 _ (by omega), c74 _ (by omega)]; exact b4 e he
  · rw [c74 _ (by omega)]; exact b5 k hk
  · rw [c74 _ (by omega), c74 _ (by omega), c74 _ (by omega)]; exact b6 k hk
  · rw [e7, ow_u_nk (by decide), e6, ow_u_nk (by decide), e5, ow_u_at]
  · rw [e7, ow_u_nk (by decide), e6, ow_u_at]
  · rw [e7, ow_u_at]
  · rw [q71 11 (by decide) (by decide) (by decide), f1 70 (by decide) 11 (by decide)]
  · rw [q71 9 (by decide) (by decide) (by decide)]; exact h9
theorem sp_f3 {I I2 : Nat → Nat → Int32} (h : sp_fr sp_fS sp_fE I I2) : sp_fr sp_fS (sp_fE ++ [(70, 3)]) I I2 := sp_fr_mono h (by decide) (by decide)
theorem sp_f3t {I I2 : Nat → Nat → Int32} (h : sp_fr [72] tk_E I I2) : sp_fr sp_fS (sp_fE ++ [(70, 3)]) I I2 := sp_f3 (sp_fE2 (sp_fEt h))
theorem c_sh98 (hR : ow_RF R) (hX : tk_ok X) (hF : ∀ q, pr_go X 901 dd_0 0 = .inl q → shF Q I J R q) (hO : ∀ E, pr_go X 901 dd_0 0 = .inr E → dk E → 0 < st_n (dd_T E) → shO Q I J R E) : ∀ (k p : Nat) (D : sp_D) (I1 : Nat → Nat → Int32), p ≤ X.1 → dk D → dd_o D = true → (tk_k X p = 3 → X.1 < tk_n X p + k) → pr_tl X k D p = pr_go X 901 dd_0 0 → sp_fr sp_fS (sp_fE ++ [(70, 3)]) I I1 → I1 70 13 = 0 → tM I1 X p → dM I1 D → ow_AW ow_Y0 (ow_Z Q) M_Mo_shire (d + 12) 0 0 98 [(0, .ref 70)] [] (85, I1, J, R) 0 0 := by
  intro k
  induction k with
  | zero => ?_
  | succ k ih => ?_
  all_goals
    intro p D I1 hp hk ho hpk hg f1 hf hM hD
    have hk4 := tk_k4 (X := X) (p := p)
    have n6 := hk.1
    obtain ⟨⟨a1, a2, a3, a4, a5, a6, a7⟩, brest⟩ := hD.1
    apply t_Mo_shire_98 hR
    rw [hf, hM.2.2.2.1, tk_r3 hk4]
    unfold pr_tl at hg
    refine ⟨fun c => absurd rfl c, fun _ => ⟨fun c3 => ?_, fun c3 => ?_⟩⟩
    · apply t_Mo_shire_125 hR
      rw [hf, hM.2.2.2.1, tk_r0 hk4]
      refine ⟨fun c => absurd rfl c, fun _ => ⟨fun c0 => ?_, fun c0 => ?_⟩⟩
      · rw [if_pos c0] at hg
        apply t_Mo_shire_148 hR
        rw [hf, a7, a3, ho]
        refine ⟨fun c => absurd rfl c, fun _ => ⟨fun c => absurd c (by decide), fun _ => ⟨fun cn => ?_, fun cn => ?_⟩⟩⟩
        · have hpos : 0 < st_n (dd_T D) := by
            rcases Nat.eq_zero_or_pos (st_n (dd_T D)) with h | h
            · exact absurd (by rw [h]; rfl) cn
            · exact h
          rw [if_pos hpos] at hg
          exact c_sh184 hR (hO D hg.symm hk hpos) f1 hM.2.2.2.2.2.2.2.2 hf hD hk
        · have hz : st_n (dd_T D) = 0 := (sp_z (by omega)).mp cn
          rw [if_neg (by omega)] at hg
          apply t_Mo_shire_174 hR
          refine c_Mo_wrong (k := 6) hR hf hM ?_
          intro I2 f2 h2 _ _
          exact ⟨I2, J, R, rfl, rfl, hR, c_sh184_d hR (hF _ hg.symm) (sp_fr_tr f1 (sp_f3 (sp_fE2 f2))) h2⟩
      · rw [if_neg c0, if_neg c3] at hg
        refine c_Mo_wrong (k := 1) hR hf hM ?_
        intro I2 f2 h2 _ _
        exact ⟨I2, J, R, rfl, rfl, hR, c_sh148_d hR (hF _ hg.symm) (sp_fr_tr f1 (sp_f3 (sp_fE2 f2))) h2⟩
    · have hlt := hpk c3
      have hnle := tk_n_le hp
      first
        | (exfalso; omega)
        | (rw [if_neg (by omega), if_pos c3, pr_go] at hg
           refine c_nxt hR hX hp hM ?_
           intro I2 g2 hM2
           refine ⟨I2, J, R, rfl, rfl, hR, ?_⟩
           have l2 : I2 70 13 = 0 := by rw [g2 70 (by decide) 13 (by decide)]; exact hf
           have hD2 := dM_k hD hk (sp_fEt g2)
           refine c_Mo_readLine hR hX hnle l2 hM2 hD2 hk ?_ ?_
           · intro q hq I3 f3 h3
             rw [bd_l hq] at hg
             exact ⟨I3, J, R, rfl, rfl, hR, c_sh98_d hR (hF q hg.symm) (sp_fr_tr f1 (sp_fr_tr (sp_f3t g2) (sp_f3 f3))) h3⟩
           · intro q hq I3 f3 l3 hM3 hD3
             rw [bd_r hq] at hg
             obtain ⟨kq, oq, mq, lq⟩ := dk_rl hnle hk hq
             refine ⟨I3, J, R, rfl, rfl, hR, ?_⟩
             exact ih q.2 q.1 I3 lq kq oq (fun c => by have := tk_n_gt (X := X) (p := q.2) (by omega); omega) hg (sp_fr_tr f1 (sp_fr_tr (sp_f3t g2) (sp_f3 f3))) l3 hM3 hD3)
theorem c_Mo_shireG {t n : Nat} {B : Nat → Nat} (hR : ow_RF R) (ht9 : t ≤ 900) (hB : ∀ j, B j < 256) (hn : n ≤ t) (h2 : I 70 2 = nI t) (htx : ∀ j, j < t → I 71 j = nI (B j)) (hF : ∀ q I1, pr_go (n, B) 901 dd_0 0 = .inl q → sp_fr [74, 76] [(70, 0), (70, 11), (70, 2), (70, 9), (70, 13)] I I1 → I1 70 2 = 0 → I1 70 0 = 0 → shF Q I1 J R q) (hO : ∀ E I1, pr_go (n, B) 901 dd_0 0 = .inr E → dk E → 0 < st_n (dd_T E) → sp_fr [74, 76] [(70, 0), (70, 11), (70, 2), (70, 9), (70, 13)] I I1 → I1 70 2 = 0 → I1 70 0 = 0 → I1 70 11 = 0 → shO Q I1 J R E) : ow_AM M_Mo_shire (d + 12) [.ref 70, .int (nI n)] (85, I, J, R) Q := by
  have hX : tk_ok (n, B) := ⟨by show n ≤ 900; omega, hB⟩
  apply t_Mo_shire hR
  refine c_Mo_good hR ?_
  intro I1 g1 v0 v11
  refine ⟨I1, J, R, rfl, rfl, hR, ?_⟩
  have w2 : I1 70 2 = nI t := by rw [g1 70 (by decide) 2 (by decide)]; exact h2
  rw [w2]
  refine c_Mo_inG (a := 0) (b := t) hR (by decide) (by omega) ⟨_, I1, J, R, rfl, rfl, hR, ?_⟩
  rw [sp_bt_of (Nat.zero_le _) hn (by omega)]
  refine ⟨fun _ I2 e2 I3 e3 I4 e4 => ?_, fun c => absurd c (by decide)⟩
  have f4 : sp_fr [74, 76] [(70, 0), (70, 11), (70, 2), (70, 9), (70, 13)] I I4 := sp_fr_tr (sp_fr_tr (sp_fr_tr (sp_fr_mono g1 (by decide) (by decide)) (sp_fr_ue e2 (by simp))) (sp_fr_ue e3 (by simp))) (sp_fr_ue e4 (by simp))
  have c2 : I4 70 2 = 0 := by rw [e4, ow_u_nk (by decide), e3, ow_u_nk (by decide), e2, ow_u_at]
  have c9 : I4 70 9 = 0 := by rw [e4, ow_u_nk (by decide), e3, ow_u_at]
  have c13 : I4 70 13 = 0 := by rw [e4, ow_u_at]
  have c0 : I4 70 0 = 0 := by rw [e4, ow_u_nk (by decide), e3, ow_u_nk (by decide), e2, ow_u_nk (by decide)]; exact v0
  have c11 : I4 70 11 = 0 := by rw [e4, ow_u_nk (by decide), e3, ow_u_nk (by decide), e2, ow_u_nk (by decide)]; exact v11
  refine sp_up (N := 146) (G := fun i I5 => ow_AW ow_Y0 (ow_Z Q) M_Mo_shire (d + 12) 0 0 39 [(0, .ref 70), (1, .int (nI n)), (2, .int (nI i))] [] (85, I5, J, R) 0 0) (Inv := fun i I5 => sp_eq [74] I4 I5 ∧ ∀ j, j < i → I5 74 j = 0) ?_ ?_ 0 I4 (Nat.zero_le _) ⟨sp_eq_rf, fun j hj => absurd hj (Nat.not_lt_zero _)⟩
  · intro I5 ⟨x0, x1⟩
    apply t_Mo_shire_39 hR
    refine ⟨fun _ => ?_, fun c => absurd (by decide) c⟩
    refine sp_up (N := 14) (G := fun i I6 => ow_AW ow_Y0 (ow_Z Q) M_Mo_shire (d + 12) 0 0 61 [(0, .ref 70), (1, .int (nI n)), (2, .int (nI i))] [] (85, I6, J, R) 0 0) (Inv := fun i I6 => sp_eq [76] I5 I6 ∧ ∀ j, j < i → I6 76 j = 0) ?_ ?_ 0 I5 (Nat.zero_le _) ⟨sp_eq_rf, fun j hj => absurd hj (Nat.not_lt_zero _)⟩
    · intro I6 ⟨y0, y1⟩
      apply t_Mo_shire_61 hR
      refine ⟨fun _ I7 e7 I8 e8 => ?_, fun c => absurd (by decide) c⟩
      have s6 : ∀ a, a ≠ 74 → a ≠ 76 → I6 a = I4 a := fun a h1 h2 => by rw [y0 a (by simp [h2]), x0 a (by simp [h1])]
      have f6 : sp_fr [74, 76] [(70, 0), (70, 11), (70, 2), (70, 9), (70, 13)] I I6 := sp_fr_tr (sp_fr_tr f4 (sp_fr_mono (E := []) (sp_frq x0) (by decide) (by decide))) (sp_fr_mono (E := []) (sp_frq y0) (by decide) (by decide))
      have r8 : ∀ a, a ≠ 70 → I8 a = I6 a := fun a h => by rw [e8, ow_u_ne h, e7, ow_u_ne h]
      have tx : ∀ j, j < n → I8 71 j = nI (B j) := fun j hj => by rw [r8 71 (by decide), s6 71 (by decide) (by decide), sp_fr_row f4 (by decide) (by simp)]; exact htx j (by omega)
      have g8 : sp_fr sp_fS (sp_fE ++ [(70, 3)]) I6 I8 := sp_fr_tr (sp_fr_ue e7 (by decide)) (sp_fr_ue e8 (by decide))
      refine c_Mo_next (X := (n, B)) (p := 0) hR hX (Nat.zero_le _) (by rw [e8, ow_u_nk (by decide), e7, ow_u_at]) (by rw [e8, ow_u_at]; rfl) tx (by rw [e8, ow_u_nk (by decide), e7, ow_u_nk (by decide), s6 70 (by decide) (by decide)]; exact c9) ?_
      intro I9 g9 hM9
      refine ⟨I9, J, R, rfl, rfl, hR, ?_⟩
      have f9 : sp_fr sp_fS (sp_fE ++ [(70, 3)]) I6 I9 := sp_fr_tr g8 (sp_f3t g9)
      have l9 : I9 70 13 = 0 := by rw [g9 70 (by decide) 13 (by decide), e8, ow_u_nk (by decide), e7, ow_u_nk (by decide), s6 70 (by decide) (by decide)]; exact c13
      have z75 : ∀ j, j < 146 → I9 74 j = 0 := fun j hj => by rw [sp_fr_row g9 (by decide) (by simp [tk_E]), r8 74 (by decide), y0 74 (by decide)]; exact x1 j hj
      have z77 : ∀ j, j < 14 → I9 76 j = 0 := fun j hj => by rw [sp_fr_row g9 (by decide) (by simp [tk_E]), r8 76 (by decide)]; exact y1 j hj
      have hD9 : dM I9 dd_0 := ⟨⟨⟨z75 0 (by decide), z75 1 (by decide), z75 2 (by decide), z75 3 (by decide), z75 4 (by decide), z75 5 (by decide), z75 6 (by decide)⟩, fun f hf => absurd hf (Nat.not_lt_zero _), fun f _ hf => z77 _ (by omega), ⟨z77 12 (by decide), z77 13 (by decide)⟩, fun f hf => absurd hf (Nat.not_lt_zero _), fun f hf => absurd hf (Nat.not_lt_zero _), fun f hf => absurd hf (Nat.not_lt_zero _)⟩, fun i hi => ⟨z75 _ (by omega), Nat.zero_le _, fun k hk => absurd hk (Nat.not_lt_zero _)⟩⟩
      have d2 : I6 70 2 = 0 := by rw [s6 70 (by decide) (by decide)]; exact c2
      have d0 : I6 70 0 = 0 := by rw [s6 70 (by decide) (by decide)]; exact c0
      have d11 : I6 70 11 = 0 := by rw [s6 70 (by decide) (by decide)]; exact c11
      have hF6 : ∀ q, pr_go (n, B) 901 dd_0 0 = .inl q → shF Q I6 J R q := fun q hq => hF q I6 hq f6 d2 d0
      have hO6 : ∀ E, pr_go (n, B) 901 dd_0 0 = .inr E → dk E → 0 < st_n (dd_T E) → shO Q I6 J R E := fun E hE h1 h3 => hO E I6 hE h1 h3 f6 d2 d0 d11
      have hgo : pr_go (n, B) 901 dd_0 0 = bd (pr_rl (n, B) dd_0 0) (fun q => pr_tl (n, B) 900 q.1 q.2) := by
        rw [show (901 : Nat) = 900 + 1 from rfl, pr_go]
        rfl
      refine c_Mo_readLine (D := dd_0) hR hX (Nat.zero_le _) l9 hM9 hD9 dk_0 ?_ ?_
      · intro q hq I10 f10 h10
        refine ⟨I10, J, R, rfl, rfl, hR, c_sh98_d hR (hF6 q ?_) (sp_fr_tr f9 (sp_f3 f10)) h10⟩
        rw [hgo, bd_l hq]
      · intro q hq I10 f10 l10 hM10 hD10
        obtain ⟨kq, oq, mq, lq⟩ := dk_rl (X := (n, B)) (Nat.zero_le _) dk_0 hq
        refine ⟨I10, J, R, rfl, rfl, hR, ?_⟩
        refine c_sh98 (X := (n, B)) hR hX hF6 hO6 900 q.2 q.1 I10 lq kq oq (fun c => ?_) ?_ (sp_fr_tr f9 (sp_f3 f10)) l10 hM10 hD10
        · have := tk_n_gt (X := (n, B)) (p := q.2) (by omega)
          show n < _
          omega
        · rw [hgo, bd_r hq]
    · intro i I6 hi ⟨y0, y1⟩ ih
      apply t_Mo_shire_61 hR
      rw [sp_cl (by omega), nI_1]
      refine ⟨fun c => absurd c (nI_ge (b := 14) hi (by decide)), fun _ => ⟨vp_in_nI (by omega) (by decide), fun I7 e7 => ih I7 ⟨sp_eq_tr y0 (sp_eq_ue e7 (by simp)), fun j hj => ?_⟩⟩⟩
      rw [e7]
      by_cases hji : j = i
      · rw [hji, ow_u_at]
      · rw [ow_u_nk hji]; exact y1 j (by omega)
  · intro i I5 hi ⟨x0, x1⟩ ih
    apply t_Mo_shire_39 hR
    rw [sp_cl (by omega), nI_1]
    refine ⟨fun c => absurd c (nI_ge (b := 146) hi (by decide)), fun _ => ⟨vp_in_nI (by omega) (by decide), fun I7 e7 => ih I7 ⟨sp_eq_tr x0 (sp_eq_ue e7 (by simp)), fun j hj => ?_⟩⟩⟩
    rw [e7]
    by_cases hji : j = i
    · rw [hji, ow_u_at]
    · rw [ow_u_nk hji]; exact x1 j (by omega)
/-- the draft is taken -/
theorem c_Told_take {D : sp_D} (hR : ow_RF R) (hD : dC I J D) (hk : dk D) (hQ : ∀ I2 : Nat → Nat → Int32, sp_eq [2, 3, 4, 5, 6, 7, 8, 9, 10, 11, 12] I I2 → sp_ct I2 (dd_T D) → Q none (85, I2, J, R)) : ow_AM M_Told_take (d + 2) [.ref 2, .ref 14] (85, I, J, R) Q := by
  obtain ⟨⟨x1, x2, x3, x4, x5⟩, y2, y3, y4, y5, y6, yr⟩ := hD
  obtain ⟨k1, k2, k3, k4, kr⟩ := hk
  apply t_Told_take hR
  intro I1 e1 I2 e2
  have r2 : ∀ a, a ≠ 2 → I2 a = I a := fun a h => by rw [e2, ow_u_ne h, e1, ow_u_ne h]
  refine c_Scene_take (V := (dd_T D).1) hR (by decide) (by decide) (by decide) (sp_S_kr y2 (r2 15 (by decide)) (r2 16 (by decide)) (r2 17 (by decide)) (r2 18 (by decide))) k1 ?_
  intro I3 g3 s3
  refine ⟨I3, J, R, rfl, rfl, hR, ?_⟩
  intro I4 e4 I5 e5 I6 e6 I7 e7 I8 e8 I9 e9 I10 e10 I11 e11 I12 e12
  have rest : ∀ a, 13 ≤ a → I3 a = I a := fun a h => by rw [g3 a (by simp; omega), r2 a (by omega)]
  have q6 : ∀ a, a ≠ 2 → I6 a = I3 a := fun a h => by rw [e6, ow_u_ne h, e5, ow_u_ne h, e4, ow_u_ne h]
  have q12 : ∀ a, a ≠ 7 → a ≠ 8 → a ≠ 9 → a ≠ 10 → a ≠ 11 → a ≠ 12 → I12 a = I6 a := fun a h1 h2 h3 h4 h5 h6 => by rw [e12, sp_r_ne h6, e11, sp_r_ne h5, e10, sp_r_ne h4, e9, sp_r_ne h3, e8, sp_r_ne h2, e7, sp_r_ne h1]
  have v7 : ∀ j, j < 5 → I12 7 j = I 19 j := fun j hj => by
    rw [e12, sp_r_ne (by decide), e11, sp_r_ne (by decide), e10, sp_r_ne (by decide), e9, sp_r_ne (by decide), e8, sp_r_ne (by decide), e7, sp_r_at, pk_cpy_in (Nat.zero_le _) (by omega), q6 19 (by decide), rest 19 (by decide)]
    congr 1
    omega
  have v8 : ∀ j, j < 5 → I12 8 j = I 20 j := fun j hj => by
    rw [e12, sp_r_ne (by decide), e11, sp_r_ne (by decide), e10, sp_r_ne (by decide), e9, sp_r_ne (by decide), e8, sp_r_at, pk_cpy_in (Nat.zero_le _) (by omega), e7, sp_r_ne (by decide), q6 20 (by decide), rest 20 (by decide)]
    congr 1
    omega
  have v9 : ∀ j, j < 6 → I12 9 j = I 21 j := fun j hj => by
    rw [e12, sp_r_ne (by decide), e11, sp_r_ne (by decide), e10, sp_r_ne (by decide), e9, sp_r_at, pk_cpy_in (Nat.zero_le _) (by omega), e8, sp_r_ne (by decide), e7, sp_r_ne (by decide), q6 21 (by decide), rest 21 (by decide)]
    congr 1
    omega
  have v10 : ∀ j, j < 3 → I12 10 j = I 22 j := fun j hj => by
    rw [e12, sp_r_ne (by decide), e11, sp_r_ne (by decide), e10, sp_r_at, pk_cpy_in (Nat.zero_le _) (by omega), e9, sp_r_ne (by decide), e8, sp_r_ne (by decide), e7, sp_r_ne (by decide), q6 22 (by decide), rest 22 (by decide)]
    congr 1
    omega
  have v11 : ∀ j, j < 5 → I12 11 j = I 23 j := fun j hj => by
    rw [e12, sp_r_ne (by decide), e11, sp_r_at, pk_cpy_in (Nat.zero_le _) (by omega), e10, sp_r_ne (by decide), e9, sp_r_ne (by decide), e8, sp_r_ne (by decide), e7, sp_r_ne (by decide), q6 23 (by decide), rest 23 (by decide)]
    congr 1
    omega
  have v12 : ∀ j, j < 5 → I12 12 j = I 24 j := fun j hj => by
    rw [e12, sp_r_at, pk_cpy_in (Nat.zero_le _) (by omega), e11, sp_r_ne (by decide), e10, sp_r_ne (by decide), e9, sp_r_ne (by decide), e8, sp_r_ne (by decide), e7, sp_r_ne (by decide), q6 24 (by decide), rest 24 (by decide)]
    congr 1
    omega
  have t2 : ∀ k, I12 2 k = I6 2 k := fun k => by rw [q12 2 (by decide) (by decide) (by decide) (by decide) (by decide) (by decide)]
  have u3 : ∀ k, I3 2 k = I2 2 k := fun k => by rw [g3 2 (by decide)]
  have sc : ∀ a, 3 ≤ a → a ≤ 6 → I12 a = I3 a := fun a h1 h2 => by rw [q12 a (by omega) (by omega) (by omega) (by omega) (by omega) (by omega), q6 a (by omega)]
  refine hQ I12 (fun a ha => ?_) ⟨?_, ?_, ?_, ?_, ?_, sp_S_kr s3 (sc 3 (by decide) (by decide)) (sc 4 (by decide) (by decide)) (sc 5 (by decide) (by decide)) (sc 6 (by decide) (by decide)), fun e he => ?_, fun g hg => ?_, fun k hk => ?_, fun k hk => ?_⟩
  · simp only [List.mem_cons, List.not_mem_nil, or_false, not_or] at ha
    rw [q12 a (by omega) (by omega) (by omega) (by omega) (by omega) (by omega), q6 a (by omega), g3 a (by simp; omega), r2 a (by omega)]
  · rw [t2, e6, ow_u_nk (by decide), e5, ow_u_nk (by decide), e4, ow_u_nk (by decide), u3, e2, ow_u_nk (by decide), e1, ow_u_at]; exact x1
  · rw [t2, e6, ow_u_nk (by decide), e5, ow_u_nk (by decide), e4, ow_u_nk (by decide), u3, e2, ow_u_at, e1, ow_u_ne (by decide)]; exact x2
  · rw [t2, e6, ow_u_nk (by decide), e5, ow_u_nk (by decide), e4, ow_u_at, rest 14 (by decide)]; exact x3
  · rw [t2, e6, ow_u_nk (by decide), e5, ow_u_at, e4, ow_u_ne (by decide), rest 14 (by decide)]; exact x4
  · rw [t2, e6, ow_u_at, e5, ow_u_ne (by decide), e4, ow_u_ne (by decide), rest 14 (by decide)]; exact x5
  · rw [v7 e (by omega), v8 e (by omega)]; exact y3 e he
  · rw [v9 g (by have : st_n (dd_T D) ≤ 6 := k1; omega)]; exact y4 g (by have : st_n (dd_T D) ≤ 6 := k1; omega)
  · rw [v10 k (by omega)]; exact y5 k hk
  · rw [v11 k (by omega), v12 k (by omega)]; exact y6 k hk
def sp_jS : List Nat := [2, 3, 4, 5, 6, 7, 8, 9, 10, 11, 12, 13, 14, 15, 16, 17, 18, 19, 20, 21, 22, 23, 24, 25, 29, 30, 31, 32, 55, 56, 57, 58, 59, 60, 61]
def sp_jE : List (Nat × Nat) := [(0, 1), (0, 14), (0, 15), (0, 16), (0, 17), (54, 4), (66, 2), (68, 2)]
theorem c_Fs_shireG {t n : Nat} {B : Nat → Nat} (hR : ow_RF R) (ht9 : t ≤ 900) (hB : ∀ j, B j < 256) (hn : n ≤ t) (h1 : I 0 1 = nI t) (htx : ∀ j, j < t → I 1 j = sp_sb (B j)) (h67 : I 66 0 = 16) (h69 : I 68 0 = 3) (hF : ∀ q, pr_go (n, B) 901 dd_0 0 = .inl q → ∀ (I2 : Nat → Nat → Int32) (J2 : Nat → Nat → Int64) (R2 : Nat → Nat → Option Nat), ow_RF R2 → sp_fr sp_rS [(0, 1), (0, 15), (0, 16), (0, 17)] I I2 → I2 0 1 = 0 → I2 0 16 = nI q.1 → I2 0 17 = nI q.2 → I2 0 15 = 4 → Q (some (.int (-1))) (85, I2, J2, R2)) (hO : ∀ E, pr_go (n, B) 901 dd_0 0 = .inr E → dk E → 0 < st_n (dd_T E) → ∀ (I2 : Nat → Nat → Int32) (J2 : Nat → Nat → Int64) (R2 : Nat → Nat → Option Nat), ow_RF R2 → sp_fr sp_jS sp_jE I I2 → I2 0 1 = 0 → I2 0 16 = 0 → I2 0 15 = 0 → (∀ H G, sp_CX I2 (dd_T E) (dd_T E).1 0 H 0 G) → Q (some (.int (nI (st_n (dd_T E))))) (85, I2, J2, R2)) : ow_AM M_Fs_shire (d + 12) [.ref 0, .int (nI n)] (85, I, J, R) Q := by
  have hX : tk_ok (n, B) := ⟨by show n ≤ 900; omega, hB⟩
  apply t_Fs_shire hR
  rw [h1, nI_leI (by omega) (by omega)]
  refine ⟨fun c => absurd c (nI_pos (by omega)), fun _ => ⟨fun _ I1 e1 => ?_, fun c => absurd hn c⟩⟩
  refine c_Reader_read (X := (n, B)) hR hX (fun j hj => by rw [e1, ow_u_ne (by decide)]; exact htx j (by have : j < n := hj; omega)) ?_ ?_
  · intro q R2 hR2 hq I2 J2 f2 a1 a2
    refine ⟨_, I2, J2, R2, rfl, rfl, hR2, fun c => absurd rfl c, fun _ I3 e3 I4 e4 => ?_⟩
    refine c_Fs_refused hR2 ?_
    intro I5 f5 v5
    refine ⟨_, I5, J2, R2, rfl, rfl, hR2, hF q hq I5 J2 R2 hR2 ?_ ?_ ?_ ?_ v5⟩
    · exact sp_fr_tr (sp_fr_tr (sp_fr_tr (sp_fr_tr (sp_fr_ue e1 (by decide)) (sp_fr_mono f2 (by decide) (by decide))) (sp_fr_ue e3 (by decide))) (sp_fr_ue e4 (by decide))) (sp_fr_mono f5 (by decide) (by decide))
    · rw [f5 0 (by decide) 1 (by decide), e4, ow_u_nk (by decide), e3, ow_u_nk (by decide), f2 0 (by decide) 1 (by decide), e1, ow_u_at]
    · rw [f5 0 (by decide) 16 (by decide), e4, ow_u_nk (by decide), e3, ow_u_at]; exact a1
    · rw [f5 0 (by decide) 17 (by decide), e4, ow_u_at, e3, ow_u_ne (by decide)]; exact a2
  · intro E R2 hR2 hE hkE hnE I2 J2 f2 hD2
    have hT := st_dk hkE hnE
    refine ⟨_, I2, J2, R2, rfl, rfl, hR2, fun _ I3 e3 I4 e4 => ?_, fun c => absurd c (by decide)⟩
    have q4 : ∀ a, a ≠ 0 → I4 a = I2 a := fun a h => by rw [e4, ow_u_ne h, e3, ow_u_ne h]
    have hD4 : dC I4 J2 E := dC_r hD2 (fun a h1 h2 => q4 a (by omega)) (by rw [q4 13 (by decide)]) (by rw [q4 13 (by decide)]) (by rw [q4 13 (by decide)]) rfl rfl
    refine c_Told_take hR2 hD4 hkE ?_
    intro I5 g5 ct5
    refine ⟨I5, J2, R2, rfl, rfl, hR2, ?_⟩
    refine c_Scene_take (V := (dd_T E).1) hR2 (by decide) (by decide) (by decide) ct5.2.2.2.2.2.1 hkE.1 ?_
    intro I6 g6 s6
    refine ⟨I6, J2, R2, rfl, rfl, hR2, ?_⟩
    refine c_Snaps_clear hR2 (by decide) ?_
    intro I7 f7 v7
    refine ⟨I7, J2, R2, rfl, rfl, hR2, ?_⟩
    refine c_Snaps_clear hR2 (by decide) ?_
    intro I8 f8 v8
    refine ⟨I8, J2, R2, rfl, rfl, hR2, ?_⟩
    have q8 : ∀ a, a ≠ 66 → a ≠ 68 → I8 a = I6 a := fun a h1 h2 => by rw [sp_fr_row f8 (by simp) (by simp [h2]), sp_fr_row f7 (by simp) (by simp [h1])]
    have ct8 : sp_ct I8 (dd_T E) := sp_ct_k ct5 (fun a ha => by
      simp only [List.mem_cons, List.not_mem_nil, or_false] at ha
      rw [q8 a (by omega) (by omega), g6 a (by simp; omega)])
    refine c_Fits_gather hR2 ct8 hT ?_
    intro I9 f9 ft9
    refine ⟨I9, J2, R2, rfl, rfl, hR2, ?_⟩
    intro I10 e10
    have q10 : ∀ a, a ≠ 0 → I10 a = I9 a := fun a h => by rw [e10, ow_u_ne h]
    have q9 : ∀ a, a < 54 → I9 a = I8 a := fun a h => sp_fr_row f9 (by simp; omega) (by intro k; simp; omega)
    have fA : sp_fr sp_jS sp_jE I I2 := sp_fr_tr (sp_fr_ue e1 (by decide)) (sp_fr_mono f2 (by decide) (by decide))
    have fB : sp_fr sp_jS sp_jE I2 I4 := sp_fr_tr (sp_fr_ue e3 (by decide)) (sp_fr_ue e4 (by decide))
    have fC : sp_fr sp_jS sp_jE I4 I6 := sp_fr_tr (sp_fr_mono (E := []) (sp_frq g5) (by decide) (by decide)) (sp_fr_mono (E := []) (sp_frq g6) (by decide) (by decide))
    have fD : sp_fr sp_jS sp_jE I6 I8 := sp_fr_tr (sp_fr_mono f7 (by decide) (by decide)) (sp_fr_mono f8 (by decide) (by decide))
    have fE : sp_fr sp_jS sp_jE I8 I10 := sp_fr_tr (sp_fr_mono f9 (by decide) (by decide)) (sp_fr_ue e10 (by decide))
    have f10 : sp_fr sp_jS sp_jE I I10 := sp_fr_tr (sp_fr_tr (sp_fr_tr (sp_fr_tr fA fB) fC) fD) fE
    have z0 : ∀ k, k ≠ 14 → I10 0 k = I4 0 k := fun k h => by rw [e10, ow_u_nk h, q9 0 (by decide), q8 0 (by decide) (by decide), g6 0 (by decide), g5 0 (by decide)]
    have S10 : sp_S I10 29 (dd_T E).1 := sp_S_kr s6 (by rw [q10 29 (by decide), q9 29 (by decide), q8 29 (by decide) (by decide)]) (by rw [q10 30 (by decide), q9 30 (by decide), q8 30 (by decide) (by decide)]) (by rw [q10 31 (by decide), q9 31 (by decide), q8 31 (by decide) (by decide)]) (by rw [q10 32 (by decide), q9 32 (by decide), q8 32 (by decide) (by decide)])
    rw [show I10 29 0 = nI (st_n (dd_T E)) from S10.1]
    refine hO E hE hkE hnE I10 J2 R2 hR2 f10 ?_ ?_ ?_ (fun H G => ⟨⟨?_, ?_, S10⟩, ?_, ?_, ?_, Nat.zero_le _, fun i hi => absurd hi (Nat.not_lt_zero _), ?_, ?_, Nat.zero_le _, fun i hi => absurd hi (Nat.not_lt_zero _)⟩)
    · rw [z0 1 (by decide), e4, ow_u_nk (by decide), e3, ow_u_nk (by decide), f2 0 (by decide) 1 (by decide), e1, ow_u_at]
    · rw [z0 16 (by decide), e4, ow_u_nk (by decide), e3, ow_u_at]
    · rw [z0 15 (by decide), e4, ow_u_at]
    · rw [e10, ow_u_at]
    · exact sp_ct_k ct8 (fun a ha => by
        simp only [List.mem_cons, List.not_mem_nil, or_false] at ha
        rw [q10 a (by omega), q9 a (by omega)])
    · exact sp_FT_k ft9 (by rw [q10 54 (by decide)]) (q10 61 (by decide))
    · rw [f10 66 (by decide) 0 (by decide)]; exact h67
    · rw [q10 66 (by decide), sp_fr_row f9 (by decide) (by simp), f8 66 (by decide) 2 (by decide)]; exact v7
    · rw [f10 68 (by decide) 0 (by decide)]; exact h69
    · rw [q10 68 (by decide), sp_fr_row f9 (by decide) (by simp)]; exact v8
end MSH
