/-! Own rows: the reference's letter to try. -/
def sp_m3 (c : Nat → Nat) : Nat → Nat
  | 0 => 0
  | k + 1 => max (sp_m3 c k) (c k)
theorem sp_m3_3 {c : Nat → Nat} : sp_m3 c 3 = sp_mx (c 0) (c 1) (c 2) := by
  rw [sp_m3, sp_m3, sp_m3, sp_m3]
  unfold sp_mx
  omega
/-- the choice after the letters below l -/
def sp_tm (T : sp_T) (l : Nat) : Option (Nat × Nat) := if (sp_flk T (sp_nf T)).length = 0 then none else sp_tf T l
section TRY
variable {d : Nat} {I : Nat → Nat → Int32} {J : Nat → Nat → Int64} {R : Nat → Nat → Option Nat} {Q : Option Value → ow_H → Prop} {T : sp_T}
theorem c_Mo_tryOf (hR : ow_RF R) (hM : sp_mt I T) (hT : st_ok T)
    (hQ : ∀ I2 : Nat → Nat → Int32, sp_fr (80 :: sp_gS) sp_gE I I2 → I2 70 35 = sp_o2 (sp_try T) → Q (some (.int (sp_o1 (sp_try T)))) (85, I2, J, R)) : ow_AM M_Mo_tryOf (d + 6) [.ref 70] (85, I, J, R) Q := by
  have hnf := sp_nf_le hT
  have hn6 : st_n T ≤ 6 := hT.1.1
  have hck : ∀ (l o i : Nat), i ≤ sp_nf T → sp_ck T (sp_op T l o) i ≤ 125 := fun l o i h => Nat.le_trans (sp_ck_le i) (by omega)
  -- the last loop: the letter with the least
  have fin : ∀ I1 : Nat → Nat → Int32, sp_fr (80 :: sp_gS) sp_gE I I1 → (∀ l, l < 2 * st_n T → ∀ o, o < 3 → I1 83 (3 * l + o) = nI (sp_ck T (sp_op T l o) (sp_nf T))) → I1 70 35 = -2 → ow_AW ow_Y0 (ow_Z Q) M_Mo_tryOf (d + 6) 0 0 113 [(0, .ref 70), (1, .int (-2)), (2, .int 0)] [] (85, I1, J, R) 0 0 := by
    intro I1 f1 x1 y1
    have et0 : sp_tm T 0 = none := by unfold sp_tm; split <;> rfl
    have e0 : (-2 : Int32) = sp_o1 (sp_tm T 0) := by rw [et0]; rfl
    rw [e0]
    refine sp_up (N := 2 * st_n T) (G := fun l I2 => ow_AW ow_Y0 (ow_Z Q) M_Mo_tryOf (d + 6) 0 0 113 [(0, .ref 70), (1, .int (sp_o1 (sp_tm T l))), (2, .int (nI l))] [] (85, I2, J, R) 0 0) (Inv := fun l I2 => sp_fr (80 :: sp_gS) sp_gE I I2 ∧ (∀ l, l < 2 * st_n T → ∀ o, o < 3 → I2 83 (3 * l + o) = nI (sp_ck T (sp_op T l o) (sp_nf T))) ∧ I2 70 35 = sp_o2 (sp_tm T l)) ?_ ?_ 0 I1 (Nat.zero_le _) ⟨f1, x1, by rw [et0]; exact y1⟩
    · intro I2 ⟨f2, x2, y2⟩
      apply t_Mo_tryOf_113 hR
      rw [(sp_mt_g hM f2).2.2.1, sp_2n]
      exact ⟨fun _ => hQ I2 f2 y2, fun c => absurd (Int32.le_refl _) c⟩
    · intro l I2 hl ⟨f2, x2, y2⟩ ih
      apply t_Mo_tryOf_113 hR
      rw [(sp_mt_g hM f2).2.2.1, sp_2n]
      refine ⟨fun c => absurd c (nI_ge hl (by omega)), fun _ => ?_⟩
      have hml := sp_ml_le (T := T) (l := l)
      refine sp_up (σ := Unit) (N := 3) (G := fun k _ => ow_AW ow_Y0 (ow_Z Q) M_Mo_tryOf (d + 6) 0 0 130 [(0, .ref 70), (1, .int (sp_o1 (sp_tm T l))), (2, .int (nI l)), (3, .int (nI (sp_m3 (fun o => sp_ck T (sp_op T l o) (sp_nf T)) k))), (4, .int (nI k))] [] (85, I2, J, R) 0 0) (Inv := fun k _ => sp_m3 (fun o => sp_ck T (sp_op T l o) (sp_nf T)) k ≤ 125) ?_ ?_ 0 () (Nat.zero_le _) (Nat.zero_le _)
      · intro _ _
        apply t_Mo_tryOf_130 hR
        have em : sp_m3 (fun o => sp_ck T (sp_op T l o) (sp_nf T)) 3 = sp_ml T l := sp_m3_3
        rw [em, y2, nI_1]
        refine ⟨fun _ => ⟨fun c => ?_, fun c => ?_⟩, fun c => absurd (by decide) c⟩
        · have c2 := sp_ml_0.mp ((sp_z (by omega)).mp c)
          have e1 : sp_tm T l = none := by unfold sp_tm; rw [if_pos c2]
          have e2 : sp_tm T (l + 1) = none := by unfold sp_tm; rw [if_pos c2]
          have K := ih I2 ⟨f2, x2, by rw [e2]; rw [e1] at y2; exact y2⟩
          rw [e2] at K
          rw [e1]
          exact K
        · have c2 : ¬ (sp_flk T (sp_nf T)).length = 0 := fun z => c (by rw [sp_ml_0.mpr z]; rfl)
          have e1 : sp_tm T l = sp_tf T l := by unfold sp_tm; rw [if_neg c2]
          have e2 : sp_tm T (l + 1) = sp_tf T (l + 1) := by unfold sp_tm; rw [if_neg c2]
          have tk : ∀ I8 : Nat → Nat → Int32, I8 = ow_u I2 70 35 (nI (sp_ml T l)) → sp_tf T (l + 1) = some (l, sp_ml T l) → ow_AW ow_Y0 (ow_Z Q) M_Mo_tryOf (d + 6) 0 0 113 [(0, .ref 70), (1, .int (nI l)), (2, .int (nI (l + 1)))] [] (85, I8, J, R) 0 0 := by
            intro I8 e8 ht
            have K := ih I8 ⟨sp_fr_tr f2 (sp_fr_ue e8 (by decide)), fun l2 h1 o ho => by rw [e8, ow_u_ne (by decide)]; exact x2 l2 h1 o ho, by rw [e2, ht, e8, ow_u_at]; rfl⟩
            rw [e2, ht] at K
            exact K
          rw [e1] at y2 ⊢
          cases hq : sp_tf T l with
          | none => exact ⟨fun _ I8 e8 => tk I8 e8 (by rw [sp_tf, hq]), fun c => absurd (show sp_o1 none < 0 by decide) c⟩
          | some q =>
            have hb := sp_tf_b l q hq
            refine ⟨fun c => absurd c (nI_pos (by omega)), fun _ => ⟨fun c3 I8 e8 => ?_, fun c3 => ?_⟩⟩
            · have c4 : sp_ml T l < q.2 := (nI_ltI (by omega) (by omega)).mp c3
              exact tk I8 e8 (by rw [sp_tf, hq]; dsimp only; rw [if_pos c4])
            · have c4 : ¬ sp_ml T l < q.2 := fun z => c3 ((nI_ltI (by omega) (by omega)).mpr z)
              have et : sp_tf T (l + 1) = some q := by rw [sp_tf, hq]; dsimp only; rw [if_neg c4]
              have K := ih I2 ⟨f2, x2, by rw [e2, et]; rw [hq] at y2; exact y2⟩
              rw [e2, et] at K
              exact K
      · intro k _ hk hm ihk
        have hm : sp_m3 (fun o => sp_ck T (sp_op T l o) (sp_nf T)) k ≤ 125 := hm
        have hc := hck l k (sp_nf T) (Nat.le_refl _)
        have hm2 : sp_m3 (fun o => sp_ck T (sp_op T l o) (sp_nf T)) (k + 1) = max (sp_m3 (fun o => sp_ck T (sp_op T l o) (sp_nf T)) k) (sp_ck T (sp_op T l k) (sp_nf T)) := by rw [sp_m3]
        have K := ihk () (by show _ ≤ 125; rw [hm2]; omega)
        rw [hm2] at K
        apply t_Mo_tryOf_130 hR
        rw [show (3 : Int32) * nI l = nI (3 * l) from pk_mul 3 l, nI_add, sp_cl (by omega), x2 l hl k hk, nI_1 k, nI_leI (a := sp_ck T (sp_op T l k) (sp_nf T)) (by omega) (by omega)]
        refine ⟨fun c => absurd c (nI_ge (b := 3) hk (by decide)), fun _ => ⟨vp_in_nI (by omega) (by decide), fun c => ?_, fun c => ⟨vp_in_nI (by omega) (by decide), ?_⟩⟩⟩
        · rw [Nat.max_eq_left (by omega)] at K; exact K
        · rw [Nat.max_eq_right (by omega)] at K; exact K
  -- the loop over the codes
  have mid : ∀ I1 : Nat → Nat → Int32, sp_fr (80 :: sp_gS) sp_gE I I1 → (∀ l, l < 2 * st_n T → ∀ o, o < 3 → I1 83 (3 * l + o) = 0) → ow_AW ow_Y0 (ow_Z Q) M_Mo_tryOf (d + 6) 0 0 23 [(0, .ref 70), (1, .int 0)] [] (85, I1, J, R) 0 0 := by
    intro I1 f1 x1
    refine sp_up (N := sp_nf T) (G := fun i I2 => ow_AW ow_Y0 (ow_Z Q) M_Mo_tryOf (d + 6) 0 0 23 [(0, .ref 70), (1, .int (nI i))] [] (85, I2, J, R) 0 0) (Inv := fun i I2 => sp_fr (80 :: sp_gS) sp_gE I I2 ∧ (∀ l, l < 2 * st_n T → ∀ o, o < 3 → I2 83 (3 * l + o) = nI (sp_ck T (sp_op T l o) i))) ?_ ?_ 0 I1 (Nat.zero_le _) ⟨f1, x1⟩
    · intro I2 ⟨f2, x2⟩
      apply t_Mo_tryOf_23 hR
      refine c_Mo_allShapes hR hT (sp_mt_g hM f2).2.2.2.2.1 ⟨_, I2, J, R, rfl, rfl, hR, ?_⟩
      refine ⟨fun _ I3 e3 => ?_, fun c => absurd (Int32.le_refl _) c⟩
      exact fin I3 (sp_fr_tr f2 (sp_fr_ue e3 (by decide))) (fun l hl o ho => by rw [e3, ow_u_ne (by decide)]; exact x2 l hl o ho) (by rw [e3, ow_u_at])
    · intro i I2 hi ⟨f2, x2⟩ ih
      apply t_Mo_tryOf_23 hR
      refine c_Mo_allShapes hR hT (sp_mt_g hM f2).2.2.2.2.1 ⟨_, I2, J, R, rfl, rfl, hR, ?_⟩
      refine ⟨fun c => absurd c (nI_ge hi (by omega)), fun _ => ?_⟩
      refine c_Mo_wrongBy hR (sp_mt_g hM f2) hT (by omega) ?_
      intro I4 k0 k1 k2
      refine ⟨_, I4, J, R, rfl, rfl, hR, ?_⟩
      have f4 := sp_fr_tr f2 k0
      rw [nI_1]
      refine ⟨fun c => ?_, fun c => ?_⟩
      · have hb : sp_fitb T i = true := decide_eq_true c
        refine sp_up (N := 2 * st_n T) (G := fun l I5 => ow_AW ow_Y0 (ow_Z Q) M_Mo_tryOf (d + 6) 0 0 46 [(0, .ref 70), (1, .int (nI i)), (2, .int (nI l))] [] (85, I5, J, R) 0 0) (Inv := fun l I5 => sp_fr (80 :: sp_gS) sp_gE I I5 ∧ sp_Mr I5 75 (sp_wr T i) ∧ (∀ l2, l2 < 2 * st_n T → ∀ o, o < 3 → I5 83 (3 * l2 + o) = nI (sp_ck T (sp_op T l2 o) (if l2 < l then i + 1 else i)))) ?_ ?_ 0 I4 (Nat.zero_le _) ⟨f4, k1, fun l2 h1 o ho => by rw [k2, if_neg (Nat.not_lt_zero _)]; exact x2 l2 h1 o ho⟩
        · intro I5 ⟨f5, m5, x5⟩
          apply t_Mo_tryOf_46 hR
          rw [(sp_mt_g hM f5).2.2.1, sp_2n, nI_1]
          refine ⟨fun _ => ih I5 ⟨f5, fun l h1 o ho => ?_⟩, fun c => absurd (Int32.le_refl _) c⟩
          have := x5 l h1 o ho
          rw [if_pos h1] at this
          exact this
        · intro l I5 hl ⟨f5, m5, x5⟩ ih5
          apply t_Mo_tryOf_46 hR
          rw [(sp_mt_g hM f5).2.2.1, sp_2n]
          refine ⟨fun c => absurd c (nI_ge hl (by omega)), fun _ => ?_⟩
          refine c_Mo_signsOf hR (by decide) m5 (sp_wr_ok hT) hl ?_
          intro I6 q0
          refine ⟨_, I6, J, R, rfl, rfl, hR, ?_⟩
          have f6 : sp_fr (80 :: sp_gS) sp_gE I I6 := sp_fr_tr f5 (sp_fr_mono q0 (by decide) (by decide))
          have m6 := sp_Mr_keep m5 (sp_fr_row q0 (by decide) (by simp)) (sp_fr_row q0 (by decide) (by simp))
          have r6 : I6 83 = I5 83 := sp_fr_row q0 (by decide) (by simp)
          have nx : ∀ (o : Nat) (I7 : Nat → Nat → Int32), o < 3 → sp_ox (sp_gl (sp_wr T i) l).2.2 = o → I7 = ow_u I6 83 (3 * l + o) (I6 83 (3 * l + o) + 1) → ow_AW ow_Y0 (ow_Z Q) M_Mo_tryOf (d + 6) 0 0 46 [(0, .ref 70), (1, .int (nI i)), (2, .int (nI (l + 1)))] [] (85, I7, J, R) 0 0 := by
            intro o I7 ho hox e7
            refine ih5 I7 ⟨sp_fr_tr f6 (sp_fr_ue e7 (Or.inl (by decide))), sp_Mr_keep m6 (by rw [e7, ow_u_ne (by decide)]) (by rw [e7, ow_u_ne (by decide)]), fun l2 h1 p hp => ?_⟩
            rw [e7]
            by_cases hll : l2 = l
            · subst hll
              rw [if_pos (Nat.lt_succ_self _), sp_ck]
              by_cases hpo : p = o
              · subst hpo
                rw [ow_u_at, r6, x5 l2 hl p hp, if_neg (Nat.lt_irrefl _), if_pos ⟨hb, decide_eq_true hox⟩, nI_1]
              · rw [ow_u_nk (by omega), r6, x5 l2 hl p hp, if_neg (Nat.lt_irrefl _), if_neg (fun z => hpo ((of_decide_eq_true z.2).symm.trans hox))]
                rfl
            · rw [ow_u_nk (by omega), r6, x5 l2 h1 p hp]
              by_cases h3 : l2 < l
              · rw [if_pos h3, if_pos (by omega)]
              · rw [if_neg h3, if_neg (by omega)]
          rw [show (3 : Int32) * nI l = nI (3 * l) from pk_mul 3 l, show nI (3 * l) + 2 = nI (3 * l + 2) from nI_add _ 2, nI_1]
          have e2 : (nI (3 * l + 2)).toNatClampNeg = 3 * l + 2 := sp_cl (by omega)
          cases hg : (sp_gl (sp_wr T i) l).2.2 with
          | none =>
            rw [hg] at nx
            rw [e2]
            exact ⟨fun c => absurd c (show ¬ (0 : Int32) ≤ (-2) by decide), fun _ => ⟨vp_in_nI (by omega) (by decide), vp_in_nI (by omega) (by decide), fun I7 e7 => nx 2 I7 (by decide) rfl e7⟩⟩
          | some q =>
            obtain ⟨g, b⟩ := q
            rw [hg] at nx
            have eo : sp_out (some (g, b)) = nI b.toNat := by cases b <;> rfl
            have hb2 : b.toNat < 2 := by cases b <;> decide
            rw [eo, nI_add, sp_cl (by omega)]
            exact ⟨fun _ => ⟨vp_in_nI (by omega) (by decide), vp_in_nI (by omega) (by decide), fun I7 e7 => nx b.toNat I7 (by omega) rfl e7⟩, fun c => absurd (nI_pos' (by omega)) c⟩
      · have hb : ¬ sp_fitb T i = true := fun q => c (of_decide_eq_true q)
        refine ih I4 ⟨f4, fun l hl o ho => ?_⟩
        rw [k2, x2 l hl o ho, sp_ck, if_neg (fun q => hb q.1)]
        rfl
  apply t_Mo_tryOf hR
  refine sp_up (N := 36) (G := fun i I1 => ow_AW ow_Y0 (ow_Z Q) M_Mo_tryOf (d + 6) 0 0 2 [(0, .ref 70), (1, .int (nI i))] [] (85, I1, J, R) 0 0) (Inv := fun i I1 => sp_eq [83] I I1 ∧ ∀ k, k < i → I1 83 k = 0) ?_ ?_ 0 I (Nat.zero_le _) ⟨sp_eq_rf, fun k hk => absurd hk (Nat.not_lt_zero _)⟩
  · intro I1 ⟨he, x1⟩
    apply t_Mo_tryOf_2 hR
    exact ⟨fun _ => mid I1 (sp_fr_mono (E := []) (sp_frq he) (by decide) (by decide)) (fun l hl o ho => x1 _ (by omega)), fun c => absurd (by decide) c⟩
  · intro i I1 hi ⟨he, x1⟩ ih
    apply t_Mo_tryOf_2 hR
    refine ⟨fun c => absurd c (nI_ge (b := 36) hi (by decide)), fun _ => ⟨vp_in_nI hi (by decide), fun I5 e5 => ?_⟩⟩
    rw [sp_cl (by omega)] at e5
    rw [nI_1]
    refine ih I5 ⟨sp_eq_tr he (sp_eq_ue e5 (by decide)), fun k hk => ?_⟩
    rw [e5]
    by_cases hki : k = i
    · rw [hki, ow_u_at]
    · rw [ow_u_nk hki]; exact x1 k (by omega)
end TRY
