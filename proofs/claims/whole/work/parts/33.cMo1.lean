/-! Own rows: the reference's answerOf and goOver. -/
/-- nothing changed but these cells, and these slots of others -/
def sp_fr (S : List Nat) (E : List (Nat × Nat)) (I I2 : Nat → Nat → Int32) : Prop := ∀ a, a ∉ S → ∀ k, (a, k) ∉ E → I2 a k = I a k
section SPF
variable {S S2 : List Nat} {E E2 : List (Nat × Nat)} {I I2 I3 : Nat → Nat → Int32}
theorem sp_fr_rf : sp_fr S E I I := fun _ _ _ _ => rfl
theorem sp_fr_tr (h1 : sp_fr S E I I2) (h2 : sp_fr S E I2 I3) : sp_fr S E I I3 := fun a ha k hk => (h2 a ha k hk).trans (h1 a ha k hk)
theorem sp_fr_mono (h : sp_fr S E I I2) (hs : ∀ a ∈ S, a ∈ S2) (he : ∀ q ∈ E, q ∈ E2 ∨ q.1 ∈ S2) : sp_fr S2 E2 I I2 := fun a ha k hk => h a (fun q => ha (hs a q)) k (fun q => (he _ q).elim hk (fun z => ha z))
theorem sp_fr_ue {o k : Nat} {v : Int32} (e : I2 = ow_u I o k v) (h : o ∈ S ∨ (o, k) ∈ E) : sp_fr S E I I2 := by
  subst e
  intro a ha j hj
  refine ow_u_ne2 (fun q => ?_)
  rcases h with h | h
  · exact ha (by rw [q.1]; exact h)
  · exact hj (by rw [q.1, q.2]; exact h)
theorem sp_fr_re {o : Nat} {g : Nat → Int32} (e : I2 = ow_r I o g) (h : o ∈ S) : sp_fr S E I I2 := by
  subst e
  intro a ha j hj
  unfold ow_r
  rw [if_neg (fun q => ha (by rw [q]; exact h))]
theorem sp_fr_row (h : sp_fr S E I I2) {a : Nat} (ha : a ∉ S) (he : ∀ k, (a, k) ∉ E) : I2 a = I a := funext (fun k => h a ha k (he k))
end SPF
/-- a row of the reference holds V, with the shapes that are laid -/
def sp_Mr (I : Nat → Nat → Int32) (a : Nat) (V : sp_V) : Prop := (∀ f, f < sp_n V → I a f = nI (sp_so V f) ∧ I a (6 + f) = nI (sp_to V f) ∧ I 80 f = nI (sp_sh V f)) ∧ I a 12 = nI (sp_h V) ∧ I a 13 = nI (sp_y V)
theorem sp_Mr_keep {I I2 : Nat → Nat → Int32} {a : Nat} {V : sp_V} (h : sp_Mr I a V) (h1 : I2 a = I a) (h2 : I2 80 = I 80) : sp_Mr I2 a V := by
  unfold sp_Mr at h ⊢
  rw [h1, h2]
  exact h
theorem c_Mo_hasBit {d : Nat} {I : Nat → Nat → Int32} {J : Nat → Nat → Int64} {R : Nat → Nat → Option Nat} {Q : Option Value → ow_H → Prop} {m f : Nat} (hR : ow_RF R) (hm : m < 64) (hf : f < 6) (hQ : Q (some (.int (sp_jb (m.testBit f)))) (85, I, J, R)) : ow_AM M_Mo_hasBit (d + 1) [.int (nI m), .int (nI f)] (85, I, J, R) Q := by
  apply t_Mo_hasBit hR
  rw [sp_bit m hm f hf]
  cases hb : m.testBit f with
  | false =>
    rw [hb] at hQ
    exact ⟨fun _ => hQ, fun c => absurd c (by decide)⟩
  | true =>
    rw [hb] at hQ
    exact ⟨fun c => absurd rfl c, fun _ => hQ⟩
theorem c_Mo_answerOf {d : Nat} {I : Nat → Nat → Int32} {J : Nat → Nat → Int64} {R : Nat → Nat → Option Nat} {Q : Option Value → ow_H → Prop} {a f : Nat} {V : sp_V} {b : Bool} (hR : ow_RF R) (ha : a ∈ [75, 76, 77, 82]) (hS : sp_Mr I a V) (hV : sp_ok V) (hf : f < sp_n V) (hQ : Q (some (.int (sp_jo (sp_rep V f b)))) (85, I, J, R)) : ow_AM M_Mo_answerOf (d + 2) [.ref 70, .ref a, .int (nI f), .int (sp_jb b)] (85, I, J, R) Q := by
  obtain ⟨v1, v2, v3, v4⟩ := hV
  obtain ⟨s1, s2, s3⟩ := hS
  obtain ⟨a1, a2, a3⟩ := s1 f hf
  obtain ⟨b1, b2, b3⟩ := v4 f hf
  apply t_Mo_answerOf ha hR
  rw [sp_cl (by omega), a1, a3, s2]
  have k0 := sp_k (n := sp_sh V f) (by omega) 0 (by decide) (x := 0) rfl
  have k1 := sp_k (n := sp_sh V f) (by omega) 1 (by decide) (x := 1) rfl
  have k2 := sp_k (n := sp_sh V f) (by omega) 2 (by decide) (x := 2) rfl
  have k3 := sp_k (n := sp_sh V f) (by omega) 3 (by decide) (x := 3) rfl
  have z0 := sp_z (n := sp_so V f) (by omega)
  have z1 := sp_z (n := sp_y V % 2) (by omega)
  rw [k0, k1, k2, k3, z0]
  refine ⟨vp_in_nI (by omega) (by decide), vp_in_nI (by omega) (by decide), fun c0 => ?_, fun c0 => ?_⟩
  · refine c_Mo_hasBit hR v3 (by omega) ⟨_, _, _, _, rfl, rfl, hR, ?_⟩
    rw [s3, show nI (sp_y V) - nI (sp_y V) / 2 * 2 = nI (sp_y V % 2) from pk_rem (a := sp_y V) (d := 2) (by omega) (by decide) (by decide), z1]
    cases hb : (sp_h V).testBit f with
    | true =>
      refine ⟨fun c => absurd c (by decide), fun _ => sp_q hQ ?_⟩
      unfold sp_rep
      rw [if_neg c0, if_pos hb]; rfl
    | false =>
      refine ⟨fun _ => ⟨fun c => ⟨fun c1 => ⟨fun c2 => ⟨fun c3 => ?_, fun c3 => ⟨fun c4 => ?_, fun c4 => ?_⟩⟩, fun c2 => ?_⟩, fun c1 => ?_⟩, fun c => ?_⟩, fun c => absurd rfl c⟩ <;> refine sp_q hQ ?_ <;> unfold sp_rep <;> rw [if_neg c0, if_neg (by rw [hb]; decide)]
      · rw [if_neg c, if_neg c1, if_neg c2, if_neg c3]; rfl
      · rw [if_neg c, if_neg c1, if_neg c2, if_pos c3, if_neg c4, sp_neg]; rfl
      · rw [if_neg c, if_neg c1, if_neg c2, if_pos c3, if_pos c4]; rfl
      · rw [if_neg c, if_neg c1, if_pos c2]; rfl
      · rw [if_neg c, if_pos c1, sp_neg]; rfl
      · rw [if_pos c]; rfl
  · refine sp_q hQ ?_
    unfold sp_rep
    rw [if_pos c0]; rfl
def sp_pc (m : Nat) : Nat := ((List.range 6).filter (fun f => m.testBit f)).length
theorem sp_pc_s : ∀ m, m < 64 → ∀ f, f < 6 → m.testBit f = false → sp_pc (m ||| 2 ^ f) = sp_pc m + 1 := by decide +kernel
theorem sp_pc_6 : ∀ m, m < 64 → sp_pc m = 6 → ∀ f, f < 6 → m.testBit f = true := by decide +kernel
theorem sp_rwne : ∀ a ∈ [75, 76, 77, 82], a ≠ 70 ∧ a ≠ 81 ∧ a ≠ 80 ∧ a ≠ 73 := by decide
theorem c_Mo_goLoop {d : Nat} {I : Nat → Nat → Int32} {J : Nat → Nat → Int64} {R : Nat → Nat → Option Nat} {Q : Option Value → ow_H → Prop} {a : Nat} {V : sp_V} (hR : ow_RF R) (ha : a ∈ [75, 76, 77, 82]) (hS : sp_Mr I a V) (hV : sp_ok V) :
    ∀ (k m f : Nat) (b : Bool) (I1 : Nat → Nat → Int32) (pre : List Nat), m < 64 → f < sp_n V → sp_pc m + k = 6 → pre.length + k = 6 → sp_fr [81] [(70, 26), (70, 27), (70, 28), (70, 29)] I I1 → I1 70 26 = nI pre.length → I1 70 27 = nI pre.length → I1 70 28 = -2 → I1 70 29 = -2 → (∀ i, i < pre.length → I1 81 i = nI (pre.getD i 0)) →
      (∀ I2 : Nat → Nat → Int32, sp_fr [81] [(70, 26), (70, 27), (70, 28), (70, 29)] I I2 → I2 70 26 = nI (pre.length + (sp_go V k m f b).1.length) → I2 70 27 = nI (pre.length + (sp_go V k m f b).2.1) → I2 70 28 = sp_last (sp_go V k m f b).2.2 → I2 70 29 = sp_out (sp_go V k m f b).2.2 → (∀ i, i < pre.length + (sp_go V k m f b).1.length → I2 81 i = nI ((pre ++ (sp_go V k m f b).1).getD i 0)) → Q none (85, I2, J, R)) →
      ow_AW ow_Y0 (ow_Z Q) M_Mo_goOver (d + 3) 0 0 34 [(0, .ref 70), (1, .ref a), (3, .int (nI f)), (4, .int (sp_jb b)), (5, .int (nI m))] [] (85, I1, J, R) 0 0 := by
  have hn6 := hV.1
  obtain ⟨n71, n82, n81, n74⟩ := sp_rwne a ha
  intro k
  induction k with
  | zero =>
    intro m f b I1 pre hm hf hpc hk he h1 h2 h3 h4 h5 hQ
    have hg : sp_go V 0 m f b = ([], 0, none) := by rw [sp_go]
    rw [hg] at hQ
    apply t_Mo_goOver_34 ha hR
    refine c_Mo_hasBit hR hm (by omega) ⟨_, _, _, _, rfl, rfl, hR, ?_⟩
    rw [sp_pc_6 m hm (by omega) f (by omega)]
    refine ⟨fun _ => ?_, fun c => absurd c (by decide)⟩
    refine hQ I1 he h1 h2 h3 h4 (fun i hi => ?_)
    rw [List.append_nil]
    exact h5 i hi
  | succ k ih =>
    intro m f b I1 pre hm hf hpc hk he h1 h2 h3 h4 h5 hQ
    have hlen : pre.length < 6 := by omega
    apply t_Mo_goOver_34 ha hR
    refine c_Mo_hasBit hR hm (by omega) ⟨_, _, _, _, rfl, rfl, hR, ?_⟩
    cases hb : m.testBit f with
    | true =>
      have hg : sp_go V (k + 1) m f b = ([], 0, none) := by rw [sp_go, if_pos hb]
      rw [hg] at hQ
      refine ⟨fun _ => ?_, fun c => absurd c (by decide)⟩
      refine hQ I1 he h1 h2 h3 h4 (fun i hi => ?_)
      rw [List.append_nil]
      exact h5 i hi
    | false =>
      have hb2 : ¬ m.testBit f = true := by rw [hb]; decide
      rw [h1]
      refine ⟨fun c => absurd rfl c, fun _ => ⟨vp_in_nI hlen (by decide), fun I6 e6 I7 e7 => ?_⟩⟩
      rw [sp_cl (by omega)] at e6
      have x61 : I6 70 26 = nI pre.length := by rw [e6, ow_u_ne (by decide)]; exact h1
      rw [x61, nI_1] at e7
      have he7 : sp_fr [81] [(70, 26), (70, 27), (70, 28), (70, 29)] I I7 := sp_fr_tr (sp_fr_tr he (sp_fr_ue e6 (by simp))) (sp_fr_ue e7 (by simp))
      have a1 : I7 70 26 = nI (pre.length + 1) := by rw [e7, ow_u_at]
      have a2 : I7 70 27 = nI pre.length := by rw [e7, ow_u_nk (by decide), e6, ow_u_ne (by decide)]; exact h2
      have a3 : I7 70 28 = -2 := by rw [e7, ow_u_nk (by decide), e6, ow_u_ne (by decide)]; exact h3
      have a4 : I7 70 29 = -2 := by rw [e7, ow_u_nk (by decide), e6, ow_u_ne (by decide)]; exact h4
      have a5 : ∀ i, i < pre.length + 1 → ∀ r : List Nat, I7 81 i = nI ((pre ++ f :: r).getD i 0) := by
        intro i hi r
        rw [e7, ow_u_ne (by decide), e6]
        by_cases hi2 : i = pre.length
        · subst hi2
          rw [ow_u_at, sp_gd2]
        · rw [ow_u_nk hi2, sp_gd (by omega)]
          exact h5 i (by omega)
      have hS7 := sp_Mr_keep hS (sp_fr_row he7 (by simp [n82]) (by simp [n71])) (sp_fr_row he7 (by decide) (by simp))
      refine c_Mo_answerOf hR ha hS7 hV hf ⟨_, _, _, _, rfl, rfl, hR, ?_⟩
      cases hrep : sp_rep V f b with
      | none =>
        have hg : sp_go V (k + 1) m f b = ([f], 0, none) := by rw [sp_go, if_neg hb2, hrep]
        rw [hg] at hQ
        refine ⟨fun c => absurd c (by decide), fun _ => ?_⟩
        exact hQ I7 he7 a1 a2 a3 a4 (fun i hi => a5 i hi [])
      | some c =>
        have hne : (0 : Int32) ≤ sp_jb c := by cases c <;> decide
        refine ⟨fun _ I8 e8 => ?_, fun q => absurd hne q⟩
        rw [a2, nI_1] at e8
        have he8 : sp_fr [81] [(70, 26), (70, 27), (70, 28), (70, 29)] I I8 := sp_fr_tr he7 (sp_fr_ue e8 (by simp))
        have hS8 := sp_Mr_keep hS (sp_fr_row he8 (by simp [n82]) (by simp [n71])) (sp_fr_row he8 (by decide) (by simp))
        have b1 : I8 70 26 = nI (pre.length + 1) := by rw [e8, ow_u_nk (by decide)]; exact a1
        have b2 : I8 70 27 = nI (pre.length + 1) := by rw [e8, ow_u_at]
        have b3 : I8 70 28 = -2 := by rw [e8, ow_u_nk (by decide)]; exact a3
        have b4 : I8 70 29 = -2 := by rw [e8, ow_u_nk (by decide)]; exact a4
        have b5 : ∀ i, i < pre.length + 1 → ∀ r : List Nat, I8 81 i = nI ((pre ++ f :: r).getD i 0) := by
          intro i hi r
          rw [e8, ow_u_ne (by decide)]
          exact a5 i hi r
        have e6f : (6 : Int32) + nI f = nI (6 + f) := nI_add 6 f
        rw [e6f, sp_cl (by omega), (hS8.1 f hf).2.1]
        have hto := (hV.2.2.2 f hf).2.2
        refine ⟨vp_in_nI (by omega) (by decide), ?_⟩
        by_cases ht : sp_to V f = 0
        · have hg : sp_go V (k + 1) m f b = ([f], 1, some (f, c)) := by rw [sp_go, if_neg hb2, hrep]; dsimp only; rw [if_pos ht]
          rw [hg] at hQ
          rw [ht]
          refine ⟨fun q => absurd rfl q, fun _ I9 e9 I10 e10 => ?_⟩
          refine hQ I10 (sp_fr_tr (sp_fr_tr he8 (sp_fr_ue e9 (by simp))) (sp_fr_ue e10 (by simp))) ?_ ?_ ?_ ?_ (fun i hi => ?_)
          · rw [e10, ow_u_nk (by decide), e9, ow_u_nk (by decide)]; exact b1
          · rw [e10, ow_u_nk (by decide), e9, ow_u_nk (by decide)]; exact b2
          · rw [e10, ow_u_nk (by decide), e9, ow_u_at]; rfl
          · rw [e10, ow_u_at]; rfl
          · rw [e10, ow_u_ne (by decide), e9, ow_u_ne (by decide)]; exact b5 i hi []
        · have hg : sp_go V (k + 1) m f b = (f :: (sp_go V k (m ||| 2 ^ f) (sp_to V f - 1) c).1, (sp_go V k (m ||| 2 ^ f) (sp_to V f - 1) c).2.1 + 1, (sp_go V k (m ||| 2 ^ f) (sp_to V f - 1) c).2.2) := by rw [sp_go, if_neg hb2, hrep]; dsimp only; rw [if_neg ht]
          rw [hg] at hQ
          refine ⟨fun _ => ⟨vp_in_nI (by omega) (by decide), ?_⟩, fun q => absurd q (fun z => ht ((sp_z (by omega)).mp z))⟩
          rw [show nI (sp_to V f) - 1 = nI (sp_to V f - 1) from pk_sub (b := 1) (by omega), (sp_or m hm f (by omega)).1]
          refine ih (m ||| 2 ^ f) (sp_to V f - 1) c I8 (pre ++ [f]) (sp_or m hm f (by omega)).2 (by omega) (by rw [sp_pc_s m hm f (by omega) hb]; omega) (by rw [List.length_append]; show pre.length + 1 + k = 6; omega) he8 (by rw [List.length_append]; exact b1) (by rw [List.length_append]; exact b2) b3 b4 (fun i hi => b5 i (by rw [List.length_append] at hi; exact hi) []) ?_
          intro I2 g0 g1 g2 g3 g4 g5
          rw [List.length_append] at g1 g2 g5
          refine hQ I2 g0 ?_ ?_ g3 g4 (fun i hi => ?_)
          · rw [g1]; congr 1; show pre.length + 1 + _ = pre.length + (_ + 1); omega
          · rw [g2]; congr 1; show pre.length + 1 + _ = pre.length + (_ + 1); omega
          · rw [g5 i (by show i < pre.length + 1 + _; have hi2 : i < pre.length + ((sp_go V k (m ||| 2 ^ f) (sp_to V f - 1) c).1.length + 1) := hi; omega), List.append_assoc]; rfl
/-- a letter by its number -/
theorem c_Mo_goOver {d : Nat} {I : Nat → Nat → Int32} {J : Nat → Nat → Int64} {R : Nat → Nat → Option Nat} {Q : Option Value → ow_H → Prop} {a f : Nat} {b : Bool} {V : sp_V} (hR : ow_RF R) (ha : a ∈ [75, 76, 77, 82]) (hS : sp_Mr I a V) (hV : sp_ok V) (hf : f < sp_n V) {x : Int32} (hx : x = nI (2 * f + b.toNat))
    (hQ : ∀ I2 : Nat → Nat → Int32, sp_fr [81] [(70, 26), (70, 27), (70, 28), (70, 29)] I I2 → I2 70 26 = nI (sp_go V 6 0 f b).1.length → I2 70 27 = nI (sp_go V 6 0 f b).2.1 → I2 70 28 = sp_last (sp_go V 6 0 f b).2.2 → I2 70 29 = sp_out (sp_go V 6 0 f b).2.2 → (∀ i, i < (sp_go V 6 0 f b).1.length → I2 81 i = nI ((sp_go V 6 0 f b).1.getD i 0)) → Q none (85, I2, J, R)) :
    ow_AM M_Mo_goOver (d + 3) [.ref 70, .ref a, .int x] (85, I, J, R) Q := by
  subst hx
  have hb1 : b.toNat < 2 := by cases b <;> decide
  have hn6 := hV.1
  apply t_Mo_goOver ha hR
  intro I11 e11 I12 e12 I13 e13 I14 e14
  have he : sp_fr [81] [(70, 26), (70, 27), (70, 28), (70, 29)] I I14 := sp_fr_tr (sp_fr_tr (sp_fr_tr (sp_fr_ue e11 (by simp)) (sp_fr_ue e12 (by simp))) (sp_fr_ue e13 (by simp))) (sp_fr_ue e14 (by simp))
  have a1 : I14 70 26 = nI 0 := by rw [e14, ow_u_nk (by decide), e13, ow_u_nk (by decide), e12, ow_u_nk (by decide), e11, ow_u_at]; rfl
  have a2 : I14 70 27 = nI 0 := by rw [e14, ow_u_nk (by decide), e13, ow_u_nk (by decide), e12, ow_u_at]; rfl
  have a3 : I14 70 28 = -2 := by rw [e14, ow_u_nk (by decide), e13, ow_u_at]
  have a4 : I14 70 29 = -2 := by rw [e14, ow_u_at]
  have y1 : nI (2 * f + b.toNat) / 2 = nI f := by
    rw [show (2 : Int32) = nI 2 from rfl, pk_div (by omega) (by decide) (by decide)]
    congr 1; omega
  have y2 : nI (2 * f + b.toNat) - nI f * 2 = sp_jb b := by
    rw [show (2 : Int32) = nI 2 from rfl, pk_mul, pk_sub (by omega), show 2 * f + b.toNat - f * 2 = b.toNat by omega]
    cases b <;> rfl
  rw [y1, y2]
  refine c_Mo_goLoop hR ha hS hV 6 0 f b I14 [] (by decide) hf (by decide) rfl he a1 a2 a3 a4 (fun i hi => absurd hi (Nat.not_lt_zero _)) ?_
  intro I2 g0 g1 g2 g3 g4 g5
  rw [show ([] : List Nat).length = 0 from rfl, Nat.zero_add] at g1 g2 g5
  exact hQ I2 g0 g1 g2 g3 g4 g5
