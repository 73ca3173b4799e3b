/-! Own rows: contracts of Scene. -/
theorem c_Scene_has {d : Nat} {I : Nat → Nat → Int32} {J : Nat → Nat → Int64} {R : Nat → Nat → Option Nat} {Q : Option Value → ow_H → Prop} {o f n : Nat} (hR : ow_RF R) (ho : o ∈ [3, 15, 29, 33, 42, 47, 57]) (hn : I o 0 = nI n) (hn6 : n ≤ 6) (hf : f < n) (hQ : Q (some (.int 1)) (85, I, J, R)) : ow_AM M_Scene_has (d + 1) [.ref o, .int (nI f)] (85, I, J, R) Q := by
  apply t_Scene_has ho hR
  rw [hn]
  exact ⟨fun c => absurd c (nI_pos (by omega)), fun _ => ⟨fun c => absurd c (nI_ge hf (by omega)), fun _ => hQ⟩⟩
theorem c_Scene_hasN {d : Nat} {I : Nat → Nat → Int32} {J : Nat → Nat → Int64} {R : Nat → Nat → Option Nat} {Q : Option Value → ow_H → Prop} {o : Nat} {x : Int32} (hR : ow_RF R) (ho : o ∈ [3, 15, 29, 33, 42, 47, 57]) (hx : x < 0) (hQ : Q (some (.int 0)) (85, I, J, R)) : ow_AM M_Scene_has (d + 1) [.ref o, .int x] (85, I, J, R) Q := by
  apply t_Scene_has ho hR
  exact ⟨fun _ => hQ, fun c => absurd hx c⟩
theorem c_Scene_aim {d : Nat} {I : Nat → Nat → Int32} {J : Nat → Nat → Int64} {R : Nat → Nat → Option Nat} {Q : Option Value → ow_H → Prop} {o p f n : Nat} {x : Int32} (hR : ow_RF R) (ho : o ∈ [3, 15, 29, 33, 42, 47, 57]) (hp : o + 3 = p) (hn : I o 0 = nI n) (hn6 : n ≤ 6) (hf : f < n) (hQ : ∀ I2 : Nat → Nat → Int32, I2 = ow_u I p f (if x = nI f then -2 else x) → Q none (85, I2, J, R)) : ow_AM M_Scene_aim (d + 2) [.ref o, .int (nI f), .int x] (85, I, J, R) Q := by
  subst hp
  have hi : vp_in (nI f) 6 := vp_in_nI (by omega) (by decide)
  apply t_Scene_aim ho hR
  refine c_Scene_has hR ho hn hn6 hf ⟨_, I, J, R, rfl, rfl, hR, fun c => absurd c (by decide), fun _ => ⟨fun c => ⟨hi, fun I5 e5 => ?_⟩, fun c => ⟨hi, fun I6 e6 => ?_⟩⟩⟩
  · rw [sp_cl (by omega)] at e5
    exact hQ I5 (by rw [if_neg c]; exact e5)
  · rw [sp_cl (by omega)] at e6
    exact hQ I6 (by rw [if_pos c]; exact e6)
theorem c_Scene_reply {d : Nat} {I : Nat → Nat → Int32} {J : Nat → Nat → Int64} {R : Nat → Nat → Option Nat} {Q : Option Value → ow_H → Prop} {o f : Nat} {V : sp_V} {b : Bool} (hR : ow_RF R) (ho : o ∈ [3, 15, 29, 33, 42, 47, 57]) (hS : sp_S I o V) (hV : sp_ok V) (hf : f < sp_n V) (hQ : Q (some (.int (sp_jo (sp_rep V f b)))) (85, I, J, R)) : ow_AM M_Scene_reply (d + 1) [.ref o, .int (nI f), .int (sp_jb b)] (85, I, J, R) Q := by
  obtain ⟨v1, v2, v3, v4⟩ := hV
  obtain ⟨s1, s2, s3, s4⟩ := hS
  obtain ⟨a1, a2, a3⟩ := s4 f hf
  obtain ⟨b1, b2, b3⟩ := v4 f hf
  apply t_Scene_reply ho hR
  refine ⟨fun c => absurd c (nI_pos (by omega)), fun _ => ⟨fun c => absurd c (by rw [s1]; exact nI_ge hf (by omega)), fun _ => ?_⟩⟩
  rw [sp_cl (by omega), a1, a2, s2, s3, sp_bit _ v3 f (by omega), sp_odd _ v2]
  have hi : vp_in (nI f) 6 := vp_in_nI (by omega) (by decide)
  have k0 := sp_k (n := sp_sh V f) (by omega) 0 (by decide) (x := 0) rfl
  have k1 := sp_k (n := sp_sh V f) (by omega) 1 (by decide) (x := 1) rfl
  have k2 := sp_k (n := sp_sh V f) (by omega) 2 (by decide) (x := 2) rfl
  have k3 := sp_k (n := sp_sh V f) (by omega) 3 (by decide) (x := 3) rfl
  have z0 := sp_z (n := sp_so V f) (by omega)
  have z1 := sp_z (n := sp_y V % 2) (by omega)
  rw [k0, k1, k2, k3, z0, z1]
  refine ⟨hi, fun c0 => ⟨fun c1 => ⟨hi, fun c => ?_, fun c => ?_, fun c => ?_, fun c => ⟨fun c2 => ?_, fun c2 => ?_⟩, fun c => ?_⟩, fun c1 => ?_⟩, fun c0 => ?_⟩ <;> refine sp_q hQ ?_ <;> unfold sp_rep
  · rw [if_neg c0, if_neg (by intro q; rw [if_pos q] at c1; exact absurd c1 (by decide)), if_pos c]; rfl
  · rw [if_neg c0, if_neg (by intro q; rw [if_pos q] at c1; exact absurd c1 (by decide)), if_neg (by omega), if_pos c, sp_neg]; rfl
  · rw [if_neg c0, if_neg (by intro q; rw [if_pos q] at c1; exact absurd c1 (by decide)), if_neg (by omega), if_neg (by omega), if_pos c]; rfl
  · rw [if_neg c0, if_neg (by intro q; rw [if_pos q] at c1; exact absurd c1 (by decide)), if_neg (by omega), if_neg (by omega), if_neg (by omega), if_pos c, if_neg c2, sp_neg]; rfl
  · rw [if_neg c0, if_neg (by intro q; rw [if_pos q] at c1; exact absurd c1 (by decide)), if_neg (by omega), if_neg (by omega), if_neg (by omega), if_pos c, if_pos c2]; rfl
  · rw [if_neg c0, if_neg (by intro q; rw [if_pos q] at c1; exact absurd c1 (by decide)), if_neg (by omega), if_neg (by omega), if_neg (by omega), if_neg (by omega)]; rfl
  · by_cases hb : (sp_h V).testBit f
    · rw [if_neg c0, if_pos hb]; rfl
    · rw [if_neg hb] at c1; exact absurd rfl c1
  · rw [if_pos c0]; rfl
