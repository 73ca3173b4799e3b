/-! Own rows: one judgement over numbered cells, and its row for each instruction. -/
abbrev ow_M : Type := MethodName × ByteArray × Nat × Option FieldType
abbrev ow_H : Type := Nat × (Nat → Nat → Int32) × (Nat → Nat → Int64) × (Nat → Nat → Option Nat)
abbrev ow_CS : Type := ClassId × ClassId × ClassId
def ow_fv (ad : Nat → Nat) (h : ow_H) (o k t : Nat) : Value := if t = 1 then .long (h.2.2.1 o k) else if t = 2 then va_rf ((h.2.2.2 o k).map ad) else .int (h.2.1 o k)
def ow_fl (ad : Nat → Nat) (h : ow_H) (o : Nat) : List Value := (List.range (ow_nf (ow_kd o))).map (fun k => ow_fv ad h o k (ow_ft (ow_kd o) k))
def ow_E (ad : Nat → Nat) (cs : ow_CS) (h : ow_H) (o : Nat) : va_E := if ow_kd o = 13 then .inl (cs.1, ow_ln o, .inl (h.2.1 o)) else if ow_kd o = 14 then .inl (cs.2.1, ow_ln o, .inl (h.2.1 o)) else if ow_kd o = 15 then .inl (cs.2.2, ow_ln o, .inr (.inl (h.2.2.1 o))) else .inr (ow_kd o, ow_fl ad h o)
def ow_W (ad : Nat → Nat) (cs : ow_CS) (h : ow_H) : va_W := (List.range h.1).map (fun o => (ad o, ow_E ad cs h o))
def ow_tys (cs : ow_CS) : List (ClassId × FieldType) := [(cs.1, .byte), (cs.2.1, .int), (cs.2.2, .long)]
def ow_tv (ad : Nat → Nat) : Value → Value
  | .ref a => .ref (ad a)
  | v => v
def ow_tp (ad : Nat → Nat) (q : Nat × Value) : Nat × Value := (q.1, ow_tv ad q.2)
def ow_u {α : Type} (f : Nat → Nat → α) (o k : Nat) (v : α) : Nat → Nat → α := fun a b => if a = o ∧ b = k then v else f a b
def ow_r {α : Type} (f : Nat → Nat → α) (o : Nat) (g : Nat → α) : Nat → Nat → α := fun a => if a = o then g else f a
section OWA
variable {ad : Nat → Nat} {cs : ow_CS} {h h' : ow_H} {o k : Nat}
theorem ow_tv_cat (v : Value) : (ow_tv ad v).category = v.category := by cases v <;> rfl
theorem ow_W_at (ho : o < h.1) : (ow_W ad cs h)[o]? = some (ad o, ow_E ad cs h o) := by
  unfold ow_W
  rw [List.getElem?_map, List.getElem?_range ho]
  rfl
theorem ow_E_obj (hk : ow_kd o < 13) : ow_E ad cs h o = .inr (ow_kd o, ow_fl ad h o) := by
  unfold ow_E
  rw [if_neg (by omega), if_neg (by omega), if_neg (by omega)]
theorem ow_E_b (hk : ow_kd o = 13) : ow_E ad cs h o = .inl (cs.1, ow_ln o, .inl (h.2.1 o)) := by
  unfold ow_E
  rw [if_pos hk]
theorem ow_E_i (hk : ow_kd o = 14) : ow_E ad cs h o = .inl (cs.2.1, ow_ln o, .inl (h.2.1 o)) := by
  unfold ow_E
  rw [if_neg (by omega), if_pos hk]
theorem ow_E_j (hk : ow_kd o = 15) : ow_E ad cs h o = .inl (cs.2.2, ow_ln o, .inr (.inl (h.2.2.1 o))) := by
  unfold ow_E
  rw [if_neg (by omega), if_neg (by omega), if_pos hk]
theorem ow_fl_len : (ow_fl ad h o).length = ow_nf (ow_kd o) := by
  unfold ow_fl
  rw [List.length_map, List.length_range]
theorem ow_fl_at (hk : k < ow_nf (ow_kd o)) : (ow_fl ad h o)[k]? = some (ow_fv ad h o k (ow_ft (ow_kd o) k)) := by
  unfold ow_fl
  rw [List.getElem?_map, List.getElem?_range hk]
  rfl
theorem ow_W_set {E' : va_E} (hn : h'.1 = h.1) (he : ow_E ad cs h' o = E') (hne : ∀ a, a ≠ o → ow_E ad cs h' a = ow_E ad cs h a) : (ow_W ad cs h).set o (ad o, E') = ow_W ad cs h' := by
  apply List.ext_getElem?
  intro i
  rw [List.getElem?_set]
  by_cases hi : o = i
  · subst hi
    rw [if_pos rfl]
    unfold ow_W
    rw [List.length_map, List.length_range, List.getElem?_map, hn]
    by_cases h1 : o < h.1
    · rw [if_pos h1, List.getElem?_range h1, Option.map_some, he]
    · rw [if_neg h1, List.getElem?_eq_none (by rw [List.length_range]; omega), Option.map_none]
  · rw [if_neg hi]
    unfold ow_W
    rw [List.getElem?_map, List.getElem?_map, hn]
    cases h1 : (List.range h.1)[i]? with
    | none => rfl
    | some j =>
      have hj : j = i := by
        obtain ⟨a, b⟩ := List.getElem?_eq_some_iff.mp h1
        rw [List.getElem_range] at b
        exact b.symm
      subst hj
      rw [Option.map_some, Option.map_some, hne j (fun q => hi q.symm)]
theorem ow_fl_set {v : Value} (he : ow_fv ad h' o k (ow_ft (ow_kd o) k) = v) (hne : ∀ b, b ≠ k → ow_fv ad h' o b (ow_ft (ow_kd o) b) = ow_fv ad h o b (ow_ft (ow_kd o) b)) : (ow_fl ad h o).set k v = ow_fl ad h' o := by
  apply List.ext_getElem?
  intro i
  rw [List.getElem?_set]
  by_cases hi : k = i
  · subst hi
    rw [if_pos rfl, ow_fl_len]
    by_cases h1 : k < ow_nf (ow_kd o)
    · rw [if_pos h1, ow_fl_at h1, he]
    · rw [if_neg h1, List.getElem?_eq_none (by rw [ow_fl_len]; omega)]
  · rw [if_neg hi]
    by_cases h1 : i < ow_nf (ow_kd o)
    · rw [ow_fl_at h1, ow_fl_at h1, hne i (fun q => hi q.symm)]
    · rw [List.getElem?_eq_none (by rw [ow_fl_len]; omega), List.getElem?_eq_none (by rw [ow_fl_len]; omega)]
theorem ow_fv_i {f : Nat → Nat → Int32} {a b t : Nat} (hf : f a b = h.2.1 a b) : ow_fv ad (h.1, f, h.2.2.1, h.2.2.2) a b t = ow_fv ad h a b t := by
  unfold ow_fv
  dsimp only
  rw [hf]
theorem ow_fv_l {f : Nat → Nat → Int64} {a b t : Nat} (hf : f a b = h.2.2.1 a b) : ow_fv ad (h.1, h.2.1, f, h.2.2.2) a b t = ow_fv ad h a b t := by
  unfold ow_fv
  dsimp only
  rw [hf]
theorem ow_fv_r {f : Nat → Nat → Option Nat} {a b t : Nat} (hf : f a b = h.2.2.2 a b) : ow_fv ad (h.1, h.2.1, h.2.2.1, f) a b t = ow_fv ad h a b t := by
  unfold ow_fv
  dsimp only
  rw [hf]
theorem ow_E_ext (h1 : h'.2.1 o = h.2.1 o) (h2 : h'.2.2.1 o = h.2.2.1 o) (h3 : h'.2.2.2 o = h.2.2.2 o) : ow_E ad cs h' o = ow_E ad cs h o := by
  unfold ow_E ow_fl ow_fv
  rw [h1, h2, h3]
theorem ow_u_ne {α : Type} {f : Nat → Nat → α} {v : α} {a : Nat} (ha : a ≠ o) : ow_u f o k v a = f a := by
  funext b
  unfold ow_u
  rw [if_neg (fun q => ha q.1)]
theorem ow_u_row {f : Nat → Nat → Int32} {v : Int32} : ow_u f o k v o = upd (f o) k v := by
  funext b
  unfold ow_u upd
  by_cases hb : b = k
  · rw [if_pos ⟨rfl, hb⟩, if_pos hb]
  · rw [if_neg (fun q => hb q.2), if_neg hb]
theorem ow_u_rowL {f : Nat → Nat → Int64} {v : Int64} : ow_u f o k v o = vp_updL (f o) k v := by
  funext b
  unfold ow_u vp_updL
  by_cases hb : b = k
  · rw [if_pos ⟨rfl, hb⟩, if_pos hb]
  · rw [if_neg (fun q => hb q.2), if_neg hb]
theorem ow_u_at {α : Type} {f : Nat → Nat → α} {v : α} : ow_u f o k v o k = v := by unfold ow_u; rw [if_pos ⟨rfl, rfl⟩]
theorem ow_u_nk {α : Type} {f : Nat → Nat → α} {v : α} {a b : Nat} (hb : b ≠ k) : ow_u f o k v a b = f a b := by unfold ow_u; rw [if_neg (fun q => hb q.2)]
end OWA
