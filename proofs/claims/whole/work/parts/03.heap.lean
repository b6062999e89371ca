/-! ===== the small machine: its heap (shape: kind and length; ints; longs; references). Addresses below 32 are there before the law begins: 0 the script, 1 to 9 static tables, 10 to 20 texts, 21 to 31 the texts' bytes. Kinds: below 12 a class of vwCl; 20 int[], 21 byte[], 22 boolean[], 23 long[], 24 Row[], 25 End[], 26 String ===== -/
abbrev mm_H : Type := List (Nat × Nat) × (Nat → Nat → Int32) × (Nat → Nat → Int64) × (Nat → Nat → Option Nat)
def mm_kd (h : mm_H) (a : Nat) : Nat := (h.1.getD a (99, 0)).1
def mm_ln (h : mm_H) (a : Nat) : Nat := (h.1.getD a (99, 0)).2
def mm_i (h : mm_H) (a k : Nat) : Int32 := h.2.1 a k
def mm_l (h : mm_H) (a k : Nat) : Int64 := h.2.2.1 a k
def mm_r (h : mm_H) (a k : Nat) : Option Nat := h.2.2.2 a k
def mm_si (h : mm_H) (a k : Nat) (v : Int32) : mm_H := (h.1, va_up h.2.1 a (upd (h.2.1 a) k v), h.2.2)
def mm_sl (h : mm_H) (a k : Nat) (v : Int64) : mm_H := (h.1, h.2.1, va_up h.2.2.1 a (vp_updL (h.2.2.1 a) k v), h.2.2.2)
def mm_sr (h : mm_H) (a k : Nat) (v : Option Nat) : mm_H := (h.1, h.2.1, h.2.2.1, va_up h.2.2.2 a (va_up (h.2.2.2 a) k v))
def mm_al (h : mm_H) (kn n : Nat) : mm_H := (h.1 ++ [(kn, n)], va_up h.2.1 h.1.length (fun _ => 0), va_up h.2.2.1 h.1.length (fun _ => 0), va_up h.2.2.2 h.1.length (fun _ => none))
def mm_sz (h : mm_H) : Nat := (h.1.map (fun q => q.2)).sum
def mm_N : Nat → Nat := fun c => match c with
  | 0 => 18 | 1 => 7 | 2 => 5 | 3 => 2 | 4 => 3 | 5 => 2 | 6 => 6 | 7 => 6 | 8 => 2 | 9 => 11 | 10 => 4 | _ => 66
def mm_ty : Nat → Nat → FieldType := fun c => match c with
  | 0 => tyX0 | 1 => tyX1 | 2 => tyX2 | 3 => tyX4 | 4 => tyX5 | 5 => tyX6 | 6 => tyX7 | 7 => tyX8 | 8 => tyX9 | 9 => tyX10 | 10 => tyX11 | _ => tyX12
def mm_kt (t : FieldType) : Nat :=
  if t = .array .int then 20 else if t = .array .byte then 21 else if t = .array .boolean then 22 else if t = .array .long then 23 else if t = .array (.object RX6) then 24 else if t = .array (.object RX0) then 25
  else if t = .object RX0 then 0 else if t = .object RX1 then 1 else if t = .object RX2 then 2 else if t = .object RX4 then 3 else if t = .object RX5 then 4 else if t = .object RX6 then 5 else if t = .object RX7 then 6 else if t = .object RX8 then 7 else if t = .object RX9 then 8 else if t = .object RX10 then 9 else if t = .object RX11 then 10 else if t = .object RX12 then 11
  else if t = .object "java/lang/String" then 26 else 99
/-- launch, real addresses, class numbers and slots, array classes by kind, the heap's size at the law's start, what stands below 32 -/
abbrev mm_G : Type := Launch × (Nat → Nat) × va_G × (Nat → ClassId) × Nat × mm_H
def mm_v (adr : Nat → Nat) : Value → Value
  | .ref a => .ref (adr a)
  | v => v
def mm_fv (adr : Nat → Nat) (h : mm_H) (a : Nat) (t : FieldType) (k : Nat) : Value := match t with
  | .long => .long (mm_l h a k)
  | .object _ => va_rf ((mm_r h a k).map adr)
  | .array _ => va_rf ((mm_r h a k).map adr)
  | _ => .int (mm_i h a k)
def mm_fs (adr : Nat → Nat) (h : mm_H) (a : Nat) : List Value := (List.range (mm_ln h a)).map (fun k => mm_fv adr h a (mm_ty (mm_kd h a) k) k)
def mm_cell (G : mm_G) (h : mm_H) (a : Nat) : va_E :=
  if mm_kd h a < 12 then .inr (mm_kd h a, mm_fs G.2.1 h a)
  else if mm_kd h a < 23 then .inl (G.2.2.2.1 (mm_kd h a), (mm_ln h a, .inl (h.2.1 a)))
  else if mm_kd h a = 23 then .inl (G.2.2.2.1 (mm_kd h a), (mm_ln h a, .inr (.inl (h.2.2.1 a))))
  else .inl (G.2.2.2.1 (mm_kd h a), (mm_ln h a, .inr (.inr (.inr (.inr (fun k => (h.2.2.2 a k).map G.2.1))))))
def mm_ws (G : mm_G) (h : mm_H) : va_W := (List.range (h.1.length - 32)).map (fun i => (G.2.1 (32 + i), mm_cell G h (32 + i)))
theorem mm_ws_get {G : mm_G} {h : mm_H} {a : Nat} (h1 : 32 ≤ a) (h2 : a < h.1.length) : (mm_ws G h)[a - 32]? = some (G.2.1 a, mm_cell G h a) := by
  have e : 32 + (a - 32) = a := by omega
  simp [mm_ws, List.getElem?_map, List.getElem?_range (show a - 32 < h.1.length - 32 by omega), e]
theorem mm_ws_set {G : mm_G} {h h' : mm_H} {a : Nat} (h1 : 32 ≤ a) (h2 : a < h.1.length) (hs : h'.1 = h.1) (hc : ∀ b, b ≠ a → mm_cell G h' b = mm_cell G h b) : (mm_ws G h).set (a - 32) (G.2.1 a, mm_cell G h' a) = mm_ws G h' := by
  apply List.ext_getElem?
  intro i
  by_cases hi : i = a - 32
  · subst hi
    rw [mm_ws_get h1 (by rw [hs]; exact h2), List.getElem?_set_self (by simp [mm_ws]; omega)]
  · rw [List.getElem?_set_ne (Ne.symm hi)]
    by_cases hl : i < h.1.length - 32
    · have e1 := mm_ws_get (G := G) (h := h) (a := 32 + i) (by omega) (by omega)
      have e2 := mm_ws_get (G := G) (h := h') (a := 32 + i) (by omega) (by rw [hs]; omega)
      rw [show 32 + i - 32 = i by omega] at e1 e2
      rw [e1, e2, hc (32 + i) (by omega)]
    · rw [List.getElem?_eq_none (by simp [mm_ws]; omega), List.getElem?_eq_none (by simp [mm_ws, hs]; omega)]
theorem mm_ws_push {G : mm_G} {h h' : mm_H} {q : Nat × Nat} (h1 : 32 ≤ h.1.length) (hs : h'.1 = h.1 ++ [q]) (hc : ∀ b, b ≠ h.1.length → mm_cell G h' b = mm_cell G h b) : mm_ws G h' = mm_ws G h ++ [(G.2.1 h.1.length, mm_cell G h' h.1.length)] := by
  have e : h'.1.length - 32 = (h.1.length - 32) + 1 := by rw [hs]; simp; omega
  unfold mm_ws
  rw [e, List.range_succ, List.map_append]
  congr 1
  · apply List.map_congr_left
    intro i hi
    have := List.mem_range.mp hi
    rw [hc (32 + i) (by omega)]
  · simp [show 32 + (h.1.length - 32) = h.1.length by omega]
theorem mm_kd_app {h h' : mm_H} (hp : h.1 <+: h'.1) {a c : Nat} (hc : mm_kd h a = c) (h9 : c ≠ 99) : mm_kd h' a = c := by
  obtain ⟨t, ht⟩ := hp
  unfold mm_kd at hc ⊢
  rw [← ht]
  by_cases hl : a < h.1.length
  · simp only [List.getD_eq_getElem?_getD] at hc ⊢
    rw [List.getElem?_append_left hl]
    exact hc
  · simp only [List.getD_eq_getElem?_getD, List.getElem?_eq_none (Nat.not_lt.mp hl)] at hc
    exact absurd hc.symm h9
theorem mm_kd_lt {h : mm_H} {a : Nat} (h9 : mm_kd h a ≠ 99) : a < h.1.length := by
  unfold mm_kd at h9
  rcases Nat.lt_or_ge a h.1.length with q | q
  · exact q
  · simp only [List.getD_eq_getElem?_getD, List.getElem?_eq_none q] at h9
    exact absurd rfl h9
/-- every reference points to a thing of its kind; objects have their class's fields -/
def mm_WT (h : mm_H) : Prop := ∀ a, 32 ≤ a → a < h.1.length → (∀ k b, mm_r h a k = some b → b < h.1.length) ∧
  (mm_kd h a < 12 → mm_ln h a = mm_N (mm_kd h a) ∧ ∀ k b, mm_r h a k = some b → mm_kd h b = mm_kt (mm_ty (mm_kd h a) k))
  ∧ (mm_kd h a = 24 → ∀ k b, mm_r h a k = some b → mm_kd h b = 5) ∧ (mm_kd h a = 25 → ∀ k b, mm_r h a k = some b → mm_kd h b = 0)
/-- the kinds of what was there before -/
def mm_RK (h : mm_H) : Prop := ∀ a, a < 32 → (a < 10 ∧ mm_kd h a = 20) ∨ (10 ≤ a ∧ a < 21 ∧ mm_kd h a = 26) ∨ (21 ≤ a ∧ mm_kd h a = 21)
theorem mm_RK.obj {h : mm_H} (k : mm_RK h) {a : Nat} (h1 : mm_kd h a < 12 ∨ mm_kd h a = 22 ∨ mm_kd h a = 23 ∨ mm_kd h a = 24 ∨ mm_kd h a = 25) : 32 ≤ a := by
  rcases Nat.lt_or_ge a 32 with q | q
  · rcases k a q with x | x | x <;> omega
  · exact q
