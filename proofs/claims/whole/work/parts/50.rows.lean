/-! ===== Rows, as lists: what each method of Row does to them ===== -/
theorem mi_eq {h : mm_H} {a k : Nat} {v : Int32} : mm_i (mm_si h a k v) a k = v := by show (mm_si h a k v).2.1 a k = v; rw [mm_si_eq]; exact pk_us
theorem mi_nk {h : mm_H} {a k j : Nat} {v : Int32} (hj : j ≠ k) : mm_i (mm_si h a k v) a j = mm_i h a j := by show (mm_si h a k v).2.1 a j = _; rw [mm_si_eq]; exact pk_un hj
theorem mi_na {h : mm_H} {a b k j : Nat} {v : Int32} (hb : b ≠ a) : mm_i (mm_si h a k v) b j = mm_i h b j := by show (mm_si h a k v).2.1 b j = _; rw [mm_si_ne hb]; rfl
theorem rr_in {n N : Nat} (h : n < N) (hN : N ≤ 1000000) : mm_in (nI n) N = true := decide_eq_true (nI_in h (by omega))
theorem rr_n {n : Nat} (h : n < 2 ^ 31) : mm_n (nI n) = n := nI_clamp h
/-- every Row holds what M says; its ints lie right behind it -/
def rr_M (h : mm_H) (M : Nat → List Int32) : Prop := ∀ r, mm_kd h r = 5 → mm_r h r 0 = some (r + 1) ∧ mm_kd h (r + 1) = 20 ∧ 32 ≤ r ∧ mm_i h r 1 = nI (M r).length ∧ (M r).length ≤ mm_ln h (r + 1) ∧ mm_ln h (r + 1) ≤ 5000 ∧ (∀ j, j < (M r).length → mm_i h (r + 1) j = (M r).getD j 0) ∧ ∀ x ∈ M r, x &&& 255 = x
def rr_ish (h : mm_H) (a : Nat) : Prop := mm_kd h a = 5 ∨ ∃ r, a = r + 1 ∧ mm_kd h r = 5
/-- since h, rows alone were changed -/
def rr_F (h h' : mm_H) : Prop := h'.1 = h.1 ∧ h'.2.2 = h.2.2 ∧ ∀ a, ¬ rr_ish h a → h'.2.1 a = h.2.1 a
theorem rr_F.rf {h : mm_H} : rr_F h h := ⟨rfl, rfl, fun _ _ => rfl⟩
theorem rr_F.kd {h h' : mm_H} (F : rr_F h h') (a : Nat) : mm_kd h' a = mm_kd h a := by simp [mm_kd, F.1]
theorem rr_F.ln {h h' : mm_H} (F : rr_F h h') (a : Nat) : mm_ln h' a = mm_ln h a := by simp [mm_ln, F.1]
theorem rr_F.tr {h h1 h2 : mm_H} (F : rr_F h h1) (F2 : rr_F h1 h2) : rr_F h h2 := by
  refine ⟨F2.1.trans F.1, F2.2.1.trans F.2.1, fun a ha => ?_⟩
  rw [F2.2.2 a (fun z => ha ?_), F.2.2 a ha]
  rcases z with z | ⟨r, z1, z2⟩
  · exact Or.inl (by rw [← F.kd]; exact z)
  · exact Or.inr ⟨r, z1, by rw [← F.kd]; exact z2⟩
theorem rr_set {h h' : mm_H} {M : Nat → List Int32} {r : Nat} {l : List Int32} (R : rr_M h M) (hk : mm_kd h r = 5) (h1 : h'.1 = h.1) (h2 : h'.2.2 = h.2.2) (ho : ∀ a, a ≠ r → a ≠ r + 1 → h'.2.1 a = h.2.1 a) (hc : mm_i h' r 1 = nI l.length) (hl : l.length ≤ mm_ln h (r + 1)) (hv : ∀ j, j < l.length → mm_i h' (r + 1) j = l.getD j 0) (hb : ∀ x ∈ l, x &&& 255 = x) : rr_M h' (va_up M r l) ∧ rr_F h h' := by
  have ek : ∀ a, mm_kd h' a = mm_kd h a := fun a => by simp [mm_kd, h1]
  have el : ∀ a, mm_ln h' a = mm_ln h a := fun a => by simp [mm_ln, h1]
  have er : ∀ a k, mm_r h' a k = mm_r h a k := fun a k => by simp [mm_r, h2]
  refine ⟨fun s hs => ?_, h1, h2, fun a ha => ho a (fun z => ha (Or.inl (by rw [z]; exact hk))) (fun z => ha (Or.inr ⟨r, z, hk⟩))⟩
  rw [ek] at hs
  obtain ⟨g1, g2, g3, g4, g5, g6, g7, g8⟩ := R s hs
  rw [er, ek, el]
  by_cases e : s = r
  · subst e
    have eu : va_up M s l s = l := by simp [va_up]
    rw [eu]
    exact ⟨g1, g2, g3, hc, hl, g6, hv, hb⟩
  · have eu : va_up M r l s = M s := by simp [va_up, e]
    rw [eu]
    have gr := (R r hk).2.1
    have n1 : s ≠ r + 1 := fun z => by rw [z] at hs; omega
    have n2 : s + 1 ≠ r := fun z => by rw [z] at g2; omega
    have n3 : s + 1 ≠ r + 1 := by omega
    have e1 : h'.2.1 s = h.2.1 s := ho s e n1
    have e2 : h'.2.1 (s + 1) = h.2.1 (s + 1) := ho (s + 1) n2 n3
    refine ⟨g1, g2, g3, ?_, g5, g6, fun j hj => ?_, g8⟩
    · show h'.2.1 s 1 = _; rw [e1]; exact g4
    · show h'.2.1 (s + 1) j = _; rw [e2]; exact g7 j hj
theorem vu_self {α : Type} {f : Nat → α} {a : Nat} : va_up f a (f a) = f := by
  funext j; by_cases e : j = a
  · subst e; simp [va_up]
  · simp [va_up, e]
theorem vu_at {α : Type} {f : Nat → α} {a : Nat} {v : α} : va_up f a v a = v := by simp [va_up]
theorem vu_off {α : Type} {f : Nat → α} {a b : Nat} {v : α} (hb : b ≠ a) : va_up f a v b = f b := by simp [va_up, hb]
theorem rr_getD {l : List Int32} {j : Nat} {x : Int32} (h : j = l.length) : (l ++ [x]).getD j 0 = x := by subst h; simp [List.getD_eq_getElem?_getD]
theorem rr_getL {l m : List Int32} {j : Nat} (h : j < l.length) : (l ++ m).getD j 0 = l.getD j 0 := by simp [List.getD_eq_getElem?_getD, List.getElem?_append_left h]
/-- a byte behind a row -/
theorem rr_app {h : mm_H} {M : Nat → List Int32} {r : Nat} {v c : Int32} (R : rr_M h M) (hk : mm_kd h r = 5) (hl : (M r).length < mm_ln h (r + 1)) (hv : v &&& 255 = v) (hc : c = nI ((M r).length + 1)) : rr_M (mm_si (mm_si h (r + 1) (M r).length v) r 1 c) (va_up M r (M r ++ [v])) ∧ rr_F h (mm_si (mm_si h (r + 1) (M r).length v) r 1 c) := by
  obtain ⟨g1, g2, g3, g4, g5, g6, g7, g8⟩ := R r hk
  refine rr_set R hk rfl rfl (fun a h1 h2 => ?_) (by rw [mi_eq, hc]; simp) (by simp; omega) (fun j hj => ?_) (fun x hx => ?_)
  · rw [mm_si_ne h1, mm_si_ne h2]
  · rw [mi_na (by omega)]
    by_cases e : j = (M r).length
    · subst e; rw [mi_eq, rr_getD rfl]
    · simp at hj
      rw [mi_nk e, rr_getL (by omega)]
      exact g7 j (by omega)
  · rcases List.mem_append.mp hx with z | z
    · exact g8 x z
    · rw [List.mem_singleton.mp z]; exact hv
theorem and255 (x : Int32) : (x &&& 255) &&& 255 = x &&& 255 := by rw [Int32.and_assoc]; rfl
theorem rr_clear {h : mm_H} {M : Nat → List Int32} {r : Nat} (R : rr_M h M) (hk : mm_kd h r = 5) : rr_M (mm_si h r 1 0) (va_up M r []) ∧ rr_F h (mm_si h r 1 0) :=
  rr_set R hk rfl rfl (fun a h1 h2 => mm_si_ne h1) (by rw [mi_eq]; exact nI_0.symm) (Nat.zero_le _) (fun j hj => absurd hj (Nat.not_lt_zero _)) (fun x hx => absurd hx (List.not_mem_nil))
theorem sp_X6_clear {h : mm_H} {M : Nat → List Int32} {r : Nat} (R : rr_M h M) (hk : mm_kd h r = 5) : ∃ h', bd_X6_clear r h = some (none, h') ∧ rr_M h' (va_up M r []) ∧ rr_F h h' := ⟨_, rfl, rr_clear R hk⟩
theorem sp_X6_put {h : mm_H} {M : Nat → List Int32} {r : Nat} (R : rr_M h M) (hk : mm_kd h r = 5) (x : Int32) : ∃ h', bd_X6_put r x h = some (none, h') ∧ rr_M h' (va_up M r ((M r ++ [x &&& 255]).take (mm_ln h (r + 1)))) ∧ rr_F h h' := by
  obtain ⟨g1, g2, g3, g4, g5, g6, g7, g8⟩ := R r hk
  unfold bd_X6_put mm_gr
  simp only [g1, Option.bind_some, g4]
  by_cases hl : (M r).length < mm_ln h (r + 1)
  · rw [if_neg (by rw [nI_leI (by omega) (by omega)]; omega), if_pos ⟨by omega, rr_in hl (by omega)⟩, rr_n (by omega)]
    refine ⟨_, rfl, ?_⟩
    have e : mm_i (mm_si h (r + 1) (M r).length (x &&& 255)) r 1 + 1 = nI ((M r).length + 1) := by rw [mi_na (by omega), g4, nI_1]
    rw [List.take_of_length_le (by simp; omega)]
    exact rr_app R hk hl (and255 x) e
  · rw [if_pos (by rw [nI_leI (by omega) (by omega)]; omega)]
    refine ⟨_, rfl, ?_, rr_F.rf⟩
    rw [List.take_append_of_le_length (by omega), List.take_of_length_le (by omega), vu_self]
    exact R
