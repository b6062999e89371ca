/-! ===== Rows: texts, tables, comparisons ===== -/
theorem xor255 (x y : Int32) : (x ^^^ y) &&& 255 = (x &&& 255) ^^^ (y &&& 255) := b_ext fun i _ => by rw [b_and, b_xor, b_xor, b_and, b_and]; cases bt x i <;> cases bt y i <;> cases bt 255 i <;> rfl
section ROWD
variable {r o : Nat}
theorem vu_uu {f : Nat → List Int32} {a : Nat} {v w : List Int32} : va_up (va_up f a v) a w = va_up f a w := bx_uu f a v w
def rr_low (v : Int32) : Nat → Nat → List Int32
  | 0, _ => []
  | n + 1, i => (if i < 4 then mm_ush v ((8 : Int32) * nI i) &&& 255 else 0) :: rr_low v n (i + 1)
theorem rr_low_len (v : Int32) (n : Nat) : ∀ i, (rr_low v n i).length = n := by induction n with
  | zero => intro i; rfl
  | succ n ih => intro i; simp [rr_low, ih]
theorem sp_putLow (v : Int32) (t : Nat) (ht : t < 1000) : ∀ (s i n : Nat) (h : mm_H) (M : Nat → List Int32), rr_M h M → mm_kd h r = 5 → (M r).length + s ≤ mm_ln h (r + 1) → s < n → i + s = t → ∃ h', lp_X6_putLowFirst_2 n r v (nI t) (nI i) h = some (none, h') ∧ rr_M h' (va_up M r (M r ++ rr_low v s i)) ∧ rr_F h h' := by
  intro s
  induction s with
  | zero =>
    intro i n h M R hr hl hn hi
    obtain ⟨n, rfl⟩ : ∃ k, n = k + 1 := ⟨n - 1, by omega⟩
    rw [lp_X6_putLowFirst_2, if_pos (by rw [nI_leI (by omega) (by omega)]; omega)]
    refine ⟨h, rfl, ?_, rr_F.rf⟩
    rw [rr_low, List.append_nil, vu_self]; exact R
  | succ s ih =>
    intro i n h M R hr hl hn hi
    obtain ⟨n, rfl⟩ : ∃ k, n = k + 1 := ⟨n - 1, by omega⟩
    obtain ⟨g1, g2, g3, g4, g5, g6, g7, g8⟩ := R r hr
    have key : ∀ x : Int32, x &&& 255 = x → ∃ h', jn_X6_putLowFirst_46 (lp_X6_putLowFirst_2 n) r v (nI t) (nI i) x (mm_i h r 1) (r + 1) h = some (none, h') ∧ rr_M h' (va_up M r (M r ++ x :: rr_low v s (i + 1))) ∧ rr_F h h' := by
      intro x hx
      unfold jn_X6_putLowFirst_46
      rw [g4, if_pos ⟨by omega, rr_in (by omega) (by omega)⟩, rr_n (by omega)]
      simp only [mm_bh]
      have e9 : mm_i (mm_si h (r + 1) (M r).length x) r 1 + 1 = nI ((M r).length + 1) := by rw [mi_na (by omega), g4, nI_1]
      obtain ⟨R1, F1⟩ := rr_app R hr (by omega) hx e9
      rw [nI_1]
      obtain ⟨h', q1, q2, q3⟩ := ih (i + 1) n _ _ R1 (by rw [F1.kd]; exact hr) (by rw [F1.ln, vu_at]; simp; omega) (by omega) (by omega)
      refine ⟨h', q1, ?_, F1.tr q3⟩
      rw [vu_at, vu_uu] at q2
      simpa using q2
    rw [lp_X6_putLowFirst_2, if_neg (by rw [nI_leI (by omega) (by omega)]; omega)]
    simp only [mm_gr, g1, Option.bind_some]
    rw [if_neg (by rw [g4, nI_leI (by omega) (by omega)]; omega)]
    by_cases c : i < 4
    · rw [if_neg (by rw [show ((4 : Int32)) = nI 4 from rfl, nI_leI (by omega) (by omega)]; omega)]
      obtain ⟨h', q1, q2, q3⟩ := key _ (and255 _)
      exact ⟨h', q1, by simpa [rr_low, c] using q2, q3⟩
    · rw [if_pos (by rw [show ((4 : Int32)) = nI 4 from rfl, nI_leI (by omega) (by omega)]; omega)]
      obtain ⟨h', q1, q2, q3⟩ := key 0 (by decide)
      exact ⟨h', q1, by simpa [rr_low, c] using q2, q3⟩
theorem sp_X6_putLowFirst {h : mm_H} {M : Nat → List Int32} {t : Nat} (v : Int32) (R : rr_M h M) (hr : mm_kd h r = 5) (ht : t < 1000) (hl : (M r).length + t ≤ mm_ln h (r + 1)) : ∃ h', bd_X6_putLowFirst r v (nI t) h = some (none, h') ∧ rr_M h' (va_up M r (M r ++ rr_low v t 0)) ∧ rr_F h h' :=
  sp_putLow v t ht t 0 mm_fu h M R hr hl (by unfold mm_fu; omega) (by omega)
/-- zeros up to a whole number of sixteens -/
def rr_pad (n : Nat) : Nat := (16 - n % 16) % 16
theorem rr_rem {n : Nat} (hn : n < 2 ^ 31) : mm_rem (nI n) 16 = nI (n % 16) := pk_rem (d := 16) hn (by decide) (by decide)
theorem sp_fill : ∀ (s n : Nat) (h : mm_H) (M : Nat → List Int32), rr_M h M → mm_kd h r = 5 → rr_pad (M r).length = s → (M r).length + s ≤ mm_ln h (r + 1) → s < n → ∃ h', lp_X6_fillUp_0 n r 16 h = some (none, h') ∧ rr_M h' (va_up M r (M r ++ List.replicate s 0)) ∧ rr_F h h' := by
  intro s
  induction s with
  | zero =>
    intro n h M R hr hp hl hn
    obtain ⟨n, rfl⟩ : ∃ k, n = k + 1 := ⟨n - 1, by omega⟩
    obtain ⟨g1, g2, g3, g4, g5, g6, g7, g8⟩ := R r hr
    have h0 : (M r).length % 16 = 0 := by unfold rr_pad at hp; omega
    rw [lp_X6_fillUp_0, if_neg (by decide), if_pos (by decide), g4, rr_rem (by omega), h0, if_pos (by rfl)]
    refine ⟨h, rfl, ?_, rr_F.rf⟩
    rw [List.replicate_zero, List.append_nil, vu_self]; exact R
  | succ s ih =>
    intro n h M R hr hp hl hn
    obtain ⟨n, rfl⟩ : ∃ k, n = k + 1 := ⟨n - 1, by omega⟩
    obtain ⟨g1, g2, g3, g4, g5, g6, g7, g8⟩ := R r hr
    have h0 : (M r).length % 16 ≠ 0 := by unfold rr_pad at hp; omega
    rw [lp_X6_fillUp_0, if_neg (by decide), if_pos (by decide), g4, rr_rem (by omega), if_neg (nI_ne0 (by omega) (by omega))]
    simp only [mm_gr, g1, Option.bind_some]
    rw [if_neg (by rw [nI_leI (by omega) (by omega)]; omega), if_pos ⟨by omega, rr_in (by omega) (by omega)⟩, rr_n (by omega)]
    simp only [mm_bh]
    have e9 : mm_i (mm_si h (r + 1) (M r).length 0) r 1 + 1 = nI ((M r).length + 1) := by rw [mi_na (by omega), g4, nI_1]
    obtain ⟨R1, F1⟩ := rr_app R hr (by omega) (by decide : (0 : Int32) &&& 255 = 0) e9
    obtain ⟨h', q1, q2, q3⟩ := ih n _ _ R1 (by rw [F1.kd]; exact hr) (by rw [vu_at]; unfold rr_pad at hp ⊢; simp; omega) (by rw [F1.ln, vu_at]; simp; omega) (by omega)
    refine ⟨h', q1, ?_, F1.tr q3⟩
    rw [vu_at, vu_uu] at q2
    simpa [List.replicate_succ] using q2
theorem sp_X6_fillUp {h : mm_H} {M : Nat → List Int32} (R : rr_M h M) (hr : mm_kd h r = 5) (hl : (M r).length + rr_pad (M r).length ≤ mm_ln h (r + 1)) : ∃ h', bd_X6_fillUp r 16 h = some (none, h') ∧ rr_M h' (va_up M r (M r ++ List.replicate (rr_pad (M r).length) 0)) ∧ rr_F h h' :=
  sp_fill _ mm_fu h M R hr rfl hl (by unfold mm_fu rr_pad; omega)
/-- a table's ints behind a row -/
theorem sp_putAll {a : Nat} (l : List Int32) : ∀ (s n k : Nat) (h : mm_H) (M : Nat → List Int32), rr_M h M → mm_kd h r = 5 → ¬ rr_ish h a → mm_ln h a = l.length → l.length < 1000 → (∀ j, j < l.length → mm_i h a j = l.getD j 0) → (∀ x ∈ l, x &&& 255 = x) → k + s = l.length → (M r).length + s ≤ mm_ln h (r + 1) → s < n → ∃ h', lp_X6_putAll_2 n r a (nI k) h = some (none, h') ∧ rr_M h' (va_up M r (M r ++ l.drop k)) ∧ rr_F h h' := by
  intro s
  induction s with
  | zero =>
    intro n k h M R hr hi hla hl1 hv hb hk hl hn
    obtain ⟨n, rfl⟩ : ∃ k, n = k + 1 := ⟨n - 1, by omega⟩
    rw [lp_X6_putAll_2, hla, if_pos (by rw [nI_leI (by omega) (by omega)]; omega)]
    refine ⟨h, rfl, ?_, rr_F.rf⟩
    rw [List.drop_eq_nil_of_le (by omega), List.append_nil, vu_self]; exact R
  | succ s ih =>
    intro n k h M R hr hi hla hl1 hv hb hk hl hn
    obtain ⟨n, rfl⟩ : ∃ k, n = k + 1 := ⟨n - 1, by omega⟩
    rw [lp_X6_putAll_2, hla, if_neg (by rw [nI_leI (by omega) (by omega)]; omega), if_pos (rr_in (by omega) (by omega)), rr_n (by omega), hv k (by omega)]
    obtain ⟨h1, p1, R1, F1⟩ := sp_X6_put R hr (l.getD k 0)
    rw [p1, mm_qv_s, nI_1]
    have hx : l.getD k 0 &&& 255 = l.getD k 0 := hb _ (by simp [List.getD_eq_getElem?_getD, show k < l.length by omega])
    rw [hx, List.take_of_length_le (by simp; omega)] at R1
    have hia : ¬ rr_ish h1 a := fun z => hi (by
      rcases z with z | ⟨x, z1, z2⟩
      · exact Or.inl (by rw [← F1.kd]; exact z)
      · exact Or.inr ⟨x, z1, by rw [← F1.kd]; exact z2⟩)
    obtain ⟨h', q1, q2, q3⟩ := ih n (k + 1) h1 _ R1 (by rw [F1.kd]; exact hr) hia (by rw [F1.ln]; exact hla) hl1 (fun j hj => by show h1.2.1 a j = _; rw [F1.2.2 a hi]; exact hv j hj) hb (by omega) (by rw [F1.ln, vu_at]; simp; omega) (by omega)
    refine ⟨h', q1, ?_, F1.tr q3⟩
    rw [vu_at, vu_uu] at q2
    rw [rr_drop (show k < l.length by omega)]
    simpa using q2
theorem sp_X6_putAll {a : Nat} {h : mm_H} {M : Nat → List Int32} (l : List Int32) (R : rr_M h M) (hr : mm_kd h r = 5) (hi : ¬ rr_ish h a) (hla : mm_ln h a = l.length) (hl1 : l.length < 1000) (hv : ∀ j, j < l.length → mm_i h a j = l.getD j 0) (hb : ∀ x ∈ l, x &&& 255 = x) (hl : (M r).length + l.length ≤ mm_ln h (r + 1)) : ∃ h', bd_X6_putAll r a h = some (none, h') ∧ rr_M h' (va_up M r (M r ++ l)) ∧ rr_F h h' := by
  obtain ⟨h', q1, q2, q3⟩ := sp_putAll l l.length mm_fu 0 h M R hr hi hla hl1 hv hb (by omega) hl (by unfold mm_fu; omega)
  exact ⟨h', q1, by simpa using q2, q3⟩
/-- the row o stands in the row r at the place k -/
theorem sp_hasAt {h : mm_H} {M : Nat → List Int32} (R : rr_M h M) (hr : mm_kd h r = 5) (ho : mm_kd h o = 5) {p : Nat} (hp : p + (M o).length ≤ (M r).length) : ∀ (s n k : Nat), k + s = (M o).length → s < n → (∀ j, j < k → (M r).getD (p + j) 0 = (M o).getD j 0) → lp_X6_hasAt_21 n r (nI p) o (nI k) h = some (some (.int (if ((M r).drop p).take (M o).length = M o then 1 else 0)), h) := by
  intro s
  obtain ⟨g1, g2, g3, g4, g5, g6, g7, g8⟩ := R r hr
  obtain ⟨f1, f2, f3, f4, f5, f6, f7, f8⟩ := R o ho
  induction s with
  | zero =>
    intro n k hk hn hj
    obtain ⟨n, rfl⟩ : ∃ k, n = k + 1 := ⟨n - 1, by omega⟩
    rw [lp_X6_hasAt_21, f4, if_pos (by rw [nI_leI (by omega) (by omega)]; omega), if_pos]
    apply List.ext_getElem?
    intro j
    by_cases hjl : j < (M o).length
    · have := hj j (by omega)
      simp only [List.getD_eq_getElem?_getD] at this
      rw [List.getElem?_take, if_pos hjl, List.getElem?_drop]
      rw [List.getElem?_eq_getElem (show p + j < (M r).length by omega), List.getElem?_eq_getElem hjl] at this ⊢
      simpa using this
    · rw [List.getElem?_eq_none (by simp; omega), List.getElem?_eq_none (by omega)]
  | succ s ih =>
    intro n k hk hn hj
    obtain ⟨n, rfl⟩ : ∃ k, n = k + 1 := ⟨n - 1, by omega⟩
    rw [lp_X6_hasAt_21, f4, if_neg (by rw [nI_leI (by omega) (by omega)]; omega)]
    simp only [mm_gr, g1, f1, Option.bind_some]
    rw [nI_add, if_pos (rr_in (by omega) (by omega)), if_pos (rr_in (by omega) (by omega)), rr_n (by omega), rr_n (by omega), g7 _ (by omega), f7 _ (by omega)]
    by_cases c : (M r).getD (p + k) 0 = (M o).getD k 0
    · rw [if_pos c, nI_1]
      exact ih n (k + 1) (by omega) (by omega) (fun j hj2 => by
        by_cases e : j = k
        · subst e; exact c
        · exact hj j (by omega))
    · rw [if_neg c, if_neg]
      intro z
      apply c
      have := congrArg (fun l => l[k]?) z
      simp only [List.getElem?_take, if_pos (show k < (M o).length by omega), List.getElem?_drop] at this
      simp only [List.getD_eq_getElem?_getD, this]
theorem sp_X6_hasAt {h : mm_H} {M : Nat → List Int32} (R : rr_M h M) (hr : mm_kd h r = 5) (ho : mm_kd h o = 5) {p : Nat} (hp : p < 2 ^ 30) : bd_X6_hasAt r (nI p) o h = some (some (.int (if p + (M o).length ≤ (M r).length ∧ ((M r).drop p).take (M o).length = M o then 1 else 0)), h) := by
  obtain ⟨g1, g2, g3, g4, g5, g6, g7, g8⟩ := R r hr
  obtain ⟨f1, f2, f3, f4, f5, f6, f7, f8⟩ := R o ho
  unfold bd_X6_hasAt
  rw [if_neg (nI_pos (by omega)), g4, f4]
  have e : (nI (M r).length - nI (M o).length).toInt = ((M r).length : Int) - (M o).length := pk_sub_toInt (by omega) (by omega)
  by_cases c : p + (M o).length ≤ (M r).length
  · rw [if_pos (by rw [Int32.le_iff_toInt_le, e, nI_toInt (by omega)]; omega)]
    have hz := sp_hasAt R hr ho c (M o).length mm_fu 0 (by omega) (by unfold mm_fu; omega) (fun j hj => by omega)
    rw [nI_0] at hz
    rw [hz]
    simp [c]
  · rw [if_neg (by rw [Int32.le_iff_toInt_le, e, nI_toInt (by omega)]; omega)]
    simp [c]
theorem sp_X6_same {h : mm_H} {M : Nat → List Int32} (R : rr_M h M) (hr : mm_kd h r = 5) (ho : mm_kd h o = 5) : bd_X6_same r o h = some (some (.int (if M r = M o then 1 else 0)), h) := by
  have hcr := R.cap hr
  have hco := R.cap ho
  unfold bd_X6_same
  rw [(R r hr).2.2.2.1, (R o ho).2.2.2.1]
  by_cases c : (M r).length = (M o).length
  · have hh := sp_X6_hasAt R hr ho (p := 0) (by omega)
    rw [nI_0] at hh
    have ec : (0 + (M o).length ≤ (M r).length ∧ List.take (M o).length (List.drop 0 (M r)) = M o) ↔ M r = M o := by
      rw [← c, List.drop_zero, List.take_length]
      exact ⟨fun z => z.2, fun z => ⟨by omega, z⟩⟩
    rw [if_pos (by rw [c]), hh, mm_qi_s]
    by_cases c2 : M r = M o
    · simp [ec, c2]
    · simp only [ec, c2, if_false, if_pos]
  · rw [if_neg (by rw [nI_eq (by omega) (by omega)]; exact c), if_neg (fun z => c (by rw [z]))]
theorem sp_X6_flip {h : mm_H} {M : Nat → List Int32} (R : rr_M h M) (hr : mm_kd h r = 5) {k : Nat} {x : Int32} (hk : k < (M r).length) (hx : x &&& 255 = x) : ∃ h', bd_X6_flip r (nI k) x h = some (some (.int 1), h') ∧ rr_M h' (va_up M r ((M r).set k ((M r).getD k 0 ^^^ x))) ∧ rr_F h h' := by
  obtain ⟨g1, g2, g3, g4, g5, g6, g7, g8⟩ := R r hr
  unfold bd_X6_flip
  rw [if_neg (nI_pos (by omega)), g4, if_pos (by rw [nI_ltI (by omega) (by omega)]; exact hk)]
  simp only [mm_gr, g1, Option.bind_some]
  rw [if_pos (rr_in (by omega) (by omega)), if_pos ⟨by omega, rr_in (by omega) (by omega)⟩, rr_n (by omega), g7 k hk]
  refine ⟨_, rfl, ?_⟩
  refine rr_set R hr rfl rfl (fun a h1 h2 => mm_si_ne h2) (by rw [mi_na (by omega), g4]; simp) (by simp; omega) (fun j hj => ?_) (fun z hz => ?_)
  · simp at hj
    by_cases e : j = k
    · subst e; rw [mi_eq]; simp [List.getD_eq_getElem?_getD, hk]
    · rw [mi_nk e, g7 j hj]; simp [List.getD_eq_getElem?_getD, List.getElem?_set_ne (Ne.symm e)]
  · rcases List.mem_or_eq_of_mem_set hz with z1 | z1
    · exact g8 z z1
    · rw [z1]
      have hy : (M r).getD k 0 &&& 255 = (M r).getD k 0 := g8 _ (by simp [List.getD_eq_getElem?_getD, hk])
      rw [xor255, hy, hx]
end ROWD
