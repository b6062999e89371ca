/-! ===== Rows: the rest of their methods ===== -/
section ROWC
variable {h : mm_H} {M : Nat → List Int32} {r o : Nat}
theorem rr_M.cap (R : rr_M h M) (hr : mm_kd h r = 5) : (M r).length ≤ mm_ln h (r + 1) ∧ mm_ln h (r + 1) ≤ 5000 := ⟨(R r hr).2.2.2.2.1, (R r hr).2.2.2.2.2.1⟩
theorem sp_X6_append (R : rr_M h M) (hr : mm_kd h r = 5) (ho : mm_kd h o = 5) (hne : r ≠ o) : ∃ h', bd_X6_append r o h = some (none, h') ∧ rr_M h' (va_up M r ((M r ++ M o).take (mm_ln h (r + 1)))) ∧ rr_F h h' := by
  have hc := R.cap ho
  obtain ⟨h', q1, q2, q3⟩ := sp_X6_appendPart (t := (M o).length) (k := 0) R hr ho hne (by omega) (by omega)
  refine ⟨h', ?_, ?_, q3⟩
  · unfold bd_X6_append
    rw [(R o ho).2.2.2.1]
    rw [nI_0] at q1
    rw [q1]; rfl
  · rw [List.take_length, List.drop_zero] at q2; exact q2
theorem sp_X6_copyPart {k t : Nat} (R : rr_M h M) (hr : mm_kd h r = 5) (ho : mm_kd h o = 5) (hne : r ≠ o) (ht : t < 2 ^ 31) (hk : k < 2 ^ 30) : ∃ h', bd_X6_copyPart r o (nI k) (nI t) h = some (none, h') ∧ rr_M h' (va_up M r ((((M o).take t).drop k).take (mm_ln h (r + 1)))) ∧ rr_F h h' := by
  obtain ⟨R1, F1⟩ := rr_clear R hr
  obtain ⟨h', q1, q2, q3⟩ := sp_X6_appendPart (t := t) (k := k) R1 (by rw [F1.kd]; exact hr) (by rw [F1.kd]; exact ho) hne ht hk
  refine ⟨h', ?_, ?_, F1.tr q3⟩
  · unfold bd_X6_copyPart
    simp only [mm_bh]
    rw [q1]; rfl
  · rw [F1.ln, vu_at, vu_off (Ne.symm hne), List.nil_append] at q2
    have e : ∀ X : List Int32, va_up (va_up M r []) r X = va_up M r X := fun X => by funext z; by_cases hz : z = r <;> simp [va_up, hz]
    rw [e] at q2; exact q2
theorem sp_X6_copy (R : rr_M h M) (hr : mm_kd h r = 5) (ho : mm_kd h o = 5) (hne : r ≠ o) : ∃ h', bd_X6_copy r o h = some (none, h') ∧ rr_M h' (va_up M r ((M o).take (mm_ln h (r + 1)))) ∧ rr_F h h' := by
  have hc := R.cap ho
  obtain ⟨h', q1, q2, q3⟩ := sp_X6_copyPart (t := (M o).length) (k := 0) R hr ho hne (by omega) (by omega)
  refine ⟨h', ?_, ?_, q3⟩
  · have e : mm_i (mm_si h r 1 0) o 1 = nI (M o).length := by rw [mi_na (Ne.symm hne)]; exact (R o ho).2.2.2.1
    unfold bd_X6_copyPart at q1
    unfold bd_X6_copy
    simp only [mm_bh] at q1 ⊢
    rw [e]; rw [nI_0] at q1; exact q1
  · rw [List.take_length, List.drop_zero] at q2; exact q2
def rr_at (l : List Int32) (x : Int32) : Int32 := if x < 0 then -1 else if nI l.length ≤ x then -1 else l.getD (mm_n x) 0
theorem rr_at_n {l : List Int32} {k : Nat} (hk : k < 2 ^ 31) (hl : l.length < 2 ^ 31) : rr_at l (nI k) = if k < l.length then l.getD k 0 else -1 := by
  unfold rr_at
  rw [if_neg (nI_pos hk)]
  by_cases c : k < l.length
  · rw [if_neg (by rw [nI_leI hl hk]; omega), if_pos c, rr_n hk]
  · rw [if_pos (by rw [nI_leI hl hk]; omega), if_neg c]
theorem sp_X6_at (R : rr_M h M) (hr : mm_kd h r = 5) (x : Int32) : bd_X6_at r x h = some (some (.int (rr_at (M r) x)), h) := by
  obtain ⟨g1, g2, g3, g4, g5, g6, g7, g8⟩ := R r hr
  unfold bd_X6_at rr_at
  rw [g4]
  by_cases c1 : x < 0
  · rw [if_pos c1, if_pos c1]
  · rw [if_neg c1, if_neg c1]
    by_cases c2 : nI (M r).length ≤ x
    · rw [if_pos c2, if_pos c2]
    · rw [if_neg c2, if_neg c2]
      obtain ⟨k, hk, rfl⟩ := nI_of c1
      rw [nI_leI (by omega) hk] at c2
      simp only [mm_gr, g1, Option.bind_some]
      rw [if_pos (rr_in (by omega) (by omega)), rr_n hk, g7 k (by omega)]
theorem sp_X6_twoAt {k : Nat} (R : rr_M h M) (hr : mm_kd h r = 5) (hk : k < 2 ^ 30) : bd_X6_twoAt r (nI k) h = some (some (.int (if k + 1 < (M r).length then mm_shl ((M r).getD k 0) 8 ||| (M r).getD (k + 1) 0 else -1)), h) := by
  obtain ⟨g1, g2, g3, g4, g5, g6, g7, g8⟩ := R r hr
  unfold bd_X6_twoAt
  rw [g4, if_neg (nI_pos (by omega))]
  by_cases c : k + 1 < (M r).length
  · rw [if_pos c]
    rw [if_neg (by rw [show ((1 : Int32)) = nI 1 from rfl, pk_sub (by omega), nI_leI (by omega) (by omega)]; omega)]
    simp only [mm_gr, g1, Option.bind_some]
    rw [show (nI k + (1 : Int32)) = nI (k + 1) from nI_1 k, if_pos (rr_in (by omega) (by omega)), if_pos (rr_in (by omega) (by omega)), rr_n (by omega), rr_n (by omega), g7 k (by omega), g7 (k + 1) (by omega)]
  · rw [if_neg c, if_pos]
    rcases Nat.eq_zero_or_pos (M r).length with z | z
    · rw [z, Int32.le_iff_toInt_le, nI_toInt (by omega)]
      have : (nI 0 - (1 : Int32)).toInt = -1 := by decide
      omega
    · rw [show ((1 : Int32)) = nI 1 from rfl, pk_sub (by omega), nI_leI (by omega) (by omega)]; omega
theorem sp_X6_four {k : Nat} (R : rr_M h M) (hr : mm_kd h r = 5) (hk : k + 3 < (M r).length) : bd_X6_fourLowFirst r (nI k) h = some (some (.int ((((M r).getD k 0 ||| mm_shl ((M r).getD (k + 1) 0) 8) ||| mm_shl ((M r).getD (k + 2) 0) 16) ||| mm_shl ((M r).getD (k + 3) 0) 24)), h) := by
  obtain ⟨g1, g2, g3, g4, g5, g6, g7, g8⟩ := R r hr
  unfold bd_X6_fourLowFirst
  rw [g4, if_neg (nI_pos (by omega)), if_pos (by rw [show ((3 : Int32)) = nI 3 from rfl, pk_sub (by omega), nI_ltI (by omega) (by omega)]; omega)]
  simp only [mm_gr, g1, Option.bind_some]
  rw [show (nI k + (1 : Int32)) = nI (k + 1) from nI_add k 1, show (nI k + (2 : Int32)) = nI (k + 2) from nI_add k 2, show (nI k + (3 : Int32)) = nI (k + 3) from nI_add k 3]
  rw [if_pos (rr_in (by omega) (by omega)), if_pos (rr_in (by omega) (by omega)), if_pos (rr_in (by omega) (by omega)), if_pos (rr_in (by omega) (by omega)), rr_n (by omega), rr_n (by omega), rr_n (by omega), rr_n (by omega), g7 k (by omega), g7 (k + 1) (by omega), g7 (k + 2) (by omega), g7 (k + 3) (by omega)]
theorem sp_X6_cut {k : Nat} (R : rr_M h M) (hr : mm_kd h r = 5) (hk : k < 2 ^ 30) : ∃ h', bd_X6_cut r (nI k) h = some (none, h') ∧ rr_M h' (va_up M r ((M r).take k)) ∧ rr_F h h' := by
  obtain ⟨g1, g2, g3, g4, g5, g6, g7, g8⟩ := R r hr
  unfold bd_X6_cut
  rw [g4, if_neg (nI_pos (by omega))]
  by_cases c : (M r).length ≤ k
  · rw [if_pos (by rw [nI_leI (by omega) (by omega)]; exact c)]
    refine ⟨h, rfl, ?_, rr_F.rf⟩
    rw [List.take_of_length_le c, vu_self]; exact R
  · rw [if_neg (by rw [nI_leI (by omega) (by omega)]; exact c)]
    refine ⟨_, rfl, ?_⟩
    refine rr_set R hr rfl rfl (fun a h1 h2 => mm_si_ne h1) (by rw [mi_eq, List.length_take, Nat.min_eq_left (by omega)]) (by simp; omega) (fun j hj => ?_) (fun x hx => g8 x (List.mem_of_mem_take hx))
    rw [List.length_take] at hj
    rw [mi_na (by omega), g7 j (by omega)]
    simp [List.getD_eq_getElem?_getD, List.getElem?_take, show j < k by omega]
def rr_num (v : Int32) : Nat → List Int32
  | 0 => []
  | n + 1 => (mm_ush v ((8 : Int32) * nI n) &&& 255) :: rr_num v n
theorem rr_num_len (v : Int32) (n : Nat) : (rr_num v n).length = n := by induction n with
  | zero => rfl
  | succ n ih => simp [rr_num, ih]
theorem nI_m1 (n : Nat) : nI (n + 1) - 1 = nI n := nI_pred n
theorem sp_putNumber (v : Int32) : ∀ (s n : Nat) (h : mm_H) (M : Nat → List Int32), rr_M h M → mm_kd h r = 5 → (M r).length + s ≤ mm_ln h (r + 1) → s < n → s < 1000 → ∃ h', lp_X6_putNumber_4 n r v (nI s - 1) h = some (none, h') ∧ rr_M h' (va_up M r (M r ++ rr_num v s)) ∧ rr_F h h' := by
  intro s
  induction s with
  | zero =>
    intro n h M R hr hl hn _
    obtain ⟨n, rfl⟩ : ∃ k, n = k + 1 := ⟨n - 1, by omega⟩
    rw [lp_X6_putNumber_4, if_pos (by decide)]
    refine ⟨h, rfl, ?_, rr_F.rf⟩
    rw [rr_num, List.append_nil, vu_self]; exact R
  | succ s ih =>
    intro n h M R hr hl hn hs
    obtain ⟨n, rfl⟩ : ∃ k, n = k + 1 := ⟨n - 1, by omega⟩
    obtain ⟨g1, g2, g3, g4, g5, g6, g7, g8⟩ := R r hr
    rw [nI_m1, lp_X6_putNumber_4, if_neg (nI_pos (by omega))]
    simp only [mm_gr, g1, Option.bind_some, g4]
    rw [if_neg (by rw [nI_leI (by omega) (by omega)]; omega), if_pos ⟨by omega, rr_in (by omega) (by omega)⟩, rr_n (by omega)]
    simp only [mm_bh]
    have e9 : mm_i (mm_si h (r + 1) (M r).length (mm_ush v ((8 : Int32) * nI s) &&& 255)) r 1 + 1 = nI ((M r).length + 1) := by rw [mi_na (by omega), g4, nI_1]
    obtain ⟨R1, F1⟩ := rr_app R hr (by omega) (and255 _) e9
    obtain ⟨h', q1, q2, q3⟩ := ih n _ _ R1 (by rw [F1.kd]; exact hr) (by rw [F1.ln, vu_at]; simp; omega) (by omega) (by omega)
    refine ⟨h', ?_, ?_, F1.tr q3⟩
    · rw [show nI s + (-1) = nI s - 1 by rw [Int32.sub_eq_add_neg]] 
      exact q1
    · rw [vu_at] at q2
      have e : ∀ X : List Int32, va_up (va_up M r X) r (X ++ rr_num v s) = va_up M r (X ++ rr_num v s) := fun X => by funext z; by_cases hz : z = r <;> simp [va_up, hz]
      rw [e] at q2
      simpa [rr_num] using q2
theorem sp_X6_putNumber {s : Nat} (v : Int32) (R : rr_M h M) (hr : mm_kd h r = 5) (hl : (M r).length + s ≤ mm_ln h (r + 1)) (hs : s < 1000) : ∃ h', bd_X6_putNumber r v (nI s) h = some (none, h') ∧ rr_M h' (va_up M r (M r ++ rr_num v s)) ∧ rr_F h h' :=
  sp_putNumber v s mm_fu h M R hr hl (by unfold mm_fu; omega) hs
end ROWC
