/-! ===== Rows: copying, reading, comparing ===== -/
theorem rr_drop {l : List Int32} {k : Nat} (h : k < l.length) : l.drop k = l.getD k 0 :: l.drop (k + 1) := by
  rw [List.drop_eq_getElem_cons h]; simp [List.getD_eq_getElem?_getD, h]
theorem sp_append {r o t : Nat} (ht : t < 2 ^ 31) : ∀ (n k : Nat) (h : mm_H) (M : Nat → List Int32), rr_M h M → mm_kd h r = 5 → mm_kd h o = 5 → r ≠ o → (M o).length < k + n → 0 < n → k < 2 ^ 30 → ∃ h', lp_X6_appendPart_3 n r o (nI t) (nI k) h = some (none, h') ∧ rr_M h' (va_up M r ((M r ++ ((M o).take t).drop k).take (mm_ln h (r + 1)))) ∧ rr_F h h' := by
  intro n
  induction n with
  | zero => intro k h M _ _ _ _ _ h0; omega
  | succ n ih =>
    intro k h M R hr ho hne hlen _ hk
    obtain ⟨g1, g2, g3, g4, g5, g6, g7, g8⟩ := R r hr
    obtain ⟨f1, f2, f3, f4, f5, f6, f7, f8⟩ := R o ho
    have stop : (((M o).take t).drop k = [] ∨ ¬ (M r).length < mm_ln h (r + 1)) → ∃ h', (some (none, h) : mm_O) = some (none, h') ∧ rr_M h' (va_up M r ((M r ++ ((M o).take t).drop k).take (mm_ln h (r + 1)))) ∧ rr_F h h' := by
      intro hz
      refine ⟨h, rfl, ?_, rr_F.rf⟩
      have e : (M r ++ ((M o).take t).drop k).take (mm_ln h (r + 1)) = M r := by
        rcases hz with hz | hz
        · rw [hz, List.append_nil, List.take_of_length_le g5]
        · rw [List.take_append_of_le_length (by omega), List.take_of_length_le g5]
      rw [e, vu_self]; exact R
    rw [lp_X6_appendPart_3]
    simp only [mm_gr, g1, f1, f4, g4, Option.bind_some]
    rw [if_neg (nI_pos (by omega))]
    by_cases c1 : t ≤ k
    · rw [if_pos ((nI_leI ht (by omega)).mpr c1)]
      exact stop (Or.inl (List.drop_eq_nil_of_le (by simp; omega)))
    · rw [if_neg (by rw [nI_leI ht (by omega)]; exact c1)]
      by_cases c2 : (M o).length ≤ k
      · rw [if_pos ((nI_leI (by omega) (by omega)).mpr c2)]
        exact stop (Or.inl (List.drop_eq_nil_of_le (by simp; omega)))
      · rw [if_neg (by rw [nI_leI (by omega) (by omega)]; exact c2)]
        by_cases c3 : mm_ln h (r + 1) ≤ (M r).length
        · rw [if_pos ((nI_leI (by omega) (by omega)).mpr c3)]
          exact stop (Or.inr (by omega))
        · rw [if_neg (by rw [nI_leI (by omega) (by omega)]; exact c3), if_pos (rr_in (by omega) (by omega)), if_pos ⟨by omega, rr_in (by omega) (by omega)⟩, rr_n (by omega), rr_n (by omega), f7 k (by omega)]
          have hx : (M o).getD k 0 &&& 255 = (M o).getD k 0 := f8 _ (by
            have hk2 : k < (M o).length := by omega
            simp [List.getD_eq_getElem?_getD, hk2])
          simp only [mm_bh]
          have e9 : mm_i (mm_si h (r + 1) (M r).length ((M o).getD k 0)) r 1 + 1 = nI ((M r).length + 1) := by rw [mi_na (by omega), g4, nI_1]
          obtain ⟨R1, F1⟩ := rr_app R hr (by omega) hx e9
          rw [nI_1]
          obtain ⟨h', q1, q2, q3⟩ := ih (k + 1) _ _ R1 (by rw [F1.kd]; exact hr) (by rw [F1.kd]; exact ho) hne (by rw [vu_off (Ne.symm hne)]; omega) (by omega) (by omega)
          refine ⟨h', q1, ?_, F1.tr q3⟩
          rw [F1.ln, vu_at, vu_off (Ne.symm hne)] at q2
          have e : va_up (va_up M r (M r ++ [(M o).getD k 0])) r ((M r ++ [(M o).getD k 0] ++ ((M o).take t).drop (k + 1)).take (mm_ln h (r + 1))) = va_up M r ((M r ++ ((M o).take t).drop k).take (mm_ln h (r + 1))) := by
            have e2 : ((M o).take t).drop k = (M o).getD k 0 :: ((M o).take t).drop (k + 1) := by
              rw [rr_drop (by simp; omega)]
              congr 1
              simp [List.getD_eq_getElem?_getD, List.getElem?_take, show k < t by omega]
            rw [e2]
            funext z
            by_cases hz : z = r
            · subst hz; simp [va_up]
            · simp [va_up, hz]
          rw [e] at q2
          exact q2
theorem sp_X6_appendPart {h : mm_H} {M : Nat → List Int32} {r o t k : Nat} (R : rr_M h M) (hr : mm_kd h r = 5) (ho : mm_kd h o = 5) (hne : r ≠ o) (ht : t < 2 ^ 31) (hk : k < 2 ^ 30) : ∃ h', bd_X6_appendPart r o (nI k) (nI t) h = some (none, h') ∧ rr_M h' (va_up M r ((M r ++ ((M o).take t).drop k).take (mm_ln h (r + 1)))) ∧ rr_F h h' :=
  sp_append ht mm_fu k h M R hr ho hne (by have h1 := (R o ho).2.2.2.2.1; have h2 := (R o ho).2.2.2.2.2.1; unfold mm_fu; omega) (by unfold mm_fu; omega) hk
