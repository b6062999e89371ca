/-! ===== texts, and HKDF-Expand-Label: Kdf.expand ===== -/
/-- the text at the address a -/
def tx_l (a : Nat) : List Int32 := st_byt.getD (a - 10) []
theorem tx_b : ∀ a, a < 21 → 10 ≤ a → ∀ x ∈ tx_l a, x &&& 255 = x := by decide +kernel
theorem tx_n : ∀ a, a < 21 → 10 ≤ a → (tx_l a).length ≤ 12 ∧ 0 < (tx_l a).length ∧ ((sk_sh 0).getD (a + 11) (99, 0)).2 = (tx_l a).length := by decide +kernel
theorem tx_c : ∀ a, a < 21 → 10 ≤ a → ∀ k, k < (tx_l a).length → st_i (fun _ => 0) (a + 11) k = (tx_l a).getD k 0 ∧ mm_c16 ((tx_l a).getD k 0 &&& 255) = (tx_l a).getD k 0 ∧ narrow .char (.int ((tx_l a).getD k 0)) = .int ((tx_l a).getD k 0) := by decide +kernel
section TXT
variable {L : Nat}
theorem sp_len {h : mm_H} {a : Nat} (T : sk_T L h) (ha : a < 21) (h10 : 10 ≤ a) : bd_J0_length_8abf5 a h = some (some (.int (nI (tx_l a).length)), h) := by
  obtain ⟨n1, n2, n3⟩ := tx_n a ha h10
  unfold bd_J0_length_8abf5 bd_J0_coder_7d493
  rw [if_pos (by omega), if_pos (by omega), if_neg (by decide), if_pos (by omega), mm_qi_s, sk_ln T.1 (by omega) n3]
  unfold mm_shr
  rw [sc_shr0 (by omega)]
theorem sp_chr {h : mm_H} {a k : Nat} (T : sk_T L h) (ha : a < 21) (h10 : 10 ≤ a) (hk : k < (tx_l a).length) : bd_J0_charAt_5068e a (nI k) h = some (some (.int ((tx_l a).getD k 0)), h) := by
  obtain ⟨n1, n2, n3⟩ := tx_n a ha h10
  obtain ⟨c1, c2, c3⟩ := tx_c a ha h10 k hk
  have l1 : mm_ln h (a + 11) = (tx_l a).length := sk_ln T.1 (by omega) n3
  unfold bd_J0_charAt_5068e bd_J0_isLatin1_aae02 bd_J1_charAt_3b067 bd_J0_checkIndex_df160
  rw [if_pos (by omega), if_neg (by decide), if_pos (by omega), if_pos (by decide), mm_qi_s, if_neg (by decide), if_pos (by omega), l1]
  rw [if_pos ⟨nI_pos (by omega), (nI_ltI (by omega) (by omega)).mpr hk⟩, mm_qv_s, l1, if_pos (rr_in hk (by omega)), rr_n (by omega)]
  have e : mm_i h (a + 11) k = (tx_l a).getD k 0 := by
    show h.2.1 (a + 11) k = _
    rw [T.2.1 (a + 11) (by omega) (by omega)]; exact c1
  rw [e, mm_qi_s, c2, if_pos c3]
theorem sp_putText {r a : Nat} (ha : a < 21) (h10 : 10 ≤ a) : ∀ (s n k : Nat) (h : mm_H) (M : Nat → List Int32), rr_M h M → sk_T L h → mm_kd h r = 5 → k + s = (tx_l a).length → (M r).length + s ≤ mm_ln h (r + 1) → s < n → ∃ h', lp_X6_putText_2 n r a (nI k) h = some (none, h') ∧ rr_M h' (va_up M r (M r ++ (tx_l a).drop k)) ∧ rr_F h h' := by
  intro s
  obtain ⟨n1, n2, n3⟩ := tx_n a ha h10
  induction s with
  | zero =>
    intro n k h M R T hr hk hl hn
    obtain ⟨n, rfl⟩ : ∃ k, n = k + 1 := ⟨n - 1, by omega⟩
    rw [lp_X6_putText_2, if_pos (by omega), sp_len T ha h10, mm_qi_s, if_pos (by rw [nI_leI (by omega) (by omega)]; omega)]
    refine ⟨h, rfl, ?_, rr_F.rf⟩
    rw [List.drop_eq_nil_of_le (by omega), List.append_nil, vu_self]; exact R
  | succ s ih =>
    intro n k h M R T hr hk hl hn
    obtain ⟨n, rfl⟩ : ∃ k, n = k + 1 := ⟨n - 1, by omega⟩
    rw [lp_X6_putText_2, if_pos (by omega), sp_len T ha h10, mm_qi_s, if_neg (by rw [nI_leI (by omega) (by omega)]; omega), if_pos (by omega), sp_chr T ha h10 (by omega), mm_qi_s]
    obtain ⟨h1, p1, R1, F1⟩ := sp_X6_put R hr ((tx_l a).getD k 0)
    rw [p1, mm_qv_s, nI_1]
    have hx : (tx_l a).getD k 0 &&& 255 = (tx_l a).getD k 0 := tx_b a ha h10 _ (by simp [List.getD_eq_getElem?_getD, show k < (tx_l a).length by omega])
    rw [hx, List.take_of_length_le (by simp; omega)] at R1
    obtain ⟨h', q1, q2, q3⟩ := ih n (k + 1) h1 _ R1 (T.X F1.X) (by rw [F1.kd]; exact hr) (by omega) (by rw [F1.ln, vu_at]; simp; omega) (by omega)
    refine ⟨h', q1, ?_, F1.tr q3⟩
    rw [vu_at, vu_uu] at q2
    rw [rr_drop (show k < (tx_l a).length by omega)]
    simpa using q2
theorem sp_X6_putText {h : mm_H} {M : Nat → List Int32} {r a : Nat} (ha : a < 21) (h10 : 10 ≤ a) (R : rr_M h M) (T : sk_T L h) (hr : mm_kd h r = 5) (hl : (M r).length + (tx_l a).length ≤ mm_ln h (r + 1)) : ∃ h', bd_X6_putText r a h = some (none, h') ∧ rr_M h' (va_up M r (M r ++ tx_l a)) ∧ rr_F h h' := by
  obtain ⟨n1, n2, n3⟩ := tx_n a ha h10
  obtain ⟨h', q1, q2, q3⟩ := sp_putText (r := r) ha h10 (tx_l a).length mm_fu 0 h M R T hr (by omega) hl (by unfold mm_fu; omega)
  exact ⟨h', q1, by simpa using q2, q3⟩
/-- what is expanded: length, label, context -/
def hk_i (n : Nat) (lab ctx : List Int32) : List Int32 := rr_num (nI n) 2 ++ [nI (6 + lab.length) &&& 255] ++ tx_l 11 ++ lab ++ [nI ctx.length &&& 255] ++ ctx ++ [1]
def hk_e (sec lab ctx : List Int32) (n : Nat) : List Int32 := (hm_m sec (hk_i n lab ctx)).take n
theorem sp_X1_expand {h : mm_H} {M : Nat → List Int32} {sec a ctx out n : Nat} (R : rr_M h M) (T : sk_T L h) (ha : a < 21) (h10 : 10 ≤ a) (hs : mm_kd h sec = 5) (hx : mm_kd h ctx = 5) (ho : mm_kd h out = 5) (hs4 : sec ≠ 44 ∧ sec ≠ 46 ∧ sec ≠ 48 ∧ sec ≠ 50) (hx4 : ctx ≠ 48) (ho4 : out ≠ 50) (hl : (M ctx).length ≤ 32) (hn : n ≤ 32) (hc : n ≤ mm_ln h (out + 1)) : ∃ h' M', bd_X1_expand 39 sec a ctx (nI n) out h = some (none, h') ∧ rr_M h' M' ∧ rr_X sk_X h h' ∧ M' out = hk_e (M sec) (tx_l a) (M ctx) n ∧ ∀ r, r ≠ 44 → r ≠ 46 → r ≠ 48 → r ≠ 50 → r ≠ out → M' r = M r := by
  have l48 : mm_ln h (48 + 1) = 55 := sk_ln T.1 (by decide) (by decide +kernel)
  have l50 : mm_ln h (50 + 1) = 32 := sk_ln T.1 (by decide) (by decide +kernel)
  have k48 : mm_kd h 48 = 5 := sk_kd T.1 (by decide +kernel)
  have k50 : mm_kd h 50 = 5 := sk_kd T.1 (by decide +kernel)
  obtain ⟨n1, n2, n3⟩ := tx_n a ha h10
  have t6 : (tx_l 11).length = 6 := by decide +kernel
  unfold bd_X1_expand
  simp only [mm_gr, T.2.2.2.2.2.2.2.2.1, Option.bind_some]
  obtain ⟨h1, p1, R1, F1⟩ := sp_X6_clear R k48
  have T1 := T.X F1.X
  rw [p1, mm_qv_s]
  simp only [T1.2.2.2.2.2.2.2.2.1, Option.bind_some]
  obtain ⟨h2, p2, R2, F2'⟩ := sp_X6_putNumber (r := 48) (s := 2) (nI n) R1 (by rw [F1.kd]; exact k48) (by rw [F1.ln, l48, vu_at]; simp) (by omega)
  have F2 := F1.tr F2'
  have T2 := T.X F2.X
  rw [show ((2 : Int32)) = nI 2 from rfl, p2, mm_qv_s]
  rw [vu_at, vu_uu, List.nil_append] at R2
  simp only [T2.2.2.2.2.2.2.2.2.1, Option.bind_some]
  rw [if_pos (by decide), sp_len T2 (by decide) (by decide), mm_qi_s, if_pos (by omega), sp_len T2 ha h10, mm_qi_s, t6, nI_add]
  obtain ⟨h3, p3, R3, F3'⟩ := sp_X6_put (r := 48) R2 (by rw [F2.kd]; exact k48) (nI (6 + (tx_l a).length))
  have F3 := F2.tr F3'
  have T3 := T.X F3.X
  rw [p3, mm_qv_s]
  rw [F2.ln, l48, vu_at, vu_uu, List.take_of_length_le (by rw [List.length_append, rr_num_len]; simp)] at R3
  simp only [T3.2.2.2.2.2.2.2.2.1, Option.bind_some]
  obtain ⟨h4, p4, R4, F4'⟩ := sp_X6_putText (r := 48) (a := 11) (by decide) (by decide) R3 T3 (by rw [F3.kd]; exact k48) (by rw [F3.ln, l48, vu_at]; simp [rr_num_len, t6])
  have F4 := F3.tr F4'
  have T4 := T.X F4.X
  rw [p4, mm_qv_s]
  rw [vu_at, vu_uu] at R4
  simp only [T4.2.2.2.2.2.2.2.2.1, Option.bind_some]
  obtain ⟨h5, p5, R5, F5'⟩ := sp_X6_putText (r := 48) (a := a) ha h10 R4 T4 (by rw [F4.kd]; exact k48) (by rw [F4.ln, l48, vu_at]; simp [rr_num_len, t6]; omega)
  have F5 := F4.tr F5'
  have T5 := T.X F5.X
  rw [p5, mm_qv_s]
  rw [vu_at, vu_uu] at R5
  simp only [T5.2.2.2.2.2.2.2.2.1, Option.bind_some]
  have ec : mm_i h5 ctx 1 = nI (M ctx).length := by
    have := (R5 ctx (by rw [F5.kd]; exact hx)).2.2.2.1
    rw [vu_off hx4] at this; exact this
  rw [ec]
  obtain ⟨h6, p6, R6, F6'⟩ := sp_X6_put (r := 48) R5 (by rw [F5.kd]; exact k48) (nI (M ctx).length)
  have F6 := F5.tr F6'
  have T6 := T.X F6.X
  rw [p6, mm_qv_s]
  rw [F5.ln, l48, vu_at, vu_uu, List.take_of_length_le (by simp [rr_num_len, t6]; omega)] at R6
  simp only [T6.2.2.2.2.2.2.2.2.1, Option.bind_some]
  obtain ⟨h7, p7, R7, F7'⟩ := sp_X6_append (r := 48) (o := ctx) R6 (by rw [F6.kd]; exact k48) (by rw [F6.kd]; exact hx) (Ne.symm hx4)
  have F7 := F6.tr F7'
  have T7 := T.X F7.X
  rw [p7, mm_qv_s]
  rw [F6.ln, l48, vu_at, vu_off hx4, vu_uu, List.take_of_length_le (by simp [rr_num_len, t6]; omega)] at R7
  simp only [T7.2.2.2.2.2.2.2.2.1, Option.bind_some]
  obtain ⟨h8, p8, R8, F8'⟩ := sp_X6_put (r := 48) R7 (by rw [F7.kd]; exact k48) 1
  have F8 := F7.tr F8'
  have T8 := T.X F8.X
  rw [p8, mm_qv_s]
  rw [F7.ln, l48, vu_at, vu_uu, List.take_of_length_le (by simp [rr_num_len, t6]; omega)] at R8
  simp only [T8.2.2.2.2.2.2.2.2.1, T8.2.2.2.2.2.2.2.2.2, Option.bind_some]
  obtain ⟨h9, M9, p9, R9, X9, e9, f9⟩ := sp_X1_mac (key := sec) (what := 48) (out := 50) R8 T8 (by rw [F8.kd]; exact hs) (by rw [F8.kd]; exact k48) (by rw [F8.kd]; exact k50) hs4.1 hs4.2.1 (by decide) (by decide) (by rw [vu_at]; simp [rr_num_len, t6]; omega) (by rw [F8.ln, l50]; omega)
  have X9' : rr_X sk_X h h9 := F8.X.tr X9
  have T9 := T.X X9'
  rw [p9, mm_qv_s]
  simp only [T9.2.2.2.2.2.2.2.2.2, Option.bind_some]
  obtain ⟨ha', pa, Ra, Fa⟩ := sp_X6_copyPart (r := out) (o := 50) (k := 0) (t := n) R9 (by rw [X9'.kd]; exact ho) (by rw [X9'.kd]; exact k50) ho4 (by omega) (by omega)
  rw [nI_0] at pa
  rw [pa, mm_qv_s]
  rw [X9'.ln, List.drop_zero, e9, vu_at, vu_off hs4.2.2.1] at Ra
  refine ⟨ha', _, rfl, Ra, X9'.tr Fa.X, ?_, fun r q1 q2 q3 q4 q5 => ?_⟩
  · rw [vu_at, List.take_of_length_le (by rw [List.length_take, hm_m_len]; omega)]
    unfold hk_e hk_i
    rw [show (1 : Int32) &&& 255 = 1 from by decide]
  · rw [vu_off q5, f9 r q1 q2 q4, vu_off q3]
end TXT
