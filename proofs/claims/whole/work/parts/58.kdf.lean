/-! ===== HMAC: Kdf.putKey, Kdf.mac ===== -/
def hm_k (l : List Int32) (m : Int32) : Nat → Nat → List Int32
  | 0, _ => []
  | n + 1, i => ((l.getD i 0 ^^^ m) &&& 255) :: hm_k l m n (i + 1)
theorem hm_k_len (l : List Int32) (m : Int32) : ∀ n i, (hm_k l m n i).length = n := by
  intro n
  induction n with
  | zero => intro i; rfl
  | succ n ih => intro i; rw [hm_k, List.length_cons, ih]
def hm_m (k x : List Int32) : List Int32 := sh_a (hm_k k 92 64 0 ++ sh_a (hm_k k 54 64 0 ++ x))
theorem hm_m_len (k x : List Int32) : (hm_m k x).length = 32 := sh_a_len _
section KDF
variable {L : Nat}
theorem sp_putKey {key : Nat} (hk4 : key ≠ 44) (x2 : Int32) : ∀ (m i n : Nat) (h : mm_H) (M : Nat → List Int32), rr_M h M → sk_T L h → mm_kd h key = 5 → (M 44).length + m ≤ 128 → i + m = 64 → m < n → ∃ h', lp_X1_putKey_9 n 39 key x2 (nI i) h = some (none, h') ∧ rr_M h' (va_up M 44 (M 44 ++ hm_k (M key) x2 m i)) ∧ rr_F h h' := by
  intro m
  induction m with
  | zero =>
    intro i n h M R T hk hc hi hn
    obtain ⟨n, rfl⟩ : ∃ k, n = k + 1 := ⟨n - 1, by omega⟩
    rw [lp_X1_putKey_9, if_pos (by rw [show ((64 : Int32)) = nI 64 from rfl, nI_leI (by omega) (by omega)]; omega)]
    refine ⟨h, rfl, ?_, rr_F.rf⟩
    rw [hm_k, List.append_nil, vu_self]; exact R
  | succ m ih =>
    intro i n h M R T hk hc hi hn
    obtain ⟨n, rfl⟩ : ∃ k, n = k + 1 := ⟨n - 1, by omega⟩
    obtain ⟨g1, g2, g3, g4, g5, g6, g7, g8⟩ := R key hk
    have k44 : mm_kd h 44 = 5 := sk_kd T.1 (by decide +kernel)
    have l44 : mm_ln h (44 + 1) = 128 := sk_ln T.1 (by decide) (by decide +kernel)
    have key2 : ∀ b : Int32, b = (M key).getD i 0 → ∃ h', jn_X1_putKey_37 (lp_X1_putKey_9 n) 39 key x2 (nI i) b 44 h = some (none, h') ∧ rr_M h' (va_up M 44 (M 44 ++ hm_k (M key) x2 (m + 1) i)) ∧ rr_F h h' := by
      intro b hb
      unfold jn_X1_putKey_37
      obtain ⟨h1, p1, R1, F1⟩ := sp_X6_put R k44 (b ^^^ x2)
      rw [p1, mm_qv_s, nI_1]
      rw [l44, List.take_of_length_le (by simp; omega)] at R1
      have T1 : sk_T L h1 := T.X F1.X
      obtain ⟨h', q1, q2, q3⟩ := ih (i + 1) n h1 _ R1 T1 (by rw [F1.kd]; exact hk) (by rw [vu_at]; simp; omega) (by omega) (by omega)
      refine ⟨h', q1, ?_, F1.tr q3⟩
      rw [vu_at, vu_uu, vu_off hk4, List.append_assoc, hb] at q2
      exact q2
    rw [lp_X1_putKey_9, if_neg (by rw [show ((64 : Int32)) = nI 64 from rfl, nI_leI (by omega) (by omega)]; omega)]
    simp only [mm_gr, T.2.2.2.2.2.2.1, Option.bind_some, g4, g1]
    by_cases c : i < (M key).length
    · rw [if_neg (by rw [nI_leI (by omega) (by omega)]; omega), if_pos (rr_in (by omega) (by omega)), rr_n (by omega), g7 i c]
      exact key2 _ rfl
    · rw [if_pos (by rw [nI_leI (by omega) (by omega)]; omega)]
      refine key2 0 ?_
      simp [List.getD_eq_getElem?_getD, List.getElem?_eq_none (Nat.not_lt.mp c)]
theorem sk_keep {h h' : mm_H} (T : sk_T L h) (F : rr_X sk_X h h') : sk_T L h' := T.X F
theorem sp_X1_putKey {h : mm_H} {M : Nat → List Int32} {key : Nat} (R : rr_M h M) (T : sk_T L h) (hk : mm_kd h key = 5) (hk4 : key ≠ 44) (x2 : Int32) : ∃ h', bd_X1_putKey 39 key x2 h = some (none, h') ∧ rr_M h' (va_up M 44 (hm_k (M key) x2 64 0)) ∧ rr_F h h' := by
  have k44 : mm_kd h 44 = 5 := sk_kd T.1 (by decide +kernel)
  unfold bd_X1_putKey
  simp only [mm_gr, T.2.2.2.2.2.2.1, Option.bind_some]
  obtain ⟨h1, p1, R1, F1⟩ := sp_X6_clear R k44
  rw [p1, mm_qv_s]
  obtain ⟨h', q1, q2, q3⟩ := sp_putKey hk4 x2 64 0 mm_fu h1 _ R1 (sk_keep T F1.X) (by rw [F1.kd]; exact hk) (by rw [vu_at]; simp) (by omega) (by unfold mm_fu; omega)
  refine ⟨h', q1, ?_, F1.tr q3⟩
  rw [vu_at, vu_uu, vu_off hk4, List.nil_append] at q2
  exact q2
theorem sp_X1_mac {h : mm_H} {M : Nat → List Int32} {key what out : Nat} (R : rr_M h M) (T : sk_T L h) (hk : mm_kd h key = 5) (hw : mm_kd h what = 5) (ho : mm_kd h out = 5) (hk4 : key ≠ 44) (hk6 : key ≠ 46) (hw4 : what ≠ 44) (ho4 : out ≠ 44) (hl : (M what).length ≤ 64) (hc : 32 ≤ mm_ln h (out + 1)) : ∃ h' M', bd_X1_mac 39 key what out h = some (none, h') ∧ rr_M h' M' ∧ rr_X sk_X h h' ∧ M' out = hm_m (M key) (M what) ∧ ∀ r, r ≠ 44 → r ≠ 46 → r ≠ out → M' r = M r := by
  have l44 : mm_ln h (44 + 1) = 128 := sk_ln T.1 (by decide) (by decide +kernel)
  have l46 : mm_ln h (46 + 1) = 32 := sk_ln T.1 (by decide) (by decide +kernel)
  have k44 : mm_kd h 44 = 5 := sk_kd T.1 (by decide +kernel)
  have k46 : mm_kd h 46 = 5 := sk_kd T.1 (by decide +kernel)
  unfold bd_X1_mac
  obtain ⟨h1, p1, R1, F1⟩ := sp_X1_putKey R T hk hk4 54
  have T1 := sk_keep T F1.X
  rw [p1, mm_qv_s]
  simp only [mm_gr, T1.2.2.2.2.2.2.1, Option.bind_some]
  obtain ⟨h2, p2, R2, F2⟩ := sp_X6_append (r := 44) (o := what) R1 (by rw [F1.kd]; exact k44) (by rw [F1.kd]; exact hw) (Ne.symm hw4)
  have T2 := sk_keep T1 F2.X
  have X2 : rr_X sk_X h h2 := (F1.tr F2).X
  rw [p2, mm_qv_s]
  simp only [T2.2.2.2.1, T2.2.2.2.2.2.2.1, T2.2.2.2.2.2.2.2.1, Option.bind_some]
  rw [F1.ln, l44, vu_at, vu_off hw4, vu_uu, List.take_of_length_le (by rw [List.length_append, hm_k_len]; omega)] at R2
  obtain ⟨h3, p3, R3, X3⟩ := sp_X9_digest (X := sk_X) (a1 := 44) (a2 := 46) R2 (by rw [X2.kd]; exact k44) (by rw [X2.kd]; exact k46) (sk_sha T2) (sk_1 T2) (sk_2 T2) (by decide) (by decide) (by rw [X2.ln, l46]; omega)
  have T3 := sk_keep T2 X3
  have X3' := X2.tr X3
  rw [p3, mm_qv_s]
  rw [vu_at] at R3
  obtain ⟨h4, p4, R4, F4⟩ := sp_X1_putKey R3 T3 (by rw [X3'.kd]; exact hk) hk4 92
  have T4 := sk_keep T3 F4.X
  have X4 := X3'.tr F4.X
  rw [p4, mm_qv_s]
  rw [vu_off hk6, vu_off hk4] at R4
  simp only [T4.2.2.2.2.2.2.1, T4.2.2.2.2.2.2.2.1, Option.bind_some]
  obtain ⟨h5, p5, R5, F5⟩ := sp_X6_append (r := 44) (o := 46) R4 (by rw [X4.kd]; exact k44) (by rw [X4.kd]; exact k46) (by decide)
  have T5 := sk_keep T4 F5.X
  have X5 := X4.tr F5.X
  rw [p5, mm_qv_s]
  simp only [T5.2.2.2.1, T5.2.2.2.2.2.2.1, Option.bind_some]
  rw [X4.ln, l44, vu_at, vu_off (by decide : (46 : Nat) ≠ 44), vu_at, vu_uu, List.take_of_length_le (by rw [List.length_append, hm_k_len, sh_a_len]; omega)] at R5
  obtain ⟨h6, p6, R6, X6⟩ := sp_X9_digest (X := sk_X) (a1 := 44) (a2 := out) R5 (by rw [X5.kd]; exact k44) (by rw [X5.kd]; exact ho) (sk_sha T5) (sk_1 T5) (sk_2 T5) (by decide) (by decide) (by rw [X5.ln]; exact hc)
  rw [p6, mm_qv_s]
  refine ⟨h6, _, rfl, R6, X5.tr X6, ?_, fun r h1 h2 h3 => ?_⟩
  · rw [vu_at, vu_at]; rfl
  · rw [vu_off h3, vu_off h1, vu_off h2, vu_off h1]
end KDF
