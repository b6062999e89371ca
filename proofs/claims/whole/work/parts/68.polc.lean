/-! ===== Poly1305: the end of it, and Poly.tag ===== -/
/-- the reference's way to the end -/
def po_f (a : Nat → Nat) : Nat → Nat := updN (po_ch 5 0 0 a).1 0 ((po_ch 5 0 0 a).1 0 + 5 * (po_ch 5 0 0 a).2)
theorem po_end {x : Nat → Nat} (hx : po_sm x) : ∀ k, k < 5 → po_se (po_se x) k = po_f (po_f x) k ∧ po_f (po_f x) k < 67108864 := by
  obtain ⟨b0, b1, b2, b3, b4⟩ := hx
  obtain ⟨x0, x1, x2, x3, x4, x5⟩ := po_ch_at x 0
  generalize hc : po_ch 5 0 0 x = C at x0 x1 x2 x3 x4 x5
  have y0 : po_se x 0 = (C.1 0 + 5 * C.2) % 67108864 := by unfold po_se; rw [hc, updN_off (by decide), updN_at]
  have y1 : po_se x 1 = C.1 1 + (C.1 0 + 5 * C.2) / 67108864 := by unfold po_se; rw [hc, updN_at]
  have y2 : po_se x 2 = C.1 2 := by unfold po_se; rw [hc, updN_off (by decide), updN_off (by decide)]
  have y3 : po_se x 3 = C.1 3 := by unfold po_se; rw [hc, updN_off (by decide), updN_off (by decide)]
  have y4 : po_se x 4 = C.1 4 := by unfold po_se; rw [hc, updN_off (by decide), updN_off (by decide)]
  have z0 : po_f x 0 = C.1 0 + 5 * C.2 := by unfold po_f; rw [hc, updN_at]
  have z1 : po_f x 1 = C.1 1 := by unfold po_f; rw [hc, updN_off (by decide)]
  have z2 : po_f x 2 = C.1 2 := by unfold po_f; rw [hc, updN_off (by decide)]
  have z3 : po_f x 3 = C.1 3 := by unfold po_f; rw [hc, updN_off (by decide)]
  have z4 : po_f x 4 = C.1 4 := by unfold po_f; rw [hc, updN_off (by decide)]
  obtain ⟨s0, s1, s2, s3, s4, s5⟩ := po_ch_at (po_se x) 0
  obtain ⟨t0, t1, t2, t3, t4, t5⟩ := po_ch_at (po_f x) 0
  generalize hS : po_ch 5 0 0 (po_se x) = S at s0 s1 s2 s3 s4 s5
  generalize hT : po_ch 5 0 0 (po_f x) = T at t0 t1 t2 t3 t4 t5
  rw [y0] at s0 s1 s2 s3 s4 s5
  rw [y1] at s1 s2 s3 s4 s5
  rw [y2] at s2 s3 s4 s5
  rw [y3] at s3 s4 s5
  rw [y4] at s4 s5
  rw [z0] at t0 t1 t2 t3 t4 t5
  rw [z1] at t1 t2 t3 t4 t5
  rw [z2] at t2 t3 t4 t5
  rw [z3] at t3 t4 t5
  rw [z4] at t4 t5
  have w0 : ((C.1 0 + 5 * C.2) % 67108864 + 0) / 67108864 = 0 := by omega
  have w1 : (C.1 0 + 5 * C.2 + 0) / 67108864 = (C.1 0 + 5 * C.2) / 67108864 := by omega
  rw [w0, Nat.add_zero] at s1 s2 s3 s4 s5
  rw [w1] at t1 t2 t3 t4 t5
  have e0 : S.1 0 = T.1 0 := by omega
  have e1 : S.1 1 = T.1 1 := by rw [s1, t1]
  have e2 : S.1 2 = T.1 2 := by rw [s2, t2]
  have e3 : S.1 3 = T.1 3 := by rw [s3, t3]
  have e4 : S.1 4 = T.1 4 := by rw [s4, t4]
  have e5 : S.2 = T.2 := by rw [s5, t5]
  have c0 : T.2 = 0 := by
    rw [t5]
    have k1 : (x 0 + 0) / 67108864 = 0 := by omega
    rw [k1, Nat.add_zero] at x1 x2 x3 x4 x5
    rcases (by omega : x 1 / 67108864 = 0 ∨ x 1 / 67108864 = 1) with q | q <;> rw [q] at x2 x3 x4 x5
    · have r2 : (x 2 + 0) / 67108864 = 0 := by omega
      rw [r2] at x3 x4 x5
      have r3 : (x 3 + 0) / 67108864 = 0 := by omega
      rw [r3] at x4 x5
      have r4 : C.2 = 0 := by omega
      rw [r4]
      omega
    · rcases (by omega : (x 2 + 1) / 67108864 = 0 ∨ (x 2 + 1) / 67108864 = 1) with r | r <;> rw [r] at x3 x4 x5
      · have r3 : (x 3 + 0) / 67108864 = 0 := by omega
        rw [r3] at x4 x5
        have r4 : C.2 = 0 := by omega
        rw [r4]
        omega
      · rcases (by omega : (x 3 + 1) / 67108864 = 0 ∨ (x 3 + 1) / 67108864 = 1) with u | u <;> rw [u] at x4 x5
        · have r4 : C.2 = 0 := by omega
          rw [r4]
          omega
        · rcases (by omega : C.2 = 0 ∨ C.2 = 1) with v | v <;> rw [v]
          · omega
          · have v2 : C.1 2 = 0 := by omega
            have v3 : C.1 3 = 0 := by omega
            have v4 : C.1 4 = 0 := by omega
            rw [v2, v3, v4]
            omega
  intro k hk
  rcases (by omega : k = 0 ∨ k = 1 ∨ k = 2 ∨ k = 3 ∨ k = 4) with rfl | rfl | rfl | rfl | rfl
  · rw [show po_f (po_f x) 0 = updN (po_ch 5 0 0 (po_f x)).1 0 ((po_ch 5 0 0 (po_f x)).1 0 + 5 * (po_ch 5 0 0 (po_f x)).2) 0 from rfl, hT, updN_at, c0]
    rw [show po_se (po_se x) 0 = updN (updN (po_ch 5 0 0 (po_se x)).1 0 (((po_ch 5 0 0 (po_se x)).1 0 + 5 * (po_ch 5 0 0 (po_se x)).2) % 67108864)) 1 ((po_ch 5 0 0 (po_se x)).1 1 + ((po_ch 5 0 0 (po_se x)).1 0 + 5 * (po_ch 5 0 0 (po_se x)).2) / 67108864) 0 from rfl, hS, updN_off (by decide), updN_at, e5, c0]
    omega
  · rw [show po_f (po_f x) 1 = updN (po_ch 5 0 0 (po_f x)).1 0 ((po_ch 5 0 0 (po_f x)).1 0 + 5 * (po_ch 5 0 0 (po_f x)).2) 1 from rfl, hT, updN_off (by decide)]
    rw [show po_se (po_se x) 1 = updN (updN (po_ch 5 0 0 (po_se x)).1 0 (((po_ch 5 0 0 (po_se x)).1 0 + 5 * (po_ch 5 0 0 (po_se x)).2) % 67108864)) 1 ((po_ch 5 0 0 (po_se x)).1 1 + ((po_ch 5 0 0 (po_se x)).1 0 + 5 * (po_ch 5 0 0 (po_se x)).2) / 67108864) 1 from rfl, hS, updN_at, e5, c0]
    omega
  · rw [show po_f (po_f x) 2 = updN (po_ch 5 0 0 (po_f x)).1 0 ((po_ch 5 0 0 (po_f x)).1 0 + 5 * (po_ch 5 0 0 (po_f x)).2) 2 from rfl, hT, updN_off (by decide)]
    rw [show po_se (po_se x) 2 = updN (updN (po_ch 5 0 0 (po_se x)).1 0 (((po_ch 5 0 0 (po_se x)).1 0 + 5 * (po_ch 5 0 0 (po_se x)).2) % 67108864)) 1 ((po_ch 5 0 0 (po_se x)).1 1 + ((po_ch 5 0 0 (po_se x)).1 0 + 5 * (po_ch 5 0 0 (po_se x)).2) / 67108864) 2 from rfl, hS, updN_off (by decide), updN_off (by decide)]
    omega
  · rw [show po_f (po_f x) 3 = updN (po_ch 5 0 0 (po_f x)).1 0 ((po_ch 5 0 0 (po_f x)).1 0 + 5 * (po_ch 5 0 0 (po_f x)).2) 3 from rfl, hT, updN_off (by decide)]
    rw [show po_se (po_se x) 3 = updN (updN (po_ch 5 0 0 (po_se x)).1 0 (((po_ch 5 0 0 (po_se x)).1 0 + 5 * (po_ch 5 0 0 (po_se x)).2) % 67108864)) 1 ((po_ch 5 0 0 (po_se x)).1 1 + ((po_ch 5 0 0 (po_se x)).1 0 + 5 * (po_ch 5 0 0 (po_se x)).2) / 67108864) 3 from rfl, hS, updN_off (by decide), updN_off (by decide)]
    omega
  · rw [show po_f (po_f x) 4 = updN (po_ch 5 0 0 (po_f x)).1 0 ((po_ch 5 0 0 (po_f x)).1 0 + 5 * (po_ch 5 0 0 (po_f x)).2) 4 from rfl, hT, updN_off (by decide)]
    rw [show po_se (po_se x) 4 = updN (updN (po_ch 5 0 0 (po_se x)).1 0 (((po_ch 5 0 0 (po_se x)).1 0 + 5 * (po_ch 5 0 0 (po_se x)).2) % 67108864)) 1 ((po_ch 5 0 0 (po_se x)).1 1 + ((po_ch 5 0 0 (po_se x)).1 0 + 5 * (po_ch 5 0 0 (po_se x)).2) / 67108864) 4 from rfl, hS, updN_off (by decide), updN_off (by decide)]
    omega
theorem po_re_lt {a : Nat → Nat} (h : ∀ k, k < 5 → a k < 67108864) : ∀ k, k < 5 → po_re a k < 67108864 := by
  intro k hk
  unfold po_re
  by_cases c : (po_ch 5 0 5 a).2 = 0
  · rw [if_pos c]; exact h k hk
  · rw [if_neg c]
    obtain ⟨x0, x1, x2, x3, x4, x5⟩ := po_ch_at a 5
    rcases (by omega : k = 0 ∨ k = 1 ∨ k = 2 ∨ k = 3 ∨ k = 4) with rfl | rfl | rfl | rfl | rfl <;> omega
/-- a byte of the sum, as the class takes it -/
def po_by (a : Nat → Nat) (i : Nat) : Nat := (a (8 * i / 26) / 2 ^ (8 * i % 26) + (if 8 * i / 26 + 1 < 5 then a (8 * i / 26 + 1) * 2 ^ (26 - 8 * i % 26) else 0)) % 256
def po_out (a : Nat → Nat) (kl : List Int32) : Nat → Nat → Nat → List Int32
  | 0, _, _ => []
  | m + 1, i, c => nI ((c + (po_by a i + nb (kl.getD (16 + i) 0))) % 256) :: po_out a kl m (i + 1) ((c + (po_by a i + nb (kl.getD (16 + i) 0))) / 256)
theorem po_out_len (a : Nat → Nat) (kl : List Int32) : ∀ m i c, (po_out a kl m i c).length = m := by
  intro m
  induction m with
  | zero => intro i c; rfl
  | succ m ih => intro i c; simp [po_out, ih]
theorem po_by_cg {a a' : Nat → Nat} (h : ∀ k, k < 5 → a k = a' k) {i : Nat} (hi : i < 16) : po_by a i = po_by a' i := by
  unfold po_by
  rw [h (8 * i / 26) (by omega)]
  by_cases c : 8 * i / 26 + 1 < 5
  · rw [if_pos c, if_pos c, h _ c]
  · rw [if_neg c, if_neg c]
theorem po_out_cg {a a' : Nat → Nat} (kl : List Int32) (h : ∀ k, k < 5 → a k = a' k) : ∀ m i c, i + m ≤ 16 → po_out a kl m i c = po_out a' kl m i c := by
  intro m
  induction m with
  | zero => intro i c _; rfl
  | succ m ih => intro i c hi; rw [po_out, po_out, po_by_cg h (by omega), ih (i + 1) _ (by omega)]
theorem nI_and255 {n : Nat} (hn : n < 2 ^ 31) : nI n &&& 255 = nI (n % 256) := by
  apply Int32.toBitVec_inj.mp
  apply BitVec.eq_of_toNat_eq
  show (nI n &&& 255).toBitVec.toNat = (BitVec.ofNat 32 (n % 256)).toNat
  rw [Int32.toBitVec_and, BitVec.toNat_and]
  show (BitVec.ofNat 32 n).toNat &&& (2 ^ 8 - 1) = _
  rw [Nat.and_two_pow_sub_one_eq_mod, BitVec.toNat_ofNat, BitVec.toNat_ofNat]
  omega
theorem nI_ush8 {n : Nat} (hn : n < 2 ^ 31) : mm_ush (nI n) 8 = nI (n / 256) := by
  apply Int32.toBitVec_inj.mp
  apply BitVec.eq_of_toNat_eq
  unfold mm_ush
  show ((nI n).toUInt32 >>> ((8 : Int32).toUInt32 &&& Int32.toUInt32 31)).toBitVec.toNat = _
  rw [UInt32.toBitVec_shiftRight]
  show ((BitVec.ofNat 32 n) >>> 8).toNat = (BitVec.ofNat 32 (n / 256)).toNat
  rw [BitVec.toNat_ushiftRight, BitVec.toNat_ofNat, BitVec.toNat_ofNat, Nat.shiftRight_eq_div_pow]
  omega
section PLC
theorem sp_putS {a : Nat → Nat} (hb : ∀ k, k < 5 → a k < 67108864) : ∀ (m i n c : Nat) (h : mm_H) (M : Nat → List Int32), rr_M h M → mm_kd h 59 = 5 → mm_kd h 63 = 5 → mm_ln h (63 + 1) = 16 → mm_r h 53 1 = some 55 → mm_ln h 55 = 5 → po_h h 55 a → (M 59).length = 32 → (M 63).length = i → c < 1000 → i + m = 16 → m < n → ∃ h', lp_X5_putSum_9 n 53 59 63 (nI c) (nI i) h = some (none, h') ∧ rr_M h' (va_up M 63 (M 63 ++ po_out a (M 59) m i c)) ∧ rr_F h h' := by
  intro m
  induction m with
  | zero =>
    intro i n c h M R k9 k3 l3 r1 l5 ha h9 h3 hc hi hn
    obtain ⟨n, rfl⟩ : ∃ k, n = k + 1 := ⟨n - 1, by omega⟩
    rw [lp_X5_putSum_9, if_pos (by rw [show ((16 : Int32)) = nI 16 from rfl, nI_leI (by omega) (by omega)]; omega)]
    refine ⟨h, rfl, ?_, rr_F.rf⟩
    rw [po_out, List.append_nil, vu_self]; exact R
  | succ m ih =>
    intro i n c h M R k9 k3 l3 r1 l5 ha h9 h3 hc hi hn
    obtain ⟨n, rfl⟩ : ∃ k, n = k + 1 := ⟨n - 1, by omega⟩
    obtain ⟨g1, g2, g3, g4, g5, g6, g7, g8⟩ := R 59 k9
    have hq : 8 * i / 26 < 5 := by omega
    have hs : 8 * i % 26 < 26 := Nat.mod_lt _ (by decide)
    have hby := g8 _ (rr_mem (show 16 + i < (M 59).length by omega))
    have hk := nb_lt ((M 59).getD (16 + i) 0)
    have hp : po_by a i < 256 := Nat.mod_lt _ (by decide)
    have key : ∀ v : Nat, v < 2 ^ 64 → v % 256 = po_by a i → ∃ h', jn_X5_putSum_98 (lp_X5_putSum_9 n) 53 59 63 (nI c) (nI i) (nL v) h = some (none, h') ∧ rr_M h' (va_up M 63 (M 63 ++ po_out a (M 59) (m + 1) i c)) ∧ rr_F h h' := by
      intro v hv ev
      unfold jn_X5_putSum_98
      simp only [mm_gr, g1, Option.bind_some, mm_bi]
      rw [show (16 : Int32) + nI i = nI (16 + i) from by rw [show ((16 : Int32)) = nI 16 from rfl, nI_add], if_pos (rr_in (by omega) (by omega)), rr_n (by omega), g7 _ (by omega), nL_m8 hv, nL_narrow, ev, nb_eq hby, nI_add, nI_add]
      obtain ⟨h1, p1, R1, F1⟩ := sp_X6_put R k3 (nI (c + (po_by a i + nb ((M 59).getD (16 + i) 0))))
      rw [p1, mm_qv_s, nI_ush8 (by omega), nI_1]
      rw [l3, List.take_of_length_le (by simp; omega), nI_and255 (by omega)] at R1
      obtain ⟨h', q1, q2, q3⟩ := ih (i + 1) n _ h1 _ R1 (by rw [F1.kd]; exact k9) (by rw [F1.kd]; exact k3) (by rw [F1.ln]; exact l3) (by rw [F1.r]; exact r1) (by rw [F1.ln]; exact l5) (fun k hk => by rw [F1.2.1]; exact ha k hk) (by rw [vu_off (by decide)]; exact h9) (by rw [vu_at]; simp; omega) (show (c + (po_by a i + nb ((M 59).getD (16 + i) 0))) / 256 < 1000 by omega) (by omega) (by omega)
      refine ⟨h', q1, ?_, F1.tr q3⟩
      rw [vu_at, vu_uu, vu_off (by decide), List.append_assoc] at q2
      rw [po_out]
      exact q2
    rw [lp_X5_putSum_9, if_neg (by rw [show ((16 : Int32)) = nI 16 from rfl, nI_leI (by omega) (by omega)]; omega), g4, h9, show (16 : Int32) + nI i = nI (16 + i) from by rw [show ((16 : Int32)) = nI 16 from rfl, nI_add], if_neg (by rw [nI_leI (by omega) (by omega)]; omega)]
    simp only [mm_bi, po_8, mm_gr, r1, Option.bind_some, l5]
    rw [po_27 (by omega), po_28 (by omega), if_neg (by rw [show ((5 : Int32)) = nI 5 from rfl, nI_leI (by omega) (by omega)]; omega), if_pos (rr_in (by omega) (by omega)), rr_n (by omega), show mm_l h 55 (8 * i / 26) = nL (a (8 * i / 26)) from ha _ hq]
    have hb1 := hb _ hq
    rw [nL_ush _ (by omega) (by omega)]
    have hd : a (8 * i / 26) / 2 ^ (8 * i % 26) ≤ a (8 * i / 26) := Nat.div_le_self _ _
    unfold jn_X5_putSum_68
    rw [show nI (8 * i / 26) + 1 = nI (8 * i / 26 + 1) from nI_1 _]
    by_cases cc : 8 * i / 26 + 1 < 5
    · rw [if_neg (by rw [show ((5 : Int32)) = nI 5 from rfl, nI_leI (by omega) (by omega)]; omega)]
      simp only [mm_gr, r1, Option.bind_some, l5, mm_bl]
      have hb2 := hb _ cc
      have h26 : 2 ^ (26 - 8 * i % 26) ≤ 2 ^ 26 := Nat.pow_le_pow_right (by omega) (by omega)
      have hm : a (8 * i / 26 + 1) * 2 ^ (26 - 8 * i % 26) ≤ 67108864 * 2 ^ 26 := Nat.mul_le_mul (by omega) h26
      rw [if_pos (rr_in (by omega) (by omega)), rr_n (by omega), show mm_l h 55 (8 * i / 26 + 1) = nL (a (8 * i / 26 + 1)) from ha _ cc, show (26 : Int32) - nI (8 * i % 26) = nI (26 - 8 * i % 26) from by rw [show ((26 : Int32)) = nI 26 from rfl, pk_sub (by omega)], nL_shl _ (by omega) (by omega), nL_or (by omega) (by omega)]
      have hlt : a (8 * i / 26) / 2 ^ (8 * i % 26) < 2 ^ (26 - 8 * i % 26) := by
        rw [Nat.div_lt_iff_lt_mul (Nat.two_pow_pos _), ← Nat.pow_add, show 26 - 8 * i % 26 + 8 * i % 26 = 26 by omega]; exact hb1
      rw [nor_add hlt]
      refine key _ (by omega) ?_
      unfold po_by
      rw [if_pos cc]
    · rw [if_pos (by rw [show ((5 : Int32)) = nI 5 from rfl, nI_leI (by omega) (by omega)]; omega)]
      refine key _ (by omega) ?_
      unfold po_by
      rw [if_neg cc, Nat.add_zero]
theorem sp_X5_putSum {h : mm_H} {M : Nat → List Int32} {a : Nat → Nat} (hb : ∀ k, k < 5 → a k < 67108864) (R : rr_M h M) (k9 : mm_kd h 59 = 5) (k3 : mm_kd h 63 = 5) (l3 : mm_ln h (63 + 1) = 16) (o : po_ok h) (ha : po_h h 55 a) (h9 : (M 59).length = 32) : ∃ h', bd_X5_putSum 53 59 63 h = some (none, h') ∧ rr_M h' (va_up M 63 (po_out a (M 59) 16 0 0)) ∧ rr_F h h' := by
  obtain ⟨r0, r1, r2, l4, l5, l6⟩ := o
  unfold bd_X5_putSum
  obtain ⟨h1, p1, R1, F1⟩ := sp_X6_clear R k3
  rw [p1, mm_qv_s, show ((0 : Int32)) = nI 0 from rfl]
  obtain ⟨h', q1, q2, q3⟩ := sp_putS hb 16 0 mm_fu 0 h1 _ R1 (by rw [F1.kd]; exact k9) (by rw [F1.kd]; exact k3) (by rw [F1.ln]; exact l3) (by rw [F1.r]; exact r1) (by rw [F1.ln]; exact l5) (fun k hk => by rw [F1.2.1]; exact ha k hk) (by rw [vu_off (by decide)]; exact h9) (by rw [vu_at]; rfl) (by omega) (by omega) (by unfold mm_fu; omega)
  refine ⟨h', q1, ?_, F1.tr q3⟩
  rw [vu_at, vu_uu, vu_off (by decide), List.nil_append] at q2
  exact q2
end PLC
