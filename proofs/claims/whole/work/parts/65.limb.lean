/-! ===== longs as naturals ===== -/
def nL (n : Nat) : Int64 := Int64.ofNat n
theorem nL_bv (n : Nat) : (nL n).toBitVec = BitVec.ofNat 64 n := rfl
theorem nL_add (a b : Nat) : nL a + nL b = nL (a + b) := (Int64.ofNat_add a b).symm
theorem nL_mul (a b : Nat) : nL a * nL b = nL (a * b) := (Int64.ofNat_mul a b).symm
theorem nL_ext {x : Int64} {n : Nat} (hn : n < 2 ^ 64) (h : x.toBitVec.toNat = n) : x = nL n := by
  apply Int64.toBitVec_inj.mp
  apply BitVec.eq_of_toNat_eq
  rw [h, nL_bv, BitVec.toNat_ofNat, Nat.mod_eq_of_lt hn]
theorem nL_nat {n : Nat} (hn : n < 2 ^ 64) : (nL n).toBitVec.toNat = n := by rw [nL_bv, BitVec.toNat_ofNat, Nat.mod_eq_of_lt hn]
theorem nL_inj {a b : Nat} (ha : a < 2 ^ 64) (hb : b < 2 ^ 64) (h : nL a = nL b) : a = b := by
  rw [← nL_nat ha, ← nL_nat hb, h]
theorem nL_and (k : Nat) (hk : k < 64) {a : Nat} (ha : a < 2 ^ 64) : nL a &&& nL (2 ^ k - 1) = nL (a % 2 ^ k) := by
  have h2 : 2 ^ k ≤ 2 ^ 63 := Nat.pow_le_pow_right (by omega) (by omega)
  have h3 : a % 2 ^ k ≤ a := Nat.mod_le _ _
  refine nL_ext (by omega) ?_
  rw [Int64.toBitVec_and, BitVec.toNat_and, nL_nat ha, nL_nat (by omega), Nat.and_two_pow_sub_one_eq_mod]
theorem nL_m26 {a : Nat} (ha : a < 2 ^ 64) : nL a &&& 67108863 = nL (a % 67108864) := nL_and 26 (by omega) ha
theorem nL_m8 {a : Nat} (ha : a < 2 ^ 64) : nL a &&& 255 = nL (a % 256) := nL_and 8 (by omega) ha
theorem nL_m1 {a : Nat} (ha : a < 2 ^ 64) : nL a &&& 1 = nL (a % 2) := nL_and 1 (by omega) ha
theorem nL_sl : ∀ s, s < 64 → (((nI s).toInt64 &&& 63).toBitVec.smod 64).toNat = s ∧ (((nI s).toInt64.toUInt64 &&& Int64.toUInt64 63).toBitVec % 64).toNat = s := by decide +kernel
theorem nL_ush (s : Nat) (hs : s < 64) {a : Nat} (ha : a < 2 ^ 64) : mm_lush (nL a) (nI s) = nL (a / 2 ^ s) := by
  have h3 : a / 2 ^ s ≤ a := Nat.div_le_self _ _
  refine nL_ext (by omega) ?_
  unfold mm_lush
  show ((nL a).toUInt64 >>> ((nI s).toInt64.toUInt64 &&& Int64.toUInt64 63)).toBitVec.toNat = _
  rw [UInt64.toBitVec_shiftRight]
  show ((nL a).toBitVec >>> (((nI s).toInt64.toUInt64 &&& Int64.toUInt64 63).toBitVec % 64).toNat).toNat = _
  rw [(nL_sl s hs).2, BitVec.toNat_ushiftRight, nL_nat ha, Nat.shiftRight_eq_div_pow]
theorem nL_shr (s : Nat) (hs : s < 64) {a : Nat} (ha : a < 2 ^ 63) : mm_lshr (nL a) (nI s) = nL (a / 2 ^ s) := by
  have h3 : a / 2 ^ s ≤ a := Nat.div_le_self _ _
  refine nL_ext (by omega) ?_
  unfold mm_lshr
  rw [Int64.toBitVec_shiftRight]
  show ((nL a).toBitVec.sshiftRight (((nI s).toInt64 &&& 63).toBitVec.smod 64).toNat).toNat = _
  have hm : (nL a).toBitVec.msb = false := by rw [BitVec.msb_eq_false_iff_two_mul_lt, nL_nat (by omega)]; omega
  rw [(nL_sl s hs).1, BitVec.sshiftRight_eq_of_msb_false hm, BitVec.toNat_ushiftRight, nL_nat (by omega), Nat.shiftRight_eq_div_pow]
theorem nL_shl (s : Nat) (hs : s < 64) {a : Nat} (ha : a * 2 ^ s < 2 ^ 64) : mm_lshl (nL a) (nI s) = nL (a * 2 ^ s) := by
  have h3 : a ≤ a * 2 ^ s := Nat.le_mul_of_pos_right _ (Nat.two_pow_pos s)
  refine nL_ext ha ?_
  unfold mm_lshl
  rw [Int64.toBitVec_shiftLeft]
  show ((nL a).toBitVec <<< (((nI s).toInt64 &&& 63).toBitVec.smod 64).toNat).toNat = _
  rw [(nL_sl s hs).1, BitVec.toNat_shiftLeft, nL_nat (by omega), Nat.shiftLeft_eq, Nat.mod_eq_of_lt ha]
theorem nL_or {a b : Nat} (ha : a < 2 ^ 64) (hb : b < 2 ^ 64) : nL a ||| nL b = nL (a ||| b) := by
  refine nL_ext (Nat.or_lt_two_pow ha hb) ?_
  rw [Int64.toBitVec_or, BitVec.toNat_or, nL_nat ha, nL_nat hb]
/-- bits that lie above -/
theorem nor_add {a b k : Nat} (h : a < 2 ^ k) : a ||| b * 2 ^ k = a + b * 2 ^ k := by
  rw [Nat.mul_comm, Nat.add_comm, Nat.or_comm, Nat.two_pow_add_eq_or_of_lt h]
theorem nL_wide {n : Nat} (h : n < 2 ^ 31) : Int32.toInt64 (nI n) = nL n := by
  apply Int64.toInt_inj.mp
  rw [Int32.toInt_toInt64]
  show (Int32.ofNat n).toInt = (Int64.ofNat n).toInt
  rw [Int32.toInt_ofNat_of_lt h, Int64.toInt_ofNat_of_lt (by omega)]
theorem nL_narrow (n : Nat) : Int64.toInt32 (nL n) = nI n := Int64.toInt32_ofNat
theorem nL_cmp {n : Nat} (h : n < 2 ^ 63) : (lg_cmp (nL n) 0 ≤ 0) ↔ n = 0 := by
  rw [lg_cmp_le, Int64.le_iff_toInt_le]
  show (Int64.ofNat n).toInt ≤ 0 ↔ _
  rw [Int64.toInt_ofNat_of_lt h]
  omega
theorem updL_at {f : Nat → Int64} {k : Nat} {x : Int64} : vp_updL f k x k = x := by simp [vp_updL]
theorem updL_off {f : Nat → Int64} {k j : Nat} {x : Int64} (h : j ≠ k) : vp_updL f k x j = f j := by simp [vp_updL, h]
/-- the longs of an array anew -/
def mm_sq (h : mm_H) (b : Nat) (f : Nat → Int64) : mm_H := (h.1, h.2.1, va_up h.2.2.1 b f, h.2.2.2)
theorem sq_sl {h : mm_H} {b k : Nat} {v : Int64} : mm_sl h b k v = mm_sq h b (vp_updL (h.2.2.1 b) k v) := rfl
theorem sq_at {h : mm_H} {b : Nat} {f : Nat → Int64} : (mm_sq h b f).2.2.1 b = f := by simp [mm_sq, va_up]
theorem sq_off {h : mm_H} {b a : Nat} {f : Nat → Int64} (ha : a ≠ b) : (mm_sq h b f).2.2.1 a = h.2.2.1 a := by simp [mm_sq, va_up, ha]
theorem sq_l {h : mm_H} {b k : Nat} {f : Nat → Int64} : mm_l (mm_sq h b f) b k = f k := by show (mm_sq h b f).2.2.1 b k = _; rw [sq_at]
theorem sq_lo {h : mm_H} {b a k : Nat} {f : Nat → Int64} (ha : a ≠ b) : mm_l (mm_sq h b f) a k = mm_l h a k := by show (mm_sq h b f).2.2.1 a k = _; rw [sq_off ha]; rfl
theorem sq_sq {h : mm_H} {b : Nat} {f g : Nat → Int64} : mm_sq (mm_sq h b f) b g = mm_sq h b g := by
  unfold mm_sq
  congr 1
  congr 1
  congr 1
  funext z
  by_cases e : z = b
  · subst e; simp [va_up]
  · simp [va_up, e]
theorem sq_self {h : mm_H} {b : Nat} : mm_sq h b (h.2.2.1 b) = h := by
  unfold mm_sq
  have : va_up h.2.2.1 b (h.2.2.1 b) = h.2.2.1 := vu_self
  rw [this]
theorem sq_ln {h : mm_H} {b a : Nat} {f : Nat → Int64} : mm_ln (mm_sq h b f) a = mm_ln h a := rfl
theorem sq_kd {h : mm_H} {b a : Nat} {f : Nat → Int64} : mm_kd (mm_sq h b f) a = mm_kd h a := rfl
theorem sq_r {h : mm_H} {b a k : Nat} {f : Nat → Int64} : mm_r (mm_sq h b f) a k = mm_r h a k := rfl
theorem sq_i {h : mm_H} {b a k : Nat} {f : Nat → Int64} : mm_i (mm_sq h b f) a k = mm_i h a k := rfl
theorem rr_M.sq {h : mm_H} {M : Nat → List Int32} {b : Nat} {f : Nat → Int64} (R : rr_M h M) : rr_M (mm_sq h b f) M := R
