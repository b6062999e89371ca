/-! ===== Poly1305 by limbs, as naturals ===== -/
def nb (x : Int32) : Nat := x.toBitVec.toNat % 256
theorem nb_lt (x : Int32) : nb x < 256 := Nat.mod_lt _ (by decide)
theorem nb_eq {x : Int32} (hx : x &&& 255 = x) : x = nI (nb x) := by
  apply Int32.toBitVec_inj.mp
  show x.toBitVec = BitVec.ofNat 32 (nb x)
  apply BitVec.eq_of_toNat_eq
  have e : (x &&& 255).toBitVec.toNat = nb x := by
    rw [Int32.toBitVec_and, BitVec.toNat_and]
    exact Nat.and_two_pow_sub_one_eq_mod _ 8
  rw [hx] at e
  have := nb_lt x
  rw [e, BitVec.toNat_ofNat, Nat.mod_eq_of_lt (by omega)]
theorem nb_nI {n : Nat} (hn : n < 256) : nb (nI n) = n := by
  unfold nb
  show (BitVec.ofNat 32 n).toNat % 256 = n
  rw [BitVec.toNat_ofNat]
  omega
def po_N (l : List Int32) (p : Nat) : Nat → Nat
  | 0 => 0
  | m + 1 => po_N l p m + nb (l.getD (p + m) 0) * 2 ^ (8 * m)
theorem po_N_lt (l : List Int32) (p : Nat) : ∀ m, po_N l p m < 2 ^ (8 * m) := by
  intro m
  induction m with
  | zero => simp [po_N]
  | succ m ih =>
    rw [po_N, show 8 * (m + 1) = 8 * m + 8 by omega, Nat.pow_add]
    have := nb_lt (l.getD (p + m) 0)
    have h2 : nb (l.getD (p + m) 0) * 2 ^ (8 * m) ≤ 255 * 2 ^ (8 * m) := Nat.mul_le_mul_right _ (by omega)
    have : (2 : Nat) ^ 8 = 256 := rfl
    omega
def dg (N k : Nat) : Nat := N / 2 ^ (26 * k) % 67108864
theorem dg_lt (N k : Nat) : dg N k < 67108864 := Nat.mod_lt _ (by decide)
def updN (f : Nat → Nat) (k x : Nat) : Nat → Nat := fun j => if j = k then x else f j
theorem updN_at {f : Nat → Nat} {k x : Nat} : updN f k x k = x := by simp [updN]
theorem updN_off {f : Nat → Nat} {k x j : Nat} (h : j ≠ k) : updN f k x j = f j := by simp [updN, h]
/-- a byte more, digit for digit -/
def dg_q (N b i k : Nat) : Prop := dg (N + b * 2 ^ (8 * i)) k = dg N k + (if k = 8 * i / 26 then b * 2 ^ (8 * i % 26) % 67108864 else 0) + (if k = 8 * i / 26 + 1 then b * 2 ^ (8 * i % 26) / 67108864 else 0)
theorem dg_s : ∀ i, i < 16 → ∀ k, k < 5 → ∀ N b, N < 2 ^ (8 * i) → b < 256 → dg_q N b i k := by
  intro i hi k hk N b hN hb
  rcases (by omega : i = 0 ∨ i = 1 ∨ i = 2 ∨ i = 3 ∨ i = 4 ∨ i = 5 ∨ i = 6 ∨ i = 7 ∨ i = 8 ∨ i = 9 ∨ i = 10 ∨ i = 11 ∨ i = 12 ∨ i = 13 ∨ i = 14 ∨ i = 15) with rfl | rfl | rfl | rfl | rfl | rfl | rfl | rfl | rfl | rfl | rfl | rfl | rfl | rfl | rfl | rfl <;>
  rcases (by omega : k = 0 ∨ k = 1 ∨ k = 2 ∨ k = 3 ∨ k = 4) with rfl | rfl | rfl | rfl | rfl <;>
  (unfold dg_q dg; simp only [Nat.reduceMul, Nat.reduceDiv, Nat.reduceMod, Nat.reducePow, Nat.reduceAdd, Nat.reduceEqDiff, if_true, if_false] at hN ⊢; omega)
section POL
variable {r b : Nat}
theorem po_27 {n : Nat} (hn : n < 2 ^ 31) : nI n / (26 : Int32) = nI (n / 26) := by
  rw [show ((26 : Int32)) = nI 26 from rfl, pk_div (by omega) (by omega) (by omega)]
theorem po_28 {n : Nat} (hn : n < 2 ^ 31) : mm_rem (nI n) (26 : Int32) = nI (n % 26) := pk_rem (d := 26) (by omega) (by decide) (by decide)
theorem po_8 {n : Nat} : (8 : Int32) * nI n = nI (8 * n) := by rw [show ((8 : Int32)) = nI 8 from rfl, pk_mul]
/-- the digits of sixteen bytes -/
def po_d (l : List Int32) (p k : Nat) : Nat := dg (po_N l p 16) k
theorem sp_addB {M : Nat → List Int32} {p : Nat} (f : Nat → Nat) : ∀ (m i n : Nat) (h : mm_H) (F : Nat → Int64), h.2.2.1 b = F → rr_M h M → mm_kd h r = 5 → mm_ln h b = 5 → p + 16 ≤ (M r).length → (∀ k, k < 5 → F k = nL (f k + dg (po_N (M r) p i) k)) → i + m = 16 → m < n → ∃ F', lp_X5_addBytes_2 n r (nI p) b (nI i) h = some (none, mm_sq h b F') ∧ ∀ k, k < 5 → F' k = nL (f k + po_d (M r) p k) := by
  intro m
  induction m with
  | zero =>
    intro i n h F hF R hr hb hp hf hi hn
    obtain ⟨n, rfl⟩ : ∃ k, n = k + 1 := ⟨n - 1, by omega⟩
    rw [lp_X5_addBytes_2, if_pos (by rw [show ((16 : Int32)) = nI 16 from rfl, nI_leI (by omega) (by omega)]; omega)]
    refine ⟨F, by rw [← hF, sq_self], fun k hk => ?_⟩
    rw [hf k hk, show i = 16 by omega]; rfl
  | succ m ih =>
    intro i n h F hF R hr hb hp hf hi hn
    obtain ⟨n, rfl⟩ : ∃ k, n = k + 1 := ⟨n - 1, by omega⟩
    obtain ⟨g1, g2, g3, g4, g5, g6, g7, g8⟩ := R r hr
    have hby := g8 _ (rr_mem (show p + i < (M r).length by omega))
    generalize hw : nb ((M r).getD (p + i) 0) = w
    have hw2 : w < 256 := by rw [← hw]; exact nb_lt _
    have hs : 8 * i % 26 < 26 := Nat.mod_lt _ (by decide)
    have hp2 : 2 ^ (8 * i % 26) ≤ 2 ^ 25 := Nat.pow_le_pow_right (by omega) (by omega)
    have hv : w * 2 ^ (8 * i % 26) < 2 ^ 34 := by
      have : w * 2 ^ (8 * i % 26) ≤ 255 * 2 ^ 25 := Nat.mul_le_mul (by omega) hp2
      omega
    have hq : 8 * i / 26 < 5 := by omega
    rw [lp_X5_addBytes_2, if_neg (by rw [show ((16 : Int32)) = nI 16 from rfl, nI_leI (by omega) (by omega)]; omega), nI_add, g4, if_neg (by rw [nI_leI (by omega) (by omega)]; omega)]
    simp only [mm_bi, mm_gr, g1, Option.bind_some]
    rw [if_pos (rr_in (by omega) (by omega)), rr_n (by omega), g7 _ (by omega), po_8, po_27 (by omega), po_28 (by omega), nb_eq hby, hw, nL_wide (by omega), nL_shl _ (by omega) (by omega)]
    simp only [mm_bl]
    rw [hb, if_neg (by rw [nI_leI (by omega) (by omega)]; omega), if_pos (rr_in (by omega) (by omega)), if_pos (rr_in (by omega) (by omega)), rr_n (by omega), nL_m26 (by omega)]
    simp only [mm_bh]
    rw [sq_sl, show mm_l h b (8 * i / 26) = nL (f (8 * i / 26) + dg (po_N (M r) p i) (8 * i / 26)) from by show h.2.2.1 b _ = _; rw [hF]; exact hf _ hq, nL_add, hF]
    unfold jn_X5_addBytes_66 jn_X5_addBytes_89
    have key : ∀ G : Nat → Int64, (∀ k, k < 5 → G k = nL (f k + dg (po_N (M r) p (i + 1)) k)) → ∃ F', lp_X5_addBytes_2 n r (nI p) b (nI i + 1) (mm_sq h b G) = some (none, mm_sq h b F') ∧ ∀ k, k < 5 → F' k = nL (f k + po_d (M r) p k) := by
      intro G hG
      rw [nI_1]
      obtain ⟨F', q1, q2⟩ := ih (i + 1) n (mm_sq h b G) G sq_at R hr hb hp hG (by omega) (by omega)
      exact ⟨F', by rw [q1, sq_sq], q2⟩
    have st : ∀ k, k < 5 → dg (po_N (M r) p (i + 1)) k = dg (po_N (M r) p i) k + (if k = 8 * i / 26 then w * 2 ^ (8 * i % 26) % 67108864 else 0) + (if k = 8 * i / 26 + 1 then w * 2 ^ (8 * i % 26) / 67108864 else 0) := by
      intro k hk
      rw [po_N, hw]
      exact dg_s i (by omega) k hk _ w (po_N_lt _ _ _) hw2
    rw [sq_ln, hb, show nI (8 * i / 26) + 1 = nI (8 * i / 26 + 1) from nI_1 _]
    by_cases c : 8 * i / 26 + 1 < 5
    · rw [if_neg (by rw [nI_leI (by omega) (by omega)]; omega), if_pos (rr_in (by omega) (by omega)), if_pos (rr_in (by omega) (by omega)), rr_n (by omega)]
      simp only [mm_bh]
      rw [sq_sl, sq_l, sq_at, sq_sq, show ((26 : Int32)) = nI 26 from rfl, nL_ush 26 (by omega) (by omega), updL_off (by omega), hf _ c, nL_add]
      refine key _ (fun k hk => ?_)
      rw [st k hk]
      by_cases e1 : k = 8 * i / 26 + 1
      · subst e1; rw [updL_at, if_neg (by omega), if_pos rfl]; congr 1; omega
      · rw [updL_off e1, if_neg e1]
        by_cases e2 : k = 8 * i / 26
        · subst e2; rw [updL_at, if_pos rfl]; congr 1; omega
        · rw [updL_off e2, if_neg e2]; exact hf k hk
    · rw [if_pos (by rw [nI_leI (by omega) (by omega)]; omega)]
      refine key _ (fun k hk => ?_)
      rw [st k hk, if_neg (show ¬ k = 8 * i / 26 + 1 by omega)]
      by_cases e2 : k = 8 * i / 26
      · subst e2; rw [updL_at, if_pos rfl]; congr 1; omega
      · rw [updL_off e2, if_neg e2]; exact hf k hk
theorem sp_X5_addBytes {h : mm_H} {M : Nat → List Int32} {p : Nat} (f : Nat → Nat) (R : rr_M h M) (hr : mm_kd h r = 5) (hb : mm_ln h b = 5) (hp : p + 16 ≤ (M r).length) (hf : ∀ k, k < 5 → h.2.2.1 b k = nL (f k)) : ∃ F, bd_X5_addBytes r (nI p) b h = some (none, mm_sq h b F) ∧ ∀ k, k < 5 → F k = nL (f k + po_d (M r) p k) := by
  refine sp_addB f 16 0 mm_fu h _ rfl R hr hb hp (fun k hk => ?_) (by omega) (by unfold mm_fu; omega)
  rw [hf k hk, po_N]; unfold dg; simp
/-- a limb of the product -/
def po_row (a r : Nat → Nat) (i : Nat) : Nat → Nat → Nat → Nat
  | 0, _, t => t
  | m + 1, j, t => po_row a r i m (j + 1) (t + (if j ≤ i then a j * r (i - j) else 5 * a j * r (i + 5 - j)))
def po_mu (a r : Nat → Nat) (k : Nat) : Nat := po_row a r k 5 0 0
/-- what the limbs hold -/
def po_h (h : mm_H) (b : Nat) (a : Nat → Nat) : Prop := ∀ k, k < 5 → h.2.2.1 b k = nL (a k)
theorem sp_mul12 {ke : Nat → Int32 → Int64 → mm_H → mm_O} {h : mm_H} (a q : Nat → Nat) (r1 : mm_r h 53 1 = some 55) (r0 : mm_r h 53 0 = some 54) (l5 : mm_ln h 55 = 5) (l4 : mm_ln h 54 = 5) (ha : po_h h 55 a) (hq : po_h h 54 q) {i : Nat} (hi : i < 5) : ∀ (m j n t : Nat), j + m = 5 → m < n → lp_X5_multiply_12 ke n 53 (nI i) (nL t) (nI j) h = ke 53 (nI i) (nL (po_row a q i m j t)) h := by
  intro m
  induction m with
  | zero =>
    intro j n t hj hn
    obtain ⟨n, rfl⟩ : ∃ k, n = k + 1 := ⟨n - 1, by omega⟩
    rw [lp_X5_multiply_12, if_pos (by rw [show ((5 : Int32)) = nI 5 from rfl, nI_leI (by omega) (by omega)]; omega), po_row]
  | succ m ih =>
    intro j n t hj hn
    obtain ⟨n, rfl⟩ : ∃ k, n = k + 1 := ⟨n - 1, by omega⟩
    rw [lp_X5_multiply_12, if_neg (by rw [show ((5 : Int32)) = nI 5 from rfl, nI_leI (by omega) (by omega)]; omega)]
    unfold jn_X5_multiply_68
    simp only [mm_gr, r1, r0, Option.bind_some, l5, l4, mm_bl]
    rw [po_row]
    by_cases c : j ≤ i
    · rw [if_pos (by rw [nI_leI (by omega) (by omega)]; omega), if_pos (rr_in (by omega) (by omega)), pk_sub (by omega), if_pos (rr_in (by omega) (by omega)), rr_n (by omega), rr_n (by omega), nI_1]
      rw [show mm_l h 55 j = nL (a j) from ha j (by omega), show mm_l h 54 (i - j) = nL (q (i - j)) from hq _ (by omega), nL_mul, nL_add, ih (j + 1) n _ (by omega) (by omega), if_pos c]
    · rw [if_neg (by rw [nI_leI (by omega) (by omega)]; omega), if_pos (rr_in (by omega) (by omega))]
      rw [show nI i - nI j + (5 : Int32) = nI (i + 5 - j) from by rw [show ((5 : Int32)) = nI 5 from rfl, Int32.sub_eq_add_neg, Int32.add_assoc, Int32.add_comm (-nI j), ← Int32.add_assoc, nI_add, ← Int32.sub_eq_add_neg, pk_sub (by omega)]]
      rw [if_pos (rr_in (by omega) (by omega)), rr_n (by omega), rr_n (by omega), nI_1]
      rw [show mm_l h 55 j = nL (a j) from ha j (by omega), show mm_l h 54 (i + 5 - j) = nL (q (i + 5 - j)) from hq _ (by omega), show ((5 : Int64)) = nL 5 from rfl, nL_mul, nL_mul, nL_add, ih (j + 1) n _ (by omega) (by omega), if_neg c]
theorem sp_mul2 {ke : Nat → mm_H → mm_O} (a q : Nat → Nat) : ∀ (m i n : Nat) (h : mm_H), mm_r h 53 1 = some 55 → mm_r h 53 0 = some 54 → mm_r h 53 2 = some 56 → mm_ln h 55 = 5 → mm_ln h 54 = 5 → mm_ln h 56 = 5 → po_h h 55 a → po_h h 54 q → (∀ k, k < i → h.2.2.1 56 k = nL (po_mu a q k)) → i + m = 5 → m < n → ∃ W, lp_X5_multiply_2 ke n 53 (nI i) h = ke 53 (mm_sq h 56 W) ∧ ∀ k, k < 5 → W k = nL (po_mu a q k) := by
  intro m
  induction m with
  | zero =>
    intro i n h r1 r0 r2 l5 l4 l6 ha hq hw hi hn
    obtain ⟨n, rfl⟩ : ∃ k, n = k + 1 := ⟨n - 1, by omega⟩
    rw [lp_X5_multiply_2, if_pos (by rw [show ((5 : Int32)) = nI 5 from rfl, nI_leI (by omega) (by omega)]; omega)]
    exact ⟨h.2.2.1 56, by rw [sq_self], fun k hk => hw k (by omega)⟩
  | succ m ih =>
    intro i n h r1 r0 r2 l5 l4 l6 ha hq hw hi hn
    obtain ⟨n, rfl⟩ : ∃ k, n = k + 1 := ⟨n - 1, by omega⟩
    rw [lp_X5_multiply_2, if_neg (by rw [show ((5 : Int32)) = nI 5 from rfl, nI_leI (by omega) (by omega)]; omega)]
    rw [show ((0 : Int64)) = nL 0 from rfl, show ((0 : Int32)) = nI 0 from rfl, sp_mul12 a q r1 r0 l5 l4 ha hq (by omega) 5 0 mm_fu 0 (by omega) (by unfold mm_fu; omega)]
    simp only [mm_gr, r2, Option.bind_some, l6]
    rw [if_pos (rr_in (by omega) (by omega)), rr_n (by omega), nI_1]
    simp only [mm_bh]
    rw [sq_sl]
    obtain ⟨W, p1, p2⟩ := ih (i + 1) n (mm_sq h 56 (vp_updL (h.2.2.1 56) i (nL (po_row a q i 5 0 0)))) r1 r0 r2 l5 l4 l6 (fun k hk => by rw [sq_off (by decide)]; exact ha k hk) (fun k hk => by rw [sq_off (by decide)]; exact hq k hk) (fun k hk => by
      rw [sq_at]
      by_cases e : k = i
      · subst e; rw [updL_at]; rfl
      · rw [updL_off e]; exact hw k (by omega)) (by omega) (by omega)
    exact ⟨W, by rw [p1, sq_sq], p2⟩
theorem sp_mul91 (a : Nat → Nat) : ∀ (m i n : Nat) (h : mm_H), mm_r h 53 1 = some 55 → mm_r h 53 2 = some 56 → mm_ln h 55 = 5 → mm_ln h 56 = 5 → po_h h 56 a → (∀ k, k < i → h.2.2.1 55 k = nL (a k)) → i + m = 5 → m < n → ∃ W, lp_X5_multiply_91 n 53 (nI i) h = some (none, mm_sq h 55 W) ∧ ∀ k, k < 5 → W k = nL (a k) := by
  intro m
  induction m with
  | zero =>
    intro i n h r1 r2 l5 l6 ha hw hi hn
    obtain ⟨n, rfl⟩ : ∃ k, n = k + 1 := ⟨n - 1, by omega⟩
    rw [lp_X5_multiply_91, if_pos (by rw [show ((5 : Int32)) = nI 5 from rfl, nI_leI (by omega) (by omega)]; omega)]
    exact ⟨h.2.2.1 55, by rw [sq_self], fun k hk => hw k (by omega)⟩
  | succ m ih =>
    intro i n h r1 r2 l5 l6 ha hw hi hn
    obtain ⟨n, rfl⟩ : ∃ k, n = k + 1 := ⟨n - 1, by omega⟩
    rw [lp_X5_multiply_91, if_neg (by rw [show ((5 : Int32)) = nI 5 from rfl, nI_leI (by omega) (by omega)]; omega)]
    simp only [mm_gr, r1, r2, Option.bind_some, l5, l6]
    rw [if_pos (rr_in (by omega) (by omega)), if_pos (rr_in (by omega) (by omega)), rr_n (by omega), nI_1]
    simp only [mm_bh]
    rw [sq_sl, show mm_l h 56 i = nL (a i) from ha i (by omega)]
    obtain ⟨W, p1, p2⟩ := ih (i + 1) n (mm_sq h 55 (vp_updL (h.2.2.1 55) i (nL (a i)))) r1 r2 l5 l6 (fun k hk => by rw [sq_off (by decide)]; exact ha k hk) (fun k hk => by
      rw [sq_at]
      by_cases e : k = i
      · subst e; rw [updL_at]
      · rw [updL_off e]; exact hw k (by omega)) (by omega) (by omega)
    exact ⟨W, by rw [p1, sq_sq], p2⟩
/-- where Poly's arrays lie -/
def po_ok (h : mm_H) : Prop := mm_r h 53 0 = some 54 ∧ mm_r h 53 1 = some 55 ∧ mm_r h 53 2 = some 56 ∧ mm_ln h 54 = 5 ∧ mm_ln h 55 = 5 ∧ mm_ln h 56 = 5
theorem sp_X5_multiply {h : mm_H} (a q : Nat → Nat) (o : po_ok h) (ha : po_h h 55 a) (hq : po_h h 54 q) : ∃ W S, bd_X5_multiply 53 h = some (none, mm_sq (mm_sq h 56 W) 55 S) ∧ ∀ k, k < 5 → S k = nL (po_mu a q k) := by
  obtain ⟨r0, r1, r2, l4, l5, l6⟩ := o
  unfold bd_X5_multiply
  rw [show ((0 : Int32)) = nI 0 from rfl]
  obtain ⟨W, p1, p2⟩ := sp_mul2 (ke := fun b24 h23 => lp_X5_multiply_91 mm_fu b24 (nI 0) h23) a q 5 0 mm_fu h r1 r0 r2 l5 l4 l6 ha hq (fun k hk => absurd hk (Nat.not_lt_zero _)) (by omega) (by unfold mm_fu; omega)
  rw [p1]
  obtain ⟨S, q1, q2⟩ := sp_mul91 (fun k => po_mu a q k) 5 0 mm_fu (mm_sq h 56 W) r1 r2 l5 l6 (fun k hk => by rw [sq_at]; exact p2 k hk) (fun k hk => absurd hk (Nat.not_lt_zero _)) (by omega) (by unfold mm_fu; omega)
  exact ⟨W, S, q1, q2⟩
end POL
