/-! ===== Poly1305: settle, reduce, putSum ===== -/
def po_ch : Nat → Nat → Nat → (Nat → Nat) → (Nat → Nat) × Nat
  | 0, _, c, a => (a, c)
  | m + 1, i, c, a => po_ch m (i + 1) ((a i + c) / 67108864) (updN a i ((a i + c) % 67108864))
def po_se (a : Nat → Nat) : Nat → Nat :=
  updN (updN (po_ch 5 0 0 a).1 0 (((po_ch 5 0 0 a).1 0 + 5 * (po_ch 5 0 0 a).2) % 67108864)) 1 ((po_ch 5 0 0 a).1 1 + ((po_ch 5 0 0 a).1 0 + 5 * (po_ch 5 0 0 a).2) / 67108864)
def po_re (a : Nat → Nat) : Nat → Nat := if (po_ch 5 0 5 a).2 = 0 then a else (po_ch 5 0 5 a).1
/-- the chain, limb for limb -/
theorem po_ch_5 (a : Nat → Nat) (c : Nat) : po_ch 5 0 c a =
    (updN (updN (updN (updN (updN a 0 ((a 0 + c) % 67108864)) 1 ((a 1 + (a 0 + c) / 67108864) % 67108864)) 2 ((a 2 + (a 1 + (a 0 + c) / 67108864) / 67108864) % 67108864)) 3 ((a 3 + (a 2 + (a 1 + (a 0 + c) / 67108864) / 67108864) / 67108864) % 67108864)) 4 ((a 4 + (a 3 + (a 2 + (a 1 + (a 0 + c) / 67108864) / 67108864) / 67108864) / 67108864) % 67108864),
      (a 4 + (a 3 + (a 2 + (a 1 + (a 0 + c) / 67108864) / 67108864) / 67108864) / 67108864) / 67108864) := by
  simp only [po_ch, updN, Nat.reduceAdd, Nat.reduceEqDiff, if_false]
theorem po_ch_at (a : Nat → Nat) (c : Nat) : (po_ch 5 0 c a).1 0 = (a 0 + c) % 67108864 ∧ (po_ch 5 0 c a).1 1 = (a 1 + (a 0 + c) / 67108864) % 67108864 ∧ (po_ch 5 0 c a).1 2 = (a 2 + (a 1 + (a 0 + c) / 67108864) / 67108864) % 67108864 ∧ (po_ch 5 0 c a).1 3 = (a 3 + (a 2 + (a 1 + (a 0 + c) / 67108864) / 67108864) / 67108864) % 67108864 ∧ (po_ch 5 0 c a).1 4 = (a 4 + (a 3 + (a 2 + (a 1 + (a 0 + c) / 67108864) / 67108864) / 67108864) / 67108864) % 67108864 ∧ (po_ch 5 0 c a).2 = (a 4 + (a 3 + (a 2 + (a 1 + (a 0 + c) / 67108864) / 67108864) / 67108864) / 67108864) / 67108864 := by
  rw [po_ch_5]
  simp [updN]
theorem po_ch_cg {a a' : Nat → Nat} (h : ∀ k, k < 5 → a k = a' k) (c : Nat) : (∀ k, k < 5 → (po_ch 5 0 c a).1 k = (po_ch 5 0 c a').1 k) ∧ (po_ch 5 0 c a).2 = (po_ch 5 0 c a').2 := by
  obtain ⟨x0, x1, x2, x3, x4, x5⟩ := po_ch_at a c
  obtain ⟨y0, y1, y2, y3, y4, y5⟩ := po_ch_at a' c
  rw [h 0 (by omega), h 1 (by omega), h 2 (by omega), h 3 (by omega), h 4 (by omega)] at x4 x5
  rw [h 0 (by omega), h 1 (by omega), h 2 (by omega), h 3 (by omega)] at x3
  rw [h 0 (by omega), h 1 (by omega), h 2 (by omega)] at x2
  rw [h 0 (by omega), h 1 (by omega)] at x1
  rw [h 0 (by omega)] at x0
  refine ⟨fun k hk => ?_, by rw [x5, y5]⟩
  rcases (by omega : k = 0 ∨ k = 1 ∨ k = 2 ∨ k = 3 ∨ k = 4) with rfl | rfl | rfl | rfl | rfl
  · rw [x0, y0]
  · rw [x1, y1]
  · rw [x2, y2]
  · rw [x3, y3]
  · rw [x4, y4]
theorem po_se_cg {a a' : Nat → Nat} (h : ∀ k, k < 5 → a k = a' k) : ∀ k, k < 5 → po_se a k = po_se a' k := by
  intro k hk
  obtain ⟨e1, e2⟩ := po_ch_cg h 0
  unfold po_se updN
  rw [e2, e1 0 (by omega), e1 1 (by omega), e1 k hk]
theorem po_re_cg {a a' : Nat → Nat} (h : ∀ k, k < 5 → a k = a' k) : ∀ k, k < 5 → po_re a k = po_re a' k := by
  intro k hk
  obtain ⟨e1, e2⟩ := po_ch_cg h 5
  unfold po_re
  rw [e2]
  by_cases c : (po_ch 5 0 5 a').2 = 0
  · rw [if_pos c, if_pos c, h k hk]
  · rw [if_neg c, if_neg c, e1 k hk]
theorem po_row_cg {a a' q q' : Nat → Nat} {i : Nat} (hi : i < 5) (h : ∀ k, k < 5 → a k = a' k) (hq : ∀ k, k < 5 → q k = q' k) : ∀ m j t, j + m ≤ 5 → po_row a q i m j t = po_row a' q' i m j t := by
  intro m
  induction m with
  | zero => intro j t _; rfl
  | succ m ih =>
    intro j t hj
    rw [po_row, po_row, ih (j + 1) _ (by omega), h j (by omega)]
    by_cases c : j ≤ i
    · rw [if_pos c, if_pos c, hq _ (by omega)]
    · rw [if_neg c, if_neg c, hq _ (by omega)]
theorem po_mu_cg {a a' q q' : Nat → Nat} (h : ∀ k, k < 5 → a k = a' k) (hq : ∀ k, k < 5 → q k = q' k) : ∀ k, k < 5 → po_mu a q k = po_mu a' q' k := fun k hk => po_row_cg hk h hq 5 0 0 (by omega)
/-- bounds -/
theorem po_row_le {a q : Nat → Nat} {i : Nat} (hi : i < 5) (ha : ∀ k, k < 5 → a k < 2 ^ 28) (hq : ∀ k, k < 5 → q k < 2 ^ 26) : ∀ m j t, j + m ≤ 5 → po_row a q i m j t ≤ t + m * (5 * 2 ^ 54) := by
  intro m
  induction m with
  | zero => intro j t _; simp [po_row]
  | succ m ih =>
    intro j t hj
    rw [po_row]
    refine Nat.le_trans (ih (j + 1) _ (by omega)) ?_
    have : (if j ≤ i then a j * q (i - j) else 5 * a j * q (i + 5 - j)) ≤ 5 * 2 ^ 54 := by
      have h1 := ha j (by omega)
      by_cases c : j ≤ i
      · rw [if_pos c]
        have h2 := hq (i - j) (by omega)
        have := Nat.mul_le_mul (Nat.le_of_lt h1) (Nat.le_of_lt h2)
        omega
      · rw [if_neg c]
        have h2 := hq (i + 5 - j) (by omega)
        have := Nat.mul_le_mul (Nat.mul_le_mul (Nat.le_refl 5) (Nat.le_of_lt h1)) (Nat.le_of_lt h2)
        omega
    omega
theorem po_mu_lt {a q : Nat → Nat} (ha : ∀ k, k < 5 → a k < 2 ^ 28) (hq : ∀ k, k < 5 → q k < 2 ^ 26) : ∀ k, k < 5 → po_mu a q k < 2 ^ 60 := by
  intro k hk
  have := po_row_le hk ha hq 5 0 0 (by omega)
  unfold po_mu
  omega
/-- what settle leaves -/
def po_sm (a : Nat → Nat) : Prop := a 0 < 67108864 ∧ a 1 < 2 ^ 27 ∧ a 2 < 67108864 ∧ a 3 < 67108864 ∧ a 4 < 67108864
theorem po_se_sm {a : Nat → Nat} (ha : ∀ k, k < 5 → a k < 2 ^ 60) : po_sm (po_se a) := by
  obtain ⟨x0, x1, x2, x3, x4, x5⟩ := po_ch_at a 0
  have h0 := ha 0 (by omega)
  have h1 := ha 1 (by omega)
  have h2 := ha 2 (by omega)
  have h3 := ha 3 (by omega)
  have h4 := ha 4 (by omega)
  unfold po_sm po_se
  simp only [updN, Nat.reduceEqDiff, if_true, if_false]
  refine ⟨Nat.mod_lt _ (by decide), ?_, ?_, ?_, ?_⟩
  · omega
  · omega
  · omega
  · omega
section PLB
variable {b : Nat}
theorem sp_set4 {ke : Nat → Int64 → mm_H → mm_O} : ∀ (m i n c : Nat) (a : Nat → Nat) (h : mm_H), mm_ln h b = 5 → po_h h b a → (∀ k, k < 5 → a k < 2 ^ 62) → c < 2 ^ 62 → i + m = 5 → m < n → ∃ W, lp_X5_settle_4 ke n b (nL c) (nI i) h = ke b (nL (po_ch m i c a).2) (mm_sq h b W) ∧ ∀ k, k < 5 → W k = nL ((po_ch m i c a).1 k) := by
  intro m
  induction m with
  | zero =>
    intro i n c a h lb ha hb hc hi hn
    obtain ⟨n, rfl⟩ : ∃ k, n = k + 1 := ⟨n - 1, by omega⟩
    rw [lp_X5_settle_4, if_pos (by rw [show ((5 : Int32)) = nI 5 from rfl, nI_leI (by omega) (by omega)]; omega)]
    exact ⟨h.2.2.1 b, by rw [sq_self]; rfl, ha⟩
  | succ m ih =>
    intro i n c a h lb ha hb hc hi hn
    obtain ⟨n, rfl⟩ : ∃ k, n = k + 1 := ⟨n - 1, by omega⟩
    have hbi := hb i (by omega)
    rw [lp_X5_settle_4, if_neg (by rw [show ((5 : Int32)) = nI 5 from rfl, nI_leI (by omega) (by omega)]; omega), lb, if_neg (by rw [nI_leI (by omega) (by omega)]; omega), if_pos (rr_in (by omega) (by omega)), rr_n (by omega)]
    simp only [mm_bl]
    rw [if_pos (rr_in (by omega) (by omega))]
    simp only [mm_bh]
    rw [show mm_l h b i = nL (a i) from ha i (by omega), nL_add, nL_m26 (by omega), show ((26 : Int32)) = nI 26 from rfl, nL_ush 26 (by omega) (by omega), nI_1, sq_sl, show (2 : Nat) ^ 26 = 67108864 from rfl]
    obtain ⟨W, p1, p2⟩ := ih (i + 1) n ((a i + c) / 67108864) (updN a i ((a i + c) % 67108864)) (mm_sq h b (vp_updL (h.2.2.1 b) i (nL ((a i + c) % 67108864)))) lb (fun k hk => by
      rw [sq_at]
      by_cases e : k = i
      · subst e; rw [updL_at, updN_at]
      · rw [updL_off e, updN_off e]; exact ha k hk) (fun k hk => by
      by_cases e : k = i
      · subst e; rw [updN_at]; omega
      · rw [updN_off e]; exact hb k hk) (by omega) (by omega) (by omega)
    exact ⟨W, by rw [p1, sq_sq]; rfl, p2⟩
theorem sp_X5_settle {h : mm_H} (a : Nat → Nat) (lb : mm_ln h b = 5) (ha : po_h h b a) (hb : ∀ k, k < 5 → a k < 2 ^ 60) : ∃ W, bd_X5_settle b h = some (none, mm_sq h b W) ∧ ∀ k, k < 5 → W k = nL (po_se a k) := by
  unfold bd_X5_settle
  rw [show ((0 : Int64)) = nL 0 from rfl, show ((0 : Int32)) = nI 0 from rfl]
  obtain ⟨W, p1, p2⟩ := sp_set4 (b := b) 5 0 mm_fu 0 a h lb ha (fun k hk => by have := hb k hk; omega) (by omega) (by omega) (by unfold mm_fu; omega)
  rw [p1]
  obtain ⟨x0, x1, x2, x3, x4, x5⟩ := po_ch_at a 0
  have h0 := hb 0 (by omega)
  have h1 := hb 1 (by omega)
  have h2 := hb 2 (by omega)
  have h3 := hb 3 (by omega)
  have h4 := hb 4 (by omega)
  have hlow : (po_ch 5 0 0 a).1 0 + 5 * (po_ch 5 0 0 a).2 < 2 ^ 62 := by omega
  rw [sq_ln, lb, if_neg (by decide), if_pos (by decide), show mm_n (nI 0) = 0 from by decide, sq_l, p2 0 (by omega), show ((5 : Int64)) = nL 5 from rfl, nL_mul, nL_add]
  simp only [mm_bl]
  rw [if_pos (by decide)]
  simp only [mm_bh]
  rw [sq_sl, sq_at, sq_sq, nL_m26 (by omega), sq_ln, lb, if_pos (by decide), if_pos (by decide), show mm_n (1 : Int32) = 1 from by decide]
  rw [sq_sl, sq_l, sq_at, sq_sq, show ((26 : Int32)) = nI 26 from rfl, nL_ush 26 (by omega) (by omega), show (2 : Nat) ^ 26 = 67108864 from rfl, updL_off (by decide), p2 1 (by omega), nL_add]
  refine ⟨_, rfl, fun k hk => ?_⟩
  unfold po_se
  by_cases e1 : k = 1
  · subst e1; rw [updL_at, updN_at]
  · rw [updL_off e1, updN_off e1]
    by_cases e0 : k = 0
    · subst e0; rw [updL_at, updN_at]
    · rw [updL_off e0, updN_off e0]; exact p2 k hk
theorem sp_red6 {ke : Nat → Int64 → mm_H → mm_O} : ∀ (m i n c : Nat) (a a' : Nat → Nat) (h : mm_H), mm_r h 53 1 = some 55 → mm_r h 53 2 = some 56 → mm_ln h 55 = 5 → mm_ln h 56 = 5 → po_h h 55 a → (∀ k, k < 5 → a k < 2 ^ 62) → (∀ k, i ≤ k → a' k = a k) → (∀ k, k < i → h.2.2.1 56 k = nL (a' k)) → c < 2 ^ 62 → i + m = 5 → m < n → ∃ W, lp_X5_reduce_6 ke n 53 (nL c) (nI i) h = ke 53 (nL (po_ch m i c a').2) (mm_sq h 56 W) ∧ ∀ k, k < 5 → W k = nL ((po_ch m i c a').1 k) := by
  intro m
  induction m with
  | zero =>
    intro i n c a a' h r1 r2 l5 l6 ha hb hu hw hc hi hn
    obtain ⟨n, rfl⟩ : ∃ k, n = k + 1 := ⟨n - 1, by omega⟩
    rw [lp_X5_reduce_6, if_pos (by rw [show ((5 : Int32)) = nI 5 from rfl, nI_leI (by omega) (by omega)]; omega)]
    exact ⟨h.2.2.1 56, by rw [sq_self]; rfl, fun k hk => hw k (by omega)⟩
  | succ m ih =>
    intro i n c a a' h r1 r2 l5 l6 ha hb hu hw hc hi hn
    obtain ⟨n, rfl⟩ : ∃ k, n = k + 1 := ⟨n - 1, by omega⟩
    have hbi := hb i (by omega)
    rw [lp_X5_reduce_6, if_neg (by rw [show ((5 : Int32)) = nI 5 from rfl, nI_leI (by omega) (by omega)]; omega)]
    simp only [mm_gr, r1, r2, Option.bind_some, l5, l6, mm_bl]
    rw [if_pos (rr_in (by omega) (by omega)), if_pos (rr_in (by omega) (by omega)), rr_n (by omega)]
    simp only [mm_bh]
    rw [show mm_l h 55 i = nL (a i) from ha i (by omega), nL_add, nL_m26 (by omega), show ((26 : Int32)) = nI 26 from rfl, nL_ush 26 (by omega) (by omega), nI_1, sq_sl, show (2 : Nat) ^ 26 = 67108864 from rfl]
    obtain ⟨W, p1, p2⟩ := ih (i + 1) n ((a i + c) / 67108864) a (updN a' i ((a i + c) % 67108864)) (mm_sq h 56 (vp_updL (h.2.2.1 56) i (nL ((a i + c) % 67108864)))) r1 r2 l5 l6 (fun k hk => by rw [sq_off (by decide)]; exact ha k hk) hb (fun k hk => by rw [updN_off (by omega)]; exact hu k (by omega)) (fun k hk => by
      rw [sq_at]
      by_cases e : k = i
      · subst e; rw [updL_at, updN_at]
      · rw [updL_off e, updN_off e]; exact hw k (by omega)) (by omega) (by omega) (by omega)
    rw [po_ch, hu i (by omega)]
    exact ⟨W, by rw [p1, sq_sq], p2⟩
theorem sp_red47 (a : Nat → Nat) {c : Nat} (hc : c < 2 ^ 62) (h0 : c ≠ 0) : ∀ (m i n : Nat) (h : mm_H), mm_r h 53 1 = some 55 → mm_r h 53 2 = some 56 → mm_ln h 55 = 5 → mm_ln h 56 = 5 → po_h h 56 a → (∀ k, k < i → h.2.2.1 55 k = nL (a k)) → i + m = 5 → m < n → ∃ W, lp_X5_reduce_47 n 53 (nL c) (nI i) h = some (none, mm_sq h 55 W) ∧ ∀ k, k < 5 → W k = nL (a k) := by
  intro m
  induction m with
  | zero =>
    intro i n h r1 r2 l5 l6 ha hw hi hn
    obtain ⟨n, rfl⟩ : ∃ k, n = k + 1 := ⟨n - 1, by omega⟩
    rw [lp_X5_reduce_47, if_pos (by rw [show ((5 : Int32)) = nI 5 from rfl, nI_leI (by omega) (by omega)]; omega)]
    exact ⟨h.2.2.1 55, by rw [sq_self], fun k hk => hw k (by omega)⟩
  | succ m ih =>
    intro i n h r1 r2 l5 l6 ha hw hi hn
    obtain ⟨n, rfl⟩ : ∃ k, n = k + 1 := ⟨n - 1, by omega⟩
    rw [lp_X5_reduce_47, if_neg (by rw [show ((5 : Int32)) = nI 5 from rfl, nI_leI (by omega) (by omega)]; omega), if_neg (by rw [nL_cmp (by omega)]; exact h0)]
    simp only [mm_gr, r1, r2, Option.bind_some, l5, l6]
    rw [if_pos (rr_in (by omega) (by omega)), if_pos (rr_in (by omega) (by omega)), rr_n (by omega), nI_1]
    simp only [mm_bh]
    rw [sq_sl, show mm_l h 56 i = nL (a i) from ha i (by omega)]
    obtain ⟨W, p1, p2⟩ := ih (i + 1) n (mm_sq h 55 (vp_updL (h.2.2.1 55) i (nL (a i)))) r1 r2 l5 l6 (fun k hk => by rw [sq_off (by decide)]; exact ha k hk) (fun k hk => by
      rw [sq_at]
      by_cases e : k = i
      · subst e; rw [updL_at]
      · rw [updL_off e]; exact hw k (by omega)) (by omega) (by omega)
    exact ⟨W, by rw [p1, sq_sq], p2⟩
theorem sp_X5_reduce {h : mm_H} (a : Nat → Nat) (o : po_ok h) (ha : po_h h 55 a) (hb : ∀ k, k < 5 → a k < 2 ^ 60) : ∃ W S, bd_X5_reduce 53 h = some (none, mm_sq (mm_sq h 56 W) 55 S) ∧ ∀ k, k < 5 → S k = nL (po_re a k) := by
  obtain ⟨r0, r1, r2, l4, l5, l6⟩ := o
  unfold bd_X5_reduce
  rw [show ((5 : Int64)) = nL 5 from rfl, show ((0 : Int32)) = nI 0 from rfl]
  obtain ⟨W, p1, p2⟩ := sp_red6 (ke := fun b12 v13 h11 => lp_X5_reduce_47 mm_fu b12 v13 (nI 0) h11) 5 0 mm_fu 5 a a h r1 r2 l5 l6 ha (fun k hk => by have := hb k hk; omega) (fun _ _ => rfl) (fun k hk => absurd hk (Nat.not_lt_zero _)) (by omega) (by omega) (by unfold mm_fu; omega)
  rw [p1]
  have hc : (po_ch 5 0 5 a).2 < 2 ^ 62 := by
    obtain ⟨x0, x1, x2, x3, x4, x5⟩ := po_ch_at a 5
    have h0 := hb 0 (by omega)
    have h1 := hb 1 (by omega)
    have h2 := hb 2 (by omega)
    have h3 := hb 3 (by omega)
    have h4 := hb 4 (by omega)
    omega
  unfold po_re
  by_cases c : (po_ch 5 0 5 a).2 = 0
  · refine ⟨W, h.2.2.1 55, ?_, fun k hk => by rw [if_pos c]; exact ha k hk⟩
    have e : mm_fu = 99999 + 1 := rfl
    rw [e, lp_X5_reduce_47, if_neg (by decide), if_pos (by rw [nL_cmp (by omega)]; exact c)]
    rw [← sq_off (f := W) (show (55 : Nat) ≠ 56 by decide), sq_self]
  · obtain ⟨S, q1, q2⟩ := sp_red47 (po_ch 5 0 5 a).1 hc c 5 0 mm_fu (mm_sq h 56 W) r1 r2 l5 l6 (fun k hk => by rw [sq_at]; exact p2 k hk) (fun k hk => absurd hk (Nat.not_lt_zero _)) (by omega) (by unfold mm_fu; omega)
    exact ⟨W, S, q1, fun k hk => by rw [if_neg c]; exact q2 k hk⟩
end PLB
