/-! ===== the reference's Poly1305: digits, sixteen bytes ===== -/
def dL (h h' : mm_H) : Prop := h'.1 = h.1 ∧ h'.2.1 = h.2.1 ∧ h'.2.2.2 = h.2.2.2
theorem dL.F {S : Nat → Nat → Prop} {h h' : mm_H} (F : dL h h') : dF S h h' := ⟨F.1, F.2.2, fun a k _ => by rw [F.2.1]⟩
theorem dL.rf {h : mm_H} : dL h h := ⟨rfl, rfl, rfl⟩
theorem dL.t {h h1 h2 : mm_H} (F : dL h h1) (G : dL h1 h2) : dL h h2 := ⟨G.1.trans F.1, G.2.1.trans F.2.1, G.2.2.trans F.2.2⟩
theorem dL.sq {h : mm_H} {b : Nat} {f : Nat → Int64} : dL h (mm_sq h b f) := ⟨rfl, rfl, rfl⟩
theorem dT.L {L : Nat} {h h' : mm_H} (T : dT L h) (F : dL h h') : dT L h' := T.F (F.F (S := fun _ _ => False))
theorem dT.sq {L : Nat} {h : mm_H} {b : Nat} {f : Nat → Int64} (T : dT L h) : dT L (mm_sq h b f) := T
theorem bs.L {h h' : mm_H} {a i : Nat} {l : List Int32} (B : bs h a i l) (F : dL h h') : bs h' a i l := fun k hk => by rw [F.2.1]; exact B k hk
theorem poN_by (l : List Int32) (p : Nat) : ∀ m q, q < m → po_N l p m / 2 ^ (8 * q) % 256 = nb (l.getD (p + q) 0) := by
  intro m
  induction m with
  | zero => intro q hq; omega
  | succ m ih =>
    intro q hq
    rw [po_N]
    by_cases e : q = m
    · subst e
      have h1 := po_N_lt l p q
      have h2 := nb_lt (l.getD (p + q) 0)
      rw [Nat.add_mul_div_right _ _ (Nat.two_pow_pos _), Nat.div_eq_of_lt h1, Nat.zero_add, Nat.mod_eq_of_lt h2]
    · obtain ⟨d, rfl⟩ : ∃ d, m = q + 1 + d := ⟨m - q - 1, by omega⟩
      have e8 : (2 : Nat) ^ (8 * (q + 1 + d)) = 2 ^ (8 * q) * (256 * 2 ^ (8 * d)) := by
        rw [show 8 * (q + 1 + d) = 8 * q + (8 + 8 * d) by omega, Nat.pow_add, Nat.pow_add]
      have e9 : nb (l.getD (p + (q + 1 + d)) 0) * 2 ^ (8 * (q + 1 + d)) = 2 ^ (8 * q) * (256 * (nb (l.getD (p + (q + 1 + d)) 0) * 2 ^ (8 * d))) := by
        rw [e8]
        generalize nb (l.getD (p + (q + 1 + d)) 0) = w
        generalize (2 : Nat) ^ (8 * q) = A
        generalize (2 : Nat) ^ (8 * d) = B
        rw [Nat.mul_left_comm w A, Nat.mul_left_comm w 256]
      rw [e9, Nat.add_mul_div_left _ _ (Nat.two_pow_pos _), Nat.add_mul_mod_self_left]
      exact ih q (by omega)
theorem md_bit : ∀ s, s < 8 → ∀ y : Nat, y % 256 / 2 ^ s % 2 = y / 2 ^ s % 2 := by
  intro s hs y
  rcases (by omega : s = 0 ∨ s = 1 ∨ s = 2 ∨ s = 3 ∨ s = 4 ∨ s = 5 ∨ s = 6 ∨ s = 7) with rfl | rfl | rfl | rfl | rfl | rfl | rfl | rfl <;> omega
theorem poN_bit {l : List Int32} {p m k : Nat} (hk : k / 8 < m) : po_N l p m / 2 ^ k % 2 = nb (l.getD (p + k / 8) 0) / 2 ^ (k % 8) % 2 := by
  rw [← poN_by l p m _ hk, md_bit _ (Nat.mod_lt _ (by decide)), Nat.div_div_eq_div_mul, ← Nat.pow_add, show 8 * (k / 8) + k % 8 = k by omega]
theorem poN_cg {l l' : List Int32} {p p' : Nat} : ∀ m, (∀ j, j < m → l.getD (p + j) 0 = l'.getD (p' + j) 0) → po_N l p m = po_N l' p' m := by
  intro m
  induction m with
  | zero => intro _; rfl
  | succ m ih => intro h; rw [po_N, po_N, ih (fun j hj => h j (by omega)), h m (by omega)]
/-- a bit of a byte -/
theorem by_bit : ∀ n, n < 256 → ∀ s, s < 8 → mm_shr (mm_b8 (nI n)) (nI s) &&& 1 = nI (n / 2 ^ s % 2) := by decide +kernel
theorem dm_part {b bit : Nat} {ke : Int64 → mm_H → mm_O} {h : mm_H} {w : List Int32} (hw : lby w) (lw : w.length = 17) (l17 : mm_ln h b = 17) (B : bs h b 0 w) (hb : bit + 26 ≤ 136) : ∀ (m i n : Nat), i + m = 26 → m < n → lp_X12_part_5 ke n b (nI bit) (nL (po_N w 0 17 / 2 ^ bit % 2 ^ i)) (nI i) h = ke (nL (po_N w 0 17 / 2 ^ bit % 2 ^ 26)) h := by
  intro m
  induction m with
  | zero =>
    intro i n hi hn
    obtain ⟨n, rfl⟩ : ∃ k, n = k + 1 := ⟨n - 1, by omega⟩
    rw [lp_X12_part_5, if_pos (by rw [show ((26 : Int32)) = nI 26 from rfl, nI_leI (by omega) (by omega)]; omega), show i = 26 by omega]
  | succ m ih =>
    intro i n hi hn
    obtain ⟨n, rfl⟩ : ∃ k, n = k + 1 := ⟨n - 1, by omega⟩
    rw [lp_X12_part_5, if_neg (by rw [show ((26 : Int32)) = nI 26 from rfl, nI_leI (by omega) (by omega)]; omega), mm_bi, nI_add, show nI (bit + i) / (8 : Int32) = nI ((bit + i) / 8) from pk_div (d := 8) (by omega) (by omega) (by omega), l17, if_neg (by rw [nI_leI (by omega) (by omega)]; omega), if_pos (rr_in (by omega) (by omega)), rr_n (by omega), show mm_rem (nI (bit + i)) (8 : Int32) = nI ((bit + i) % 8) from pk_rem (d := 8) (by omega) (by decide) (by decide)]
    have e1 : mm_i h b ((bit + i) / 8) = mm_b8 (w.getD ((bit + i) / 8) 0) := by
      have := B ((bit + i) / 8) (by omega)
      rw [Nat.zero_add] at this; exact this
    have hv := nb_eq (hw _ (rr_mem (show (bit + i) / 8 < w.length by omega)))
    have hlt := nb_lt (w.getD ((bit + i) / 8) 0)
    have eb : mm_shr (mm_i h b ((bit + i) / 8)) (nI ((bit + i) % 8)) &&& 1 = nI (po_N w 0 17 / 2 ^ (bit + i) % 2) := by
      rw [e1, hv, by_bit _ hlt _ (Nat.mod_lt _ (by decide)), poN_bit (show (bit + i) / 8 < 17 by omega), Nat.zero_add]
    have h2 : po_N w 0 17 / 2 ^ (bit + i) % 2 < 2 := Nat.mod_lt _ (by decide)
    have hp : (2 : Nat) ^ i ≤ 2 ^ 26 := Nat.pow_le_pow_right (by decide) (by omega)
    have h3 : po_N w 0 17 / 2 ^ bit % 2 ^ i < 2 ^ i := Nat.mod_lt _ (Nat.two_pow_pos _)
    have h4 : po_N w 0 17 / 2 ^ (bit + i) % 2 * 2 ^ i ≤ 1 * 2 ^ i := Nat.mul_le_mul_right _ (by omega)
    rw [eb, nL_wide (by omega), nL_shl _ (by omega) (by omega), nL_or (by omega) (by omega), nor_add h3, mm_bl]
    unfold jn_X12_part_50
    rw [nI_1]
    have e : po_N w 0 17 / 2 ^ bit % 2 ^ i + po_N w 0 17 / 2 ^ (bit + i) % 2 * 2 ^ i = po_N w 0 17 / 2 ^ bit % 2 ^ (i + 1) := by
      rw [Nat.mod_pow_succ, Nat.div_div_eq_div_mul, ← Nat.pow_add, Nat.mul_comm (2 ^ i)]
    rw [e]
    exact ih (i + 1) n (by omega) (by omega)
theorem dr_part {b k : Nat} {x : Int32} {g : Int64 → mm_H → mm_O} {h : mm_H} {w : List Int32} (hw : lby w) (lw : w.length = 17) (l17 : mm_ln h b = 17) (B : bs h b 0 w) (hk : k < 5) (ex : x = nI k) : mm_ql (bd_X12_part b ((26 : Int32) * x) h) g = g (nL (dg (po_N w 0 17) k)) h := by
  have := dm_part (ke := fun v5 h4 => some (some (.long v5), h4)) (bit := 26 * k) hw lw l17 B (by omega) 26 0 mm_fu (by omega) (by unfold mm_fu; omega)
  unfold bd_X12_part
  rw [Nat.pow_zero, Nat.mod_one] at this
  rw [ex, show (26 : Int32) * nI k = nI (26 * k) from pk_mul 26 k, show ((0 : Int64)) = nL 0 from rfl, show ((0 : Int32)) = nI 0 from rfl, this, mm_ql_s]
  rfl
/-- the digits of seventeen bytes, the last of them 1 or 0 -/
theorem dg_17 {N b k : Nat} (hN : N < 2 ^ 128) (hb : b = 0 ∨ b = 1) (hk : k < 5) : dg (N + b * 2 ^ 128) k = dg N k + (if k = 4 then b * po_M else 0) := by
  unfold dg po_M
  rcases hb with rfl | rfl <;> rcases (by omega : k = 0 ∨ k = 1 ∨ k = 2 ∨ k = 3 ∨ k = 4) with rfl | rfl | rfl | rfl | rfl <;> simp only [Nat.reduceMul, Nat.reducePow, Nat.reduceEqDiff, if_true, if_false] at hN ⊢ <;> omega
theorem poN_17 {w : List Int32} {b k : Nat} (hb : b = 0 ∨ b = 1) (e : w.getD 16 0 = nI b) (hk : k < 5) : dg (po_N w 0 17) k = po_d w 0 k + (if k = 4 then b * po_M else 0) := by
  rw [po_N, Nat.zero_add, e, nb_nI (by omega)]
  exact dg_17 (po_N_lt w 0 16) hb hk
section RPO
variable {L : Nat} {h : mm_H} {f : mm_H → mm_O} {g : Int32 → mm_H → mm_O} {Q : Option Value → mm_H → Prop}
theorem dm_tk2 {ke : Nat → mm_H → mm_O} {w : List Int32} (a d : Nat → Nat) (hw : lby w) (lw : w.length = 17) (hd : ∀ k, k < 5 → dg (po_N w 0 17) k = d k) : ∀ (m i n : Nat) (h : mm_H) (F : Nat → Int64), dT L h → bs h 542 0 w → h.2.2.1 540 = F → (∀ k, k < 5 → F k = nL (a k + (if k < i then d k else 0))) → i + m = 5 → m < n → ∃ F', lp_X12_takeSixteen_2 ke n 490 (nI i) h = ke 490 (mm_sq h 540 F') ∧ ∀ k, k < 5 → F' k = nL (a k + d k) := by
  intro m
  induction m with
  | zero =>
    intro i n h F T B hF J hi hn
    obtain ⟨n, rfl⟩ : ∃ k, n = k + 1 := ⟨n - 1, by omega⟩
    rw [lp_X12_takeSixteen_2, if_pos (by rw [show ((5 : Int32)) = nI 5 from rfl, nI_leI (by omega) (by omega)]; omega)]
    refine ⟨F, by rw [← hF, sq_self], fun k hk => ?_⟩
    rw [J k hk, if_pos (by omega)]
  | succ m ih =>
    intro i n h F T B hF J hi hn
    obtain ⟨n, rfl⟩ : ∃ k, n = k + 1 := ⟨n - 1, by omega⟩
    rw [lp_X12_takeSixteen_2, if_neg (by rw [show ((5 : Int32)) = nI 5 from rfl, nI_leI (by omega) (by omega)]; omega), mm_gr_s T.r52, T.l540, if_pos (rr_in (by omega) (by omega)), mm_gr_s T.r54, dr_part hw lw T.l542 B (by omega) rfl, hd i (by omega), T.l540, if_pos (rr_in (by omega) (by omega)), rr_n (by omega), mm_bh, nI_1, sq_sl]
    rw [show mm_l h 540 i = nL (a i) from by show h.2.2.1 540 i = _; rw [hF, J i (by omega), if_neg (by omega), Nat.add_zero], nL_add, hF]
    obtain ⟨F', p1, p2⟩ := ih (i + 1) n (mm_sq h 540 (vp_updL F i (nL (a i + d i)))) _ T.sq B sq_at (fun k hk => by
      by_cases e : k = i
      · subst e; rw [updL_at, if_pos (by omega)]
      · rw [updL_off e, J k hk]
        by_cases c : k < i
        · rw [if_pos c, if_pos (by omega)]
        · rw [if_neg c, if_neg (by omega)]) (by omega) (by omega)
    exact ⟨F', by rw [p1, sq_sq], p2⟩
theorem dm_tk45 {ke : Nat → Int32 → Int64 → mm_H → mm_O} (a q : Nat → Nat) (T : dT L h) (ha : po_h h 540 a) (hq : po_h h 539 q) {i : Nat} (hi : i < 5) : ∀ (m j n t : Nat), j + m = 5 → m < n → lp_X12_takeSixteen_45 ke n 490 (nI i) (nL t) (nI j) h = ke 490 (nI i) (nL (po_row a q i m j t)) h := by
  intro m
  induction m with
  | zero =>
    intro j n t hj hn
    obtain ⟨n, rfl⟩ : ∃ k, n = k + 1 := ⟨n - 1, by omega⟩
    rw [lp_X12_takeSixteen_45, if_pos (by rw [show ((5 : Int32)) = nI 5 from rfl, nI_leI (by omega) (by omega)]; omega), po_row]
  | succ m ih =>
    intro j n t hj hn
    obtain ⟨n, rfl⟩ : ∃ k, n = k + 1 := ⟨n - 1, by omega⟩
    rw [lp_X12_takeSixteen_45, if_neg (by rw [show ((5 : Int32)) = nI 5 from rfl, nI_leI (by omega) (by omega)]; omega)]
    unfold jn_X12_takeSixteen_101
    simp only [mm_gr, T.r52, T.r51, Option.bind_some, T.l540, T.l539, mm_bl]
    rw [po_row]
    by_cases c : j ≤ i
    · rw [if_neg (by rw [nI_ltI (by omega) (by omega)]; omega), if_pos (rr_in (by omega) (by omega)), pk_sub (by omega), if_pos (rr_in (by omega) (by omega)), rr_n (by omega), rr_n (by omega), nI_1]
      rw [show mm_l h 540 j = nL (a j) from ha j (by omega), show mm_l h 539 (i - j) = nL (q (i - j)) from hq _ (by omega), nL_mul, nL_add, ih (j + 1) n _ (by omega) (by omega), if_pos c]
    · rw [if_pos (by rw [nI_ltI (by omega) (by omega)]; omega), if_pos (rr_in (by omega) (by omega))]
      rw [show (5 : Int32) + nI i - nI j = nI (i + 5 - j) from by rw [show (5 : Int32) + nI i = nI (5 + i) from nI_add 5 i, nI_sb (by omega)]; congr 1; omega]
      rw [if_pos (rr_in (by omega) (by omega)), rr_n (by omega), rr_n (by omega), nI_1]
      rw [show mm_l h 540 j = nL (a j) from ha j (by omega), show mm_l h 539 (i + 5 - j) = nL (q (i + 5 - j)) from hq _ (by omega), show ((5 : Int64)) = nL 5 from rfl, nL_mul, nL_mul, nL_add, ih (j + 1) n _ (by omega) (by omega), if_neg c]
theorem dm_tk35 {ke : Nat → mm_H → mm_O} (a q : Nat → Nat) : ∀ (m i n : Nat) (h : mm_H), dT L h → po_h h 540 a → po_h h 539 q → (∀ k, k < i → h.2.2.1 541 k = nL (po_mu a q k)) → i + m = 5 → m < n → ∃ W, lp_X12_takeSixteen_35 ke n 490 (nI i) h = ke 490 (mm_sq h 541 W) ∧ ∀ k, k < 5 → W k = nL (po_mu a q k) := by
  intro m
  induction m with
  | zero =>
    intro i n h T ha hq hw hi hn
    obtain ⟨n, rfl⟩ : ∃ k, n = k + 1 := ⟨n - 1, by omega⟩
    rw [lp_X12_takeSixteen_35, if_pos (by rw [show ((5 : Int32)) = nI 5 from rfl, nI_leI (by omega) (by omega)]; omega)]
    exact ⟨h.2.2.1 541, by rw [sq_self], fun k hk => hw k (by omega)⟩
  | succ m ih =>
    intro i n h T ha hq hw hi hn
    obtain ⟨n, rfl⟩ : ∃ k, n = k + 1 := ⟨n - 1, by omega⟩
    rw [lp_X12_takeSixteen_35, if_neg (by rw [show ((5 : Int32)) = nI 5 from rfl, nI_leI (by omega) (by omega)]; omega)]
    rw [show ((0 : Int64)) = nL 0 from rfl, show ((0 : Int32)) = nI 0 from rfl, dm_tk45 a q T ha hq (by omega) 5 0 mm_fu 0 (by omega) (by unfold mm_fu; omega)]
    rw [mm_gr_s T.r53, T.l541, if_pos (rr_in (by omega) (by omega)), rr_n (by omega), nI_1, mm_bh, sq_sl]
    obtain ⟨W, p1, p2⟩ := ih (i + 1) n (mm_sq h 541 (vp_updL (h.2.2.1 541) i (nL (po_row a q i 5 0 0)))) T.sq (fun k hk => by rw [sq_off (by decide)]; exact ha k hk) (fun k hk => by rw [sq_off (by decide)]; exact hq k hk) (fun k hk => by
      rw [sq_at]
      by_cases e : k = i
      · subst e; rw [updL_at]; rfl
      · rw [updL_off e]; exact hw k (by omega)) (by omega) (by omega)
    exact ⟨W, by rw [p1, sq_sq], p2⟩
theorem dm_tk126 {ke : Nat → Int64 → mm_H → mm_O} : ∀ (m i n c : Nat) (a a' : Nat → Nat) (h : mm_H), dT L h → po_h h 541 a → (∀ k, k < 5 → a k < 2 ^ 62) → (∀ k, i ≤ k → a' k = a k) → (∀ k, k < i → h.2.2.1 540 k = nL (a' k)) → c < 2 ^ 62 → i + m = 5 → m < n → ∃ W, lp_X12_takeSixteen_126 ke n 490 (nL c) (nI i) h = ke 490 (nL (po_ch m i c a').2) (mm_sq h 540 W) ∧ ∀ k, k < 5 → W k = nL ((po_ch m i c a').1 k) := by
  intro m
  induction m with
  | zero =>
    intro i n c a a' h T ha hb hu hw hc hi hn
    obtain ⟨n, rfl⟩ : ∃ k, n = k + 1 := ⟨n - 1, by omega⟩
    rw [lp_X12_takeSixteen_126, if_pos (by rw [show ((5 : Int32)) = nI 5 from rfl, nI_leI (by omega) (by omega)]; omega)]
    exact ⟨h.2.2.1 540, by rw [sq_self]; rfl, fun k hk => hw k (by omega)⟩
  | succ m ih =>
    intro i n c a a' h T ha hb hu hw hc hi hn
    obtain ⟨n, rfl⟩ : ∃ k, n = k + 1 := ⟨n - 1, by omega⟩
    have hbi := hb i (by omega)
    rw [lp_X12_takeSixteen_126, if_neg (by rw [show ((5 : Int32)) = nI 5 from rfl, nI_leI (by omega) (by omega)]; omega)]
    rw [mm_gr_s T.r53, T.l541, if_pos (rr_in (by omega) (by omega)), mm_bl, mm_gr_s T.r52, T.l540, if_pos (rr_in (by omega) (by omega)), rr_n (by omega), mm_bh, mm_bl]
    rw [show mm_l h 541 i = nL (a i) from ha i (by omega), nL_add, nL_m26 (by omega), show ((26 : Int32)) = nI 26 from rfl, nL_shr 26 (by omega) (by omega), nI_1, sq_sl, show (2 : Nat) ^ 26 = 67108864 from rfl]
    obtain ⟨W, p1, p2⟩ := ih (i + 1) n ((a i + c) / 67108864) a (updN a' i ((a i + c) % 67108864)) (mm_sq h 540 (vp_updL (h.2.2.1 540) i (nL ((a i + c) % 67108864)))) T.sq (fun k hk => by rw [sq_off (by decide)]; exact ha k hk) hb (fun k hk => by rw [updN_off (by omega)]; exact hu k (by omega)) (fun k hk => by
      rw [sq_at]
      by_cases e : k = i
      · subst e; rw [updL_at, updN_at]
      · rw [updL_off e, updN_off e]; exact hw k (by omega)) (by omega) (by omega) (by omega)
    rw [po_ch, hu i (by omega)]
    exact ⟨W, by rw [p1, sq_sq], p2⟩
theorem dr_tk {w : List Int32} {a d q : Nat → Nat} (T : dT L h) (B : bs h 542 0 w) (hw : lby w) (lw : w.length = 17) (hd : ∀ k, k < 5 → dg (po_N w 0 17) k = d k) (ha : po_h h 540 a) (hq : po_h h 539 q) (bd : ∀ k, k < 5 → a k + d k < 2 ^ 28) (bq : ∀ k, k < 5 → q k < 2 ^ 26) (K : ∀ h', dL h h' → po_h h' 540 (po_se (po_mu (fun k => a k + d k) q)) → po_h h' 539 q → tr (f h') Q) : tr (mm_qv (bd_X12_takeSixteen 490 h) f) Q := by
  refine tr_v (p := fun h' => dL h h' ∧ po_h h' 540 (po_se (po_mu (fun k => a k + d k) q)) ∧ po_h h' 539 q) ?_ (fun h' q => K h' q.1 q.2.1 q.2.2)
  have b60 := po_mu_lt bd bq
  unfold bd_X12_takeSixteen
  rw [show ((0 : Int64)) = nL 0 from rfl, show ((0 : Int32)) = nI 0 from rfl]
  obtain ⟨F1, p1, J1⟩ := dm_tk2 (L := L) (ke := fun b15 h14 => lp_X12_takeSixteen_35 (fun b39 h38 => lp_X12_takeSixteen_126 (fun b51 v52 h50 => mm_gr h50 b51 52 (fun b53 => if mm_in (nI 0) (mm_ln h50 b53) = true then (if mm_in (nI 0) (mm_ln h50 b53) = true then (mm_bh (mm_sl h50 b53 (mm_n (nI 0)) ((mm_l h50 b53 (mm_n (nI 0))) + ((5 : Int64) * v52))) (fun h57 => mm_gr h57 b51 52 (fun b59 => if mm_in (1 : Int32) (mm_ln h57 b59) = true then (mm_gr h57 b51 52 (fun b62 => if mm_in (nI 0) (mm_ln h57 b62) = true then (if mm_in (1 : Int32) (mm_ln h57 b59) = true then (mm_bh (mm_sl h57 b59 (mm_n (1 : Int32)) ((mm_l h57 b59 (mm_n (1 : Int32))) + (mm_lshr (mm_l h57 b62 (mm_n (nI 0))) (26 : Int32)))) (fun h66 => mm_gr h66 b51 52 (fun b68 => if mm_in (nI 0) (mm_ln h66 b68) = true then (if mm_in (nI 0) (mm_ln h66 b68) = true then (mm_bh (mm_sl h66 b68 (mm_n (nI 0)) ((mm_l h66 b68 (mm_n (nI 0))) &&& (67108863 : Int64))) (fun h72 => some (none, h72))) else none) else none))) else none) else none)) else none))) else none) else none)) mm_fu b39 (nL 0) (nI 0) h38) mm_fu b15 (nI 0) h14) a d hw lw hd 5 0 mm_fu h _ T B rfl (fun k hk => by rw [if_neg (by omega), Nat.add_zero]; exact ha k hk) (by omega) (by unfold mm_fu; omega)
  rw [p1]
  obtain ⟨W2, p2, J2⟩ := dm_tk35 (L := L) (ke := fun b39 h38 => lp_X12_takeSixteen_126 (fun b51 v52 h50 => mm_gr h50 b51 52 (fun b53 => if mm_in (nI 0) (mm_ln h50 b53) = true then (if mm_in (nI 0) (mm_ln h50 b53) = true then (mm_bh (mm_sl h50 b53 (mm_n (nI 0)) ((mm_l h50 b53 (mm_n (nI 0))) + ((5 : Int64) * v52))) (fun h57 => mm_gr h57 b51 52 (fun b59 => if mm_in (1 : Int32) (mm_ln h57 b59) = true then (mm_gr h57 b51 52 (fun b62 => if mm_in (nI 0) (mm_ln h57 b62) = true then (if mm_in (1 : Int32) (mm_ln h57 b59) = true then (mm_bh (mm_sl h57 b59 (mm_n (1 : Int32)) ((mm_l h57 b59 (mm_n (1 : Int32))) + (mm_lshr (mm_l h57 b62 (mm_n (nI 0))) (26 : Int32)))) (fun h66 => mm_gr h66 b51 52 (fun b68 => if mm_in (nI 0) (mm_ln h66 b68) = true then (if mm_in (nI 0) (mm_ln h66 b68) = true then (mm_bh (mm_sl h66 b68 (mm_n (nI 0)) ((mm_l h66 b68 (mm_n (nI 0))) &&& (67108863 : Int64))) (fun h72 => some (none, h72))) else none) else none))) else none) else none)) else none))) else none) else none)) mm_fu b39 (nL 0) (nI 0) h38) (fun k => a k + d k) q 5 0 mm_fu (mm_sq h 540 F1) T.sq (fun k hk => by rw [sq_at]; exact J1 k hk) (fun k hk => by rw [sq_off (by decide)]; exact hq k hk) (fun k hk => absurd hk (Nat.not_lt_zero _)) (by omega) (by unfold mm_fu; omega)
  rw [p2]
  generalize hP : po_mu (fun k => a k + d k) q = P at J2 b60
  obtain ⟨W3, p3, J3⟩ := dm_tk126 (L := L) (ke := fun b51 v52 h50 => mm_gr h50 b51 52 (fun b53 => if mm_in (nI 0) (mm_ln h50 b53) = true then (if mm_in (nI 0) (mm_ln h50 b53) = true then (mm_bh (mm_sl h50 b53 (mm_n (nI 0)) ((mm_l h50 b53 (mm_n (nI 0))) + ((5 : Int64) * v52))) (fun h57 => mm_gr h57 b51 52 (fun b59 => if mm_in (1 : Int32) (mm_ln h57 b59) = true then (mm_gr h57 b51 52 (fun b62 => if mm_in (nI 0) (mm_ln h57 b62) = true then (if mm_in (1 : Int32) (mm_ln h57 b59) = true then (mm_bh (mm_sl h57 b59 (mm_n (1 : Int32)) ((mm_l h57 b59 (mm_n (1 : Int32))) + (mm_lshr (mm_l h57 b62 (mm_n (nI 0))) (26 : Int32)))) (fun h66 => mm_gr h66 b51 52 (fun b68 => if mm_in (nI 0) (mm_ln h66 b68) = true then (if mm_in (nI 0) (mm_ln h66 b68) = true then (mm_bh (mm_sl h66 b68 (mm_n (nI 0)) ((mm_l h66 b68 (mm_n (nI 0))) &&& (67108863 : Int64))) (fun h72 => some (none, h72))) else none) else none))) else none) else none)) else none))) else none) else none)) 5 0 mm_fu 0 P P (mm_sq (mm_sq h 540 F1) 541 W2) (by exact T) (fun k hk => by rw [sq_at]; exact J2 k hk) (fun k hk => by have := b60 k hk; omega) (fun _ _ => rfl) (fun k hk => absurd hk (Nat.not_lt_zero _)) (by omega) (by omega) (by unfold mm_fu; omega)
  rw [p3]
  obtain ⟨x0, x1, x2, x3, x4, x5⟩ := po_ch_at P 0
  have h0 := b60 0 (by omega)
  have h1 := b60 1 (by omega)
  have h2 := b60 2 (by omega)
  have h3 := b60 3 (by omega)
  have h4 := b60 4 (by omega)
  have q539 : po_h (mm_sq (mm_sq (mm_sq h 540 F1) 541 W2) 540 W3) 539 q := fun k hk => by rw [sq_off (by decide), sq_off (by decide), sq_off (by decide)]; exact hq k hk
  have dl : dL h (mm_sq (mm_sq (mm_sq h 540 F1) 541 W2) 540 W3) := ⟨rfl, rfl, rfl⟩
  have T4 : dT L (mm_sq (mm_sq (mm_sq h 540 F1) 541 W2) 540 W3) := T
  have v4 : (mm_sq (mm_sq (mm_sq h 540 F1) 541 W2) 540 W3).2.2.1 540 = W3 := sq_at
  generalize mm_sq (mm_sq (mm_sq h 540 F1) 541 W2) 540 W3 = h5 at q539 dl T4 v4
  have hlow : (po_ch 5 0 0 P).1 0 + 5 * (po_ch 5 0 0 P).2 < 2 ^ 62 := by omega
  refine tr_gr T4.r52 ?_
  have i0 : mm_in (nI 0) 5 = true := by decide
  have i1 : mm_in (1 : Int32) 5 = true := by decide
  rw [T4.l540, if_pos i0, if_pos i0, show mm_n (nI 0) = 0 from by decide, show mm_n (1 : Int32) = 1 from by decide, mm_bh, sq_sl, v4, show mm_l h5 540 0 = W3 0 from by show h5.2.2.1 540 0 = _; rw [v4], J3 0 (by omega), show ((5 : Int64)) = nL 5 from rfl, nL_mul, nL_add]
  refine tr_gr T4.sq.r52 ?_
  rw [sq_ln, T4.l540, if_pos i1]
  refine tr_gr T4.sq.r52 ?_
  rw [sq_ln, T4.l540, if_pos i0, if_pos i1, mm_bh, sq_sl, sq_at, sq_sq, sq_l, sq_l, updL_at, updL_off (by decide), J3 1 (by omega), show ((26 : Int32)) = nI 26 from rfl, nL_shr 26 (by omega) (by omega), nL_add]
  refine tr_gr T4.sq.r52 ?_
  rw [sq_ln, T4.l540, if_pos i0, if_pos i0, mm_bh, sq_sl, sq_at, sq_sq, sq_l, updL_off (by decide), updL_at, nL_m26 (by omega)]
  refine tr_mk ⟨rfl, dl.t dL.sq, fun k hk => ?_, fun k hk => by rw [sq_off (by decide)]; exact q539 k hk⟩
  rw [sq_at]
  unfold po_se
  by_cases e0 : k = 0
  · subst e0; rw [updL_at, updN_off (by decide), updN_at]
  · rw [updL_off e0]
    by_cases e1 : k = 1
    · subst e1; rw [updL_at, updN_at]
    · rw [updL_off e1, updL_off e0, updN_off e1, updN_off e0]; exact J3 k hk
end RPO
