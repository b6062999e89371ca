/-! ===== the reference's seals ===== -/
theorem nI_or {a b : Nat} (ha : a < 2 ^ 31) (hb : b < 2 ^ 31) : nI a ||| nI b = nI (a ||| b) := by
  have h3 : a ||| b < 2 ^ 31 := Nat.or_lt_two_pow ha hb
  apply Int32.toBitVec_inj.mp
  apply BitVec.eq_of_toNat_eq
  rw [Int32.toBitVec_or, BitVec.toNat_or]
  show (BitVec.ofNat 32 a).toNat ||| (BitVec.ofNat 32 b).toNat = (BitVec.ofNat 32 (a ||| b)).toNat
  rw [BitVec.toNat_ofNat, BitVec.toNat_ofNat, BitVec.toNat_ofNat, Nat.mod_eq_of_lt (by omega), Nat.mod_eq_of_lt (by omega), Nat.mod_eq_of_lt (by omega)]
theorem nI_sh1 : ∀ b, b < 2 → ∀ j, j < 8 → mm_shl (nI b) (nI j) = nI (b * 2 ^ j) := by decide +kernel
/-- the byte i with what lies above it -/
def po_B (a : Nat → Nat) (i : Nat) : Nat := a (8 * i / 26) / 2 ^ (8 * i % 26) + (if 8 * i / 26 + 1 < 5 then a (8 * i / 26 + 1) * 2 ^ (26 - 8 * i % 26) else 0)
theorem poB_bit {a : Nat → Nat} (ha : ∀ k, k < 5 → a k < 67108864) {i j : Nat} (hi : i < 16) (hj : j < 8) : a ((8 * i + j) / 26) / 2 ^ ((8 * i + j) % 26) % 2 = po_B a i / 2 ^ j % 2 := by
  have hs : 8 * i % 26 < 26 := Nat.mod_lt _ (by decide)
  have hx := ha (8 * i / 26) (by omega)
  unfold po_B
  obtain ⟨Y, hY⟩ : ∃ Y, (if 8 * i / 26 + 1 < 5 then a (8 * i / 26 + 1) * 2 ^ (26 - 8 * i % 26) else 0) = Y * 2 ^ (26 - 8 * i % 26) ∧ (8 * i / 26 + 1 < 5 → Y = a (8 * i / 26 + 1)) := by
    by_cases c : 8 * i / 26 + 1 < 5
    · exact ⟨_, by rw [if_pos c], fun _ => rfl⟩
    · exact ⟨0, by rw [if_neg c, Nat.zero_mul], fun z => absurd z c⟩
  rw [hY.1]
  by_cases c : 8 * i % 26 + j < 26
  · rw [show (8 * i + j) / 26 = 8 * i / 26 by omega, show (8 * i + j) % 26 = 8 * i % 26 + j by omega]
    generalize 8 * i % 26 = s at c hs ⊢
    have e : Y * 2 ^ (26 - s) = 2 ^ j * (2 * (Y * 2 ^ (25 - s - j))) := by
      rw [show 26 - s = j + (1 + (25 - s - j)) by omega, Nat.pow_add, Nat.pow_add, Nat.pow_one, Nat.mul_left_comm, Nat.mul_left_comm Y 2]
    rw [e, Nat.add_mul_div_left _ _ (Nat.two_pow_pos _), Nat.add_mul_mod_self_left, Nat.div_div_eq_div_mul, ← Nat.pow_add]
  · have cq : 8 * i / 26 + 1 < 5 := by omega
    rw [hY.2 cq, show (8 * i + j) / 26 = 8 * i / 26 + 1 by omega, show (8 * i + j) % 26 = 8 * i % 26 + j - 26 by omega]
    generalize 8 * i % 26 = s at c hs ⊢
    generalize a (8 * i / 26) = x at hx ⊢
    have hlt : x / 2 ^ s < 2 ^ (26 - s) := by
      rw [Nat.div_lt_iff_lt_mul (Nat.two_pow_pos _), ← Nat.pow_add, show 26 - s + s = 26 by omega]; exact hx
    have e2 : (2 : Nat) ^ j = 2 ^ (26 - s) * 2 ^ (s + j - 26) := by rw [← Nat.pow_add]; congr 1; omega
    rw [e2, ← Nat.div_div_eq_div_mul, Nat.add_mul_div_right _ _ (Nat.two_pow_pos _), Nat.div_eq_of_lt hlt, Nat.zero_add]
theorem b8_and (x y : Int32) : mm_b8 (mm_b8 x &&& y) = mm_b8 (x &&& y) := by
  rw [b8_eq]
  refine b_ext (fun i hi => ?_)
  rw [b_and, b_and, b_and, b_and, b_255, b_b8 _ hi]
  by_cases c : i < 8
  · rw [if_pos c]
  · rw [decide_eq_false c, Bool.and_false, Bool.and_false]
theorem st3 : ∀ k, k < 16 → st_i (fun _ => 0) 3 k = if k % 4 = 3 then 15 else if k = 0 then 255 else if k % 4 = 0 then 252 else 255 := by decide +kernel
/-- how long: the five bytes ahead, and what is sealed -/
def po_Ln (c : Nat) : List Int32 := rr_low 5 8 0 ++ rr_low (nI c) 8 0
theorem poLn_ln (c : Nat) : (po_Ln c).length = 16 := by unfold po_Ln; rw [List.length_append, rr_low_ln, rr_low_ln]
set_option maxRecDepth 100000 in
theorem poLn_at : ∀ c, c < 640 → ∀ j, j < 16 → mm_b8 ((po_Ln c).getD j 0) = mm_b8 (if j = 0 then 5 else if j = 8 then nI c else if j = 9 then mm_shr (nI c) 8 else 0) := by decide +kernel
theorem low_by (v : Int32) : ∀ n i, lby (rr_low v n i) := by
  intro n
  induction n with
  | zero => intro i; exact lby.nil
  | succ n ih =>
    intro i x hx
    rw [rr_low] at hx
    rcases List.mem_cons.mp hx with z | z
    · rw [z]
      by_cases c : i < 4
      · rw [if_pos c]; exact and255 _
      · rw [if_neg c]; decide
    · exact ih _ x z
theorem poLn_by (c : Nat) : lby (po_Ln c) := (low_by _ _ _).app (low_by _ _ _)
theorem cho_at (F : Nat → Int32) {j : Nat} (hj : j < 32) : (ch_o F).getD j 0 = ch_y F j := by
  have e : (ch_o F)[j]? = some (ch_y F j) := by unfold ch_o; rw [List.getElem?_map, List.getElem?_range hj]; rfl
  rw [List.getD_eq_getElem?_getD, e]; rfl
theorem cho_ln (F : Nat → Int32) : (ch_o F).length = 32 := by simp [ch_o]
theorem cho_by (F : Nat → Int32) : lby (ch_o F) := fun x hx => by
  unfold ch_o at hx
  obtain ⟨k, -, rfl⟩ := List.mem_map.mp hx
  exact and255 _
theorem pocl_at {l : List Int32} {j : Nat} (hj : j < l.length) : (po_cl l).getD j 0 = if j < 16 then l.getD j 0 &&& st_i (fun _ => 0) 3 j else l.getD j 0 := by
  have e : (po_cl l)[j]? = some (if j < 16 then l.getD j 0 &&& st_i (fun _ => 0) 3 j else l.getD j 0) := by unfold po_cl; rw [List.getElem?_map, List.getElem?_range hj]; rfl
  rw [List.getD_eq_getElem?_getD, e]; rfl
theorem pocl_by {l : List Int32} (hl : lby l) : lby (po_cl l) := fun x hx => by
  unfold po_cl at hx
  obtain ⟨k, hk, rfl⟩ := List.mem_map.mp hx
  have hb := hl _ (rr_mem (List.mem_range.mp hk))
  by_cases c : k < 16
  · rw [if_pos c, Int32.and_assoc, Int32.and_comm _ 255, ← Int32.and_assoc, hb]
  · rw [if_neg c]; exact hb
section RTG
variable {L : Nat} {h : mm_H} {f : mm_H → mm_O} {g : Int32 → mm_H → mm_O} {Q : Option Value → mm_H → Prop}
theorem dm_byte {a : Nat → Nat} (ha : ∀ k, k < 5 → a k < 67108864) (T : dT L h) (hp : po_h h 540 a) {i : Nat} (hi : i < 16) : ∀ (m j n : Nat), j + m = 8 → m < n → lp_X12_byteOf_4 n 490 (nI i) (nI (po_B a i % 2 ^ j)) (nI j) h = some (some (.int (nI (po_by a i))), h) := by
  intro m
  induction m with
  | zero =>
    intro j n hj hn
    obtain ⟨n, rfl⟩ : ∃ k, n = k + 1 := ⟨n - 1, by omega⟩
    rw [lp_X12_byteOf_4, if_pos (by rw [show ((8 : Int32)) = nI 8 from rfl, nI_leI (by omega) (by omega)]; omega), show j = 8 by omega]
    rfl
  | succ m ih =>
    intro j n hj hn
    obtain ⟨n, rfl⟩ : ∃ k, n = k + 1 := ⟨n - 1, by omega⟩
    have hq : (8 * i + j) / 26 < 5 := by omega
    have hs : (8 * i + j) % 26 < 26 := Nat.mod_lt _ (by decide)
    have hx := ha _ hq
    have hd : a ((8 * i + j) / 26) / 2 ^ ((8 * i + j) % 26) ≤ a ((8 * i + j) / 26) := Nat.div_le_self _ _
    have h2 : a ((8 * i + j) / 26) / 2 ^ ((8 * i + j) % 26) % 2 < 2 := Nat.mod_lt _ (by decide)
    rw [lp_X12_byteOf_4, if_neg (by rw [show ((8 : Int32)) = nI 8 from rfl, nI_leI (by omega) (by omega)]; omega), mm_bi, po_8, nI_add, mm_gr_s T.r52, po_27 (by omega), po_28 (by omega), T.l540, if_pos (rr_in (by omega) (by omega)), rr_n (by omega), mm_bi, show mm_l h 540 ((8 * i + j) / 26) = nL (a ((8 * i + j) / 26)) from hp _ hq, nL_shr _ (by omega) (by omega), nL_m1 (by omega), nL_narrow, nI_sh1 _ h2 _ (by omega), poB_bit ha hi (by omega)]
    have h3 : po_B a i % 2 ^ j < 2 ^ j := Nat.mod_lt _ (Nat.two_pow_pos _)
    have h4 : (2 : Nat) ^ j ≤ 2 ^ 8 := Nat.pow_le_pow_right (by decide) (by omega)
    have h5 : po_B a i / 2 ^ j % 2 < 2 := Nat.mod_lt _ (by decide)
    have h6 : po_B a i / 2 ^ j % 2 * 2 ^ j ≤ 1 * 2 ^ j := Nat.mul_le_mul_right _ (by omega)
    rw [nI_or (by omega) (by omega), nor_add h3, show po_B a i % 2 ^ j + po_B a i / 2 ^ j % 2 * 2 ^ j = po_B a i % 2 ^ (j + 1) from by rw [Nat.mod_pow_succ, Nat.mul_comm (2 ^ j)], nI_1]
    exact ih (j + 1) n (by omega) (by omega)
theorem dr_byte {a : Nat → Nat} (ha : ∀ k, k < 5 → a k < 67108864) (T : dT L h) (hp : po_h h 540 a) {i : Nat} (hi : i < 16) : bd_X12_byteOf 490 (nI i) h = some (some (.int (nI (po_by a i))), h) := by
  have := dm_byte ha T hp hi 8 0 mm_fu (by omega) (by unfold mm_fu; omega)
  rw [Nat.pow_zero, Nat.mod_one] at this
  exact this
theorem dm_se8 {ke : Nat → Nat → Int32 → Int32 → Int32 → mm_H → mm_O} {a1 : Nat} {x2 x3 x4 : Int32} {key : List Int32} (lk : key.length = 32) : ∀ (m i n : Nat) (h : mm_H), dT L h → (∀ j, j < 32 → h.2.1 536 j = mm_b8 (key.getD j 0)) → (∀ j, j < i → h.2.1 542 j = mm_b8 ((po_cl key).getD j 0)) → i + m = 16 → m < n → ∃ h', lp_X12_sealOf_8 ke n 490 a1 x2 x3 x4 (nI i) h = ke 490 a1 x2 x3 x4 h' ∧ dI (fun a _ => a = 542) h h' ∧ ∀ j, j < 16 → h'.2.1 542 j = mm_b8 ((po_cl key).getD j 0) := by
  intro m
  induction m with
  | zero =>
    intro i n h T H J hi hn
    obtain ⟨n, rfl⟩ : ∃ k, n = k + 1 := ⟨n - 1, by omega⟩
    rw [lp_X12_sealOf_8, if_pos (by rw [show ((16 : Int32)) = nI 16 from rfl, nI_leI (by omega) (by omega)]; omega)]
    exact ⟨h, rfl, ⟨dF.rf, rfl⟩, fun j hj => J j (by omega)⟩
  | succ m ih =>
    intro i n h T H J hi hn
    obtain ⟨n, rfl⟩ : ∃ k, n = k + 1 := ⟨n - 1, by omega⟩
    have key0 : ∀ s0 : Int32, s0 = st_i (fun _ => 0) 3 i → ∃ h', jn_X12_sealOf_62 (lp_X12_sealOf_8 ke n) ke 490 a1 x2 x3 x4 (nI i) s0 (mm_i h 536 i) (nI i) 542 h = ke 490 a1 x2 x3 x4 h' ∧ dI (fun a _ => a = 542) h h' ∧ ∀ j, j < 16 → h'.2.1 542 j = mm_b8 ((po_cl key).getD j 0) := by
      intro s0 es
      unfold jn_X12_sealOf_62
      have ev : mm_b8 (mm_b8 (mm_i h 536 i &&& s0)) = mm_b8 ((po_cl key).getD i 0) := by
        rw [b8_b8, show mm_i h 536 i = mm_b8 (key.getD i 0) from H i (by omega), b8_and, pocl_at (by omega), if_pos (by omega), es]
      rw [T.l542, if_pos ⟨by decide, rr_in (by omega) (by omega)⟩, rr_n (by omega), mm_bh, ev, nI_1]
      have F1 : dF (zo 542 i) h (mm_si h 542 i (mm_b8 ((po_cl key).getD i 0))) := dF.si
      have v1 : (mm_si h 542 i (mm_b8 ((po_cl key).getD i 0))).2.1 542 i = mm_b8 ((po_cl key).getD i 0) := mi_eq
      have y1 : (mm_si h 542 i (mm_b8 ((po_cl key).getD i 0))).2.2.1 = h.2.2.1 := rfl
      generalize mm_si h 542 i (mm_b8 ((po_cl key).getD i 0)) = h1 at F1 v1 y1
      obtain ⟨h', p1, p2, p3⟩ := ih (i + 1) n h1 (T.F F1) (fun j hj => by rw [F1.2.2 536 j (by omega)]; exact H j hj) (fun j hj => by
        by_cases e : j = i
        · subst e; exact v1
        · rw [F1.2.2 542 j (by omega)]; exact J j (by omega)) (by omega) (by omega)
      exact ⟨h', p1, ⟨(F1.c p2.1).mo (fun a k z => by omega), p2.2.trans y1⟩, p3⟩
    have e3 := st3 i (by omega)
    rw [lp_X12_sealOf_8, if_neg (by rw [show ((16 : Int32)) = nI 16 from rfl, nI_leI (by omega) (by omega)]; omega), mm_gr_s T.r54, mm_gr_s T.r48, T.l536, if_pos (rr_in (by omega) (by omega)), rr_n (by omega), show mm_rem (nI i) (4 : Int32) = nI (i % 4) from pk_rem (d := 4) (by omega) (by decide) (by decide)]
    unfold jn_X12_sealOf_59
    by_cases c1 : i % 4 = 3
    · rw [if_pos (by rw [c1]; rfl)]
      exact key0 15 (by rw [e3, if_pos c1])
    · rw [if_neg (by rw [show ((3 : Int32)) = nI 3 from rfl, nI_eq (by omega) (by omega)]; exact c1)]
      rw [if_neg c1] at e3
      by_cases c2 : i = 0
      · rw [if_pos (by rw [c2]; decide)]
        exact key0 255 (by rw [e3, if_pos c2])
      · rw [if_neg (by rw [show ((0 : Int32)) = nI 0 from rfl, nI_leI (by omega) (by omega)]; omega)]
        rw [if_neg c2] at e3
        by_cases c3 : i % 4 = 0
        · rw [if_pos (by rw [c3]; rfl)]
          exact key0 252 (by rw [e3, if_pos c3])
        · rw [if_neg (by rw [show ((0 : Int32)) = nI 0 from rfl, nI_eq (by omega) (by omega)]; exact c3)]
          exact key0 255 (by rw [e3, if_neg c3])
theorem dm_se82 {ke : Nat → Nat → Int32 → Int32 → Int32 → mm_H → mm_O} {a1 : Nat} {x2 x3 x4 : Int32} {w : List Int32} (q : Nat → Nat) (hw : lby w) (lw : w.length = 17) (hd : ∀ k, k < 5 → dg (po_N w 0 17) k = q k) : ∀ (m i n : Nat) (h : mm_H), dT L h → bs h 542 0 w → (∀ k, k < i → h.2.2.1 539 k = nL (q k) ∧ h.2.2.1 540 k = nL 0) → i + m = 5 → m < n → ∃ h', lp_X12_sealOf_82 ke n 490 a1 x2 x3 x4 (nI i) h = ke 490 a1 x2 x3 x4 h' ∧ dL h h' ∧ po_h h' 539 q ∧ po_h h' 540 (fun _ => 0) := by
  intro m
  induction m with
  | zero =>
    intro i n h T B J hi hn
    obtain ⟨n, rfl⟩ : ∃ k, n = k + 1 := ⟨n - 1, by omega⟩
    rw [lp_X12_sealOf_82, if_pos (by rw [show ((5 : Int32)) = nI 5 from rfl, nI_leI (by omega) (by omega)]; omega)]
    exact ⟨h, rfl, dL.rf, fun k hk => (J k (by omega)).1, fun k hk => (J k (by omega)).2⟩
  | succ m ih =>
    intro i n h T B J hi hn
    obtain ⟨n, rfl⟩ : ∃ k, n = k + 1 := ⟨n - 1, by omega⟩
    have iI : mm_in (nI i) 5 = true := rr_in (by omega) (by decide)
    rw [lp_X12_sealOf_82, if_neg (by rw [show ((5 : Int32)) = nI 5 from rfl, nI_leI (by omega) (by omega)]; omega), mm_gr_s T.r51, mm_gr_s T.r54, dr_part hw lw T.l542 B (by omega) rfl, hd i (by omega), T.l539, if_pos iI, rr_n (by omega), mm_bh, sq_sl, mm_gr_s (T.sq).r52, sq_ln, T.l540, if_pos iI, mm_bh, sq_sl, nI_1, sq_off (by decide)]
    obtain ⟨h', p1, p2, p3, p4⟩ := ih (i + 1) n (mm_sq (mm_sq h 539 (vp_updL (h.2.2.1 539) i (nL (q i)))) 540 (vp_updL (h.2.2.1 540) i 0)) (by exact T) (by exact B) (fun k hk => by
      rw [sq_off (by decide), sq_at, sq_at]
      by_cases e : k = i
      · subst e; rw [updL_at, updL_at]; exact ⟨rfl, rfl⟩
      · rw [updL_off e, updL_off e]; exact J k (by omega)) (by omega) (by omega)
    exact ⟨h', p1, (dL.sq.t dL.sq).t p2, p3, p4⟩
theorem dm_se139 {ke : Nat → mm_H → mm_O} {c : Nat} (hc : c < 640) : ∀ (m i n : Nat) (h : mm_H), dT L h → (∀ j, j < i → h.2.1 544 j = mm_b8 ((po_Ln c).getD j 0)) → i + m = 16 → m < n → ∃ h', lp_X12_sealOf_139 ke n 490 (nI c) (nI i) h = ke 490 h' ∧ dI (fun a _ => a = 544) h h' ∧ bs h' 544 0 (po_Ln c) := by
  intro m
  induction m with
  | zero =>
    intro i n h T J hi hn
    obtain ⟨n, rfl⟩ : ∃ k, n = k + 1 := ⟨n - 1, by omega⟩
    rw [lp_X12_sealOf_139, if_pos (by rw [show ((16 : Int32)) = nI 16 from rfl, nI_leI (by omega) (by omega)]; omega)]
    exact ⟨h, rfl, ⟨dF.rf, rfl⟩, fun j hj => by rw [poLn_ln] at hj; rw [Nat.zero_add]; exact J j (by omega)⟩
  | succ m ih =>
    intro i n h T J hi hn
    obtain ⟨n, rfl⟩ : ∃ k, n = k + 1 := ⟨n - 1, by omega⟩
    have key0 : ∀ s0 : Int32, mm_b8 s0 = mm_b8 ((po_Ln c).getD i 0) → ∃ h', jn_X12_sealOf_189 (lp_X12_sealOf_139 ke n) ke 490 (nI c) (nI i) s0 (nI i) 544 h = ke 490 h' ∧ dI (fun a _ => a = 544) h h' ∧ bs h' 544 0 (po_Ln c) := by
      intro s0 es
      unfold jn_X12_sealOf_189
      rw [T.l544, if_pos ⟨by decide, rr_in (by omega) (by omega)⟩, rr_n (by omega), mm_bh, b8_b8, es, nI_1]
      have F1 : dF (zo 544 i) h (mm_si h 544 i (mm_b8 ((po_Ln c).getD i 0))) := dF.si
      have v1 : (mm_si h 544 i (mm_b8 ((po_Ln c).getD i 0))).2.1 544 i = mm_b8 ((po_Ln c).getD i 0) := mi_eq
      have y1 : (mm_si h 544 i (mm_b8 ((po_Ln c).getD i 0))).2.2.1 = h.2.2.1 := rfl
      generalize mm_si h 544 i (mm_b8 ((po_Ln c).getD i 0)) = h1 at F1 v1 y1
      obtain ⟨h', p1, p2, p3⟩ := ih (i + 1) n h1 (T.F F1) (fun j hj => by
        by_cases e : j = i
        · subst e; exact v1
        · rw [F1.2.2 544 j (by omega)]; exact J j (by omega)) (by omega) (by omega)
      exact ⟨h', p1, ⟨(F1.c p2.1).mo (fun a k z => by omega), p2.2.trans y1⟩, p3⟩
    have e3 := poLn_at c hc i (by omega)
    rw [lp_X12_sealOf_139, if_neg (by rw [show ((16 : Int32)) = nI 16 from rfl, nI_leI (by omega) (by omega)]; omega), mm_gr_s T.r56]
    by_cases c1 : i = 0
    · rw [if_pos c1] at e3
      rw [if_pos (by rw [c1]; rfl)]
      exact key0 5 e3.symm
    · rw [if_neg c1] at e3
      rw [if_neg (by rw [show ((0 : Int32)) = nI 0 from rfl, nI_eq (by omega) (by omega)]; exact c1)]
      by_cases c2 : i = 8
      · rw [if_pos c2] at e3
        rw [if_pos (by rw [c2]; rfl)]
        exact key0 _ e3.symm
      · rw [if_neg c2] at e3
        rw [if_neg (by rw [show ((8 : Int32)) = nI 8 from rfl, nI_eq (by omega) (by omega)]; exact c2)]
        by_cases c4 : i = 9
        · rw [if_pos c4] at e3
          rw [if_pos (by rw [c4]; rfl)]
          exact key0 _ e3.symm
        · rw [if_neg c4] at e3
          rw [if_neg (by rw [show ((9 : Int32)) = nI 9 from rfl, nI_eq (by omega) (by omega)]; exact c4)]
          exact key0 _ e3.symm
theorem dm_se218 {a : Nat → Nat} {key : List Int32} (ha : ∀ k, k < 5 → a k < 67108864) (hk : lby key) (lk : key.length = 32) : ∀ (m i n c : Nat) (h : mm_H), dT L h → po_h h 540 a → (∀ j, j < 32 → h.2.1 536 j = mm_b8 (key.getD j 0)) → c < 1000 → i + m = 16 → m < n → ∃ h', lp_X12_sealOf_218 n 490 (nL c) (nI i) h = some (none, h') ∧ dF (fun a k => a = 543 ∧ i ≤ k) h h' ∧ bs h' 543 i (po_out a (po_cl key) m i c) := by
  intro m
  induction m with
  | zero =>
    intro i n c h T hp H hc hi hn
    obtain ⟨n, rfl⟩ : ∃ k, n = k + 1 := ⟨n - 1, by omega⟩
    rw [lp_X12_sealOf_218, if_pos (by rw [show ((16 : Int32)) = nI 16 from rfl, nI_leI (by omega) (by omega)]; omega)]
    exact ⟨h, rfl, dF.rf, bs.nil⟩
  | succ m ih =>
    intro i n c h T hp H hc hi hn
    obtain ⟨n, rfl⟩ : ∃ k, n = k + 1 := ⟨n - 1, by omega⟩
    have hp2 : po_by a i < 256 := Nat.mod_lt _ (by decide)
    have hk2 := nb_lt (key.getD (16 + i) 0)
    have ek : (po_cl key).getD (16 + i) 0 = key.getD (16 + i) 0 := by rw [pocl_at (by omega), if_neg (by omega)]
    rw [lp_X12_sealOf_218, if_neg (by rw [show ((16 : Int32)) = nI 16 from rfl, nI_leI (by omega) (by omega)]; omega), dr_byte ha T hp (by omega), mm_qi_s, mm_gr_s T.r48, show (16 : Int32) + nI i = nI (16 + i) from nI_add 16 i, T.l536, if_pos (rr_in (by omega) (by omega)), rr_n (by omega), show mm_i h 536 (16 + i) = mm_b8 (key.getD (16 + i) 0) from H _ (by omega), b8_by (hk _ (rr_mem (by omega))), nI_255, Nat.mod_eq_of_lt hp2]
    have e1 : nI (po_by a i) + key.getD (16 + i) 0 = nI (po_by a i + nb (key.getD (16 + i) 0)) := by
      rw [← nI_add, ← nb_eq (hk _ (rr_mem (by omega)))]
    rw [e1, nL_wide (by omega), nL_add, mm_bl, mm_gr_s T.r55, T.l543, if_pos ⟨by decide, rr_in (by omega) (by omega)⟩, rr_n (by omega), mm_bh, mm_bl, nL_narrow, b8_b8, ← b8_a, nI_255, show ((8 : Int32)) = nI 8 from rfl, nL_shr 8 (by omega) (by omega), nI_1]
    have F1 : dF (zo 543 i) h (mm_si h 543 i (mm_b8 (nI ((c + (po_by a i + nb (key.getD (16 + i) 0))) % 256)))) := dF.si
    have v1 : (mm_si h 543 i (mm_b8 (nI ((c + (po_by a i + nb (key.getD (16 + i) 0))) % 256)))).2.1 543 i = mm_b8 (nI ((c + (po_by a i + nb (key.getD (16 + i) 0))) % 256)) := mi_eq
    have y1 : (mm_si h 543 i (mm_b8 (nI ((c + (po_by a i + nb (key.getD (16 + i) 0))) % 256)))).2.2.1 = h.2.2.1 := rfl
    generalize mm_si h 543 i (mm_b8 (nI ((c + (po_by a i + nb (key.getD (16 + i) 0))) % 256))) = h1 at F1 v1 y1
    obtain ⟨h', p1, p2, p3⟩ := ih (i + 1) n ((c + (po_by a i + nb (key.getD (16 + i) 0))) / 2 ^ 8) h1 (T.F F1) (fun k hk => by rw [y1]; exact hp k hk) (fun j hj => by rw [F1.2.2 536 j (by omega)]; exact H j hj) (by omega) (by omega) (by omega)
    refine ⟨h', p1, (F1.c p2).mo (fun a k z => by omega), ?_⟩
    rw [po_out, ek]
    refine bs.app (l := [nI ((c + (po_by a i + nb (key.getD (16 + i) 0))) % 256)]) (bs.one ?_) p3
    rw [p2.2.2 543 i (by omega)]; exact v1
end RTG
