/-! ===== the reference's ChaCha20 ===== -/
theorem tn16 (v : Int32) : mm_ush v 16 ||| mm_shl v (32 - 16) = mm_shl v 16 ||| mm_ush v 16 := Int32.or_comm _ _
theorem tn20 (v : Int32) : mm_ush v 20 ||| mm_shl v (32 - 20) = mm_shl v 12 ||| mm_ush v 20 := Int32.or_comm _ _
theorem tn24 (v : Int32) : mm_ush v 24 ||| mm_shl v (32 - 24) = mm_shl v 8 ||| mm_ush v 24 := Int32.or_comm _ _
theorem tn25 (v : Int32) : mm_ush v 25 ||| mm_shl v (32 - 25) = mm_shl v 7 ||| mm_ush v 25 := Int32.or_comm _ _
set_option maxHeartbeats 4000000 in
theorem dm_quarter {h : mm_H} {p q r s : Nat} (R : mm_r h 490 46 = some 534) (l : mm_ln h 534 = 16) (hp : p < 16) (hq : q < 16) (hr : r < 16) (hs : s < 16) (pq : p ≠ q) (pr : p ≠ r) (ps : p ≠ s) (qr : q ≠ r) (qs : q ≠ s) (rs : r ≠ s) : bd_X12_quarter 490 (nI p) (nI q) (nI r) (nI s) h = some (none, mm_sw h 534 (ch_q (h.2.1 534) p q r s)) := by
  have ip : mm_in (nI p) 16 = true := rr_in hp (by decide)
  have iq : mm_in (nI q) 16 = true := rr_in hq (by decide)
  have ir : mm_in (nI r) 16 = true := rr_in hr (by decide)
  have is : mm_in (nI s) 16 = true := rr_in hs (by decide)
  have np : mm_n (nI p) = p := rr_n (by omega)
  have nq : mm_n (nI q) = q := rr_n (by omega)
  have nr : mm_n (nI r) = r := rr_n (by omega)
  have ns : mm_n (nI s) = s := rr_n (by omega)
  have h32 : 32 ≤ 534 := by decide
  unfold bd_X12_quarter
  simp only [mm_gr, R, Option.bind_some, l, ip, iq, ir, is, np, nq, nr, ns, h32, and_true, if_true, mm_bh, sw_si, sw_r, sw_ln, dm_turn, sw_at, sw_sw, sw_i, tn16, tn20, tn24, tn25]
  have u : ∀ (f : Nat → Int32) (k j : Nat) (v : Int32), j ≠ k → upd f k v j = f j := fun f k j v hj => pk_un hj
  have u0 : ∀ (f : Nat → Int32) (k : Nat) (v : Int32), upd f k v k = v := fun f k v => pk_us
  simp only [mm_i, u0, u _ p q _ (Ne.symm pq), u _ p r _ (Ne.symm pr), u _ p s _ (Ne.symm ps), u _ q p _ pq, u _ q r _ (Ne.symm qr), u _ q s _ (Ne.symm qs), u _ r p _ pr, u _ r q _ qr, u _ r s _ (Ne.symm rs), u _ s p _ ps, u _ s q _ qs, u _ s r _ rs]
  congr 2
  unfold ch_q
  generalize h.2.1 534 = f
  simp only []
  congr 1
  funext j
  by_cases jp : j = p
  · subst jp; simp only [u0, u _ q j _ pq, u _ r j _ pr, u _ s j _ ps]
  · by_cases jq : j = q
    · subst jq; simp only [u0, u _ r j _ qr, u _ s j _ qs]
    · by_cases jr : j = r
      · subst jr; simp only [u0, u _ q j _ jq, u _ s j _ rs]
      · by_cases js : j = s
        · subst js; simp only [u0, u _ q j _ jq, u _ r j _ jr]
        · simp only [u _ p j _ jp, u _ q j _ jq, u _ r j _ jr, u _ s j _ js]
theorem ch_T_r : ch_T 0 = 0 ∧ ch_T 1 = 4 ∧ ch_T 2 = 8 ∧ ch_T 3 = 12 ∧ ch_T 4 = 1 ∧ ch_T 5 = 5 ∧ ch_T 6 = 9 ∧ ch_T 7 = 13 ∧ ch_T 8 = 2 ∧ ch_T 9 = 6 ∧ ch_T 10 = 10 ∧ ch_T 11 = 14 ∧ ch_T 12 = 3 ∧ ch_T 13 = 7 ∧ ch_T 14 = 11 ∧ ch_T 15 = 15 ∧ ch_T 16 = 0 ∧ ch_T 17 = 5 ∧ ch_T 18 = 10 ∧ ch_T 19 = 15 ∧ ch_T 20 = 1 ∧ ch_T 21 = 6 ∧ ch_T 22 = 11 ∧ ch_T 23 = 12 ∧ ch_T 24 = 2 ∧ ch_T 25 = 7 ∧ ch_T 26 = 8 ∧ ch_T 27 = 13 ∧ ch_T 28 = 3 ∧ ch_T 29 = 4 ∧ ch_T 30 = 9 ∧ ch_T 31 = 14 := by decide +kernel
/-- eight quarters -/
def ch_8 (f : Nat → Int32) : Nat → Int32 := ch_q (ch_q (ch_q (ch_q (ch_q (ch_q (ch_q (ch_q f 0 4 8 12) 1 5 9 13) 2 6 10 14) 3 7 11 15) 0 5 10 15) 1 6 11 12) 2 7 8 13) 3 4 9 14
theorem ch_go_1 (m i j : Nat) (f : Nat → Int32) (hj : 4 * i % 32 = j) : ch_go (m + 1) i f = ch_go m (i + 1) (ch_q f (ch_T j) (ch_T (j + 1)) (ch_T (j + 2)) (ch_T (j + 3))) := by rw [ch_go, hj]
theorem ch_go_8 (m t : Nat) (f : Nat → Int32) : ch_go (8 * (m + 1)) (8 * t) f = ch_go (8 * m) (8 * (t + 1)) (ch_8 f) := by
  obtain ⟨t0, t1, t2, t3, t4, t5, t6, t7, t8, t9, t10, t11, t12, t13, t14, t15, t16, t17, t18, t19, t20, t21, t22, t23, t24, t25, t26, t27, t28, t29, t30, t31⟩ := ch_T_r
  rw [show 8 * (m + 1) = 8 * m + 1 + 1 + 1 + 1 + 1 + 1 + 1 + 1 by omega]
  rw [ch_go_1 _ _ 0 _ (by omega), ch_go_1 _ _ 4 _ (by omega), ch_go_1 _ _ 8 _ (by omega), ch_go_1 _ _ 12 _ (by omega), ch_go_1 _ _ 16 _ (by omega), ch_go_1 _ _ 20 _ (by omega), ch_go_1 _ _ 24 _ (by omega), ch_go_1 _ _ 28 _ (by omega)]
  rw [show 8 * t + 1 + 1 + 1 + 1 + 1 + 1 + 1 + 1 = 8 * (t + 1) by omega]
  simp only [Nat.zero_add, Nat.reduceAdd, t0, t1, t2, t3, t4, t5, t6, t7, t8, t9, t10, t11, t12, t13, t14, t15, t16, t17, t18, t19, t20, t21, t22, t23, t24, t25, t26, t27, t28, t29, t30, t31]
  rfl
theorem dm_qr {h : mm_H} {p q r s : Nat} {x1 x2 x3 x4 : Int32} (e1 : x1 = nI p) (e2 : x2 = nI q) (e3 : x3 = nI r) (e4 : x4 = nI s) (R : mm_r h 490 46 = some 534) (l : mm_ln h 534 = 16) (hd : (p < 16 ∧ q < 16 ∧ r < 16 ∧ s < 16) ∧ p ≠ q ∧ p ≠ r ∧ p ≠ s ∧ q ≠ r ∧ q ≠ s ∧ r ≠ s) : bd_X12_quarter 490 x1 x2 x3 x4 h = some (none, mm_sw h 534 (ch_q (h.2.1 534) p q r s)) := by
  subst e1; subst e2; subst e3; subst e4
  obtain ⟨⟨a1, a2, a3, a4⟩, b1, b2, b3, b4, b5, b6⟩ := hd
  exact dm_quarter R l a1 a2 a3 a4 b1 b2 b3 b4 b5 b6
theorem dm_st136 {ke : Nat → mm_H → mm_O} : ∀ (m t n : Nat) (h : mm_H), mm_r h 490 46 = some 534 → mm_ln h 534 = 16 → t + m = 10 → m < n → lp_X12_streamOf_136 ke n 490 (nI t) h = ke 490 (mm_sw h 534 (ch_go (8 * m) (8 * t) (h.2.1 534))) := by
  intro m
  induction m with
  | zero =>
    intro t n h R l ht hn
    obtain ⟨n, rfl⟩ : ∃ k, n = k + 1 := ⟨n - 1, by omega⟩
    rw [lp_X12_streamOf_136, if_pos (by rw [show ((10 : Int32)) = nI 10 from rfl, nI_leI (by omega) (by omega)]; omega), Nat.mul_zero, ch_go, sw_self]
  | succ m ih =>
    intro t n h R l ht hn
    obtain ⟨n, rfl⟩ : ∃ k, n = k + 1 := ⟨n - 1, by omega⟩
    rw [lp_X12_streamOf_136, if_neg (by rw [show ((10 : Int32)) = nI 10 from rfl, nI_leI (by omega) (by omega)]; omega)]
    rw [dm_qr (x1 := 0) (x2 := 4) (x3 := 8) (x4 := 12) (p := 0) (q := 4) (r := 8) (s := 12) rfl rfl rfl rfl R l (by decide), mm_qv_s]
    rw [dm_qr (x1 := 1) (x2 := 5) (x3 := 9) (x4 := 13) (p := 1) (q := 5) (r := 9) (s := 13) rfl rfl rfl rfl (by exact R) (by exact l) (by decide), mm_qv_s, sw_at, sw_sw]
    rw [dm_qr (x1 := 2) (x2 := 6) (x3 := 10) (x4 := 14) (p := 2) (q := 6) (r := 10) (s := 14) rfl rfl rfl rfl (by exact R) (by exact l) (by decide), mm_qv_s, sw_at, sw_sw]
    rw [dm_qr (x1 := 3) (x2 := 7) (x3 := 11) (x4 := 15) (p := 3) (q := 7) (r := 11) (s := 15) rfl rfl rfl rfl (by exact R) (by exact l) (by decide), mm_qv_s, sw_at, sw_sw]
    rw [dm_qr (x1 := 0) (x2 := 5) (x3 := 10) (x4 := 15) (p := 0) (q := 5) (r := 10) (s := 15) rfl rfl rfl rfl (by exact R) (by exact l) (by decide), mm_qv_s, sw_at, sw_sw]
    rw [dm_qr (x1 := 1) (x2 := 6) (x3 := 11) (x4 := 12) (p := 1) (q := 6) (r := 11) (s := 12) rfl rfl rfl rfl (by exact R) (by exact l) (by decide), mm_qv_s, sw_at, sw_sw]
    rw [dm_qr (x1 := 2) (x2 := 7) (x3 := 8) (x4 := 13) (p := 2) (q := 7) (r := 8) (s := 13) rfl rfl rfl rfl (by exact R) (by exact l) (by decide), mm_qv_s, sw_at, sw_sw]
    rw [dm_qr (x1 := 3) (x2 := 4) (x3 := 9) (x4 := 14) (p := 3) (q := 4) (r := 9) (s := 14) rfl rfl rfl rfl (by exact R) (by exact l) (by decide), mm_qv_s, sw_at, sw_sw, nI_1]
    refine (ih (t + 1) n (mm_sw h 534 _) R l (by omega) (by omega)).trans ?_
    rw [sw_at, sw_sw, ch_go_8]
    rfl
theorem dm_word {h : mm_H} {b k n : Nat} {x : Int32} {l : List Int32} {g : Int32 → mm_H → mm_O} (ex : x = nI k) (hl : mm_ln h b = n) (hn : n ≤ 100000) (hk : k + 3 < n) (B : bs h b 0 l) (hb : lby l) (hk2 : k + 3 < l.length) : mm_qi (bd_X12_word b x h) g = g (ch_4 l k) h := by
  have e : ∀ j, j < l.length → mm_i h b j &&& 255 = l.getD j 0 := fun j hj => by
    have := B j hj
    rw [Nat.zero_add] at this
    show h.2.1 b j &&& 255 = _
    rw [this]; exact b8_by (hb _ (rr_mem hj))
  unfold bd_X12_word
  rw [ex, show nI k + 1 = nI (k + 1) from nI_1 k, show nI k + 2 = nI (k + 2) from nI_add k 2, show nI k + 3 = nI (k + 3) from nI_add k 3, hl]
  rw [if_pos (rr_in (by omega) (by omega)), if_pos (rr_in (by omega) (by omega)), if_pos (rr_in (by omega) (by omega)), if_pos (rr_in (by omega) (by omega)), mm_qi_s, rr_n (by omega), rr_n (by omega), rr_n (by omega), rr_n (by omega), e _ (by omega), e _ (by omega), e _ (by omega), e _ (by omega)]
  rfl
section RCH
variable {L : Nat} {h : mm_H} {f : mm_H → mm_O} {g : Int32 → mm_H → mm_O} {Q : Option Value → mm_H → Prop}
theorem dm_st38 {ke : Nat → Int32 → mm_H → mm_O} {x1 : Int32} {key : List Int32} (hb : lby key) (h3 : key.length = 32) : ∀ (m i n : Nat) (h : mm_H), dT L h → bs h 537 0 key → (∀ j, j < i → h.2.1 535 (4 + j) = ch_4 key (4 * j)) → i + m = 8 → m < n → ∃ h', lp_X12_streamOf_38 ke n 490 x1 (nI i) h = ke 490 x1 h' ∧ dF (fun a k => a = 535 ∧ 4 ≤ k ∧ k < 12) h h' ∧ ∀ j, j < 8 → h'.2.1 535 (4 + j) = ch_4 key (4 * j) := by
  intro m
  induction m with
  | zero =>
    intro i n h T B J hi hn
    obtain ⟨n, rfl⟩ : ∃ k, n = k + 1 := ⟨n - 1, by omega⟩
    rw [lp_X12_streamOf_38, if_pos (by rw [show ((8 : Int32)) = nI 8 from rfl, nI_leI (by omega) (by omega)]; omega)]
    exact ⟨h, rfl, dF.rf, fun j hj => J j (by omega)⟩
  | succ m ih =>
    intro i n h T B J hi hn
    obtain ⟨n, rfl⟩ : ∃ k, n = k + 1 := ⟨n - 1, by omega⟩
    rw [lp_X12_streamOf_38, if_neg (by rw [show ((8 : Int32)) = nI 8 from rfl, nI_leI (by omega) (by omega)]; omega), mm_gr_s T.r47, mm_gr_s T.r49]
    rw [dm_word (x := 4 * nI i) (pk_mul 4 i) T.l537 (by decide) (by omega) B hb (by omega), show (4 : Int32) + nI i = nI (4 + i) from nI_add 4 i, T.l535, if_pos ⟨by decide, rr_in (by omega) (by omega)⟩, rr_n (by omega), mm_bh, nI_1]
    have F1 : dF (zo 535 (4 + i)) h (mm_si h 535 (4 + i) (ch_4 key (4 * i))) := dF.si
    have v1 : (mm_si h 535 (4 + i) (ch_4 key (4 * i))).2.1 535 (4 + i) = ch_4 key (4 * i) := mi_eq
    generalize mm_si h 535 (4 + i) (ch_4 key (4 * i)) = h1 at F1 v1
    obtain ⟨h', p1, p2, p3⟩ := ih (i + 1) n h1 (T.F F1) (B.F F1 (fun k _ _ => by omega)) (fun j hj => by
      by_cases e : j = i
      · subst e; exact v1
      · rw [F1.2.2 535 (4 + j) (by omega)]; exact J j (by omega)) (by omega) (by omega)
    exact ⟨h', p1, (F1.c p2).mo (fun a k z => by omega), p3⟩
theorem dm_st78 {ke : Nat → mm_H → mm_O} {key : List Int32} (hb : lby key) (h3 : key.length = 12) : ∀ (m i n : Nat) (h : mm_H), dT L h → bs h 538 0 key → (∀ j, j < i → h.2.1 535 (13 + j) = ch_4 key (4 * j)) → i + m = 3 → m < n → ∃ h', lp_X12_streamOf_78 ke n 490 (nI i) h = ke 490 h' ∧ dF (fun a k => a = 535 ∧ 13 ≤ k ∧ k < 16) h h' ∧ ∀ j, j < 3 → h'.2.1 535 (13 + j) = ch_4 key (4 * j) := by
  intro m
  induction m with
  | zero =>
    intro i n h T B J hi hn
    obtain ⟨n, rfl⟩ : ∃ k, n = k + 1 := ⟨n - 1, by omega⟩
    rw [lp_X12_streamOf_78, if_pos (by rw [show ((3 : Int32)) = nI 3 from rfl, nI_leI (by omega) (by omega)]; omega)]
    exact ⟨h, rfl, dF.rf, fun j hj => J j (by omega)⟩
  | succ m ih =>
    intro i n h T B J hi hn
    obtain ⟨n, rfl⟩ : ∃ k, n = k + 1 := ⟨n - 1, by omega⟩
    rw [lp_X12_streamOf_78, if_neg (by rw [show ((3 : Int32)) = nI 3 from rfl, nI_leI (by omega) (by omega)]; omega), mm_gr_s T.r47, mm_gr_s T.r50]
    rw [dm_word (x := 4 * nI i) (pk_mul 4 i) T.l538 (by decide) (by omega) B hb (by omega), show (13 : Int32) + nI i = nI (13 + i) from nI_add 13 i, T.l535, if_pos ⟨by decide, rr_in (by omega) (by omega)⟩, rr_n (by omega), mm_bh, nI_1]
    have F1 : dF (zo 535 (13 + i)) h (mm_si h 535 (13 + i) (ch_4 key (4 * i))) := dF.si
    have v1 : (mm_si h 535 (13 + i) (ch_4 key (4 * i))).2.1 535 (13 + i) = ch_4 key (4 * i) := mi_eq
    generalize mm_si h 535 (13 + i) (ch_4 key (4 * i)) = h1 at F1 v1
    obtain ⟨h', p1, p2, p3⟩ := ih (i + 1) n h1 (T.F F1) (B.F F1 (fun k _ _ => by omega)) (fun j hj => by
      by_cases e : j = i
      · subst e; exact v1
      · rw [F1.2.2 535 (13 + j) (by omega)]; exact J j (by omega)) (by omega) (by omega)
    exact ⟨h', p1, (F1.c p2).mo (fun a k z => by omega), p3⟩
theorem dm_st110 {ke : Nat → mm_H → mm_O} : ∀ (m i n : Nat) (h : mm_H), dT L h → (∀ j, j < i → h.2.1 534 j = h.2.1 535 j) → i + m = 16 → m < n → ∃ h', lp_X12_streamOf_110 ke n 490 (nI i) h = ke 490 h' ∧ dF (fun a _ => a = 534) h h' ∧ ∀ j, j < 16 → h'.2.1 534 j = h.2.1 535 j := by
  intro m
  induction m with
  | zero =>
    intro i n h T J hi hn
    obtain ⟨n, rfl⟩ : ∃ k, n = k + 1 := ⟨n - 1, by omega⟩
    rw [lp_X12_streamOf_110, if_pos (by rw [show ((16 : Int32)) = nI 16 from rfl, nI_leI (by omega) (by omega)]; omega)]
    exact ⟨h, rfl, dF.rf, fun j hj => J j (by omega)⟩
  | succ m ih =>
    intro i n h T J hi hn
    obtain ⟨n, rfl⟩ : ∃ k, n = k + 1 := ⟨n - 1, by omega⟩
    rw [lp_X12_streamOf_110, if_neg (by rw [show ((16 : Int32)) = nI 16 from rfl, nI_leI (by omega) (by omega)]; omega), mm_gr_s T.r46, mm_gr_s T.r47]
    rw [T.l535, T.l534, if_pos (rr_in (by omega) (by omega)), if_pos ⟨by decide, rr_in (by omega) (by omega)⟩, rr_n (by omega), mm_bh, nI_1]
    have F1 : dF (zo 534 i) h (mm_si h 534 i (mm_i h 535 i)) := dF.si
    have v1 : (mm_si h 534 i (mm_i h 535 i)).2.1 534 i = h.2.1 535 i := mi_eq
    generalize mm_si h 534 i (mm_i h 535 i) = h1 at F1 v1
    have e5 : ∀ j, h1.2.1 535 j = h.2.1 535 j := fun j => F1.2.2 535 j (by omega)
    obtain ⟨h', p1, p2, p3⟩ := ih (i + 1) n h1 (T.F F1) (fun j hj => by
      rw [e5]
      by_cases e : j = i
      · subst e; exact v1
      · rw [F1.2.2 534 j (by omega)]; exact J j (by omega)) (by omega) (by omega)
    exact ⟨h', p1, (F1.c p2).mo (fun a k z => by omega), fun j hj => by rw [p3 j hj, e5]⟩
theorem dm_st234 {G : Nat → Int32} : ∀ (m i n : Nat) (h : mm_H), dT L h → (∀ j, j < 16 → h.2.1 534 j + h.2.1 535 j = G j) → (∀ j, j < i → h.2.1 536 j = mm_b8 (mm_ush (G (j / 4)) (nI (8 * (j % 4))) &&& 255)) → i + m = 64 → m < n → ∃ h', lp_X12_streamOf_234 n 490 (nI i) h = some (none, h') ∧ dF (fun a _ => a = 536) h h' ∧ ∀ j, j < 64 → h'.2.1 536 j = mm_b8 (mm_ush (G (j / 4)) (nI (8 * (j % 4))) &&& 255) := by
  intro m
  induction m with
  | zero =>
    intro i n h T H J hi hn
    obtain ⟨n, rfl⟩ : ∃ k, n = k + 1 := ⟨n - 1, by omega⟩
    rw [lp_X12_streamOf_234, if_pos (by rw [show ((64 : Int32)) = nI 64 from rfl, nI_leI (by omega) (by omega)]; omega)]
    exact ⟨h, rfl, dF.rf, fun j hj => J j (by omega)⟩
  | succ m ih =>
    intro i n h T H J hi hn
    obtain ⟨n, rfl⟩ : ∃ k, n = k + 1 := ⟨n - 1, by omega⟩
    rw [lp_X12_streamOf_234, if_neg (by rw [show ((64 : Int32)) = nI 64 from rfl, nI_leI (by omega) (by omega)]; omega), mm_gr_s T.r48, mm_gr_s T.r46, ch_d4 (by omega), ch_8r (by omega), T.l534, if_pos (rr_in (by omega) (by omega)), mm_gr_s T.r47, T.l535, if_pos (rr_in (by omega) (by omega)), T.l536, if_pos ⟨by decide, rr_in (by omega) (by omega)⟩, rr_n (by omega), rr_n (by omega), mm_bh, nI_1, b8_b8, show mm_i h 534 (i / 4) + mm_i h 535 (i / 4) = G (i / 4) from H _ (by omega), b8_sh _ (by omega)]
    have F1 : dF (zo 536 i) h (mm_si h 536 i (mm_b8 (mm_ush (G (i / 4)) (nI (8 * (i % 4))) &&& 255))) := dF.si
    have v1 : (mm_si h 536 i (mm_b8 (mm_ush (G (i / 4)) (nI (8 * (i % 4))) &&& 255))).2.1 536 i = mm_b8 (mm_ush (G (i / 4)) (nI (8 * (i % 4))) &&& 255) := mi_eq
    generalize mm_si h 536 i (mm_b8 (mm_ush (G (i / 4)) (nI (8 * (i % 4))) &&& 255)) = h1 at F1 v1
    obtain ⟨h', p1, p2, p3⟩ := ih (i + 1) n h1 (T.F F1) (fun j hj => by rw [F1.2.2 534 j (by omega), F1.2.2 535 j (by omega)]; exact H j hj) (fun j hj => by
      by_cases e : j = i
      · subst e; exact v1
      · rw [F1.2.2 536 j (by omega)]; exact J j (by omega)) (by omega) (by omega)
    exact ⟨h', p1, (F1.c p2).mo (fun a k z => by omega), p3⟩
/-- key and nonce lie there, and give the words F -/
def kk (h : mm_H) (F : Nat → Int32) : Prop := ∃ key nn, bs h 537 0 key ∧ bs h 538 0 nn ∧ key.length = 32 ∧ nn.length = 12 ∧ lby key ∧ lby nn ∧ (∀ j, j < 4 → F j = st_i (fun _ => 0) 4 j) ∧ (∀ j, j < 8 → F (4 + j) = ch_4 key (4 * j)) ∧ ∀ j, j < 3 → F (13 + j) = ch_4 nn (4 * j)
theorem kk.F {S : Nat → Nat → Prop} {h h' : mm_H} {F : Nat → Int32} (W : kk h F) (G : dF S h h') (n : ∀ a k, a = 537 ∨ a = 538 → ¬ S a k) : kk h' F := by
  obtain ⟨key, nn, b1, b2, w⟩ := W
  exact ⟨key, nn, b1.F G (fun k _ _ => n _ k (Or.inl rfl)), b2.F G (fun k _ _ => n _ k (Or.inr rfl)), w⟩
theorem st_4 : st_i (fun _ => 0) 4 0 = 1634760805 ∧ st_i (fun _ => 0) 4 1 = 857760878 ∧ st_i (fun _ => 0) 4 2 = 2036477234 ∧ st_i (fun _ => 0) 4 3 = 1797285236 := by decide +kernel
theorem dr_stream {x : Int32} {F : Nat → Int32} (T : dT L h) (W : kk h F) (K : ∀ h', (∀ j, j < 64 → h'.2.1 536 j = mm_b8 (ch_y (upd F 12 x) j)) → dF (fun a _ => 534 ≤ a ∧ a ≤ 536) h h' → tr (f h') Q) : tr (mm_qv (bd_X12_streamOf 490 x h) f) Q := by
  refine tr_v (p := fun h' => (∀ j, j < 64 → h'.2.1 536 j = mm_b8 (ch_y (upd F 12 x) j)) ∧ dF (fun a _ => 534 ≤ a ∧ a ≤ 536) h h') ?_ (fun h' q => K h' q.1 q.2)
  obtain ⟨s0, s1, s2, s3⟩ := st_4
  obtain ⟨key, nn, bk, bn, lk, ln, yk, yn, w0, w1, w2⟩ := W
  unfold bd_X12_streamOf
  refine tr_gr T.r47 (dq_st (by decide) T.l535 rfl (k := 0) (by decide) (by decide) (fun h1 F1 v1 => ?_))
  have T1 := T.F F1
  refine tr_gr T1.r47 (dq_st (by decide) T1.l535 rfl (k := 1) (by decide) (by decide) (fun h2 F2 v2 => ?_))
  have T2 := T1.F F2
  refine tr_gr T2.r47 (dq_st (by decide) T2.l535 rfl (k := 2) (by decide) (by decide) (fun h3 F3 v3 => ?_))
  have T3 := T2.F F3
  refine tr_gr T3.r47 (dq_st (by decide) T3.l535 rfl (k := 3) (by decide) (by decide) (fun h4 F4 v4 => ?_))
  have T4 := T3.F F4
  have G4 := ((F1.c F2).c F3).c F4
  rw [show ((0 : Int32)) = nI 0 from rfl]
  obtain ⟨h5, p5, F5, J5⟩ := dm_st38 (L := L) (x1 := x) (ke := fun b34 v35 h33 => mm_gr h33 b34 47 (fun b36 => if 32 ≤ b36 ∧ mm_in (12 : Int32) (mm_ln h33 b36) = true then (mm_bh (mm_si h33 b36 (mm_n (12 : Int32)) v35) (fun h39 => lp_X12_streamOf_78 (fun b54 h53 => lp_X12_streamOf_110 (fun b64 h63 => lp_X12_streamOf_136 (fun b90 h89 => lp_X12_streamOf_234 mm_fu b90 (nI 0) h89) mm_fu b64 (nI 0) h63) mm_fu b54 (nI 0) h53) mm_fu b34 (nI 0) h39)) else none)) yk lk 8 0 mm_fu h4 T4 (bk.F G4 (fun k _ _ => by omega)) (fun j hj => absurd hj (Nat.not_lt_zero _)) (by omega) (by unfold mm_fu; omega)
  rw [p5]
  have T5 := T4.F F5
  refine tr_gr T5.r47 (dq_st (by decide) T5.l535 rfl (k := 12) (by decide) (by decide) (fun h6 F6 v6 => ?_))
  have T6 := T5.F F6
  have G6 := (G4.c F5).c F6
  obtain ⟨h7, p7, F7, J7⟩ := dm_st78 (L := L) (ke := fun b54 h53 => lp_X12_streamOf_110 (fun b64 h63 => lp_X12_streamOf_136 (fun b90 h89 => lp_X12_streamOf_234 mm_fu b90 (nI 0) h89) mm_fu b64 (nI 0) h63) mm_fu b54 (nI 0) h53) yn ln 3 0 mm_fu h6 T6 (bn.F G6 (fun k _ _ => by omega)) (fun j hj => absurd hj (Nat.not_lt_zero _)) (by omega) (by unfold mm_fu; omega)
  rw [p7]
  have T7 := T6.F F7
  have e7 : ∀ j, j < 16 → h7.2.1 535 j = upd F 12 x j := by
    intro j hj
    rcases (by omega : j = 0 ∨ j = 1 ∨ j = 2 ∨ j = 3 ∨ (4 ≤ j ∧ j < 12) ∨ j = 12 ∨ 13 ≤ j) with rfl | rfl | rfl | rfl | e | rfl | e
    · rw [upd_off (by decide), w0 0 (by decide), s0, F7.2.2 535 0 (by omega), F6.2.2 535 0 (by omega), F5.2.2 535 0 (by omega), F4.2.2 535 0 (by omega), F3.2.2 535 0 (by omega), F2.2.2 535 0 (by omega)]; exact v1
    · rw [upd_off (by decide), w0 1 (by decide), s1, F7.2.2 535 1 (by omega), F6.2.2 535 1 (by omega), F5.2.2 535 1 (by omega), F4.2.2 535 1 (by omega), F3.2.2 535 1 (by omega)]; exact v2
    · rw [upd_off (by decide), w0 2 (by decide), s2, F7.2.2 535 2 (by omega), F6.2.2 535 2 (by omega), F5.2.2 535 2 (by omega), F4.2.2 535 2 (by omega)]; exact v3
    · rw [upd_off (by decide), w0 3 (by decide), s3, F7.2.2 535 3 (by omega), F6.2.2 535 3 (by omega), F5.2.2 535 3 (by omega)]; exact v4
    · obtain ⟨i, rfl⟩ : ∃ i, j = 4 + i := ⟨j - 4, by omega⟩
      rw [upd_off (by omega), w1 i (by omega), F7.2.2 535 _ (by omega), F6.2.2 535 _ (by omega)]; exact J5 i (by omega)
    · rw [upd_at, F7.2.2 535 12 (by omega)]; exact v6
    · obtain ⟨i, rfl⟩ : ∃ i, j = 13 + i := ⟨j - 13, by omega⟩
      rw [upd_off (by omega), w2 i (by omega)]; exact J7 i (by omega)
  obtain ⟨h8, p8, F8, J8⟩ := dm_st110 (L := L) (ke := fun b64 h63 => lp_X12_streamOf_136 (fun b90 h89 => lp_X12_streamOf_234 mm_fu b90 (nI 0) h89) mm_fu b64 (nI 0) h63) 16 0 mm_fu h7 T7 (fun j hj => absurd hj (Nat.not_lt_zero _)) (by omega) (by unfold mm_fu; omega)
  rw [p8]
  have T8 := T7.F F8
  rw [dm_st136 10 0 mm_fu h8 T8.r46 T8.l534 (by omega) (by unfold mm_fu; omega)]
  have F9 : dF (fun a _ => a = 534) h8 (mm_sw h8 534 (ch_go (8 * 10) (8 * 0) (h8.2.1 534))) := dF.sw
  have v9 : (mm_sw h8 534 (ch_go (8 * 10) (8 * 0) (h8.2.1 534))).2.1 534 = ch_go 80 0 (h8.2.1 534) := sw_at
  generalize mm_sw h8 534 (ch_go (8 * 10) (8 * 0) (h8.2.1 534)) = h9 at F9 v9
  have T9 := T8.F F9
  obtain ⟨h10, p10, F10, J10⟩ := dm_st234 (L := L) (G := ch_w (upd F 12 x)) 64 0 mm_fu h9 T9 (fun j hj => by
    rw [v9, F9.2.2 535 j (by omega), F8.2.2 535 j (by omega), e7 j hj, ch_w_at hj, ch_go_cg 80 0 _ (upd F 12 x) (by omega) (fun i hi => by rw [J8 i hi, e7 i hi]) j hj]) (fun j hj => absurd hj (Nat.not_lt_zero _)) (by omega) (by unfold mm_fu; omega)
  rw [p10]
  refine tr_mk ⟨rfl, fun j hj => J10 j hj, ?_⟩
  exact ((((G6.c F7).c F8).c F9).c F10).mo (fun a k z => by omega)
/-- `cover`, from the place i on -/
theorem dm_cover {a1 fr : Nat} {F : Nat → Int32} {l : List Int32} {na : Nat} (n1 : 490 < a1 ∧ a1 < 534 ∨ 538 < a1) (hl : l.length ≤ 1000) (la : fr + l.length ≤ na) (la2 : na ≤ 90000) : ∀ (m i n : Nat) (h : mm_H), dT L h → kk h F → mm_ln h a1 = na → (∀ j, j < i → h.2.1 a1 (fr + j) = mm_b8 (l.getD j 0 ^^^ ch_G F j)) → (∀ j, i ≤ j → j < l.length → h.2.1 a1 (fr + j) = mm_b8 (l.getD j 0)) → (i % 64 ≠ 0 → ∀ j, j < 64 → h.2.1 536 j = mm_b8 (ch_y (upd F 12 (nI (i / 64 + 1))) j)) → i + m = l.length → m < n → ∃ h', lp_X12_cover_3 n 490 a1 (nI fr) (nI l.length) (nI i) h = some (none, h') ∧ dF (fun a k => (534 ≤ a ∧ a ≤ 536) ∨ (a = a1 ∧ fr ≤ k ∧ k < fr + l.length)) h h' ∧ ∀ j, j < l.length → h'.2.1 a1 (fr + j) = mm_b8 (l.getD j 0 ^^^ ch_G F j) := by
  intro m
  induction m with
  | zero =>
    intro i n h T W e1 J1 J2 J3 hi hn
    obtain ⟨n, rfl⟩ : ∃ k, n = k + 1 := ⟨n - 1, by omega⟩
    rw [lp_X12_cover_3, if_pos (by rw [nI_leI (by omega) (by omega)]; omega)]
    exact ⟨h, rfl, dF.rf, fun j hj => J1 j (by omega)⟩
  | succ m ih =>
    intro i n h T W e1 J1 J2 J3 hi hn
    obtain ⟨n, rfl⟩ : ∃ k, n = k + 1 := ⟨n - 1, by omega⟩
    have key : ∀ h1 : mm_H, dT L h1 → kk h1 F → dF (fun a _ => 534 ≤ a ∧ a ≤ 536) h h1 → (∀ j, j < 64 → h1.2.1 536 j = mm_b8 (ch_y (upd F 12 (nI (i / 64 + 1))) j)) → ∃ h', jn_X12_cover_28 (lp_X12_cover_3 n) 490 a1 (nI fr) (nI l.length) (nI i) h1 = some (none, h') ∧ dF (fun a k => (534 ≤ a ∧ a ≤ 536) ∨ (a = a1 ∧ fr ≤ k ∧ k < fr + l.length)) h h' ∧ ∀ j, j < l.length → h'.2.1 a1 (fr + j) = mm_b8 (l.getD j 0 ^^^ ch_G F j) := by
      intro h1 T1 W1 F1 S1
      unfold jn_X12_cover_28
      have e1' : mm_ln h1 a1 = na := by rw [F1.ln]; exact e1
      have i1 : mm_i h1 a1 (fr + i) = mm_b8 (l.getD i 0) := (F1.2.2 a1 _ (by omega)).trans (J2 i (by omega) (by omega))
      rw [nI_add, e1', if_pos (rr_in (by omega) (by omega)), mm_gr_s T1.r48, show mm_rem (nI i) (64 : Int32) = nI (i % 64) from pk_rem (d := 64) (by omega) (by decide) (by decide), T1.l536, if_pos (rr_in (by omega) (by omega)), if_pos ⟨by omega, rr_in (by omega) (by omega)⟩, rr_n (by omega), rr_n (by omega), mm_bh, b8_b8, i1, show mm_i h1 536 (i % 64) = mm_b8 (ch_G F i) from S1 _ (by omega), b8_xor, Int32.xor_comm, b8_xor, Int32.xor_comm, nI_1]
      have F2 : dF (zo a1 (fr + i)) h1 (mm_si h1 a1 (fr + i) (mm_b8 (l.getD i 0 ^^^ ch_G F i))) := dF.si
      have v2 : (mm_si h1 a1 (fr + i) (mm_b8 (l.getD i 0 ^^^ ch_G F i))).2.1 a1 (fr + i) = mm_b8 (l.getD i 0 ^^^ ch_G F i) := mi_eq
      generalize mm_si h1 a1 (fr + i) (mm_b8 (l.getD i 0 ^^^ ch_G F i)) = h2 at F2 v2
      obtain ⟨h', p1, p2, p3⟩ := ih (i + 1) n h2 (T1.F F2) (W1.F F2 (fun a k z => by omega)) (by rw [F2.ln]; exact e1') (fun j hj => by
        by_cases e : j = i
        · subst e; exact v2
        · rw [F2.2.2 a1 _ (by omega), F1.2.2 a1 _ (by omega)]; exact J1 j (by omega)) (fun j j1 j2 => by rw [F2.2.2 a1 _ (by omega), F1.2.2 a1 _ (by omega)]; exact J2 j (by omega) j2) (fun z j hj => by rw [F2.2.2 536 j (by omega), show (i + 1) / 64 = i / 64 by omega]; exact S1 j hj) (by omega) (by omega)
      exact ⟨h', p1, ((F1.c F2).c p2).mo (fun a k z => by omega), p3⟩
    rw [lp_X12_cover_3, if_neg (by rw [nI_leI (by omega) (by omega)]; omega), show mm_rem (nI i) (64 : Int32) = nI (i % 64) from pk_rem (d := 64) (by omega) (by decide) (by decide)]
    by_cases c : i % 64 = 0
    · rw [if_pos (by rw [c]; rfl), show (1 : Int32) + nI i / (64 : Int32) = nI (i / 64 + 1) from by rw [show nI i / (64 : Int32) = nI (i / 64) from pk_div (d := 64) (by omega) (by omega) (by omega), Int32.add_comm, nI_1]]
      have t : tr (mm_qv (bd_X12_streamOf 490 (nI (i / 64 + 1)) h) (fun h8 => jn_X12_cover_28 (lp_X12_cover_3 n) 490 a1 (nI fr) (nI l.length) (nI i) h8)) (fun v h' => v = none ∧ dF (fun a k => (534 ≤ a ∧ a ≤ 536) ∨ (a = a1 ∧ fr ≤ k ∧ k < fr + l.length)) h h' ∧ ∀ j, j < l.length → h'.2.1 a1 (fr + j) = mm_b8 (l.getD j 0 ^^^ ch_G F j)) := by
        refine dr_stream T W (fun h1 S1 F1 => ?_)
        obtain ⟨h', q1, q2, q3⟩ := key h1 (T.F F1) (W.F F1 (fun a k z => by omega)) F1 S1
        rw [q1]
        exact tr_mk ⟨rfl, q2, q3⟩
      obtain ⟨v, h', q1, q2, q3, q4⟩ := t
      subst q2
      exact ⟨h', q1, q3, q4⟩
    · rw [if_neg (by rw [show ((0 : Int32)) = nI 0 from rfl, nI_eq (by omega) (by omega)]; exact c)]
      exact key h T W dF.rf (J3 c)
theorem dr_cover {a1 fr : Nat} {x y : Int32} {F : Nat → Int32} {l : List Int32} (na : Nat) (T : dT L h) (W : kk h F) (n1 : 490 < a1 ∧ a1 < 534 ∨ 538 < a1) (e1 : mm_ln h a1 = na) (bl : bs h a1 fr l) (hl : l.length ≤ 1000) (la : fr + l.length ≤ na) (la2 : na ≤ 90000) (ex : x = nI fr) (ey : y = nI l.length) (K : ∀ h', bs h' a1 fr (sl_o F l) → dF (fun a k => (534 ≤ a ∧ a ≤ 536) ∨ (a = a1 ∧ fr ≤ k ∧ k < fr + l.length)) h h' → tr (f h') Q) : tr (mm_qv (bd_X12_cover 490 a1 x y h) f) Q := by
  obtain ⟨h', q1, q2, q3⟩ := dm_cover (L := L) (F := F) n1 hl la la2 l.length 0 mm_fu h T W e1 (fun j hj => absurd hj (Nat.not_lt_zero _)) (fun j _ hj => bl j hj) (fun z => absurd rfl z) (by omega) (by unfold mm_fu; omega)
  unfold bd_X12_cover
  rw [ex, ey, show ((0 : Int32)) = nI 0 from rfl, q1, mm_qv_s]
  refine K h' (fun j hj => ?_) q2
  rw [sl_o_ln] at hj
  rw [q3 j hj]
  have e : (sl_o F l)[j]? = some (l.getD j 0 ^^^ ch_G F j) := by
    unfold sl_o ch_m
    rw [List.getElem?_map, List.getElem?_range hj]
    simp [hj]
  rw [show (sl_o F l).getD j 0 = l.getD j 0 ^^^ ch_G F j from by rw [List.getD_eq_getElem?_getD, e]; rfl]
end RCH
