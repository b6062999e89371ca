/-! ===== the reference's SHA-256 ===== -/
def mb_x (B : Nat → Int32) (t : Nat) : Int32 := ((mm_shl (B (4 * t) &&& 255) 24 ||| mm_shl (B (4 * t + 1) &&& 255) 16) ||| mm_shl (B (4 * t + 2) &&& 255) 8) ||| (B (4 * t + 3) &&& 255)
def mb_w (B : Nat → Int32) : Nat → Nat → (Nat → Int32) → (Nat → Int32)
  | 0, _, f => f
  | m + 1, i, f => mb_w B m (i + 1) (upd f i (mb_x B i))
theorem mb_w_at (B : Nat → Int32) : ∀ (m i : Nat) (f : Nat → Int32) (j : Nat), mb_w B m i f j = if i ≤ j ∧ j < i + m then mb_x B j else f j := by
  intro m
  induction m with
  | zero => intro i f j; rw [mb_w, if_neg (by omega)]
  | succ m ih =>
    intro i f j
    rw [mb_w, ih]
    by_cases c : i + 1 ≤ j ∧ j < i + 1 + m
    · rw [if_pos c, if_pos (by omega)]
    · rw [if_neg c]
      by_cases e : j = i
      · subst e; rw [upd_at, if_pos (by omega)]
      · rw [upd_off e, if_neg (by omega)]
theorem dm_turn {x y : Int32} {h : mm_H} {g : Int32 → mm_H → mm_O} : mm_qi (bd_X12_turn x y h) g = g (mm_ush x y ||| mm_shl x (32 - y)) h := rfl
theorem dm_mb2 {ke : Nat → mm_H → mm_O} : ∀ (m i n : Nat) (h : mm_H), mm_r h 490 31 = some 520 → mm_r h 490 33 = some 522 → mm_ln h 520 = 64 → mm_ln h 522 = 64 → i + m = 16 → m < n → lp_X12_mixBlock_2 ke n 490 (nI i) h = ke 490 (mm_sw h 520 (mb_w (h.2.1 522) m i (h.2.1 520))) := by
  intro m
  induction m with
  | zero =>
    intro i n h r1 r2 l1 l2 hi hn
    obtain ⟨n, rfl⟩ : ∃ k, n = k + 1 := ⟨n - 1, by omega⟩
    rw [lp_X12_mixBlock_2, if_pos (by rw [show ((16 : Int32)) = nI 16 from rfl, nI_leI (by omega) (by omega)]; omega), mb_w, sw_self]
  | succ m ih =>
    intro i n h r1 r2 l1 l2 hi hn
    obtain ⟨n, rfl⟩ : ∃ k, n = k + 1 := ⟨n - 1, by omega⟩
    rw [lp_X12_mixBlock_2, if_neg (by rw [show ((16 : Int32)) = nI 16 from rfl, nI_leI (by omega) (by omega)]; omega)]
    simp only [mm_gr, r1, r2, Option.bind_some, l1, l2]
    rw [show (4 : Int32) * nI i = nI (4 * i) from pk_mul 4 i, show nI (4 * i) + 1 = nI (4 * i + 1) from nI_1 _, show nI (4 * i) + 2 = nI (4 * i + 2) from nI_add _ 2, show nI (4 * i) + 3 = nI (4 * i + 3) from nI_add _ 3]
    rw [if_pos (rr_in (by omega) (by omega)), if_pos (rr_in (by omega) (by omega)), if_pos (rr_in (by omega) (by omega)), if_pos (rr_in (by omega) (by omega)), if_pos ⟨by decide, rr_in (by omega) (by omega)⟩, rr_n (by omega), rr_n (by omega), rr_n (by omega), rr_n (by omega), rr_n (by omega), nI_1]
    simp only [mm_bh]
    rw [sw_si]
    refine (ih (i + 1) n (mm_sw h 520 _) r1 r2 l1 l2 (by omega) (by omega)).trans ?_
    rw [sw_at, sw_sw, sw_off (by decide)]
    rfl
theorem dm_mb89 {ke : Nat → mm_H → mm_O} : ∀ (m i n : Nat) (h : mm_H), mm_r h 490 31 = some 520 → mm_ln h 520 = 64 → i + m = 64 → 16 ≤ i → m < n → lp_X12_mixBlock_89 ke n 490 (nI i) h = ke 490 (mm_sw h 520 (sh_ex (h.2.1 520) m i)) := by
  intro m
  induction m with
  | zero =>
    intro i n h hr hl hi h16 hn
    obtain ⟨n, rfl⟩ : ∃ k, n = k + 1 := ⟨n - 1, by omega⟩
    rw [lp_X12_mixBlock_89, if_pos (by rw [show ((64 : Int32)) = nI 64 from rfl, nI_leI (by omega) (by omega)]; omega), sh_ex, sw_self]
  | succ m ih =>
    intro i n h hr hl hi h16 hn
    obtain ⟨n, rfl⟩ : ∃ k, n = k + 1 := ⟨n - 1, by omega⟩
    rw [lp_X12_mixBlock_89, if_neg (by rw [show ((64 : Int32)) = nI 64 from rfl, nI_leI (by omega) (by omega)]; omega)]
    rw [show (nI i - (15 : Int32)) = nI (i - 15) from nI_sb (k := 15) (by omega), show (nI i - (2 : Int32)) = nI (i - 2) from nI_sb (k := 2) (by omega), show (nI i - (16 : Int32)) = nI (i - 16) from nI_sb (k := 16) (by omega), show (nI i - (7 : Int32)) = nI (i - 7) from nI_sb (k := 7) (by omega)]
    simp only [mm_gr, hr, Option.bind_some, hl, mm_bi, mm_bh, dm_turn]
    rw [if_pos (rr_in (by omega) (by omega)), if_pos (rr_in (by omega) (by omega)), if_pos (rr_in (by omega) (by omega)), if_pos (rr_in (by omega) (by omega)), if_pos ⟨by decide, rr_in (by omega) (by omega)⟩, rr_n (by omega), rr_n (by omega), rr_n (by omega), rr_n (by omega), rr_n (by omega), nI_1]
    rw [sw_si]
    refine (ih (i + 1) n (mm_sw h 520 _) hr hl (by omega) (by omega) (by omega)).trans ?_
    rw [sw_at, sw_sw]
    rfl
theorem dm_mb248 {ke : Nat → Int32 → Int32 → Int32 → Int32 → Int32 → Int32 → Int32 → Int32 → mm_H → mm_O} {h : mm_H} (hr : mm_r h 490 31 = some 520) (hk : mm_r h 490 30 = some 519) (hl : mm_ln h 520 = 64) (hK : mm_ln h 519 = 64) : ∀ (m i n : Nat) (x : sh_S), i + m = 64 → m < n → lp_X12_mixBlock_248 ke n 490 x.1 x.2.1 x.2.2.1 x.2.2.2.1 x.2.2.2.2.1 x.2.2.2.2.2.1 x.2.2.2.2.2.2.1 x.2.2.2.2.2.2.2 (nI i) h = (fun z : sh_S => ke 490 z.1 z.2.1 z.2.2.1 z.2.2.2.1 z.2.2.2.2.1 z.2.2.2.2.2.1 z.2.2.2.2.2.2.1 z.2.2.2.2.2.2.2 h) (sh_rd (h.2.1 519) (h.2.1 520) m i x) := by
  intro m
  induction m with
  | zero =>
    intro i n x hi hn
    obtain ⟨n, rfl⟩ : ∃ k, n = k + 1 := ⟨n - 1, by omega⟩
    rw [lp_X12_mixBlock_248, if_pos (by rw [show ((64 : Int32)) = nI 64 from rfl, nI_leI (by omega) (by omega)]; omega), sh_rd]
  | succ m ih =>
    intro i n x hi hn
    obtain ⟨n, rfl⟩ : ∃ k, n = k + 1 := ⟨n - 1, by omega⟩
    rw [lp_X12_mixBlock_248, if_neg (by rw [show ((64 : Int32)) = nI 64 from rfl, nI_leI (by omega) (by omega)]; omega)]
    simp only [mm_gr, hr, hk, Option.bind_some, hl, hK, mm_bi, dm_turn]
    rw [if_pos (rr_in (by omega) (by omega)), if_pos (rr_in (by omega) (by omega)), rr_n (by omega), nI_1]
    exact ih (i + 1) n (sh_st (h.2.1 519 i) (h.2.1 520 i) x) (by omega) (by omega)
theorem dm_mb2' {ke : Nat → mm_H → mm_O} {h : mm_H} (r1 : mm_r h 490 31 = some 520) (r2 : mm_r h 490 33 = some 522) (l1 : mm_ln h 520 = 64) (l2 : mm_ln h 522 = 64) : lp_X12_mixBlock_2 ke mm_fu 490 0 h = ke 490 (mm_sw h 520 (mb_w (h.2.1 522) 16 0 (h.2.1 520))) := by
  rw [show ((0 : Int32)) = nI 0 from rfl]
  exact dm_mb2 16 0 mm_fu h r1 r2 l1 l2 (by omega) (by unfold mm_fu; omega)
theorem dm_mb89' {ke : Nat → mm_H → mm_O} {h : mm_H} (hr : mm_r h 490 31 = some 520) (hl : mm_ln h 520 = 64) : lp_X12_mixBlock_89 ke mm_fu 490 16 h = ke 490 (mm_sw h 520 (sh_ex (h.2.1 520) 48 16)) := by
  rw [show ((16 : Int32)) = nI 16 from rfl]
  exact dm_mb89 48 16 mm_fu h hr hl (by omega) (by omega) (by unfold mm_fu; omega)
theorem dm_mb248' {ke : Nat → Int32 → Int32 → Int32 → Int32 → Int32 → Int32 → Int32 → Int32 → mm_H → mm_O} {h : mm_H} (hr : mm_r h 490 31 = some 520) (hk : mm_r h 490 30 = some 519) (hl : mm_ln h 520 = 64) (hK : mm_ln h 519 = 64) {x1 x2 x3 x4 x5 x6 x7 x8 : Int32} : lp_X12_mixBlock_248 ke mm_fu 490 x1 x2 x3 x4 x5 x6 x7 x8 0 h = (fun z : sh_S => ke 490 z.1 z.2.1 z.2.2.1 z.2.2.2.1 z.2.2.2.2.1 z.2.2.2.2.2.1 z.2.2.2.2.2.2.1 z.2.2.2.2.2.2.2 h) (sh_rd (h.2.1 519) (h.2.1 520) 64 0 (x1, x2, x3, x4, x5, x6, x7, x8)) := by
  rw [show ((0 : Int32)) = nI 0 from rfl]
  exact dm_mb248 hr hk hl hK 64 0 mm_fu (x1, x2, x3, x4, x5, x6, x7, x8) (by omega) (by unfold mm_fu; omega)
theorem mm_gr_s {h : mm_H} {a k b : Nat} {f : Nat → mm_O} (e : mm_r h a k = some b) : mm_gr h a k f = f b := by unfold mm_gr; rw [e]; rfl
theorem dm_get {h : mm_H} {k : Int32} {f : Int32 → mm_O} (r : mm_r h 490 32 = some 521) (l : mm_ln h 521 = 8) (hk : mm_in k 8 = true) : mm_gr h 490 32 (fun b => if mm_in k (mm_ln h b) = true then mm_bi (mm_i h b (mm_n k)) f else none) = f (mm_i h 521 (mm_n k)) := by
  rw [mm_gr_s r, l, if_pos hk, mm_bi]
theorem dm_add {h : mm_H} {k v : Int32} {j : Nat} {f : mm_H → mm_O} (r : mm_r h 490 32 = some 521) (l : mm_ln h 521 = 8) (hk : mm_in k 8 = true) : mm_gr h 490 32 (fun b => if mm_in k (mm_ln h b) = true then (if 32 ≤ b ∧ mm_in k (mm_ln h b) = true then mm_bh (mm_si h b j (mm_i h b j + v)) f else none) else none) = f (mm_si h 521 j (mm_i h 521 j + v)) := by
  rw [mm_gr_s r, l, if_pos hk, if_pos ⟨by decide, hk⟩, mm_bh]
theorem dm_mixBlock {L : Nat} {h : mm_H} (T : dT L h) : bd_X12_mixBlock 490 h = some (none, mm_sw (mm_sw h 520 (sh_ex (mb_w (h.2.1 522) 16 0 (h.2.1 520)) 48 16)) 521 (sh_cp (h.2.1 519) (h.2.1 521) (sh_ex (mb_w (h.2.1 522) 16 0 (h.2.1 520)) 48 16))) := by
  have r30 : mm_r h 490 30 = some 519 := T.f (by decide +kernel)
  have r31 : mm_r h 490 31 = some 520 := T.f (by decide +kernel)
  have r32 : mm_r h 490 32 = some 521 := T.f (by decide +kernel)
  have r33 : mm_r h 490 33 = some 522 := T.f (by decide +kernel)
  have l19 : mm_ln h 519 = 64 := T.ln (by decide) (by decide +kernel)
  have l20 : mm_ln h 520 = 64 := T.ln (by decide) (by decide +kernel)
  have l21 : mm_ln h 521 = 8 := T.ln (by decide) (by decide +kernel)
  have l22 : mm_ln h 522 = 64 := T.ln (by decide) (by decide +kernel)
  unfold bd_X12_mixBlock
  rw [dm_mb2' r31 r33 l20 l22, dm_mb89' (h := mm_sw h 520 (mb_w (h.2.1 522) 16 0 (h.2.1 520))) r31 l20, sw_at, sw_sw]
  generalize hg : mm_sw h 520 (sh_ex (mb_w (h.2.1 522) 16 0 (h.2.1 520)) 48 16) = g
  have g30 : mm_r g 490 30 = some 519 := by rw [← hg]; exact r30
  have g31 : mm_r g 490 31 = some 520 := by rw [← hg]; exact r31
  have g32 : mm_r g 490 32 = some 521 := by rw [← hg]; exact r32
  have gl19 : mm_ln g 519 = 64 := by rw [← hg]; exact l19
  have gl20 : mm_ln g 520 = 64 := by rw [← hg]; exact l20
  have gl21 : mm_ln g 521 = 8 := by rw [← hg]; exact l21
  have gK : g.2.1 519 = h.2.1 519 := by rw [← hg]; exact sw_off (by decide)
  have gS : g.2.1 521 = h.2.1 521 := by rw [← hg]; exact sw_off (by decide)
  have gW : g.2.1 520 = sh_ex (mb_w (h.2.1 522) 16 0 (h.2.1 520)) 48 16 := by rw [← hg]; exact sw_at
  have i0 : mm_in (0 : Int32) 8 = true := by decide
  have i1 : mm_in (1 : Int32) 8 = true := by decide
  have i2 : mm_in (2 : Int32) 8 = true := by decide
  have i3 : mm_in (3 : Int32) 8 = true := by decide
  have i4 : mm_in (4 : Int32) 8 = true := by decide
  have i5 : mm_in (5 : Int32) 8 = true := by decide
  have i6 : mm_in (6 : Int32) 8 = true := by decide
  have i7 : mm_in (7 : Int32) 8 = true := by decide
  have m0 : mm_n (0 : Int32) = 0 := by decide
  have m1 : mm_n (1 : Int32) = 1 := by decide
  have m2 : mm_n (2 : Int32) = 2 := by decide
  have m3 : mm_n (3 : Int32) = 3 := by decide
  have m4 : mm_n (4 : Int32) = 4 := by decide
  have m5 : mm_n (5 : Int32) = 5 := by decide
  have m6 : mm_n (6 : Int32) = 6 := by decide
  have m7 : mm_n (7 : Int32) = 7 := by decide
  rw [dm_get g32 gl21 i0, dm_get g32 gl21 i1, dm_get g32 gl21 i2, dm_get g32 gl21 i3, dm_get g32 gl21 i4, dm_get g32 gl21 i5, dm_get g32 gl21 i6, dm_get g32 gl21 i7, m0, m1, m2, m3, m4, m5, m6, m7]
  rw [dm_mb248' g31 g30 gl20 gl19]
  rw [← gW, ← gK, ← gS]
  rw [show ((mm_i g 521 0, mm_i g 521 1, mm_i g 521 2, mm_i g 521 3, mm_i g 521 4, mm_i g 521 5, mm_i g 521 6, mm_i g 521 7) : sh_S) = sh_of (g.2.1 521) from rfl]
  unfold sh_cp
  generalize sh_rd (g.2.1 519) (g.2.1 520) 64 0 (sh_of (g.2.1 521)) = z
  show mm_gr g 490 32 _ = _
  rw [dm_add g32 gl21 i0, dm_add (by exact g32) (by exact gl21) i1, dm_add (by exact g32) (by exact gl21) i2, dm_add (by exact g32) (by exact gl21) i3, dm_add (by exact g32) (by exact gl21) i4, dm_add (by exact g32) (by exact gl21) i5, dm_add (by exact g32) (by exact gl21) i6, dm_add (by exact g32) (by exact gl21) i7]
  simp only [sw_si, sw_at, sw_sw, sw_i]
  unfold sh_ad
  have u : ∀ (f : Nat → Int32) (k j : Nat) (v : Int32), j ≠ k → upd f k v j = f j := fun f k j v hj => pk_un hj
  simp only [mm_i, u _ 0 1 _ (by decide), u _ 1 2 _ (by decide), u _ 0 2 _ (by decide), u _ 2 3 _ (by decide), u _ 1 3 _ (by decide), u _ 0 3 _ (by decide), u _ 3 4 _ (by decide), u _ 2 4 _ (by decide), u _ 1 4 _ (by decide), u _ 0 4 _ (by decide), u _ 4 5 _ (by decide), u _ 3 5 _ (by decide), u _ 2 5 _ (by decide), u _ 1 5 _ (by decide), u _ 0 5 _ (by decide), u _ 5 6 _ (by decide), u _ 4 6 _ (by decide), u _ 3 6 _ (by decide), u _ 2 6 _ (by decide), u _ 1 6 _ (by decide), u _ 0 6 _ (by decide), u _ 6 7 _ (by decide), u _ 5 7 _ (by decide), u _ 4 7 _ (by decide), u _ 3 7 _ (by decide), u _ 2 7 _ (by decide), u _ 1 7 _ (by decide), u _ 0 7 _ (by decide)]
/-- the byte at place q of the message, filled up -/
def sb_x (l : List Int32) (al q : Nat) : Int32 := if q < l.length then l.getD q 0 else if q = l.length then 128 else if 64 * al - 1 - q < 4 then mm_shr (nI (8 * l.length)) (nI (8 * (64 * al - 1 - q))) else 0
def sb_f (l : List Int32) (al k s : Nat) (g : Nat → Int32) : Nat → Int32 := fun j => if s ≤ j ∧ j < 64 then mm_b8 (sb_x l al (64 * k + j)) else g j
theorem sb_f0 {l : List Int32} {al k : Nat} {g : Nat → Int32} : sb_f l al k 64 g = g := by funext j; unfold sb_f; rw [if_neg (by omega)]
theorem dm_sum98 {ke : Nat → Nat → Int32 → Int32 → Nat → Int32 → Int32 → Int32 → mm_H → mm_O} {a1 a4 fr al k : Nat} {x5 : Int32} {l : List Int32} (ha : a1 ≠ 522) (hl : l.length ≤ 3000) (hf : fr ≤ 90000) (hal : al ≤ 60) (hk : k < al) : ∀ (m j n : Nat) (h : mm_H), mm_r h 490 33 = some 522 → mm_ln h 522 = 64 → bs h a1 fr l → fr + l.length ≤ mm_ln h a1 → mm_ln h a1 ≤ 100000 → j + m = 64 → m < n → lp_X12_sum_98 ke n 490 a1 (nI fr) (nI l.length) a4 x5 (nI al) (nI k) (nI j) h = ke 490 a1 (nI fr) (nI l.length) a4 x5 (nI al) (nI k) (mm_sw h 522 (sb_f l al k j (h.2.1 522))) := by
  intro m
  induction m with
  | zero =>
    intro j n h r l2 B la la2 hj hn
    obtain ⟨n, rfl⟩ : ∃ k, n = k + 1 := ⟨n - 1, by omega⟩
    rw [lp_X12_sum_98, if_pos (by rw [show ((64 : Int32)) = nI 64 from rfl, nI_leI (by omega) (by omega)]; omega), show j = 64 by omega, sb_f0, sw_self]
  | succ m ih =>
    intro j n h r l2 B la la2 hj hn
    obtain ⟨n, rfl⟩ : ∃ k, n = k + 1 := ⟨n - 1, by omega⟩
    rw [lp_X12_sum_98, if_neg (by rw [show ((64 : Int32)) = nI 64 from rfl, nI_leI (by omega) (by omega)]; omega)]
    rw [show (64 : Int32) * nI k + nI j = nI (64 * k + j) from by rw [show ((64 : Int32)) = nI 64 from rfl, pk_mul, nI_add]]
    simp only [mm_bi]
    rw [show (64 : Int32) * nI al - 1 - nI (64 * k + j) = nI (64 * al - 1 - (64 * k + j)) from by rw [show ((64 : Int32)) = nI 64 from rfl, pk_mul, show ((1 : Int32)) = nI 1 from rfl, nI_sb (by omega), nI_sb (by omega)]]
    simp only [mm_gr, r, Option.bind_some]
    have fin : ∀ s0 : Int32, mm_b8 s0 = mm_b8 (sb_x l al (64 * k + j)) → jn_X12_sum_180 (lp_X12_sum_98 ke n) ke 490 a1 (nI fr) (nI l.length) a4 x5 (nI al) (nI k) (nI j) s0 (nI j) 522 h = ke 490 a1 (nI fr) (nI l.length) a4 x5 (nI al) (nI k) (mm_sw h 522 (sb_f l al k j (h.2.1 522))) := by
      intro s0 e
      unfold jn_X12_sum_180
      rw [l2, if_pos ⟨by decide, rr_in (by omega) (by omega)⟩, rr_n (by omega), nI_1, b8_b8, e]
      simp only [mm_bh]
      rw [sw_si]
      refine (ih (j + 1) n (mm_sw h 522 _) r l2 (fun q hq => by rw [sw_off ha]; exact B q hq) la la2 (by omega) (by omega)).trans ?_
      rw [sw_at, sw_sw]
      congr 2
      funext q
      unfold sb_f
      by_cases c : j + 1 ≤ q ∧ q < 64
      · rw [if_pos c, if_pos (by omega)]
      · rw [if_neg c]
        by_cases e2 : q = j
        · subst e2; rw [upd_at, if_pos (by omega)]
        · rw [upd_off e2, if_neg (by omega)]
    by_cases c1 : l.length ≤ 64 * k + j
    · rw [if_pos (by rw [nI_leI (by omega) (by omega)]; exact c1)]
      by_cases c2 : 64 * k + j = l.length
      · rw [if_pos (by rw [c2])]
        exact fin 128 (by unfold sb_x; rw [if_neg (by omega), if_pos c2])
      · rw [if_neg (by rw [nI_eq (by omega) (by omega)]; exact c2)]
        by_cases c3 : 4 ≤ 64 * al - 1 - (64 * k + j)
        · rw [if_pos (by rw [show ((4 : Int32)) = nI 4 from rfl, nI_leI (by omega) (by omega)]; exact c3)]
          exact fin 0 (by unfold sb_x; rw [if_neg (by omega), if_neg c2, if_neg (by omega)])
        · rw [if_neg (by rw [show ((4 : Int32)) = nI 4 from rfl, nI_leI (by omega) (by omega)]; exact c3)]
          exact fin _ (by unfold sb_x; rw [if_neg (by omega), if_neg c2, if_pos (by omega), show (8 : Int32) * nI l.length = nI (8 * l.length) from pk_mul 8 _, show (8 : Int32) * nI (64 * al - 1 - (64 * k + j)) = nI (8 * (64 * al - 1 - (64 * k + j))) from pk_mul 8 _])
    · rw [if_neg (by rw [nI_leI (by omega) (by omega)]; exact c1), nI_add, if_pos (rr_in (by omega) (by omega)), rr_n (by omega)]
      refine fin _ ?_
      rw [B.at (by omega), b8_b8]
      unfold sb_x
      rw [if_pos (by omega)]
