/-! ===== ChaCha20: Sealer.turnBlock, aim, mix ===== -/
/-- a quarter of a round -/
def ch_q (f : Nat → Int32) (p q r s : Nat) : Nat → Int32 :=
  let a := f p + f q
  let d := f s ^^^ a
  let d := mm_shl d 16 ||| mm_ush d 16
  let c := f r + d
  let b := f q ^^^ c
  let b := mm_shl b 12 ||| mm_ush b 20
  let a := a + b
  let d := d ^^^ a
  let d := mm_shl d 8 ||| mm_ush d 24
  let c := c + d
  let b := b ^^^ c
  upd (upd (upd (upd f p a) q (mm_shl b 7 ||| mm_ush b 25)) r c) s d
def ch_T (k : Nat) : Nat := mm_n (st_i (fun _ => 0) 5 k)
def ch_go : Nat → Nat → (Nat → Int32) → (Nat → Int32)
  | 0, _, f => f
  | m + 1, i, f => ch_go m (i + 1) (ch_q f (ch_T (4 * i % 32)) (ch_T (4 * i % 32 + 1)) (ch_T (4 * i % 32 + 2)) (ch_T (4 * i % 32 + 3)))
def ch_ad (I : Nat → Int32) : Nat → Nat → (Nat → Int32) → (Nat → Int32)
  | 0, _, f => f
  | m + 1, i, f => ch_ad I m (i + 1) (upd f i (f i + I i))
/-- the words of a block of the stream, from the sixteen words that go in -/
def ch_w (f : Nat → Int32) : Nat → Int32 := ch_ad f 16 0 (ch_go 80 0 f)
theorem ch_T16 : ∀ i, i < 80 → ch_T (4 * i % 32) < 16 ∧ ch_T (4 * i % 32 + 1) < 16 ∧ ch_T (4 * i % 32 + 2) < 16 ∧ ch_T (4 * i % 32 + 3) < 16 ∧ st_i (fun _ => 0) 5 (4 * i % 32) = nI (ch_T (4 * i % 32)) ∧ st_i (fun _ => 0) 5 (4 * i % 32 + 1) = nI (ch_T (4 * i % 32 + 1)) ∧ st_i (fun _ => 0) 5 (4 * i % 32 + 2) = nI (ch_T (4 * i % 32 + 2)) ∧ st_i (fun _ => 0) 5 (4 * i % 32 + 3) = nI (ch_T (4 * i % 32 + 3)) := by decide +kernel
theorem ch_q_cg {f g : Nat → Int32} {p q r s n : Nat} (hp : p < n) (hq : q < n) (hr : r < n) (hs : s < n) (h : ∀ j, j < n → f j = g j) : ∀ j, j < n → ch_q f p q r s j = ch_q g p q r s j := by
  intro j hj
  unfold ch_q
  simp only [upd, h p hp, h q hq, h r hr, h s hs, h j hj]
theorem ch_go_cg : ∀ (m i : Nat) (f g : Nat → Int32), i + m ≤ 80 → (∀ j, j < 16 → f j = g j) → ∀ j, j < 16 → ch_go m i f j = ch_go m i g j := by
  intro m
  induction m with
  | zero => intro i f g _ h; exact h
  | succ m ih =>
    intro i f g hi h
    obtain ⟨t1, t2, t3, t4, -⟩ := ch_T16 i (by omega)
    rw [ch_go, ch_go]
    exact ih (i + 1) _ _ (by omega) (ch_q_cg t1 t2 t3 t4 h)
theorem ch_ad_at (I : Nat → Int32) : ∀ (m i : Nat) (f : Nat → Int32) (j : Nat), ch_ad I m i f j = if i ≤ j ∧ j < i + m then f j + I j else f j := by
  intro m
  induction m with
  | zero => intro i f j; rw [ch_ad, if_neg (by omega)]
  | succ m ih =>
    intro i f j
    rw [ch_ad, ih]
    by_cases c : i + 1 ≤ j ∧ j < i + 1 + m
    · rw [if_pos c, if_pos (by omega), upd_off (by omega)]
    · rw [if_neg c]
      by_cases e : j = i
      · subst e; rw [upd_at, if_pos (by omega)]
      · rw [upd_off e, if_neg (by omega)]
theorem ch_w_at {f : Nat → Int32} {j : Nat} (hj : j < 16) : ch_w f j = ch_go 80 0 f j + f j := by
  unfold ch_w; rw [ch_ad_at, if_pos (by omega)]
theorem ch_w_cg {f g : Nat → Int32} (h : ∀ j, j < 16 → f j = g j) : ∀ j, j < 16 → ch_w f j = ch_w g j := by
  intro j hj
  rw [ch_w_at hj, ch_w_at hj, ch_go_cg 80 0 f g (by omega) h j hj, h j hj]
/-- a byte of a block -/
def ch_y (f : Nat → Int32) (i : Nat) : Int32 := mm_ush (ch_w f (i / 4)) (nI (8 * (i % 4))) &&& 255
theorem ch_y_cg {f g : Nat → Int32} (h : ∀ j, j < 16 → f j = g j) {i : Nat} (hi : i < 64) : ch_y f i = ch_y g i := by
  unfold ch_y; rw [ch_w_cg h _ (by omega)]
section CHA
variable {L : Nat} {h : mm_H} {M : Nat → List Int32} {I : Nat → Nat → Int32} {P : Nat → Nat → Option Nat}
/-- what turnBlock looks at -/
def ch_ok (h : mm_H) : Prop := mm_r h 52 1 = some 57 ∧ mm_r h 52 2 = some 58 ∧ mm_ln h 57 = 16 ∧ mm_ln h 58 = 16 ∧ mm_ln h 5 = 32 ∧ h.2.1 5 = st_i (fun _ => 0) 5
theorem ch_ok.sw {h : mm_H} {b : Nat} {f : Nat → Int32} (o : ch_ok h) (hb : b ≠ 5) : ch_ok (mm_sw h b f) := by
  obtain ⟨o1, o2, o3, o4, o5, o6⟩ := o
  exact ⟨o1, o2, o3, o4, o5, by rw [sw_off (Ne.symm hb)]; exact o6⟩
theorem sp_tb10 {ke : Nat → mm_H → mm_O} : ∀ (m i n : Nat) (h : mm_H), ch_ok h → i + m = 16 → m < n → lp_X8_turnBlock_10 ke n 52 (nI i) h = ke 52 (mm_sw h 58 (sh_in (h.2.1 57) m i (h.2.1 58))) := by
  intro m
  induction m with
  | zero =>
    intro i n h o hi hn
    obtain ⟨n, rfl⟩ : ∃ k, n = k + 1 := ⟨n - 1, by omega⟩
    rw [lp_X8_turnBlock_10, if_pos (by rw [show ((16 : Int32)) = nI 16 from rfl, nI_leI (by omega) (by omega)]; omega), sh_in, sw_self]
  | succ m ih =>
    intro i n h o hi hn
    obtain ⟨n, rfl⟩ : ∃ k, n = k + 1 := ⟨n - 1, by omega⟩
    obtain ⟨o1, o2, o3, o4, o5, o6⟩ := o
    rw [lp_X8_turnBlock_10, if_neg (by rw [show ((16 : Int32)) = nI 16 from rfl, nI_leI (by omega) (by omega)]; omega)]
    simp only [mm_gr, o1, o2, Option.bind_some, o3, o4]
    rw [if_pos (rr_in (by omega) (by omega)), if_pos ⟨by omega, rr_in (by omega) (by omega)⟩, rr_n (by omega), nI_1]
    simp only [mm_bh]
    rw [sw_si]
    refine (ih (i + 1) n (mm_sw h 58 _) (ch_ok.sw ⟨o1, o2, o3, o4, o5, o6⟩ (by decide)) (by omega) (by omega)).trans ?_
    rw [sw_at, sw_sw, sw_off (by decide), sh_in]
    rfl
theorem sp_tb261 : ∀ (m i n : Nat) (h : mm_H), ch_ok h → i + m = 16 → m < n → lp_X8_turnBlock_261 n 52 (nI i) h = some (none, mm_sw h 58 (ch_ad (h.2.1 57) m i (h.2.1 58))) := by
  intro m
  induction m with
  | zero =>
    intro i n h o hi hn
    obtain ⟨n, rfl⟩ : ∃ k, n = k + 1 := ⟨n - 1, by omega⟩
    rw [lp_X8_turnBlock_261, if_pos (by rw [show ((16 : Int32)) = nI 16 from rfl, nI_leI (by omega) (by omega)]; omega), ch_ad, sw_self]
  | succ m ih =>
    intro i n h o hi hn
    obtain ⟨n, rfl⟩ : ∃ k, n = k + 1 := ⟨n - 1, by omega⟩
    obtain ⟨o1, o2, o3, o4, o5, o6⟩ := o
    rw [lp_X8_turnBlock_261, if_neg (by rw [show ((16 : Int32)) = nI 16 from rfl, nI_leI (by omega) (by omega)]; omega)]
    simp only [mm_gr, o1, o2, Option.bind_some, o3, o4]
    rw [if_pos (rr_in (by omega) (by omega)), if_pos (rr_in (by omega) (by omega)), if_pos ⟨by omega, rr_in (by omega) (by omega)⟩, rr_n (by omega), nI_1]
    simp only [mm_bh]
    rw [sw_si]
    refine (ih (i + 1) n (mm_sw h 58 _) (ch_ok.sw ⟨o1, o2, o3, o4, o5, o6⟩ (by decide)) (by omega) (by omega)).trans ?_
    rw [sw_at, sw_sw, sw_off (by decide), ch_ad]
    rfl
theorem sp_tb36 {ke : Nat → mm_H → mm_O} : ∀ (m i n : Nat) (h : mm_H), ch_ok h → i + m = 80 → m < n → lp_X8_turnBlock_36 ke n 52 (nI (4 * i)) h = ke 52 (mm_sw h 58 (ch_go m i (h.2.1 58))) := by
  intro m
  induction m with
  | zero =>
    intro i n h o hi hn
    obtain ⟨n, rfl⟩ : ∃ k, n = k + 1 := ⟨n - 1, by omega⟩
    obtain ⟨o1, o2, o3, o4, o5, o6⟩ := o
    rw [lp_X8_turnBlock_36, o5, if_pos (by rw [show (10 : Int32) * nI 32 = nI 320 from by decide, nI_leI (by omega) (by omega)]; omega), ch_go, sw_self]
  | succ m ih =>
    intro i n h o hi hn
    obtain ⟨n, rfl⟩ : ∃ k, n = k + 1 := ⟨n - 1, by omega⟩
    obtain ⟨o1, o2, o3, o4, o5, o6⟩ := o
    obtain ⟨t1, t2, t3, t4, u1, u2, u3, u4⟩ := ch_T16 i (by omega)
    have hm : 4 * i % 32 + 3 < 32 := by omega
    rw [lp_X8_turnBlock_36, o5, if_neg (by rw [show (10 : Int32) * nI 32 = nI 320 from by decide, nI_leI (by omega) (by omega)]; omega), if_pos (by decide)]
    have e0 : mm_rem (nI (4 * i)) (nI 32) = nI (4 * i % 32) := pk_rem (d := 32) (by omega) (by decide) (by decide)
    have i5 : ∀ k, mm_i h 5 k = st_i (fun _ => 0) 5 k := fun k => by show h.2.1 5 k = _; rw [o6]
    simp only [mm_bi, e0]
    rw [if_pos (rr_in (by omega) (by omega)), show ((1 : Int32)) = nI 1 from rfl, show ((2 : Int32)) = nI 2 from rfl, show ((3 : Int32)) = nI 3 from rfl, nI_add, nI_add, nI_add, if_pos (rr_in (by omega) (by omega)), if_pos (rr_in (by omega) (by omega)), if_pos (rr_in (by omega) (by omega)), rr_n (by omega), rr_n (by omega), rr_n (by omega), rr_n (by omega), i5, i5, i5, i5, u1, u2, u3, u4]
    simp only [mm_gr, o2, Option.bind_some, o4]
    rw [if_pos (rr_in (by omega) (by omega)), if_pos (rr_in (by omega) (by omega)), if_pos (rr_in (by omega) (by omega)), if_pos (rr_in (by omega) (by omega)), if_pos (rr_in (by omega) (by omega))]
    rw [rr_n (by omega), rr_n (by omega), rr_n (by omega), rr_n (by omega)]
    have l1 : ∀ (b k : Nat) (v : Int32), mm_r (mm_si h b k v) 52 2 = some 58 := fun _ _ _ => o2
    have l2 : ∀ (b k b2 k2 : Nat) (v v2 : Int32), mm_r (mm_si (mm_si h b k v) b2 k2 v2) 52 2 = some 58 := fun _ _ _ _ _ _ => o2
    have l3 : ∀ (b k b2 k2 b3 k3 : Nat) (v v2 v3 : Int32), mm_r (mm_si (mm_si (mm_si h b k v) b2 k2 v2) b3 k3 v3) 52 2 = some 58 := fun _ _ _ _ _ _ _ _ _ => o2
    have n1 : ∀ (b k : Nat) (v : Int32), mm_ln (mm_si h b k v) 58 = 16 := fun _ _ _ => o4
    have n2 : ∀ (b k b2 k2 : Nat) (v v2 : Int32), mm_ln (mm_si (mm_si h b k v) b2 k2 v2) 58 = 16 := fun _ _ _ _ _ _ => o4
    have n3 : ∀ (b k b2 k2 b3 k3 : Nat) (v v2 v3 : Int32), mm_ln (mm_si (mm_si (mm_si h b k v) b2 k2 v2) b3 k3 v3) 58 = 16 := fun _ _ _ _ _ _ _ _ _ => o4
    rw [if_pos ⟨by omega, rr_in (by omega) (by omega)⟩]
    simp only [mm_bh, l1, l2, l3, n1, n2, n3, Option.bind_some]
    rw [if_pos ⟨by omega, rr_in (by omega) (by omega)⟩, if_pos ⟨by omega, rr_in (by omega) (by omega)⟩, if_pos ⟨by omega, rr_in (by omega) (by omega)⟩]
    simp only [sw_si, sw_at, sw_sw]
    rw [show nI (4 * i) + 4 = nI (4 * (i + 1)) from by rw [show ((4 : Int32)) = nI 4 from rfl, nI_add]; rfl]
    refine (ih (i + 1) n (mm_sw h 58 _) (ch_ok.sw ⟨o1, o2, o3, o4, o5, o6⟩ (by decide)) (by omega) (by omega)).trans ?_
    rw [sw_at, sw_sw, ch_go]
    rfl
theorem sp_X8_turnBlock {h : mm_H} (o : ch_ok h) (x : Int32) : ∃ W, bd_X8_turnBlock 52 x h = some (none, mm_sw (mm_sw h 57 (upd (h.2.1 57) 12 x)) 58 W) ∧ ∀ j, j < 16 → W j = ch_w (upd (h.2.1 57) 12 x) j := by
  have o' := o
  obtain ⟨o1, o2, o3, o4, o5, o6⟩ := o
  unfold bd_X8_turnBlock
  simp only [mm_gr, o1, Option.bind_some, o3]
  rw [if_pos ⟨by omega, by decide⟩, show mm_n (12 : Int32) = 12 from by decide]
  simp only [mm_bh]
  rw [sw_si]
  generalize hf : upd (h.2.1 57) 12 x = f
  have og : ch_ok (mm_sw h 57 f) := o'.sw (by decide)
  rw [show ((0 : Int32)) = nI 0 from rfl, sp_tb10 16 0 mm_fu _ og (by omega) (by unfold mm_fu; omega)]
  rw [show nI 0 = nI (4 * 0) from rfl, sp_tb36 80 0 mm_fu _ (og.sw (by decide)) (by omega) (by unfold mm_fu; omega)]
  rw [show nI (4 * 0) = nI 0 from rfl, sp_tb261 16 0 mm_fu _ ((og.sw (by decide)).sw (by decide)) (by omega) (by unfold mm_fu; omega)]
  simp only [sw_at, sw_sw, sw_off (show (57 : Nat) ≠ 58 by decide), sw_off (show (58 : Nat) ≠ 57 by decide)]
  refine ⟨_, rfl, fun j hj => ?_⟩
  have e : ch_go 80 0 (sh_in f 16 0 (h.2.1 58)) j = ch_go 80 0 f j := ch_go_cg 80 0 _ _ (by omega) (fun k hk => by rw [sh_in_at, if_pos (by omega)]) j hj
  rw [ch_ad_at, if_pos (by omega), ch_w_at hj, e]
end CHA
