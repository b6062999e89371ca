/-! ===== SHA-256: the schedule, the rounds, a block; Sha.compress does them ===== -/
/-- the row of an address anew -/
def mm_sw (h : mm_H) (b : Nat) (f : Nat → Int32) : mm_H := (h.1, va_up h.2.1 b f, h.2.2)
theorem sw_si {h : mm_H} {b k : Nat} {v : Int32} : mm_si h b k v = mm_sw h b (upd (h.2.1 b) k v) := rfl
theorem sw_at {h : mm_H} {b : Nat} {f : Nat → Int32} : (mm_sw h b f).2.1 b = f := by simp [mm_sw, va_up]
theorem sw_off {h : mm_H} {b a : Nat} {f : Nat → Int32} (ha : a ≠ b) : (mm_sw h b f).2.1 a = h.2.1 a := by simp [mm_sw, va_up, ha]
theorem sw_i {h : mm_H} {b k : Nat} {f : Nat → Int32} : mm_i (mm_sw h b f) b k = f k := by show (mm_sw h b f).2.1 b k = _; rw [sw_at]
theorem sw_io {h : mm_H} {b a k : Nat} {f : Nat → Int32} (ha : a ≠ b) : mm_i (mm_sw h b f) a k = mm_i h a k := by show (mm_sw h b f).2.1 a k = _; rw [sw_off ha]; rfl
theorem sw_sw {h : mm_H} {b : Nat} {f g : Nat → Int32} : mm_sw (mm_sw h b f) b g = mm_sw h b g := by
  unfold mm_sw
  congr 1
  congr 1
  funext z; by_cases e : z = b <;> simp [va_up, e]
theorem sw_self {h : mm_H} {b : Nat} : mm_sw h b (h.2.1 b) = h := by
  unfold mm_sw
  have e : va_up h.2.1 b (h.2.1 b) = h.2.1 := by funext z; by_cases e : z = b <;> simp [va_up, e]
  rw [e]
theorem sw_kd {h : mm_H} {b a : Nat} {f : Nat → Int32} : mm_kd (mm_sw h b f) a = mm_kd h a := rfl
theorem sw_ln {h : mm_H} {b a : Nat} {f : Nat → Int32} : mm_ln (mm_sw h b f) a = mm_ln h a := rfl
theorem sw_r {h : mm_H} {b a k : Nat} {f : Nat → Int32} : mm_r (mm_sw h b f) a k = mm_r h a k := rfl
theorem rr_M.sw {h : mm_H} {M : Nat → List Int32} {b : Nat} {f : Nat → Int32} (R : rr_M h M) (hb : ¬ rr_ish h b) : rr_M (mm_sw h b f) M := by
  intro r hr
  obtain ⟨g1, g2, g3, g4, g5, g6, g7, g8⟩ := R r hr
  have n1 : r ≠ b := fun z => hb (Or.inl (by rw [← z]; exact hr))
  have n2 : r + 1 ≠ b := fun z => hb (Or.inr ⟨r, z.symm, hr⟩)
  exact ⟨g1, g2, g3, by rw [sw_io n1]; exact g4, g5, g6, fun j hj => by rw [sw_io n2]; exact g7 j hj, g8⟩
def sh_s0 (x : Int32) : Int32 := ((mm_ush x 7 ||| mm_shl x 25) ^^^ (mm_ush x 18 ||| mm_shl x 14)) ^^^ mm_ush x 3
def sh_s1 (x : Int32) : Int32 := ((mm_ush x 17 ||| mm_shl x 15) ^^^ (mm_ush x 19 ||| mm_shl x 13)) ^^^ mm_ush x 10
def sh_e1 (x : Int32) : Int32 := ((mm_ush x 6 ||| mm_shl x 26) ^^^ (mm_ush x 11 ||| mm_shl x 21)) ^^^ (mm_ush x 25 ||| mm_shl x 7)
def sh_e0 (x : Int32) : Int32 := ((mm_ush x 2 ||| mm_shl x 30) ^^^ (mm_ush x 13 ||| mm_shl x 19)) ^^^ (mm_ush x 22 ||| mm_shl x 10)
def sh_nx (f : Nat → Int32) (i : Nat) : Int32 := ((f (i - 16) + sh_s0 (f (i - 15))) + f (i - 7)) + sh_s1 (f (i - 2))
/-- the schedule: m words more, from the place i on -/
def sh_ex (f : Nat → Int32) : Nat → Nat → (Nat → Int32)
  | 0, _ => f
  | m + 1, i => sh_ex (upd f i (sh_nx f i)) m (i + 1)
abbrev sh_S : Type := Int32 × Int32 × Int32 × Int32 × Int32 × Int32 × Int32 × Int32
def sh_t1 (k w : Int32) (s : sh_S) : Int32 := (((s.2.2.2.2.2.2.2 + sh_e1 s.2.2.2.2.1) + ((s.2.2.2.2.1 &&& s.2.2.2.2.2.1) ^^^ ((s.2.2.2.2.1 ^^^ (-1 : Int32)) &&& s.2.2.2.2.2.2.1))) + k) + w
def sh_t2 (s : sh_S) : Int32 := sh_e0 s.1 + (((s.1 &&& s.2.1) ^^^ (s.1 &&& s.2.2.1)) ^^^ (s.2.1 &&& s.2.2.1))
def sh_st (k w : Int32) (s : sh_S) : sh_S := (sh_t1 k w s + sh_t2 s, s.1, s.2.1, s.2.2.1, s.2.2.2.1 + sh_t1 k w s, s.2.2.2.2.1, s.2.2.2.2.2.1, s.2.2.2.2.2.2.1)
/-- m rounds, from the place i on -/
def sh_rd (K W : Nat → Int32) : Nat → Nat → sh_S → sh_S
  | 0, _, s => s
  | m + 1, i, s => sh_rd K W m (i + 1) (sh_st (K i) (W i) s)
def sh_of (S : Nat → Int32) : sh_S := (S 0, S 1, S 2, S 3, S 4, S 5, S 6, S 7)
def sh_ad (S : Nat → Int32) (s : sh_S) : Nat → Int32 := upd (upd (upd (upd (upd (upd (upd (upd S 0 (S 0 + s.1)) 1 (S 1 + s.2.1)) 2 (S 2 + s.2.2.1)) 3 (S 3 + s.2.2.2.1)) 4 (S 4 + s.2.2.2.2.1)) 5 (S 5 + s.2.2.2.2.2.1)) 6 (S 6 + s.2.2.2.2.2.2.1)) 7 (S 7 + s.2.2.2.2.2.2.2)
/-- a block: the sums anew, out of the schedule's row -/
def sh_cp (K S W : Nat → Int32) : Nat → Int32 := sh_ad S (sh_rd K W 64 0 (sh_of S))
section SHA
variable {a0 w s : Nat}
theorem nI_sb {i k : Nat} (h : k ≤ i) : nI i - nI k = nI (i - k) := pk_sub h
theorem sp_ext {ke : Nat → mm_H → mm_O} : ∀ (m i n : Nat) (h : mm_H), mm_r h a0 1 = some w → mm_ln h w = 64 → 32 ≤ w → i + m = 64 → 16 ≤ i → m < n → lp_X9_compress_3 ke n a0 (nI i) h = ke a0 (mm_sw h w (sh_ex (h.2.1 w) m i)) := by
  intro m
  induction m with
  | zero =>
    intro i n h hr hl hw hi h16 hn
    obtain ⟨n, rfl⟩ : ∃ k, n = k + 1 := ⟨n - 1, by omega⟩
    rw [lp_X9_compress_3]
    simp only [mm_gr, hr, Option.bind_some, hl]
    rw [if_pos (by rw [nI_leI (by omega) (by omega)]; omega), sh_ex, sw_self]
  | succ m ih =>
    intro i n h hr hl hw hi h16 hn
    obtain ⟨n, rfl⟩ : ∃ k, n = k + 1 := ⟨n - 1, by omega⟩
    rw [lp_X9_compress_3]
    simp only [mm_gr, hr, Option.bind_some, hl, mm_bi, mm_bh]
    rw [if_neg (by rw [nI_leI (by omega) (by omega)]; omega)]
    rw [show (nI i - (15 : Int32)) = nI (i - 15) from nI_sb (k := 15) (by omega), show (nI i - (2 : Int32)) = nI (i - 2) from nI_sb (k := 2) (by omega), show (nI i - (16 : Int32)) = nI (i - 16) from nI_sb (k := 16) (by omega), show (nI i - (7 : Int32)) = nI (i - 7) from nI_sb (k := 7) (by omega)]
    rw [if_pos (rr_in (by omega) (by omega)), if_pos (rr_in (by omega) (by omega)), if_pos (rr_in (by omega) (by omega)), if_pos (rr_in (by omega) (by omega)), if_pos ⟨hw, rr_in (by omega) (by omega)⟩, rr_n (by omega), rr_n (by omega), rr_n (by omega), rr_n (by omega), rr_n (by omega), nI_1]
    rw [sw_si]
    refine (ih (i + 1) n (mm_sw h w _) hr hl hw (by omega) (by omega) (by omega)).trans ?_
    rw [sw_at, sw_sw]
    rfl
theorem sp_rounds {ke : Nat → Int32 → Int32 → Int32 → Int32 → Int32 → Int32 → Int32 → Int32 → mm_H → mm_O} {h : mm_H} (hr : mm_r h a0 1 = some w) (hl : mm_ln h w = 64) (hK : mm_ln h 2 = 64) : ∀ (m i n : Nat) (x : sh_S), i + m = 64 → m < n → lp_X9_compress_185 ke n a0 x.1 x.2.1 x.2.2.1 x.2.2.2.1 x.2.2.2.2.1 x.2.2.2.2.2.1 x.2.2.2.2.2.2.1 x.2.2.2.2.2.2.2 (nI i) h = (fun z : sh_S => ke a0 z.1 z.2.1 z.2.2.1 z.2.2.2.1 z.2.2.2.2.1 z.2.2.2.2.2.1 z.2.2.2.2.2.2.1 z.2.2.2.2.2.2.2 h) (sh_rd (h.2.1 2) (h.2.1 w) m i x) := by
  intro m
  induction m with
  | zero =>
    intro i n x hi hn
    obtain ⟨n, rfl⟩ : ∃ k, n = k + 1 := ⟨n - 1, by omega⟩
    rw [lp_X9_compress_185]
    simp only [mm_gr, hr, Option.bind_some, hl]
    rw [if_pos (by rw [nI_leI (by omega) (by omega)]; omega), sh_rd]
  | succ m ih =>
    intro i n x hi hn
    obtain ⟨n, rfl⟩ : ∃ k, n = k + 1 := ⟨n - 1, by omega⟩
    rw [lp_X9_compress_185]
    simp only [mm_gr, hr, Option.bind_some, hl, hK, mm_bi]
    rw [if_neg (by rw [nI_leI (by omega) (by omega)]; omega), if_pos (rr_in (by omega) (by omega)), if_pos (rr_in (by omega) (by omega)), rr_n (by omega), nI_1]
    exact ih (i + 1) n (sh_st (h.2.1 2 i) (h.2.1 w i) x) (by omega) (by omega)
theorem sp_X9_compress {h : mm_H} (hs : mm_r h a0 0 = some s) (hr : mm_r h a0 1 = some w) (hl : mm_ln h w = 64) (hls : mm_ln h s = 8) (hK : mm_ln h 2 = 64) (hw : 32 ≤ w) (h32 : 32 ≤ s) (hne : w ≠ s) : bd_X9_compress a0 h = some (none, mm_sw (mm_sw h w (sh_ex (h.2.1 w) 48 16)) s (sh_cp (h.2.1 2) (h.2.1 s) (sh_ex (h.2.1 w) 48 16))) := by
  unfold bd_X9_compress
  rw [show (16 : Int32) = nI 16 from rfl, sp_ext 48 16 mm_fu h hr hl hw (by omega) (by omega) (by unfold mm_fu; omega)]
  have n2 : (2 : Nat) ≠ w := by omega
  have n2s : (2 : Nat) ≠ s := by omega
  generalize hg : mm_sw h w (sh_ex (h.2.1 w) 48 16) = g
  have gs : mm_r g a0 0 = some s := by rw [← hg]; exact hs
  have gr : mm_r g a0 1 = some w := by rw [← hg]; exact hr
  have gl : mm_ln g w = 64 := by rw [← hg]; exact hl
  have gls : mm_ln g s = 8 := by rw [← hg]; exact hls
  have gK : mm_ln g 2 = 64 := by rw [← hg]; exact hK
  have g2 : g.2.1 2 = h.2.1 2 := by rw [← hg]; exact sw_off n2
  have gS : g.2.1 s = h.2.1 s := by rw [← hg]; exact sw_off (Ne.symm hne)
  have gW : g.2.1 w = sh_ex (h.2.1 w) 48 16 := by rw [← hg]; exact sw_at
  have i0 : mm_in (0 : Int32) 8 = true := by decide
  have i1 : mm_in (1 : Int32) 8 = true := by decide
  have i2 : mm_in (2 : Int32) 8 = true := by decide
  have i3 : mm_in (3 : Int32) 8 = true := by decide
  have i4 : mm_in (4 : Int32) 8 = true := by decide
  have i5 : mm_in (5 : Int32) 8 = true := by decide
  have i6 : mm_in (6 : Int32) 8 = true := by decide
  have i7 : mm_in (7 : Int32) 8 = true := by decide
  have m0 : mm_n (0 : Int32) = 0 := by decide
  have m1 : mm_n (1 : Int32) = 1 := by decide
  have m2 : mm_n (2 : Int32) = 2 := by decide
  have m3 : mm_n (3 : Int32) = 3 := by decide
  have m4 : mm_n (4 : Int32) = 4 := by decide
  have m5 : mm_n (5 : Int32) = 5 := by decide
  have m6 : mm_n (6 : Int32) = 6 := by decide
  have m7 : mm_n (7 : Int32) = 7 := by decide
  simp only [mm_gr, gs, Option.bind_some, gls, mm_bi, i0, i1, i2, i3, i4, i5, i6, i7, m0, m1, m2, m3, m4, m5, m6, m7, if_true]
  refine (sp_rounds gr gl gK 64 0 mm_fu (sh_of (g.2.1 s)) (by omega) (by unfold mm_fu; omega)).trans ?_
  rw [← gW, ← g2, ← gS]
  unfold sh_cp
  generalize sh_rd (g.2.1 2) (g.2.1 w) 64 0 (sh_of (g.2.1 s)) = z
  have rs : ∀ (h : mm_H) (a k : Nat) (v : Int32) (b j : Nat), mm_r (mm_si h a k v) b j = mm_r h b j := fun _ _ _ _ _ _ => rfl
  have lsi : ∀ (h : mm_H) (a k : Nat) (v : Int32) (b : Nat), mm_ln (mm_si h a k v) b = mm_ln h b := fun _ _ _ _ _ => rfl
  simp only [mm_gr, mm_bh, rs, lsi, gs, Option.bind_some, gls, i0, i1, i2, i3, i4, i5, i6, i7, m0, m1, m2, m3, m4, m5, m6, m7, if_true, and_true, h32, mi_eq]
  simp only [sw_si, sw_at, sw_sw, sw_i]
  unfold sh_ad
  have u : ∀ (f : Nat → Int32) (k j : Nat) (v : Int32), j ≠ k → upd f k v j = f j := fun f k j v hj => pk_un hj
  simp only [mm_i, u _ 0 1 _ (by decide), u _ 1 2 _ (by decide), u _ 0 2 _ (by decide), u _ 2 3 _ (by decide), u _ 1 3 _ (by decide), u _ 0 3 _ (by decide), u _ 3 4 _ (by decide), u _ 2 4 _ (by decide), u _ 1 4 _ (by decide), u _ 0 4 _ (by decide), u _ 4 5 _ (by decide), u _ 3 5 _ (by decide), u _ 2 5 _ (by decide), u _ 1 5 _ (by decide), u _ 0 5 _ (by decide), u _ 5 6 _ (by decide), u _ 4 6 _ (by decide), u _ 3 6 _ (by decide), u _ 2 6 _ (by decide), u _ 1 6 _ (by decide), u _ 0 6 _ (by decide), u _ 6 7 _ (by decide), u _ 5 7 _ (by decide), u _ 4 7 _ (by decide), u _ 3 7 _ (by decide), u _ 2 7 _ (by decide), u _ 1 7 _ (by decide), u _ 0 7 _ (by decide)]
end SHA
