/-! ===== ChaCha20 over a row: Sealer.mix; Sealer.aim; Sealer.gather ===== -/
def ch_f (G : Nat → Int32) (s t : Nat) (f : Nat → Int32) : Nat → Int32 := fun k => if s ≤ k ∧ k < t then f k ^^^ G k else f k
def ch_m (G : Nat → Int32) (s t : Nat) (l : List Int32) : List Int32 := (List.range l.length).map (fun k => if s ≤ k ∧ k < t then l.getD k 0 ^^^ G k else l.getD k 0)
theorem ch_m_len {G : Nat → Int32} {s t : Nat} {l : List Int32} : (ch_m G s t l).length = l.length := by simp [ch_m]
theorem ch_m_at {G : Nat → Int32} {s t k : Nat} {l : List Int32} (hk : k < l.length) : (ch_m G s t l).getD k 0 = if s ≤ k ∧ k < t then l.getD k 0 ^^^ G k else l.getD k 0 := by
  have : (ch_m G s t l)[k]? = some (if s ≤ k ∧ k < t then l.getD k 0 ^^^ G k else l.getD k 0) := by rw [ch_m, List.getElem?_map, List.getElem?_range hk]; rfl
  rw [List.getD_eq_getElem?_getD, this]; rfl
theorem ch_m_cg {G G' : Nat → Int32} {s t : Nat} {l : List Int32} (h : ∀ k, s ≤ k → k < t → G k = G' k) : ch_m G s t l = ch_m G' s t l := by
  unfold ch_m
  apply List.map_congr_left
  intro k _
  by_cases c : s ≤ k ∧ k < t
  · rw [if_pos c, if_pos c, h k c.1 c.2]
  · rw [if_neg c, if_neg c]
theorem ch_f_cg {G G' : Nat → Int32} {s t : Nat} {f : Nat → Int32} (h : ∀ k, s ≤ k → k < t → G k = G' k) : ch_f G s t f = ch_f G' s t f := by
  funext k
  unfold ch_f
  by_cases c : s ≤ k ∧ k < t
  · rw [if_pos c, if_pos c, h k c.1 c.2]
  · rw [if_neg c, if_neg c]
theorem ch_f_0 {G : Nat → Int32} {s t : Nat} {f : Nat → Int32} (h : t ≤ s) : ch_f G s t f = f := by funext k; unfold ch_f; rw [if_neg (by omega)]
theorem ch_f_1 {G : Nat → Int32} {s t : Nat} {f : Nat → Int32} (h : s < t) : ch_f G (s + 1) t (upd f s (f s ^^^ G s)) = ch_f G s t f := by
  funext k; unfold ch_f
  by_cases e : k = s
  · subst e; rw [if_neg (by omega), if_pos (by omega), upd_at]
  · rw [upd_off e]
    by_cases c : s + 1 ≤ k ∧ k < t
    · rw [if_pos c, if_pos (by omega)]
    · rw [if_neg c, if_neg (by omega)]
theorem ch_f_tr {G : Nat → Int32} {s t u : Nat} {f : Nat → Int32} (h1 : s ≤ t) (h2 : t ≤ u) : ch_f G t u (ch_f G s t f) = ch_f G s u f := by
  funext k; unfold ch_f
  by_cases c : t ≤ k ∧ k < u
  · rw [if_pos c, if_neg (by omega), if_pos (by omega)]
  · rw [if_neg c]
    by_cases d : s ≤ k ∧ k < t
    · rw [if_pos d, if_pos (by omega)]
    · rw [if_neg d, if_neg (by omega)]
/-- the ints of a row anew -/
theorem rr_sw {h : mm_H} {M : Nat → List Int32} {r : Nat} {f : Nat → Int32} {l : List Int32} (R : rr_M h M) (hk : mm_kd h r = 5) (hl : l.length = (M r).length) (hv : ∀ j, j < l.length → f j = l.getD j 0) (hb : ∀ x ∈ l, x &&& 255 = x) : rr_M (mm_sw h (r + 1) f) (va_up M r l) ∧ rr_F h (mm_sw h (r + 1) f) := by
  obtain ⟨g1, g2, g3, g4, g5, g6, g7, g8⟩ := R r hk
  refine rr_set R hk rfl rfl (fun a h1 h2 => sw_off h2) (by rw [sw_io (by omega), g4, hl]) (by omega) (fun j hj => by rw [sw_i]; exact hv j hj) hb
theorem rr_mem {l : List Int32} {k : Nat} (hk : k < l.length) : l.getD k 0 ∈ l := by simp [List.getD_eq_getElem?_getD, hk]
section MIX
variable {L : Nat} {r : Nat}
/-- the byte i of the block in 58 -/
def ch_z (f : Nat → Int32) (i : Nat) : Int32 := mm_ush (f (i / 4)) (nI (8 * (i % 4))) &&& 255
theorem ch_8r {i : Nat} (hi : i < 2 ^ 20) : (8 : Int32) * mm_rem (nI i) 4 = nI (8 * (i % 4)) := by
  rw [show mm_rem (nI i) 4 = nI (i % 4) from pk_rem (d := 4) (by omega) (by decide) (by decide), show ((8 : Int32)) = nI 8 from rfl, pk_mul]
theorem ch_d4 {i : Nat} (hi : i < 2 ^ 20) : nI i / (4 : Int32) = nI (i / 4) := by
  rw [show ((4 : Int32)) = nI 4 from rfl, pk_div (by omega) (by omega) (by omega)]
theorem sp_mix25 {ke : Nat → Nat → Int32 → Int32 → mm_H → mm_O} {x3 : Int32} {p n0 : Nat} (hp : p < 5000) (hn0 : n0 ≤ 5000) (h5 : r + 1 ≠ 58) : ∀ (m j n : Nat) (h : mm_H), mm_r h 52 2 = some 58 → mm_ln h 58 = 16 → mm_r h r 0 = some (r + 1) → mm_i h r 1 = nI n0 → n0 ≤ mm_ln h (r + 1) → mm_ln h (r + 1) ≤ 5000 → 32 ≤ r → j + m = 64 → m < n → lp_X8_mix_25 ke n 52 r x3 (nI p) (nI j) h = ke 52 r x3 (nI p) (mm_sw h (r + 1) (ch_f (fun k => ch_z (h.2.1 58) (k - p)) (p + j) (min (p + 64) n0) (h.2.1 (r + 1)))) := by
  intro m
  induction m with
  | zero =>
    intro j n h o2 o4 g1 g4 g5 g6 g3 hj hn
    obtain ⟨n, rfl⟩ : ∃ k, n = k + 1 := ⟨n - 1, by omega⟩
    rw [lp_X8_mix_25, if_pos (by rw [show ((64 : Int32)) = nI 64 from rfl, nI_leI (by omega) (by omega)]; omega), ch_f_0 (by omega), sw_self]
  | succ m ih =>
    intro j n h o2 o4 g1 g4 g5 g6 g3 hj hn
    obtain ⟨n, rfl⟩ : ∃ k, n = k + 1 := ⟨n - 1, by omega⟩
    rw [lp_X8_mix_25, if_neg (by rw [show ((64 : Int32)) = nI 64 from rfl, nI_leI (by omega) (by omega)]; omega), g4, nI_add]
    by_cases c : p + j < n0
    · rw [if_neg (by rw [nI_leI (by omega) (by omega)]; omega)]
      simp only [mm_gr, g1, o2, Option.bind_some, o4]
      rw [if_pos (rr_in (by omega) (by omega)), ch_d4 (by omega), if_pos (rr_in (by omega) (by omega)), if_pos ⟨by omega, rr_in (by omega) (by omega)⟩, rr_n (by omega), rr_n (by omega), ch_8r (by omega), nI_1]
      simp only [mm_bh]
      rw [sw_si]
      refine (ih (j + 1) n (mm_sw h (r + 1) _) o2 o4 g1 (by rw [sw_io (by omega)]; exact g4) g5 g6 g3 (by omega) (by omega)).trans ?_
      rw [sw_at, sw_sw, sw_off (Ne.symm h5)]
      congr 2
      rw [show p + (j + 1) = p + j + 1 from rfl, ← ch_f_1 (s := p + j) (by omega)]
      congr 2
      show h.2.1 (r + 1) (p + j) ^^^ _ = h.2.1 (r + 1) (p + j) ^^^ ch_z (h.2.1 58) (p + j - p)
      rw [show p + j - p = j by omega]
      rfl
    · rw [if_pos (by rw [nI_leI (by omega) (by omega)]; omega), ch_f_0 (by omega), sw_self]
/-- the bytes of the stream, block after block -/
def ch_G (F : Nat → Int32) (i : Nat) : Int32 := ch_y (upd F 12 (nI (i / 64 + 1))) (i % 64)
theorem ch_G_cg {F F' : Nat → Int32} (hF : ∀ k, k < 16 → k ≠ 12 → F k = F' k) (i : Nat) : ch_G F i = ch_G F' i := by
  unfold ch_G
  refine ch_y_cg (fun j hj => ?_) (by omega)
  by_cases e : j = 12
  · subst e; rw [upd_at, upd_at]
  · rw [upd_off e, upd_off e, hF j hj e]
theorem sp_mix5 {s n0 : Nat} (hn0 : n0 ≤ 5000) (h58 : r + 1 ≠ 58) (h57 : r + 1 ≠ 57) (q58 : r ≠ 58) (q57 : r ≠ 57) (q5 : r + 1 ≠ 5) (F : Nat → Int32) : ∀ (m c n : Nat) (h : mm_H), ch_ok h → (∀ k, k < 16 → k ≠ 12 → h.2.1 57 k = F k) → mm_r h r 0 = some (r + 1) → mm_i h r 1 = nI n0 → n0 ≤ mm_ln h (r + 1) → mm_ln h (r + 1) ≤ 5000 → 32 ≤ r → n0 ≤ s + 64 * c + m → s + 64 * c ≤ n0 + 64 → s + 64 * c < 5100 → m < n → ∃ h', lp_X8_mix_5 n 52 r (nI c) (nI (s + 64 * c)) h = some (none, h') ∧ h'.1 = h.1 ∧ h'.2.2 = h.2.2 ∧ (∀ a, a ≠ 57 → a ≠ 58 → a ≠ r + 1 → h'.2.1 a = h.2.1 a) ∧ (∀ k, k < 16 → k ≠ 12 → h'.2.1 57 k = F k) ∧ h'.2.1 (r + 1) = ch_f (fun k => ch_G F (k - s)) (s + 64 * c) n0 (h.2.1 (r + 1)) := by
  intro m
  induction m with
  | zero =>
    intro c n h o J g1 g4 g5 g6 g3 hc1 hc2 hc3 hn
    obtain ⟨n, rfl⟩ : ∃ k, n = k + 1 := ⟨n - 1, by omega⟩
    rw [lp_X8_mix_5, g4, if_pos (by rw [nI_leI (by omega) (by omega)]; omega)]
    exact ⟨h, rfl, rfl, rfl, fun _ _ _ _ => rfl, J, by rw [ch_f_0 (by omega)]⟩
  | succ m ih =>
    intro c n h o J g1 g4 g5 g6 g3 hc1 hc2 hc3 hn
    obtain ⟨n, rfl⟩ : ∃ k, n = k + 1 := ⟨n - 1, by omega⟩
    rw [lp_X8_mix_5, g4]
    by_cases d : s + 64 * c < n0
    · rw [if_neg (by rw [nI_leI (by omega) (by omega)]; omega), nI_1]
      obtain ⟨W, e1, e2⟩ := sp_X8_turnBlock o (nI (c + 1))
      rw [e1, mm_qv_s]
      generalize hg : mm_sw (mm_sw h 57 (upd (h.2.1 57) 12 (nI (c + 1)))) 58 W = g
      have og : ch_ok g := by rw [← hg]; exact (o.sw (by decide)).sw (by decide)
      have ga : ∀ a, a ≠ 57 → a ≠ 58 → g.2.1 a = h.2.1 a := fun a w1 w2 => by rw [← hg, sw_off w2, sw_off w1]
      have g57 : g.2.1 57 = upd (h.2.1 57) 12 (nI (c + 1)) := by rw [← hg, sw_off (by decide), sw_at]
      have g58 : g.2.1 58 = W := by rw [← hg, sw_at]
      have gi : mm_i g r 1 = nI n0 := by show g.2.1 r 1 = _; rw [ga r q57 q58]; exact g4
      have gr : mm_r g r 0 = some (r + 1) := by rw [← hg]; exact g1
      have gl : mm_ln g (r + 1) = mm_ln h (r + 1) := by rw [← hg]; rfl
      have g0 : g.1 = h.1 := by rw [← hg]; rfl
      have g2 : g.2.2 = h.2.2 := by rw [← hg]; rfl
      rw [show ((0 : Int32)) = nI 0 from rfl, sp_mix25 (p := s + 64 * c) (n0 := n0) (by omega) hn0 h58 64 0 mm_fu g og.2.1 og.2.2.2.1 gr gi (by rw [gl]; exact g5) (by rw [gl]; exact g6) g3 (by omega) (by unfold mm_fu; omega)]
      rw [show nI (s + 64 * c) + 64 = nI (s + 64 * (c + 1)) from by rw [show ((64 : Int32)) = nI 64 from rfl, nI_add]; rfl]
      obtain ⟨h', p1, p2, p3, p4, p5, p6⟩ := ih (c + 1) n (mm_sw g (r + 1) (ch_f (fun k => ch_z (g.2.1 58) (k - (s + 64 * c))) (s + 64 * c + 0) (min (s + 64 * c + 64) n0) (g.2.1 (r + 1)))) (og.sw q5) (fun k hk h12 => by rw [sw_off (Ne.symm h57), g57, upd_off h12]; exact J k hk h12) gr (by rw [sw_io (by omega)]; exact gi) (by rw [sw_ln, gl]; exact g5) (by rw [sw_ln, gl]; exact g6) g3 (by omega) (by omega) (by omega) (by omega)
      refine ⟨h', p1, p2.trans g0, p3.trans g2, fun a w1 w2 w3 => ?_, p5, ?_⟩
      · rw [p4 a w1 w2 w3, sw_off w3, ga a w1 w2]
      · rw [p6, sw_at, ga (r + 1) h57 h58]
        have e3 : ch_f (fun k => ch_z (g.2.1 58) (k - (s + 64 * c))) (s + 64 * c + 0) (min (s + 64 * c + 64) n0) (h.2.1 (r + 1)) = ch_f (fun k => ch_G F (k - s)) (s + 64 * c) (min (s + 64 * c + 64) n0) (h.2.1 (r + 1)) := by
          refine ch_f_cg (fun k k1 k2 => ?_)
          have i0 : k - (s + 64 * c) < 64 := by omega
          have i1 : (k - s) / 64 = c := by omega
          have i2 : (k - s) % 64 = k - (s + 64 * c) := by omega
          show ch_z (g.2.1 58) (k - (s + 64 * c)) = ch_G F (k - s)
          unfold ch_G ch_z
          rw [i1, i2, g58, e2 _ (by omega)]
          refine ch_y_cg (f := upd (h.2.1 57) 12 (nI (c + 1))) (fun j hj => ?_) i0
          by_cases e : j = 12
          · subst e; rw [upd_at, upd_at]
          · rw [upd_off e, upd_off e, J j hj e]
        rw [e3]
        by_cases w : s + 64 * c + 64 ≤ n0
        · rw [show min (s + 64 * c + 64) n0 = s + 64 * (c + 1) by omega, ch_f_tr (by omega) (by omega)]
        · rw [show min (s + 64 * c + 64) n0 = n0 by omega, ch_f_0 (s := s + 64 * (c + 1)) (by omega)]
    · rw [if_pos (by rw [nI_leI (by omega) (by omega)]; omega)]
      exact ⟨h, rfl, rfl, rfl, fun _ _ _ _ => rfl, J, by rw [ch_f_0 (by omega)]⟩
theorem ch_y255 (f : Nat → Int32) (i : Nat) : ch_y f i &&& 255 = ch_y f i := and255 _
theorem sp_X8_mix {h : mm_H} {M : Nat → List Int32} {s : Nat} {F : Nat → Int32} (R : rr_M h M) (hk : mm_kd h r = 5) (o : ch_ok h) (n57 : ¬ rr_ish h 57) (n58 : ¬ rr_ish h 58) (n5 : ¬ rr_ish h 5) (J : ∀ k, k < 16 → k ≠ 12 → h.2.1 57 k = F k) (hs : s ≤ (M r).length) : ∃ h', bd_X8_mix 52 r (nI s) h = some (none, h') ∧ rr_M h' (va_up M r (ch_m (fun k => ch_G F (k - s)) s (M r).length (M r))) ∧ rr_X [57, 58] h h' ∧ (∀ k, k < 16 → k ≠ 12 → h'.2.1 57 k = F k) ∧ ch_ok h' := by
  obtain ⟨g1, g2, g3, g4, g5, g6, g7, g8⟩ := R r hk
  have w1 : r ≠ 57 := fun z => n57 (Or.inl (z ▸ hk))
  have w2 : r ≠ 58 := fun z => n58 (Or.inl (z ▸ hk))
  have w3 : r + 1 ≠ 57 := fun z => n57 (Or.inr ⟨r, z.symm, hk⟩)
  have w4 : r + 1 ≠ 58 := fun z => n58 (Or.inr ⟨r, z.symm, hk⟩)
  have w5 : r + 1 ≠ 5 := fun z => n5 (Or.inr ⟨r, z.symm, hk⟩)
  obtain ⟨h', p1, p2, p3, p4, p5, p6⟩ := sp_mix5 (s := s) (n0 := (M r).length) (by omega) w4 w3 w2 w1 w5 F (M r).length 0 mm_fu h o J g1 g4 g5 g6 g3 (by omega) (by omega) (by omega) (by unfold mm_fu; omega)
  unfold bd_X8_mix
  rw [show ((0 : Int32)) = nI 0 from rfl]
  have ek : ∀ a, mm_kd h' a = mm_kd h a := fun a => by simp [mm_kd, p2]
  have el : ∀ a, mm_ln h' a = mm_ln h a := fun a => by simp [mm_ln, p2]
  have er : ∀ a k, mm_r h' a k = mm_r h a k := fun a k => by simp [mm_r, p3]
  refine ⟨h', p1, ?_, ⟨p2, by rw [p3], fun a ha hi => ?_⟩, p5, ?_⟩
  · intro t ht
    rw [ek] at ht
    obtain ⟨q1, q2, q3, q4, q5, q6, q7, q8⟩ := R t ht
    have v1 : t ≠ 57 := fun z => n57 (Or.inl (z ▸ ht))
    have v2 : t ≠ 58 := fun z => n58 (Or.inl (z ▸ ht))
    have v3 : t + 1 ≠ 57 := fun z => n57 (Or.inr ⟨t, z.symm, ht⟩)
    have v4 : t + 1 ≠ 58 := fun z => n58 (Or.inr ⟨t, z.symm, ht⟩)
    have v5 : t ≠ r + 1 := fun z => by rw [z] at ht; omega
    rw [er, ek, el]
    have e1 : mm_i h' t 1 = mm_i h t 1 := by show h'.2.1 t 1 = _; rw [p4 t v1 v2 v5]; rfl
    by_cases e : t = r
    · subst e
      rw [vu_at, ch_m_len, e1]
      refine ⟨q1, q2, q3, q4, q5, q6, fun j hj => ?_, fun x hx => ?_⟩
      · show h'.2.1 (t + 1) j = _
        rw [p6, ch_m_at hj]
        show ch_f _ _ _ _ j = _
        unfold ch_f
        rw [show h.2.1 (t + 1) j = (M t).getD j 0 from q7 j hj, show s + 64 * 0 = s from rfl]
      · unfold ch_m at hx
        obtain ⟨k, hk1, rfl⟩ := List.mem_map.mp hx
        have hk2 := List.mem_range.mp hk1
        have hb := q8 _ (rr_mem hk2)
        by_cases c : s ≤ k ∧ k < (M t).length
        · rw [if_pos c, xor255, hb]; unfold ch_G; rw [ch_y255]
        · rw [if_neg c]; exact hb
    · rw [vu_off e, e1]
      refine ⟨q1, q2, q3, q4, q5, q6, fun j hj => ?_, q8⟩
      show h'.2.1 (t + 1) j = _
      rw [p4 (t + 1) v3 v4 (by omega)]; exact q7 j hj
  · simp at ha
    exact p4 a ha.1 ha.2 (fun z => hi (Or.inr ⟨r, z, hk⟩))
  · obtain ⟨o1, o2, o3, o4, o5, o6⟩ := o
    exact ⟨by rw [er]; exact o1, by rw [er]; exact o2, by rw [el]; exact o3, by rw [el]; exact o4, by rw [el]; exact o5, by rw [p4 5 (by decide) (by decide) (Ne.symm w5)]; exact o6⟩
end MIX
