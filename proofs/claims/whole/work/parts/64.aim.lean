/-! ===== Sealer.aim: the sixteen words that go in, and the key of the seal; Sealer.gather: what is sealed ===== -/
def ch_4 (l : List Int32) (k : Nat) : Int32 := ((l.getD k 0 ||| mm_shl (l.getD (k + 1) 0) 8) ||| mm_shl (l.getD (k + 2) 0) 16) ||| mm_shl (l.getD (k + 3) 0) 24
def ch_tn (x : Int32) : Int32 := ((mm_ush x 24 ||| (mm_ush x 8 &&& 65280)) ||| (mm_shl x 8 &&& 16711680)) ||| mm_shl x 24
/-- the words that go in, but the block's number -/
def ch_i (key nonce : List Int32) (num : Int32) : Nat → Int32 := fun k => if k < 4 then st_i (fun _ => 0) 4 k else if k < 12 then ch_4 key (4 * (k - 4)) else if k = 12 then 0 else if k = 13 then ch_4 nonce 0 else if k = 14 then ch_4 nonce 4 else ch_4 nonce 8 ^^^ ch_tn num
/-- the key of the seal -/
def ch_o (F : Nat → Int32) : List Int32 := (List.range 32).map (fun i => ch_y F i)
def ch_in4 (g : Nat → Int32) : Nat → Nat → (Nat → Int32) → (Nat → Int32)
  | 0, _, f => f
  | m + 1, i, f => ch_in4 g m (i + 1) (upd f (4 + i) (g i))
theorem ch_in4_at (g : Nat → Int32) : ∀ (m i : Nat) (f : Nat → Int32) (j : Nat), ch_in4 g m i f j = if 4 + i ≤ j ∧ j < 4 + i + m then g (j - 4) else f j := by
  intro m
  induction m with
  | zero => intro i f j; rw [ch_in4, if_neg (by omega)]
  | succ m ih =>
    intro i f j
    rw [ch_in4, ih]
    by_cases c : 4 + (i + 1) ≤ j ∧ j < 4 + (i + 1) + m
    · rw [if_pos c, if_pos (by omega)]
    · rw [if_neg c]
      by_cases e : j = 4 + i
      · subst e; rw [upd_at, if_pos (by omega), show 4 + i - 4 = i by omega]
      · rw [upd_off e, if_neg (by omega)]
section AIM
variable {L : Nat} {k : Nat}
theorem sp_aim2 {ke : Nat → Nat → mm_H → mm_O} : ∀ (m i n : Nat) (h : mm_H), mm_r h 52 1 = some 57 → mm_ln h 57 = 16 → mm_ln h 4 = 4 → i + m = 4 → m < n → lp_X8_aim_2 ke n 52 k (nI i) h = ke 52 k (mm_sw h 57 (sh_in (h.2.1 4) m i (h.2.1 57))) := by
  intro m
  induction m with
  | zero =>
    intro i n h o1 o3 o4 hi hn
    obtain ⟨n, rfl⟩ : ∃ k, n = k + 1 := ⟨n - 1, by omega⟩
    rw [lp_X8_aim_2, o4, if_pos (by rw [nI_leI (by omega) (by omega)]; omega), sh_in, sw_self]
  | succ m ih =>
    intro i n h o1 o3 o4 hi hn
    obtain ⟨n, rfl⟩ : ∃ k, n = k + 1 := ⟨n - 1, by omega⟩
    rw [lp_X8_aim_2, o4, if_neg (by rw [nI_leI (by omega) (by omega)]; omega)]
    simp only [mm_gr, o1, Option.bind_some, o3]
    rw [if_pos (rr_in (by omega) (by omega)), if_pos ⟨by omega, rr_in (by omega) (by omega)⟩, rr_n (by omega), nI_1]
    simp only [mm_bh]
    rw [sw_si]
    refine (ih (i + 1) n (mm_sw h 57 _) o1 o3 o4 (by omega) (by omega)).trans ?_
    rw [sw_at, sw_sw, sw_off (by decide), sh_in]
    rfl
theorem sp_aim29 {ke : Nat → Nat → mm_H → mm_O} {M : Nat → List Int32} {y : Nat} : ∀ (m i n : Nat) (h : mm_H), rr_M h M → ¬ rr_ish h 57 → mm_kd h y = 5 → (M y).length = 32 → mm_r h k 1 = some y → mm_r h 52 1 = some 57 → mm_ln h 57 = 16 → i + m = 8 → m < n → lp_X8_aim_29 ke n 52 k (nI i) h = ke 52 k (mm_sw h 57 (ch_in4 (fun j => ch_4 (M y) (4 * j)) m i (h.2.1 57))) := by
  intro m
  induction m with
  | zero =>
    intro i n h R n57 ky ly ry o1 o3 hi hn
    obtain ⟨n, rfl⟩ : ∃ k, n = k + 1 := ⟨n - 1, by omega⟩
    rw [lp_X8_aim_29, if_pos (by rw [show ((8 : Int32)) = nI 8 from rfl, nI_leI (by omega) (by omega)]; omega), ch_in4, sw_self]
  | succ m ih =>
    intro i n h R n57 ky ly ry o1 o3 hi hn
    obtain ⟨n, rfl⟩ : ∃ k, n = k + 1 := ⟨n - 1, by omega⟩
    rw [lp_X8_aim_29, if_neg (by rw [show ((8 : Int32)) = nI 8 from rfl, nI_leI (by omega) (by omega)]; omega)]
    simp only [mm_gr, o1, ry, Option.bind_some]
    rw [show (4 : Int32) * nI i = nI (4 * i) from by rw [show ((4 : Int32)) = nI 4 from rfl, pk_mul], sp_X6_four R ky (by omega), mm_qi_s, o3, show (4 : Int32) + nI i = nI (4 + i) from by rw [show ((4 : Int32)) = nI 4 from rfl, nI_add], if_pos ⟨by omega, rr_in (by omega) (by omega)⟩, rr_n (by omega), nI_1]
    simp only [mm_bh]
    rw [sw_si]
    refine (ih (i + 1) n (mm_sw h 57 _) (R.sw n57) n57 ky ly ry o1 o3 (by omega) (by omega)).trans ?_
    rw [sw_at, sw_sw, ch_in4]
    rfl
theorem sp_aim127 : ∀ (m i n : Nat) (h : mm_H) (M : Nat → List Int32), rr_M h M → mm_kd h 59 = 5 → mm_ln h (59 + 1) = 32 → ¬ rr_ish h 58 → mm_r h 52 2 = some 58 → mm_r h 52 3 = some 59 → mm_ln h 58 = 16 → i + m = 32 → (M 59).length = i → m < n → ∃ h', lp_X8_aim_127 n 52 (nI i) h = some (none, h') ∧ rr_M h' (va_up M 59 (M 59 ++ (List.range' i m).map (fun j => ch_z (h.2.1 58) j))) ∧ rr_F h h' := by
  intro m
  induction m with
  | zero =>
    intro i n h M R k59 l59 n58 o2 o3 o4 hi hl hn
    obtain ⟨n, rfl⟩ : ∃ k, n = k + 1 := ⟨n - 1, by omega⟩
    rw [lp_X8_aim_127, if_pos (by rw [show ((32 : Int32)) = nI 32 from rfl, nI_leI (by omega) (by omega)]; omega)]
    refine ⟨h, rfl, ?_, rr_F.rf⟩
    simp only [List.range'_zero, List.map_nil, List.append_nil]
    rw [vu_self]; exact R
  | succ m ih =>
    intro i n h M R k59 l59 n58 o2 o3 o4 hi hl hn
    obtain ⟨n, rfl⟩ : ∃ k, n = k + 1 := ⟨n - 1, by omega⟩
    rw [lp_X8_aim_127, if_neg (by rw [show ((32 : Int32)) = nI 32 from rfl, nI_leI (by omega) (by omega)]; omega)]
    simp only [mm_gr, o2, o3, Option.bind_some, o4]
    rw [ch_d4 (by omega), if_pos (rr_in (by omega) (by omega)), rr_n (by omega), ch_8r (by omega)]
    obtain ⟨h1, p1, R1, F1⟩ := sp_X6_put R k59 (mm_ush (mm_i h 58 (i / 4)) (nI (8 * (i % 4))))
    rw [p1, mm_qv_s, nI_1]
    rw [l59, List.take_of_length_le (by simp; omega)] at R1
    obtain ⟨h', q1, q2, q3⟩ := ih (i + 1) n h1 _ R1 (by rw [F1.kd]; exact k59) (by rw [F1.ln]; exact l59) (fun z => n58 ((rr_ish_F F1 58).mp z)) (by rw [F1.r]; exact o2) (by rw [F1.r]; exact o3) (by rw [F1.ln]; exact o4) (by omega) (by rw [vu_at]; simp; omega) (by omega)
    refine ⟨h', q1, ?_, F1.tr q3⟩
    rw [vu_at, vu_uu, F1.2.2 58 n58, List.append_assoc] at q2
    rw [List.range'_succ, List.map_cons]
    exact q2
theorem sp_X8_aim {h : mm_H} {M : Nat → List Int32} {y z : Nat} (T : sk_T L h) (R : rr_M h M) (o : ch_ok h) (r3 : mm_r h 52 3 = some 59) (hy : mm_r h k 1 = some y) (hz : mm_r h k 2 = some z) (ky : mm_kd h y = 5) (kz : mm_kd h z = 5) (ly : (M y).length = 32) (lz : (M z).length = 12) (hk : k ≠ 57 ∧ k ≠ 58) : ∃ h', bd_X8_aim 52 k h = some (none, h') ∧ rr_M h' (va_up M 59 (ch_o (ch_i (M y) (M z) (mm_i h k 3)))) ∧ rr_X [57, 58] h h' ∧ (∀ j, j < 16 → j ≠ 12 → h'.2.1 57 j = ch_i (M y) (M z) (mm_i h k 3) j) ∧ ch_ok h' := by
  have o' := o
  obtain ⟨o1, o2, o3, o4, o5, o6⟩ := o
  have n57 : ¬ rr_ish h 57 := sk_ni T.1 (by decide +kernel)
  have n58 : ¬ rr_ish h 58 := sk_ni T.1 (by decide +kernel)
  have k59 : mm_kd h 59 = 5 := sk_kd T.1 (by decide +kernel)
  have l59 : mm_ln h (59 + 1) = 32 := sk_ln T.1 (by decide) (by decide +kernel)
  have l4 : mm_ln h 4 = 4 := sk_ln T.1 (by decide) (by decide +kernel)
  have t4 : h.2.1 4 = st_i (fun _ => 0) 4 := T.2.1 4 (by decide) (by decide)
  unfold bd_X8_aim
  rw [show ((0 : Int32)) = nI 0 from rfl, sp_aim2 4 0 mm_fu h o1 o3 l4 (by omega) (by unfold mm_fu; omega)]
  rw [sp_aim29 (M := M) (y := y) 8 0 mm_fu _ (R.sw n57) n57 ky ly hy o1 o3 (by omega) (by unfold mm_fu; omega), sw_at, sw_sw]
  generalize hf : ch_in4 (fun j => ch_4 (M y) (4 * j)) 8 0 (sh_in (h.2.1 4) 4 0 (h.2.1 57)) = f
  have nn : ∀ (g : Nat → Int32), rr_M (mm_sw h 57 g) M := fun g => R.sw n57
  have r57 : ∀ (g : Nat → Int32), mm_r (mm_sw h 57 g) 52 1 = some 57 := fun g => o1
  have rz : ∀ (g : Nat → Int32), mm_r (mm_sw h 57 g) k 2 = some z := fun g => hz
  have l57 : ∀ (g : Nat → Int32), mm_ln (mm_sw h 57 g) 57 = 16 := fun g => o3
  have kz' : ∀ (g : Nat → Int32), mm_kd (mm_sw h 57 g) z = 5 := fun g => kz
  simp only [mm_gr, r57, rz, Option.bind_some]
  rw [sp_X6_four (nn f) (kz' f) (by omega), mm_qi_s]
  simp only [l57]
  rw [if_pos ⟨by omega, by decide⟩, show mm_n (13 : Int32) = 13 from by decide]
  simp only [mm_bh, sw_si, sw_at, sw_sw, r57, rz, Option.bind_some]
  rw [show ((4 : Int32)) = nI 4 from rfl, sp_X6_four (nn _) (kz' _) (by omega), mm_qi_s]
  simp only [l57]
  rw [if_pos ⟨by omega, by decide⟩, show mm_n (14 : Int32) = 14 from by decide]
  simp only [mm_bh, sw_si, sw_at, sw_sw, r57, rz, Option.bind_some]
  rw [show ((8 : Int32)) = nI 8 from rfl, sp_X6_four (nn _) (kz' _) (by omega), mm_qi_s]
  unfold bd_X8_turned
  rw [mm_qi_s, sw_io hk.1]
  simp only [l57]
  rw [if_pos ⟨by omega, by decide⟩, show mm_n (15 : Int32) = 15 from by decide]
  simp only [mm_bh, sw_si, sw_at, sw_sw]
  generalize hg : upd (upd (upd f 13 _) 14 _) 15 _ = g
  obtain ⟨W, e1, e2⟩ := sp_X8_turnBlock (h := mm_sw h 57 g) (o'.sw (by decide)) (nI 0)
  rw [e1, mm_qv_s, sw_at, sw_sw]
  rw [sw_at] at e2
  generalize hw : mm_sw (mm_sw h 57 (upd g 12 (nI 0))) 58 W = w
  have wX : rr_X [57, 58] h w := by rw [← hw]; exact (rr_X.sw (by simp)).tr (rr_X.sw (by simp))
  have wR : rr_M w M := by rw [← hw]; exact (R.sw n57).sw n58
  have wo : ch_ok w := by rw [← hw]; exact (o'.sw (by decide)).sw (by decide)
  have w57 : w.2.1 57 = upd g 12 (nI 0) := by rw [← hw, sw_off (by decide), sw_at]
  have w58 : w.2.1 58 = W := by rw [← hw, sw_at]
  have w3 : mm_r w 52 3 = some 59 := by rw [wX.r]; exact r3
  simp only [w3, Option.bind_some]
  obtain ⟨h3, p3, R3, F3⟩ := sp_X6_clear wR (by rw [wX.kd]; exact k59)
  rw [p3, mm_qv_s]
  have nw58 : ¬ rr_ish w 58 := fun q => n58 ((wX.ish 58).mp q)
  have nw57 : ¬ rr_ish w 57 := fun q => n57 ((wX.ish 57).mp q)
  obtain ⟨h', q1, q2, q3⟩ := sp_aim127 32 0 mm_fu h3 _ R3 (by rw [F3.kd, wX.kd]; exact k59) (by rw [F3.ln, wX.ln]; exact l59) (fun q => nw58 ((rr_ish_F F3 58).mp q)) (by rw [F3.r]; exact wo.2.1) (by rw [F3.r]; exact w3) (by rw [F3.ln]; exact wo.2.2.2.1) (by omega) (by rw [vu_at]; rfl) (by unfold mm_fu; omega)
  have F' := F3.tr q3
  have hJ : ∀ j, j < 16 → upd g 12 (nI 0) j = ch_i (M y) (M z) (mm_i h k 3) j := by
    intro j hj
    rw [← hg, ← hf]
    unfold ch_i
    by_cases c12 : j = 12
    · subst c12; rw [upd_at]; rfl
    · rw [upd_off c12]
      by_cases c15 : j = 15
      · subst c15; rw [upd_at]; rfl
      · rw [upd_off c15]
        by_cases c14 : j = 14
        · subst c14; rw [upd_at]; rfl
        · rw [upd_off c14]
          by_cases c13 : j = 13
          · subst c13; rw [upd_at]; rfl
          · rw [upd_off c13, ch_in4_at]
            by_cases c4 : j < 4
            · rw [if_neg (by omega), if_pos c4, sh_in_at, if_pos (by omega), t4]
            · rw [if_pos (by omega), if_neg c4, if_pos (by omega)]
  refine ⟨h', q1, ?_, wX.tr F'.X, fun j hj h12 => ?_, ?_⟩
  · rw [vu_at, vu_uu, List.nil_append, F3.2.2 58 nw58, w58, ← List.range_eq_range'] at q2
    have ee : (List.range 32).map (fun j => ch_z W j) = ch_o (ch_i (M y) (M z) (mm_i h k 3)) := by
      unfold ch_o
      apply List.map_congr_left
      intro i hi
      have hi' := List.mem_range.mp hi
      unfold ch_z
      rw [e2 _ (by omega)]
      exact ch_y_cg (f := upd g 12 (nI 0)) hJ (by omega)
    rw [ee] at q2
    exact q2
  · rw [F'.2.2 57 nw57, w57]; exact hJ j hj
  · obtain ⟨a1, a2, a3, a4, a5, a6⟩ := wo
    exact ⟨by rw [F'.r]; exact a1, by rw [F'.r]; exact a2, by rw [F'.ln]; exact a3, by rw [F'.ln]; exact a4, by rw [F'.ln]; exact a5, by rw [F'.2.2 5 (fun q => sk_ni T.1 (by decide +kernel) ((wX.ish 5).mp q))]; exact a6⟩
/-- what the seal is made over -/
def po_t (l : List Int32) (n : Nat) : List Int32 := l.take 5 ++ List.replicate 11 0 ++ (l.take n).drop 5 ++ List.replicate (rr_pad (n - 5)) 0 ++ rr_low 5 8 0 ++ rr_low (nI (n - 5)) 8 0
theorem sp_X8_gather {h : mm_H} {M : Nat → List Int32} {r n : Nat} (T : sk_T L h) (R : rr_M h M) (r4 : mm_r h 52 4 = some 61) (kr : mm_kd h r = 5) (hr : r ≠ 61) (h5 : 5 ≤ n) (hn : n ≤ (M r).length) (hn6 : n ≤ 600) : ∃ h', bd_X8_gather 52 r (nI n) h = some (none, h') ∧ rr_M h' (va_up M 61 (po_t (M r) n)) ∧ rr_F h h' := by
  have k61 : mm_kd h 61 = 5 := sk_kd T.1 (by decide +kernel)
  have l61 : mm_ln h (61 + 1) = 664 := sk_ln T.1 (by decide) (by decide +kernel)
  have c1 : ((M r).take 5).length = 5 := by rw [List.length_take]; omega
  have c2 : (((M r).take n).drop 5).length = n - 5 := by rw [List.length_drop, List.length_take]; omega
  have cp : rr_pad (n - 5) < 16 := by unfold rr_pad; omega
  unfold bd_X8_gather
  simp only [mm_gr, r4, Option.bind_some]
  obtain ⟨h1, p1, R1, F1⟩ := sp_X6_clear R k61
  rw [p1, mm_qv_s]
  simp only [F1.r, r4, Option.bind_some]
  obtain ⟨h2, p2, R2, F2'⟩ := sp_X6_appendPart (r := 61) (o := r) (k := 0) (t := 5) R1 (by rw [F1.kd]; exact k61) (by rw [F1.kd]; exact kr) (Ne.symm hr) (by omega) (by omega)
  have F2 := F1.tr F2'
  rw [show ((0 : Int32)) = nI 0 from rfl, show ((5 : Int32)) = nI 5 from rfl, p2, mm_qv_s]
  rw [F1.ln, l61, vu_at, vu_off hr, vu_uu, List.nil_append, List.drop_zero, List.take_of_length_le (by omega)] at R2
  simp only [F2.r, r4, Option.bind_some]
  obtain ⟨h3, p3, R3, F3'⟩ := sp_X6_fillUp (r := 61) R2 (by rw [F2.kd]; exact k61) (by rw [F2.ln, l61, vu_at, c1]; decide)
  have F3 := F2.tr F3'
  rw [p3, mm_qv_s]
  rw [vu_at, vu_uu, c1, show rr_pad 5 = 11 from rfl] at R3
  simp only [F3.r, r4, Option.bind_some]
  obtain ⟨h4, p4, R4, F4'⟩ := sp_X6_appendPart (r := 61) (o := r) (k := 5) (t := n) R3 (by rw [F3.kd]; exact k61) (by rw [F3.kd]; exact kr) (Ne.symm hr) (by omega) (by omega)
  have F4 := F3.tr F4'
  rw [p4, mm_qv_s]
  rw [F3.ln, l61, vu_at, vu_off hr, vu_uu, List.take_of_length_le (by simp only [List.length_append, c1, c2, List.length_replicate]; omega)] at R4
  simp only [F4.r, r4, Option.bind_some]
  have e4 : ((M r).take 5 ++ List.replicate 11 0 ++ ((M r).take n).drop 5).length = 16 + (n - 5) := by simp only [List.length_append, c1, c2, List.length_replicate]
  have e5 : rr_pad (16 + (n - 5)) = rr_pad (n - 5) := by unfold rr_pad; omega
  obtain ⟨h5, p5, R5, F5'⟩ := sp_X6_fillUp (r := 61) R4 (by rw [F4.kd]; exact k61) (by rw [F4.ln, l61, vu_at, e4, e5]; omega)
  have F5 := F4.tr F5'
  rw [p5, mm_qv_s]
  rw [vu_at, vu_uu, e4, e5] at R5
  simp only [F5.r, r4, Option.bind_some]
  obtain ⟨h6, p6, R6, F6'⟩ := sp_X6_putLowFirst (r := 61) (t := 8) (nI 5) R5 (by rw [F5.kd]; exact k61) (by omega) (by rw [F5.ln, l61, vu_at, List.length_append, e4, List.length_replicate]; omega)
  have F6 := F5.tr F6'
  rw [show ((8 : Int32)) = nI 8 from rfl, p6, mm_qv_s]
  rw [vu_at, vu_uu] at R6
  simp only [F6.r, r4, Option.bind_some]
  obtain ⟨h7, p7, R7, F7'⟩ := sp_X6_putLowFirst (r := 61) (t := 8) (nI (n - 5)) R6 (by rw [F6.kd]; exact k61) (by omega) (by rw [F6.ln, l61, vu_at, List.length_append, List.length_append, e4, List.length_replicate, rr_low_len]; omega)
  rw [pk_sub (by omega), p7, mm_qv_s]
  rw [vu_at, vu_uu] at R7
  exact ⟨h7, rfl, R7, F6.tr F7'⟩
end AIM
