/-! ===== the reference's sealOf, keysOf ===== -/
section RSL
variable {L : Nat} {h : mm_H} {f : mm_H → mm_O} {g : Int32 → mm_H → mm_O} {Q : Option Value → mm_H → Prop}
theorem dr_se8 {ke : Nat → Nat → Int32 → Int32 → Int32 → mm_H → mm_O} {a1 : Nat} {x2 x3 x4 : Int32} {key : List Int32} (T : dT L h) (lk : key.length = 32) (H : ∀ j, j < 32 → h.2.1 536 j = mm_b8 (key.getD j 0)) (K : ∀ h', dI (fun a _ => a = 542) h h' → (∀ j, j < 16 → h'.2.1 542 j = mm_b8 ((po_cl key).getD j 0)) → tr (ke 490 a1 x2 x3 x4 h') Q) : tr (lp_X12_sealOf_8 ke mm_fu 490 a1 x2 x3 x4 0 h) Q := by
  obtain ⟨h', p, d, j⟩ := dm_se8 (L := L) (ke := ke) (a1 := a1) (x2 := x2) (x3 := x3) (x4 := x4) lk 16 0 mm_fu h T H (fun j hj => absurd hj (Nat.not_lt_zero _)) (by omega) (by unfold mm_fu; omega)
  rw [show ((0 : Int32)) = nI 0 from rfl, p]; exact K h' d j
theorem dr_se82 {ke : Nat → Nat → Int32 → Int32 → Int32 → mm_H → mm_O} {a1 : Nat} {x2 x3 x4 : Int32} {w : List Int32} (q : Nat → Nat) (T : dT L h) (B : bs h 542 0 w) (hw : lby w) (lw : w.length = 17) (hd : ∀ k, k < 5 → dg (po_N w 0 17) k = q k) (K : ∀ h', dL h h' → po_h h' 539 q → po_h h' 540 (fun _ => 0) → tr (ke 490 a1 x2 x3 x4 h') Q) : tr (lp_X12_sealOf_82 ke mm_fu 490 a1 x2 x3 x4 0 h) Q := by
  obtain ⟨h', p, d, j1, j2⟩ := dm_se82 (L := L) (ke := ke) (a1 := a1) (x2 := x2) (x3 := x3) (x4 := x4) q hw lw hd 5 0 mm_fu h T B (fun j hj => absurd hj (Nat.not_lt_zero _)) (by omega) (by unfold mm_fu; omega)
  rw [show ((0 : Int32)) = nI 0 from rfl, p]; exact K h' d j1 j2
theorem dr_se139 {ke : Nat → mm_H → mm_O} {c : Nat} {x : Int32} (T : dT L h) (hc : c < 640) (ex : x = nI c) (K : ∀ h', dI (fun a _ => a = 544) h h' → bs h' 544 0 (po_Ln c) → tr (ke 490 h') Q) : tr (lp_X12_sealOf_139 ke mm_fu 490 x 0 h) Q := by
  obtain ⟨h', p, d, j⟩ := dm_se139 (L := L) (ke := ke) hc 16 0 mm_fu h T (fun j hj => absurd hj (Nat.not_lt_zero _)) (by omega) (by unfold mm_fu; omega)
  rw [show ((0 : Int32)) = nI 0 from rfl, ex, p]; exact K h' d j
theorem rr_pad0 {n : Nat} (h : n % 16 = 0) : rr_pad n = 0 := by unfold rr_pad; omega
theorem pd_Ln (c : Nat) : pd (po_Ln c) = po_Ln c := by
  unfold pd
  rw [poLn_ln, rr_pad0 (by decide)]; simp
theorem pd16 (l : List Int32) : (pd l).length % 16 = 0 := by rw [pd_ln]; unfold rr_pad; omega
theorem dr_seal {a1 be fr na : Nat} {x2 x3 x4 : Int32} {F : Nat → Int32} {hd body : List Int32} (T : dT L h) (W : kk h F) (F12 : F 12 = 0) (n1 : 490 < a1 ∧ (a1 < 534 ∨ 544 < a1)) (e1 : mm_ln h a1 = na) (la2 : na ≤ 90000) (bh : bs h a1 be hd) (hh : lby hd) (lh : hd.length = 5) (bb : bs h a1 fr body) (hb : lby body) (lb6 : body.length < 640) (l1 : be + 5 ≤ na) (l2 : fr + body.length ≤ na) (ex2 : x2 = nI be) (ex3 : x3 = nI fr) (ex4 : x4 = nI body.length) (K : ∀ h', bs h' 543 0 (po_tag (ch_o F) (pd hd ++ pd body ++ po_Ln body.length)) → dF (fun a _ => (534 ≤ a ∧ a ≤ 536) ∨ (542 ≤ a ∧ a ≤ 544)) h h' → tr (f h') Q) : tr (mm_qv (bd_X12_sealOf 490 a1 x2 x3 x4 h) f) Q := by
  refine tr_v (p := fun h' => bs h' 543 0 (po_tag (ch_o F) (pd hd ++ pd body ++ po_Ln body.length)) ∧ dF (fun a _ => (534 ≤ a ∧ a ≤ 536) ∨ (542 ≤ a ∧ a ≤ 544)) h h') ?_ (fun h' q => K h' q.1 q.2)
  unfold bd_X12_sealOf
  refine dr_stream T W (fun h1 S1 F1 => ?_)
  have uF : upd F 12 0 = F := by
    funext j
    by_cases e : j = 12
    · subst e; rw [upd_at, F12]
    · rw [upd_off e]
  rw [uF] at S1
  have lk := cho_ln F
  have H1 : ∀ j, j < 32 → h1.2.1 536 j = mm_b8 ((ch_o F).getD j 0) := fun j hj => by rw [cho_at F hj]; exact S1 j (by omega)
  generalize hkey : ch_o F = key at lk H1
  have hk : lby key := by rw [← hkey]; exact cho_by F
  have hcl := pocl_by hk
  refine dr_se8 (T.F F1) lk H1 (fun h2 F2 J2 => ?_)
  have T2 := (T.F F1).F F2.1
  refine tr_gr T2.r54 ?_
  rw [T2.l542, if_pos ⟨by decide, by decide⟩, mm_bh, show mm_n (16 : Int32) = 16 from by decide]
  have F3 : dF (zo 542 16) h2 (mm_si h2 542 16 (mm_b8 0)) := dF.si
  have v3 : (mm_si h2 542 16 (mm_b8 0)).2.1 542 16 = mm_b8 0 := mi_eq
  generalize mm_si h2 542 16 (mm_b8 0) = h3 at F3 v3
  have T3 := T2.F F3
  generalize hw : (po_cl key).take 16 ++ [(0 : Int32)] = w
  have lcl : (po_cl key).length = 32 := by rw [po_cl_len]; exact lk
  have lw : w.length = 17 := by rw [← hw]; simp; omega
  have w1 : ∀ j, j < 16 → w.getD j 0 = (po_cl key).getD j 0 := fun j hj => by
    rw [← hw, rr_getL (by simp; omega), List.getD_eq_getElem?_getD, List.getElem?_take_of_lt hj, ← List.getD_eq_getElem?_getD]
  have w2 : w.getD 16 0 = nI 0 := by rw [← hw, rr_getD (by simp; omega)]; rfl
  have hwb : lby w := by rw [← hw]; exact hcl.take.app (lby.one (by decide))
  have Bw : bs h3 542 0 w := fun j hj => by
    rw [Nat.zero_add]
    by_cases c : j = 16
    · subst c; rw [w2]; exact v3
    · rw [F3.2.2 542 j (by omega), w1 j (by omega)]; exact J2 j (by omega)
  refine dr_se82 (po_d (po_cl key) 0) T3 Bw hwb lw (fun k hk => by
    rw [poN_17 (Or.inl rfl) w2 hk, Nat.zero_mul, pod_cg (l := w) (p := 0) (l' := po_cl key) (p' := 0) (fun j hj => by rw [Nat.zero_add]; exact w1 j hj) k]
    by_cases c : k = 4
    · rw [if_pos c, Nat.add_zero]
    · rw [if_neg c, Nat.add_zero]) (fun h4 F4 q4 a4 => ?_)
  have T4 := T3.L F4
  have G4 : dF (fun a _ => (534 ≤ a ∧ a ≤ 536) ∨ a = 542) h h4 := (((F1.c F2.1).c F3).c (F4.F (S := fun a _ => a = 542))).mo (fun a k z => by omega)
  have hq := po_d_lt (po_cl key) 0
  have hsm : po_sm (fun _ => 0) := ⟨by decide, by decide, by decide, by decide, by decide⟩
  refine dr_take (q := po_d (po_cl key) 0) (a := fun _ => 0) (na := na) T4 (by omega) (by rw [G4.ln]; exact e1) (bh.F G4 (fun k _ _ => by omega)) hh (by omega) (by omega) la2 hq q4 a4 hsm ex2 (by rw [lh]; rfl) (fun h5 F5 q5 a5 => ?_)
  have T5 := T4.F F5
  have G5 := (G4.c F5).mo (S := fun a _ => (534 ≤ a ∧ a ≤ 536) ∨ a = 542) (fun a k z => by omega)
  have sm5 := po_bl_sm hq (pd hd) ((pd hd).length / 16) 0 _ hsm
  refine dr_take (na := na) T5 (by omega) (by rw [G5.ln]; exact e1) (bb.F G5 (fun k _ _ => by omega)) hb (by omega) l2 la2 hq q5 a5 sm5 ex3 ex4 (fun h6 F6 q6 a6 => ?_)
  have T6 := T5.F F6
  have G6 := (G5.c F6).mo (S := fun a _ => (534 ≤ a ∧ a ≤ 536) ∨ a = 542) (fun a k z => by omega)
  have sm6 := po_bl_sm hq (pd body) ((pd body).length / 16) 0 _ sm5
  refine dr_se139 T6 lb6 ex4 (fun h7 F7 b7 => ?_)
  have T7 := T6.F F7.1
  refine tr_gr T7.r56 ?_
  refine dr_take (na := 16) (l := po_Ln body.length) T7 (by decide) T7.l544 b7 (poLn_by _) (by rw [poLn_ln]; decide) (by rw [poLn_ln]; decide) (by decide) hq (F7.po q6) (F7.po a6) sm6 rfl (by rw [poLn_ln]; rfl) (fun h8 F8 q8 a8 => ?_)
  rw [pd_Ln, poLn_ln] at a8
  have sm8 := po_bl_sm hq (po_Ln body.length) (16 / 16) 0 _ sm6
  have T8 := T7.F F8
  refine dr_settle T8 a8 sm8 (fun h9 F9 a9 => ?_)
  have T9 := T8.L F9
  have G9 : dF (fun a _ => a = 542 ∨ a = 544) h1 h9 := (((((((F2.1.c F3).c (F4.F (S := fun a _ => a = 542))).c F5).c F6).c F7.1).c F8).c (F9.F (S := fun a _ => a = 542))).mo (fun a k z => by omega)
  have lt3 : ∀ k, k < 5 → po_se (po_se (po_bl (po_d (po_cl key) 0) (po_Ln body.length) (16 / 16) 0 (po_bl (po_d (po_cl key) 0) (pd body) ((pd body).length / 16) 0 (po_bl (po_d (po_cl key) 0) (pd hd) ((pd hd).length / 16) 0 (fun _ => 0))))) k < 67108864 := fun k hk => by
    have := po_end sm8 k hk
    omega
  have eb : po_bl (po_d (po_cl key) 0) (po_Ln body.length) (16 / 16) 0 (po_bl (po_d (po_cl key) 0) (pd body) ((pd body).length / 16) 0 (po_bl (po_d (po_cl key) 0) (pd hd) ((pd hd).length / 16) 0 (fun _ => 0))) = po_bl (po_d (po_cl key) 0) (pd hd ++ pd body ++ po_Ln body.length) ((pd hd ++ pd body ++ po_Ln body.length).length / 16) 0 (fun _ => 0) := by
    have p1 := pd16 hd
    have p2 := pd16 body
    rw [← pobl_app (A := pd hd) (B := pd body) (by omega), ← pobl_app (A := pd hd ++ pd body) (B := po_Ln body.length) (by rw [List.length_append]; omega)]
    congr 1
    rw [List.length_append, List.length_append, poLn_ln]
    omega
  rw [eb] at a9 lt3
  obtain ⟨h10, p10, F10, b10⟩ := dm_se218 (L := L) (po_re_lt lt3) hk lk 16 0 mm_fu 0 h9 T9 a9 (fun j hj => by rw [G9.2.2 536 j (by omega)]; exact H1 j hj) (by omega) (by omega) (by unfold mm_fu; omega)
  rw [show ((0 : Int64)) = nL 0 from rfl, show ((0 : Int32)) = nI 0 from rfl, p10]
  exact tr_mk ⟨rfl, b10, ((F1.c G9).c F10).mo (fun a k z => by omega)⟩
theorem by_hi {n : Int32} (h : n &&& 255 = n) {j : Nat} (hj : 8 ≤ j) : bt n j = false := by
  rw [← h, b_and, b_255, decide_eq_false (by omega), Bool.and_false]
theorem b_us (n : Nat) (hn : n < 32) (x : Int32) (i : Nat) : bt (mm_ush x (nI n)) i = bt x (n + i) := b_ushr n hn x i
theorem b_sl (n : Nat) (hn : n < 32) (x : Int32) {i : Nat} (hi : i < 32) : bt (mm_shl x (nI n)) i = (decide (n ≤ i) && bt x (i - n)) := b_shl n hn x hi
theorem b_652 : ∀ i, i < 32 → bt 65280 i = decide (8 ≤ i ∧ i < 16) := by decide +kernel
theorem b_167 : ∀ i, i < 32 → bt 16711680 i = decide (16 ≤ i ∧ i < 24) := by decide +kernel
theorem tn_eq {n0 n1 n2 n3 x : Int32} (h0 : n0 &&& 255 = n0) (h1 : n1 &&& 255 = n1) (h2 : n2 &&& 255 = n2) (h3 : n3 &&& 255 = n3) : (((n0 ^^^ (mm_ush x (nI 24) &&& 255)) ||| mm_shl (n1 ^^^ (mm_ush x (nI 16) &&& 255)) (nI 8)) ||| mm_shl (n2 ^^^ (mm_ush x (nI 8) &&& 255)) (nI 16)) ||| mm_shl (n3 ^^^ (mm_ush x (nI 0) &&& 255)) (nI 24) = (((n0 ||| mm_shl n1 (nI 8)) ||| mm_shl n2 (nI 16)) ||| mm_shl n3 (nI 24)) ^^^ (((mm_ush x (nI 24) ||| (mm_ush x (nI 8) &&& 65280)) ||| (mm_shl x (nI 8) &&& 16711680)) ||| mm_shl x (nI 24)) := by
  refine b_ext (fun i hi => ?_)
  simp only [b_or, b_xor, b_and, b_sl 8 (by decide) _ hi, b_sl 16 (by decide) _ hi, b_sl 24 (by decide) _ hi, b_us 24 (by decide), b_us 16 (by decide), b_us 8 (by decide), b_us 0 (by decide), b_255, b_652 i hi, b_167 i hi]
  by_cases c1 : i < 8
  · simp [c1, show ¬ 8 ≤ i by omega, show ¬ 16 ≤ i by omega, show ¬ 24 ≤ i by omega]
  · by_cases c2 : i < 16
    · simp [c1, by_hi h0 (show 8 ≤ i by omega), show 8 ≤ i by omega, show ¬ 16 ≤ i by omega, show ¬ 24 ≤ i by omega, show i - 8 < 8 by omega, c2, show 16 + (i - 8) = 8 + i by omega, b_big (x := x) (show 32 ≤ 24 + i by omega)]
    · by_cases c3 : i < 24
      · simp [c1, c2, by_hi h0 (show 8 ≤ i by omega), by_hi h1 (show 8 ≤ i - 8 by omega), show 8 ≤ i by omega, show 16 ≤ i by omega, show ¬ 24 ≤ i by omega, show ¬ i - 8 < 8 by omega, show i - 16 < 8 by omega, c3, show 8 + (i - 16) = i - 8 by omega, b_big (x := x) (show 32 ≤ 24 + i by omega)]
      · simp [c1, c2, c3, by_hi h0 (show 8 ≤ i by omega), by_hi h1 (show 8 ≤ i - 8 by omega), by_hi h2 (show 8 ≤ i - 16 by omega), show 8 ≤ i by omega, show 16 ≤ i by omega, show 24 ≤ i by omega, show ¬ i - 8 < 8 by omega, show ¬ i - 16 < 8 by omega, show i - 24 < 8 by omega, b_big (x := x) (show 32 ≤ 24 + i by omega)]
/-- the nonce, with the record's number in it -/
def nn_l (n : List Int32) (num : Int32) : List Int32 := (List.range 12).map (fun j => if j < 8 then n.getD j 0 else n.getD j 0 ^^^ (mm_ush num (nI (24 - 8 * (j - 8))) &&& 255))
theorem nnl_at (n : List Int32) (num : Int32) {j : Nat} (hj : j < 12) : (nn_l n num).getD j 0 = if j < 8 then n.getD j 0 else n.getD j 0 ^^^ (mm_ush num (nI (24 - 8 * (j - 8))) &&& 255) := by
  have e : (nn_l n num)[j]? = some (if j < 8 then n.getD j 0 else n.getD j 0 ^^^ (mm_ush num (nI (24 - 8 * (j - 8))) &&& 255)) := by unfold nn_l; rw [List.getElem?_map, List.getElem?_range hj]; rfl
  rw [List.getD_eq_getElem?_getD, e]; rfl
theorem nnl_by {n : List Int32} (hn : lby n) (num : Int32) : lby (nn_l n num) := fun x hx => by
  unfold nn_l at hx
  obtain ⟨k, -, rfl⟩ := List.mem_map.mp hx
  by_cases c : k < 8
  · rw [if_pos c]; exact rd_gb hn k
  · rw [if_neg c, xor255, rd_gb hn k, and255]
theorem nnl_ln (n : List Int32) (num : Int32) : (nn_l n num).length = 12 := by simp [nn_l]
theorem dm_key48 {num : Int32} {n0 : List Int32} : ∀ (m i n : Nat) (h : mm_H), dT L h → (∀ j, j < i → h.2.1 538 (8 + j) = mm_b8 ((nn_l n0 num).getD (8 + j) 0)) → (∀ j, i ≤ j → j < 4 → h.2.1 538 (8 + j) = mm_b8 (n0.getD (8 + j) 0)) → i + m = 4 → m < n → ∃ h', lp_X12_keysOf_48 n 490 num (nI i) h = some (none, h') ∧ dF (fun a k => a = 538 ∧ 8 ≤ k) h h' ∧ ∀ j, j < 4 → h'.2.1 538 (8 + j) = mm_b8 ((nn_l n0 num).getD (8 + j) 0) := by
  intro m
  induction m with
  | zero =>
    intro i n h T J1 J2 hi hn
    obtain ⟨n, rfl⟩ : ∃ k, n = k + 1 := ⟨n - 1, by omega⟩
    rw [lp_X12_keysOf_48, if_pos (by rw [show ((4 : Int32)) = nI 4 from rfl, nI_leI (by omega) (by omega)]; omega)]
    exact ⟨h, rfl, dF.rf, fun j hj => J1 j (by omega)⟩
  | succ m ih =>
    intro i n h T J1 J2 hi hn
    obtain ⟨n, rfl⟩ : ∃ k, n = k + 1 := ⟨n - 1, by omega⟩
    have ev : mm_b8 (mm_b8 (mm_i h 538 (8 + i) ^^^ mm_b8 (mm_shr num (nI (24 - 8 * i))))) = mm_b8 ((nn_l n0 num).getD (8 + i) 0) := by
      rw [b8_b8, show mm_i h 538 (8 + i) = mm_b8 (n0.getD (8 + i) 0) from J2 i (by omega) (by omega), b8_xor, b8_sh _ (by omega), Int32.xor_comm, b8_xor, Int32.xor_comm, nnl_at _ _ (by omega), if_neg (by omega), show 8 + i - 8 = i by omega]
    rw [lp_X12_keysOf_48, if_neg (by rw [show ((4 : Int32)) = nI 4 from rfl, nI_leI (by omega) (by omega)]; omega), mm_gr_s T.r50, show (8 : Int32) + nI i = nI (8 + i) from nI_add 8 i, T.l538, if_pos (rr_in (by omega) (by omega)), if_pos ⟨by decide, rr_in (by omega) (by omega)⟩, rr_n (by omega), mm_bh, show (24 : Int32) - (8 : Int32) * nI i = nI (24 - 8 * i) from by rw [show ((8 : Int32)) = nI 8 from rfl, pk_mul, show ((24 : Int32)) = nI 24 from rfl, nI_sb (by omega)], ev, nI_1]
    have F1 : dF (zo 538 (8 + i)) h (mm_si h 538 (8 + i) (mm_b8 ((nn_l n0 num).getD (8 + i) 0))) := dF.si
    have v1 : (mm_si h 538 (8 + i) (mm_b8 ((nn_l n0 num).getD (8 + i) 0))).2.1 538 (8 + i) = mm_b8 ((nn_l n0 num).getD (8 + i) 0) := mi_eq
    generalize mm_si h 538 (8 + i) (mm_b8 ((nn_l n0 num).getD (8 + i) 0)) = h1 at F1 v1
    obtain ⟨h', p1, p2, p3⟩ := ih (i + 1) n h1 (T.F F1) (fun j hj => by
      by_cases e : j = i
      · subst e; exact v1
      · rw [F1.2.2 538 _ (by omega)]; exact J1 j (by omega)) (fun j j1 j2 => by rw [F1.2.2 538 _ (by omega)]; exact J2 j (by omega) j2) (by omega) (by omega)
    exact ⟨h', p1, (F1.c p2).mo (fun a k z => by omega), p3⟩
theorem nnl_4 {n : List Int32} {num : Int32} {k : Nat} (hk : k + 3 < 8) : ch_4 (nn_l n num) k = ch_4 n k := by
  unfold ch_4
  rw [nnl_at _ _ (by omega), nnl_at _ _ (by omega), nnl_at _ _ (by omega), nnl_at _ _ (by omega), if_pos (by omega), if_pos (by omega), if_pos (by omega), if_pos (by omega)]
theorem nnl_8 {n : List Int32} {num : Int32} (hn : lby n) : ch_4 (nn_l n num) 8 = ch_4 n 8 ^^^ ch_tn num := by
  unfold ch_4
  rw [nnl_at _ _ (by decide), nnl_at _ _ (by decide), nnl_at _ _ (by decide), nnl_at _ _ (by decide), if_neg (by decide), if_neg (by decide), if_neg (by decide), if_neg (by decide)]
  exact tn_eq (rd_gb hn 8) (rd_gb hn 9) (rd_gb hn 10) (rd_gb hn 11)
theorem chi_12 (k n : List Int32) (x : Int32) : ch_i k n x 12 = 0 := by unfold ch_i; rfl
theorem dr_keys {a1 e : Nat} {num : Int32} {sec : List Int32} (B : rB L h) (he : e < 4) (bl : bs h a1 (32 * e) sec) (hs : sec.length = 32) (n1 : a1 = 511 ∨ a1 = 512) (K : ∀ h', kk h' (ch_i (ky_k sec) (ky_n sec) num) → dF (fun a k => (520 ≤ a ∧ a ≤ 526) ∨ (a = 490 ∧ k = 37) ∨ (537 ≤ a ∧ a ≤ 538)) h h' → tr (f h') Q) : tr (mm_qv (bd_X12_keysOf 490 a1 (nI e) num h) f) Q := by
  refine tr_v (p := fun h' => kk h' (ch_i (ky_k sec) (ky_n sec) num) ∧ dF (fun a k => (520 ≤ a ∧ a ≤ 526) ∨ (a = 490 ∧ k = 37) ∨ (537 ≤ a ∧ a ≤ 538)) h h') ?_ (fun h' q => K h' q.1 q.2)
  have l1 : mm_ln h a1 = 128 := by
    rcases n1 with rfl | rfl
    · exact B.1.l511
    · exact B.1.l512
  unfold bd_X12_keysOf
  refine tr_gr B.1.r40 (tr_gr B.1.r49 ?_)
  rw [show (32 : Int32) * nI e = nI (32 * e) from pk_mul 32 e]
  refine dr_expand (n := 32) (p := 0) (sec := sec) (ctx := []) B bl hs bs.nil lby.nil (by decide) (by omega) (by decide) (by decide) (Or.inl rfl) 128 32 32 l1 (by omega) (by decide) B.1.l528 (by decide) (by decide) B.1.l537 (by decide) (by decide) rfl rfl rfl rfl (fun h1 b1 F1 => ?_)
  rw [show lb 5 = 15 from by decide] at b1
  have B1 : rB L h1 := B.F F1 (fun a k z => by omega)
  refine tr_gr B1.1.r40 (tr_gr B1.1.r50 ?_)
  refine dr_expand (n := 12) (p := 0) (sec := sec) (ctx := []) B1 (bl.F F1 (fun k _ _ => by omega)) hs bs.nil lby.nil (by decide) (by omega) (by decide) (by decide) (Or.inr rfl) 128 32 12 (by rw [F1.ln]; exact l1) (by omega) (by decide) B1.1.l528 (by decide) (by decide) B1.1.l538 (by decide) (by decide) rfl rfl rfl rfl (fun h2 b2 F2 => ?_)
  rw [show lb 6 = 16 from by decide] at b2
  have b2' : bs h2 538 0 (ky_n sec) := b2
  have hn : lby (ky_n sec) := hke_by _ _ _ _
  have B2 : rB L h2 := B1.F F2 (fun a k z => by omega)
  obtain ⟨h3, p3, F3, J3⟩ := dm_key48 (L := L) (num := num) (n0 := ky_n sec) 4 0 mm_fu h2 B2.1 (fun j hj => absurd hj (Nat.not_lt_zero _)) (fun j _ hj => by
    have := b2' (8 + j) (by rw [ky_n_ln]; omega)
    rw [Nat.zero_add] at this; exact this) (by omega) (by unfold mm_fu; omega)
  rw [show ((0 : Int32)) = nI 0 from rfl, p3]
  refine tr_mk ⟨rfl, ⟨ky_k sec, nn_l (ky_n sec) num, (b1.F F2 (fun k _ _ => by omega)).F F3 (fun k _ _ => by omega), fun j hj => ?_, ky_k_ln _, nnl_ln _ _, hke_by _ _ _ _, nnl_by hn _, fun j hj => ?_, fun j hj => ?_, fun j hj => ?_⟩, ((F1.c F2).c F3).mo (fun a k z => by omega)⟩
  · rw [nnl_ln] at hj
    by_cases c : j < 8
    · rw [Nat.zero_add, F3.2.2 538 j (by omega), nnl_at _ _ hj, if_pos c]
      have := b2' j (by rw [ky_n_ln]; omega)
      rw [Nat.zero_add] at this; exact this
    · obtain ⟨i, rfl⟩ : ∃ i, j = 8 + i := ⟨j - 8, by omega⟩
      rw [Nat.zero_add]; exact J3 i (by omega)
  · unfold ch_i; rw [if_pos hj]
  · unfold ch_i; rw [if_neg (by omega), if_pos (by omega), Nat.add_sub_cancel_left]
  · rcases (by omega : j = 0 ∨ j = 1 ∨ j = 2) with rfl | rfl | rfl
    · rw [show ch_i (ky_k sec) (ky_n sec) num (13 + 0) = ch_4 (ky_n sec) 0 from rfl]; exact (nnl_4 (by decide)).symm
    · rw [show ch_i (ky_k sec) (ky_n sec) num (13 + 1) = ch_4 (ky_n sec) 4 from rfl]; exact (nnl_4 (by decide)).symm
    · rw [show ch_i (ky_k sec) (ky_n sec) num (13 + 2) = ch_4 (ky_n sec) 8 ^^^ ch_tn num from rfl]; exact (nnl_8 hn).symm
end RSL
