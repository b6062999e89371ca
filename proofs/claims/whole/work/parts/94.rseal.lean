/-! ===== the reference's Poly1305: rows, the end of it ===== -/
/-- filled up with zeros -/
def pd (l : List Int32) : List Int32 := l ++ List.replicate (rr_pad l.length) 0
theorem pd_ln (l : List Int32) : (pd l).length = l.length + rr_pad l.length := by unfold pd; simp
theorem pd_at {l : List Int32} {j : Nat} (h : l.length ≤ j) : (pd l).getD j 0 = 0 := by
  unfold pd
  rw [List.getD_eq_getElem?_getD, List.getElem?_append_right h, List.getElem?_replicate]
  by_cases c : j - l.length < rr_pad l.length
  · rw [if_pos c]; rfl
  · rw [if_neg c]; rfl
theorem pd_lo {l : List Int32} {j : Nat} (h : j < l.length) : (pd l).getD j 0 = l.getD j 0 := rr_getL h
theorem lby.pd {l : List Int32} (a : lby l) : lby (pd l) := a.app (fun x hx => by rw [List.eq_of_mem_replicate hx]; decide)
theorem pod_cg {l l' : List Int32} {p p' : Nat} (h : ∀ j, j < 16 → l.getD (p + j) 0 = l'.getD (p' + j) 0) (k : Nat) : po_d l p k = po_d l' p' k := by
  unfold po_d; rw [poN_cg 16 h]
theorem pobl_cg {q : Nat → Nat} {l l' : List Int32} : ∀ (m p p' : Nat) (a : Nat → Nat), (∀ j, j < 16 * m → l.getD (p + j) 0 = l'.getD (p' + j) 0) → po_bl q l m p a = po_bl q l' m p' a := by
  intro m
  induction m with
  | zero => intro p p' a _; rfl
  | succ m ih =>
    intro p p' a h
    have e : (fun k => a k + po_d l p k + (if k = 4 then po_M else 0)) = (fun k => a k + po_d l' p' k + (if k = 4 then po_M else 0)) := by
      funext k
      rw [pod_cg (fun j hj => h j (by omega)) k]
    rw [po_bl, po_bl, ih (p + 16) (p' + 16) _ (fun j hj => by rw [Nat.add_assoc, Nat.add_assoc]; exact h (16 + j) (by omega)), e]
theorem pobl_add {q : Nat → Nat} {l : List Int32} : ∀ (m n p : Nat) (a : Nat → Nat), po_bl q l (m + n) p a = po_bl q l n (p + 16 * m) (po_bl q l m p a) := by
  intro m
  induction m with
  | zero => intro n p a; rw [Nat.zero_add]; rfl
  | succ m ih =>
    intro n p a
    rw [show m + 1 + n = (m + n) + 1 by omega, po_bl, ih, po_bl, show p + 16 + 16 * m = p + 16 * (m + 1) by omega]
theorem pobl_app {q : Nat → Nat} {A B : List Int32} {m n : Nat} {a : Nat → Nat} (hA : A.length = 16 * m) : po_bl q (A ++ B) (m + n) 0 a = po_bl q B n 0 (po_bl q A m 0 a) := by
  rw [pobl_add, pobl_cg (l := A ++ B) (l' := A) m 0 0 a (fun j hj => rr_getL (by omega))]
  refine pobl_cg n _ _ _ (fun j hj => ?_)
  rw [Nat.zero_add, Nat.zero_add, List.getD_eq_getElem?_getD, List.getElem?_append_right (by omega), ← List.getD_eq_getElem?_getD, show 16 * m + j - A.length = j by omega]
section RSE
variable {L : Nat} {h : mm_H} {f : mm_H → mm_O} {g : Int32 → mm_H → mm_O} {Q : Option Value → mm_H → Prop}
/-- ints alone changed, in S -/
def dI (S : Nat → Nat → Prop) (h h' : mm_H) : Prop := dF S h h' ∧ h'.2.2.1 = h.2.2.1
theorem dI.po {S : Nat → Nat → Prop} {h h' : mm_H} {b : Nat} {a : Nat → Nat} (D : dI S h h') (p : po_h h b a) : po_h h' b a := fun k hk => by rw [D.2]; exact p k hk
theorem dm_take12 {ke : Nat → Nat → Int32 → Int32 → Int32 → mm_H → mm_O} {a1 fr na c : Nat} {l : List Int32} (n1 : a1 ≠ 542) (hl : l.length ≤ 1000) (hc : c ≤ 2000) (la : fr + l.length ≤ na) (la2 : na ≤ 90000) : ∀ (m i n : Nat) (h : mm_H), dT L h → mm_ln h a1 = na → bs h a1 fr l → (∀ j, j < i → h.2.1 542 j = mm_b8 ((pd l).getD (c + j) 0)) → i + m = 16 → m < n → ∃ h', lp_X12_take_12 ke n 490 a1 (nI fr) (nI l.length) (nI c) (nI i) h = ke 490 a1 (nI fr) (nI l.length) (nI c) h' ∧ dI (fun a k => a = 542 ∧ k < 16) h h' ∧ ∀ j, j < 16 → h'.2.1 542 j = mm_b8 ((pd l).getD (c + j) 0) := by
  intro m
  induction m with
  | zero =>
    intro i n h T e1 B J hi hn
    obtain ⟨n, rfl⟩ : ∃ k, n = k + 1 := ⟨n - 1, by omega⟩
    rw [lp_X12_take_12, if_pos (by rw [show ((16 : Int32)) = nI 16 from rfl, nI_leI (by omega) (by omega)]; omega)]
    exact ⟨h, rfl, ⟨dF.rf, rfl⟩, fun j hj => J j (by omega)⟩
  | succ m ih =>
    intro i n h T e1 B J hi hn
    obtain ⟨n, rfl⟩ : ∃ k, n = k + 1 := ⟨n - 1, by omega⟩
    have key : ∀ s0 : Int32, mm_b8 s0 = mm_b8 ((pd l).getD (c + i) 0) → ∃ h', jn_X12_take_47 (lp_X12_take_12 ke n) ke 490 a1 (nI fr) (nI l.length) (nI c) (nI i) s0 (nI i) 542 h = ke 490 a1 (nI fr) (nI l.length) (nI c) h' ∧ dI (fun a k => a = 542 ∧ k < 16) h h' ∧ ∀ j, j < 16 → h'.2.1 542 j = mm_b8 ((pd l).getD (c + j) 0) := by
      intro s0 es
      unfold jn_X12_take_47
      rw [T.l542, if_pos ⟨by decide, rr_in (by omega) (by omega)⟩, rr_n (by omega), mm_bh, es, nI_1]
      have F1 : dF (zo 542 i) h (mm_si h 542 i (mm_b8 ((pd l).getD (c + i) 0))) := dF.si
      have v1 : (mm_si h 542 i (mm_b8 ((pd l).getD (c + i) 0))).2.1 542 i = mm_b8 ((pd l).getD (c + i) 0) := mi_eq
      have y1 : (mm_si h 542 i (mm_b8 ((pd l).getD (c + i) 0))).2.2.1 = h.2.2.1 := rfl
      generalize mm_si h 542 i (mm_b8 ((pd l).getD (c + i) 0)) = h1 at F1 v1 y1
      obtain ⟨h', p1, p2, p3⟩ := ih (i + 1) n h1 (T.F F1) (by rw [F1.ln]; exact e1) (B.F F1 (fun k _ _ => by omega)) (fun j hj => by
        by_cases e : j = i
        · subst e; exact v1
        · rw [F1.2.2 542 j (by omega)]; exact J j (by omega)) (by omega) (by omega)
      exact ⟨h', p1, ⟨(F1.c p2.1).mo (fun a k z => by omega), p2.2.trans y1⟩, p3⟩
    rw [lp_X12_take_12, if_neg (by rw [show ((16 : Int32)) = nI 16 from rfl, nI_leI (by omega) (by omega)]; omega), mm_gr_s T.r54, nI_add]
    by_cases c1 : l.length ≤ c + i
    · rw [if_pos (by rw [nI_leI (by omega) (by omega)]; exact c1)]
      exact key 0 (by rw [pd_at c1])
    · rw [if_neg (by rw [nI_leI (by omega) (by omega)]; exact c1), nI_add, nI_add, e1, if_pos (rr_in (by omega) (by omega)), rr_n (by omega)]
      refine key _ ?_
      rw [show fr + c + i = fr + (c + i) by omega, B.at (by omega), b8_b8, pd_lo (by omega)]
theorem dm_take3 {a1 fr na : Nat} {l : List Int32} {q : Nat → Nat} (n1 : a1 ≠ 542) (hb : lby l) (hl : l.length ≤ 1000) (la : fr + l.length ≤ na) (la2 : na ≤ 90000) (hq : ∀ k, k < 5 → q k < 2 ^ 26) : ∀ (m i n : Nat) (a : Nat → Nat) (h : mm_H), dT L h → mm_ln h a1 = na → bs h a1 fr l → po_h h 539 q → po_h h 540 a → po_sm a → 16 * (i + m) = (pd l).length → m < n → ∃ h', lp_X12_take_3 n 490 a1 (nI fr) (nI l.length) (nI (16 * i)) h = some (none, h') ∧ dF (fun a _ => a = 542) h h' ∧ po_h h' 539 q ∧ po_h h' 540 (po_bl q (pd l) m (16 * i) a) := by
  have hpd := pd_ln l
  have hpp : rr_pad l.length < 16 := by unfold rr_pad; omega
  intro m
  induction m with
  | zero =>
    intro i n a h T e1 B h9 h0 hs hi hn
    obtain ⟨n, rfl⟩ : ∃ k, n = k + 1 := ⟨n - 1, by omega⟩
    rw [lp_X12_take_3, if_pos (by rw [nI_leI (by omega) (by omega)]; omega)]
    exact ⟨h, rfl, dF.rf, h9, h0⟩
  | succ m ih =>
    intro i n a h T e1 B h9 h0 hs hi hn
    obtain ⟨n, rfl⟩ : ∃ k, n = k + 1 := ⟨n - 1, by omega⟩
    rw [lp_X12_take_3, if_neg (by rw [nI_leI (by omega) (by omega)]; omega), show ((0 : Int32)) = nI 0 from rfl]
    obtain ⟨h1, p1, F1, J1⟩ := dm_take12 (L := L) (a1 := a1) (fr := fr) (na := na) (c := 16 * i) (l := l) (ke := fun b8 b9 v10 v11 v12 h7 => mm_gr h7 b8 54 (fun b13 => if 32 ≤ b13 ∧ mm_in (16 : Int32) (mm_ln h7 b13) = true then (mm_bh (mm_si h7 b13 (mm_n (16 : Int32)) (mm_b8 (1 : Int32))) (fun h16 => mm_qv (bd_X12_takeSixteen b8 h16) (fun h18 => lp_X12_take_3 n b8 b9 v10 v11 (v12 + 16) h18))) else none)) n1 hl (by omega) la la2 16 0 mm_fu h T e1 B (fun j hj => absurd hj (Nat.not_lt_zero _)) (by omega) (by unfold mm_fu; omega)
    rw [p1]
    have T1 := T.F F1.1
    have t : tr (mm_gr h1 490 54 (fun b13 => if 32 ≤ b13 ∧ mm_in (16 : Int32) (mm_ln h1 b13) = true then (mm_bh (mm_si h1 b13 (mm_n (16 : Int32)) (mm_b8 (1 : Int32))) (fun h16 => mm_qv (bd_X12_takeSixteen 490 h16) (fun h18 => lp_X12_take_3 n 490 a1 (nI fr) (nI l.length) (nI (16 * i) + 16) h18))) else none)) (fun v h' => v = none ∧ dF (fun a _ => a = 542) h h' ∧ po_h h' 539 q ∧ po_h h' 540 (po_bl q (pd l) (m + 1) (16 * i) a)) := by
      refine tr_gr T1.r54 ?_
      rw [T1.l542, if_pos ⟨by decide, by decide⟩, mm_bh, show mm_n (16 : Int32) = 16 from by decide]
      have F2 : dF (zo 542 16) h1 (mm_si h1 542 16 (mm_b8 1)) := dF.si
      have v2 : (mm_si h1 542 16 (mm_b8 1)).2.1 542 16 = mm_b8 1 := mi_eq
      have y2 : (mm_si h1 542 16 (mm_b8 1)).2.2.1 = h1.2.2.1 := rfl
      generalize mm_si h1 542 16 (mm_b8 1) = h2 at F2 v2 y2
      generalize hw : ((pd l).drop (16 * i)).take 16 ++ [(1 : Int32)] = w
      have lw : w.length = 17 := by rw [← hw]; simp; omega
      have w1 : ∀ j, j < 16 → w.getD j 0 = (pd l).getD (16 * i + j) 0 := fun j hj => by
        rw [← hw, rr_getL (by simp; omega), List.getD_eq_getElem?_getD, List.getElem?_take_of_lt hj, List.getElem?_drop, ← List.getD_eq_getElem?_getD]
      have w2 : w.getD 16 0 = nI 1 := by rw [← hw, rr_getD (by simp; omega)]; rfl
      have hwb : lby w := by rw [← hw]; exact (hb.pd.drop.take).app (lby.one (by decide))
      have Bw : bs h2 542 0 w := fun j hj => by
        rw [Nat.zero_add]
        by_cases c : j = 16
        · subst c; rw [w2]; exact v2
        · rw [F2.2.2 542 j (by omega), w1 j (by omega)]; exact J1 j (by omega)
      have hdd : ∀ k, k < 5 → dg (po_N w 0 17) k = po_d (pd l) (16 * i) k + (if k = 4 then po_M else 0) := fun k hk => by
        rw [poN_17 (Or.inr rfl) w2 hk, Nat.one_mul, pod_cg (l := w) (p := 0) (l' := pd l) (p' := 16 * i) (fun j hj => by rw [Nat.zero_add]; exact w1 j hj) k]
      have bd := po_sm_28 (l := pd l) (p := 16 * i) hs
      refine dr_tk (a := a) (d := fun k => po_d (pd l) (16 * i) k + (if k = 4 then po_M else 0)) (q := q) (T1.F F2) Bw hwb lw hdd (fun k hk => by rw [y2]; exact F1.po h0 k hk) (fun k hk => by rw [y2]; exact F1.po h9 k hk) (fun k hk => by rw [← Nat.add_assoc]; exact bd k hk) hq (fun h3 F3 J3 J4 => ?_)
      have e9 : (fun k => a k + (po_d (pd l) (16 * i) k + (if k = 4 then po_M else 0))) = (fun k => a k + po_d (pd l) (16 * i) k + (if k = 4 then po_M else 0)) := by funext k; rw [Nat.add_assoc]
      rw [e9] at J3
      have F4 : dF (fun a _ => a = 542) h h3 := ((F1.1.c F2).c (F3.F (S := fun a _ => a = 542))).mo (fun a k z => by omega)
      rw [show nI (16 * i) + 16 = nI (16 * (i + 1)) from by rw [show ((16 : Int32)) = nI 16 from rfl, nI_add]; congr 1]
      obtain ⟨h', q1, q2, q3, q4⟩ := ih (i + 1) n (po_se (po_mu (fun k => a k + po_d (pd l) (16 * i) k + (if k = 4 then po_M else 0)) q)) h3 (T.F F4) (by rw [F4.ln]; exact e1) (B.F F4 (fun k _ _ => by omega)) J4 J3 (po_se_sm (po_mu_lt bd hq)) (by omega) (by omega)
      rw [q1]
      exact tr_mk ⟨rfl, F4.t q2, q3, q4⟩
    obtain ⟨v, h', q1, q2, q3, q4, q5⟩ := t
    subst q2
    exact ⟨h', q1, q3, q4, q5⟩
theorem dr_take {a1 fr na : Nat} {x y : Int32} {l : List Int32} {q a : Nat → Nat} (T : dT L h) (n1 : a1 ≠ 542) (e1 : mm_ln h a1 = na) (B : bs h a1 fr l) (hb : lby l) (hl : l.length ≤ 1000) (la : fr + l.length ≤ na) (la2 : na ≤ 90000) (hq : ∀ k, k < 5 → q k < 2 ^ 26) (h9 : po_h h 539 q) (h0 : po_h h 540 a) (hs : po_sm a) (ex : x = nI fr) (ey : y = nI l.length) (K : ∀ h', dF (fun a _ => a = 542) h h' → po_h h' 539 q → po_h h' 540 (po_bl q (pd l) ((pd l).length / 16) 0 a) → tr (f h') Q) : tr (mm_qv (bd_X12_take 490 a1 x y h) f) Q := by
  have hpd := pd_ln l
  have hpp : (l.length + rr_pad l.length) % 16 = 0 := by unfold rr_pad; omega
  have hp2 : rr_pad l.length < 16 := by unfold rr_pad; omega
  obtain ⟨h', q1, q2, q3, q4⟩ := dm_take3 (L := L) n1 hb hl la la2 hq ((pd l).length / 16) 0 mm_fu a h T e1 B h9 h0 hs (by omega) (by unfold mm_fu; omega)
  unfold bd_X12_take
  rw [ex, ey, show ((0 : Int32)) = nI (16 * 0) from rfl, q1, mm_qv_s]
  exact K h' q2 q3 q4
/-! settle -/
theorem dm_se12 {ke : Nat → Int32 → Int64 → mm_H → mm_O} {x : Int32} : ∀ (m i n c : Nat) (a : Nat → Nat) (h : mm_H), dT L h → po_h h 540 a → (∀ k, k < 5 → a k < 2 ^ 61) → c < 2 ^ 61 → i + m = 5 → m < n → ∃ h', lp_X12_settle_12 ke n 490 x (nL c) (nI i) h = ke 490 x (nL (po_ch m i c a).2) h' ∧ dL h h' ∧ ∀ k, k < 5 → h'.2.2.1 540 k = nL ((po_ch m i c a).1 k) := by
  intro m
  induction m with
  | zero =>
    intro i n c a h T ha hb hc hi hn
    obtain ⟨n, rfl⟩ : ∃ k, n = k + 1 := ⟨n - 1, by omega⟩
    rw [lp_X12_settle_12, if_pos (by rw [show ((5 : Int32)) = nI 5 from rfl, nI_leI (by omega) (by omega)]; omega)]
    exact ⟨h, rfl, dL.rf, ha⟩
  | succ m ih =>
    intro i n c a h T ha hb hc hi hn
    obtain ⟨n, rfl⟩ : ∃ k, n = k + 1 := ⟨n - 1, by omega⟩
    have hbi := hb i (by omega)
    have iI : mm_in (nI i) 5 = true := rr_in (by omega) (by decide)
    rw [lp_X12_settle_12, if_neg (by rw [show ((5 : Int32)) = nI 5 from rfl, nI_leI (by omega) (by omega)]; omega), mm_gr_s T.r52, T.l540, if_pos iI, if_pos iI, rr_n (by omega), mm_bh, show mm_l h 540 i = nL (a i) from ha i (by omega), nL_add, sq_sl]
    rw [mm_gr_s (T.sq).r52, sq_ln, T.l540, if_pos iI, mm_bl, mm_gr_s (T.sq).r52, sq_ln, T.l540, if_pos iI, if_pos iI, mm_bh, sq_sl, sq_at, sq_sq, sq_l, updL_at, nL_m26 (by omega), show ((26 : Int32)) = nI 26 from rfl, nL_shr 26 (by omega) (by omega), nI_1, show (2 : Nat) ^ 26 = 67108864 from rfl]
    obtain ⟨h', p1, p2, p3⟩ := ih (i + 1) n ((a i + c) / 67108864) (updN a i ((a i + c) % 67108864)) (mm_sq h 540 (vp_updL (vp_updL (h.2.2.1 540) i (nL (a i + c))) i (nL ((a i + c) % 67108864)))) T.sq (fun k hk => by
      rw [sq_at]
      by_cases e : k = i
      · subst e; rw [updL_at, updN_at]
      · rw [updL_off e, updL_off e, updN_off e]; exact ha k hk) (fun k hk => by
      by_cases e : k = i
      · subst e; rw [updN_at]; omega
      · rw [updN_off e]; exact hb k hk) (by omega) (by omega) (by omega)
    exact ⟨h', p1, dL.sq.t p2, p3⟩
theorem po_f_lt {a : Nat → Nat} (hb : ∀ k, k < 5 → a k < 2 ^ 30) : ∀ k, k < 5 → po_f a k < 2 ^ 30 := by
  obtain ⟨x0, x1, x2, x3, x4, x5⟩ := po_ch_at a 0
  have h0 := hb 0 (by omega)
  have h1 := hb 1 (by omega)
  have h2 := hb 2 (by omega)
  have h3 := hb 3 (by omega)
  have h4 := hb 4 (by omega)
  intro k hk
  unfold po_f
  by_cases e : k = 0
  · subst e; rw [updN_at]; omega
  · rw [updN_off e]
    rcases (by omega : k = 1 ∨ k = 2 ∨ k = 3 ∨ k = 4) with rfl | rfl | rfl | rfl <;> omega
def po_ff : Nat → (Nat → Nat) → (Nat → Nat)
  | 0, a => a
  | m + 1, a => po_ff m (po_f a)
theorem dm_se2 {ke : Nat → mm_H → mm_O} : ∀ (m i n : Nat) (a : Nat → Nat) (h : mm_H), dT L h → po_h h 540 a → (∀ k, k < 5 → a k < 2 ^ 30) → i + m = 2 → m < n → ∃ h', lp_X12_settle_2 ke n 490 (nI i) h = ke 490 h' ∧ dL h h' ∧ po_h h' 540 (po_ff m a) := by
  intro m
  induction m with
  | zero =>
    intro i n a h T ha hb hi hn
    obtain ⟨n, rfl⟩ : ∃ k, n = k + 1 := ⟨n - 1, by omega⟩
    rw [lp_X12_settle_2, if_pos (by rw [show ((2 : Int32)) = nI 2 from rfl, nI_leI (by omega) (by omega)]; omega)]
    exact ⟨h, rfl, dL.rf, ha⟩
  | succ m ih =>
    intro i n a h T ha hb hi hn
    obtain ⟨n, rfl⟩ : ∃ k, n = k + 1 := ⟨n - 1, by omega⟩
    rw [lp_X12_settle_2, if_neg (by rw [show ((2 : Int32)) = nI 2 from rfl, nI_leI (by omega) (by omega)]; omega), show ((0 : Int64)) = nL 0 from rfl, show ((0 : Int32)) = nI 0 from rfl]
    obtain ⟨h1, p1, F1, J1⟩ := dm_se12 (L := L) (x := nI i) (ke := fun b18 v19 v20 h17 => mm_gr h17 b18 52 (fun b21 => if mm_in (nI 0) (mm_ln h17 b21) = true then (if mm_in (nI 0) (mm_ln h17 b21) = true then (mm_bh (mm_sl h17 b21 (mm_n (nI 0)) ((mm_l h17 b21 (mm_n (nI 0))) + ((5 : Int64) * v20))) (fun h25 => lp_X12_settle_2 ke n b18 (v19 + 1) h25)) else none) else none)) 5 0 mm_fu 0 a h T ha (fun k hk => by have := hb k hk; omega) (by omega) (by omega) (by unfold mm_fu; omega)
    rw [p1]
    have T1 := T.L F1
    rw [mm_gr_s T1.r52, T1.l540, if_pos (by decide), if_pos (by decide), mm_bh, show mm_n (nI 0) = 0 from by decide, show mm_l h1 540 0 = nL ((po_ch 5 0 0 a).1 0) from J1 0 (by omega), show ((5 : Int64)) = nL 5 from rfl, nL_mul, nL_add, sq_sl, nI_1]
    obtain ⟨h', q1, q2, q3⟩ := ih (i + 1) n (po_f a) (mm_sq h1 540 (vp_updL (h1.2.2.1 540) 0 (nL ((po_ch 5 0 0 a).1 0 + 5 * (po_ch 5 0 0 a).2)))) T1.sq (fun k hk => by
      rw [sq_at]
      unfold po_f
      by_cases e : k = 0
      · subst e; rw [updL_at, updN_at]
      · rw [updL_off e, updN_off e]; exact J1 k hk) (po_f_lt hb) (by omega) (by omega)
    exact ⟨h', q1, (F1.t dL.sq).t q2, q3⟩
theorem dm_se85 {ke : Nat → Int64 → mm_H → mm_O} : ∀ (m i n c : Nat) (a a' : Nat → Nat) (h : mm_H), dT L h → po_h h 540 a → (∀ k, k < 5 → a k < 2 ^ 61) → (∀ k, i ≤ k → a' k = a k) → (∀ k, k < i → h.2.2.1 541 k = nL (a' k)) → c < 2 ^ 61 → i + m = 5 → m < n → ∃ h', lp_X12_settle_85 ke n 490 (nL c) (nI i) h = ke 490 (nL (po_ch m i c a').2) h' ∧ dL h h' ∧ po_h h' 540 a ∧ ∀ k, k < 5 → h'.2.2.1 541 k = nL ((po_ch m i c a').1 k) := by
  intro m
  induction m with
  | zero =>
    intro i n c a a' h T ha hb hu hw hc hi hn
    obtain ⟨n, rfl⟩ : ∃ k, n = k + 1 := ⟨n - 1, by omega⟩
    rw [lp_X12_settle_85, if_pos (by rw [show ((5 : Int32)) = nI 5 from rfl, nI_leI (by omega) (by omega)]; omega)]
    exact ⟨h, rfl, dL.rf, ha, fun k hk => hw k (by omega)⟩
  | succ m ih =>
    intro i n c a a' h T ha hb hu hw hc hi hn
    obtain ⟨n, rfl⟩ : ∃ k, n = k + 1 := ⟨n - 1, by omega⟩
    have hbi := hb i (by omega)
    have iI : mm_in (nI i) 5 = true := rr_in (by omega) (by decide)
    rw [lp_X12_settle_85, if_neg (by rw [show ((5 : Int32)) = nI 5 from rfl, nI_leI (by omega) (by omega)]; omega), mm_gr_s T.r53, mm_gr_s T.r52, T.l540, if_pos iI, T.l541, if_pos iI, rr_n (by omega), mm_bh, show mm_l h 540 i = nL (a i) from ha i (by omega), nL_add, sq_sl]
    rw [mm_gr_s (T.sq).r53, sq_ln, T.l541, if_pos iI, mm_bl, mm_gr_s (T.sq).r53, sq_ln, T.l541, if_pos iI, if_pos iI, mm_bh, sq_sl, sq_at, sq_sq, sq_l, updL_at, nL_m26 (by omega), show ((26 : Int32)) = nI 26 from rfl, nL_shr 26 (by omega) (by omega), nI_1, show (2 : Nat) ^ 26 = 67108864 from rfl]
    obtain ⟨h', p1, p2, p3, p4⟩ := ih (i + 1) n ((a i + c) / 67108864) a (updN a' i ((a i + c) % 67108864)) (mm_sq h 541 (vp_updL (vp_updL (h.2.2.1 541) i (nL (a i + c))) i (nL ((a i + c) % 67108864)))) T.sq (fun k hk => by rw [sq_off (by decide)]; exact ha k hk) hb (fun k hk => by rw [updN_off (by omega)]; exact hu k (by omega)) (fun k hk => by
      rw [sq_at]
      by_cases e : k = i
      · subst e; rw [updL_at, updN_at]
      · rw [updL_off e, updL_off e, updN_off e]; exact hw k (by omega)) (by omega) (by omega) (by omega)
    rw [po_ch, hu i (by omega)]
    exact ⟨h', p1, dL.sq.t p2, p3, p4⟩
theorem dm_se140 (a : Nat → Nat) : ∀ (m i n : Nat) (h : mm_H), dT L h → po_h h 541 a → (∀ k, k < i → h.2.2.1 540 k = nL (a k)) → i + m = 5 → m < n → ∃ h', lp_X12_settle_140 n 490 (nI i) h = some (none, h') ∧ dL h h' ∧ po_h h' 540 a := by
  intro m
  induction m with
  | zero =>
    intro i n h T ha hw hi hn
    obtain ⟨n, rfl⟩ : ∃ k, n = k + 1 := ⟨n - 1, by omega⟩
    rw [lp_X12_settle_140, if_pos (by rw [show ((5 : Int32)) = nI 5 from rfl, nI_leI (by omega) (by omega)]; omega)]
    exact ⟨h, rfl, dL.rf, fun k hk => hw k (by omega)⟩
  | succ m ih =>
    intro i n h T ha hw hi hn
    obtain ⟨n, rfl⟩ : ∃ k, n = k + 1 := ⟨n - 1, by omega⟩
    have iI : mm_in (nI i) 5 = true := rr_in (by omega) (by decide)
    rw [lp_X12_settle_140, if_neg (by rw [show ((5 : Int32)) = nI 5 from rfl, nI_leI (by omega) (by omega)]; omega), mm_gr_s T.r52, mm_gr_s T.r53, T.l541, if_pos iI, T.l540, if_pos iI, rr_n (by omega), mm_bh, nI_1, sq_sl, show mm_l h 541 i = nL (a i) from ha i (by omega)]
    obtain ⟨h', p1, p2, p3⟩ := ih (i + 1) n (mm_sq h 540 (vp_updL (h.2.2.1 540) i (nL (a i)))) T.sq (fun k hk => by rw [sq_off (by decide)]; exact ha k hk) (fun k hk => by
      rw [sq_at]
      by_cases e : k = i
      · subst e; rw [updL_at]
      · rw [updL_off e]; exact hw k (by omega)) (by omega) (by omega)
    exact ⟨h', p1, dL.sq.t p2, p3⟩
theorem dr_settle {a : Nat → Nat} (T : dT L h) (ha : po_h h 540 a) (hs : po_sm a) (K : ∀ h', dL h h' → po_h h' 540 (po_re (po_se (po_se a))) → tr (f h') Q) : tr (mm_qv (bd_X12_settle 490 h) f) Q := by
  refine tr_v (p := fun h' => dL h h' ∧ po_h h' 540 (po_re (po_se (po_se a)))) ?_ (fun h' q => K h' q.1 q.2)
  have b30 : ∀ k, k < 5 → a k < 2 ^ 30 := by
    obtain ⟨b0, b1, b2, b3, b4⟩ := hs
    intro k hk
    rcases (by omega : k = 0 ∨ k = 1 ∨ k = 2 ∨ k = 3 ∨ k = 4) with rfl | rfl | rfl | rfl | rfl <;> omega
  have en := po_end hs
  have b31 := po_f_lt (po_f_lt b30)
  unfold bd_X12_settle
  rw [show ((5 : Int64)) = nL 5 from rfl, show ((0 : Int32)) = nI 0 from rfl]
  obtain ⟨h1, p1, F1, J1⟩ := dm_se2 (L := L) (ke := fun b28 h27 => lp_X12_settle_85 (fun b48 v49 h47 => if (lg_cmp v49 (0 : Int64)) ≤ nI 0 then (some (none, h47)) else (lp_X12_settle_140 mm_fu b48 (nI 0) h47)) mm_fu b28 (nL 5) (nI 0) h27) 2 0 mm_fu a h T ha b30 (by omega) (by unfold mm_fu; omega)
  rw [p1]
  have J1' : po_h h1 540 (po_se (po_se a)) := fun k hk => by rw [J1 k hk, (en k hk).1]; rfl
  have T1 := T.L F1
  have b32 : ∀ k, k < 5 → po_se (po_se a) k < 2 ^ 30 := fun k hk => by rw [(en k hk).1]; exact b31 k hk
  generalize po_se (po_se a) = A at J1' b32
  obtain ⟨h2, p2, F2, J2, J3⟩ := dm_se85 (L := L) (ke := fun b48 v49 h47 => if (lg_cmp v49 (0 : Int64)) ≤ nI 0 then (some (none, h47)) else (lp_X12_settle_140 mm_fu b48 (nI 0) h47)) 5 0 mm_fu 5 A A h1 T1 J1' (fun k hk => by have := b32 k hk; omega) (fun _ _ => rfl) (fun k hk => absurd hk (Nat.not_lt_zero _)) (by omega) (by omega) (by unfold mm_fu; omega)
  rw [p2]
  have hc : (po_ch 5 0 5 A).2 < 2 ^ 62 := by
    obtain ⟨x0, x1, x2, x3, x4, x5⟩ := po_ch_at A 5
    have h0 := b32 0 (by omega)
    have h1 := b32 1 (by omega)
    have h2 := b32 2 (by omega)
    have h3 := b32 3 (by omega)
    have h4 := b32 4 (by omega)
    omega
  unfold po_re
  by_cases c : (po_ch 5 0 5 A).2 = 0
  · refine tr_ip ((nL_cmp (by omega)).mpr c) (tr_mk ⟨rfl, F1.t F2, ?_⟩)
    rw [if_pos c]; exact J2
  · refine tr_in (fun z => c ((nL_cmp (by omega)).mp z)) ?_
    obtain ⟨h3, p3, F3, J4⟩ := dm_se140 (L := L) (po_ch 5 0 5 A).1 5 0 mm_fu h2 (T1.L F2) J3 (fun k hk => absurd hk (Nat.not_lt_zero _)) (by omega) (by unfold mm_fu; omega)
    rw [p3]
    refine tr_mk ⟨rfl, (F1.t F2).t F3, ?_⟩
    rw [if_neg c]; exact J4
end RSE
