/-! ===== the reference: what is wrong with a record's frame; opening it ===== -/
theorem b8_is {x c : Int32} (hx : x &&& 255 = x) (hc : mm_b8 c = c ∧ c &&& 255 = c) : mm_b8 x = c ↔ x = c := by
  constructor
  · intro e
    rw [← hc.1, b8_eq, hx, hc.2] at e; exact e
  · intro e; rw [e]; exact hc.1
theorem b8_qq {x y : Int32} (hx : x &&& 255 = x) (hy : y &&& 255 = y) : mm_b8 x = mm_b8 y ↔ x = y := by
  rw [b8_eq, hx, hy]
def oF (s : sT) (b : Nat) (l : List Int32) : Int32 :=
  if rd_f l = 0 then (if l.getD 0 0 = 20 then (if l.length = 6 ∧ l.getD 5 0 = 1 ∧ s.2.1 b 5 ≠ 4 ∧ s.2.1 b 5 ≠ 6 then 0 else 10) else if l.getD 0 0 = 23 ↔ s.2.1 (b + 76) 4 = 1 then 0 else 10) else rd_f l
/-- an END that reads is in one of these -/
def sS (x : Int32) : Prop := x = 1 ∨ x = 2 ∨ x = 3 ∨ x = 4 ∨ x = 5 ∨ x = 6
section ROU
variable {L : Nat} {h : mm_H} {s : sT} {e b : Nat} {f : mm_H → mm_O} {g : Int32 → mm_H → mm_O} {Q : Option Value → mm_H → Prop}
theorem dr_isIn {x lo hi : Int32} : mm_qi (bd_X12_isIn x lo hi h) g = g (if x < lo then 0 else if hi < x then 0 else 1) h := by
  unfold bd_X12_isIn
  by_cases c1 : x < lo
  · rw [if_pos c1, if_pos c1, mm_qi_s]
  · rw [if_neg c1, if_neg c1]
    by_cases c2 : hi < x
    · rw [if_pos c2, if_pos c2, mm_qi_s]
    · rw [if_neg c2, if_neg c2, mm_qi_s]
theorem in_at {l : List Int32} {i : Nat} {x : Int32} (B : bs h 547 0 l) (hb : lby l) (hi : i < l.length) (ex : mm_n x = i) : mm_i h 547 (mm_n x) = mm_b8 (l.getD i 0) ∧ l.getD i 0 &&& 255 = l.getD i 0 := by
  rw [ex]
  have := B i hi
  rw [Nat.zero_add] at this
  exact ⟨this, hb _ (rr_mem hi)⟩
theorem dr_outer {l : List Int32} (T : dT L h) (he : e < 4) (A : rA h s e b) (B : bs h 547 0 l) (hb : lby l) (hl : l.length ≤ 600) (st : sS (s.2.1 b 5)) (h01 : s.2.1 (b + 76) 4 = 0 ∨ s.2.1 (b + 76) 4 = 1) (K : tr (g (oF s b l) h) Q) : tr (mm_qi (bd_X12_outerFault 490 (nI e) (nI l.length) h) g) Q := by
  have c1 := A.2.1
  have c19 : mm_i h 516 e = s.2.1 (b + 76) 4 := A.2.2.2.2.2.2.2.2.2.2.2.2.2.2.2.2.2.2.2.1
  refine tr_qi (R := fun v h' => v = some (.int (oF s b l)) ∧ h' = h) ?_ (fun v h' q => ⟨_, q.1, by rw [q.2]; exact K⟩)
  unfold bd_X12_outerFault oF rd_f
  by_cases k5 : 5 ≤ l.length
  · rw [if_pos (by rw [show ((5 : Int32)) = nI 5 from rfl, nI_leI (by omega) (by omega)]; exact k5), if_pos k5]
    obtain ⟨i0, y0⟩ := in_at (x := 0) B hb (show 0 < l.length from (by omega)) (by decide)
    obtain ⟨i1, y1⟩ := in_at (x := 1) B hb (show 1 < l.length from (by omega)) (by decide)
    obtain ⟨i2, y2⟩ := in_at (x := 2) B hb (show 2 < l.length from (by omega)) (by decide)
    obtain ⟨i3, y3⟩ := in_at (x := 3) B hb (show 3 < l.length from (by omega)) (by decide)
    obtain ⟨i4, y4⟩ := in_at (x := 4) B hb (show 4 < l.length from (by omega)) (by decide)
    refine tr_gr T.r60 (tr_ip (dq_in T.l547 (k := 0) rfl (by decide) (by decide)) ?_)
    rw [mm_bi, i0, b8_by y0]
    refine tr_gr T.r60 (tr_ip (dq_in T.l547 (k := 3) rfl (by decide) (by decide)) ?_)
    refine tr_gr T.r60 (tr_ip (dq_in T.l547 (k := 4) rfl (by decide) (by decide)) ?_)
    rw [mm_bi, i3, i4, b8_by y3, b8_by y4]
    have er : mm_shl (l.getD 3 0) 8 ||| l.getD 4 0 = rd_2 l 3 := by unfold rd_2; rw [if_pos (by omega)]
    obtain ⟨m, hm, em⟩ : ∃ m, m < 65536 ∧ rd_2 l 3 = nI m := by
      rw [← er]; exact rd_b2 y3 y4
    rw [er, em]
    have main : ∀ lim : Int32, tr (jn_X12_outerFault_62 490 (nI e) (nI l.length) (l.getD 0 0) (nI m) lim (nI m) h) (fun v h' => v = some (.int (if (if nI m ≤ lim then (if nI l.length = 5 + nI m then (if l.getD 1 0 = 3 then (if l.getD 2 0 = 3 then (0 : Int32) else 70) else 70) else 50) else 22) = 0 then (if l.getD 0 0 = 20 then (if l.length = 6 ∧ l.getD 5 0 = 1 ∧ s.2.1 b 5 ≠ 4 ∧ s.2.1 b 5 ≠ 6 then 0 else 10) else if l.getD 0 0 = 23 ↔ s.2.1 (b + 76) 4 = 1 then 0 else 10) else (if nI m ≤ lim then (if nI l.length = 5 + nI m then (if l.getD 1 0 = 3 then (if l.getD 2 0 = 3 then 0 else 70) else 70) else 50) else 22))) ∧ h' = h) := by
      intro lim
      unfold jn_X12_outerFault_62
      by_cases c2 : nI m ≤ lim
      · rw [if_pos c2, if_pos c2]
        rw [show nI l.length - 5 = nI (l.length - 5) from by rw [show ((5 : Int32)) = nI 5 from rfl, nI_sb k5], show (5 : Int32) + nI m = nI (5 + m) from nI_add 5 m]
        by_cases c3 : l.length = 5 + m
        · rw [if_pos (show nI m = nI (l.length - 5) from by rw [c3, Nat.add_sub_cancel_left]), if_pos (show nI l.length = nI (5 + m) from by rw [c3])]
          refine tr_gr T.r60 (tr_ip (dq_in T.l547 (k := 1) rfl (by decide) (by decide)) ?_)
          rw [i1]
          by_cases c4 : l.getD 1 0 = 3
          · rw [if_pos ((b8_is y1 (by decide)).mpr c4), if_pos c4]
            refine tr_gr T.r60 (tr_ip (dq_in T.l547 (k := 2) rfl (by decide) (by decide)) ?_)
            rw [i2]
            by_cases c5 : l.getD 2 0 = 3
            · rw [if_pos ((b8_is y2 (by decide)).mpr c5), if_pos c5, if_pos rfl]
              by_cases c6 : l.getD 0 0 = 20
              · rw [if_pos c6, if_pos c6]
                by_cases c7 : m = 1
                · rw [if_pos (by rw [c7]; rfl)]
                  obtain ⟨i5, y5⟩ := in_at (x := 5) B hb (show 5 < l.length from (by omega)) (by decide)
                  refine tr_gr T.r60 (tr_ip (dq_in T.l547 (k := 5) rfl (by decide) (by decide)) ?_)
                  rw [i5]
                  by_cases c8 : l.getD 5 0 = 1
                  · rw [if_pos ((b8_is y5 (by decide)).mpr c8)]
                    refine tr_gr T.r4 (tr_ip (dq_in T.l493 rfl he (by decide)) ?_)
                    rw [rr_n (n := e) (by omega), c1, dr_isIn]
                    unfold jn_X12_outerFault_148
                    rcases st with q | q | q | q | q | q
                    · rw [q, if_neg (by decide), if_pos ⟨(by omega), c8, by decide, by decide⟩]; exact tr_mk ⟨rfl, rfl⟩
                    · rw [q, if_neg (by decide), if_pos ⟨(by omega), c8, by decide, by decide⟩]; exact tr_mk ⟨rfl, rfl⟩
                    · rw [q, if_neg (by decide), if_pos ⟨(by omega), c8, by decide, by decide⟩]; exact tr_mk ⟨rfl, rfl⟩
                    · rw [q, if_pos (by decide), if_neg (fun z => z.2.2.1 rfl)]
                      refine tr_gr T.r4 (tr_ip (dq_in T.l493 rfl he (by decide)) ?_)
                      rw [c1, q, if_neg (by decide)]; exact tr_mk ⟨rfl, rfl⟩
                    · rw [q, if_pos (by decide), if_pos ⟨(by omega), c8, by decide, by decide⟩]
                      refine tr_gr T.r4 (tr_ip (dq_in T.l493 rfl he (by decide)) ?_)
                      rw [c1, q, if_pos (by decide)]; exact tr_mk ⟨rfl, rfl⟩
                    · rw [q, if_pos (by decide), if_neg (fun z => z.2.2.2 rfl)]
                      refine tr_gr T.r4 (tr_ip (dq_in T.l493 rfl he (by decide)) ?_)
                      rw [c1, q, if_neg (by decide)]; exact tr_mk ⟨rfl, rfl⟩
                  · rw [if_neg (fun z => c8 ((b8_is y5 (by decide)).mp z)), if_neg (fun z => c8 z.2.1)]
                    exact tr_mk ⟨rfl, rfl⟩
                · rw [if_neg (by rw [show ((1 : Int32)) = nI 1 from rfl, nI_eq (by omega) (by omega)]; exact c7), if_neg (fun z => by omega)]
                  exact tr_mk ⟨rfl, rfl⟩
              · rw [if_neg c6, if_neg c6]
                refine tr_gr T.r27 (tr_ip (dq_in T.l516 rfl he (by decide)) ?_)
                rw [rr_n (n := e) (by omega), c19]
                unfold jn_X12_outerFault_172
                by_cases c7 : l.getD 0 0 = 23
                · rw [if_pos c7]
                  by_cases c8 : s.2.1 (b + 76) 4 = 1
                  · rw [if_pos c8, if_pos ⟨fun _ => c8, fun _ => c7⟩]; exact tr_mk ⟨rfl, rfl⟩
                  · rw [if_neg c8, if_neg (fun z => c8 (z.mp c7))]; exact tr_mk ⟨rfl, rfl⟩
                · rw [if_neg c7]
                  by_cases c8 : s.2.1 (b + 76) 4 = 1
                  · rw [if_neg (by rw [c8]; decide), if_neg (fun z => c7 (z.mpr c8))]; exact tr_mk ⟨rfl, rfl⟩
                  · rw [if_pos (h01.resolve_right c8), if_pos ⟨fun z => absurd z c7, fun z => absurd z c8⟩]; exact tr_mk ⟨rfl, rfl⟩
            · rw [if_neg (fun z => c5 ((b8_is y2 (by decide)).mp z)), if_neg c5, if_neg (by decide)]
              exact tr_mk ⟨rfl, rfl⟩
          · rw [if_neg (fun z => c4 ((b8_is y1 (by decide)).mp z)), if_neg c4, if_neg (by decide)]
            exact tr_mk ⟨rfl, rfl⟩
        · rw [if_neg (show ¬ nI m = nI (l.length - 5) from by rw [nI_eq (by omega) (by omega)]; omega), if_neg (show ¬ nI l.length = nI (5 + m) from by rw [nI_eq (by omega) (by omega)]; exact c3), if_neg (by decide)]
          exact tr_mk ⟨rfl, rfl⟩
      · rw [if_neg c2, if_neg c2, if_neg (by decide)]
        exact tr_mk ⟨rfl, rfl⟩
    by_cases c0 : l.getD 0 0 = 23
    · rw [if_pos c0, if_pos c0]; exact main 16640
    · rw [if_neg c0, if_neg c0]; exact main 16384
  · rw [if_neg (by rw [show ((5 : Int32)) = nI 5 from rfl, nI_leI (by omega) (by omega)]; exact k5), if_neg k5, if_neg (by decide)]
    exact tr_mk ⟨rfl, rfl⟩
/-! opening -/
theorem dm_op39 {ke : Nat → Int32 → Int32 → mm_H → mm_O} {n0 : Nat} {tg l : List Int32} (ht : lby tg) (lt : tg.length = 16) (hb : lby l) (hl : l.length ≤ 600) (h16 : 17 ≤ n0) (hn : l.length = 5 + n0) : ∀ (m i n : Nat), dT L h → bs h 543 0 tg → bs h 547 0 l → (∀ j, j < i → tg.getD j 0 = l.getD (n0 - 11 + j) 0) → i + m = 16 → m < n → (lp_X12_isOpened_39 ke n 490 (nI e) (nI n0) (nI i) h = ke 490 (nI e) (nI n0) h ∧ ∀ j, j < 16 → tg.getD j 0 = l.getD (n0 - 11 + j) 0) ∨ (lp_X12_isOpened_39 ke n 490 (nI e) (nI n0) (nI i) h = some (some (.int 0), h) ∧ ∃ j, j < 16 ∧ tg.getD j 0 ≠ l.getD (n0 - 11 + j) 0) := by
  intro m
  induction m with
  | zero =>
    intro i n T B1 B2 J hi hn
    obtain ⟨n, rfl⟩ : ∃ k, n = k + 1 := ⟨n - 1, by omega⟩
    rw [lp_X12_isOpened_39, if_pos (by rw [show ((16 : Int32)) = nI 16 from rfl, nI_leI (by omega) (by omega)]; omega)]
    exact Or.inl ⟨rfl, fun j hj => J j (by omega)⟩
  | succ m ih =>
    intro i n T B1 B2 J hi hn
    obtain ⟨n, rfl⟩ : ∃ k, n = k + 1 := ⟨n - 1, by omega⟩
    have v1 : mm_i h 543 i = mm_b8 (tg.getD i 0) := by have := B1 i (by omega); rw [Nat.zero_add] at this; exact this
    have v2 : mm_i h 547 (n0 - 11 + i) = mm_b8 (l.getD (n0 - 11 + i) 0) := by have := B2 (n0 - 11 + i) (by omega); rw [Nat.zero_add] at this; exact this
    rw [lp_X12_isOpened_39, if_neg (by rw [show ((16 : Int32)) = nI 16 from rfl, nI_leI (by omega) (by omega)]; omega), mm_gr_s T.r55, T.l543, if_pos (rr_in (by omega) (by omega)), mm_gr_s T.r60, show ((5 : Int32) + nI n0) - 16 + nI i = nI (n0 - 11 + i) from by rw [show (5 : Int32) + nI n0 = nI (5 + n0) from nI_add 5 n0, show ((16 : Int32)) = nI 16 from rfl, nI_sb (by omega), nI_add]; congr 1; omega, T.l547, if_pos (rr_in (by omega) (by omega)), rr_n (by omega), rr_n (by omega), v1, v2, nI_1]
    by_cases c : tg.getD i 0 = l.getD (n0 - 11 + i) 0
    · rw [if_pos (by rw [c])]
      exact ih (i + 1) n T B1 B2 (fun j hj => by
        by_cases q : j = i
        · subst q; exact c
        · exact J j (by omega)) (by omega) (by omega)
    · rw [if_neg (fun z => c ((b8_qq (ht _ (rr_mem (by omega))) (hb _ (rr_mem (by omega)))).mp z))]
      exact Or.inr ⟨rfl, i, by omega, c⟩
theorem ls_ext {l m : List Int32} (hl : l.length = m.length) (h : ∀ j, j < l.length → l.getD j 0 = m.getD j 0) : l = m := by
  apply List.ext_getElem hl
  intro i h1 h2
  have := h i h1
  rw [List.getD_eq_getElem?_getD, List.getD_eq_getElem?_getD, List.getElem?_eq_getElem h1, List.getElem?_eq_getElem h2] at this
  exact this
theorem dr_at {l : List Int32} {n j : Nat} : (l.drop n).getD j 0 = l.getD (n + j) 0 := by
  rw [List.getD_eq_getElem?_getD, List.getElem?_drop, ← List.getD_eq_getElem?_getD]
abbrev zq (e a k : Nat) : Prop := (520 ≤ a ∧ a ≤ 526) ∨ (534 ≤ a ∧ a ≤ 544) ∨ (a = 490 ∧ k = 37) ∨ (a = 518 ∧ k = e) ∨ a = 547
theorem dr_open {l : List Int32} (Bb : rB L h) (he : e < 4) (A : rA h s e b) (Bi : bs h 547 0 l) (hb : lby l) (hl : l.length ≤ 600) (h5 : 5 ≤ l.length) (hr : s.2.1 (b + 76) 4 ≠ 0) (ky : kI s (b + 76)) (K0 : ∀ h', ¬ (21 < l.length ∧ l.drop (l.length - 16) = sl_t (rd_F s b) l (l.length - 16)) → rB L h' → rA h' s e b → dF (zq e) h h' → tr (g 0 h') Q) (K1 : ∀ h', (21 < l.length ∧ l.drop (l.length - 16) = sl_t (rd_F s b) l (l.length - 16)) → rB L h' → rA h' (mI s (b + 76) 3 (s.2.1 (b + 76) 3 + 1)) e b → bs h' 547 5 (rd_o s b l) → dF (zq e) h h' → tr (g 1 h') Q) : tr (mm_qi (bd_X12_isOpened 490 (nI e) (nI (l.length - 5)) h) g) Q := by
  have A' := A
  obtain ⟨c0, c1, c2, c3, c4, c5, c6, c7, c8, c9, c10, c11, c12, c13, c14, c15, c16, c17, c18, c19, c20, c21⟩ := A'
  obtain ⟨k21, l21⟩ := c21 hr
  refine tr_qi (R := fun v h' => (v = some (.int 0) ∧ ¬ (21 < l.length ∧ l.drop (l.length - 16) = sl_t (rd_F s b) l (l.length - 16)) ∧ rB L h' ∧ rA h' s e b ∧ dF (zq e) h h') ∨ (v = some (.int 1) ∧ (21 < l.length ∧ l.drop (l.length - 16) = sl_t (rd_F s b) l (l.length - 16)) ∧ rB L h' ∧ rA h' (mI s (b + 76) 3 (s.2.1 (b + 76) 3 + 1)) e b ∧ bs h' 547 5 (rd_o s b l) ∧ dF (zq e) h h')) ?_ (fun v h' q => by
    rcases q with ⟨e1, q1, q2, q3, q4⟩ | ⟨e1, q1, q2, q3, q4, q5⟩
    · exact ⟨0, e1, K0 h' q1 q2 q3 q4⟩
    · exact ⟨1, e1, K1 h' q1 q2 q3 q4 q5⟩)
  unfold bd_X12_isOpened
  by_cases c : 21 < l.length
  · obtain ⟨n0, hn0⟩ : ∃ n0, l.length = 5 + n0 := ⟨l.length - 5, by omega⟩
    rw [show l.length - 5 = n0 by omega, if_pos (by rw [show ((17 : Int32)) = nI 17 from rfl, nI_leI (by omega) (by omega)]; omega)]
    refine tr_gr Bb.1.r23 (tr_gr Bb.1.r29 (tr_ip (dq_in Bb.1.l518 rfl he (by decide)) ?_))
    rw [rr_n (n := e) (by omega), c20]
    refine dr_keys Bb he k21 l21 (Or.inr rfl) (fun h1 W1 F1 => ?_)
    obtain ⟨y1, y2⟩ := ky hr
    rw [← y1, ← y2] at W1
    have W1' : kk h1 (rd_F s b) := W1
    have F12 : rd_F s b 12 = 0 := chi_12 _ _ _
    have B1 : rB L h1 := Bb.F F1 (fun a k z => by omega)
    refine tr_gr B1.1.r60 ?_
    rw [show nI n0 - 16 = nI (n0 - 16) from by rw [show ((16 : Int32)) = nI 16 from rfl, nI_sb (by omega)]]
    generalize hhd : l.take 5 = hd
    generalize hbd : (l.take (l.length - 16)).drop 5 = body
    have lh : hd.length = 5 := by rw [← hhd, List.length_take]; omega
    have lb : body.length = n0 - 16 := by rw [← hbd, List.length_drop, List.length_take]; omega
    have hlb : l = hd ++ (body ++ l.drop (l.length - 16)) := by
      rw [← hhd, ← hbd]
      conv => lhs; rw [← List.take_append_drop (l.length - 16) l]
      rw [← List.append_assoc]
      congr 1
      conv => lhs; rw [← List.take_append_drop 5 (l.take (l.length - 16))]
      rw [List.take_take, Nat.min_eq_left (by omega)]
    have i1 := Bi.F F1 (fun k _ _ => (by omega))
    have bh1 : bs h1 547 0 hd := by rw [← hhd]; exact i1.take
    have bb1 : bs h1 547 5 body := by
      rw [← hbd]
      have := (i1.take (n := l.length - 16)).drop (n := 5)
      rw [Nat.zero_add] at this; exact this
    have yh : lby hd := by rw [← hhd]; exact lby.take hb
    have yb : lby body := by rw [← hbd]; exact (lby.take hb).drop
    refine dr_seal (be := 0) (fr := 5) B1.1 W1' F12 (by decide) B1.1.l547 (by decide) bh1 yh lh bb1 yb (by omega) (by decide) (by omega) rfl rfl (by rw [lb]) (fun h2 b2 F2 => ?_)
    have et : sl_t (rd_F s b) l (l.length - 16) = po_tag (ch_o (rd_F s b)) (pd hd ++ pd body ++ po_Ln body.length) := by
      unfold sl_t
      rw [← pot_eq (hd := hd) (body := body) (rest := l.drop (l.length - 16)) (n := l.length - 16) lh (by omega), ← hlb]
    rw [← et] at b2
    have lt : (sl_t (rd_F s b) l (l.length - 16)).length = 16 := sl_t_ln _ _ _
    have yt : lby (sl_t (rd_F s b) l (l.length - 16)) := tag_by _ _
    have B2 : rB L h2 := B1.F F2 (fun a k z => by omega)
    have i2 := i1.F F2 (fun k _ _ => (by omega))
    have V2 := F1.c F2
    have A2 : rA h2 s e b := A.S V2 (fun a k z => by omega)
    have V2q : dF (zq e) h h2 := V2.mo (fun a k z => by
      rcases z with z | z
      · rcases z with z | z | z
        · exact Or.inl z
        · exact Or.inr (Or.inr (Or.inl z))
        · exact Or.inr (Or.inl (by omega))
      · exact Or.inr (Or.inl (by omega)))
    generalize sl_t (rd_F s b) l (l.length - 16) = tg at lt yt b2
    rw [show ((0 : Int32)) = nI 0 from rfl]
    have dq : ∀ j, j < 16 → (l.drop (l.length - 16)).getD j 0 = l.getD (n0 - 11 + j) 0 := fun j hj => by rw [dr_at, show l.length - 16 + j = n0 - 11 + j by omega]
    have ld : (l.drop (l.length - 16)).length = 16 := by rw [List.length_drop]; omega
    have t := dm_op39 (L := L) (h := h2) (e := e) (ke := fun b21 v22 v23 h20 => mm_gr h20 b21 29 (fun b24 => if mm_in v22 (mm_ln h20 b24) = true then (if 32 ≤ b24 ∧ mm_in v22 (mm_ln h20 b24) = true then (mm_bh (mm_si h20 b24 (mm_n v22) ((mm_i h20 b24 (mm_n v22)) + (1 : Int32))) (fun h28 => mm_gr h28 b21 60 (fun b30 => mm_qv (bd_X12_cover b21 b30 5 (v23 - (16 : Int32)) h28) (fun h32 => some (some (.int 1), h32))))) else none) else none)) yt lt hb hl (show 17 ≤ n0 from (by omega)) hn0 16 0 mm_fu B2.1 b2 i2 (fun j hj => absurd hj (Nat.not_lt_zero _)) (by omega) (by unfold mm_fu; omega)
    rcases t with ⟨p, q⟩ | ⟨p, j, hj, q⟩
    · rw [p]
      have ok : l.drop (l.length - 16) = tg := ls_ext (by rw [ld, lt]) (fun j hj => by rw [ld] at hj; rw [dq j hj]; exact (q j hj).symm)
      refine tr_gr B2.1.r29 (tr_ip (dq_in B2.1.l518 rfl he (by decide)) ?_)
      have i518 : mm_i h2 518 e = s.2.1 (b + 76) 3 := by rw [V2.i (by omega)]; exact c20
      rw [rr_n (n := e) (by omega), i518]
      refine dq_sk (by decide) B2.1.l518 rfl he (by decide) (fun h3 F3 v3 => ?_)
      have B3 : rB L h3 := B2.F F3 (fun a k z => by omega)
      have A3 := A2.i518 F3 v3
      refine tr_gr B3.1.r60 ?_
      rw [show nI n0 - 16 = nI (n0 - 16) from by rw [show ((16 : Int32)) = nI 16 from rfl, nI_sb (by omega)]]
      refine dr_cover (fr := 5) (l := body) 640 B3.1 ((W1'.F F2 (fun a k z => by omega)).F F3 (fun a k z => by omega)) (by decide) B3.1.l547 ((bb1.F F2 (fun k _ _ => (by omega))).F F3 (fun k _ _ => (by omega))) (by omega) (by omega) (by decide) rfl (by rw [lb]) (fun h4 b4 F4 => ?_)
      refine tr_mk (Or.inr ⟨rfl, ⟨c, ok⟩, B3.F F4 (fun a k z => by omega), A3.S F4 (fun a k z => by omega), ?_, ((V2q.c F3).c F4).mo (fun a k z => by
        rcases z with (z | z) | z
        · exact z
        · exact Or.inr (Or.inr (Or.inr (Or.inl z)))
        · rcases z with z | z
          · exact Or.inr (Or.inl (by omega))
          · exact Or.inr (Or.inr (Or.inr (Or.inr (by omega)))))⟩)
      unfold rd_o
      rw [hbd]; exact b4
    · rw [p]
      refine tr_mk (Or.inl ⟨rfl, fun z => q ?_, B2, A2, V2q⟩)
      rw [← dq j hj, z.2]
  · rw [if_neg (by rw [show ((17 : Int32)) = nI 17 from rfl, nI_leI (by omega) (by omega)]; omega)]
    exact tr_mk (Or.inl ⟨rfl, fun z => c z.1, Bb, A, dF.rf⟩)
end ROU
