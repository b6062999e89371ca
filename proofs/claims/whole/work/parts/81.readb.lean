/-! ===== END.read: what a message says ===== -/
theorem bt_hi {x : Int32} (hx : x &&& 255 = x) {j : Nat} (hj : 8 ≤ j) : bt x j = false := by
  have e := congrArg (fun z => bt z j) hx
  simp only [b_and, b_255] at e
  rw [decide_eq_false (by omega), Bool.and_false] at e
  exact e.symm
theorem rd_b2 {x y : Int32} (hx : x &&& 255 = x) (hy : y &&& 255 = y) : ∃ m, m < 65536 ∧ mm_shl x 8 ||| y = nI m := by
  have e : (mm_shl x 8 ||| y) &&& 65535 = mm_shl x 8 ||| y := by
    refine b_ext (fun i hi => ?_)
    unfold mm_shl
    rw [b_and, b_65535, b_or, b_shl8 x hi]
    by_cases c : i < 16
    · rw [decide_eq_true c, Bool.and_true]
    · rw [bt_hi hx (by omega), bt_hi hy (by omega)]; simp
  obtain ⟨j, hj, ej⟩ := pk_andE (mm_shl x 8 ||| y) (m := 65535) 16 (by decide)
  exact ⟨j, hj, by rw [← e, ej]⟩
theorem rd_gb {l : List Int32} (hl : ∀ x ∈ l, x &&& 255 = x) (k : Nat) : l.getD k 0 &&& 255 = l.getD k 0 := by
  by_cases c : k < l.length
  · exact hl _ (rr_mem c)
  · rw [List.getD_eq_getElem?_getD, List.getElem?_eq_none (by omega)]; decide
theorem rd_2c {l : List Int32} (hl : ∀ x ∈ l, x &&& 255 = x) (k : Nat) : rd_2 l k = -1 ∨ ∃ m, m < 65536 ∧ rd_2 l k = nI m := by
  unfold rd_2
  by_cases c : k + 1 < l.length
  · rw [if_pos c]; exact Or.inr (rd_b2 (rd_gb hl k) (rd_gb hl (k + 1)))
  · rw [if_neg c]; exact Or.inl rfl
def rd_nm (c : List Int32) : List Int32 := (c.take (c.length - 39)).drop 68
def rd_rn (c : List Int32) : List Int32 := (c.take 38).drop 6
theorem rd_nm_ln {c : List Int32} : (rd_nm c).length = c.length - 107 := by unfold rd_nm; rw [List.length_drop, List.length_take]; omega
theorem rd_rn_ln {c : List Int32} (h : 38 ≤ c.length) : (rd_rn c).length = 32 := by unfold rd_rn; rw [List.length_drop, List.length_take]; omega
theorem rd_rn_le {c : List Int32} : (rd_rn c).length ≤ 32 := by unfold rd_rn; rw [List.length_drop, List.length_take]; omega
def rd_cn (c : List Int32) : Prop := 108 ≤ c.length ∧ c.length ≤ 123 ∧ rd_2 c 66 = nI (c.length - 107)
/-- what is wrong with a CLIENTHELLO, beside its BINDER -/
def rd_ch (c name : List Int32) : Int32 := if 108 ≤ c.length ∧ c.length ≤ 123 ∧ rd_2 c 66 = nI (c.length - 107) then (if c.take (c.length - 32) = ms_ch (rd_rn c) (rd_nm c) ++ sk_tb 6 then (if name = rd_nm c then 0 else 115) else 47) else 47
def rd_w (c : List Int32) : Prop := 4 ≤ c.length ∧ c.getD 1 0 = 0 ∧ rd_2 c 2 = nI c.length - 4
def rd_wait (st : Int32) : Int32 := if st = 1 then 2 else if st = 2 then 8 else if st = 3 then 20 else if st = 4 then 1 else if st = 5 then 20 else if st = 6 then 24 else 20
def rd_u (c : List Int32) : Int32 := if c.length = 5 then (if c.getD 4 0 ≤ 1 then 0 else 47) else 50
def rd_m (s : sT) (b : Nat) (c : List Int32) : Int32 :=
  if c.getD 0 0 = 1 then rd_ch c (s.1 (b + 96))
  else if c.getD 0 0 = 2 then (if c = ms_sh (rd_rn c) then 0 else 47)
  else if c.getD 0 0 = 8 then (if c = ms_ex then 0 else 47)
  else if c.getD 0 0 = 20 then (if c.length = 36 then 0 else 50)
  else rd_u c
def rd_p (s : sT) (b : Nat) (k : Int32) (c : List Int32) : Bool :=
  if k = 1 then decide (c.drop (c.length - 32) = ks_p (s.1 (b + 84)) (c.take (c.length - 35)))
  else if k = 20 then decide (c.drop (c.length - 32) = ks_p (s.1 (b + 77)) (s.1 (b + 100)))
  else true
section RDB
variable {L : Nat} {h h' : mm_H} {M : Nat → List Int32} {I : Nat → Nat → Int32} {s : sT} {Z : Nat → List (List Int32)}
variable {r o b : Nat} {f : mm_H → mm_O} {g : Int32 → mm_H → mm_O} {Q : Option Value → mm_H → Prop}
theorem ce_findName (E : cE L h M I Z) (K0 : ∀ h' l, ¬ rd_cn (M 67) → cE L h' (va_up M 79 l) I Z → tr (g 0 h') Q) (K1 : ∀ h', rd_cn (M 67) → cE L h' (va_up M 79 (rd_nm (M 67))) I Z → tr (g 1 h') Q) : tr (mm_qi (bd_X3_findName 67 79 h) g) Q := by
  have n67 : sk_nr 67 = true := (by decide +kernel)
  have le : (M 67).length ≤ 600 := E.le n67 (by decide +kernel)
  refine tr_qi (R := fun v h' => (v = some (.int 0) ∧ ¬ rd_cn (M 67) ∧ ∃ l, cE L h' (va_up M 79 l) I Z) ∨ (v = some (.int 1) ∧ rd_cn (M 67) ∧ cE L h' (va_up M 79 (rd_nm (M 67))) I Z)) ?_ (fun v h' q => by
    rcases q with ⟨e, q1, l, q2⟩ | ⟨e, q1, q2⟩
    · exact ⟨0, e, K0 h' l q1 q2⟩
    · exact ⟨1, e, K1 h' q1 q2⟩)
  unfold bd_X3_findName
  refine ce_twoAt E n67 66 rfl (by decide) ?_
  rw [show (if 66 + 1 < (M 67).length then mm_shl ((M 67).getD 66 0) 8 ||| (M 67).getD (66 + 1) 0 else -1) = rd_2 (M 67) 66 from rfl]
  rcases rd_2c (E.by n67) 66 with e | ⟨m, hm, e⟩
  · have nc : ¬ rd_cn (M 67) := fun z => by
      have z3 := z.2.2
      rw [e] at z3
      have : ¬ nI ((M 67).length - 107) < 0 := nI_pos (by omega)
      exact this (by rw [← z3]; decide)
    rw [e]
    refine ce_copyPart 16 68 67 E (by decide +kernel) (by decide +kernel) n67 (by decide) (by decide) (by decide) rfl (by decide) (fun h1 E1 => ?_)
    exact tr_ip (by decide) (tr_mk (Or.inl ⟨rfl, nc, _, E1⟩))
  · rw [e]
    refine ce_copyPart 16 68 (68 + m) E (by decide +kernel) (by decide +kernel) n67 (by decide) (by omega) (by decide) rfl (nI_add 68 m) (fun h1 E1 => ?_)
    have nc : ¬ (1 ≤ m ∧ m ≤ 16 ∧ (M 67).length = 107 + m) → ¬ rd_cn (M 67) := fun w z => by
      have z3 := z.2.2
      rw [e, nI_eq (by omega) (by omega)] at z3
      have := z.1
      have := z.2.1
      omega
    by_cases c1 : m < 1
    · rw [if_pos (by rw [show ((1 : Int32)) = nI 1 from rfl, nI_ltI (by omega) (by omega)]; exact c1)]
      exact tr_mk (Or.inl ⟨rfl, nc (by omega), _, E1⟩)
    · rw [if_neg (by rw [show ((1 : Int32)) = nI 1 from rfl, nI_ltI (by omega) (by omega)]; exact c1)]
      by_cases c2 : 16 < m
      · rw [if_pos (by rw [show ((16 : Int32)) = nI 16 from rfl, nI_ltI (by omega) (by omega)]; exact c2)]
        exact tr_mk (Or.inl ⟨rfl, nc (by omega), _, E1⟩)
      · rw [if_neg (by rw [show ((16 : Int32)) = nI 16 from rfl, nI_ltI (by omega) (by omega)]; exact c2), E1.n n67, vu_off (by decide), show (107 : Int32) + nI m = nI (107 + m) from nI_add 107 m]
        by_cases c3 : (M 67).length = 107 + m
        · rw [if_pos (by rw [c3])]
          refine tr_mk (Or.inr ⟨rfl, ⟨by omega, by omega, by rw [e, c3, Nat.add_sub_cancel_left]⟩, ?_⟩)
          rw [show 68 + m = (M 67).length - 39 by omega, List.take_of_length_le (by rw [List.length_drop, List.length_take]; omega)] at E1
          exact E1
        · rw [if_neg (by rw [nI_eq (by omega) (by omega)]; exact c3)]
          exact tr_mk (Or.inl ⟨rfl, nc (by omega), _, E1⟩)
theorem ce_findRandom (E : cE L h M I Z) (K : ∀ h', cE L h' (va_up M 77 (rd_rn (M 67))) I Z → tr (f h') Q) : tr (mm_qv (bd_X3_findRandom 67 77 h) f) Q := by
  refine tr_v (p := fun h' => cE L h' (va_up M 77 (rd_rn (M 67))) I Z) ?_ K
  unfold bd_X3_findRandom
  refine ce_copyPart 32 6 38 E (by decide +kernel) (by decide +kernel) (by decide +kernel) (by decide) (by decide) (by decide) rfl rfl (fun h1 E1 => tr_mk ⟨rfl, ?_⟩)
  rw [List.take_of_length_le (by rw [List.length_drop, List.length_take]; omega)] at E1
  exact E1
theorem ce_lookCH (hb : sk_b b) (E : cE L h M I Z) (K : ∀ h' M', cE L h' M' I Z → (∀ r, r ≠ 71 → r ≠ 77 → r ≠ 79 → M' r = M r) → tr (g (rd_ch (M 67) (M (b + 96))) h') Q) : tr (mm_qi (bd_X0_lookAtClientHello b 67 h) g) Q := by
  have b1 : 82 ≤ b := by unfold sk_b at hb; omega
  have n67 : sk_nr 67 = true := (by decide +kernel)
  have f6 : sk_ref b 6 = some 35 := (by rcases hb with rfl | rfl | rfl | rfl <;> decide +kernel)
  have f9 : sk_ref b 9 = some (b + 96) := (by rcases hb with rfl | rfl | rfl | rfl <;> decide +kernel)
  have g6 : sk_ref 35 6 = some 71 := (by decide +kernel)
  have g9 : sk_ref 35 9 = some 77 := (by decide +kernel)
  have g10 : sk_ref 35 10 = some 79 := (by decide +kernel)
  refine tr_qi (R := fun v h' => v = some (.int (rd_ch (M 67) (M (b + 96)))) ∧ ∃ M', cE L h' M' I Z ∧ ∀ r, r ≠ 71 → r ≠ 77 → r ≠ 79 → M' r = M r) ?_ (fun v h' q => by
    obtain ⟨e, M', q1, q2⟩ := q
    exact ⟨_, e, K h' M' q1 q2⟩)
  unfold bd_X0_lookAtClientHello rd_ch
  simp only [mm_gr, E.f f6, E.f g10, Option.bind_some]
  refine ce_findName E (fun h1 l w E1 => ?_) (fun h1 w E1 => ?_)
  · unfold rd_cn at w
    rw [if_neg w]
    exact tr_ip rfl (tr_mk ⟨rfl, _, E1, fun r _ _ h3 => vu_off h3⟩)
  · unfold rd_cn at w
    rw [if_pos w]
    refine tr_in (by decide) ?_
    obtain ⟨w1, w2, w3⟩ := w
    simp only [E1.f f6, E1.f g9, Option.bind_some]
    refine ce_findRandom E1 (fun h2 E2 => ?_)
    rw [vu_off (show 67 ≠ 79 by decide)] at E2
    simp only [E2.f f6, E2.f g6, E2.f g9, E2.f g10, Option.bind_some]
    have lr : (rd_rn (M 67)).length = 32 := rd_rn_ln (by omega)
    have ln : (rd_nm (M 67)).length = (M 67).length - 107 := rd_nm_ln
    refine ce_putCH E2 (by decide +kernel) (by decide +kernel) (by decide +kernel) (by decide +kernel) (by decide) (by decide) (by rw [vu_at, lr]; decide) (by rw [vu_off (by decide), vu_at, ln]; omega) (fun h3 E3 => ?_)
    rw [vu_at, vu_off (show 79 ≠ 77 by decide), vu_at] at E3
    simp only [E3.f f6, E3.f g6, Option.bind_some]
    refine cr_putAll 123 E3 (by decide +kernel) (by decide +kernel) (by decide) (by decide) (by decide +kernel) (by rw [tb6]; decide) (by rw [ms_ch_ln, tb6]; omega) (fun h4 E4 => ?_)
    simp only [E4.f f6, E4.f g6, Option.bind_some]
    have m67 : va_up (va_up (va_up M 79 (rd_nm (M 67))) 77 (rd_rn (M 67))) 71 (ms_ch (rd_rn (M 67)) (rd_nm (M 67)) ++ sk_tb 6) 67 = M 67 := by rw [vu_off (by decide), vu_off (by decide), vu_off (by decide)]
    have le : (ms_ch (rd_rn (M 67)) (rd_nm (M 67)) ++ sk_tb 6).length = (M 67).length - 32 := by rw [List.length_append, ms_ch_ln, tb6]; omega
    have u4 : ∀ r, r ≠ 71 → r ≠ 77 → r ≠ 79 → va_up (va_up (va_up M 79 (rd_nm (M 67))) 77 (rd_rn (M 67))) 71 (ms_ch (rd_rn (M 67)) (rd_nm (M 67)) ++ sk_tb 6) r = M r := fun r h1 h2 h3 => by rw [vu_off h1, vu_off h2, vu_off h3]
    refine ce_hasAt E4 n67 (by decide +kernel) 0 rfl (by decide) ?_
    rw [m67, vu_at, le, List.drop_zero]
    by_cases c1 : (M 67).take ((M 67).length - 32) = ms_ch (rd_rn (M 67)) (rd_nm (M 67)) ++ sk_tb 6
    · rw [if_pos c1, if_pos (show 0 + ((M 67).length - 32) ≤ (M 67).length ∧ (M 67).take ((M 67).length - 32) = ms_ch (rd_rn (M 67)) (rd_nm (M 67)) ++ sk_tb 6 from ⟨by omega, c1⟩), if_neg (by decide)]
      simp only [E4.f f9, E4.f f6, E4.f g10, Option.bind_some]
      refine ce_same E4 (by rcases hb with rfl | rfl | rfl | rfl <;> decide +kernel) (by decide +kernel) ?_
      rw [u4 (b + 96) (by omega) (by omega) (by omega), vu_off (show 79 ≠ 71 by decide), vu_off (show 79 ≠ 77 by decide), vu_at]
      by_cases c2 : M (b + 96) = rd_nm (M 67)
      · rw [if_pos c2, if_pos c2, if_neg (by decide)]
        exact tr_mk ⟨rfl, _, E4, u4⟩
      · rw [if_neg c2, if_neg c2, if_pos rfl]
        exact tr_mk ⟨rfl, _, E4, u4⟩
    · rw [if_neg c1, if_neg (show ¬ (0 + ((M 67).length - 32) ≤ (M 67).length ∧ (M 67).take ((M 67).length - 32) = ms_ch (rd_rn (M 67)) (rd_nm (M 67)) ++ sk_tb 6) from fun z => c1 z.2), if_pos rfl]
      exact tr_mk ⟨rfl, _, E4, u4⟩
theorem ce_whole (E : cE L h M I Z) (K0 : ¬ rd_w (M 67) → tr (g 0 h) Q) (K1 : rd_w (M 67) → tr (g 1 h) Q) : tr (mm_qi (bd_X3_isWhole 67 h) g) Q := by
  have n67 : sk_nr 67 = true := (by decide +kernel)
  have le : (M 67).length ≤ 600 := E.le n67 (by decide +kernel)
  refine tr_qi (R := fun v h' => h' = h ∧ ((v = some (.int 0) ∧ ¬ rd_w (M 67)) ∨ (v = some (.int 1) ∧ rd_w (M 67)))) ?_ (fun v h' q => by
    obtain ⟨rfl, q⟩ := q
    rcases q with ⟨e, q⟩ | ⟨e, q⟩
    · exact ⟨0, e, K0 q⟩
    · exact ⟨1, e, K1 q⟩)
  unfold bd_X3_isWhole
  rw [E.n n67]
  by_cases c1 : (M 67).length < 4
  · rw [if_pos (by rw [show ((4 : Int32)) = nI 4 from rfl, nI_ltI (by omega) (by omega)]; exact c1)]
    exact tr_mk ⟨rfl, Or.inl ⟨rfl, fun z => by have := z.1; omega⟩⟩
  · rw [if_neg (by rw [show ((4 : Int32)) = nI 4 from rfl, nI_ltI (by omega) (by omega)]; exact c1)]
    refine ce_at E n67 ?_
    rw [show rr_at (M 67) 1 = (M 67).getD 1 0 from rr_at_k (k := 1) (by omega) (by omega)]
    by_cases c2 : (M 67).getD 1 0 = 0
    · rw [if_pos c2]
      refine ce_twoAt E n67 2 rfl (by decide) ?_
      rw [show (if 2 + 1 < (M 67).length then mm_shl ((M 67).getD 2 0) 8 ||| (M 67).getD (2 + 1) 0 else -1) = rd_2 (M 67) 2 from rfl, E.n n67]
      by_cases c3 : rd_2 (M 67) 2 = nI (M 67).length - 4
      · rw [if_pos c3]; exact tr_mk ⟨rfl, Or.inr ⟨rfl, by omega, c2, c3⟩⟩
      · rw [if_neg c3]; exact tr_mk ⟨rfl, Or.inl ⟨rfl, fun z => c3 z.2.2⟩⟩
    · rw [if_neg c2]; exact tr_mk ⟨rfl, Or.inl ⟨rfl, fun z => c2 z.2.1⟩⟩
theorem co_msg (hb : sk_b b) (O : cO L h M I s)
    (K0 : ∀ h' I', ¬ rd_w (M 67) → cO L h' M I' s → tr (g 50 h') Q)
    (K1 : ∀ h' I', rd_w (M 67) → (M 67).getD 0 0 ≠ rd_wait (s.2.1 b 5) → cO L h' M I' s → tr (g 10 h') Q)
    (K2 : ∀ h' M' I', rd_w (M 67) → (M 67).getD 0 0 = rd_wait (s.2.1 b 5) → cO L h' M' I' s → M' 67 = M 67 → I' b 13 = (M 67).getD 0 0 → tr (g (rd_m s b (M 67)) h') Q) : tr (mm_qi (bd_X0_lookAtMessage b 67 h) g) Q := by
  have b1 : 82 ≤ b := by unfold sk_b at hb; omega
  have n67 : sk_nr 67 = true := (by decide +kernel)
  have le : (M 67).length ≤ 600 := O.1.le n67 (by decide +kernel)
  have ob : sk_ob b = true := (by rcases hb with rfl | rfl | rfl | rfl <;> decide +kernel)
  have pb : sk_pp b = false := (by rcases hb with rfl | rfl | rfl | rfl <;> decide +kernel)
  have o13 : ob_i b 13 = false := (by rcases hb with rfl | rfl | rfl | rfl <;> decide +kernel)
  have f6 : sk_ref b 6 = some 35 := (by rcases hb with rfl | rfl | rfl | rfl <;> decide +kernel)
  have g6 : sk_ref 35 6 = some 71 := (by decide +kernel)
  have g9 : sk_ref 35 9 = some 77 := (by decide +kernel)
  refine tr_qi (R := fun v h' => ∃ x, v = some (.int x) ∧ tr (g x h') Q) ?_ (fun v h' q => q)
  unfold bd_X0_lookAtMessage
  refine ce_whole O.1 (fun w => tr_ip rfl (tr_mk ⟨50, rfl, K0 h I w O⟩)) (fun w => tr_in (by decide) ?_)
  refine ce_at O.1 n67 ?_
  have w4 := w.1
  rw [show rr_at (M 67) 0 = (M 67).getD 0 0 from rr_at_k (k := 0) (by omega) (by omega)]
  refine ce_si O.1 ob pb (fun h1 E1 => ?_)
  have O1 := O.g E1 o13
  have j13 : va_up I b (upd (I b) 13 ((M 67).getD 0 0)) b 13 = (M 67).getD 0 0 := by rw [vu_at, upd_at]
  generalize va_up I b (upd (I b) 13 ((M 67).getD 0 0)) = I1 at E1 O1 j13
  have i13 : mm_i h1 b 13 = (M 67).getD 0 0 := by rw [E1.i ob pb, j13]
  have wt : bd_X0_waitedFor b h1 = some (some (.int (rd_wait (s.2.1 b 5))), h1) := by
    unfold bd_X0_waitedFor rd_wait
    rw [O1.i ob (by rcases hb with rfl | rfl | rfl | rfl <;> decide +kernel)]
    by_cases q1 : s.2.1 b 5 = 1
    · rw [if_pos q1, if_pos q1]
    · rw [if_neg q1, if_neg q1]
      by_cases q2 : s.2.1 b 5 = 2
      · rw [if_pos q2, if_pos q2]
      · rw [if_neg q2, if_neg q2]
        by_cases q3 : s.2.1 b 5 = 3
        · rw [if_pos q3, if_pos q3]
        · rw [if_neg q3, if_neg q3]
          by_cases q4 : s.2.1 b 5 = 4
          · rw [if_pos q4, if_pos q4]
          · rw [if_neg q4, if_neg q4]
            by_cases q5 : s.2.1 b 5 = 5
            · rw [if_pos q5, if_pos q5]
            · rw [if_neg q5, if_neg q5]
              by_cases q6 : s.2.1 b 5 = 6
              · rw [if_pos q6, if_pos q6]
              · rw [if_neg q6, if_neg q6]
  rw [wt, mm_qi_s, i13]
  by_cases c0 : (M 67).getD 0 0 = rd_wait (s.2.1 b 5)
  · rw [if_pos c0]
    have fin : ∀ h' M', cE L h' M' I1 s.2.2 → (∀ r, r ≠ 71 → r ≠ 77 → r ≠ 79 → M' r = M r) → ∀ v, v = rd_m s b (M 67) → tr (some (some (.int v), h')) (fun v h' => ∃ x, v = some (.int x) ∧ tr (g x h') Q) := fun h' M' E' u v hv => by
      refine tr_mk ⟨v, rfl, ?_⟩
      rw [hv]
      refine K2 h' M' I1 w c0 ⟨E', fun q hq => ?_, O1.2.2⟩ (u 67 (by decide) (by decide) (by decide)) j13
      rw [u q (fun e => by rw [e] at hq; exact absurd hq (by decide +kernel)) (fun e => by rw [e] at hq; exact absurd hq (by decide +kernel)) (fun e => by rw [e] at hq; exact absurd hq (by decide +kernel))]
      exact O.r hq
    have m96 : M (b + 96) = s.1 (b + 96) := O1.r (by rcases hb with rfl | rfl | rfl | rfl <;> decide +kernel)
    by_cases k1 : (M 67).getD 0 0 = 1
    · rw [if_pos k1]
      refine ce_lookCH hb E1 (fun h2 M2 E2 u2 => fin h2 M2 E2 u2 _ ?_)
      unfold rd_m; rw [if_pos k1, m96]
    · rw [if_neg k1]
      by_cases k2 : (M 67).getD 0 0 = 2
      · rw [if_pos k2]
        simp only [mm_gr, E1.f f6, E1.f g9, Option.bind_some]
        refine ce_findRandom E1 (fun h2 E2 => ?_)
        simp only [E2.f f6, E2.f g6, E2.f g9, Option.bind_some]
        refine ce_putSH E2 (by decide +kernel) (by decide +kernel) (by decide +kernel) (by decide) (by rw [vu_at]; exact rd_rn_le) (fun h3 E3 => ?_)
        rw [vu_at] at E3
        simp only [E3.f f6, E3.f g6, Option.bind_some]
        have u3 : ∀ r, r ≠ 71 → r ≠ 77 → r ≠ 79 → va_up (va_up M 77 (rd_rn (M 67))) 71 (ms_sh (rd_rn (M 67))) r = M r := fun r h1 h2 _ => by rw [vu_off h1, vu_off h2]
        refine ce_same E3 n67 (by decide +kernel) ?_
        rw [u3 67 (by decide) (by decide) (by decide), vu_at]
        by_cases k3 : M 67 = ms_sh (rd_rn (M 67))
        · rw [if_pos k3, if_neg (by decide)]
          exact fin h3 _ E3 u3 _ (by unfold rd_m; rw [if_neg k1, if_pos k2, if_pos k3])
        · rw [if_neg k3, if_pos rfl]
          exact fin h3 _ E3 u3 _ (by unfold rd_m; rw [if_neg k1, if_pos k2, if_neg k3])
      · rw [if_neg k2]
        by_cases k8 : (M 67).getD 0 0 = 8
        · rw [if_pos k8]
          simp only [mm_gr, E1.f f6, E1.f g6, Option.bind_some]
          refine ce_putEX E1 (by decide +kernel) (by decide +kernel) (fun h3 E3 => ?_)
          simp only [E3.f f6, E3.f g6, Option.bind_some]
          have u3 : ∀ r, r ≠ 71 → r ≠ 77 → r ≠ 79 → va_up M 71 ms_ex r = M r := fun r h1 h2 _ => by rw [vu_off h1]
          refine ce_same E3 n67 (by decide +kernel) ?_
          rw [u3 67 (by decide) (by decide) (by decide), vu_at]
          by_cases k3 : M 67 = ms_ex
          · rw [if_pos k3, if_neg (by decide)]
            exact fin h3 _ E3 u3 _ (by unfold rd_m; rw [if_neg k1, if_neg k2, if_pos k8, if_pos k3])
          · rw [if_neg k3, if_pos rfl]
            exact fin h3 _ E3 u3 _ (by unfold rd_m; rw [if_neg k1, if_neg k2, if_pos k8, if_neg k3])
        · rw [if_neg k8]
          by_cases k20 : (M 67).getD 0 0 = 20
          · rw [if_pos k20, E1.n n67]
            by_cases k3 : (M 67).length = 36
            · rw [if_pos (by rw [k3]; rfl)]
              exact fin h1 _ E1 (fun _ _ _ _ => rfl) _ (by unfold rd_m; rw [if_neg k1, if_neg k2, if_neg k8, if_pos k20, if_pos k3])
            · rw [if_neg (by rw [show ((36 : Int32)) = nI 36 from rfl, nI_eq (by omega) (by omega)]; exact k3)]
              exact fin h1 _ E1 (fun _ _ _ _ => rfl) _ (by unfold rd_m; rw [if_neg k1, if_neg k2, if_neg k8, if_pos k20, if_neg k3])
          · rw [if_neg k20]
            have up : bd_X0_lookAtUpdate 67 h1 = some (some (.int (rd_u (M 67))), h1) := by
              unfold bd_X0_lookAtUpdate rd_u
              rw [E1.n n67]
              by_cases k3 : (M 67).length = 5
              · rw [if_pos (by rw [k3]; rfl), if_pos k3]
                obtain ⟨M9, I9, P9, C9, e9, -⟩ := E1
                obtain ⟨M0, R, e0⟩ := C9.2.2.1
                have em : M0 67 = M 67 := (e0 67 (by decide)).trans (e9.r n67)
                rw [sp_X6_at R (C9.kd (nr_r n67)), mm_qi_s, em, show rr_at (M 67) 4 = (M 67).getD 4 0 from rr_at_k (k := 4) (by omega) (by omega)]
                by_cases k5 : (M 67).getD 4 0 ≤ 1
                · rw [if_pos k5, if_pos k5]
                · rw [if_neg k5, if_neg k5]
              · rw [if_neg (by rw [show ((5 : Int32)) = nI 5 from rfl, nI_eq (by omega) (by omega)]; exact k3), if_neg k3]
            rw [up, mm_qi_s]
            exact fin h1 _ E1 (fun _ _ _ _ => rfl) _ (by unfold rd_m; rw [if_neg k1, if_neg k2, if_neg k8, if_neg k20])
  · rw [if_neg c0]
    exact tr_mk ⟨10, rfl, K1 h1 I1 w c0 O1⟩
end RDB
