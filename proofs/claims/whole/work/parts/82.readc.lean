/-! ===== END.read ===== -/
def mGo (s : sT) (b : Nat) (c : List Int32) : sT := if c.getD 0 0 = 1 then mAnswer s b c else if c.getD 0 0 = 2 then mServed s b c else if c.getD 0 0 = 8 then mExt s b c else if c.getD 0 0 = 20 then mDone s b c else mUpd s b c
def mMsg (s : sT) (b : Nat) (c : List Int32) : sT :=
  if 4 ≤ c.length ∧ c.getD 1 0 = 0 ∧ rd_2 c 2 = nI c.length - 4 then
    (if c.getD 0 0 = rd_wait (s.2.1 b 5) then (if rd_m s b c = 0 then (if rd_p s b (c.getD 0 0) c = true then mGo s b c else mFail s b 51) else mFail s b (rd_m s b c)) else mFail s b 10)
  else mFail s b 50
def mBody (s : sT) (b : Nat) (ty : Int32) (c : List Int32) : sT :=
  if ty = 21 then (if c.length = 2 then mHeed s b c else mFail s b 50)
  else if ty = 22 then mMsg s b c
  else if ty = 23 then (if s.2.1 b 5 = 6 then mM s (b + 67) ((s.1 (b + 67) ++ c).take 2000) else mFail s b 10)
  else if ty = 256 then s else mFail s b 10
def mSeal (s : sT) (b : Nat) (l : List Int32) : sT :=
  if 21 < l.length ∧ l.drop (l.length - 16) = sl_t (rd_F s b) l (l.length - 16) then
    (if rd_t (rd_o s b l) = -1 then mFail (mI s (b + 76) 3 (s.2.1 (b + 76) 3 + 1)) b 10 else mBody (mI s (b + 76) 3 (s.2.1 (b + 76) 3 + 1)) b (rd_t (rd_o s b l)) (rd_i (rd_o s b l)))
  else mFail s b 20
def mRead (s : sT) (b : Nat) (l : List Int32) : sT :=
  if s.2.1 b 5 = 0 then s else if s.2.1 b 5 = 7 then s else if s.2.1 b 17 = 0 then
    (if rd_f l = 0 then
      (if l.getD 0 0 = 20 then (if l.length = 6 ∧ l.getD 5 0 = 1 ∧ s.2.1 b 5 ≠ 4 ∧ s.2.1 b 5 ≠ 6 then s else mFail s b 10)
      else if l.getD 0 0 = 23 ↔ s.2.1 (b + 76) 4 = 1 then (if l.getD 0 0 = 23 then mSeal s b l else mBody s b (l.getD 0 0) (l.drop 5))
      else mFail s b 10)
    else mFail s b (rd_f l))
  else s
/-- what is so between calls, of an END that reads -/
def iR (s : sT) (b : Nat) : Prop := s.1 40 = [] ∧ kI s (b + 69) ∧ kI s (b + 76) ∧ (s.2.1 (b + 76) 4 = 0 ∨ s.2.1 (b + 76) 4 = 1) ∧ (s.2.1 b 5 = 1 → (s.1 (b + 100)).length ≤ 123) ∧ (s.2.1 b 5 = 2 → (s.1 (b + 100)).length ≤ 179) ∧ (s.2.1 b 5 = 3 → (s.1 (b + 100)).length ≤ 185) ∧ (s.2.1 b 5 = 5 → s.2.1 b 4 ≠ 0) ∧ (s.2.1 b 5 ≠ 1 ∧ s.2.1 b 5 ≠ 2 ∧ s.2.1 b 5 ≠ 4 ∧ s.2.1 b 5 ≠ 6 → ¬ (s.2.1 b 5 ≠ 3 ∧ s.2.1 b 5 ≠ 5))
theorem iR.up {s : sT} {b : Nat} (i : iR s b) {v : Int32} (hb : 82 ≤ b) : iR (mI s (b + 76) 3 v) b := by
  obtain ⟨i1, i2, i3, i4, i5, i6, i7, i8, i9⟩ := i
  have e : ∀ k, (mI s (b + 76) 3 v).2.1 b k = s.2.1 b k := fun k => by show va_up s.2.1 _ _ b k = _; rw [vu_off (by omega)]
  have e4 : (mI s (b + 76) 3 v).2.1 (b + 76) 4 = s.2.1 (b + 76) 4 := by show va_up s.2.1 _ _ _ 4 = _; rw [vu_at, upd_off (by decide)]
  refine ⟨i1, i2.i (by omega), fun w => ?_, ?_, ?_, ?_, ?_, ?_, ?_⟩
  · rw [e4] at w; exact i3 w
  · rw [e4]; exact i4
  · rw [e]; exact i5
  · rw [e]; exact i6
  · rw [e]; exact i7
  · rw [e, e]; exact i8
  · rw [e]; exact i9
theorem rd_wait_5 {st : Int32} (h : rd_wait st = 20) (h3 : st ≠ 3) (h5 : st ≠ 5) : st ≠ 1 ∧ st ≠ 2 ∧ st ≠ 4 ∧ st ≠ 6 := by
  unfold rd_wait at h
  by_cases q1 : st = 1
  · rw [if_pos q1] at h; exact absurd h (by decide)
  · by_cases q2 : st = 2
    · rw [if_neg q1, if_pos q2] at h; exact absurd h (by decide)
    · by_cases q4 : st = 4
      · rw [if_neg q1, if_neg q2, if_neg h3, if_pos q4] at h; exact absurd h (by decide)
      · by_cases q6 : st = 6
        · rw [if_neg q1, if_neg q2, if_neg h3, if_neg q4, if_neg h5, if_pos q6] at h; exact absurd h (by decide)
        · exact ⟨q1, q2, q4, q6⟩
theorem rd_wait_2 {st : Int32} (h : rd_wait st = 2) : st = 1 := by
  unfold rd_wait at h
  by_cases q1 : st = 1
  · exact q1
  · exfalso
    rw [if_neg q1] at h
    by_cases q2 : st = 2
    · rw [if_pos q2] at h; exact absurd h (by decide)
    · rw [if_neg q2] at h
      by_cases q3 : st = 3
      · rw [if_pos q3] at h; exact absurd h (by decide)
      · rw [if_neg q3] at h
        by_cases q4 : st = 4
        · rw [if_pos q4] at h; exact absurd h (by decide)
        · rw [if_neg q4] at h
          by_cases q5 : st = 5
          · rw [if_pos q5] at h; exact absurd h (by decide)
          · rw [if_neg q5] at h
            by_cases q6 : st = 6
            · rw [if_pos q6] at h; exact absurd h (by decide)
            · rw [if_neg q6] at h; exact absurd h (by decide)
theorem rd_wait_8 {st : Int32} (h : rd_wait st = 8) : st = 2 := by
  unfold rd_wait at h
  by_cases q1 : st = 1
  · rw [if_pos q1] at h; exact absurd h (by decide)
  · rw [if_neg q1] at h
    by_cases q2 : st = 2
    · exact q2
    · exfalso
      rw [if_neg q2] at h
      by_cases q3 : st = 3
      · rw [if_pos q3] at h; exact absurd h (by decide)
      · rw [if_neg q3] at h
        by_cases q4 : st = 4
        · rw [if_pos q4] at h; exact absurd h (by decide)
        · rw [if_neg q4] at h
          by_cases q5 : st = 5
          · rw [if_pos q5] at h; exact absurd h (by decide)
          · rw [if_neg q5] at h
            by_cases q6 : st = 6
            · rw [if_pos q6] at h; exact absurd h (by decide)
            · rw [if_neg q6] at h; exact absurd h (by decide)
/-- every kind that is waited for -/
theorem rd_wait_k (st : Int32) : rd_wait st = 1 ∨ rd_wait st = 2 ∨ rd_wait st = 8 ∨ rd_wait st = 20 ∨ (rd_wait st = 24 ∧ st = 6) := by
  unfold rd_wait
  by_cases q1 : st = 1
  · rw [if_pos q1]; simp
  · rw [if_neg q1]
    by_cases q2 : st = 2
    · rw [if_pos q2]; simp
    · rw [if_neg q2]
      by_cases q3 : st = 3
      · rw [if_pos q3]; simp
      · rw [if_neg q3]
        by_cases q4 : st = 4
        · rw [if_pos q4]; simp
        · rw [if_neg q4]
          by_cases q5 : st = 5
          · rw [if_pos q5]; simp
          · rw [if_neg q5]
            by_cases q6 : st = 6
            · rw [if_pos q6]; simp [q6]
            · rw [if_neg q6]; simp
section RDC
variable {L : Nat} {h h' : mm_H} {M : Nat → List Int32} {I : Nat → Nat → Int32} {s : sT} {Z : Nat → List (List Int32)}
variable {r o b : Nat} {f : mm_H → mm_O} {g : Int32 → mm_H → mm_O} {Q : Option Value → mm_H → Prop}
theorem co_prov105 (hb : sk_b b) (O : cO L h M I s) {p : List Int32} (hp : M 75 = p) (lp : p.length = 32) (hl : 32 ≤ (M 67).length) : tr (jn_X0_isProven_105 b 67 h) (fun v h' => v = some (.int (if (M 67).drop ((M 67).length - 32) = p then 1 else 0)) ∧ h' = h) := by
  have n67 : sk_nr 67 = true := (by decide +kernel)
  have le : (M 67).length ≤ 600 := O.1.le n67 (by decide +kernel)
  have f6 : sk_ref b 6 = some 35 := (by rcases hb with rfl | rfl | rfl | rfl <;> decide +kernel)
  have g8 : sk_ref 35 8 = some 75 := (by decide +kernel)
  unfold jn_X0_isProven_105
  simp only [mm_gr, O.1.f f6, O.1.f g8, Option.bind_some]
  rw [O.1.n n67, show nI (M 67).length - 32 = nI ((M 67).length - 32) from nI_sb hl]
  refine ce_hasAt O.1 n67 (by decide +kernel) ((M 67).length - 32) rfl (by omega) ?_
  rw [hp, lp, List.take_of_length_le (by rw [List.length_drop]; omega)]
  by_cases c : (M 67).drop ((M 67).length - 32) = p
  · rw [if_pos c, if_pos (show (M 67).length - 32 + 32 ≤ (M 67).length ∧ (M 67).drop ((M 67).length - 32) = p from ⟨by omega, c⟩)]
    exact tr_ip (Or.inr rfl) (tr_mk ⟨rfl, rfl⟩)
  · rw [if_neg c, if_neg (show ¬ ((M 67).length - 32 + 32 ≤ (M 67).length ∧ (M 67).drop ((M 67).length - 32) = p) from fun z => c z.2)]
    exact tr_ip (Or.inl rfl) (tr_mk ⟨rfl, rfl⟩)
theorem co_proven (hb : sk_b b) (O : cO L h M I s) (h40 : s.1 40 = []) (h1 : I b 13 = 1 → 35 ≤ (M 67).length ∧ (M 67).length ≤ 158) (h20 : I b 13 = 20 → 32 ≤ (M 67).length) (K : ∀ h' M', cO L h' M' I s → M' 67 = M 67 → tr (g (if rd_p s b (I b 13) (M 67) = true then 1 else 0) h') Q) : tr (mm_qi (bd_X0_isProven b h) g) Q := by
  have b1 : 82 ≤ b := by unfold sk_b at hb; omega
  have n67 : sk_nr 67 = true := (by decide +kernel)
  have le : (M 67).length ≤ 600 := O.1.le n67 (by decide +kernel)
  have ob : sk_ob b = true := (by rcases hb with rfl | rfl | rfl | rfl <;> decide +kernel)
  have pb : sk_pp b = false := (by rcases hb with rfl | rfl | rfl | rfl <;> decide +kernel)
  have f3 : sk_ref b 3 = some (b + 76) := (by rcases hb with rfl | rfl | rfl | rfl <;> decide +kernel)
  have f6 : sk_ref b 6 = some 35 := (by rcases hb with rfl | rfl | rfl | rfl <;> decide +kernel)
  have f7 : sk_ref b 7 = some (b + 83) := (by rcases hb with rfl | rfl | rfl | rfl <;> decide +kernel)
  have f11 : sk_ref b 11 = some (b + 100) := (by rcases hb with rfl | rfl | rfl | rfl <;> decide +kernel)
  have k0 : sk_ref (b + 76) 0 = some (b + 77) := (by rcases hb with rfl | rfl | rfl | rfl <;> decide +kernel)
  have s0 : sk_ref (b + 83) 0 = some (b + 84) := (by rcases hb with rfl | rfl | rfl | rfl <;> decide +kernel)
  have g4 : sk_ref 35 4 = some 67 := (by decide +kernel)
  have g6 : sk_ref 35 6 = some 71 := (by decide +kernel)
  have g8 : sk_ref 35 8 = some 75 := (by decide +kernel)
  refine tr_qi (R := fun v h' => ∃ x, v = some (.int x) ∧ tr (g x h') Q) ?_ (fun v h' q => q)
  unfold bd_X0_isProven
  simp only [mm_gr, O.1.f f6, O.1.f g4, Option.bind_some]
  rw [O.1.i ob pb]
  by_cases c1 : I b 13 = 1
  · rw [if_pos c1]
    obtain ⟨a1, a2⟩ := h1 c1
    simp only [O.1.f g6, Option.bind_some]
    rw [O.1.n n67, show nI (M 67).length - 35 = nI ((M 67).length - 35) from nI_sb a1]
    refine ce_copyPart 123 0 ((M 67).length - 35) O.1 (by decide +kernel) (by decide +kernel) n67 (by decide) (by omega) (by decide) rfl rfl (fun h2 E2 => ?_)
    rw [List.drop_zero, List.take_of_length_le (by rw [List.length_take]; omega)] at E2
    have O2 := O.t E2 (by decide +kernel)
    simp only [O2.1.f f7, O2.1.f s0, O2.1.f f6, O2.1.f g6, O2.1.f g8, Option.bind_some]
    refine ce_prove hb O2.1 (s := b + 84) (m := 71) (by rcases hb with rfl | rfl | rfl | rfl <;> decide +kernel) (by decide +kernel) (by decide +kernel) (by decide +kernel) (by rw [O2.r (by decide +kernel)]; exact h40) (fun h3 E3 => ?_)
    rw [O2.r (r := b + 84) (by rcases hb with rfl | rfl | rfl | rfl <;> decide +kernel), vu_at] at E3
    have O3 := O2.t E3 (by decide +kernel)
    have m67 : va_up (va_up M 71 ((M 67).take ((M 67).length - 35))) 75 (ks_p (s.1 (b + 84)) ((M 67).take ((M 67).length - 35))) 67 = M 67 := by rw [vu_off (by decide), vu_off (by decide)]
    refine tr_mo (co_prov105 hb O3 vu_at (ks_p_ln _ _) (by rw [m67]; omega)) (fun v h' q => ?_)
    obtain ⟨e, rfl⟩ := q
    rw [m67] at e
    refine ⟨_, e, ?_⟩
    have fin := K h' _ O3 m67
    unfold rd_p at fin
    rw [if_pos c1] at fin
    by_cases c2 : (M 67).drop ((M 67).length - 32) = ks_p (s.1 (b + 84)) ((M 67).take ((M 67).length - 35))
    · rw [if_pos c2]
      rw [if_pos (decide_eq_true c2)] at fin
      exact fin
    · rw [if_neg c2]
      rw [if_neg (by rw [decide_eq_true_eq]; exact c2)] at fin
      exact fin
  · rw [if_neg c1]
    by_cases c3 : I b 13 = 20
    · rw [if_pos c3]
      simp only [O.1.f f7, O.1.f f3, O.1.f k0, O.1.f f11, O.1.f g8, Option.bind_some]
      refine ce_prove hb O.1 (s := b + 77) (m := b + 100) (by rcases hb with rfl | rfl | rfl | rfl <;> decide +kernel) (by rcases hb with rfl | rfl | rfl | rfl <;> decide +kernel) (by decide +kernel) (by decide +kernel) (by rw [O.r (by decide +kernel)]; exact h40) (fun h3 E3 => ?_)
      rw [O.r (r := b + 77) (by rcases hb with rfl | rfl | rfl | rfl <;> decide +kernel), O.r (r := b + 100) (by rcases hb with rfl | rfl | rfl | rfl <;> decide +kernel)] at E3
      have O3 := O.t E3 (by decide +kernel)
      have m67 : va_up M 75 (ks_p (s.1 (b + 77)) (s.1 (b + 100))) 67 = M 67 := by rw [vu_off (by decide)]
      refine tr_mo (co_prov105 hb O3 vu_at (ks_p_ln _ _) (by rw [m67]; exact h20 c3)) (fun v h' q => ?_)
      obtain ⟨e, rfl⟩ := q
      rw [m67] at e
      refine ⟨_, e, ?_⟩
      have fin := K h' _ O3 m67
      unfold rd_p at fin
      rw [if_neg c1, if_pos c3] at fin
      by_cases c2 : (M 67).drop ((M 67).length - 32) = ks_p (s.1 (b + 77)) (s.1 (b + 100))
      · rw [if_pos c2]
        rw [if_pos (decide_eq_true c2)] at fin
        exact fin
      · rw [if_neg c2]
        rw [if_neg (by rw [decide_eq_true_eq]; exact c2)] at fin
        exact fin
    · rw [if_neg c3]
      have fin := K h M O rfl
      unfold rd_p at fin
      rw [if_neg c1, if_neg c3, if_pos rfl] at fin
      exact tr_mk ⟨1, rfl, fin⟩
/-- the end of read, where something is wrong -/
theorem co_no62 {x : Int32} (hb : sk_b b) (O : cO L h M I s) (ky : kI s (b + 69)) (hx : x ≠ 0) : tr (jn_X0_read_62 b x h) (fun v h' => v = none ∧ ∃ M' I', cO L h' M' I' (mFail s b x)) := by
  unfold jn_X0_read_62
  rw [if_neg hx]
  exact co_fail hb O ky (fun h' M' I' O' => tr_mk ⟨rfl, M', I', O'⟩)
theorem co_no48 {x : Int32} (hb : sk_b b) (O : cO L h M I s) (ky : kI s (b + 69)) (hx : x ≠ 0) : tr (jn_X0_read_48 b x h) (fun v h' => v = none ∧ ∃ M' I', cO L h' M' I' (mFail s b x)) := by
  unfold jn_X0_read_48
  rw [if_neg hx]
  exact co_no62 hb O ky hx
theorem co_no39 {x : Int32} (hb : sk_b b) (O : cO L h M I s) (ky : kI s (b + 69)) (hx : x ≠ 0) : tr (jn_X0_read_39 b x h) (fun v h' => v = none ∧ ∃ M' I', cO L h' M' I' (mFail s b x)) := by
  unfold jn_X0_read_39
  rw [if_neg hx]
  exact co_no48 hb O ky hx
theorem ms_sh_self {c : List Int32} (e : c = ms_sh (rd_rn c)) : c.length ≤ 56 := by
  have := rd_rn_le (c := c)
  have e2 := congrArg List.length e
  rw [ms_sh_ln] at e2
  omega
theorem rd_ch_ln {c name : List Int32} (e : rd_ch c name = 0) : 108 ≤ c.length ∧ c.length ≤ 123 := by
  unfold rd_ch at e
  by_cases w : 108 ≤ c.length ∧ c.length ≤ 123 ∧ rd_2 c 66 = nI (c.length - 107)
  · exact ⟨w.1, w.2.1⟩
  · rw [if_neg w] at e; exact absurd e (by decide)
/-- a message that is right in all -/
theorem co_go (hb : sk_b b) (O : cO L h M I s) (i : iR s b) (ew : (M 67).getD 0 0 = rd_wait (s.2.1 b 5)) (em : rd_m s b (M 67) = 0) (ek : I b 13 = (M 67).getD 0 0) : tr (jn_X0_read_62 b 0 h) (fun v h' => v = none ∧ ∃ M' I', cO L h' M' I' (mGo s b (M 67))) := by
  have b1 : 82 ≤ b := by unfold sk_b at hb; omega
  have n67 : sk_nr 67 = true := (by decide +kernel)
  have le : (M 67).length ≤ 600 := O.1.le n67 (by decide +kernel)
  have ob : sk_ob b = true := (by rcases hb with rfl | rfl | rfl | rfl <;> decide +kernel)
  have pb : sk_pp b = false := (by rcases hb with rfl | rfl | rfl | rfl <;> decide +kernel)
  have f1 : sk_ref b 1 = some (b + 67) := (by rcases hb with rfl | rfl | rfl | rfl <;> decide +kernel)
  have f3 : sk_ref b 3 = some (b + 76) := (by rcases hb with rfl | rfl | rfl | rfl <;> decide +kernel)
  have f6 : sk_ref b 6 = some 35 := (by rcases hb with rfl | rfl | rfl | rfl <;> decide +kernel)
  have f11 : sk_ref b 11 = some (b + 100) := (by rcases hb with rfl | rfl | rfl | rfl <;> decide +kernel)
  have k0 : sk_ref (b + 76) 0 = some (b + 77) := (by rcases hb with rfl | rfl | rfl | rfl <;> decide +kernel)
  have g1 : sk_ref 35 1 = some 39 := (by decide +kernel)
  have g4 : sk_ref 35 4 = some 67 := (by decide +kernel)
  have k1 : sk_ref 39 1 = some 40 := (by decide +kernel)
  have r100 : ob_r (b + 100) = true := (by rcases hb with rfl | rfl | rfl | rfl <;> decide +kernel)
  obtain ⟨i1, i2, i3, i4, i5, i6, i7, i8, i9⟩ := i
  unfold jn_X0_read_62
  rw [if_pos rfl, O.1.i ob pb, ek]
  unfold mGo
  unfold rd_m at em
  by_cases q1 : (M 67).getD 0 0 = 1
  · rw [if_pos q1, if_pos q1]
    rw [if_pos q1] at em
    exact co_answer hb O i1 i2 (rd_ch_ln em).2 (fun h' M' I' O' => tr_mk ⟨rfl, M', I', O'⟩)
  · rw [if_neg q1, if_neg q1]
    rw [if_neg q1] at em
    by_cases q2 : (M 67).getD 0 0 = 2
    · rw [if_pos q2, if_pos q2]
      rw [if_pos q2] at em
      have e3 : M 67 = ms_sh (rd_rn (M 67)) := by
        by_cases c : M 67 = ms_sh (rd_rn (M 67))
        · exact c
        · rw [if_neg c] at em; exact absurd em (by decide)
      have l3 := ms_sh_self e3
      have l1 := i5 (rd_wait_2 (by rw [← ew]; exact q2))
      exact co_served hb O i1 (by omega) (fun h' M' I' O' => tr_mk ⟨rfl, M', I', O'⟩)
    · rw [if_neg q2, if_neg q2]
      rw [if_neg q2] at em
      by_cases q8 : (M 67).getD 0 0 = 8
      · rw [if_pos q8, if_pos q8]
        rw [if_pos q8] at em
        have e3 : M 67 = ms_ex := by
          by_cases c : M 67 = ms_ex
          · exact c
          · rw [if_neg c] at em; exact absurd em (by decide)
        have l3 : (M 67).length = 6 := by rw [e3]; exact ms_ex_ln
        have l1 := i6 (rd_wait_8 (by rw [← ew]; exact q8))
        simp only [mm_gr, O.1.f f11, O.1.f f6, O.1.f g4, Option.bind_some]
        refine co_append 278 O r100 (by rcases hb with rfl | rfl | rfl | rfl <;> decide +kernel) (by decide +kernel) (by omega) (fun h1 O1 => ?_)
        rw [List.take_of_length_le (by rw [O.r r100, List.length_append]; omega), List.take_of_length_le (by rw [List.length_append]; omega)] at O1
        exact co_si O1 ob pb (fun h2 I2 O2 => tr_mk ⟨rfl, _, I2, O2⟩)
      · rw [if_neg q8, if_neg q8]
        rw [if_neg q8] at em
        by_cases q20 : (M 67).getD 0 0 = 20
        · rw [if_pos q20, if_pos q20]
          rw [if_pos q20] at em
          have l3 : (M 67).length = 36 := by
            by_cases c : (M 67).length = 36
            · exact c
            · rw [if_neg c] at em; exact absurd em (by decide)
          refine co_done hb O i1 i2 (fun w => ?_) (fun h' M' I' O' => tr_mk ⟨rfl, M', I', O'⟩)
          by_cases e3 : s.2.1 b 5 = 3
          · have := i7 e3; omega
          · by_cases e5 : s.2.1 b 5 = 5
            · exact absurd w (i8 e5)
            · exact absurd ⟨e3, e5⟩ (i9 (rd_wait_5 (by rw [← ew]; exact q20) e3 e5))
        · rw [if_neg q20, if_neg q20]
          rw [if_neg q20] at em
          have st6 : s.2.1 b 5 = 6 ∧ (M 67).getD 0 0 = 24 := by
            rcases rd_wait_k (s.2.1 b 5) with e | e | e | e | ⟨e, e'⟩
            · exact absurd (ew.trans e) q1
            · exact absurd (ew.trans e) q2
            · exact absurd (ew.trans e) q8
            · exact absurd (ew.trans e) q20
            · exact ⟨e', ew.trans e⟩
          rw [if_pos st6.2]
          have l5 : (M 67).length = 5 := by
            unfold rd_u at em
            by_cases c : (M 67).length = 5
            · exact c
            · rw [if_neg c] at em; exact absurd em (by decide)
          simp only [mm_gr, O.1.f f3, O.1.f f6, O.1.f g1, O.1.f k0, O.1.f k1, Option.bind_some]
          have m40 : M 40 = [] := by rw [O.r (by decide +kernel)]; exact i1
          refine co_load hb (Or.inr rfl) O (by decide) (by decide) (by rcases hb with rfl | rfl | rfl | rfl <;> decide +kernel) (by decide +kernel) i1 (by rw [m40]; decide) (fun h1 M1 I1 O1 u1 => ?_)
          rw [m40, O.r (r := b + 77) (by rcases hb with rfl | rfl | rfl | rfl <;> decide +kernel)] at O1
          have O1' : cO L h1 M1 I1 (mUpd1 s b) := O1
          have m67 : M1 67 = M 67 := u1 67 (by omega) (by omega) (by omega)
          have e16 : (mUpd1 s b).2.1 b 16 = s.2.1 b 16 := by show va_up s.2.1 _ _ b 16 = _; rw [vu_off (by omega)]
          have e5 : (mUpd1 s b).2.1 b 5 = s.2.1 b 5 := by show va_up s.2.1 _ _ b 5 = _; rw [vu_off (by omega)]
          have cn : mCan (mUpd1 s b) b = mCan s b := by unfold mCan; rw [e16]; rfl
          have asked : bd_X0_isAsked b h1 = some (some (.int (if (M 67).getD 4 0 = 1 ∧ s.2.1 b 16 = 0 then 1 else 0)), h1) := by
            unfold bd_X0_isAsked
            simp only [mm_gr, O1'.1.f f6, O1'.1.f g4, Option.bind_some]
            have at4 : bd_X6_at 67 4 h1 = some (some (.int ((M 67).getD 4 0)), h1) := by
              obtain ⟨M9, I9, P9, C9, e9, -⟩ := O1'.1
              obtain ⟨M0, R, e0⟩ := C9.2.2.1
              have em : M0 67 = M 67 := ((e0 67 (by decide)).trans (e9.r n67)).trans m67
              rw [sp_X6_at R (C9.kd (nr_r n67)), em, show rr_at (M 67) 4 = (M 67).getD 4 0 from rr_at_k (k := 4) (by omega) (by omega)]
            rw [at4, mm_qi_s, O1'.i ob (by rcases hb with rfl | rfl | rfl | rfl <;> decide +kernel), e16]
            by_cases a1 : (M 67).getD 4 0 = 1
            · rw [if_pos a1]
              by_cases a2 : s.2.1 b 16 = 0
              · rw [if_pos a2, if_pos (show (M 67).getD 4 0 = 1 ∧ s.2.1 b 16 = 0 from ⟨a1, a2⟩)]
              · rw [if_neg a2, if_neg (show ¬ ((M 67).getD 4 0 = 1 ∧ s.2.1 b 16 = 0) from fun z => a2 z.2)]
            · rw [if_neg a1, if_neg (show ¬ ((M 67).getD 4 0 = 1 ∧ s.2.1 b 16 = 0) from fun z => a1 z.1)]
          rw [asked, mm_qi_s]
          unfold mUpd
          by_cases a1 : (M 67).getD 4 0 = 1 ∧ s.2.1 b 16 = 0
          · rw [if_pos a1, if_pos a1, if_neg (by decide)]
            refine co_renew hb O1' (by rw [mUpd1, mLoad_off (by omega) (by omega) (by omega)]; exact i1) (i2.l (Or.inl (by omega))) (fun h2 M2 w O2 => ?_) (fun h2 M2 I2 w1 w2 O2 => ?_)
            · rw [if_neg (show ¬ mCan s b = true from fun z => w ⟨by rw [e5]; exact st6.1, by rw [cn]; exact z⟩)]
              exact tr_ip rfl (co_si O2 ob pb (fun h3 I3 O3 => tr_mk ⟨rfl, _, I3, O3⟩))
            · rw [cn] at w2
              rw [if_pos w2]
              exact tr_in (by decide) (tr_mk ⟨rfl, M2, I2, O2⟩)
          · rw [if_neg a1, if_neg a1, if_pos rfl]
            exact tr_mk ⟨rfl, M1, I1, O1'⟩
end RDC
