/-! ===== what each call answers, and does to the state; the class does so ===== -/
def fd (s : sT) (x : Int32) : Option Nat := if x < 0 then none else if s.2.1 32 3 ≤ x then none else some (82 + 102 * mm_n x)
def nFeed (s : sT) (a b c d e : Int32) : Int32 × sT := if (s.1 33).length + 20 ≤ 600 then (nI ((s.1 33).length + 20), mM s 33 (s.1 33 ++ rr_num a 4 ++ rr_num b 4 ++ rr_num c 4 ++ rr_num d 4 ++ rr_num e 4)) else (-1, s)
def nEnd (s : sT) (n : Int32) : Int32 × sT := if n < 0 then (-1, s) else if n ≤ nI (s.1 33).length then (n, mM s 33 ((s.1 33).take (mm_n n))) else (-1, s)
def nMake (s : sT) (x : Int32) : Int32 × sT := if s.2.1 32 3 < 4 then (s.2.1 32 3, mI (mI s (82 + 102 * mm_n (s.2.1 32 3)) 4 x) 32 3 (s.2.1 32 3 + 1)) else (-1, s)
def nTell (s : sT) (x w : Int32) : Int32 × sT := match fd s x with
  | none => (0, s)
  | some b => match mLearn s b w with
    | none => (0, s)
    | some t => (1, mM t 33 [])
def nStart (s : sT) (x : Int32) : Int32 × sT := match fd s x with
  | none => (0, s)
  | some b => if s.2.1 b 5 = 0 ∧ s.1 (b + 94) ≠ [] ∧ s.1 (b + 96) ≠ [] ∧ s.1 (b + 98) ≠ [] then (1, mBegin s b) else (0, s)
def nSay (s : sT) (x : Int32) : Int32 × sT := match fd s x with
  | none => (-1, s)
  | some b => if (1 ≤ (s.1 33).length ∧ (s.1 33).length ≤ 400) ∧ s.2.1 b 5 = 6 ∧ mCan s b = true then (nI ((s.2.2 b).length + 1), mM (mSend s b 23 (s.1 33)) 33 []) else (-1, s)
def nUpdate (s : sT) (x a : Int32) : Int32 × sT := match fd s x with
  | none => (-1, s)
  | some b => if ¬ a < 0 ∧ ¬ 1 < a ∧ s.2.1 b 5 = 6 ∧ mCan s b = true then (nI ((s.2.2 b).length + 1), mRenew s b a) else (-1, s)
def nClose (s : sT) (x : Int32) : Int32 × sT := match fd s x with
  | none => (0, s)
  | some b => if s.2.1 b 5 = 6 ∧ mCan s b = true then (1, mShut s b) else (0, s)
def nCarry (s : sT) (x y : Int32) : Int32 × sT := match fd s x, fd s y with
  | some b, some c => (match s.2.2 b with
    | [] => (-1, s)
    | l :: z => ((mRead (mZ s b z) c l).2.1 c 5, mRead (mZ s b z) c l))
  | _, _ => (-1, s)
def nGive (s : sT) (x : Int32) : Int32 × sT := match fd s x with
  | none => (-1, s)
  | some b => ((mRead (mM s 33 []) b (s.1 33)).2.1 b 5, mRead (mM s 33 []) b (s.1 33))
def nMeddle (s : sT) (x w : Int32) : Int32 × sT := match fd s x with
  | none => (0, s)
  | some b =>
    if w = 0 then (match s.2.2 b with | [] => (0, s) | _ :: z => (1, mZ s b z))
    else if w = 1 then (match s.2.2 b with | [] => (0, s) | l :: z => if z.length < 31 then (1, mZ s b (l :: l :: z)) else (0, s))
    else if w = 2 then (match s.2.2 b with | l :: k :: z => (1, mZ s b (k :: l :: z)) | _ => (0, s))
    else (0, s)
def nAlter (s : sT) (x i m : Int32) : Int32 × sT := match fd s x with
  | none => (0, s)
  | some b => (match s.2.2 b with
    | [] => (0, s)
    | l :: z => if (¬ m < 0 ∧ m ≤ 255) ∧ ¬ i < 0 ∧ i < nI l.length then (1, mZ s b (l.set (mm_n i) (l.getD (mm_n i) 0 ^^^ m) :: z)) else (0, s))
def nWritten (s : sT) (x k i : Int32) : Int32 := match fd s x with
  | none => -1
  | some b => pl_b (s.2.2 b) k i
def nGiven (s : sT) (x i : Int32) : Int32 := match fd s x with
  | none => -1
  | some b => rr_at (s.1 (b + 67)) i
def nSecret (s : sT) (x w i : Int32) : Int32 := match fd s x with
  | none => -1
  | some b => if w = 0 then (if s.2.1 (b + 69) 4 = 0 then -1 else rr_at (s.1 (b + 70)) i) else if w = 1 then (if s.2.1 (b + 76) 4 = 0 then -1 else rr_at (s.1 (b + 77)) i) else -1
def nReport (s : sT) (b : Nat) (w : Int32) : Int32 :=
  if w = 0 then s.2.1 b 5 else if w = 1 then s.2.1 b 14 else if w = 2 then s.2.1 b 15 else if w = 3 then nI (s.2.2 b).length else if w = 4 then nI (s.1 (b + 67)).length
  else if w = 5 then s.2.1 (b + 69) 3 else if w = 6 then s.2.1 (b + 76) 3 else if w = 7 then (if s.2.1 b 16 = 0 then 0 else 1) else if w = 8 then (if s.2.1 b 17 = 0 then 0 else 1) else if w = 9 then (if s.2.1 b 4 = 0 then 0 else 1) else -1
def nState (s : sT) (x w : Int32) : Int32 := match fd s x with
  | none => -1
  | some b => nReport s b w
def nHash (s : sT) (i : Int32) : Int32 := if i < 0 then -1 else if i < 32 then rr_at (sh_a (s.1 33)) i else -1
def nAbout (s : sT) (w : Int32) : Int32 := if w = 0 then nI (s.1 33).length else if w = 1 then s.2.1 32 3 else -1
/-- what is so between calls -/
def iE (s : sT) (b : Nat) : Prop := kI s (b + 69) ∧ kI s (b + 76) ∧ (s.2.1 (b + 76) 4 = 0 ∨ s.2.1 (b + 76) 4 = 1) ∧ (s.2.1 b 5 ≠ 0 → s.2.1 b 5 ≠ 7 → iR s b)
def iC (s : sT) : Prop := s.1 40 = [] ∧ s.1 42 = ks_z ∧ (∃ n, n ≤ 4 ∧ s.2.1 32 3 = nI n) ∧ ∀ b, sk_b b → iE s b
section FCE
variable {L : Nat} {h h' : mm_H} {M : Nat → List Int32} {I : Nat → Nat → Int32} {s : sT}
variable {r o b : Nat} {f : mm_H → mm_O} {g : Int32 → mm_H → mm_O} {Q : Option Value → mm_H → Prop}
/-- an answer, and the state behind it -/
def cP (L : Nat) (n : Int32 × sT) (v : Option Value) (h' : mm_H) : Prop := v = some (.int n.1) ∧ ∃ M' I', cO L h' M' I' n.2
theorem cP.mk (O : cO L h M I s) {x : Int32} : cP L (x, s) (some (.int x)) h := ⟨rfl, M, I, O⟩
theorem sk_bk {k : Nat} (hk : k < 4) : sk_b (82 + 102 * k) := by unfold sk_b; omega
theorem co_find {x : Int32} {fN : mm_H → mm_O} {fS : Nat → mm_H → mm_O} (O : cO L h M I s) (i : iC s) (K0 : fd s x = none → tr (fN h) Q) (K1 : ∀ b, sk_b b → fd s x = some b → tr (fS b h) Q) : tr (mm_qa (bd_X11_find 32 x h) fN fS) Q := by
  obtain ⟨-, -, ⟨n, hn, en⟩, -⟩ := i
  unfold fd at K0 K1
  have o3 : mm_i h 32 3 = s.2.1 32 3 := O.i (by decide +kernel) (by decide +kernel)
  have f1 : sk_ref 32 1 = some 81 := (by decide +kernel)
  have l81 : mm_ln h 81 = 4 := O.1.ln (by decide) (by decide +kernel)
  unfold bd_X11_find jn_X11_find_30
  rw [o3]
  by_cases c1 : x < 0
  · rw [if_pos c1, mm_qa_n]
    exact K0 (if_pos c1)
  · rw [if_neg c1]
    by_cases c2 : s.2.1 32 3 ≤ x
    · rw [if_pos c2, mm_qa_n]
      exact K0 (by rw [if_neg c1, if_pos c2])
    · rw [if_neg c2]
      obtain ⟨k, hk, rfl⟩ := nI_of c1
      have c2' := c2
      rw [en, nI_leI (by omega) hk] at c2'
      simp only [mm_gr, O.1.f f1, Option.bind_some, l81]
      rw [if_neg (by rw [nI_leI (by omega) hk]; omega), if_pos (rr_in (by omega) (by omega)), rr_n hk]
      have e8 : sk_ref 81 k = some (82 + 102 * k) := by
        rcases (by omega : k = 0 ∨ k = 1 ∨ k = 2 ∨ k = 3) with rfl | rfl | rfl | rfl <;> decide +kernel
      rw [O.1.f e8]
      simp only [Option.bind_some]
      rw [mm_qa_s]
      refine K1 _ (sk_bk (by omega)) ?_
      rw [if_neg c1, if_neg c2, rr_n hk]
theorem cp_feed {a b c d e : Int32} (O : cO L h M I s) : tr (bd_X11_feed 32 a b c d e h) (cP L (nFeed s a b c d e)) := by
  have o33 : ob_r 33 = true := (by decide +kernel)
  have e33 := O.r o33
  have l33 : (s.1 33).length ≤ 600 := by rw [← e33]; exact O.1.le (ob_nr o33) (by decide +kernel)
  have f0 : sk_ref 32 0 = some 33 := (by decide +kernel)
  unfold bd_X11_feed nFeed
  simp only [mm_gr, O.1.f f0, Option.bind_some]
  rw [O.1.n (ob_nr o33), e33, show ((20 : Int32)) = nI 20 from rfl, nI_add, show ((600 : Int32)) = nI 600 from rfl]
  by_cases c0 : (s.1 33).length + 20 ≤ 600
  · rw [if_pos (by rw [nI_leI (by omega) (by omega)]; exact c0), if_pos c0]
    refine ce_num 600 4 a O.1 (ob_nr o33) (by decide +kernel) rfl (by decide) (by rw [e33]; omega) (fun h1 E1 => ?_)
    have O1 := O.m E1
    rw [e33] at E1
    simp only [E1.f f0, Option.bind_some]
    refine cr_num 600 4 b E1 (ob_nr o33) (by decide +kernel) rfl (by decide) (by simp [rr_num_len]; omega) (fun h2 E2 => ?_)
    simp only [E2.f f0, Option.bind_some]
    refine cr_num 600 4 c E2 (ob_nr o33) (by decide +kernel) rfl (by decide) (by simp [rr_num_len]; omega) (fun h3 E3 => ?_)
    simp only [E3.f f0, Option.bind_some]
    refine cr_num 600 4 d E3 (ob_nr o33) (by decide +kernel) rfl (by decide) (by simp [rr_num_len]; omega) (fun h4 E4 => ?_)
    simp only [E4.f f0, Option.bind_some]
    refine cr_num 600 4 e E4 (ob_nr o33) (by decide +kernel) rfl (by decide) (by simp [rr_num_len]; omega) (fun h5 E5 => ?_)
    simp only [E5.f f0, Option.bind_some]
    rw [E5.n (ob_nr o33), vu_at]
    refine tr_mk ⟨?_, _, _, O.m E5⟩
    simp only [List.length_append, rr_num_len]
  · rw [if_neg (by rw [nI_leI (by omega) (by omega)]; exact c0), if_neg c0]
    exact tr_mk (cP.mk O)
theorem cp_end {n : Int32} (O : cO L h M I s) : tr (bd_X11_end 32 n h) (cP L (nEnd s n)) := by
  have o33 : ob_r 33 = true := (by decide +kernel)
  have e33 := O.r o33
  have l33 : (s.1 33).length ≤ 600 := by rw [← e33]; exact O.1.le (ob_nr o33) (by decide +kernel)
  have f0 : sk_ref 32 0 = some 33 := (by decide +kernel)
  unfold bd_X11_end nEnd
  by_cases c0 : n < 0
  · rw [if_pos c0, if_pos c0]; exact tr_mk (cP.mk O)
  · rw [if_neg c0, if_neg c0]
    simp only [mm_gr, O.1.f f0, Option.bind_some]
    rw [O.1.n (ob_nr o33), e33]
    by_cases c1 : n ≤ nI (s.1 33).length
    · rw [if_pos c1, if_pos c1]
      obtain ⟨k, hk, rfl⟩ := nI_of c0
      rw [nI_leI hk (by omega)] at c1
      rw [rr_n hk]
      refine ce_cut k O.1 (ob_nr o33) (by omega) rfl (fun h1 E1 => ?_)
      rw [e33] at E1
      exact tr_mk ⟨rfl, _, _, O.m E1⟩
    · rw [if_neg c1, if_neg c1]; exact tr_mk (cP.mk O)
theorem cp_make {x : Int32} (O : cO L h M I s) (i : iC s) (hx : x = 0 ∨ x = 1) : tr (bd_X11_make 32 x h) (cP L (nMake s x)) := by
  obtain ⟨-, -, ⟨n, hn, en⟩, -⟩ := i
  have o3 : mm_i h 32 3 = s.2.1 32 3 := O.i (by decide +kernel) (by decide +kernel)
  have f1 : sk_ref 32 1 = some 81 := (by decide +kernel)
  have l81 : mm_ln h 81 = 4 := O.1.ln (by decide) (by decide +kernel)
  unfold bd_X11_make nMake
  rw [o3, en, show ((4 : Int32)) = nI 4 from rfl]
  by_cases c : n < 4
  · rw [if_pos (by rw [nI_ltI (by omega) (by omega)]; exact c), if_pos (by rw [nI_ltI (by omega) (by omega)]; exact c), rr_n (by omega)]
    simp only [mm_gr, O.1.f f1, Option.bind_some, l81]
    have e8 : sk_ref 81 n = some (82 + 102 * n) := by
      rcases (by omega : n = 0 ∨ n = 1 ∨ n = 2 ∨ n = 3) with rfl | rfl | rfl | rfl <;> decide +kernel
    rw [if_pos (rr_in (by omega) (by omega)), O.1.f e8]
    simp only [Option.bind_some]
    have hb := sk_bk c
    generalize hbb : 82 + 102 * n = b at hb ⊢
    rw [if_pos hx]
    refine co_si O (by rcases hb with rfl | rfl | rfl | rfl <;> decide +kernel) (by rcases hb with rfl | rfl | rfl | rfl <;> decide +kernel) (fun h1 I1 O1 => ?_)
    have e3 : mm_i h1 32 3 = nI n := by
      rw [O1.i (by decide +kernel) (by decide +kernel)]
      show va_up s.2.1 b _ 32 3 = _
      rw [vu_off (by omega), en]
    rw [e3]
    refine co_si O1 (by decide +kernel) (by decide +kernel) (fun h2 I2 O2 => ?_)
    rw [show mm_i h2 32 3 = nI n + 1 from by
      rw [O2.i (by decide +kernel) (by decide +kernel)]
      show va_up (mI s b 4 x).2.1 32 (upd ((mI s b 4 x).2.1 32) 3 (nI n + 1)) 32 3 = _
      rw [vu_at, upd_at]]
    refine tr_mk ⟨?_, _, _, O2⟩
    rw [nI_1, nI_pred]
  · rw [if_neg (by rw [nI_ltI (by omega) (by omega)]; exact c), if_neg (by rw [nI_ltI (by omega) (by omega)]; exact c)]
    exact tr_mk (cP.mk O)
theorem cp_tell {x w : Int32} (O : cO L h M I s) (i : iC s) : tr (bd_X11_tell 32 x w h) (cP L (nTell s x w)) := by
  have f0 : sk_ref 32 0 = some 33 := (by decide +kernel)
  unfold bd_X11_tell nTell
  refine co_find O i (fun e => ?_) (fun b hb e => ?_)
  · rw [e]; exact tr_mk (cP.mk O)
  · rw [e]
    simp only [mm_gr, O.1.f f0, Option.bind_some]
    refine co_learn hb O (fun e2 => ?_) (fun h1 M1 t e2 O1 => ?_)
    · rw [e2]; exact tr_ip rfl (tr_mk (cP.mk O))
    · rw [e2]
      refine tr_in (by decide) ?_
      simp only [O1.1.f f0, Option.bind_some]
      exact ce_clear O1.1 (by decide +kernel) (fun h2 E2 => tr_mk ⟨rfl, _, _, O1.m E2⟩)
theorem cp_start {x : Int32} (O : cO L h M I s) (i : iC s) : tr (bd_X11_start 32 x h) (cP L (nStart s x)) := by
  have i' := i
  obtain ⟨i1, i2, -, i4⟩ := i'
  unfold bd_X11_start nStart
  refine co_find O i (fun e => ?_) (fun b hb e => ?_)
  · rw [e]; exact tr_mk (cP.mk O)
  · rw [e]
    refine co_begin hb O i1 i2 (i4 b hb).1 (fun w => ?_) (fun h1 M1 I1 w O1 => ?_)
    · unfold mReady at w
      refine tr_ip rfl (tr_mk ?_)
      show cP L (if _ then _ else _) _ _
      rw [if_neg w]; exact cP.mk O
    · unfold mReady at w
      refine tr_in (by decide) (tr_mk ?_)
      show cP L (if _ then _ else _) _ _
      rw [if_pos w]; exact ⟨rfl, _, _, O1⟩
theorem cp_say {x : Int32} (O : cO L h M I s) (i : iC s) : tr (bd_X11_say 32 x h) (cP L (nSay s x)) := by
  have o33 : ob_r 33 = true := (by decide +kernel)
  have e33 := O.r o33
  have l33 : (s.1 33).length ≤ 600 := by rw [← e33]; exact O.1.le (ob_nr o33) (by decide +kernel)
  have f0 : sk_ref 32 0 = some 33 := (by decide +kernel)
  unfold bd_X11_say nSay
  refine co_find O i (fun e => ?_) (fun b hb e => ?_)
  · rw [e]; exact tr_mk (cP.mk O)
  · rw [e]
    show tr _ (cP L (if _ then _ else _))
    simp only [mm_gr, O.1.f f0, Option.bind_some]
    rw [O.1.n (ob_nr o33), e33]
    by_cases c1 : (s.1 33).length < 1
    · rw [if_pos (by rw [show ((1 : Int32)) = nI 1 from rfl, nI_ltI (by omega) (by omega)]; exact c1), if_neg (fun z => by omega)]
      exact tr_mk (cP.mk O)
    · rw [if_neg (by rw [show ((1 : Int32)) = nI 1 from rfl, nI_ltI (by omega) (by omega)]; exact c1)]
      by_cases c2 : 400 < (s.1 33).length
      · rw [if_pos (by rw [show ((400 : Int32)) = nI 400 from rfl, nI_ltI (by omega) (by omega)]; exact c2), if_neg (fun z => by omega)]
        exact tr_mk (cP.mk O)
      · rw [if_neg (by rw [show ((400 : Int32)) = nI 400 from rfl, nI_ltI (by omega) (by omega)]; exact c2)]
        refine co_speak hb O (by omega) (i.2.2.2 b hb).1 (fun h1 w O1 => ?_) (fun h1 I1 w1 w2 O1 => ?_)
        · refine tr_ip rfl ?_
          rw [if_neg (fun z => w z.2)]
          exact tr_mk (cP.mk O1)
        · refine tr_in (by decide) ?_
          rw [if_pos ⟨⟨by omega, by omega⟩, w1, w2⟩]
          simp only [O1.1.f f0, Option.bind_some]
          refine ce_clear O1.1 (by decide +kernel) (fun h2 E2 => ?_)
          have O2 := O1.m E2
          have fb : sk_ref b 0 = some (b + 1) := (by rcases hb with rfl | rfl | rfl | rfl <;> decide +kernel)
          simp only [O2.1.f fb, Option.bind_some]
          rw [O2.1.zn hb]
          refine tr_mk ⟨?_, _, _, O2⟩
          show some (Value.int (nI (va_up s.2.2 b _ b).length)) = _
          rw [vu_at, List.length_append]; rfl
theorem cp_update {x a : Int32} (O : cO L h M I s) (i : iC s) : tr (bd_X11_update 32 x a h) (cP L (nUpdate s x a)) := by
  unfold bd_X11_update nUpdate
  refine co_find O i (fun e => ?_) (fun b hb e => ?_)
  · rw [e]; exact tr_mk (cP.mk O)
  · rw [e]
    show tr _ (cP L (if _ then _ else _))
    by_cases c1 : a < 0
    · rw [if_pos c1, if_neg (fun z => z.1 c1)]; exact tr_mk (cP.mk O)
    · rw [if_neg c1]
      by_cases c2 : 1 < a
      · rw [if_pos c2, if_neg (fun z => z.2.1 c2)]; exact tr_mk (cP.mk O)
      · rw [if_neg c2]
        refine co_renew hb O i.1 (i.2.2.2 b hb).1 (fun h1 M1 w O1 => ?_) (fun h1 M1 I1 w1 w2 O1 => ?_)
        · refine tr_ip rfl ?_
          rw [if_neg (fun z => w z.2.2)]
          exact tr_mk (cP.mk O1)
        · refine tr_in (by decide) ?_
          rw [if_pos ⟨c1, c2, w1, w2⟩]
          have fb : sk_ref b 0 = some (b + 1) := (by rcases hb with rfl | rfl | rfl | rfl <;> decide +kernel)
          refine tr_gr (O1.1.f fb) ?_
          rw [O1.1.zn hb]
          refine tr_mk ⟨?_, _, _, O1⟩
          show some (Value.int (nI (va_up s.2.2 b _ b).length)) = _
          rw [vu_at, List.length_append]; rfl
theorem cp_close {x : Int32} (O : cO L h M I s) (i : iC s) : tr (bd_X11_close 32 x h) (cP L (nClose s x)) := by
  unfold bd_X11_close nClose
  refine co_find O i (fun e => ?_) (fun b hb e => ?_)
  · rw [e]; exact tr_mk (cP.mk O)
  · rw [e]
    show tr _ (cP L (if _ then _ else _))
    refine co_shut hb O (i.2.2.2 b hb).1 (fun h1 M1 w O1 => ?_) (fun h1 M1 I1 w1 w2 O1 => ?_)
    · refine tr_ip rfl ?_
      rw [if_neg w]
      exact tr_mk (cP.mk O1)
    · refine tr_in (by decide) ?_
      rw [if_pos ⟨w1, w2⟩]
      exact tr_mk ⟨rfl, _, _, O1⟩
end FCE
