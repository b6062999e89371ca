/-! ===== the class's calls: carry, give, meddle, alter, and those that only tell ===== -/
theorem nCarry_n {s : sT} {x y : Int32} (h : fd s x = none ∨ fd s y = none) : nCarry s x y = (-1, s) := by
  unfold nCarry
  rcases h with h | h
  · rw [h]
  · rw [h]
    cases fd s x <;> rfl
theorem nCarry_0 {s : sT} {x y : Int32} {b c : Nat} (hx : fd s x = some b) (hy : fd s y = some c) (hz : s.2.2 b = []) : nCarry s x y = (-1, s) := by
  unfold nCarry; rw [hx, hy]; show (match s.2.2 b with | [] => _ | l :: z => _) = _; rw [hz]
theorem nCarry_1 {s : sT} {x y : Int32} {b c : Nat} {l : List Int32} {z : List (List Int32)} (hx : fd s x = some b) (hy : fd s y = some c) (hz : s.2.2 b = l :: z) : nCarry s x y = ((mRead (mZ s b z) c l).2.1 c 5, mRead (mZ s b z) c l) := by
  unfold nCarry; rw [hx, hy]; show (match s.2.2 b with | [] => _ | l :: z => _) = _; rw [hz]
section FCB
variable {L : Nat} {h h' : mm_H} {M : Nat → List Int32} {I : Nat → Nat → Int32} {s : sT}
variable {r o b : Nat} {f : mm_H → mm_O} {g : Int32 → mm_H → mm_O} {Q : Option Value → mm_H → Prop}
theorem cO.z (O : cO L h M I s) {z : List (List Int32)} (E : cE L h' M I (va_up s.2.2 b z)) : cO L h' M I (mZ s b z) := ⟨E, O.2⟩
theorem cp_carry {x y : Int32} (O : cO L h M I s) (i : iC s) : tr (bd_X11_carry 32 x y h) (cP L (nCarry s x y)) := by
  unfold bd_X11_carry
  refine co_find O i (fun e => ?_) (fun b hb e => ?_)
  · rw [nCarry_n (Or.inl e)]
    exact co_find O i (fun _ => tr_mk (cP.mk O)) (fun c hc _ => tr_mk (cP.mk O))
  · refine co_find O i (fun e2 => ?_) (fun c hc e2 => ?_)
    · rw [nCarry_n (Or.inr e2)]
      exact tr_mk (cP.mk O)
    · have fb : sk_ref b 0 = some (b + 1) := (by rcases hb with rfl | rfl | rfl | rfl <;> decide +kernel)
      have f2 : sk_ref 32 2 = some 35 := (by decide +kernel)
      have g3 : sk_ref 35 3 = some 65 := (by decide +kernel)
      refine tr_gr (O.1.f fb) ?_
      rw [O.1.zn hb]
      have zl := O.1.zl hb
      cases hz : s.2.2 b with
      | nil =>
        rw [nCarry_0 e e2 hz, if_pos (by rfl)]
        exact tr_mk (cP.mk O)
      | cons l z =>
        rw [nCarry_1 e e2 hz]
        rw [hz, List.length_cons] at zl
        rw [List.length_cons, if_neg (nI_ne0 (by omega) (by omega))]
        refine tr_gr (O.1.f f2) (tr_gr (O.1.f g3) (tr_gr (O.1.f fb) ?_))
        refine ce_first hb O.1 hz (fun h1 ll E1 => ?_)
        have O1 := O.t E1 (by decide +kernel)
        refine tr_gr (O1.1.f fb) ?_
        refine ce_drop hb O1.1 (fun w => absurd w (by rw [hz]; simp)) (fun h2 x2 l2 w E2 => ?_)
        have w' : l :: z = x2 :: l2 := hz.symm.trans w
        obtain ⟨-, rfl⟩ : l = x2 ∧ z = l2 := by simpa using w'
        have O2 := O1.z E2
        refine tr_gr (O2.1.f f2) (tr_gr (O2.1.f g3) ?_)
        refine co_read hc O2 vu_at (i.2.2.2 c hc).2.2.2 (fun h3 M3 I3 O3 => ?_)
        have o5 : mm_i h3 c 5 = (mRead (mZ s b z) c l).2.1 c 5 := O3.i (by rcases hc with rfl | rfl | rfl | rfl <;> decide +kernel) (by rcases hc with rfl | rfl | rfl | rfl <;> decide +kernel)
        rw [o5]
        exact tr_mk ⟨rfl, M3, I3, O3⟩
theorem cp_give {x : Int32} (O : cO L h M I s) (i : iC s) : tr (bd_X11_give 32 x h) (cP L (nGive s x)) := by
  have o33 : ob_r 33 = true := (by decide +kernel)
  have e33 := O.r o33
  have l33 : (M 33).length ≤ 600 := O.1.le (ob_nr o33) (by decide +kernel)
  have f0 : sk_ref 32 0 = some 33 := (by decide +kernel)
  have f2 : sk_ref 32 2 = some 35 := (by decide +kernel)
  have g3 : sk_ref 35 3 = some 65 := (by decide +kernel)
  unfold bd_X11_give nGive
  refine co_find O i (fun e => ?_) (fun b hb e => ?_)
  · rw [e]; exact tr_mk (cP.mk O)
  · rw [e]
    show tr _ (cP L ((mRead (mM s 33 []) b (s.1 33)).2.1 b 5, mRead (mM s 33 []) b (s.1 33)))
    refine tr_gr (O.1.f f2) (tr_gr (O.1.f g3) (tr_gr (O.1.f f0) ?_))
    refine ce_copy 600 O.1 (by decide +kernel) (by decide +kernel) (by decide +kernel) (by decide) l33 (fun h1 E1 => ?_)
    rw [e33] at E1
    have O1 := O.t E1 (by decide +kernel)
    refine tr_gr (O1.1.f f0) ?_
    refine ce_clear O1.1 (by decide +kernel) (fun h2 E2 => ?_)
    have O2 := O1.m E2
    refine tr_gr (O2.1.f f2) (tr_gr (O2.1.f g3) ?_)
    have iE' := (i.2.2.2 b hb).2.2.2
    have b1 : 82 ≤ b := by unfold sk_b at hb; omega
    refine co_read hb O2 (by rw [vu_off (by decide), vu_at]) (fun w1 w2 => ?_) (fun h3 M3 I3 O3 => ?_)
    · obtain ⟨j1, j2, j3, j4, j5, j6, j7, j8, j9⟩ := iE' w1 w2
      have t : (mM s 33 []).1 (b + 100) = s.1 (b + 100) := mM_off (by omega)
      refine ⟨by rw [mM_off (by decide)]; exact j1, j2.m (by omega) (by omega) (by omega), j3.m (by omega) (by omega) (by omega), j4, ?_, ?_, ?_, j8, j9⟩
      · rw [t]; exact j5
      · rw [t]; exact j6
      · rw [t]; exact j7
    · rw [show mm_i h3 b 5 = (mRead (mM s 33 []) b (s.1 33)).2.1 b 5 from O3.i (by rcases hb with rfl | rfl | rfl | rfl <;> decide +kernel) (by rcases hb with rfl | rfl | rfl | rfl <;> decide +kernel)]
      exact tr_mk ⟨rfl, M3, I3, O3⟩
theorem cp_meddle {x w : Int32} (O : cO L h M I s) (i : iC s) : tr (bd_X11_meddle 32 x w h) (cP L (nMeddle s x w)) := by
  unfold bd_X11_meddle nMeddle
  refine co_find O i (fun e => ?_) (fun b hb e => ?_)
  · rw [e]; exact tr_mk (cP.mk O)
  · rw [e]
    show tr _ (cP L (if w = 0 then (match s.2.2 b with | [] => (0, s) | _ :: z => (1, mZ s b z)) else if w = 1 then (match s.2.2 b with | [] => (0, s) | l :: z => if z.length < 31 then (1, mZ s b (l :: l :: z)) else (0, s)) else if w = 2 then (match s.2.2 b with | l :: k :: z => (1, mZ s b (k :: l :: z)) | _ => (0, s)) else (0, s)))
    have fb : sk_ref b 0 = some (b + 1) := (by rcases hb with rfl | rfl | rfl | rfl <;> decide +kernel)
    by_cases c0 : w = 0
    · rw [if_pos c0, if_pos c0]
      refine tr_gr (O.1.f fb) ?_
      refine ce_drop hb O.1 (fun z => ?_) (fun h2 x2 l2 z E2 => ?_)
      · rw [z]; exact tr_ip (Or.inl rfl) (tr_mk (cP.mk O))
      · rw [z]; exact tr_ip (Or.inr rfl) (tr_mk ⟨rfl, _, _, O.z E2⟩)
    · rw [if_neg c0, if_neg c0]
      by_cases c1 : w = 1
      · rw [if_pos c1, if_pos c1]
        refine tr_gr (O.1.f fb) ?_
        refine ce_twice hb O.1 (fun z => ?_) (fun h2 x2 l2 z zl E2 => ?_)
        · refine tr_ip (Or.inl rfl) (tr_mk ?_)
          rcases z with z | z
          · rw [z]; exact cP.mk O
          · cases hz : s.2.2 b with
            | nil => exact cP.mk O
            | cons l k =>
              rw [hz, List.length_cons] at z
              show cP L (if k.length < 31 then _ else _) _ _
              rw [if_neg (by omega)]; exact cP.mk O
        · rw [z]
          refine tr_ip (Or.inr rfl) (tr_mk ?_)
          show cP L (if l2.length < 31 then _ else _) _ _
          rw [if_pos zl]; exact ⟨rfl, _, _, O.z E2⟩
      · rw [if_neg c1, if_neg c1]
        by_cases c2 : w = 2
        · rw [if_pos c2, if_pos c2]
          refine tr_gr (O.1.f fb) ?_
          refine ce_swap hb O.1 (fun z => ?_) (fun h2 x2 y2 l2 z E2 => ?_)
          · refine tr_ip (Or.inl rfl) (tr_mk ?_)
            match hz : s.2.2 b with
            | [] => exact cP.mk O
            | [l] => exact cP.mk O
            | l :: k :: q => exact absurd z (by rw [hz, List.length_cons, List.length_cons]; omega)
          · rw [z]; exact tr_ip (Or.inr rfl) (tr_mk ⟨rfl, _, _, O.z E2⟩)
        · rw [if_neg c2, if_neg c2]
          exact tr_mk (cP.mk O)
theorem m255 {m : Int32} (h0 : ¬ m < 0) (h1 : m ≤ 255) : m &&& 255 = m := by
  obtain ⟨k, hk, rfl⟩ := nI_of h0
  rw [show ((255 : Int32)) = nI 255 from rfl, nI_leI hk (by decide)] at h1
  rw [nI_and255 hk, Nat.mod_eq_of_lt (by omega)]
theorem cp_alter {x k m : Int32} (O : cO L h M I s) (i : iC s) : tr (bd_X11_alter 32 x k m h) (cP L (nAlter s x k m)) := by
  unfold bd_X11_alter nAlter
  refine co_find O i (fun e => ?_) (fun b hb e => ?_)
  · rw [e]; exact tr_mk (cP.mk O)
  · rw [e]
    have fb : sk_ref b 0 = some (b + 1) := (by rcases hb with rfl | rfl | rfl | rfl <;> decide +kernel)
    refine tr_gr (O.1.f fb) ?_
    rw [O.1.zn hb]
    have zl := O.1.zl hb
    cases hz : s.2.2 b with
    | nil =>
      rw [if_pos (by rfl)]
      show tr _ (cP L (match s.2.2 b with | [] => _ | l :: z => _))
      rw [hz]
      exact tr_mk (cP.mk O)
    | cons l z =>
      show tr _ (cP L (match s.2.2 b with | [] => _ | l :: z => _))
      rw [hz]
      show tr _ (cP L (if (¬ m < 0 ∧ m ≤ 255) ∧ ¬ k < 0 ∧ k < nI l.length then (1, mZ s b (l.set (mm_n k) (l.getD (mm_n k) 0 ^^^ m) :: z)) else (0, s)))
      rw [hz, List.length_cons] at zl
      rw [List.length_cons, if_neg (nI_ne0 (by omega) (by omega))]
      by_cases c1 : m < 0
      · rw [if_pos c1, if_neg (fun q => q.1.1 c1)]; exact tr_mk (cP.mk O)
      · rw [if_neg c1]
        by_cases c2 : m ≤ 255
        · rw [if_pos c2]
          refine tr_gr (O.1.f fb) ?_
          refine ce_flip hb O.1 hz (m255 c1 c2) (fun q => ?_) (fun h2 j hj ej E2 => ?_)
          · refine tr_ip (Or.inl rfl) (tr_mk ?_)
            rw [if_neg (fun p => by
              rcases q with q | q
              · exact p.2.1 q
              · exact Int32.not_le.mpr p.2.2 q)]
            exact cP.mk O
          · subst ej
            have jl : l.length < 2 ^ 31 := by
              obtain ⟨M1, I1, P, C, -, -, ps⟩ := O.1
              obtain ⟨s1, s2, p, s3, s4, s5⟩ := ps b hb
              have := C.le (s3.u hb (k := 0) (by omega)) (s3.v hb (by omega))
              rw [s5 0 (by rw [hz]; simp), hz] at this
              have : l.length ≤ 422 := this
              omega
            refine tr_ip (Or.inr rfl) (tr_mk ?_)
            rw [rr_n (by omega), if_pos ⟨⟨c1, c2⟩, nI_pos (by omega), by rw [nI_ltI (by omega) jl]; exact hj⟩]
            exact ⟨rfl, _, _, O.z E2⟩
        · rw [if_neg c2, if_neg (fun q => c2 q.1.2)]; exact tr_mk (cP.mk O)
theorem cp_written {x k j : Int32} (O : cO L h M I s) (i : iC s) : tr (bd_X11_written 32 x k j h) (cP L (nWritten s x k j, s)) := by
  unfold bd_X11_written nWritten
  refine co_find O i (fun e => ?_) (fun b hb e => ?_)
  · rw [e]; exact tr_mk (cP.mk O)
  · rw [e]
    refine tr_gr (b := b + 1) (O.1.f (by rcases hb with rfl | rfl | rfl | rfl <;> decide +kernel)) ?_
    rw [cs_byteOf hb O.1, mm_qi_s]
    exact tr_mk (cP.mk O)
theorem cp_given {x j : Int32} (O : cO L h M I s) (i : iC s) : tr (bd_X11_given 32 x j h) (cP L (nGiven s x j, s)) := by
  unfold bd_X11_given nGiven
  refine co_find O i (fun e => ?_) (fun b hb e => ?_)
  · rw [e]; exact tr_mk (cP.mk O)
  · rw [e]
    refine tr_gr (b := b + 67) (O.1.f (by rcases hb with rfl | rfl | rfl | rfl <;> decide +kernel)) ?_
    refine ce_at O.1 (by rcases hb with rfl | rfl | rfl | rfl <;> decide +kernel) ?_
    rw [O.r (r := b + 67) (by rcases hb with rfl | rfl | rfl | rfl <;> decide +kernel)]
    exact tr_mk (cP.mk O)
theorem cp_secret {x w j : Int32} (O : cO L h M I s) (i : iC s) : tr (bd_X11_secret 32 x w j h) (cP L (nSecret s x w j, s)) := by
  unfold bd_X11_secret nSecret
  refine co_find O i (fun e => ?_) (fun b hb e => ?_)
  · rw [e]; exact tr_mk (cP.mk O)
  · rw [e]
    show tr _ (cP L (if w = 0 then (if s.2.1 (b + 69) 4 = 0 then -1 else rr_at (s.1 (b + 70)) j) else if w = 1 then (if s.2.1 (b + 76) 4 = 0 then -1 else rr_at (s.1 (b + 77)) j) else -1, s))
    by_cases c0 : w < 0
    · rw [if_pos c0, if_neg (fun z => by rw [z] at c0; exact absurd c0 (by decide)), if_neg (fun z => by rw [z] at c0; exact absurd c0 (by decide))]
      exact tr_mk (cP.mk O)
    · rw [if_neg c0]
      by_cases c1 : w ≤ 1
      · rw [if_pos c1]
        by_cases c2 : w = 0
        · rw [if_pos c2, if_pos c2]
          refine tr_gr (b := b + 69) (O.1.f (by rcases hb with rfl | rfl | rfl | rfl <;> decide +kernel)) ?_
          unfold jn_X11_secret_40
          rw [O.i (by rcases hb with rfl | rfl | rfl | rfl <;> decide +kernel) (by rcases hb with rfl | rfl | rfl | rfl <;> decide +kernel)]
          by_cases c3 : s.2.1 (b + 69) 4 = 0
          · rw [if_pos c3, if_pos c3]; exact tr_mk (cP.mk O)
          · rw [if_neg c3, if_neg c3]
            refine tr_gr (b := b + 70) (O.1.f (by rcases hb with rfl | rfl | rfl | rfl <;> decide +kernel)) ?_
            refine ce_at O.1 (by rcases hb with rfl | rfl | rfl | rfl <;> decide +kernel) ?_
            rw [O.r (r := b + 70) (by rcases hb with rfl | rfl | rfl | rfl <;> decide +kernel)]
            exact tr_mk (cP.mk O)
        · have w1 : w = 1 := by
            obtain ⟨k, hk, rfl⟩ := nI_of c0
            rw [show ((1 : Int32)) = nI 1 from rfl, nI_leI hk (by decide)] at c1
            have : k ≠ 0 := fun z => c2 (by rw [z]; rfl)
            rw [show k = 1 by omega]; rfl
          rw [if_neg c2, if_neg c2, if_pos w1]
          refine tr_gr (b := b + 76) (O.1.f (by rcases hb with rfl | rfl | rfl | rfl <;> decide +kernel)) ?_
          unfold jn_X11_secret_40
          rw [O.i (by rcases hb with rfl | rfl | rfl | rfl <;> decide +kernel) (by rcases hb with rfl | rfl | rfl | rfl <;> decide +kernel)]
          by_cases c3 : s.2.1 (b + 76) 4 = 0
          · rw [if_pos c3, if_pos c3]; exact tr_mk (cP.mk O)
          · rw [if_neg c3, if_neg c3]
            refine tr_gr (b := b + 77) (O.1.f (by rcases hb with rfl | rfl | rfl | rfl <;> decide +kernel)) ?_
            refine ce_at O.1 (by rcases hb with rfl | rfl | rfl | rfl <;> decide +kernel) ?_
            rw [O.r (r := b + 77) (by rcases hb with rfl | rfl | rfl | rfl <;> decide +kernel)]
            exact tr_mk (cP.mk O)
      · rw [if_neg c1, if_neg (fun z => c1 (by rw [z]; decide)), if_neg (fun z => c1 (by rw [z]; decide))]
        exact tr_mk (cP.mk O)
theorem cp_report {w : Int32} (hb : sk_b b) (O : cO L h M I s) (K : tr (g (nReport s b w) h) Q) : tr (mm_qi (bd_X0_report b w h) g) Q := by
  have e : bd_X0_report b w h = some (some (.int (nReport s b w)), h) := by
    unfold bd_X0_report nReport
    have ob : sk_ob b = true := (by rcases hb with rfl | rfl | rfl | rfl <;> decide +kernel)
    have fb : sk_ref b 0 = some (b + 1) := (by rcases hb with rfl | rfl | rfl | rfl <;> decide +kernel)
    have f1 : sk_ref b 1 = some (b + 67) := (by rcases hb with rfl | rfl | rfl | rfl <;> decide +kernel)
    have f2 : sk_ref b 2 = some (b + 69) := (by rcases hb with rfl | rfl | rfl | rfl <;> decide +kernel)
    have f3 : sk_ref b 3 = some (b + 76) := (by rcases hb with rfl | rfl | rfl | rfl <;> decide +kernel)
    have n67 : ob_r (b + 67) = true := (by rcases hb with rfl | rfl | rfl | rfl <;> decide +kernel)
    simp only [mm_gr, O.1.f fb, O.1.f f1, O.1.f f2, O.1.f f3, Option.bind_some]
    rw [O.i ob (k := 5) (by rcases hb with rfl | rfl | rfl | rfl <;> decide +kernel), O.i ob (k := 14) (by rcases hb with rfl | rfl | rfl | rfl <;> decide +kernel), O.i ob (k := 15) (by rcases hb with rfl | rfl | rfl | rfl <;> decide +kernel), O.i ob (k := 16) (by rcases hb with rfl | rfl | rfl | rfl <;> decide +kernel), O.i ob (k := 17) (by rcases hb with rfl | rfl | rfl | rfl <;> decide +kernel), O.i ob (k := 4) (by rcases hb with rfl | rfl | rfl | rfl <;> decide +kernel), O.1.zn hb, O.1.n (ob_nr n67), O.r n67, O.i (a := b + 69) (k := 3) (by rcases hb with rfl | rfl | rfl | rfl <;> decide +kernel) (by rcases hb with rfl | rfl | rfl | rfl <;> decide +kernel), O.i (a := b + 76) (k := 3) (by rcases hb with rfl | rfl | rfl | rfl <;> decide +kernel) (by rcases hb with rfl | rfl | rfl | rfl <;> decide +kernel)]
    by_cases q0 : w = 0
    · rw [if_pos q0, if_pos q0]
    · rw [if_neg q0, if_neg q0]
      by_cases q1 : w = 1
      · rw [if_pos q1, if_pos q1]
      · rw [if_neg q1, if_neg q1]
        by_cases q2 : w = 2
        · rw [if_pos q2, if_pos q2]
        · rw [if_neg q2, if_neg q2]
          by_cases q3 : w = 3
          · rw [if_pos q3, if_pos q3]
          · rw [if_neg q3, if_neg q3]
            by_cases q4 : w = 4
            · rw [if_pos q4, if_pos q4]
            · rw [if_neg q4, if_neg q4]
              by_cases q5 : w = 5
              · rw [if_pos q5, if_pos q5]
              · rw [if_neg q5, if_neg q5]
                by_cases q6 : w = 6
                · rw [if_pos q6, if_pos q6]
                · rw [if_neg q6, if_neg q6]
                  by_cases q7 : w = 7
                  · rw [if_pos q7, if_pos q7]
                    by_cases z : s.2.1 b 16 = 0
                    · rw [if_pos z, if_pos z]
                    · rw [if_neg z, if_neg z]
                  · rw [if_neg q7, if_neg q7]
                    by_cases q8 : w = 8
                    · rw [if_pos q8, if_pos q8]
                      by_cases z : s.2.1 b 17 = 0
                      · rw [if_pos z, if_pos z]
                      · rw [if_neg z, if_neg z]
                    · rw [if_neg q8, if_neg q8]
                      by_cases q9 : w = 9
                      · rw [if_pos q9, if_pos q9]
                        by_cases z : s.2.1 b 4 = 0
                        · rw [if_pos z, if_pos z]
                        · rw [if_neg z, if_neg z]
                      · rw [if_neg q9, if_neg q9]
  rw [e, mm_qi_s]; exact K
theorem cp_state {x w : Int32} (O : cO L h M I s) (i : iC s) : tr (bd_X11_state 32 x w h) (cP L (nState s x w, s)) := by
  unfold bd_X11_state nState
  refine co_find O i (fun e => ?_) (fun b hb e => ?_)
  · rw [e]; exact tr_mk (cP.mk O)
  · rw [e]
    exact cp_report hb O (tr_mk (cP.mk O))
theorem cp_hash {j : Int32} (O : cO L h M I s) : tr (bd_X11_hash 32 j h) (cP L (nHash s j, s)) := by
  have f0 : sk_ref 32 0 = some 33 := (by decide +kernel)
  have f2 : sk_ref 32 2 = some 35 := (by decide +kernel)
  have g0 : sk_ref 35 0 = some 36 := (by decide +kernel)
  have g7 : sk_ref 35 7 = some 73 := (by decide +kernel)
  unfold bd_X11_hash nHash
  by_cases c0 : j < 0
  · rw [if_pos c0, if_pos c0]; exact tr_mk (cP.mk O)
  · rw [if_neg c0, if_neg c0]
    by_cases c1 : j < 32
    · rw [if_pos c1, if_pos c1]
      simp only [mm_gr, O.1.f f0, O.1.f f2, O.1.f g0, O.1.f g7, Option.bind_some]
      refine ce_digest O.1 (by decide +kernel) (by decide +kernel) (by decide +kernel) (fun h1 E1 => ?_)
      rw [O.r (r := 33) (by decide +kernel)] at E1
      have O1 := O.t E1 (by decide +kernel)
      simp only [O1.1.f f2, O1.1.f g7, Option.bind_some]
      refine ce_at O1.1 (by decide +kernel) ?_
      rw [vu_at]
      exact tr_mk ⟨rfl, _, _, O1⟩
    · rw [if_neg c1, if_neg c1]; exact tr_mk (cP.mk O)
theorem cp_about {w : Int32} (O : cO L h M I s) : tr (bd_X11_about 32 w h) (cP L (nAbout s w, s)) := by
  have f0 : sk_ref 32 0 = some 33 := (by decide +kernel)
  have o33 : ob_r 33 = true := (by decide +kernel)
  unfold bd_X11_about nAbout
  by_cases c0 : w = 0
  · rw [if_pos c0, if_pos c0]
    refine tr_gr (O.1.f f0) ?_
    rw [O.1.n (ob_nr o33), O.r o33]
    exact tr_mk (cP.mk O)
  · rw [if_neg c0, if_neg c0]
    by_cases c1 : w = 1
    · rw [if_pos c1, if_pos c1, O.i (by decide +kernel) (by decide +kernel)]; exact tr_mk (cP.mk O)
    · rw [if_neg c1, if_neg c1]; exact tr_mk (cP.mk O)
end FCB
