/-! ===== the reference's calls: make, tell, start, say, update, close ===== -/
section RFB
variable {L : Nat} {h h' : mm_H} {s s' : sT} {e b : Nat} {f : mm_H → mm_O} {g : Int32 → mm_H → mm_O} {Q : Option Value → mm_H → Prop}
theorem cnt_q {v : Int32} (he : e < 4) : eqE s (mI s 32 3 v) (82 + 102 * e) := ⟨fun _ _ _ => rfl, mI_o (by omega), mI_o (by omega), mI_o (by omega), rfl⟩
theorem rS.i {k : Nat} {v : Int32} (R : rS h s e b) (hk : 5 ≠ k) : rS h (mI s b k v) e b := by
  unfold rS
  rw [mI_b hk]; exact R
theorem rS.m {r : Nat} {l : List Int32} (R : rS h s e b) (h1 : b + 100 ≠ r) (h2 : b + 88 ≠ r) : rS h (mM s r l) e b := by
  unfold rS
  rw [mM_off h1, mM_off h2]; exact R
theorem cq_make {x : Int32} (R : rR L h s) (Z : jB s) (J : jC s) (hx : x = 0 ∨ x = 1) : tr (bd_X12_make 490 x h) (rP L h (nMake s x)) := by
  obtain ⟨r1, ⟨r2, r3⟩, r4, r5⟩ := id R
  obtain ⟨n, hn, en, -⟩ := J.2.2.1
  unfold bd_X12_make nMake
  rw [r4, en]
  by_cases c : n = 4
  · rw [if_pos (by rw [c]; rfl), if_neg (show ¬ nI n < 4 from by rw [c]; decide)]
    exact tr_mk (rP.mk R)
  · have n4 : n < 4 := (by omega)
    rw [if_neg (show ¬ nI n = 4 from by rw [show ((4 : Int32)) = nI 4 from rfl, nI_eq (by omega) (by omega)]; exact c), if_pos (show nI n < 4 from by rw [show ((4 : Int32)) = nI 4 from rfl, nI_ltI (by omega) (by omega)]; exact n4), rr_n (by omega)]
    have x1 : x &&& 1 = x := by rcases hx with rfl | rfl <;> decide
    rw [x1]
    refine tr_gr r1.1.r3 (dq_sk (by decide) r1.1.l492 rfl n4 (by decide) (fun h1 F1 v1 => ?_))
    rw [F1.i (a := 490) (k := 2) (by omega), r4, en]
    refine dq_fd (fun h2 F2 v2 => ?_)
    rw [show mm_i h2 490 2 = nI n + 1 from v2, nI_1, nI_m1]
    have F : dF (fun a k => (a = 492 ∧ k = n) ∨ (a = 490 ∧ k = 2)) h h2 := F1.c F2
    have q1 : eqE (mI s (82 + 102 * n) 4 x) (mI (mI s (82 + 102 * n) 4 x) 32 3 (nI (n + 1))) (82 + 102 * n) := cnt_q n4
    refine tr_mk ⟨rfl, ⟨r1.F F (fun a k z => by omega), ⟨by rw [F.i (by omega)]; exact r2, r3.F F (fun k _ _ => (by omega))⟩, ?_, fun e he => ?_⟩, F.mo (fun a k z => by omega)⟩
    · show mm_i h2 490 2 = (mI (mI s (82 + 102 * n) 4 x) 32 3 (nI (n + 1))).2.1 32 3
      rw [mI_at, ← nI_1]; exact v2
    · obtain ⟨a1, a2⟩ := r5 e he
      have S2 := a2.G (Nat.le_trans (Z.2 e he).2.2.2.2.1.1 (by decide)) (J.2.2.2 e he) F (fun a k z => by omega)
      by_cases ee : e = n
      · subst ee
        exact ⟨((a1.i492 F1 v1).S F2 (fun a k z => by omega)).q q1, (S2.i (by decide)).q q1⟩
      · have q2 : eqE s (mI s (82 + 102 * n) 4 x) (82 + 102 * e) := xI.eqE (bE_k n4) (bE_k he) (by omega)
        exact ⟨((a1.F (Z.2 e he) F (fun a k z w => by
          rcases z with z | z | z | z | z | z | z | z <;> omega)).q q2).q (cnt_q he), (S2.q q2).q (cnt_q he)⟩
theorem jC.make {x : Int32} {n : Nat} (J : jC s) (n4 : n < 4) (en : s.2.1 32 3 = nI n) : jC (mI (mI s (82 + 102 * n) 4 x) 32 3 (nI n + 1)) := by
  obtain ⟨j1, j2, ⟨m, hm, em, hz⟩, j4⟩ := J
  have : m = n := by rw [em, nI_eq (by omega) (by omega)] at en; exact en
  subst this
  have z0 := hz m (Nat.le_refl _) n4
  refine ⟨j1, j2, ⟨m + 1, (by omega), by rw [mI_at, nI_1], fun e h1 h2 => ?_⟩, fun e he => ?_⟩
  · rw [mI_o (show 82 + 102 * e ≠ 32 from (by omega)), mI_o (by omega)]; exact hz e (by omega) h2
  · refine jE.q ?_ (cnt_q he)
    by_cases ee : e = m
    · subst ee
      obtain ⟨⟨k1, k1'⟩, k2, k3, k4, k5, k6, k7, k8, k9, k10⟩ := j4 e he
      unfold jE
      rw [mI_b (show (5 : Nat) ≠ 4 by decide), mI_b (show (16 : Nat) ≠ 4 by decide), show (mI s (82 + 102 * e) 4 x).2.1 (82 + 102 * e + 69) = s.2.1 (82 + 102 * e + 69) from mI_o (by omega), show (mI s (82 + 102 * e) 4 x).2.1 (82 + 102 * e + 76) = s.2.1 (82 + 102 * e + 76) from mI_o (by omega), mI_at, z0]
      exact ⟨⟨k1.i (by omega), k1'.i (by omega)⟩, k2, Or.inl rfl, fun _ => k4 (Or.inl z0), ⟨fun z => absurd z (by decide), fun z => absurd z (by decide)⟩, fun _ _ => k6 (by rw [z0]; decide) (by rw [z0]; decide), fun z => absurd rfl z, fun z => absurd z (by decide), k9, fun z => absurd z (by decide), fun z => absurd z (by decide), fun z => absurd z (by decide)⟩
    · exact (j4 e he).q (xI.eqE (bE_k n4) (bE_k he) (by omega))
theorem cq_tell {x w : Int32} (R : rR L h s) (Z : jB s) (J : jC s) : tr (bd_X12_tell 490 x w h) (rP L h (nTell s x w)) := by
  obtain ⟨r1, ⟨r2, r3⟩, r4, r5⟩ := id R
  have l33 := Z.1.1
  unfold bd_X12_tell nTell
  refine dr_isEnd R J (fun e0 => ?_) (fun e he ex e0 hm => ?_)
  · rw [e0, if_pos rfl]; exact tr_mk (rP.mk R)
  · rw [e0, ex, if_neg (by decide)]
    obtain ⟨A, S⟩ := r5 e he
    have je := J.2.2.2 e he
    obtain ⟨b, hb⟩ : ∃ b, b = 82 + 102 * e := ⟨_, rfl⟩
    rw [← hb] at A S je ⊢
    have T := r1.1
    show tr _ (rP L h (match mLearn s b w with | none => (0, s) | some t => (1, mM t 33 [])))
    refine tr_gr T.r4 (tr_ip (dq_in T.l493 rfl he (by decide)) ?_)
    rw [rr_n (n := e) (by omega), A.2.1]
    by_cases s0 : s.2.1 b 5 = 0
    · rw [if_pos s0]
      have fin : ∀ (t : sT) (h1 : mm_H), mLearn s b w = some t → rB L h1 → rA h1 t e b → rS h1 t e b → dF (zR e) h h1 → xF b s t → tr (jn_X12_tell_164 490 h1) (rP L h (match mLearn s b w with | none => (0, s) | some t => (1, mM t 33 []))) := by
        intro t h1 ml B1 A1 S1 F1 X
        rw [ml]
        unfold jn_X12_tell_164
        rw [hb] at A1 S1 X
        have R1 : rR L h1 t := R.put Z J he B1 A1 S1 F1 X
        have jt : jE t b := je.learn ml
        rw [hb] at jt
        have J1 : jC t := J.put he hm jt X
        refine dq_fd (fun h2 F2 v2 => ?_)
        have FT : dF zT h1 h2 := F2.mo (fun a k z => by omega)
        have q1 := R1.2.2.2
        -- only lengths are needed for the tape
        refine tr_mk ⟨rfl, ⟨R1.1.F FT (fun a k z => by omega), ⟨by rw [mM_at]; exact v2, by rw [mM_at]; exact bs.nil⟩, by rw [FT.i (by omega)]; exact R1.2.2.1, fun e' he' => ?_⟩, (F1.mo (fun a k z => zR_A z)).t (FT.mo (fun a k z => by omega))⟩
        obtain ⟨a1, a2⟩ := q1 e' he'
        refine ⟨(a1.S FT (fun a k z => by omega)).q (tape_q he'), (a2.G ?_ (J1.2.2.2 e' he') FT (fun a k z => by omega)).q (tape_q he')⟩
        by_cases ee : e' = e
        · subst ee
          have e1 : t.1 (82 + 102 * e' + 100) = s.1 (82 + 102 * e' + 100) := by
            have ml' := ml
            rw [hb] at ml'
            unfold mLearn at ml'
            split at ml'
            · split at ml'
              · split at ml'
                · rw [← Option.some.inj ml']; exact mM_off (by omega)
                · exact absurd ml' (by simp)
              · split at ml'
                · split at ml'
                  · rw [← Option.some.inj ml']; exact mM_off (by omega)
                  · exact absurd ml' (by simp)
                · split at ml'
                  · split at ml'
                    · rw [← Option.some.inj ml']; exact mM_off (by omega)
                    · exact absurd ml' (by simp)
                  · exact absurd ml' (by simp)
            · exact absurd ml' (by simp)
          rw [e1]; exact Nat.le_trans (Z.2 e' he').2.2.2.2.1.1 (by decide)
        · rw [X.1 _ (by omega)]; exact Nat.le_trans (Z.2 e' he').2.2.2.2.1.1 (by decide)
      have no : mLearn s b w = none → tr (some (some (.int 0), h)) (rP L h (match mLearn s b w with | none => (0, s) | some t => (1, mM t 33 []))) := fun z => by rw [z]; exact tr_mk (rP.mk R)
      have zin : ∀ (hi : Nat) (hh : hi ≤ 64), (if nI (s.1 33).length < 1 then (0 : Int32) else if nI hi < nI (s.1 33).length then 0 else 1) = if 1 ≤ (s.1 33).length ∧ (s.1 33).length ≤ hi then 1 else 0 := fun hi hh => by
        by_cases c1 : (s.1 33).length < 1
        · rw [if_pos (show nI (s.1 33).length < 1 from by rw [show ((1 : Int32)) = nI 1 from rfl, nI_ltI (by omega) (by omega)]; exact c1), if_neg (fun z => by omega)]
        · rw [if_neg (show ¬ nI (s.1 33).length < 1 from by rw [show ((1 : Int32)) = nI 1 from rfl, nI_ltI (by omega) (by omega)]; exact c1)]
          by_cases c2 : hi < (s.1 33).length
          · rw [if_pos (show nI hi < nI (s.1 33).length from by rw [nI_ltI (by omega) (by omega)]; exact c2), if_neg (fun z => by omega)]
          · rw [if_neg (show ¬ nI hi < nI (s.1 33).length from by rw [nI_ltI (by omega) (by omega)]; exact c2), if_pos ⟨by omega, by omega⟩]
      have xm : ∀ (r : Nat) (l : List Int32), b + 67 ≤ r ∧ r ≤ b + 100 → xF b s (mM s r l) := fun r l hr => xM hr
      unfold jn_X12_tell_69 jn_X12_tell_120
      rw [r2]
      by_cases w0 : w = 0
      · rw [if_pos w0, dr_isIn, show ((64 : Int32)) = nI 64 from rfl, zin 64 (by decide)]
        by_cases q : 1 ≤ (s.1 33).length ∧ (s.1 33).length ≤ 64
        · have ml : mLearn s b w = some (mM s (b + 94) (s.1 33)) := by unfold mLearn; rw [if_pos s0, if_pos w0, if_pos q]
          rw [if_pos q, if_neg (by decide)]
          refine tr_gr T.r0 (tr_gr T.r5 ?_)
          rw [r2]
          refine dr_mv (i := 0) (j := 64 * e) r3 (Or.inl (by decide)) (by decide) 620 256 T.l491 T.l494 (by omega) (by omega) (by decide) (by decide) rfl (pk_mul 64 e) rfl (by omega) (fun h1 b1 F1 => ?_)
          have B1 : rB L h1 := r1.F F1 (fun a k z => by omega)
          refine tr_gr B1.1.r6 ?_
          rw [show mm_i h1 490 1 = nI (s.1 33).length from by rw [F1.i (by omega)]; exact r2]
          refine dq_sk (by decide) B1.1.l495 rfl he (by decide) (fun h2 F2 v2 => ?_)
          have F : dF (fun a k => (a = 494 ∧ 64 * e ≤ k ∧ k < 64 * e + 64) ∨ (a = 495 ∧ k = e)) h h2 := (F1.c F2).mo (fun a k z => by omega)
          exact fin _ h2 ml (B1.F F2 (fun a k z => by omega)) (A.ps F v2 (b1.F F2 (fun k _ _ => (by omega)))) ((S.G (by rw [hb]; exact Nat.le_trans (Z.2 e he).2.2.2.2.1.1 (by decide)) je F (fun a k z => by omega)).m (by omega) (by omega)) (F.R (fun z => z.elim (fun z => Or.inr (Or.inr (Or.inl z))) (fun z => re1 (by omega)))) (xm _ _ (by omega))
        · have ml : mLearn s b w = none := by unfold mLearn; rw [if_pos s0, if_pos w0, if_neg q]
          rw [if_neg q, if_pos rfl, if_neg (by rw [w0]; decide), if_neg (by rw [w0]; decide)]
          exact no ml
      · rw [if_neg w0]
        by_cases w1 : w = 1
        · rw [if_pos w1, dr_isIn, show ((16 : Int32)) = nI 16 from rfl, zin 16 (by decide)]
          by_cases q : 1 ≤ (s.1 33).length ∧ (s.1 33).length ≤ 16
          · have ml : mLearn s b w = some (mM s (b + 96) (s.1 33)) := by unfold mLearn; rw [if_pos s0, if_neg w0, if_pos w1, if_pos q]
            rw [if_pos q, if_neg (by decide)]
            refine tr_gr T.r0 (tr_gr T.r7 ?_)
            rw [r2]
            refine dr_mv (i := 0) (j := 16 * e) r3 (Or.inl (by decide)) (by decide) 620 64 T.l491 T.l496 (by omega) (by omega) (by decide) (by decide) rfl (pk_mul 16 e) rfl (by omega) (fun h1 b1 F1 => ?_)
            have B1 : rB L h1 := r1.F F1 (fun a k z => by omega)
            refine tr_gr B1.1.r8 ?_
            rw [show mm_i h1 490 1 = nI (s.1 33).length from by rw [F1.i (by omega)]; exact r2]
            refine dq_st (by decide) B1.1.l497 rfl he (by decide) (fun h2 F2 v2 => ?_)
            have F : dF (fun a k => (a = 496 ∧ 16 * e ≤ k ∧ k < 16 * e + 16) ∨ (a = 497 ∧ k = e)) h h2 := (F1.c F2).mo (fun a k z => by omega)
            exact fin _ h2 ml (B1.F F2 (fun a k z => by omega)) (A.nm F v2 (b1.F F2 (fun k _ _ => (by omega)))) ((S.G (by rw [hb]; exact Nat.le_trans (Z.2 e he).2.2.2.2.1.1 (by decide)) je F (fun a k z => by omega)).m (by omega) (by omega)) (F.R (fun z => z.elim (fun z => Or.inr (Or.inr (Or.inr (Or.inl z)))) (fun z => re1 (by omega)))) (xm _ _ (by omega))
          · have ml : mLearn s b w = none := by unfold mLearn; rw [if_pos s0, if_neg w0, if_pos w1, if_neg q]
            rw [if_neg q, if_pos rfl, if_neg (by rw [w1]; decide)]
            exact no ml
        · rw [if_neg w1]
          by_cases w2 : w = 2
          · rw [if_pos w2]
            by_cases q : (s.1 33).length = 32
            · have ml : mLearn s b w = some (mM s (b + 98) (s.1 33)) := by unfold mLearn; rw [if_pos s0, if_neg w0, if_neg w1, if_pos w2, if_pos ⟨(by omega), (by omega)⟩]
              rw [if_pos (by rw [q]; rfl)]
              refine tr_gr T.r0 (tr_gr T.r9 ?_)
              refine dr_mv (i := 0) (j := 32 * e) r3 (Or.inl (by decide)) (by decide) 620 128 T.l491 T.l498 (by omega) (by omega) (by decide) (by decide) rfl (pk_mul 32 e) (by rw [q]; rfl) (by omega) (fun h1 b1 F1 => ?_)
              have B1 : rB L h1 := r1.F F1 (fun a k z => by omega)
              refine tr_gr B1.1.r10 (dq_st (by decide) B1.1.l499 rfl he (by decide) (fun h2 F2 v2 => ?_))
              have F : dF (fun a k => (a = 498 ∧ 32 * e ≤ k ∧ k < 32 * e + 32) ∨ (a = 499 ∧ k = e)) h h2 := (F1.c F2).mo (fun a k z => by omega)
              have ne : s.1 33 ≠ [] := fun z => by rw [z] at q; exact absurd q (by decide)
              exact fin _ h2 ml (B1.F F2 (fun a k z => by omega)) (A.rn F (by rw [if_neg ne]; exact v2) (b1.F F2 (fun k _ _ => (by omega)))) ((S.G (by rw [hb]; exact Nat.le_trans (Z.2 e he).2.2.2.2.1.1 (by decide)) je F (fun a k z => by omega)).m (by omega) (by omega)) (F.R (fun z => z.elim (fun z => re4 (by omega)) (fun z => re1 (by omega)))) (xm _ _ (by omega))
            · have ml : mLearn s b w = none := by unfold mLearn; rw [if_pos s0, if_neg w0, if_neg w1, if_pos w2, if_neg (fun z => by omega)]
              rw [if_neg (show ¬ nI (s.1 33).length = 32 from by rw [show ((32 : Int32)) = nI 32 from rfl, nI_eq (by omega) (by omega)]; exact q)]
              exact no ml
          · have ml : mLearn s b w = none := by unfold mLearn; rw [if_pos s0, if_neg w0, if_neg w1, if_neg w2]
            rw [if_neg w2]
            exact no ml
    · rw [if_neg s0]
      have ml : mLearn s b w = none := by unfold mLearn; rw [if_neg s0]
      rw [ml]; exact tr_mk (rP.mk R)
end RFB
