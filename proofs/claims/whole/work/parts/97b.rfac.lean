/-! ===== the reference's calls: first part ===== -/
theorem rA.ps {h h' : mm_H} {s : sT} {e b : Nat} {l : List Int32} (A : rA h s e b) (F : dF (fun a k => (a = 494 ∧ 64 * e ≤ k ∧ k < 64 * e + 64) ∨ (a = 495 ∧ k = e)) h h') (w1 : mm_i h' 495 e = nI l.length) (w2 : bs h' 494 (64 * e) l) : rA h' (mM s (b + 94) l) e b := by
  obtain ⟨c0, c1, c2, c3, c4, c5, c6, c7, c8, c9, c10, c11, c12, c13, c14, c15, c16, c17, c18, c19, c20, c21⟩ := A
  exact ⟨by rw [F.i (by omega)]; exact c0, by rw [F.i (by omega)]; exact c1, by rw [mM_at]; exact w1, by rw [mM_at]; exact w2, by rw [F.i (by omega), mM_off (by omega)]; exact c4, by rw [mM_off (by omega)]; exact c5.F F (fun k z1 z2 => (by omega)), by rw [F.i (by omega), mM_off (by omega)]; exact c6, by rw [mM_off (by omega)]; exact c7.F F (fun k z1 z2 => (by omega)), by rw [F.i (by omega)]; exact c8, by rw [F.i (by omega)]; exact c9, by rw [F.i (by omega)]; exact c10, by rw [F.i (by omega)]; exact c11, by rw [F.i (by omega)]; exact c12, fun k l z => ⟨by rw [F.i (by omega)]; exact (c13 k l z).1, (c13 k l z).2.F F (fun j z3 z4 => (by omega))⟩, by rw [F.i (by omega), mM_off (by omega)]; exact c14, by rw [mM_off (by omega)]; exact c15.F F (fun k z1 z2 => (by omega)), by rw [F.i (by omega)]; exact c16, by rw [F.i (by omega)]; exact c17, fun z => by rw [mM_off (by omega)]; exact ⟨(c18 z).1.F F (fun k z1 z2 => (by omega)), (c18 z).2⟩, by rw [F.i (by omega)]; exact c19, by rw [F.i (by omega)]; exact c20, fun z => by rw [mM_off (by omega)]; exact ⟨(c21 z).1.F F (fun k z1 z2 => (by omega)), (c21 z).2⟩⟩
theorem rA.nm {h h' : mm_H} {s : sT} {e b : Nat} {l : List Int32} (A : rA h s e b) (F : dF (fun a k => (a = 496 ∧ 16 * e ≤ k ∧ k < 16 * e + 16) ∨ (a = 497 ∧ k = e)) h h') (w1 : mm_i h' 497 e = nI l.length) (w2 : bs h' 496 (16 * e) l) : rA h' (mM s (b + 96) l) e b := by
  obtain ⟨c0, c1, c2, c3, c4, c5, c6, c7, c8, c9, c10, c11, c12, c13, c14, c15, c16, c17, c18, c19, c20, c21⟩ := A
  exact ⟨by rw [F.i (by omega)]; exact c0, by rw [F.i (by omega)]; exact c1, by rw [F.i (by omega), mM_off (by omega)]; exact c2, by rw [mM_off (by omega)]; exact c3.F F (fun k z1 z2 => (by omega)), by rw [mM_at]; exact w1, by rw [mM_at]; exact w2, by rw [F.i (by omega), mM_off (by omega)]; exact c6, by rw [mM_off (by omega)]; exact c7.F F (fun k z1 z2 => (by omega)), by rw [F.i (by omega)]; exact c8, by rw [F.i (by omega)]; exact c9, by rw [F.i (by omega)]; exact c10, by rw [F.i (by omega)]; exact c11, by rw [F.i (by omega)]; exact c12, fun k l z => ⟨by rw [F.i (by omega)]; exact (c13 k l z).1, (c13 k l z).2.F F (fun j z3 z4 => (by omega))⟩, by rw [F.i (by omega), mM_off (by omega)]; exact c14, by rw [mM_off (by omega)]; exact c15.F F (fun k z1 z2 => (by omega)), by rw [F.i (by omega)]; exact c16, by rw [F.i (by omega)]; exact c17, fun z => by rw [mM_off (by omega)]; exact ⟨(c18 z).1.F F (fun k z1 z2 => (by omega)), (c18 z).2⟩, by rw [F.i (by omega)]; exact c19, by rw [F.i (by omega)]; exact c20, fun z => by rw [mM_off (by omega)]; exact ⟨(c21 z).1.F F (fun k z1 z2 => (by omega)), (c21 z).2⟩⟩
theorem rA.rn {h h' : mm_H} {s : sT} {e b : Nat} {l : List Int32} (A : rA h s e b) (F : dF (fun a k => (a = 498 ∧ 32 * e ≤ k ∧ k < 32 * e + 32) ∨ (a = 499 ∧ k = e)) h h') (w1 : mm_i h' 499 e = (if l = [] then 0 else 1)) (w2 : bs h' 498 (32 * e) l) : rA h' (mM s (b + 98) l) e b := by
  obtain ⟨c0, c1, c2, c3, c4, c5, c6, c7, c8, c9, c10, c11, c12, c13, c14, c15, c16, c17, c18, c19, c20, c21⟩ := A
  exact ⟨by rw [F.i (by omega)]; exact c0, by rw [F.i (by omega)]; exact c1, by rw [F.i (by omega), mM_off (by omega)]; exact c2, by rw [mM_off (by omega)]; exact c3.F F (fun k z1 z2 => (by omega)), by rw [F.i (by omega), mM_off (by omega)]; exact c4, by rw [mM_off (by omega)]; exact c5.F F (fun k z1 z2 => (by omega)), by rw [mM_at]; exact w1, by rw [mM_at]; exact w2, by rw [F.i (by omega)]; exact c8, by rw [F.i (by omega)]; exact c9, by rw [F.i (by omega)]; exact c10, by rw [F.i (by omega)]; exact c11, by rw [F.i (by omega)]; exact c12, fun k l z => ⟨by rw [F.i (by omega)]; exact (c13 k l z).1, (c13 k l z).2.F F (fun j z3 z4 => (by omega))⟩, by rw [F.i (by omega), mM_off (by omega)]; exact c14, by rw [mM_off (by omega)]; exact c15.F F (fun k z1 z2 => (by omega)), by rw [F.i (by omega)]; exact c16, by rw [F.i (by omega)]; exact c17, fun z => by rw [mM_off (by omega)]; exact ⟨(c18 z).1.F F (fun k z1 z2 => (by omega)), (c18 z).2⟩, by rw [F.i (by omega)]; exact c19, by rw [F.i (by omega)]; exact c20, fun z => by rw [mM_off (by omega)]; exact ⟨(c21 z).1.F F (fun k z1 z2 => (by omega)), (c21 z).2⟩⟩
def rR (L : Nat) (h : mm_H) (s : sT) : Prop := rB L h ∧ (mm_i h 490 1 = nI (s.1 33).length ∧ bs h 491 0 (s.1 33)) ∧ mm_i h 490 2 = s.2.1 32 3 ∧ ∀ e, e < 4 → rA h s e (82 + 102 * e) ∧ rS h s e (82 + 102 * e)
def jB (s : sT) : Prop := ((s.1 33).length ≤ 600 ∧ lby (s.1 33)) ∧ ∀ e, e < 4 → rZ s (82 + 102 * e)
def jC (s : sT) : Prop := s.1 40 = [] ∧ s.1 42 = ks_z ∧ (∃ n, n ≤ 4 ∧ s.2.1 32 3 = nI n ∧ ∀ e, n ≤ e → e < 4 → s.2.1 (82 + 102 * e) 5 = 0) ∧ ∀ e, e < 4 → jE s (82 + 102 * e)
def rP (L : Nat) (h0 : mm_H) (n : Int32 × sT) (v : Option Value) (h' : mm_H) : Prop := v = some (.int n.1) ∧ rR L h' n.2 ∧ dF (fun a _ => 490 ≤ a) h0 h'
theorem zR_A {e a k : Nat} (z : zR e a k) : 490 ≤ a := by
  rcases z with z | z
  · rcases z with z | z | z <;> omega
  · rcases z with z | z | z | z | z | z | z | z <;> omega
theorem zE_ne {e e' a k : Nat} (ne : e' ≠ e) (z : zE e' a k) : ¬ zR e a k := by
  intro w
  rcases z with z | z | z | z | z | z | z | z
  all_goals
    rcases w with w | w
    · rcases w with w | w | w <;> omega
    · rcases w with w | w | w | w | w | w | w | w <;> omega
theorem bE_k {e : Nat} (he : e < 4) : sk_b (82 + 102 * e) := sk_bk he
theorem rS.q {h : mm_H} {s s' : sT} {e b : Nat} (R : rS h s e b) (q : eqE s s' b) : rS h s' e b := by
  obtain ⟨q1, q2, -, -, -⟩ := q
  unfold rS
  rw [q2, q1 100 (by decide) (by decide), q1 88 (by decide) (by decide)]
  exact R
theorem rS.G {S : Nat → Nat → Prop} {h h' : mm_H} {s : sT} {e b : Nat} (R : rS h s e b) (l100 : (s.1 (b + 100)).length ≤ 400) (J : jE s b) (F : dF S h h') (n : ∀ a k, (a = 510 ∧ k = e) ∨ (a = 509 ∧ 400 * e ≤ k ∧ k < 400 * e + 400) ∨ ((a = 513 ∨ a = 514) ∧ 32 * e ≤ k ∧ k < 32 * e + 32) → ¬ S a k) : rS h' s e b := by
  by_cases h0 : s.2.1 b 5 = 0
  · obtain ⟨r1, r2, r3⟩ := R
    refine ⟨fun a1 a2 => (r1 a1 a2).F F l100 (fun a k z => n a k (by omega)), fun z => absurd z (by rw [h0]; decide), fun z => absurd z (by rw [h0]; decide)⟩
  · exact R.F l100 (by rw [(J.2.2.2.2.2.2.1 h0).2.2.1]; exact Nat.le_of_eq (hm_m_len _ _)) F n
section RFC
variable {L : Nat} {h h' : mm_H} {s s' : sT} {e : Nat} {f : mm_H → mm_O} {g : Int32 → mm_H → mm_O} {Q : Option Value → mm_H → Prop}
theorem rR.put (R : rR L h s) (Z : jB s) (J : jC s) (he : e < 4) (B' : rB L h') (A' : rA h' s' e (82 + 102 * e)) (S' : rS h' s' e (82 + 102 * e)) (F : dF (zR e) h h') (X : xF (82 + 102 * e) s s') : rR L h' s' := by
  obtain ⟨r1, ⟨r2, r3⟩, r4, r5⟩ := R
  refine ⟨B', ⟨?_, ?_⟩, ?_, fun e' he' => ?_⟩
  · rw [F.i (by intro w; rcases w with w | w; rcases w with w | w | w <;> omega; rcases w with w | w | w | w | w | w | w | w <;> omega), X.1 33 (by omega)]; exact r2
  · rw [X.1 33 (by omega)]
    exact r3.F F (fun k _ _ => by intro w; rcases w with w | w; rcases w with w | w | w <;> omega; rcases w with w | w | w | w | w | w | w | w <;> omega)
  · rw [F.i (by intro w; rcases w with w | w; rcases w with w | w | w <;> omega; rcases w with w | w | w | w | w | w | w | w <;> omega), X.2.1 32 (by omega) (by omega) (by omega)]; exact r4
  · by_cases ee : e' = e
    · subst ee; exact ⟨A', S'⟩
    · obtain ⟨a1, a2⟩ := r5 e' he'
      have q := X.eqE (bE_k he) (bE_k he') (by omega)
      have z := Z.2 e' he'
      exact ⟨(a1.F z F (fun a k w => zE_ne ee w)).q q, (a2.G (Nat.le_trans z.2.2.2.2.1.1 (by decide)) (J.2.2.2 e' he') F (fun a k w => zE_ne ee (by
        rcases w with w | w | w
        · exact Or.inl (by omega)
        · exact Or.inr (Or.inr (Or.inr (Or.inr (Or.inr (Or.inr (Or.inr w))))))
        · exact Or.inr (Or.inr (Or.inr (Or.inl (by omega))))))).q q⟩
theorem jC.put (J : jC s) (he : e < 4) (hm : ∃ n, s.2.1 32 3 = nI n ∧ n ≤ 4 ∧ e < n) (J' : jE s' (82 + 102 * e)) (X : xF (82 + 102 * e) s s') : jC s' := by
  obtain ⟨j1, j2, ⟨n, hn, en, hz⟩, j4⟩ := J
  obtain ⟨n', en', hn', ln⟩ := hm
  have nn : n = n' := by
    rw [en, nI_eq (by omega) (by omega)] at en'; exact en'
  refine ⟨by rw [X.1 40 (by omega)]; exact j1, by rw [X.1 42 (by omega)]; exact j2, ⟨n, hn, by rw [X.2.1 32 (by omega) (by omega) (by omega)]; exact en, fun e' h1 h2 => ?_⟩, fun e' he' => ?_⟩
  · rw [X.2.1 _ (by omega) (by omega) (by omega)]; exact hz e' h1 h2
  · by_cases ee : e' = e
    · subst ee; exact J'
    · exact (j4 e' he').q (X.eqE (bE_k he) (bE_k he') (by omega))
theorem tape_q {l : List Int32} (he : e < 4) : eqE s (mM s 33 l) (82 + 102 * e) := ⟨fun j h1 h2 => mM_off (by omega), rfl, rfl, rfl, rfl⟩
abbrev zT (a k : Nat) : Prop := a = 491 ∨ (a = 490 ∧ k = 1)
theorem rR.tape {l : List Int32} (R : rR L h s) (Z : jB s) (J : jC s) (F : dF zT h h') (i1 : mm_i h' 490 1 = nI l.length) (b1 : bs h' 491 0 l) : rR L h' (mM s 33 l) := by
  obtain ⟨r1, -, r4, r5⟩ := R
  refine ⟨r1.F F (fun a k z => by omega), ⟨by rw [mM_at]; exact i1, by rw [mM_at]; exact b1⟩, by rw [F.i (by omega)]; exact r4, fun e he => ?_⟩
  obtain ⟨a1, a2⟩ := r5 e he
  exact ⟨(a1.S F (fun a k z => by omega)).q (tape_q he), (a2.G (Nat.le_trans (Z.2 e he).2.2.2.2.1.1 (by decide)) (J.2.2.2 e he) F (fun a k z => by omega)).q (tape_q he)⟩
theorem jC.tape {l : List Int32} (J : jC s) : jC (mM s 33 l) := by
  obtain ⟨j1, j2, j3, j4⟩ := J
  exact ⟨by rw [mM_off (by decide)]; exact j1, by rw [mM_off (by decide)]; exact j2, j3, fun e he => (j4 e he).q (tape_q he)⟩
theorem dr_isEnd {x : Int32} (R : rR L h s) (J : jC s) (K0 : fd s x = none → tr (g 0 h) Q) (K1 : ∀ e, e < 4 → x = nI e → fd s x = some (82 + 102 * e) → (∃ n, s.2.1 32 3 = nI n ∧ n ≤ 4 ∧ e < n) → tr (g 1 h) Q) : tr (mm_qi (bd_X12_isEnd 490 x h) g) Q := by
  obtain ⟨-, -, ⟨n, hn, en, -⟩, -⟩ := J
  unfold fd at K0 K1
  refine tr_qi (R := fun v h' => h' = h ∧ ((v = some (.int 0) ∧ (x < 0 ∨ s.2.1 32 3 ≤ x)) ∨ (v = some (.int 1) ∧ ¬ x < 0 ∧ ¬ s.2.1 32 3 ≤ x))) ?_ (fun v h' q => ?_)
  · unfold bd_X12_isEnd
    rw [R.2.2.1, dr_isIn]
    by_cases c1 : x < 0
    · rw [if_pos c1]
      exact tr_ip (Or.inl rfl) (tr_mk ⟨rfl, Or.inl ⟨rfl, Or.inl c1⟩⟩)
    · rw [if_neg c1]
      obtain ⟨k, hk, rfl⟩ := nI_of c1
      rw [en]
      by_cases c2 : n ≤ k
      · have w : nI n - 1 < nI k := by
          by_cases n0 : n = 0
          · rw [n0]
            have : nI 0 - 1 = (-1 : Int32) := by decide
            rw [this]
            exact Int32.lt_of_lt_of_le (by decide) (nI_pos' hk)
          · obtain ⟨m, rfl⟩ : ∃ m, n = m + 1 := ⟨n - 1, by omega⟩
            rw [nI_m1, nI_ltI (by omega) hk]; omega
        rw [if_pos w]
        exact tr_ip (Or.inl rfl) (tr_mk ⟨rfl, Or.inl ⟨rfl, Or.inr (by rw [nI_leI (by omega) hk]; exact c2)⟩⟩)
      · have w : ¬ nI n - 1 < nI k := by
          obtain ⟨m, rfl⟩ : ∃ m, n = m + 1 := ⟨n - 1, by omega⟩
          rw [nI_m1, nI_ltI (by omega) hk]; omega
        rw [if_neg w]
        exact tr_ip (Or.inr rfl) (tr_mk ⟨rfl, Or.inr ⟨rfl, c1, by rw [nI_leI (by omega) hk]; exact c2⟩⟩)
  · obtain ⟨rfl, q⟩ := q
    rcases q with ⟨e1, q⟩ | ⟨e1, q1, q2⟩
    · refine ⟨0, e1, K0 ?_⟩
      rcases q with q | q
      · rw [if_pos q]
      · by_cases c1 : x < 0
        · rw [if_pos c1]
        · rw [if_neg c1, if_pos q]
    · obtain ⟨k, hk, rfl⟩ := nI_of q1
      have q2' := q2
      rw [en, nI_leI (by omega) hk] at q2'
      refine ⟨1, e1, K1 k (by omega) rfl ?_ ⟨n, en, hn, (by omega)⟩⟩
      rw [if_neg q1, if_neg q2, rr_n hk]
/-! the tape -/
theorem dm_four {v : Int32} : ∀ (m n : Nat) (h : mm_H) (l : List Int32), dT L h → bs h 491 0 l → mm_i h 490 1 = nI l.length → l.length + m ≤ 600 → m ≤ 4 → m < n → ∃ h', lp_X12_four_3 n 490 v (nI (8 * m) + (-8)) h = some (none, h') ∧ dF zT h h' ∧ bs h' 491 0 (l ++ rr_num v m) ∧ mm_i h' 490 1 = nI (l.length + m) := by
  intro m
  induction m with
  | zero =>
    intro n h l T B i hl hm hn
    obtain ⟨n, rfl⟩ : ∃ k, n = k + 1 := ⟨n - 1, by omega⟩
    rw [lp_X12_four_3, if_pos (by decide)]
    exact ⟨h, rfl, dF.rf, by rw [rr_num, List.append_nil]; exact B, i⟩
  | succ m ih =>
    intro n h l T B i hl hm hn
    obtain ⟨n, rfl⟩ : ∃ k, n = k + 1 := ⟨n - 1, by omega⟩
    have e8 : nI (8 * (m + 1)) + (-8) = nI (8 * m) := by
      rcases (by omega : m = 0 ∨ m = 1 ∨ m = 2 ∨ m = 3) with rfl | rfl | rfl | rfl <;> decide
    rw [lp_X12_four_3, e8, if_neg (nI_pos (by omega)), mm_gr_s T.r0, i, T.l491, if_pos ⟨by decide, rr_in (by omega) (by omega)⟩, rr_n (by omega), b8_b8, b8_sh _ (by omega), mm_bh]
    have F1 : dF (zo 491 l.length) h (mm_si h 491 l.length (mm_b8 (mm_ush v (nI (8 * m)) &&& 255))) := dF.si
    have v1 : (mm_si h 491 l.length (mm_b8 (mm_ush v (nI (8 * m)) &&& 255))).2.1 491 l.length = mm_b8 (mm_ush v (nI (8 * m)) &&& 255) := mi_eq
    generalize mm_si h 491 l.length (mm_b8 (mm_ush v (nI (8 * m)) &&& 255)) = h1 at F1 v1
    rw [mm_bh, F1.i (a := 490) (k := 1) (by omega), i, nI_1]
    have F2 : dF (zo 490 1) h1 (mm_si h1 490 1 (nI (l.length + 1))) := dF.si
    have v2 : mm_i (mm_si h1 490 1 (nI (l.length + 1))) 490 1 = nI (l.length + 1) := mi_eq
    generalize mm_si h1 490 1 (nI (l.length + 1)) = h2 at F2 v2
    have F : dF zT h h2 := (F1.c F2).mo (fun a k z => by omega)
    obtain ⟨h', q1, q2, q3, q4⟩ := ih n h2 (l ++ [mm_ush v (nI (8 * m)) &&& 255]) (T.F F) ((B.F (F1.c F2) (fun k z1 z2 => by omega)).app (bs.one (by rw [Nat.zero_add, F2.2.2 491 _ (by omega)]; exact v1))) (by rw [List.length_append]; exact v2) (by rw [List.length_append, List.length_singleton]; omega) (by omega) (by omega)
    refine ⟨h', q1, F.t q2, ?_, ?_⟩
    · rw [rr_num, show (8 : Int32) * nI m = nI (8 * m) from pk_mul 8 m]
      rw [List.append_assoc] at q3; exact q3
    · rw [q4, List.length_append, List.length_singleton]; congr 1; omega
theorem dr_four {v : Int32} {l : List Int32} (T : dT L h) (B : bs h 491 0 l) (i : mm_i h 490 1 = nI l.length) (hl : l.length + 4 ≤ 600) (K : ∀ h', dF zT h h' → bs h' 491 0 (l ++ rr_num v 4) → mm_i h' 490 1 = nI (l ++ rr_num v 4).length → tr (f h') Q) : tr (mm_qv (bd_X12_four 490 v h) f) Q := by
  obtain ⟨h', q1, q2, q3, q4⟩ := dm_four (L := L) (v := v) 4 mm_fu h l T B i hl (by decide) (by unfold mm_fu; omega)
  unfold bd_X12_four
  rw [show (24 : Int32) = nI (8 * 4) + (-8) from by decide, q1, mm_qv_s]
  exact K h' q2 q3 (by rw [List.length_append, rr_num_len]; exact q4)
theorem rP.mk (R : rR L h s) {x : Int32} : rP L h (x, s) (some (.int x)) h := ⟨rfl, R, dF.rf⟩
theorem zT_A {h0 : mm_H} (F : dF zT h h') : dF (fun a _ => 490 ≤ a) h h' := F.mo (fun a k z => by omega)
theorem cq_feed {a b c d x : Int32} (R : rR L h s) (Z : jB s) (J : jC s) : tr (bd_X12_feed 490 a b c d x h) (rP L h (nFeed s a b c d x)) := by
  obtain ⟨r1, ⟨r2, r3⟩, r4, r5⟩ := id R
  have l33 := Z.1.1
  unfold bd_X12_feed nFeed
  rw [r2, show ((20 : Int32)) = nI 20 from rfl, nI_add, show ((600 : Int32)) = nI 600 from rfl]
  by_cases c0 : (s.1 33).length + 20 ≤ 600
  · rw [if_pos (by rw [nI_leI (by omega) (by omega)]; exact c0), if_pos c0]
    refine dr_four r1.1 r3 r2 (by omega) (fun h1 F1 b1 i1 => ?_)
    refine dr_four (r1.1.F F1) b1 i1 (by simp only [List.length_append, rr_num_len]; omega) (fun h2 F2 b2 i2 => ?_)
    have U2 := F1.t F2
    refine dr_four (r1.1.F U2) b2 i2 (by simp only [List.length_append, rr_num_len]; omega) (fun h3 F3 b3 i3 => ?_)
    have U3 := U2.t F3
    refine dr_four (r1.1.F U3) b3 i3 (by simp only [List.length_append, rr_num_len]; omega) (fun h4 F4 b4 i4 => ?_)
    have U4 := U3.t F4
    refine dr_four (r1.1.F U4) b4 i4 (by simp only [List.length_append, rr_num_len]; omega) (fun h5 F5 b5 i5 => ?_)
    have U5 := U4.t F5
    rw [i5]
    refine tr_mk ⟨?_, R.tape Z J U5 i5 b5, U5.mo (fun a k z => by omega)⟩
    simp only [List.length_append, rr_num_len]
  · rw [if_neg (by rw [nI_leI (by omega) (by omega)]; exact c0), if_neg c0]
    exact tr_mk (rP.mk R)
theorem cq_end {n : Int32} (R : rR L h s) (Z : jB s) (J : jC s) : tr (bd_X12_end 490 n h) (rP L h (nEnd s n)) := by
  obtain ⟨r1, ⟨r2, r3⟩, r4, r5⟩ := id R
  have l33 := Z.1.1
  unfold bd_X12_end nEnd
  rw [r2, dr_isIn]
  by_cases c0 : n < 0
  · rw [if_pos c0, if_pos c0, if_pos rfl]; exact tr_mk (rP.mk R)
  · rw [if_neg c0, if_neg c0]
    by_cases c1 : n ≤ nI (s.1 33).length
    · rw [if_neg (Int32.not_lt.mpr c1), if_pos c1, if_neg (by decide)]
      obtain ⟨k, hk, rfl⟩ := nI_of c0
      rw [nI_leI hk (by omega)] at c1
      rw [rr_n hk]
      refine dq_fd (fun h1 F1 v1 => ?_)
      have F : dF zT h h1 := F1.mo (fun a k z => by omega)
      exact tr_mk ⟨rfl, R.tape Z J F (by rw [List.length_take, Nat.min_eq_left c1]; exact v1) ((r3.F F1 (fun k _ _ => (by omega))).take), F.mo (fun a k z => by omega)⟩
    · rw [if_pos (Int32.not_le.mp c1), if_neg c1, if_pos rfl]; exact tr_mk (rP.mk R)
theorem cq_about {w : Int32} (R : rR L h s) : tr (bd_X12_about 490 w h) (rP L h (nAbout s w, s)) := by
  obtain ⟨r1, ⟨r2, r3⟩, r4, r5⟩ := id R
  unfold bd_X12_about nAbout
  rw [r2, r4]
  by_cases c0 : w = 0
  · rw [if_pos c0, if_pos c0]; exact tr_mk (rP.mk R)
  · rw [if_neg c0, if_neg c0]
    by_cases c1 : w = 1
    · rw [if_pos c1, if_pos c1]; exact tr_mk (rP.mk R)
    · rw [if_neg c1, if_neg c1]; exact tr_mk (rP.mk R)
/-- scratch alone changed -/
theorem rR.sc {S : Nat → Nat → Prop} (R : rR L h s) (Z : jB s) (J : jC s) (F : dF S h h') (n : ∀ a k, S a k → (520 ≤ a ∧ a ≤ 526) ∨ (528 ≤ a ∧ a ≤ 548) ∨ (a = 490 ∧ (k = 37 ∨ k = 58 ∨ 61 ≤ k))) : rR L h' s := by
  obtain ⟨r1, ⟨r2, r3⟩, r4, r5⟩ := R
  refine ⟨r1.F F (fun a k z w => by have := n a k w; omega), ⟨by rw [F.i (fun w => by have := n _ _ w; omega)]; exact r2, r3.F F (fun k _ _ w => by have := n _ _ w; omega)⟩, by rw [F.i (fun w => by have := n _ _ w; omega)]; exact r4, fun e he => ?_⟩
  obtain ⟨a1, a2⟩ := r5 e he
  exact ⟨a1.S F (fun a k z w => by have := n _ _ w; omega), a2.G (Nat.le_trans (Z.2 e he).2.2.2.2.1.1 (by decide)) (J.2.2.2 e he) F (fun a k z w => by have := n _ _ w; omega)⟩
theorem cq_hash {j : Int32} (R : rR L h s) (Z : jB s) (J : jC s) : tr (bd_X12_hash 490 j h) (rP L h (nHash s j, s)) := by
  obtain ⟨r1, ⟨r2, r3⟩, r4, r5⟩ := id R
  have l33 := Z.1.1
  unfold bd_X12_hash nHash
  rw [dr_isIn]
  by_cases c0 : j < 0
  · rw [if_pos c0, if_pos c0, if_pos rfl]; exact tr_mk (rP.mk R)
  · rw [if_neg c0, if_neg c0]
    obtain ⟨k, hk, rfl⟩ := nI_of c0
    by_cases c1 : k < 32
    · rw [if_neg (show ¬ (31 : Int32) < nI k from by rw [show ((31 : Int32)) = nI 31 from rfl, nI_ltI (by omega) hk]; omega), if_neg (by decide), if_pos (show nI k < 32 from by rw [show ((32 : Int32)) = nI 32 from rfl, nI_ltI hk (by omega)]; exact c1)]
      refine tr_gr r1.1.r0 (tr_gr r1.1.r65 ?_)
      refine dr_sumz (p := 0) r1 r3 Z.1.2 (by decide) (by decide) (by decide) (by omega) 620 32 r1.1.l491 (by omega) (by decide) r1.1.l548 (by decide) (by decide) rfl r2 rfl (fun h1 b1 F1 => ?_)
      have T1 := r1.1.F F1
      refine tr_gr T1.r65 (tr_ip (dq_in T1.l548 rfl c1 (by decide)) ?_)
      have ls : (sh_a (s.1 33)).length = 32 := sh_a_len _
      have v : mm_i h1 548 k = mm_b8 ((sh_a (s.1 33)).getD k 0) := by have := b1 k (by omega); rw [Nat.zero_add] at this; exact this
      rw [rr_n hk, v, b8_by (sha_by _ _ (rr_mem (by omega)))]
      refine tr_mk ⟨?_, R.sc Z J F1 (fun a k z => by omega), F1.mo (fun a k z => by omega)⟩
      unfold rr_at
      rw [if_neg c0, ls, if_neg (by rw [nI_leI (by omega) hk]; omega), rr_n hk]
    · rw [if_pos (show (31 : Int32) < nI k from by rw [show ((31 : Int32)) = nI 31 from rfl, nI_ltI (by omega) hk]; omega), if_pos rfl, if_neg (show ¬ nI k < 32 from by rw [show ((32 : Int32)) = nI 32 from rfl, nI_ltI hk (by omega)]; exact c1)]
      exact tr_mk (rP.mk R)
end RFC

