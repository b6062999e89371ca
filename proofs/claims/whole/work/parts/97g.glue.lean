/-! ===== the two side by side: what each keeps of the other ===== -/
def kF (s s' : sT) : Prop := ∀ a, a = 0 ∨ 490 ≤ a → s'.2.1 a = s.2.1 a
def nG (s : sT) (n : Int32 × sT) : Prop := jC n.2 ∧ kF s n.2
theorem xF.k {s s' : sT} {e : Nat} (X : xF (82 + 102 * e) s s') (he : e < 4) : kF s s' := fun a ha => X.2.1 a (by omega) (by omega) (by omega)
theorem kF.t {s s' s'' : sT} (F : kF s s') (G : kF s' s'') : kF s s'' := fun a ha => (G a ha).trans (F a ha)
theorem kF.rf {s : sT} : kF s s := fun _ _ => rfl
theorem kF.m {s : sT} {r : Nat} {l : List Int32} : kF s (mM s r l) := fun _ _ => rfl
theorem nG.id {s : sT} {x : Int32} (J : jC s) : nG s (x, s) := ⟨J, kF.rf⟩
theorem fd_e {s : sT} {x : Int32} {b : Nat} (J : jC s) (h : fd s x = some b) : ∃ e, e < 4 ∧ b = 82 + 102 * e ∧ ∃ n, s.2.1 32 3 = nI n ∧ n ≤ 4 ∧ e < n := by
  obtain ⟨-, -, ⟨n, hn, en, -⟩, -⟩ := J
  unfold fd at h
  by_cases c1 : x < 0
  · rw [if_pos c1] at h; exact absurd h (by simp)
  · rw [if_neg c1] at h
    by_cases c2 : s.2.1 32 3 ≤ x
    · rw [if_pos c2] at h; exact absurd h (by simp)
    · rw [if_neg c2] at h
      obtain ⟨k, hk, rfl⟩ := nI_of c1
      rw [en, nI_leI (by omega) hk] at c2
      rw [rr_n hk] at h
      exact ⟨k, (by omega), (Option.some.inj h).symm, n, en, hn, (by omega)⟩
theorem jC.i {s : sT} (J : jC s) : iC s := by
  obtain ⟨j1, j2, ⟨n, hn, en, -⟩, j4⟩ := J
  refine ⟨j1, j2, ⟨n, hn, en⟩, fun b hb => ?_⟩
  obtain ⟨e, he, rfl⟩ : ∃ e, e < 4 ∧ b = 82 + 102 * e := by
    rcases hb with rfl | rfl | rfl | rfl
    · exact ⟨0, by decide, rfl⟩
    · exact ⟨1, by decide, rfl⟩
    · exact ⟨2, by decide, rfl⟩
    · exact ⟨3, by decide, rfl⟩
  obtain ⟨⟨k1, k1'⟩, ⟨k2, k2'⟩, k3, k4, k5, k6, k7, k8, k9, k10⟩ := j4 e he
  refine ⟨k1, k1', k2', fun n0 n7 => ⟨j1, k1, k1', k2', k10.1, k10.2.1, k10.2.2, fun z => k5.2 (Or.inr z), fun z w => ?_⟩⟩
  rcases k3 with k3 | k3 | k3
  · exact n0 k3
  · rcases k3 with k3 | k3 | k3 | k3 | k3 | k3
    · exact z.1 k3
    · exact z.2.1 k3
    · exact w.1 k3
    · exact z.2.2.1 k3
    · exact w.2 k3
    · exact z.2.2.2 k3
  · exact n7 k3
section NG
variable {s : sT}
theorem ng_feed {a b c d x : Int32} (J : jC s) : nG s (nFeed s a b c d x) := by
  unfold nFeed
  by_cases q : (s.1 33).length + 20 ≤ 600
  · rw [if_pos q]; exact ⟨J.tape, kF.m⟩
  · rw [if_neg q]; exact nG.id J
theorem ng_end {n : Int32} (J : jC s) : nG s (nEnd s n) := by
  unfold nEnd
  by_cases q : n < 0
  · rw [if_pos q]; exact nG.id J
  · rw [if_neg q]
    by_cases q1 : n ≤ nI (s.1 33).length
    · rw [if_pos q1]; exact ⟨J.tape, kF.m⟩
    · rw [if_neg q1]; exact nG.id J
theorem ng_make {x : Int32} (J : jC s) : nG s (nMake s x) := by
  unfold nMake
  obtain ⟨n, hn, en, -⟩ := J.2.2.1
  rw [en]
  by_cases q : nI n < 4
  · rw [if_pos q, rr_n (by omega)]
    rw [show ((4 : Int32)) = nI 4 from rfl, nI_ltI (by omega) (by omega)] at q
    refine ⟨J.make q en, fun a ha => ?_⟩
    show (mI (mI s (82 + 102 * n) 4 x) 32 3 (nI n + 1)).2.1 a = s.2.1 a
    rw [mI_o (by omega), mI_o (by omega)]
  · rw [if_neg q]; exact nG.id J
theorem ng_tell {x w : Int32} (J : jC s) : nG s (nTell s x w) := by
  unfold nTell
  cases hf : fd s x with
  | none => exact nG.id J
  | some b =>
    obtain ⟨e, he, rfl, hm⟩ := fd_e J hf
    show nG s (match mLearn s (82 + 102 * e) w with | none => (0, s) | some t => (1, mM t 33 []))
    cases hl : mLearn s (82 + 102 * e) w with
    | none => exact nG.id J
    | some t => exact ⟨(J.put he hm ((J.2.2.2 e he).learn hl) (xLearn hl)).tape, ((xLearn hl).k he).t kF.m⟩
theorem ng_say {x : Int32} (J : jC s) : nG s (nSay s x) := by
  unfold nSay
  cases hf : fd s x with
  | none => exact nG.id J
  | some b =>
    obtain ⟨e, he, rfl, hm⟩ := fd_e J hf
    show nG s (if _ then _ else _)
    by_cases q : (1 ≤ (s.1 33).length ∧ (s.1 33).length ≤ 400) ∧ s.2.1 (82 + 102 * e) 5 = 6 ∧ mCan s (82 + 102 * e) = true
    · rw [if_pos q]; exact ⟨(J.put he hm ((J.2.2.2 e he).send6 q.2.1) xS).tape, (xS.k he).t kF.m⟩
    · rw [if_neg q]; exact nG.id J
theorem ng_update {x a : Int32} (J : jC s) : nG s (nUpdate s x a) := by
  unfold nUpdate
  cases hf : fd s x with
  | none => exact nG.id J
  | some b =>
    obtain ⟨e, he, rfl, hm⟩ := fd_e J hf
    show nG s (if _ then _ else _)
    by_cases q : ¬ a < 0 ∧ ¬ 1 < a ∧ s.2.1 (82 + 102 * e) 5 = 6 ∧ mCan s (82 + 102 * e) = true
    · rw [if_pos q]; exact ⟨J.put he hm ((J.2.2.2 e he).renew q.2.2.1) xRenew, xRenew.k he⟩
    · rw [if_neg q]; exact nG.id J
theorem ng_close {x : Int32} (J : jC s) : nG s (nClose s x) := by
  unfold nClose
  cases hf : fd s x with
  | none => exact nG.id J
  | some b =>
    obtain ⟨e, he, rfl, hm⟩ := fd_e J hf
    show nG s (if _ then _ else _)
    by_cases q : s.2.1 (82 + 102 * e) 5 = 6 ∧ mCan s (82 + 102 * e) = true
    · rw [if_pos q]; exact ⟨J.put he hm ((J.2.2.2 e he).shut q.1) xShut, xShut.k he⟩
    · rw [if_neg q]; exact nG.id J
theorem ng_give {x : Int32} (J : jC s) : nG s (nGive s x) := by
  unfold nGive
  cases hf : fd s x with
  | none => exact nG.id J
  | some b =>
    obtain ⟨e, he, rfl, hm⟩ := fd_e J hf
    have J1 : jC (mM s 33 []) := J.tape
    exact ⟨J1.put he hm ((J1.2.2.2 e he).read) xRead, kF.m.t (xRead.k he)⟩
theorem ng_z {e : Nat} {x : Int32} {z : List (List Int32)} (J : jC s) (he : e < 4) (hm : ∃ n, s.2.1 32 3 = nI n ∧ n ≤ 4 ∧ e < n) (h : s.2.2 (82 + 102 * e) ≠ []) : nG s (x, mZ s (82 + 102 * e) z) := ⟨J.put he hm ((J.2.2.2 e he).z h) xZ, (xZ (z := z)).k he⟩
theorem ng_carry {x y : Int32} (J : jC s) : nG s (nCarry s x y) := by
  unfold nCarry
  cases hf : fd s x with
  | none => exact nG.id J
  | some b =>
    obtain ⟨e, he, rfl, hm⟩ := fd_e J hf
    cases hg : fd s y with
    | none => exact nG.id J
    | some c =>
      obtain ⟨e', he', rfl, hm'⟩ := fd_e J hg
      show nG s (match s.2.2 (82 + 102 * e) with | [] => (-1, s) | l :: z => ((mRead (mZ s (82 + 102 * e) z) (82 + 102 * e') l).2.1 (82 + 102 * e') 5, mRead (mZ s (82 + 102 * e) z) (82 + 102 * e') l))
      cases hs : s.2.2 (82 + 102 * e) with
      | nil => exact nG.id J
      | cons l z =>
        obtain ⟨J1, K1⟩ := ng_z J (x := 0) (z := z) he hm (by rw [hs]; simp)
        exact ⟨jC.put J1 he' hm' ((J1.2.2.2 e' he').read) xRead, K1.t (xRead.k he')⟩
theorem ng_meddle {x w : Int32} (J : jC s) : nG s (nMeddle s x w) := by
  unfold nMeddle
  cases hf : fd s x with
  | none => exact nG.id J
  | some b =>
    obtain ⟨e, he, rfl, hm⟩ := fd_e J hf
    show nG s (if w = 0 then (match s.2.2 (82 + 102 * e) with | [] => (0, s) | _ :: z => (1, mZ s (82 + 102 * e) z)) else if w = 1 then (match s.2.2 (82 + 102 * e) with | [] => (0, s) | l :: z => if z.length < 31 then (1, mZ s (82 + 102 * e) (l :: l :: z)) else (0, s)) else if w = 2 then (match s.2.2 (82 + 102 * e) with | l :: k :: z => (1, mZ s (82 + 102 * e) (k :: l :: z)) | _ => (0, s)) else (0, s))
    have key := fun (z : List (List Int32)) (q : s.2.2 (82 + 102 * e) ≠ []) => ng_z J (x := 1) (z := z) he hm q
    generalize s.2.2 (82 + 102 * e) = zz at key
    by_cases w0 : w = 0
    · rw [if_pos w0]
      match zz, key with
      | [], _ => exact nG.id J
      | _ :: z, key => exact key _ (by simp)
    · rw [if_neg w0]
      by_cases w1 : w = 1
      · rw [if_pos w1]
        match zz, key with
        | [], _ => exact nG.id J
        | l :: z, key =>
          show nG s (if z.length < 31 then _ else _)
          by_cases q : z.length < 31
          · rw [if_pos q]; exact key _ (by simp)
          · rw [if_neg q]; exact nG.id J
      · rw [if_neg w1]
        by_cases w2 : w = 2
        · rw [if_pos w2]
          match zz, key with
          | [], _ => exact nG.id J
          | [_], _ => exact nG.id J
          | l :: k :: z, key => exact key _ (by simp)
        · rw [if_neg w2]; exact nG.id J
theorem ng_alter {x i m : Int32} (J : jC s) : nG s (nAlter s x i m) := by
  unfold nAlter
  cases hf : fd s x with
  | none => exact nG.id J
  | some b =>
    obtain ⟨e, he, rfl, hm⟩ := fd_e J hf
    show nG s (match s.2.2 (82 + 102 * e) with | [] => (0, s) | l :: z => if (¬ m < 0 ∧ m ≤ 255) ∧ ¬ i < 0 ∧ i < nI l.length then (1, mZ s (82 + 102 * e) (l.set (mm_n i) (l.getD (mm_n i) 0 ^^^ m) :: z)) else (0, s))
    cases hs : s.2.2 (82 + 102 * e) with
    | nil => exact nG.id J
    | cons l z =>
      show nG s (if _ then _ else _)
      by_cases q : (¬ m < 0 ∧ m ≤ 255) ∧ ¬ i < 0 ∧ i < nI l.length
      · rw [if_pos q]; exact ng_z J he hm (by rw [hs]; simp)
      · rw [if_neg q]; exact nG.id J
theorem ng_start {x : Int32} (J : jC s) (Z : jB s) : nG s (nStart s x) := by
  unfold nStart
  cases hf : fd s x with
  | none => exact nG.id J
  | some b =>
    obtain ⟨e, he, rfl, hm⟩ := fd_e J hf
    show nG s (if _ then _ else _)
    by_cases q : s.2.1 (82 + 102 * e) 5 = 0 ∧ s.1 (82 + 102 * e + 94) ≠ [] ∧ s.1 (82 + 102 * e + 96) ≠ [] ∧ s.1 (82 + 102 * e + 98) ≠ []
    · rw [if_pos q]; exact ⟨J.put he hm ((J.2.2.2 e he).begin q.1 q.2.2.2 (Z.2 e he).2.1.1) xBegin, xBegin.k he⟩
    · rw [if_neg q]; exact nG.id J
end NG
section GLU
variable {L : Nat} {h h' : mm_H} {M : Nat → List Int32} {I : Nat → Nat → Int32} {s s' : sT}
theorem ob_o : ∀ a, a < 549 → 490 ≤ a → sk_ob a = true := by decide +kernel
theorem ob_5 : ∀ r, r < 549 → ((sk_sh 0).getD r (99, 0)).1 = 5 → r < 489 := by decide +kernel
theorem sk_len : (sk_sh 0).length = 549 := by decide +kernel
theorem sk_r5 {r : Nat} (e : h.1 = sk_sh L) (k : mm_kd h r = 5) : r < 489 := by
  rw [sk_kd e rfl] at k
  by_cases q : r < 549
  · exact ob_5 r q k
  · rw [List.getD_eq_getElem?_getD, List.getElem?_eq_none (by rw [sk_len]; omega)] at k
    exact absurd k (by decide)
theorem obi_o {a k : Nat} (ha : a = 0 ∨ 490 ≤ a) : ob_i a k = true := by
  unfold ob_i sk_pp
  have e : ∀ c, c = 82 ∨ c = 83 ∨ c = 184 ∨ c = 185 ∨ c = 286 ∨ c = 287 ∨ c = 388 ∨ c = 389 → (a == c) = false := fun c hc => beq_eq_false_iff_ne.mpr (by omega)
  rw [e 82 (by omega), e 83 (by omega), e 184 (by omega), e 185 (by omega), e 286 (by omega), e 287 (by omega), e 388 (by omega), e 389 (by omega)]
  rfl
theorem cO.sh (O : cO L h M I s) : h.1 = sk_sh L := by
  obtain ⟨⟨M1, I1, P, C, -⟩, -⟩ := O
  exact C.1.1
theorem fx490 : sk_fx 490 = true := by decide +kernel
theorem cO.dT (O : cO L h M I s) : dT L h := by
  obtain ⟨⟨M1, I1, P, C, -⟩, -⟩ := O
  exact ⟨C.1.1, fun k => C.2.1 490 k fx490⟩
theorem ob_0 : sk_ob 0 = true := by decide +kernel
theorem cO.a0 (O : cO L h M I s) (k : Nat) : mm_i h 0 k = s.2.1 0 k := O.i ob_0 (obi_o (Or.inl rfl))
theorem cO.o (O : cO L h M I s) {a k : Nat} (h1 : 490 ≤ a) (h2 : a < 549) : h.2.1 a k = s.2.1 a k := O.i (ob_o a h2 h1) (obi_o (Or.inr h1))
theorem cO.jB (O : cO L h M I s) : jB s := by
  have row : ∀ (r c : Nat), ob_r r = true → sk_cap r = c → (s.1 r).length ≤ c ∧ lby (s.1 r) := fun r c h1 h2 => by
    rw [← O.r h1]; exact ⟨O.1.le (ob_nr h1) h2, O.1.by (ob_nr h1)⟩
  refine ⟨row 33 600 (by decide +kernel) (by decide +kernel), fun e he => ?_⟩
  have rcs : ∀ l ∈ s.2.2 (82 + 102 * e), l.length ≤ 600 ∧ lby l := fun l hl => by
    obtain ⟨⟨M1, I1, P, C, -, -, ps⟩, -⟩ := O
    have hb := bE_k he
    obtain ⟨s1, s2, p, s3, s4, s5⟩ := ps _ hb
    obtain ⟨k, hk, ek⟩ := List.getElem_of_mem hl
    have g : M1 (p k) = l := by rw [s5 k hk, List.getD_eq_getElem?_getD, List.getElem?_eq_getElem hk, ek]; rfl
    have h1 := C.le (s3.u hb (k := k) (by omega)) (s3.v hb (by omega))
    have h2 := C.by (s3.u hb (k := k) (by omega))
    rw [g] at h1 h2
    exact ⟨Nat.le_trans h1 (by decide), h2⟩
  have zl := O.1.zl (bE_k he)
  rcases (by omega : e = 0 ∨ e = 1 ∨ e = 2 ∨ e = 3) with rfl | rfl | rfl | rfl
  all_goals exact ⟨row _ 64 (by decide +kernel) (by decide +kernel), row _ 16 (by decide +kernel) (by decide +kernel), row _ 32 (by decide +kernel) (by decide +kernel), row _ 2000 (by decide +kernel) (by decide +kernel), row _ 278 (by decide +kernel) (by decide +kernel), ⟨(row _ 32 (by decide +kernel) (by decide +kernel)).2, (row _ 32 (by decide +kernel) (by decide +kernel)).2⟩, zl, rcs⟩
/-- the reference stands as it stood -/
theorem rR.fr {S : Nat → Nat → Prop} (R : rR L h s) (Z : jB s) (J : jC s) (F : dF S h h') (n : ∀ a k, S a k → a < 490 ∨ 549 ≤ a) : rR L h' s := by
  obtain ⟨r1, ⟨r2, r3⟩, r4, r5⟩ := R
  refine ⟨r1.F F (fun a k z w => by have := n a k w; omega), ⟨by rw [F.i (fun w => by have := n _ _ w; omega)]; exact r2, r3.F F (fun k _ _ w => by have := n _ _ w; omega)⟩, by rw [F.i (fun w => by have := n _ _ w; omega)]; exact r4, fun e he => ?_⟩
  obtain ⟨a1, a2⟩ := r5 e he
  exact ⟨a1.S F (fun a k z w => by have := n _ _ w; omega), a2.G (Nat.le_trans (Z.2 e he).2.2.2.2.1.1 (by decide)) (J.2.2.2 e he) F (fun a k z w => by have := n _ _ w; omega)⟩
/-- the same but for what the class never sees -/
def eqO (s s' : sT) : Prop := s'.1 = s.1 ∧ (∀ a, a < 490 → s'.2.1 a = s.2.1 a) ∧ s'.2.2 = s.2.2
theorem eqO.e {e : Nat} (q : eqO s s') (he : e < 4) : eqE s s' (82 + 102 * e) := ⟨fun j _ _ => by rw [q.1], q.2.1 _ (by omega), q.2.1 _ (by omega), q.2.1 _ (by omega), by rw [q.2.2]⟩
theorem rR.eqO (R : rR L h s) (q : eqO s s') : rR L h s' := by
  obtain ⟨r1, r2, r4, r5⟩ := R
  refine ⟨r1, by rw [q.1]; exact r2, by rw [q.2.1 32 (by decide)]; exact r4, fun e he => ⟨(r5 e he).1.q (q.e he), (r5 e he).2.q (q.e he)⟩⟩
theorem jC.eqO (J : jC s) (q : eqO s s') : jC s' := by
  obtain ⟨j1, j2, ⟨n, hn, en, hz⟩, j4⟩ := J
  refine ⟨by rw [q.1]; exact j1, by rw [q.1]; exact j2, ⟨n, hn, by rw [q.2.1 32 (by decide)]; exact en, fun e h1 h2 => by rw [q.2.1 _ (by omega)]; exact hz e h1 h2⟩, fun e he => (j4 e he).q (q.e he)⟩
/-- the class stands as it stood -/
theorem cO.ref (O : cO L h M I s) (F : dF (fun a _ => 490 ≤ a) h h') : ∃ I' s', cO L h' M I' s' ∧ eqO s s' := by
  obtain ⟨⟨M1, I1, P, ⟨⟨t1, t2, t3, t4⟩, c2, ⟨M0, c3, c3'⟩, c4, c5⟩, ca, ci, ps⟩, o1, o2⟩ := O
  have fr : ∀ a k, mm_r h' a k = mm_r h a k := fun a k => by simp [mm_r, F.2.1]
  have fa : ∀ a, a < 490 → h'.2.1 a = h.2.1 a := fun a ha => funext (fun k => F.2.2 a k (by omega))
  have kd : ∀ a, mm_kd h' a = mm_kd h a := fun a => by unfold mm_kd; rw [F.1]
  have ln : ∀ a, mm_ln h' a = mm_ln h a := fun a => by unfold mm_ln; rw [F.1]
  have np : ∀ a, 490 ≤ a → sk_pp a = false := fun a ha => by
    unfold sk_pp
    have e : ∀ c, c < 490 → (a == c) = false := fun c hc => beq_eq_false_iff_ne.mpr (by omega)
    rw [e 83 (by decide), e 185 (by decide), e 287 (by decide), e 389 (by decide)]; rfl
  refine ⟨fun a => if 490 ≤ a then h'.2.1 a else I a, (s.1, fun a => if 490 ≤ a then h'.2.1 a else s.2.1 a, s.2.2), ⟨⟨M1, fun a => if 490 ≤ a then h'.2.1 a else I1 a, P, ⟨⟨F.1.trans t1, fun a h0 h32 => by rw [fa a (by omega)]; exact t2 a h0 h32, by rw [fr, fr]; exact t3, by simp only [fr]; exact t4⟩, fun a k ha => by rw [fr]; exact c2 a k ha, ⟨M0, fun r hr => ?_, c3'⟩, fun a ha => ?_, fun a ha => by rw [F.2.1]; exact c5 a ha⟩, ca, fun a ha => ?_, fun b hb => ?_⟩, o1, fun a k hk => ?_⟩, rfl, fun a ha => if_neg (by omega), rfl⟩
  · rw [kd] at hr
    have lt := sk_r5 t1 hr
    obtain ⟨d1, d2, d3, d4, d5, d6, d7, d8⟩ := c3 r hr
    exact ⟨by rw [fr]; exact d1, by rw [kd]; exact d2, d3, by show h'.2.1 r 1 = _; rw [fa r (by omega)]; exact d4, by rw [ln]; exact d5, by rw [ln]; exact d6, fun j hj => by show h'.2.1 (r + 1) j = _; rw [fa (r + 1) (by omega)]; exact d7 j hj, d8⟩
  · show h'.2.1 a = if 490 ≤ a then h'.2.1 a else I1 a
    by_cases q : 490 ≤ a
    · rw [if_pos q]
    · rw [if_neg q, fa a (by omega)]; exact c4 a ha
  · show (if 490 ≤ a then h'.2.1 a else I1 a) = if 490 ≤ a then h'.2.1 a else I a
    by_cases q : 490 ≤ a
    · rw [if_pos q, if_pos q]
    · rw [if_neg q, if_neg q]; exact ci a ha
  · obtain ⟨s1, s2⟩ := ps b hb
    refine ⟨?_, s2⟩
    show (if 490 ≤ b + 1 then h'.2.1 (b + 1) else I1 (b + 1)) 1 = _
    rw [if_neg (by rcases hb with rfl | rfl | rfl | rfl <;> decide)]; exact s1
  · show (if 490 ≤ a then h'.2.1 a else I a) k = (if 490 ≤ a then h'.2.1 a else s.2.1 a) k
    by_cases q : 490 ≤ a
    · rw [if_pos q, if_pos q]
    · rw [if_neg q, if_neg q]; exact o2 a k hk
/-- both stand in one state -/
def wI (L : Nat) (h : mm_H) (s : sT) : Prop := (∃ M I, cO L h M I s) ∧ rR L h s ∧ jC s
theorem wI.two {n : Int32 × sT} {c : mm_O} {g : Int32 → mm_H → mm_O} {Q : Option Value → mm_H → Prop} (W : wI L h s) (G : nG s n) (tc : tr c (cP L n)) (K : ∀ h1, (∀ k, mm_i h1 0 k = mm_i h 0 k) → h1.1 = h.1 → rR L h1 s → (∀ h2, rR L h2 n.2 → dF (fun a _ => 490 ≤ a) h1 h2 → ∃ s2, wI L h2 s2) → tr (g n.1 h1) Q) : tr (mm_qi c g) Q := by
  obtain ⟨⟨M, I, O⟩, R, J⟩ := W
  refine tr_qi tc (fun v h1 q => ?_)
  obtain ⟨rfl, M1, I1, O1⟩ := q
  have T := O.dT
  have T1 := O1.dT
  have F : ∀ a k, 490 ≤ a → a < 549 → h1.2.1 a k = h.2.1 a k := fun a k q1 q2 => by rw [O1.o q1 q2, O.o q1 q2, G.2 a (Or.inr q1)]
  obtain ⟨r1, ⟨r2, r3⟩, r4, r5⟩ := R
  have R1 : rR L h1 s := by
    have key : rR L (h.1, h1.2.1, h1.2.2.1, h.2.2.2) s := rR.fr ⟨r1, ⟨r2, r3⟩, r4, r5⟩ O.jB J (S := fun a _ => a < 490 ∨ 549 ≤ a) ⟨rfl, rfl, fun a k z => F a k (by omega) (by omega)⟩ (fun a k z => z)
    obtain ⟨k1, k2, k4, k5⟩ := key
    exact ⟨⟨T1, k1.2.1, k1.2.2⟩, k2, k4, k5⟩
  refine ⟨n.1, rfl, K h1 (fun k => by rw [O1.a0, O.a0, G.2 0 (Or.inl rfl)]) (T1.1.trans T.1.symm) R1 (fun h2 R2 F2 => ?_)⟩
  obtain ⟨I2, s2, O2, q2⟩ := O1.ref F2
  exact ⟨s2, ⟨M1, I2, O2⟩, R2.eqO q2, G.1.eqO q2⟩
theorem lw_ref {n : Int32 × sT} {c : mm_O} {g : Int32 → mm_H → mm_O} {Q : Option Value → mm_H → Prop} (tc : tr c (rP L h n)) (K : ∀ h2, rR L h2 n.2 → dF (fun a _ => 490 ≤ a) h h2 → tr (g n.1 h2) Q) : tr (mm_qi c g) Q := tr_qi tc (fun v h1 q => ⟨n.1, q.1, K h1 q.2.1 q.2.2⟩)
end GLU
