/-! ===== the reference looks at hellos ===== -/
/-- at p lies A -/
def sq (l : List Int32) (p : Nat) (A : List Int32) : Prop := (l.drop p).take A.length = A
theorem sq_app {l A B : List Int32} {p : Nat} : sq l p (A ++ B) ↔ sq l p A ∧ sq l (p + A.length) B := by
  unfold sq
  rw [List.length_append, List.take_add, List.drop_drop]
  constructor
  · intro e
    have hl : ((l.drop p).take A.length).length ≤ A.length := by rw [List.length_take]; omega
    have e1 : ((l.drop p).take A.length).length = A.length := by
      have := congrArg List.length e
      rw [List.length_append, List.length_append] at this
      have h2 : ((l.drop (p + A.length)).take B.length).length ≤ B.length := by rw [List.length_take]; omega
      omega
    exact List.append_inj e e1
  · rintro ⟨e1, e2⟩; rw [e1, e2]
theorem sq_2 {l : List Int32} {p : Nat} {x y : Int32} (hp : p + 2 ≤ l.length) : sq l p ([x] ++ [y]) ↔ l.getD p 0 = x ∧ l.getD (p + 1) 0 = y := by
  unfold sq
  rw [rr_drop (show p < l.length from (by omega)), rr_drop (show p + 1 < l.length from (by omega))]
  simp
theorem sq_1 {l : List Int32} {p : Nat} {x : Int32} (hp : p + 1 ≤ l.length) : sq l p [x] ↔ l.getD p 0 = x := by
  unfold sq
  rw [rr_drop (show p < l.length from (by omega))]
  simp
theorem sq_z {l A : List Int32} {p n : Nat} (h : l.length = p + n) (hA : A.length = n) : sq l p A ↔ l.drop p = A := by
  unfold sq
  rw [List.take_of_length_le (by rw [List.length_drop]; omega)]
theorem sq_take {l A : List Int32} {p n : Nat} (h : p + A.length ≤ n) : sq (l.take n) p A ↔ sq l p A := by
  unfold sq
  rw [List.drop_take, List.take_take, Nat.min_eq_left (by omega)]
/-- where it looks, and whether all was right so far -/
def mB (h : mm_H) (q : Nat) (P : Prop) : Prop := mm_i h 490 63 = nI (5 + q) ∧ ((mm_i h 490 64 = 1 ∧ P) ∨ (mm_i h 490 64 = 0 ∧ ¬ P))
abbrev zl (a k : Nat) : Prop := a = 490 ∧ (k = 63 ∨ k = 64)
section RMU
variable {L : Nat} {h : mm_H} {s : sT} {e b : Nat} {f : mm_H → mm_O} {g : Int32 → mm_H → mm_O} {Q : Option Value → mm_H → Prop}
theorem mB.iff {q : Nat} {P R : Prop} (M : mB h q P) (e : P ↔ R) : mB h q R := by
  refine ⟨M.1, ?_⟩
  rcases M.2 with ⟨a, p⟩ | ⟨a, p⟩
  · exact Or.inl ⟨a, e.mp p⟩
  · exact Or.inr ⟨a, fun z => p (e.mpr z)⟩
theorem must_end {q d : Nat} {x s0 : Int32} {P : Prop} (i : mm_i h 490 63 = nI (5 + q)) (hx : x = nI d) (hs : (s0 = 1 ∧ P) ∨ (s0 = 0 ∧ ¬ P)) (K : ∀ h', mB h' (q + d) P → dF zl h h' → Q none h') : tr (if s0 = 0 ∨ s0 = 1 then (mm_bh (mm_si h 490 64 s0) (fun h1 => mm_bh (mm_si h1 490 63 ((mm_i h1 490 63) + x)) (fun h4 => some (none, h4)))) else none) Q := by
  refine tr_ip (by rcases hs with ⟨a, -⟩ | ⟨a, -⟩; exact Or.inr a; exact Or.inl a) ?_
  refine dq_fd (fun h1 F1 v1 => ?_)
  rw [F1.i (a := 490) (k := 63) (by omega), i, hx, nI_add]
  refine dq_fd (fun h2 F2 v2 => ?_)
  refine tr_mk (K h2 ⟨by rw [← Nat.add_assoc]; exact v2, ?_⟩ ((F1.c F2).mo (fun a k z => by omega)))
  rw [show mm_i h2 490 64 = s0 from by rw [F2.i (by omega)]; exact v1]
  exact hs
theorem dr_mustBe {v : Int32} {q : Nat} {P : Prop} {c : List Int32} (T : dT L h) (B : bs h 547 5 c) (hb : lby c) (hq : q + 2 ≤ c.length) (hc : c.length ≤ 600) (M : mB h q P) (K : ∀ h', mB h' (q + 2) (P ∧ sq c q (rr_num v 2)) → dF zl h h' → tr (f h') Q) : tr (mm_qv (bd_X12_mustBe 490 v h) f) Q := by
  refine tr_v (p := fun h' => mB h' (q + 2) (P ∧ sq c q (rr_num v 2)) ∧ dF zl h h') ?_ (fun h' q => K h' q.1 q.2)
  obtain ⟨m1, m2⟩ := M
  have y0 := hb _ (rr_mem (show q < c.length from (by omega)))
  have y1 := hb _ (rr_mem (show q + 1 < c.length from (by omega)))
  have es : sq c q (rr_num v 2) ↔ c.getD q 0 = mm_shr v 8 &&& 255 ∧ c.getD (q + 1) 0 = v &&& 255 := by rw [num2]; exact sq_2 hq
  unfold bd_X12_mustBe jn_X12_mustBe_45 jn_X12_mustBe_46
  rcases m2 with ⟨a, p⟩ | ⟨a, p⟩
  · rw [if_neg (by rw [a]; decide), m1]
    have i0 : mm_i h 547 (5 + q) = mm_b8 (c.getD q 0) := B.at (by omega)
    have i1 : mm_i h 547 (5 + (q + 1)) = mm_b8 (c.getD (q + 1) 0) := B.at (by omega)
    refine tr_gr T.r60 (tr_ip (dq_in T.l547 rfl (by omega) (by decide)) ?_)
    rw [rr_n (by omega), i0]
    by_cases c1 : c.getD q 0 = mm_shr v 8 &&& 255
    · rw [if_pos (by rw [b8_eq, y0, c1])]
      rw [show nI (5 + q) + 1 = nI (5 + (q + 1)) from nI_1 _]
      refine tr_gr T.r60 (tr_ip (dq_in T.l547 rfl (by omega) (by decide)) ?_)
      rw [rr_n (by omega), i1]
      by_cases c2 : c.getD (q + 1) 0 = v &&& 255
      · rw [if_pos (by rw [b8_eq, y1, c2])]
        exact must_end (d := 2) m1 rfl (Or.inl ⟨rfl, p, es.mpr ⟨c1, c2⟩⟩) (fun h' m F => ⟨rfl, m, F⟩)
      · rw [if_neg (fun z => c2 (by rw [b8_eq, y1] at z; exact z))]
        exact must_end (d := 2) m1 rfl (Or.inr ⟨rfl, fun z => c2 (es.mp z.2).2⟩) (fun h' m F => ⟨rfl, m, F⟩)
    · rw [if_neg (fun z => c1 (by rw [b8_eq, y0] at z; exact z))]
      exact must_end (d := 2) m1 rfl (Or.inr ⟨rfl, fun z => c1 (es.mp z.2).1⟩) (fun h' m F => ⟨rfl, m, F⟩)
  · rw [if_pos a]
    exact must_end (d := 2) m1 rfl (Or.inr ⟨rfl, fun z => p z.1⟩) (fun h' m F => ⟨rfl, m, F⟩)
theorem dr_mustB {v : Int32} {q : Nat} {P : Prop} {c : List Int32} (T : dT L h) (B : bs h 547 5 c) (hb : lby c) (hq : q + 1 ≤ c.length) (hc : c.length ≤ 600) (M : mB h q P) (K : ∀ h', mB h' (q + 1) (P ∧ sq c q [v &&& 255]) → dF zl h h' → tr (f h') Q) : tr (mm_qv (bd_X12_mustByte 490 v h) f) Q := by
  refine tr_v (p := fun h' => mB h' (q + 1) (P ∧ sq c q [v &&& 255]) ∧ dF zl h h') ?_ (fun h' q => K h' q.1 q.2)
  obtain ⟨m1, m2⟩ := M
  have y0 := hb _ (rr_mem (show q < c.length from (by omega)))
  have es : sq c q [v &&& 255] ↔ c.getD q 0 = v &&& 255 := sq_1 hq
  unfold bd_X12_mustByte jn_X12_mustByte_26 jn_X12_mustByte_27
  rcases m2 with ⟨a, p⟩ | ⟨a, p⟩
  · rw [if_neg (by rw [a]; decide), m1]
    have i0 : mm_i h 547 (5 + q) = mm_b8 (c.getD q 0) := B.at (by omega)
    refine tr_gr T.r60 (tr_ip (dq_in T.l547 rfl (by omega) (by decide)) ?_)
    rw [rr_n (by omega), i0]
    by_cases c1 : c.getD q 0 = v &&& 255
    · rw [if_pos (by rw [b8_eq, y0, c1])]
      exact must_end (d := 1) m1 rfl (Or.inl ⟨rfl, p, es.mpr c1⟩) (fun h' m F => ⟨rfl, m, F⟩)
    · rw [if_neg (fun z => c1 (by rw [b8_eq, y0] at z; exact z))]
      exact must_end (d := 1) m1 rfl (Or.inr ⟨rfl, fun z => c1 (es.mp z.2)⟩) (fun h' m F => ⟨rfl, m, F⟩)
  · rw [if_pos a]
    exact must_end (d := 1) m1 rfl (Or.inr ⟨rfl, fun z => p z.1⟩) (fun h' m F => ⟨rfl, m, F⟩)
theorem dr_skip {d q : Nat} {x : Int32} {P : Prop} (M : mB h q P) (ex : x = nI d) (K : ∀ h', mB h' (q + d) P → dF zl h h' → tr (f h') Q) : tr (mm_bh (mm_si h 490 63 ((mm_i h 490 63) + x)) f) Q := by
  rw [M.1, ex, nI_add]
  refine dq_fd (fun h1 F1 v1 => K h1 ⟨by rw [← Nat.add_assoc]; exact v1, ?_⟩ (F1.mo (fun a k z => by omega)))
  rw [F1.i (by omega)]; exact M.2
theorem dr_look {F : mm_H → mm_O} (K : ∀ h', mB h' 4 True → dF zl h h' → tr (F h') Q) : tr (mm_bh (mm_si h 490 63 9) (fun h1 => mm_bh (mm_si h1 490 64 1) F)) Q := by
  refine dq_fd (fun h1 F1 v1 => dq_fd (fun h2 F2 v2 => K h2 ⟨?_, Or.inl ⟨v2, trivial⟩⟩ ((F1.c F2).mo (fun a k z => by omega))))
  rw [F2.i (by omega)]; exact v1
theorem ht_eq {c : List Int32} (h4 : 4 ≤ c.length) {k : Int32} {n : Nat} (hd : c.take 4 = ms_h k (nI n)) (A : List Int32) : c = ms_h k (nI n) ++ A ↔ c.drop 4 = A := by
  constructor
  · intro e
    rw [e, List.drop_append_of_le_length (by rw [ms_h_ln]; decide), List.drop_of_length_le (by rw [ms_h_ln]; decide), List.nil_append]
  · intro e; rw [← hd, ← e, List.take_append_drop]
theorem rn_eq {c : List Int32} : rd_rn c = (c.drop 6).take 32 := by unfold rd_rn; rw [List.drop_take]
theorem sq_rn {c : List Int32} (h : 38 ≤ c.length) : sq c 6 (rd_rn c) := by
  unfold sq
  rw [rd_rn_ln h, rn_eq]
theorem dr_isAns {c : List Int32} (T : dT L h) (B : bs h 547 5 c) (hb : lby c) (hc : c.length ≤ 600) (h4 : 4 ≤ c.length) (hd : c.take 4 = ms_h 2 (nI (c.length - 4))) (K : ∀ h', dF zl h h' → ((c = ms_sh (rd_rn c)) → tr (g 1 h') Q) ∧ (c ≠ ms_sh (rd_rn c) → tr (g 0 h') Q)) : tr (mm_qi (bd_X12_isAnswer 490 (nI (c.length - 4)) h) g) Q := by
  refine tr_qi (R := fun v h' => dF zl h h' ∧ ((v = some (.int 1) ∧ c = ms_sh (rd_rn c)) ∨ (v = some (.int 0) ∧ c ≠ ms_sh (rd_rn c)))) ?_ (fun v h' q => by
    rcases q with ⟨F, ⟨e1, q1⟩ | ⟨e1, q1⟩⟩
    · exact ⟨1, e1, (K h' F).1 q1⟩
    · exact ⟨0, e1, (K h' F).2 q1⟩)
  unfold bd_X12_isAnswer
  by_cases c52 : c.length = 56
  · rw [if_pos (by rw [c52]; rfl)]
    refine dr_look (fun h1 M1 F1 => ?_)
    have U1 := F1
    refine dr_mustBe (T.F U1) (B.F U1 (fun k _ _ => (by omega))) hb (by omega) hc M1 (fun h2 M2 F2 => ?_)
    have U2 := U1.t F2
    refine dr_skip (d := 32) M2 rfl (fun h3 M3 F3 => ?_)
    have U3 := U2.t F3
    refine dr_mustB (T.F U3) (B.F U3 (fun k _ _ => (by omega))) hb (by omega) hc M3 (fun h4 M4 F4 => ?_)
    have U4 := U3.t F4
    refine dr_mustBe (T.F U4) (B.F U4 (fun k _ _ => (by omega))) hb (by omega) hc M4 (fun h5 M5 F5 => ?_)
    have U5 := U4.t F5
    refine dr_mustB (T.F U5) (B.F U5 (fun k _ _ => (by omega))) hb (by omega) hc M5 (fun h6 M6 F6 => ?_)
    have U6 := U5.t F6
    refine dr_mustBe (T.F U6) (B.F U6 (fun k _ _ => (by omega))) hb (by omega) hc M6 (fun h7 M7 F7 => ?_)
    have U7 := U6.t F7
    refine dr_mustBe (T.F U7) (B.F U7 (fun k _ _ => (by omega))) hb (by omega) hc M7 (fun h8 M8 F8 => ?_)
    have U8 := U7.t F8
    refine dr_mustBe (T.F U8) (B.F U8 (fun k _ _ => (by omega))) hb (by omega) hc M8 (fun h9 M9 F9 => ?_)
    have U9 := U8.t F9
    refine dr_mustBe (T.F U9) (B.F U9 (fun k _ _ => (by omega))) hb (by omega) hc M9 (fun h10 M10 F10 => ?_)
    have U10 := U9.t F10
    refine dr_mustBe (T.F U10) (B.F U10 (fun k _ _ => (by omega))) hb (by omega) hc M10 (fun h11 M11 F11 => ?_)
    have U11 := U10.t F11
    refine dr_mustBe (T.F U11) (B.F U11 (fun k _ _ => (by omega))) hb (by omega) hc M11 (fun h12 M12 F12 => ?_)
    have U12 := U11.t F12
    refine dr_mustBe (T.F U12) (B.F U12 (fun k _ _ => (by omega))) hb (by omega) hc M12 (fun h13 M13 F13 => ?_)
    have U13 := U12.t F13
    have eq : c = ms_sh (rd_rn c) ↔ (sq c 4 (rr_num 771 2) ∧ sq c 38 (sk_tb 9)) := by
      have e1 : ms_sh (rd_rn c) = ms_h 2 (nI (c.length - 4)) ++ (rr_num 771 2 ++ (rd_rn c ++ sk_tb 9)) := by
        unfold ms_sh
        rw [c52, n771]
        simp only [List.append_assoc]
        rfl
      rw [e1, ht_eq (show 4 ≤ c.length from (by omega)) hd, ← sq_z (n := 52) (by omega) (by rw [List.length_append, List.length_append, rr_num_len, rd_rn_ln (by omega), tb9]), sq_app, sq_app, rr_num_len, rd_rn_ln (by omega)]
      constructor
      · rintro ⟨a1, -, a3⟩; exact ⟨a1, a3⟩
      · rintro ⟨a1, a3⟩; exact ⟨a1, sq_rn (by omega), a3⟩
    rw [tb9e] at eq
    simp only [sq_app, List.length_append, rr_num_len, List.length_singleton, Nat.reduceAdd] at eq
    rcases M13.2 with ⟨a, p⟩ | ⟨a, p⟩
    · rw [a]
      refine tr_ip (Or.inr rfl) (tr_mk ⟨U13, Or.inl ⟨rfl, eq.mpr ?_⟩⟩)
      simp only [true_and] at p
      simp only [and_assoc] at p ⊢
      exact p
    · rw [a]
      refine tr_ip (Or.inl rfl) (tr_mk ⟨U13, Or.inr ⟨rfl, fun z => p ?_⟩⟩)
      have := eq.mp z
      simp only [true_and]
      simp only [and_assoc] at this ⊢
      exact this
  · rw [if_neg (by rw [show ((52 : Int32)) = nI 52 from rfl, nI_eq (by omega) (by omega)]; omega)]
    refine tr_mk ⟨dF.rf, Or.inr ⟨rfl, fun z => c52 ?_⟩⟩
    have := congrArg List.length z
    rw [ms_sh_ln] at this
    by_cases k38 : 38 ≤ c.length
    · rw [rd_rn_ln k38] at this; omega
    · have := rd_rn_le (c := c)
      have e2 : (rd_rn c).length = c.length - 6 := by unfold rd_rn; rw [List.length_drop, List.length_take]; omega
      omega
end RMU
