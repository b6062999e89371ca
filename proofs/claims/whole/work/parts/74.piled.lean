/-! ===== Pile.twice, first, byteOf, and what alters a record ===== -/
section PLD
variable {L : Nat} {h : mm_H} {M M1 : Nat → List Int32} {I I1 : Nat → Nat → Int32} {P : Nat → Nat → Option Nat} {Z : Nat → List (List Int32)}
variable {r o b : Nat} {f : mm_H → mm_O} {g : Int32 → mm_H → mm_O} {Q : Option Value → mm_H → Prop}
theorem ce_twice (hb : sk_b b) (E : cE L h M I Z) (K0 : (Z b = [] ∨ (Z b).length = 32) → tr (g 0 h) Q) (K1 : ∀ h' x l, Z b = x :: l → l.length < 31 → cE L h' M I (va_up Z b (x :: x :: l)) → tr (g 1 h') Q) : tr (mm_qi (bd_X4_twice (b + 1) h) g) Q := by
  obtain ⟨M1, I1, P, C, e, i, ps⟩ := E
  have S := ps b hb
  obtain ⟨s1, s2, p, s3, s4, s5⟩ := ps b hb
  have f0 : sk_ref (b + 1) 0 = some (b + 2) := (by rcases hb with rfl | rfl | rfl | rfl <;> decide +kernel)
  have oi : sk_ob (b + 1) = true := (by rcases hb with rfl | rfl | rfl | rfl <;> decide +kernel)
  have pa : sk_pa (b + 2) = true := (by rcases hb with rfl | rfl | rfl | rfl <;> decide +kernel)
  refine tr_qi (R := fun v h' => (v = some (.int 0) ∧ h' = h ∧ (Z b = [] ∨ (Z b).length = 32)) ∨ (v = some (.int 1) ∧ ∃ x l, Z b = x :: l ∧ l.length < 31 ∧ cE L h' M I (va_up Z b (x :: x :: l)))) ?_ (fun v h' q => by
    rcases q with ⟨e, rfl, q2⟩ | ⟨e, x, l, q1, q3, q2⟩
    · exact ⟨0, e, K0 q2⟩
    · exact ⟨1, e, K1 h' x l q1 q3 q2⟩)
  unfold bd_X4_twice
  rw [C.i oi, s1]
  cases hz : Z b with
  | nil => rw [if_pos (by rfl)]; exact tr_mk (Or.inl ⟨rfl, rfl, Or.inl rfl⟩)
  | cons x l =>
    have hl : (Z b).length = l.length + 1 := by rw [hz]; rfl
    rw [← hz, hl, if_neg (nI_ne0 (by omega) (by omega)), cs_full hb C S, mm_qi_s]
    by_cases c : (Z b).length < 32
    · rw [if_pos c, if_pos rfl]
      have lb : mm_ln h (b + 2) = 32 := sk_ln C.1.1 (by omega) (by rcases hb with rfl | rfl | rfl | rfl <;> decide +kernel)
      refine tr_gr (C.f f0) ?_
      rw [C.i oi, lb, s1, hl, if_pos (rr_in (by omega) (by omega)), rr_n (by omega)]
      refine tr_gr (b := p (l.length + 1)) (by rw [C.p pa, s4 (l.length + 1) (by omega)]) ?_
      rw [mm_bi]
      refine cs_twice31' hb C (fun k hk => ⟨_, s4 k hk⟩) (by omega) (fun h' C' => ?_)
      have lb' : mm_ln h' (b + 2) = 32 := sk_ln C'.1.1 (by omega) (by rcases hb with rfl | rfl | rfl | rfl <;> decide +kernel)
      simp only [mm_gr, C'.f f0, Option.bind_some, lb', mm_bh]
      rw [if_pos (by decide), show mm_n (1 : Int32) = 1 from by decide]
      have C2 := C'.sr (a := b + 2) (k := 1) (v := some (p (l.length + 1))) pa
      rw [vu_at, bx_uu] at C2
      have lb2 : mm_ln (mm_sr h' (b + 2) 1 (some (p (l.length + 1)))) (b + 2) = 32 := sk_ln C2.1.1 (by omega) (by rcases hb with rfl | rfl | rfl | rfl <;> decide +kernel)
      rw [C2.f f0]
      simp only [Option.bind_some, lb2]
      rw [if_pos (by decide), show mm_n (0 : Int32) = 0 from by decide, C2.p pa, vu_at, vu_off (by decide), show pl_tw (P (b + 2)) (l.length + 1) 0 = some (p 0) from by unfold pl_tw; rw [if_neg (by omega), s4 0 (by omega)]]
      simp only [Option.bind_some]
      have ne : p (l.length + 1) ≠ p 0 := fun z => by have := s3.2 _ _ (by omega) (by omega) z; omega
      refine cs_copy 422 C2 (s3.u hb (by omega)) (s3.v hb (by omega)) (s3.u hb (by omega)) ne (C2.le (s3.u hb (by omega)) (s3.v hb (by omega))) (fun h3 C3 => ?_)
      rw [C3.i oi, s1, hl, nI_1]
      have C4 := C3.si (a := b + 1) (k := 1) (v := nI (l.length + 1 + 1)) oi
      refine tr_mk (Or.inr ⟨rfl, x, l, hz, by omega, ?_⟩)
      have m0 : M1 (p 0) = x := by rw [s5 0 (by omega), hz]; rfl
      rw [m0] at C4
      refine cE.pi (z' := x :: x :: l) hb (e.pl (s3.t hb (k := l.length + 1) (by omega))) i (fun c hc cb => (ps c hc).oth hb hc cb s3 (by omega)) C4 (s3.s3 (n := l.length + 1) (by omega) (by omega)) (fun k hk => ?_) (by simp; omega) (fun k hk => ?_)
      · show _ = some (p (pl_s3 (l.length + 1) k))
        unfold pl_s3
        by_cases c2 : k = 1
        · subst c2; rw [vu_at]; rfl
        · rw [vu_off c2]
          unfold pl_tw
          by_cases c1 : k = 0
          · subst c1; rw [if_neg (by omega), if_pos rfl, s4 0 (by omega)]
          · rw [if_neg c1, if_neg c2]
            by_cases c3 : k ≤ l.length + 1
            · rw [if_pos (by omega), if_pos c3, s4 _ (by omega)]
            · rw [if_neg (by omega), if_neg c3, s4 _ hk]
      · show va_up M1 _ _ (p (pl_s3 (l.length + 1) k)) = _
        unfold pl_s3
        rw [List.length_cons, List.length_cons] at hk
        by_cases c1 : k = 0
        · subst c1; rw [if_pos rfl, vu_off (Ne.symm ne), m0]; rfl
        · rw [if_neg c1]
          by_cases c2 : k = 1
          · subst c2; rw [if_pos rfl, vu_at]; rfl
          · rw [if_neg c2, if_pos (by omega), vu_off (fun z => by have := s3.2 _ _ (by omega) (by omega) z; omega), s5 _ (by omega), hz]
            obtain ⟨k, rfl⟩ : ∃ m, k = m + 2 := ⟨k - 2, by omega⟩
            rfl
    · rw [if_neg c, if_neg (by decide)]
      exact tr_mk (Or.inl ⟨rfl, rfl, Or.inr (by omega)⟩)
/-- the first record, into the row for what comes in -/
theorem ce_first {fN : mm_H → mm_O} {x : List Int32} {l : List (List Int32)} (hb : sk_b b) (E : cE L h M I Z) (hz : Z b = x :: l) (K : ∀ h', x.length ≤ 422 → cE L h' (va_up M 65 x) I Z → tr (f h') Q) : tr (mm_qa (bd_X4_first (b + 1) h) fN (fun r h1 => mm_qv (bd_X6_copy 65 r h1) f)) Q := by
  obtain ⟨M1, I1, P, C, e, i, ps⟩ := E
  obtain ⟨s1, s2, p, s3, s4, s5⟩ := ps b hb
  have f0 : sk_ref (b + 1) 0 = some (b + 2) := (by rcases hb with rfl | rfl | rfl | rfl <;> decide +kernel)
  have pa : sk_pa (b + 2) = true := (by rcases hb with rfl | rfl | rfl | rfl <;> decide +kernel)
  have lb : mm_ln h (b + 2) = 32 := sk_ln C.1.1 (by omega) (by rcases hb with rfl | rfl | rfl | rfl <;> decide +kernel)
  unfold bd_X4_first
  simp only [mm_gr, C.f f0, Option.bind_some, lb]
  rw [if_pos (by decide), show mm_n (0 : Int32) = 0 from by decide, C.p pa, s4 0 (by omega)]
  simp only [Option.bind_some]
  rw [mm_qa_s]
  have m0 : M1 (p 0) = x := by rw [s5 0 (by rw [hz]; simp), hz]; rfl
  have t0 := s3.t hb (k := 0) (by omega)
  have le := C.le (s3.u hb (k := 0) (by omega)) (s3.v hb (by omega))
  refine cs_copy 600 C (by decide +kernel) (by decide +kernel) (s3.u hb (by omega)) (fun z => by rw [← z] at t0; exact absurd t0 (by decide)) (by omega) (fun h' C' => K h' (by rw [← m0]; exact le) ?_)
  rw [m0] at C'
  exact cE.mk1 e i ps (by decide) C' rfl
def pl_b (z : List (List Int32)) (x y : Int32) : Int32 := if x < 0 then -1 else if nI z.length ≤ x then -1 else rr_at (z.getD (mm_n x) []) y
theorem cs_byteOf (hb : sk_b b) (E : cE L h M I Z) (x y : Int32) : bd_X4_byteOf (b + 1) x y h = some (some (.int (pl_b (Z b) x y)), h) := by
  obtain ⟨M1, I1, P, C, e, i, ps⟩ := E
  obtain ⟨s1, s2, p, s3, s4, s5⟩ := ps b hb
  have f0 : sk_ref (b + 1) 0 = some (b + 2) := (by rcases hb with rfl | rfl | rfl | rfl <;> decide +kernel)
  have pa : sk_pa (b + 2) = true := (by rcases hb with rfl | rfl | rfl | rfl <;> decide +kernel)
  have lb : mm_ln h (b + 2) = 32 := sk_ln C.1.1 (by omega) (by rcases hb with rfl | rfl | rfl | rfl <;> decide +kernel)
  unfold bd_X4_byteOf pl_b
  rw [C.i (by rcases hb with rfl | rfl | rfl | rfl <;> decide +kernel), s1]
  by_cases c1 : x < 0
  · rw [if_pos c1, if_pos c1]
  · rw [if_neg c1, if_neg c1]
    by_cases c2 : nI (Z b).length ≤ x
    · rw [if_pos c2, if_pos c2]
    · rw [if_neg c2, if_neg c2]
      obtain ⟨k, hk, rfl⟩ := nI_of c1
      have hk2 : k < (Z b).length := by
        rw [nI_leI (by omega) hk] at c2; omega
      simp only [mm_gr, C.f f0, Option.bind_some, lb]
      rw [if_pos (rr_in (by omega) (by omega)), rr_n hk, C.p pa, s4 k (by omega)]
      simp only [Option.bind_some]
      obtain ⟨M0, R, e0⟩ := C.2.2.1
      have hu := s3.u hb (k := k) (by omega)
      rw [sp_X6_at R (C.kd hu), mm_qi_s, e0 _ (sk_rS hu), s5 k hk2]
theorem ce_flip {fN : mm_H → mm_O} {x : List Int32} {l : List (List Int32)} {y m : Int32} (hb : sk_b b) (E : cE L h M I Z) (hz : Z b = x :: l) (hm : m &&& 255 = m) (K0 : (y < 0 ∨ nI x.length ≤ y) → tr (g 0 h) Q) (K1 : ∀ h' k, k < x.length → y = nI k → cE L h' M I (va_up Z b (x.set k (x.getD k 0 ^^^ m) :: l)) → tr (g 1 h') Q) : tr (mm_qa (bd_X4_first (b + 1) h) fN (fun r h1 => mm_qi (bd_X6_flip r y m h1) g)) Q := by
  obtain ⟨M1, I1, P, C, e, i, ps⟩ := E
  obtain ⟨s1, s2, p, s3, s4, s5⟩ := ps b hb
  have f0 : sk_ref (b + 1) 0 = some (b + 2) := (by rcases hb with rfl | rfl | rfl | rfl <;> decide +kernel)
  have pa : sk_pa (b + 2) = true := (by rcases hb with rfl | rfl | rfl | rfl <;> decide +kernel)
  have lb : mm_ln h (b + 2) = 32 := sk_ln C.1.1 (by omega) (by rcases hb with rfl | rfl | rfl | rfl <;> decide +kernel)
  unfold bd_X4_first
  simp only [mm_gr, C.f f0, Option.bind_some, lb]
  rw [if_pos (by decide), show mm_n (0 : Int32) = 0 from by decide, C.p pa, s4 0 (by omega)]
  simp only [Option.bind_some]
  rw [mm_qa_s]
  have m0 : M1 (p 0) = x := by rw [s5 0 (by rw [hz]; simp), hz]; rfl
  have t0 := s3.t hb (k := 0) (by omega)
  have u0 := s3.u hb (k := 0) (by omega)
  have le := C.le u0 (s3.v hb (by omega))
  rw [m0] at le
  obtain ⟨M0, R, e0⟩ := C.2.2.1
  have e00 := (e0 _ (sk_rS u0)).trans m0
  by_cases c : y < 0 ∨ nI x.length ≤ y
  · have : bd_X6_flip (p 0) y m h = some (some (.int 0), h) := by
      unfold bd_X6_flip
      rw [C.n u0, m0]
      rcases c with c | c
      · rw [if_pos c]
      · by_cases c1 : y < 0
        · rw [if_pos c1]
        · rw [if_neg c1, if_neg (Int32.not_lt.mpr c)]
    rw [this, mm_qi_s]
    exact K0 c
  · rw [not_or] at c
    obtain ⟨k, hk, rfl⟩ := nI_of c.1
    have hk2 : k < x.length := by
      have := c.2
      rw [nI_leI (by omega) hk] at this; omega
    obtain ⟨h', q1, R', F⟩ := sp_X6_flip R (C.kd u0) (k := k) (x := m) (by rw [e00]; exact hk2) hm
    rw [q1, mm_qi_s]
    rw [e00] at R'
    have C' := C.up e0 R' F rfl
    refine K1 h' k hk2 rfl ⟨_, _, _, C', e.pl t0, i, fun c hc => ?_⟩
    by_cases cb : c = b
    · subst cb
      rw [vu_at]
      rw [hz] at s1 s2 s5
      refine ⟨s1, s2, p, s3, s4, fun j hj => ?_⟩
      rw [List.length_cons] at hj
      by_cases j0 : j = 0
      · subst j0; rw [vu_at]; rfl
      · rw [List.length_cons] at s2
        rw [vu_off (fun z => j0 (s3.2 _ _ (by omega) (by omega) z)), s5 j (by rw [List.length_cons]; exact hj)]
        obtain ⟨j, rfl⟩ : ∃ m, j = m + 1 := ⟨j - 1, by omega⟩
        rfl
    · rw [vu_off cb]
      exact (ps c hc).oth hb hc cb s3 (by omega)
end PLD
