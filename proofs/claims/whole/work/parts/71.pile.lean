/-! ===== the piles, and the class's state with piles as lists of records ===== -/
def pl_r (r : Nat) : Bool := decide (85 ≤ r) && decide (r < 490) && decide (3 ≤ (r - 82) % 102) && decide ((r - 82) % 102 ≤ 65) && decide (r % 2 = 1)
def sk_pp (a : Nat) : Bool := a == 83 || a == 185 || a == 287 || a == 389
def pl_p (b : Nat) (p : Nat → Nat) : Prop := (∀ k, k < 32 → ∃ j, j < 32 ∧ p k = b + 3 + 2 * j) ∧ ∀ i k, i < 32 → k < 32 → p i = p k → i = k
def pl_S (M : Nat → List Int32) (I : Nat → Nat → Int32) (P : Nat → Nat → Option Nat) (b : Nat) (l : List (List Int32)) : Prop :=
  I (b + 1) 1 = nI l.length ∧ l.length ≤ 32 ∧ ∃ p, pl_p b p ∧ (∀ k, k < 32 → P (b + 2) k = some (p k)) ∧ ∀ k, k < l.length → M (p k) = l.getD k []
def cA (M1 M : Nat → List Int32) : Prop := ∀ r, r ∉ sk_S → pl_r r = false → M1 r = M r
def cI (I1 I : Nat → Nat → Int32) : Prop := ∀ a, sk_pp a = false → I1 a = I a
def cE (L : Nat) (h : mm_H) (M : Nat → List Int32) (I : Nat → Nat → Int32) (Z : Nat → List (List Int32)) : Prop :=
  ∃ M1 I1 P, cR L h M1 I1 P ∧ cA M1 M ∧ cI I1 I ∧ ∀ b, sk_b b → pl_S M1 I1 P b (Z b)
/-- a row that is looked at, and no record -/
def sk_nr (r : Nat) : Bool := sk_row r && !(pl_r r)
theorem nr_r {r : Nat} (h : sk_nr r = true) : sk_row r = true := by unfold sk_nr at h; simp only [Bool.and_eq_true] at h; exact h.1
theorem nr_p {r : Nat} (h : sk_nr r = true) : pl_r r = false := by unfold sk_nr at h; simp only [Bool.and_eq_true, Bool.not_eq_true'] at h; exact h.2
theorem pl_t : ∀ j, j < 32 → (pl_r (82 + 3 + 2 * j) = true ∧ pl_r (184 + 3 + 2 * j) = true ∧ pl_r (286 + 3 + 2 * j) = true ∧ pl_r (388 + 3 + 2 * j) = true) := by decide +kernel
theorem pl_u : ∀ j, j < 32 → (sk_row (82 + 3 + 2 * j) = true ∧ sk_row (184 + 3 + 2 * j) = true ∧ sk_row (286 + 3 + 2 * j) = true ∧ sk_row (388 + 3 + 2 * j) = true) := by decide +kernel
theorem pl_v : ∀ j, j < 32 → (sk_cap (82 + 3 + 2 * j) = 422 ∧ sk_cap (184 + 3 + 2 * j) = 422 ∧ sk_cap (286 + 3 + 2 * j) = 422 ∧ sk_cap (388 + 3 + 2 * j) = 422) := by decide +kernel
theorem pl_p.t {b : Nat} {p : Nat → Nat} (hb : sk_b b) (H : pl_p b p) {k : Nat} (hk : k < 32) : pl_r (p k) = true := by
  obtain ⟨j, hj, e⟩ := H.1 k hk
  rw [e]
  rcases hb with rfl | rfl | rfl | rfl
  · exact (pl_t j hj).1
  · exact (pl_t j hj).2.1
  · exact (pl_t j hj).2.2.1
  · exact (pl_t j hj).2.2.2
theorem pl_p.u {b : Nat} {p : Nat → Nat} (hb : sk_b b) (H : pl_p b p) {k : Nat} (hk : k < 32) : sk_row (p k) = true := by
  obtain ⟨j, hj, e⟩ := H.1 k hk
  rw [e]
  rcases hb with rfl | rfl | rfl | rfl
  · exact (pl_u j hj).1
  · exact (pl_u j hj).2.1
  · exact (pl_u j hj).2.2.1
  · exact (pl_u j hj).2.2.2
theorem pl_p.v {b : Nat} {p : Nat → Nat} (hb : sk_b b) (H : pl_p b p) {k : Nat} (hk : k < 32) : sk_cap (p k) = 422 := by
  obtain ⟨j, hj, e⟩ := H.1 k hk
  rw [e]
  rcases hb with rfl | rfl | rfl | rfl
  · exact (pl_v j hj).1
  · exact (pl_v j hj).2.1
  · exact (pl_v j hj).2.2.1
  · exact (pl_v j hj).2.2.2
/-- records of two ENDS are not the same rows -/
theorem pl_p.d {b c : Nat} {p q : Nat → Nat} (hb : sk_b b) (hc : sk_b c) (H : pl_p b p) (G : pl_p c q) {i k : Nat} (hi : i < 32) (hk : k < 32) (e : p i = q k) : b = c := by
  obtain ⟨j, hj, e1⟩ := H.1 i hi
  obtain ⟨m, hm, e2⟩ := G.1 k hk
  unfold sk_b at hb hc
  omega
section PIL
variable {L : Nat} {h : mm_H} {M M1 : Nat → List Int32} {I I1 : Nat → Nat → Int32} {P : Nat → Nat → Option Nat} {Z : Nat → List (List Int32)}
theorem pl_S.row {b r : Nat} {l : List Int32} {z : List (List Int32)} (hb : sk_b b) (S : pl_S M I P b z) (hr : pl_r r = false) : pl_S (va_up M r l) I P b z := by
  obtain ⟨s1, s2, p, s3, s4, s5⟩ := S
  refine ⟨s1, s2, p, s3, s4, fun k hk => ?_⟩
  rw [vu_off (fun e => ?_)]
  · exact s5 k hk
  · have := s3.t hb (k := k) (by omega)
    rw [e, hr] at this
    exact absurd this (by decide)
theorem pl_S.si {b a k : Nat} {v : Int32} {z : List (List Int32)} (S : pl_S M I P b z) (ha : a ≠ b + 1) : pl_S M (va_up I a (upd (I a) k v)) P b z := by
  obtain ⟨s1, s2, p, s3, s4, s5⟩ := S
  exact ⟨by rw [vu_off (Ne.symm ha)]; exact s1, s2, p, s3, s4, s5⟩
theorem cA.up (e : cA M1 M) {r : Nat} {l : List Int32} : cA (va_up M1 r l) (va_up M r l) := fun s h1 h2 => by
  by_cases q : s = r
  · subst q; rw [vu_at, vu_at]
  · rw [vu_off q, vu_off q]; exact e s h1 h2
/-- a pile's row is nobody else's -/
theorem cA.pl (e : cA M1 M) {r : Nat} {l : List Int32} (hr : pl_r r = true) : cA (va_up M1 r l) M := fun s h1 h2 => by
  rw [vu_off (fun q => ?_)]
  · exact e s h1 h2
  · rw [q, hr] at h2; exact absurd h2 (by decide)
theorem cA.r (e : cA M1 M) {r : Nat} (hr : sk_nr r = true) : M1 r = M r := e r (sk_rS (nr_r hr)) (nr_p hr)
theorem cE.mk1 (e : cA M1 M) (i : cI I1 I) (p : ∀ b, sk_b b → pl_S M1 I1 P b (Z b)) {r : Nat} {l l' : List Int32} (hr : pl_r r = false) {h' : mm_H} (C : cR L h' (va_up M1 r l') I1 P) (el : l' = l) : cE L h' (va_up M r l) I Z := by
  subst el
  exact ⟨_, _, _, C, e.up, i, fun b hb => (p b hb).row hb hr⟩
theorem sk_pb {a b : Nat} (hb : sk_b b) (ha : sk_pp a = false) : a ≠ b + 1 := by
  intro e
  subst e
  rcases hb with rfl | rfl | rfl | rfl <;> exact absurd ha (by decide)
theorem cI.up (i : cI I1 I) {a k : Nat} {v : Int32} (ha : sk_pp a = false) : cI (va_up I1 a (upd (I1 a) k v)) (va_up I a (upd (I a) k v)) := fun s hs => by
  by_cases q : s = a
  · subst q; rw [vu_at, vu_at, i s ha]
  · rw [vu_off q, vu_off q]; exact i s hs
theorem cE.si (E : cE L h M I Z) {a k : Nat} {v : Int32} (ha : sk_ob a = true) (hp : sk_pp a = false) : cE L (mm_si h a k v) M (va_up I a (upd (I a) k v)) Z := by
  obtain ⟨M1, I1, P, C, e, i, p⟩ := E
  exact ⟨M1, _, P, C.si ha, e, i.up hp, fun b hb => (p b hb).si (sk_pb hb hp)⟩
theorem cE.f (E : cE L h M I Z) {a k b : Nat} (e : sk_ref a k = some b) : mm_r h a k = some b := by
  obtain ⟨M1, I1, P, C, -⟩ := E
  exact C.f e
theorem cE.i (E : cE L h M I Z) {a k : Nat} (ha : sk_ob a = true) (hp : sk_pp a = false) : mm_i h a k = I a k := by
  obtain ⟨M1, I1, P, C, e, i, p⟩ := E
  rw [C.i ha, i a hp]
theorem cE.n (E : cE L h M I Z) {r : Nat} (hr : sk_nr r = true) : mm_i h r 1 = nI (M r).length := by
  obtain ⟨M1, I1, P, C, e, i, p⟩ := E
  rw [C.n (nr_r hr), e.r hr]
theorem cE.le (E : cE L h M I Z) {r c : Nat} (hr : sk_nr r = true) (hc : sk_cap r = c) : (M r).length ≤ c := by
  obtain ⟨M1, I1, P, C, e, i, p⟩ := E
  rw [← e.r hr]; exact C.le (nr_r hr) hc
theorem cE.by (E : cE L h M I Z) {r : Nat} (hr : sk_nr r = true) : ∀ x ∈ M r, x &&& 255 = x := by
  obtain ⟨M1, I1, P, C, e, i, p⟩ := E
  rw [← e.r hr]; exact C.by (nr_r hr)
theorem cE.ln (E : cE L h M I Z) {a c : Nat} (ha : a ≠ 0) (hc : ((sk_sh 0).getD a (99, 0)).2 = c) : mm_ln h a = c := by
  obtain ⟨M1, I1, P, C, -⟩ := E
  exact sk_ln C.1.1 ha hc
theorem cE.zl (E : cE L h M I Z) {b : Nat} (hb : sk_b b) : (Z b).length ≤ 32 := by
  obtain ⟨M1, I1, P, C, e, i, p⟩ := E
  exact (p b hb).2.1
theorem cE.zn (E : cE L h M I Z) {b : Nat} (hb : sk_b b) : mm_i h (b + 1) 1 = nI (Z b).length := by
  obtain ⟨M1, I1, P, C, e, i, p⟩ := E
  rw [C.i (by rcases hb with rfl | rfl | rfl | rfl <;> decide +kernel)]; exact (p b hb).1
theorem cE.eq (E : cE L h M I Z) {M' : Nat → List Int32} (e' : ∀ r, r ∉ sk_S → pl_r r = false → M r = M' r) : cE L h M' I Z := by
  obtain ⟨M1, I1, P, C, e, i, p⟩ := E
  exact ⟨M1, I1, P, C, fun r h1 h2 => (e r h1 h2).trans (e' r h1 h2), i, p⟩
variable {r o : Nat} {f : mm_H → mm_O} {g : Int32 → mm_H → mm_O} {Q : Option Value → mm_H → Prop}
theorem ce_si {a k : Nat} {v : Int32} (E : cE L h M I Z) (ha : sk_ob a = true) (hp : sk_pp a = false) (K : ∀ h', cE L h' M (va_up I a (upd (I a) k v)) Z → tr (f h') Q) : tr (mm_bh (mm_si h a k v) f) Q := K _ (E.si ha hp)
theorem ce_clear (E : cE L h M I Z) (hr : sk_nr r = true) (K : ∀ h', cE L h' (va_up M r []) I Z → tr (f h') Q) : tr (mm_qv (bd_X6_clear r h) f) Q := by
  obtain ⟨M1, I1, P, C, e, i, p⟩ := E
  exact cs_clear C (nr_r hr) (fun h' C' => K h' (cE.mk1 e i p (nr_p hr) C' rfl))
theorem ce_put (c : Nat) (E : cE L h M I Z) (hr : sk_nr r = true) (hc : sk_cap r = c) (x : Int32) (hl : (M r).length < c) (K : ∀ h', cE L h' (va_up M r (M r ++ [x &&& 255])) I Z → tr (f h') Q) : tr (mm_qv (bd_X6_put r x h) f) Q := by
  obtain ⟨M1, I1, P, C, e, i, p⟩ := E
  exact cs_put c C (nr_r hr) hc x (by rw [e.r hr]; exact hl) (fun h' C' => K h' (cE.mk1 e i p (nr_p hr) C' (by rw [e.r hr])))
theorem ce_append (c : Nat) (E : cE L h M I Z) (hr : sk_nr r = true) (hc : sk_cap r = c) (ho : sk_nr o = true) (hne : r ≠ o) (K : ∀ h', cE L h' (va_up M r ((M r ++ M o).take c)) I Z → tr (f h') Q) : tr (mm_qv (bd_X6_append r o h) f) Q := by
  obtain ⟨M1, I1, P, C, e, i, p⟩ := E
  exact cs_append c C (nr_r hr) hc (nr_r ho) hne (fun h' C' => K h' (cE.mk1 e i p (nr_p hr) C' (by rw [e.r hr, e.r ho])))
theorem ce_appendL (c : Nat) (E : cE L h M I Z) (hr : sk_nr r = true) (hc : sk_cap r = c) (ho : sk_nr o = true) (hne : r ≠ o) (hl : (M r).length + (M o).length ≤ c) (K : ∀ h', cE L h' (va_up M r (M r ++ M o)) I Z → tr (f h') Q) : tr (mm_qv (bd_X6_append r o h) f) Q := by
  obtain ⟨M1, I1, P, C, e, i, p⟩ := E
  exact cs_appendL c C (nr_r hr) hc (nr_r ho) hne (by rw [e.r hr, e.r ho]; exact hl) (fun h' C' => K h' (cE.mk1 e i p (nr_p hr) C' (by rw [e.r hr, e.r ho])))
theorem ce_copy (c : Nat) (E : cE L h M I Z) (hr : sk_nr r = true) (hc : sk_cap r = c) (ho : sk_nr o = true) (hne : r ≠ o) (hl : (M o).length ≤ c) (K : ∀ h', cE L h' (va_up M r (M o)) I Z → tr (f h') Q) : tr (mm_qv (bd_X6_copy r o h) f) Q := by
  obtain ⟨M1, I1, P, C, e, i, p⟩ := E
  exact cs_copy c C (nr_r hr) hc (nr_r ho) hne (by rw [e.r ho]; exact hl) (fun h' C' => K h' (cE.mk1 e i p (nr_p hr) C' (e.r ho)))
theorem ce_copyPart (c : Nat) (k t : Nat) {x y : Int32} (E : cE L h M I Z) (hr : sk_nr r = true) (hc : sk_cap r = c) (ho : sk_nr o = true) (hne : r ≠ o) (ht : t < 2 ^ 31) (hk : k < 2 ^ 30) (ex : x = nI k) (ey : y = nI t) (K : ∀ h', cE L h' (va_up M r ((((M o).take t).drop k).take c)) I Z → tr (f h') Q) : tr (mm_qv (bd_X6_copyPart r o x y h) f) Q := by
  obtain ⟨M1, I1, P, C, e, i, p⟩ := E
  exact cs_copyPart c k t C (nr_r hr) hc (nr_r ho) hne ht hk ex ey (fun h' C' => K h' (cE.mk1 e i p (nr_p hr) C' (by rw [e.r ho])))
theorem ce_cut (k : Nat) {x : Int32} (E : cE L h M I Z) (hr : sk_nr r = true) (hk : k < 2 ^ 30) (ex : x = nI k) (K : ∀ h', cE L h' (va_up M r ((M r).take k)) I Z → tr (f h') Q) : tr (mm_qv (bd_X6_cut r x h) f) Q := by
  obtain ⟨M1, I1, P, C, e, i, p⟩ := E
  exact cs_cut k C (nr_r hr) hk ex (fun h' C' => K h' (cE.mk1 e i p (nr_p hr) C' (by rw [e.r hr])))
theorem ce_num (c s : Nat) {x : Int32} (v : Int32) (E : cE L h M I Z) (hr : sk_nr r = true) (hc : sk_cap r = c) (ex : x = nI s) (hs : s < 1000) (hl : (M r).length + s ≤ c) (K : ∀ h', cE L h' (va_up M r (M r ++ rr_num v s)) I Z → tr (f h') Q) : tr (mm_qv (bd_X6_putNumber r v x h) f) Q := by
  obtain ⟨M1, I1, P, C, e, i, p⟩ := E
  exact cs_num c s v C (nr_r hr) hc ex hs (by rw [e.r hr]; exact hl) (fun h' C' => K h' (cE.mk1 e i p (nr_p hr) C' (by rw [e.r hr])))
theorem ce_putAll (c : Nat) {a : Nat} (E : cE L h M I Z) (hr : sk_nr r = true) (hc : sk_cap r = c) (ha : 0 < a) (h32 : a < 32) (hb : (sk_tb a).all (fun x => x &&& 255 == x) = true) (hn : (sk_tb a).length < 1000) (hl : (M r).length + (sk_tb a).length ≤ c) (K : ∀ h', cE L h' (va_up M r (M r ++ sk_tb a)) I Z → tr (f h') Q) : tr (mm_qv (bd_X6_putAll r a h) f) Q := by
  obtain ⟨M1, I1, P, C, e, i, p⟩ := E
  exact cs_putAll c C (nr_r hr) hc ha h32 hb hn (by rw [e.r hr]; exact hl) (fun h' C' => K h' (cE.mk1 e i p (nr_p hr) C' (by rw [e.r hr])))
theorem ce_at (E : cE L h M I Z) (hr : sk_nr r = true) {x : Int32} (K : tr (g (rr_at (M r) x) h) Q) : tr (mm_qi (bd_X6_at r x h) g) Q := by
  obtain ⟨M1, I1, P, C, e, i, p⟩ := E
  exact cs_at C (nr_r hr) (by rw [e.r hr]; exact K)
theorem ce_twoAt (E : cE L h M I Z) (hr : sk_nr r = true) (k : Nat) {x : Int32} (ex : x = nI k) (hk : k < 2 ^ 30) (K : tr (g (if k + 1 < (M r).length then mm_shl ((M r).getD k 0) 8 ||| (M r).getD (k + 1) 0 else -1) h) Q) : tr (mm_qi (bd_X6_twoAt r x h) g) Q := by
  obtain ⟨M1, I1, P, C, e, i, p⟩ := E
  exact cs_twoAt C (nr_r hr) k ex hk (by rw [e.r hr]; exact K)
theorem ce_hasAt (E : cE L h M I Z) (hr : sk_nr r = true) (ho : sk_nr o = true) (p : Nat) {x : Int32} (ex : x = nI p) (hp : p < 2 ^ 30) (K : tr (g (if p + (M o).length ≤ (M r).length ∧ ((M r).drop p).take (M o).length = M o then 1 else 0) h) Q) : tr (mm_qi (bd_X6_hasAt r x o h) g) Q := by
  obtain ⟨M1, I1, P, C, e, i, p⟩ := E
  exact cs_hasAt C (nr_r hr) (nr_r ho) _ ex hp (by rw [e.r hr, e.r ho]; exact K)
theorem ce_same (E : cE L h M I Z) (hr : sk_nr r = true) (ho : sk_nr o = true) (K : tr (g (if M r = M o then 1 else 0) h) Q) : tr (mm_qi (bd_X6_same r o h) g) Q := by
  obtain ⟨M1, I1, P, C, e, i, p⟩ := E
  exact cs_same C (nr_r hr) (nr_r ho) (by rw [e.r hr, e.r ho]; exact K)
theorem ce_digest (E : cE L h M I Z) (hr : sk_nr r = true) (ho : sk_nr o = true) (hc : sk_cap o = 32) (K : ∀ h', cE L h' (va_up M o (sh_a (M r))) I Z → tr (f h') Q) : tr (mm_qv (bd_X9_digest 36 r o h) f) Q := by
  obtain ⟨M1, I1, P, C, e, i, p⟩ := E
  exact cs_digest C (nr_r hr) (nr_r ho) hc (fun h' C' => K h' (cE.mk1 e i p (nr_p ho) C' (by rw [e.r hr])))
theorem ce_prepare {b q : Nat} (hb : sk_b b) (E : cE L h M I Z) (hq : sk_nr q = true) (h40 : M 40 = []) (h42 : M 42 = ks_z) (hl : (M q).length ≤ 64) (hne : q ≠ b + 84 ∧ q ≠ b + 86 ∧ q ≠ b + 88) (K : ∀ h', cE L h' (va_up (va_up (va_up M (b + 84) (ks_b (M q))) (b + 86) (ks_h (M q))) (b + 88) (ks_m (M q))) I Z → tr (f h') Q) : tr (mm_qv (bd_X7_prepare (b + 83) q h) f) Q := by
  obtain ⟨M1, I1, P, C, e, i, p⟩ := E
  have kA : pl_r (b + 84) = false := (by rcases hb with rfl | rfl | rfl | rfl <;> decide +kernel)
  have kB : pl_r (b + 86) = false := (by rcases hb with rfl | rfl | rfl | rfl <;> decide +kernel)
  have kC : pl_r (b + 88) = false := (by rcases hb with rfl | rfl | rfl | rfl <;> decide +kernel)
  refine cs_prepare hb C (nr_r hq) (by rw [e.r (by decide +kernel)]; exact h40) (by rw [e.r (by decide +kernel)]; exact h42) (by rw [e.r hq]; exact hl) hne (fun h' C' => K h' ?_)
  rw [e.r hq] at C'
  exact ⟨_, _, _, C', e.up.up.up, i, fun b' hb' => (((p b' hb').row hb' kA).row hb' kB).row hb' kC⟩
theorem ce_prove {b s m out : Nat} (hb : sk_b b) (E : cE L h M I Z) (hs : sk_nr s = true) (hm : sk_nr m = true) (ho : sk_nr out = true) (hc : sk_cap out = 32) (h40 : M 40 = []) (K : ∀ h', cE L h' (va_up M out (ks_p (M s) (M m))) I Z → tr (f h') Q) : tr (mm_qv (bd_X7_prove (b + 83) s m out h) f) Q := by
  obtain ⟨M1, I1, P, C, e, i, p⟩ := E
  exact cs_prove hb C (nr_r hs) (nr_r hm) (nr_r ho) hc (by rw [e.r (by decide +kernel)]; exact h40) (fun h' C' => K h' (cE.mk1 e i p (nr_p ho) C' (by rw [e.r hs, e.r hm])))
theorem ce_load {b k s a x : Nat} (hb : sk_b b) (hk : k = b + 69 ∨ k = b + 76) (E : cE L h M I Z) (ha : a < 21) (h10 : 10 ≤ a) (hs : sk_nr s = true) (hx : sk_nr x = true) (h40 : M 40 = []) (hl : (M x).length ≤ 32) (K : ∀ h', cE L h' (va_up (va_up (va_up M (k + 1) (hk_e (M s) (tx_l a) (M x) 32)) (k + 3) (ky_k (hk_e (M s) (tx_l a) (M x) 32))) (k + 5) (ky_n (hk_e (M s) (tx_l a) (M x) 32))) (va_up I k (upd (upd (I k) 3 0) 4 1)) Z → tr (f h') Q) : tr (mm_qv (bd_X2_load k 39 s a x h) f) Q := by
  obtain ⟨M1, I1, P, C, e, i, p⟩ := E
  have kA : pl_r (k + 1) = false := by rcases hb with rfl | rfl | rfl | rfl <;> rcases hk with rfl | rfl <;> decide +kernel
  have kB : pl_r (k + 3) = false := by rcases hb with rfl | rfl | rfl | rfl <;> rcases hk with rfl | rfl <;> decide +kernel
  have kC : pl_r (k + 5) = false := by rcases hb with rfl | rfl | rfl | rfl <;> rcases hk with rfl | rfl <;> decide +kernel
  have kp : sk_pp k = false := by rcases hb with rfl | rfl | rfl | rfl <;> rcases hk with rfl | rfl <;> decide +kernel
  refine cs_load hb hk C ha h10 (nr_r hs) (nr_r hx) (by rw [e.r (by decide +kernel)]; exact h40) (by rw [e.r hx]; exact hl) (fun h' C' => K h' ?_)
  rw [e.r hs, e.r hx] at C'
  refine ⟨_, _, _, C', e.up.up.up, fun a' ha' => ?_, fun b' hb' => ?_⟩
  · by_cases q : a' = k
    · subst q; rw [vu_at, vu_at, i _ ha']
    · rw [vu_off q, vu_off q]; exact i a' ha'
  · obtain ⟨s1, s2, s3⟩ := (((p b' hb').row (l := hk_e (M s) (tx_l a) (M x) 32) hb' kA).row (l := ky_k (hk_e (M s) (tx_l a) (M x) 32)) hb' kB).row (l := ky_n (hk_e (M s) (tx_l a) (M x) 32)) hb' kC
    exact ⟨by rw [vu_off (Ne.symm (sk_pb hb' kp))]; exact s1, s2, s3⟩
theorem ce_open {k y z : Nat} (E : cE L h M I Z) (hr : sk_nr r = true) (ho : sk_nr o = true) (hne : o ≠ r) (hl : (M r).length ≤ 600) (hc : sk_cap o = 600) (ok : sk_ob k = true) (hp : sk_pp k = false) (f1 : sk_ref k 1 = some y) (f2 : sk_ref k 2 = some z) (hy : sk_nr y = true) (hz : sk_nr z = true) (ly : (M y).length = 32) (lz : (M z).length = 12) (K0 : ∀ h', ¬ sl_ok (ch_i (M y) (M z) (I k 3)) (M r) → cE L h' M I Z → tr (g 0 h') Q) (K1 : ∀ h', sl_ok (ch_i (M y) (M z) (I k 3)) (M r) → cE L h' (va_up M o (sl_o (ch_i (M y) (M z) (I k 3)) (((M r).take ((M r).length - 16)).drop 5))) (va_up I k (upd (I k) 3 (I k 3 + 1))) Z → tr (g 1 h') Q) : tr (mm_qi (bd_X8_open 52 k r o h) g) Q := by
  obtain ⟨M1, I1, P, C, e, i, p⟩ := E
  refine cs_open C (nr_r hr) (nr_r ho) hne (by rw [e.r hr]; exact hl) hc ok f1 f2 (nr_r hy) (nr_r hz) (by rw [e.r hy]; exact ly) (by rw [e.r hz]; exact lz) (fun h' n C' => ?_) (fun h' n C' => ?_)
  · rw [e.r hy, e.r hz, e.r hr, i k hp] at n
    exact K0 h' n ⟨M1, I1, P, C', e, i, p⟩
  · rw [e.r hy, e.r hz, e.r hr, i k hp] at n C'
    refine K1 h' n ⟨_, _, P, C', e.up, fun a ha => ?_, fun b hb => ?_⟩
    · by_cases q : a = k
      · subst q; rw [vu_at, vu_at]
      · rw [vu_off q, vu_off q]; exact i a ha
    · obtain ⟨s1, s2, s3⟩ := (p b hb).row (l := sl_o (ch_i (M y) (M z) (I k 3)) (((M r).take ((M r).length - 16)).drop 5)) hb (nr_p ho)
      exact ⟨by rw [vu_off (Ne.symm (sk_pb hb hp))]; exact s1, s2, s3⟩
end PIL
