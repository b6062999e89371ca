/-! ===== Pile.drop, twice, swap, first, byteOf ===== -/
def pl_dr (F : Nat → Option Nat) (i n : Nat) : Nat → Option Nat := fun k => if i ≤ k + 1 ∧ k + 1 < n then F (k + 1) else F k
def pl_tw (F : Nat → Option Nat) (i : Nat) : Nat → Option Nat := fun k => if 2 ≤ k ∧ k ≤ i then F (k - 1) else F k
theorem pl_dr_0 {F : Nat → Option Nat} {n : Nat} : pl_dr F n n = F := by funext k; unfold pl_dr; rw [if_neg (by omega)]
theorem pl_dr_1 {F : Nat → Option Nat} {i n : Nat} (h1 : 1 ≤ i) (hn : i < n) : pl_dr (va_up F (i - 1) (F i)) (i + 1) n = pl_dr F i n := by
  funext k; unfold pl_dr
  by_cases e : k = i - 1
  · subst e; rw [if_neg (by omega), if_pos (by omega), vu_at, show i - 1 + 1 = i by omega]
  · by_cases c : i + 1 ≤ k + 1 ∧ k + 1 < n
    · rw [if_pos c, if_pos (by omega), vu_off (by omega)]
    · rw [if_neg c, if_neg (by omega), vu_off e]
theorem pl_tw_0 {F : Nat → Option Nat} : pl_tw F 1 = F := by funext k; unfold pl_tw; rw [if_neg (by omega)]
theorem pl_tw_1 {F : Nat → Option Nat} {i : Nat} (h1 : 2 ≤ i) : pl_tw (va_up F i (F (i - 1))) (i - 1) = pl_tw F i := by
  funext k; unfold pl_tw
  by_cases e : k = i
  · subst e; rw [if_neg (by omega), if_pos (by omega), vu_at]
  · rw [vu_off e]
    by_cases c : 2 ≤ k ∧ k ≤ i - 1
    · rw [if_pos c, if_pos (by omega), vu_off (by omega)]
    · rw [if_neg c, if_neg (by omega)]
def pl_s1 (n k : Nat) : Nat := if k < n then k + 1 else if k = n then 0 else k
def pl_s2 (k : Nat) : Nat := if k = 0 then 1 else if k = 1 then 0 else k
def pl_s3 (n k : Nat) : Nat := if k = 0 then 0 else if k = 1 then n else if k ≤ n then k - 1 else k
theorem pl_s1_e (n k : Nat) : (k < n ∧ pl_s1 n k = k + 1) ∨ (k = n ∧ pl_s1 n k = 0) ∨ (n < k ∧ pl_s1 n k = k) := by
  unfold pl_s1
  by_cases c1 : k < n
  · rw [if_pos c1]; omega
  · by_cases c2 : k = n
    · rw [if_neg c1, if_pos c2]; omega
    · rw [if_neg c1, if_neg c2]; omega
theorem pl_s2_e (k : Nat) : (k = 0 ∧ pl_s2 k = 1) ∨ (k = 1 ∧ pl_s2 k = 0) ∨ (1 < k ∧ pl_s2 k = k) := by
  unfold pl_s2
  by_cases c1 : k = 0
  · rw [if_pos c1]; omega
  · by_cases c2 : k = 1
    · rw [if_neg c1, if_pos c2]; omega
    · rw [if_neg c1, if_neg c2]; omega
theorem pl_s3_e (n k : Nat) : (k = 0 ∧ pl_s3 n k = 0) ∨ (k = 1 ∧ pl_s3 n k = n) ∨ (1 < k ∧ k ≤ n ∧ pl_s3 n k = k - 1) ∨ (1 < k ∧ n < k ∧ pl_s3 n k = k) := by
  unfold pl_s3
  by_cases c1 : k = 0
  · rw [if_pos c1]; omega
  · by_cases c2 : k = 1
    · rw [if_neg c1, if_pos c2]; omega
    · by_cases c3 : k ≤ n
      · rw [if_neg c1, if_neg c2, if_pos c3]; omega
      · rw [if_neg c1, if_neg c2, if_neg c3]; omega
theorem pl_p.of {b : Nat} {p : Nat → Nat} (H : pl_p b p) (σ : Nat → Nat) (h1 : ∀ k, k < 32 → σ k < 32) (h2 : ∀ i k, i < 32 → k < 32 → σ i = σ k → i = k) : pl_p b (fun k => p (σ k)) := ⟨fun k hk => H.1 _ (h1 k hk), fun i k hi hk e => h2 i k hi hk (H.2 _ _ (h1 i hi) (h1 k hk) e)⟩
theorem pl_p.s1 {b n : Nat} {p : Nat → Nat} (H : pl_p b p) (hn : n < 32) : pl_p b (fun k => p (pl_s1 n k)) := H.of (pl_s1 n) (fun k hk => by have := pl_s1_e n k; omega) (fun i k hi hk e => by have := pl_s1_e n k; have := pl_s1_e n i; omega)
theorem pl_p.s2 {b : Nat} {p : Nat → Nat} (H : pl_p b p) : pl_p b (fun k => p (pl_s2 k)) := H.of pl_s2 (fun k hk => by have := pl_s2_e k; omega) (fun i k hi hk e => by have := pl_s2_e k; have := pl_s2_e i; omega)
theorem pl_p.s3 {b n : Nat} {p : Nat → Nat} (H : pl_p b p) (h1 : 1 ≤ n) (hn : n < 32) : pl_p b (fun k => p (pl_s3 n k)) := H.of (pl_s3 n) (fun k hk => by have := pl_s3_e n k; omega) (fun i k hi hk e => by have := pl_s3_e n k; have := pl_s3_e n i; omega)
section PLC
variable {L : Nat} {M M1 : Nat → List Int32} {I I1 : Nat → Nat → Int32} {Z : Nat → List (List Int32)}
variable {r o b : Nat} {f : mm_H → mm_O} {g : Int32 → mm_H → mm_O} {Q : Option Value → mm_H → Prop}
theorem cs_drop18 {ke : Nat → Nat → mm_H → mm_O} {a1 n0 : Nat} (hb : sk_b b) (hI : I (b + 1) 1 = nI n0) (hn0 : n0 ≤ 32) : ∀ (m i n : Nat) (h : mm_H) (P : Nat → Nat → Option Nat), cR L h M I P → 1 ≤ i → (∀ k, k < 32 → ∃ q, P (b + 2) k = some q) → i + m = n0 → m < n → (∀ h', cR L h' M I (va_up P (b + 2) (pl_dr (P (b + 2)) i n0)) → tr (ke (b + 1) a1 h') Q) → tr (lp_X4_drop_18 ke n (b + 1) a1 (nI i) h) Q := by
  have f0 : sk_ref (b + 1) 0 = some (b + 2) := (by rcases hb with rfl | rfl | rfl | rfl <;> decide +kernel)
  have oi : sk_ob (b + 1) = true := (by rcases hb with rfl | rfl | rfl | rfl <;> decide +kernel)
  have pa : sk_pa (b + 2) = true := (by rcases hb with rfl | rfl | rfl | rfl <;> decide +kernel)
  intro m
  induction m with
  | zero =>
    intro i n h P C h1 hq hi hn K
    obtain ⟨n, rfl⟩ : ∃ k, n = k + 1 := ⟨n - 1, by omega⟩
    rw [lp_X4_drop_18, C.i oi, hI, if_pos (by rw [nI_leI (by omega) (by omega)]; omega)]
    refine K h ?_
    rw [show i = n0 by omega, pl_dr_0, vu_self]; exact C
  | succ m ih =>
    intro i n h P C h1 hq hi hn K
    obtain ⟨n, rfl⟩ : ∃ k, n = k + 1 := ⟨n - 1, by omega⟩
    have lb : mm_ln h (b + 2) = 32 := sk_ln C.1.1 (by omega) (by rcases hb with rfl | rfl | rfl | rfl <;> decide +kernel)
    obtain ⟨q, eq⟩ := hq i (by omega)
    rw [lp_X4_drop_18, C.i oi, hI, if_neg (by rw [nI_leI (by omega) (by omega)]; omega)]
    simp only [mm_gr, C.f f0, Option.bind_some, lb]
    rw [if_pos (rr_in (by omega) (by omega)), rr_n (by omega), C.p pa, eq]
    simp only [Option.bind_some]
    rw [show nI i - 1 = nI (i - 1) from nI_sb h1, if_pos (rr_in (by omega) (by omega)), rr_n (by omega), nI_1]
    simp only [mm_bh]
    refine ih (i + 1) n _ _ (C.sr pa) (by omega) (fun k hk => ?_) (by omega) (by omega) (fun h' C' => K h' ?_)
    · rw [vu_at]
      by_cases e : k = i - 1
      · subst e; exact ⟨q, vu_at⟩
      · rw [vu_off e]; exact hq k hk
    · rw [vu_at, bx_uu, ← eq, pl_dr_1 h1 (by omega)] at C'
      exact C'
theorem cs_drop18' {ke : Nat → Nat → mm_H → mm_O} {a1 n0 : Nat} {h : mm_H} {P : Nat → Nat → Option Nat} (hb : sk_b b) (hI : I (b + 1) 1 = nI n0) (h0 : 1 ≤ n0) (hn0 : n0 ≤ 32) (C : cR L h M I P) (hq : ∀ k, k < 32 → ∃ q, P (b + 2) k = some q) (K : ∀ h', cR L h' M I (va_up P (b + 2) (pl_dr (P (b + 2)) 1 n0)) → tr (ke (b + 1) a1 h') Q) : tr (lp_X4_drop_18 ke mm_fu (b + 1) a1 1 h) Q := by
  rw [show ((1 : Int32)) = nI 1 from rfl]
  exact cs_drop18 hb hI hn0 (n0 - 1) 1 mm_fu h P C (by omega) hq (by omega) (by unfold mm_fu; omega) K
theorem cs_twice31 {ke : Nat → Nat → mm_H → mm_O} {a1 : Nat} (hb : sk_b b) : ∀ (m n : Nat) (h : mm_H) (P : Nat → Nat → Option Nat), cR L h M I P → (∀ k, k < 32 → ∃ q, P (b + 2) k = some q) → m + 1 < 32 → m < n → (∀ h', cR L h' M I (va_up P (b + 2) (pl_tw (P (b + 2)) (m + 1))) → tr (ke (b + 1) a1 h') Q) → tr (lp_X4_twice_31 ke n (b + 1) a1 (nI (m + 1)) h) Q := by
  have f0 : sk_ref (b + 1) 0 = some (b + 2) := (by rcases hb with rfl | rfl | rfl | rfl <;> decide +kernel)
  have pa : sk_pa (b + 2) = true := (by rcases hb with rfl | rfl | rfl | rfl <;> decide +kernel)
  intro m
  induction m with
  | zero =>
    intro n h P C hq hi hn K
    obtain ⟨n, rfl⟩ : ∃ k, n = k + 1 := ⟨n - 1, by omega⟩
    rw [lp_X4_twice_31, if_pos (by decide)]
    refine K h ?_
    rw [pl_tw_0, vu_self]; exact C
  | succ m ih =>
    intro n h P C hq hi hn K
    obtain ⟨n, rfl⟩ : ∃ k, n = k + 1 := ⟨n - 1, by omega⟩
    have lb : mm_ln h (b + 2) = 32 := sk_ln C.1.1 (by omega) (by rcases hb with rfl | rfl | rfl | rfl <;> decide +kernel)
    obtain ⟨q, eq⟩ := hq (m + 1) (by omega)
    rw [lp_X4_twice_31, if_neg (by rw [show ((1 : Int32)) = nI 1 from rfl, nI_leI (by omega) (by omega)]; omega)]
    simp only [mm_gr, C.f f0, Option.bind_some, lb]
    rw [show nI (m + 1 + 1) - 1 = nI (m + 1) from nI_pred _, if_pos (rr_in (by omega) (by omega)), rr_n (n := m + 1) (by omega), C.p pa, eq]
    simp only [Option.bind_some]
    rw [if_pos (rr_in (by omega) (by omega)), rr_n (by omega), pk_m1]
    simp only [mm_bh]
    refine ih n _ _ (C.sr pa) (fun k hk => ?_) (by omega) (by omega) (fun h' C' => K h' ?_)
    · rw [vu_at]
      by_cases e : k = m + 1 + 1
      · subst e; exact ⟨q, vu_at⟩
      · rw [vu_off e]; exact hq k hk
    · rw [vu_at, bx_uu, ← eq] at C'
      have := pl_tw_1 (F := P (b + 2)) (i := m + 1 + 1) (by omega)
      rw [show m + 1 + 1 - 1 = m + 1 by omega] at this
      rw [this] at C'
      exact C'
theorem cs_twice31' {ke : Nat → Nat → mm_H → mm_O} {a1 m : Nat} {h : mm_H} {P : Nat → Nat → Option Nat} (hb : sk_b b) (C : cR L h M I P) (hq : ∀ k, k < 32 → ∃ q, P (b + 2) k = some q) (hm : m + 1 < 32) (K : ∀ h', cR L h' M I (va_up P (b + 2) (pl_tw (P (b + 2)) (m + 1))) → tr (ke (b + 1) a1 h') Q) : tr (lp_X4_twice_31 ke mm_fu (b + 1) a1 (nI (m + 1)) h) Q := cs_twice31 hb m mm_fu h P C hq hm (by unfold mm_fu; omega) K
variable {h : mm_H} {P : Nat → Nat → Option Nat}
/-- a pile with other references to the same rows -/
theorem cE.pi {q : Nat → Nat} {F : Nat → Option Nat} {z' : List (List Int32)} (hb : sk_b b) (e : cA M1 M) (i : cI I1 I) (ps : ∀ c, sk_b c → c ≠ b → pl_S M1 I1 P c (Z c)) (C : cR L h M1 (va_up I1 (b + 1) (upd (I1 (b + 1)) 1 (nI z'.length))) (va_up P (b + 2) F)) (hq : pl_p b q) (hF : ∀ k, k < 32 → F k = some (q k)) (hz : z'.length ≤ 32) (hm : ∀ k, k < z'.length → M1 (q k) = z'.getD k []) : cE L h M I (va_up Z b z') := by
  refine ⟨M1, _, _, C, e, fun a ha => ?_, fun c hc => ?_⟩
  · rw [vu_off (sk_pb hb ha)]; exact i a ha
  · by_cases cb : c = b
    · subst cb
      rw [vu_at]
      exact ⟨by rw [vu_at, upd_at], hz, q, hq, fun k hk => by rw [vu_at]; exact hF k hk, hm⟩
    · rw [vu_off cb]
      refine ((ps c hc cb).otP cb).cg ?_
      rw [vu_off (by unfold sk_b at hb hc; omega)]
theorem pl_up1 {n : Nat} {a : Nat} (e : I a 1 = nI n) : va_up I a (upd (I a) 1 (nI n)) = I := by
  have e2 : upd (I a) 1 (nI n) = I a := by
    funext k
    by_cases c : k = 1
    · rw [c, upd_at, e]
    · rw [upd_off c]
  rw [e2]
  exact vu_self
theorem ce_drop (hb : sk_b b) (E : cE L h M I Z) (K0 : Z b = [] → tr (g 0 h) Q) (K1 : ∀ h' x l, Z b = x :: l → cE L h' M I (va_up Z b l) → tr (g 1 h') Q) : tr (mm_qi (bd_X4_drop (b + 1) h) g) Q := by
  obtain ⟨M1, I1, P, C, e, i, ps⟩ := E
  obtain ⟨s1, s2, p, s3, s4, s5⟩ := ps b hb
  have f0 : sk_ref (b + 1) 0 = some (b + 2) := (by rcases hb with rfl | rfl | rfl | rfl <;> decide +kernel)
  have oi : sk_ob (b + 1) = true := (by rcases hb with rfl | rfl | rfl | rfl <;> decide +kernel)
  have pa : sk_pa (b + 2) = true := (by rcases hb with rfl | rfl | rfl | rfl <;> decide +kernel)
  refine tr_qi (R := fun v h' => (v = some (.int 0) ∧ h' = h ∧ Z b = []) ∨ (v = some (.int 1) ∧ ∃ x l, Z b = x :: l ∧ cE L h' M I (va_up Z b l))) ?_ (fun v h' q => by
    rcases q with ⟨e, rfl, q2⟩ | ⟨e, x, l, q1, q2⟩
    · exact ⟨0, e, K0 q2⟩
    · exact ⟨1, e, K1 h' x l q1 q2⟩)
  unfold bd_X4_drop
  rw [C.i oi, s1]
  cases hz : Z b with
  | nil => rw [if_pos (by rfl)]; exact tr_mk (Or.inl ⟨rfl, rfl, rfl⟩)
  | cons x l =>
    have hl : (Z b).length = l.length + 1 := by rw [hz]; rfl
    rw [hz] at s2 s5
    rw [List.length_cons] at s2 s5
    rw [List.length_cons, if_neg (nI_ne0 (by omega) (by omega))]
    have lb : mm_ln h (b + 2) = 32 := sk_ln C.1.1 (by omega) (by rcases hb with rfl | rfl | rfl | rfl <;> decide +kernel)
    simp only [mm_gr, C.f f0, Option.bind_some, lb]
    rw [if_pos (by decide), show mm_n (0 : Int32) = 0 from by decide, C.p pa, s4 0 (by omega)]
    simp only [Option.bind_some]
    rw [hl] at s1
    refine cs_drop18' (n0 := l.length + 1) hb s1 (by omega) (by omega) C (fun k hk => ⟨_, s4 k hk⟩) (fun h' C' => ?_)
    rw [C'.i oi, s1, show nI (l.length + 1) - 1 = nI l.length from nI_pred _]
    simp only [mm_bh]
    have C2 := C'.si (a := b + 1) (k := 1) (v := nI l.length) oi
    have lb2 : mm_ln (mm_si h' (b + 1) 1 (nI l.length)) (b + 2) = 32 := sk_ln C2.1.1 (by omega) (by rcases hb with rfl | rfl | rfl | rfl <;> decide +kernel)
    rw [C2.f f0]
    simp only [Option.bind_some, lb2]
    rw [C2.i oi, vu_at, upd_at, if_pos (rr_in (by omega) (by omega)), rr_n (by omega)]
    have C3 := C2.sr (a := b + 2) (k := l.length) (v := some (p 0)) pa
    rw [vu_at, bx_uu] at C3
    refine tr_mk (Or.inr ⟨rfl, x, l, rfl, cE.pi hb e i (fun c hc _ => ps c hc) C3 (s3.s1 (n := l.length) (by omega)) (fun k hk => ?_) (by omega) (fun k hk => ?_)⟩)
    · show _ = some (p (pl_s1 l.length k))
      unfold pl_s1
      by_cases c2 : k = l.length
      · subst c2; rw [vu_at, if_neg (by omega), if_pos rfl]
      · rw [vu_off c2]
        unfold pl_dr
        by_cases c1 : k < l.length
        · rw [if_pos (by omega), if_pos c1, s4 _ (by omega)]
        · rw [if_neg (by omega), if_neg c1, if_neg c2, s4 _ hk]
    · show M1 (p (pl_s1 l.length k)) = _
      unfold pl_s1
      rw [if_pos hk, s5 (k + 1) (by omega)]
      rfl
theorem ce_swap (hb : sk_b b) (E : cE L h M I Z) (K0 : (Z b).length < 2 → tr (g 0 h) Q) (K1 : ∀ h' x y l, Z b = x :: y :: l → cE L h' M I (va_up Z b (y :: x :: l)) → tr (g 1 h') Q) : tr (mm_qi (bd_X4_swap (b + 1) h) g) Q := by
  obtain ⟨M1, I1, P, C, e, i, ps⟩ := E
  obtain ⟨s1, s2, p, s3, s4, s5⟩ := ps b hb
  have f0 : sk_ref (b + 1) 0 = some (b + 2) := (by rcases hb with rfl | rfl | rfl | rfl <;> decide +kernel)
  have oi : sk_ob (b + 1) = true := (by rcases hb with rfl | rfl | rfl | rfl <;> decide +kernel)
  have pa : sk_pa (b + 2) = true := (by rcases hb with rfl | rfl | rfl | rfl <;> decide +kernel)
  refine tr_qi (R := fun v h' => (v = some (.int 0) ∧ h' = h ∧ (Z b).length < 2) ∨ (v = some (.int 1) ∧ ∃ x y l, Z b = x :: y :: l ∧ cE L h' M I (va_up Z b (y :: x :: l)))) ?_ (fun v h' q => by
    rcases q with ⟨e, rfl, q2⟩ | ⟨e, x, y, l, q1, q2⟩
    · exact ⟨0, e, K0 q2⟩
    · exact ⟨1, e, K1 h' x y l q1 q2⟩)
  unfold bd_X4_swap
  rw [C.i oi, s1, show ((2 : Int32)) = nI 2 from rfl]
  by_cases c : 2 ≤ (Z b).length
  · rw [if_pos (by rw [nI_leI (by omega) (by omega)]; exact c)]
    obtain ⟨x, y, l, hz⟩ : ∃ x y l, Z b = x :: y :: l := by
      match hz : Z b with
      | [] => rw [hz] at c; simp at c
      | [x] => rw [hz] at c; simp at c
      | x :: y :: l => exact ⟨x, y, l, rfl⟩
    have hl : (Z b).length = l.length + 2 := by rw [hz]; rfl
    have lb : mm_ln h (b + 2) = 32 := sk_ln C.1.1 (by omega) (by rcases hb with rfl | rfl | rfl | rfl <;> decide +kernel)
    simp only [mm_gr, C.f f0, Option.bind_some, lb]
    rw [if_pos (by decide), show mm_n (0 : Int32) = 0 from by decide, show mm_n (1 : Int32) = 1 from by decide, C.p pa, s4 0 (by omega)]
    simp only [Option.bind_some]
    rw [if_pos (by decide), C.p pa, s4 1 (by omega)]
    simp only [Option.bind_some, mm_bh]
    have C2 := C.sr (a := b + 2) (k := 0) (v := some (p 1)) pa
    have lb2 : mm_ln (mm_sr h (b + 2) 0 (some (p 1))) (b + 2) = 32 := sk_ln C2.1.1 (by omega) (by rcases hb with rfl | rfl | rfl | rfl <;> decide +kernel)
    rw [if_pos (by decide), C2.f f0]
    simp only [Option.bind_some, lb2]
    rw [if_pos (by decide)]
    have C3 := C2.sr (a := b + 2) (k := 1) (v := some (p 0)) pa
    rw [vu_at, bx_uu] at C3
    have hl2 : (y :: x :: l).length = l.length + 2 := rfl
    refine tr_mk (Or.inr ⟨rfl, x, y, l, hz, cE.pi hb e i (fun c hc _ => ps c hc) (by rw [pl_up1 (by rw [s1, hl, hl2])]; exact C3) s3.s2 (fun k hk => ?_) (by omega) (fun k hk => ?_)⟩)
    · by_cases c2 : k = 1
      · subst c2; rw [vu_at]; rfl
      · rw [vu_off c2]
        by_cases c1 : k = 0
        · subst c1; rw [vu_at]; rfl
        · rw [vu_off c1, s4 k hk]
          show some (p k) = some (p (pl_s2 k))
          unfold pl_s2
          rw [if_neg c1, if_neg c2]
    · rw [hz] at s5
      show M1 (p (pl_s2 k)) = _
      unfold pl_s2
      by_cases c1 : k = 0
      · subst c1; rw [if_pos rfl, s5 1 (by simp)]; rfl
      · rw [if_neg c1]
        by_cases c2 : k = 1
        · subst c2; rw [if_pos rfl, s5 0 (by simp)]; rfl
        · rw [if_neg c2, s5 k (by rw [List.length_cons, List.length_cons] at hk ⊢; exact hk)]
          obtain ⟨k, rfl⟩ : ∃ m, k = m + 2 := ⟨k - 2, by omega⟩
          rfl
  · rw [if_neg (by rw [nI_leI (by omega) (by omega)]; exact c)]
    exact tr_mk (Or.inl ⟨rfl, rfl, by omega⟩)
end PLC
