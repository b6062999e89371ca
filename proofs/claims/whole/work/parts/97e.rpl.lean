/-! ===== the reference's calls: piles, and those that only tell ===== -/
abbrev zP (e a k : Nat) : Prop := (a = 504 ∧ 21120 * e ≤ k ∧ k < 21120 * e + 21120) ∨ (a = 505 ∧ 33 * e ≤ k ∧ k < 33 * e + 33) ∨ (a = 506 ∧ k = e)
theorem rA.z {h h' : mm_H} {s : sT} {e b : Nat} {z : List (List Int32)} (A : rA h s e b) (F : dF (zP e) h h') (w1 : mm_i h' 506 e = nI z.length) (w2 : ∀ k l, z[k]? = some l → mm_i h' 505 (33 * e + k) = nI l.length ∧ bs h' 504 (640 * (33 * e + k)) l) : rA h' (mZ s b z) e b := by
  obtain ⟨c0, c1, c2, c3, c4, c5, c6, c7, c8, c9, c10, c11, c12, c13, c14, c15, c16, c17, c18, c19, c20, c21⟩ := A
  exact ⟨by rw [F.i (by omega)]; exact c0, by rw [F.i (by omega)]; exact c1, by rw [F.i (by omega)]; exact c2, c3.F F (fun k z1 z2 => (by omega)), by rw [F.i (by omega)]; exact c4, c5.F F (fun k z1 z2 => (by omega)), by rw [F.i (by omega)]; exact c6, c7.F F (fun k z1 z2 => (by omega)), by rw [F.i (by omega)]; exact c8, by rw [F.i (by omega)]; exact c9, by rw [F.i (by omega)]; exact c10, by rw [F.i (by omega)]; exact c11, by rw [show (mZ s b z).2.2 b = z from vu_at]; exact w1, by rw [show (mZ s b z).2.2 b = z from vu_at]; exact w2, by rw [F.i (by omega)]; exact c14, c15.F F (fun k z1 z2 => (by omega)), by rw [F.i (by omega)]; exact c16, by rw [F.i (by omega)]; exact c17, fun z => ⟨(c18 z).1.F F (fun k z1 z2 => (by omega)), (c18 z).2⟩, by rw [F.i (by omega)]; exact c19, by rw [F.i (by omega)]; exact c20, fun z => ⟨(c21 z).1.F F (fun k z1 z2 => (by omega)), (c21 z).2⟩⟩
section RPL
variable {L : Nat} {h h' : mm_H} {s s' : sT} {e b : Nat} {f : mm_H → mm_O} {g : Int32 → mm_H → mm_O} {Q : Option Value → mm_H → Prop}
/-- the record l lies in the slot p -/
def rc (h : mm_H) (e p : Nat) (l : List Int32) : Prop := mm_i h 505 (33 * e + p) = nI l.length ∧ bs h 504 (640 * (33 * e + p)) l
abbrev zK (e j a k : Nat) : Prop := (a = 504 ∧ 640 * (33 * e + j) ≤ k ∧ k < 640 * (33 * e + j) + 640) ∨ (a = 505 ∧ k = 33 * e + j)
theorem rc.F {p j : Nat} {l : List Int32} (r : rc h e p l) (F : dF (zK e j) h h') (hp : p ≠ j) (hl : l.length ≤ 600) : rc h' e p l := ⟨by rw [F.i (by omega)]; exact r.1, r.2.F F (fun k z1 z2 => (by omega))⟩
theorem dr_copy {i j : Nat} {x y : Int32} {l : List Int32} (T : dT L h) (he : e < 4) (hi : i < 33) (hj : j < 33) (ij : i ≠ j) (r : rc h e i l) (hl : l.length ≤ 600) (ex : x = nI i) (ey : y = nI j) (K : ∀ h', rc h' e j l → dF (zK e j) h h' → tr (f h') Q) : tr (mm_qv (bd_X12_copyRecord 490 (nI e) x y h) f) Q := by
  refine tr_v (p := fun h' => rc h' e j l ∧ dF (zK e j) h h') ?_ (fun h' q => K h' q.1 q.2)
  unfold bd_X12_copyRecord
  rw [ex, ey, show (33 : Int32) * nI e = nI (33 * e) from pk_mul 33 e, nI_add, nI_add, show (640 : Int32) * nI (33 * e + i) = nI (640 * (33 * e + i)) from pk_mul 640 _, show (640 : Int32) * nI (33 * e + j) = nI (640 * (33 * e + j)) from pk_mul 640 _]
  refine tr_gr T.r15 (tr_gr T.r15 (tr_gr T.r16 (tr_ip (dq_in T.l505 rfl (by omega) (by decide)) ?_)))
  rw [rr_n (n := 33 * e + i) (by omega), r.1]
  refine dr_mv r.2 (Or.inr (by omega)) (by decide) 84480 84480 T.l504 T.l504 (by omega) (by omega) (by decide) (by decide) rfl rfl rfl (by omega) (fun h1 b1 F1 => ?_)
  have T1 := T.F F1
  refine tr_gr T1.r16 (tr_gr T1.r16 (tr_ip (dq_in T1.l505 rfl (by omega) (by decide)) ?_))
  rw [show mm_i h1 505 (33 * e + i) = nI l.length from by rw [F1.i (by omega)]; exact r.1]
  refine dq_st (by decide) T1.l505 rfl (by omega) (by decide) (fun h2 F2 v2 => ?_)
  exact tr_mk ⟨rfl, ⟨v2, b1.F F2 (fun k _ _ => (by omega))⟩, (F1.c F2).mo (fun a k z => by omega)⟩
theorem qv_k {o : mm_O} {p : mm_H → Prop} (t : tr (mm_qv o (fun h1 => some (none, h1))) (fun v h1 => v = none ∧ p h1)) : ∃ h1, o = some (none, h1) ∧ p h1 := by
  obtain ⟨v, h1, q1, q2, q3⟩ := t
  subst q2
  refine ⟨h1, ?_, q3⟩
  cases o with
  | none => exact absurd q1 (by simp [mm_qv, mm_uv])
  | some w =>
    obtain ⟨v, h2⟩ := w
    cases v with
    | none => rw [mm_qv_s] at q1; exact q1
    | some v => exact absurd q1 (by simp [mm_qv, mm_uv])
theorem dm_leave {ke : Nat → Int32 → mm_H → mm_O} {z : List (List Int32)} (he : e < 4) (hN : z.length ≤ 32) (hz : ∀ l ∈ z, l.length ≤ 600) : ∀ (m k n : Nat) (h : mm_H), dT L h → mm_i h 506 e = nI z.length → 1 ≤ k → k + m = z.length → (∀ p l, p + 1 < k → z[p + 1]? = some l → rc h e p l) → (∀ p l, k ≤ p → z[p]? = some l → rc h e p l) → m < n → ∃ h', lp_X12_leave_2 ke n 490 (nI e) (nI k) h = ke 490 (nI e) h' ∧ dF (fun a k => (a = 504 ∧ 21120 * e ≤ k ∧ k < 21120 * e + 21120) ∨ (a = 505 ∧ 33 * e ≤ k ∧ k < 33 * e + 33)) h h' ∧ ∀ p l, z[p + 1]? = some l → rc h' e p l := by
  intro m
  induction m with
  | zero =>
    intro k n h T i6 h1 hk J1 J2 hn
    obtain ⟨n, rfl⟩ : ∃ k, n = k + 1 := ⟨n - 1, by omega⟩
    rw [lp_X12_leave_2, mm_gr_s T.r17, T.l506, if_pos (rr_in he (by decide)), rr_n (show e < 2 ^ 31 by omega), i6, if_pos (by rw [nI_leI (by omega) (by omega)]; omega)]
    exact ⟨h, rfl, dF.rf, fun p l q => J1 p l (by have := (zi_get q).1; omega) q⟩
  | succ m ih =>
    intro k n h T i6 h1 hk J1 J2 hn
    obtain ⟨n, rfl⟩ : ∃ k, n = k + 1 := ⟨n - 1, by omega⟩
    obtain ⟨j, rfl⟩ : ∃ j, k = j + 1 := ⟨k - 1, by omega⟩
    obtain ⟨l, hl⟩ : ∃ l, z[j + 1]? = some l := ⟨z[j + 1]'(by omega), List.getElem?_eq_getElem (by omega)⟩
    have lz := hz l (zi_get hl).2
    rw [lp_X12_leave_2, mm_gr_s T.r17, T.l506, if_pos (rr_in he (by decide)), rr_n (show e < 2 ^ 31 by omega), i6, if_neg (by rw [nI_leI (by omega) (by omega)]; omega), nI_m1]
    have key : ∃ h1, bd_X12_copyRecord 490 (nI e) (nI (j + 1)) (nI j) h = some (none, h1) ∧ rc h1 e j l ∧ dF (zK e j) h h1 := by
      have t2 : tr (mm_qv (bd_X12_copyRecord 490 (nI e) (nI (j + 1)) (nI j) h) (fun h1 => some (none, h1))) (fun v h1 => v = none ∧ rc h1 e j l ∧ dF (zK e j) h h1) := dr_copy T he (by omega) (by omega) (by omega) (J2 _ l (Nat.le_refl _) hl) lz rfl rfl (fun h1 r F => tr_mk ⟨rfl, r, F⟩)
      exact qv_k t2
    obtain ⟨h2, q1, q2, F2⟩ := key
    rw [q1, mm_qv_s, nI_1]
    obtain ⟨h', p1, p2, p3⟩ := ih (j + 1 + 1) n h2 (T.F F2) (by rw [F2.i (by omega)]; exact i6) (by omega) (by omega) (fun p l' hp q => by
      by_cases c : p = j
      · subst c
        rw [hl] at q
        rw [← Option.some.inj q]; exact q2
      · exact (J1 p l' (by omega) q).F F2 c (hz l' (zi_get q).2)) (fun p l' hp q => (J2 p l' (by omega) q).F F2 (by omega) (hz l' (zi_get q).2)) (by omega)
    exact ⟨h', p1, (F2.c p2).mo (fun a k z => by
      rcases z with z | z
      · rcases z with z | z
        · exact Or.inl (by omega)
        · exact Or.inr (by omega)
      · exact z), p3⟩
theorem dr_leave {z : List (List Int32)} {l0 : List Int32} (T : dT L h) (he : e < 4) (hN : (l0 :: z).length ≤ 32) (hz : ∀ l ∈ l0 :: z, l.length ≤ 600) (i6 : mm_i h 506 e = nI (l0 :: z).length) (J : ∀ p l, (l0 :: z)[p]? = some l → rc h e p l) (K : ∀ h', dF (zP e) h h' → mm_i h' 506 e = nI z.length → (∀ p l, z[p]? = some l → rc h' e p l) → tr (f h') Q) : tr (mm_qv (bd_X12_leave 490 (nI e) h) f) Q := by
  refine tr_v (p := fun h' => dF (zP e) h h' ∧ mm_i h' 506 e = nI z.length ∧ ∀ p l, z[p]? = some l → rc h' e p l) ?_ (fun h' q => K h' q.1 q.2.1 q.2.2)
  unfold bd_X12_leave
  have lc : (l0 :: z).length = z.length + 1 := rfl
  obtain ⟨h1, p1, F1, r1⟩ := dm_leave (L := L) (ke := fun b8 v9 h7 => mm_gr h7 b8 17 (fun b10 => if mm_in v9 (mm_ln h7 b10) = true then (if 32 ≤ b10 ∧ mm_in v9 (mm_ln h7 b10) = true then (mm_bh (mm_si h7 b10 (mm_n v9) ((mm_i h7 b10 (mm_n v9)) - (1 : Int32))) (fun h14 => some (none, h14))) else none) else none)) he hN hz z.length 1 mm_fu h T i6 (Nat.le_refl 1) (by omega) (fun p l hp => by omega) (fun p l hp q => J p l q) (by unfold mm_fu; omega)
  rw [show ((1 : Int32)) = nI 1 from rfl]
  rw [show ((1 : Int32)) = nI 1 from rfl] at p1
  rw [p1]
  have T1 := T.F F1
  refine tr_gr T1.r17 (tr_ip (dq_in T1.l506 rfl he (by decide)) ?_)
  rw [rr_n (n := e) (by omega), show mm_i h1 506 e = nI (z.length + 1) from by rw [F1.i (by omega)]; exact i6, show nI (z.length + 1) - nI 1 = nI z.length from nI_m1 _]
  refine dq_sk (by decide) T1.l506 rfl he (by decide) (fun h2 F2 v2 => ?_)
  refine tr_mk ⟨rfl, (F1.c F2).mo (fun a k z => by
    rcases z with z | z
    · rcases z with z | z
      · exact Or.inl z
      · exact Or.inr (Or.inl z)
    · exact Or.inr (Or.inr z)), v2, fun p l q => ?_⟩
  have := r1 p l q
  exact ⟨by rw [F2.i (by omega)]; exact this.1, this.2.F F2 (fun k _ _ => (by omega))⟩
theorem dm_twice {ke : Nat → Int32 → mm_H → mm_O} {z : List (List Int32)} (he : e < 4) (hN : z.length < 32) (hz : ∀ l ∈ z, l.length ≤ 600) : ∀ (m n : Nat) (h : mm_H), dT L h → m ≤ z.length → (∀ p l, p < m → z[p]? = some l → rc h e p l) → (∀ p l, m ≤ p → z[p]? = some l → rc h e (p + 1) l) → m < n → ∃ h', lp_X12_meddle_77 ke n 490 (nI e) (nI m + (-1)) h = ke 490 (nI e) h' ∧ dF (fun a k => (a = 504 ∧ 21120 * e + 640 ≤ k ∧ k < 21120 * e + 21120) ∨ (a = 505 ∧ 33 * e + 1 ≤ k ∧ k < 33 * e + 33)) h h' ∧ ∀ p l, z[p]? = some l → rc h' e (p + 1) l := by
  intro m
  induction m with
  | zero =>
    intro n h T hm J1 J2 hn
    obtain ⟨n, rfl⟩ : ∃ k, n = k + 1 := ⟨n - 1, by omega⟩
    rw [lp_X12_meddle_77, if_pos (by decide)]
    exact ⟨h, rfl, dF.rf, fun p l q => J2 p l (Nat.zero_le _) q⟩
  | succ m ih =>
    intro n h T hm J1 J2 hn
    obtain ⟨n, rfl⟩ : ∃ k, n = k + 1 := ⟨n - 1, by omega⟩
    have em : nI (m + 1) + (-1) = nI m := by
      have := nI_m1 m
      rw [Int32.sub_eq_add_neg] at this; exact this
    obtain ⟨l, hl⟩ : ∃ l, z[m]? = some l := ⟨z[m]'(by omega), List.getElem?_eq_getElem (by omega)⟩
    have lz := hz l (zi_get hl).2
    rw [lp_X12_meddle_77, em, if_neg (nI_pos (by omega)), nI_1]
    have key : ∃ h1, bd_X12_copyRecord 490 (nI e) (nI m) (nI (m + 1)) h = some (none, h1) ∧ rc h1 e (m + 1) l ∧ dF (zK e (m + 1)) h h1 := by
      have t2 : tr (mm_qv (bd_X12_copyRecord 490 (nI e) (nI m) (nI (m + 1)) h) (fun h1 => some (none, h1))) (fun v h1 => v = none ∧ rc h1 e (m + 1) l ∧ dF (zK e (m + 1)) h h1) := dr_copy T he (by omega) (by omega) (by omega) (J1 _ l (by omega) hl) lz rfl rfl (fun h1 r F => tr_mk ⟨rfl, r, F⟩)
      exact qv_k t2
    obtain ⟨h2, q1, q2, F2⟩ := key
    rw [q1, mm_qv_s]
    obtain ⟨h', p1, p2, p3⟩ := ih n h2 (T.F F2) (by omega) (fun p l' hp q => (J1 p l' (by omega) q).F F2 (by omega) (hz l' (zi_get q).2)) (fun p l' hp q => by
      by_cases c : p = m
      · subst c
        rw [hl] at q
        rw [← Option.some.inj q]; exact q2
      · exact (J2 p l' (by omega) q).F F2 (by omega) (hz l' (zi_get q).2)) (by omega)
    exact ⟨h', p1, (F2.c p2).mo (fun a k z => by
      rcases z with z | z
      · rcases z with z | z
        · exact Or.inl (by omega)
        · exact Or.inr (by omega)
      · exact z), p3⟩
theorem in_n {n : Nat} {x : Int32} (hn : n < 2 ^ 31) : (if x < 0 then (0 : Int32) else if nI n - 1 < x then 0 else 1) = if x < 0 then 0 else if nI n ≤ x then 0 else 1 := by
  by_cases c1 : x < 0
  · rw [if_pos c1, if_pos c1]
  · rw [if_neg c1, if_neg c1]
    obtain ⟨k, hk, rfl⟩ := nI_of c1
    by_cases c2 : n ≤ k
    · have w : nI n - 1 < nI k := by
        by_cases n0 : n = 0
        · rw [n0]
          have : nI 0 - 1 = (-1 : Int32) := by decide
          rw [this]
          exact Int32.lt_of_lt_of_le (by decide) (nI_pos' hk)
        · obtain ⟨m, rfl⟩ : ∃ m, n = m + 1 := ⟨n - 1, by omega⟩
          rw [nI_m1, nI_ltI (by omega) hk]; omega
      rw [if_pos w, if_pos ((nI_leI hn hk).mpr c2)]
    · have w : ¬ nI n - 1 < nI k := by
        obtain ⟨m, rfl⟩ : ∃ m, n = m + 1 := ⟨n - 1, by omega⟩
        rw [nI_m1, nI_ltI (by omega) hk]; omega
      rw [if_neg w, if_neg (fun z => c2 ((nI_leI hn hk).mp z))]
theorem zP_R {a k : Nat} (z : zP e a k) : zR e a k := by
  rcases z with z | z | z
  · exact re5 z
  · exact re6 z
  · exact re1 (by omega)
/-- a pile anew -/
theorem rP.pile {x : Int32} {z : List (List Int32)} (R : rR L h s) (Z : jB s) (J : jC s) (he : e < 4) (hb : b = 82 + 102 * e) (F : dF (zP e) h h') (w1 : mm_i h' 506 e = nI z.length) (w2 : ∀ p l, z[p]? = some l → rc h' e p l) : rP L h (x, mZ s b z) (some (.int x)) h' := by
  obtain ⟨A, S⟩ := R.2.2.2 e he
  have je := J.2.2.2 e he
  have ze := Z.2 e he
  rw [← hb] at A S je ze
  exact rP.put R Z J he hb (R.1.F F (fun a k z => by omega)) (A.z F w1 w2) (show rS h' s e b from S.G (Nat.le_trans ze.2.2.2.2.1.1 (by decide)) je F (fun a k z => by omega)) (F.R zP_R) xZ
theorem cq_meddle {x w : Int32} (R : rR L h s) (Z : jB s) (J : jC s) : tr (bd_X12_meddle 490 x w h) (rP L h (nMeddle s x w)) := by
  obtain ⟨r1, -, -, r5⟩ := id R
  unfold bd_X12_meddle nMeddle
  refine dr_isEnd R J (fun e0 => ?_) (fun e he ex e0 hm => ?_)
  · rw [e0, if_pos rfl]; exact tr_mk (rP.mk R)
  · rw [e0, ex, if_neg (by decide)]
    obtain ⟨A, S⟩ := r5 e he
    have ze := Z.2 e he
    obtain ⟨b, hb⟩ : ∃ b, b = 82 + 102 * e := ⟨_, rfl⟩
    rw [← hb] at A S ze ⊢
    show tr _ (rP L h (if w = 0 then (match s.2.2 b with | [] => (0, s) | _ :: z => (1, mZ s b z)) else if w = 1 then (match s.2.2 b with | [] => (0, s) | l :: z => if z.length < 31 then (1, mZ s b (l :: l :: z)) else (0, s)) else if w = 2 then (match s.2.2 b with | l :: k :: z => (1, mZ s b (k :: l :: z)) | _ => (0, s)) else (0, s)))
    have T := r1.1
    have c12 := A.2.2.2.2.2.2.2.2.2.2.2.2.1
    have c13 : ∀ p l, (s.2.2 b)[p]? = some l → rc h e p l := A.2.2.2.2.2.2.2.2.2.2.2.2.2.1
    have zn := ze.2.2.2.2.2.2.1
    have hz : ∀ z ∈ s.2.2 b, z.length ≤ 600 := fun z hz => (ze.2.2.2.2.2.2.2 z hz).1
    rw [dr_isIn]
    have bad : w < 0 ∨ 2 < w → w ≠ 0 ∧ w ≠ 1 ∧ w ≠ 2 := fun q => ⟨fun z => by rw [z] at q; exact absurd q (by decide), fun z => by rw [z] at q; exact absurd q (by decide), fun z => by rw [z] at q; exact absurd q (by decide)⟩
    by_cases q1 : w < 0
    · obtain ⟨b0, b1, b2⟩ := bad (Or.inl q1)
      rw [if_pos q1, if_pos rfl, if_neg b0, if_neg b1, if_neg b2]; exact tr_mk (rP.mk R)
    rw [if_neg q1]
    by_cases q2 : 2 < w
    · obtain ⟨b0, b1, b2⟩ := bad (Or.inr q2)
      rw [if_pos q2, if_pos rfl, if_neg b0, if_neg b1, if_neg b2]; exact tr_mk (rP.mk R)
    rw [if_neg q2, if_neg (by decide)]
    have w3 : w = 0 ∨ w = 1 ∨ w = 2 := by
      obtain ⟨k, hk, rfl⟩ := nI_of q1
      rw [show ((2 : Int32)) = nI 2 from rfl, nI_ltI (by omega) hk] at q2
      rcases (by omega : k = 0 ∨ k = 1 ∨ k = 2) with rfl | rfl | rfl
      · exact Or.inl rfl
      · exact Or.inr (Or.inl rfl)
      · exact Or.inr (Or.inr rfl)
    refine tr_gr T.r17 (tr_ip (dq_in T.l506 rfl he (by decide)) ?_)
    rw [rr_n (n := e) (by omega), c12]
    unfold jn_X12_meddle_33 jn_X12_meddle_51
    rcases w3 with rfl | rfl | rfl
    · rw [if_neg (by decide), if_pos rfl, if_neg (show ¬ (0 : Int32) = 1 by decide), if_pos rfl]
      cases hs : s.2.2 b with
      | nil =>
        rw [if_pos (by decide)]; exact tr_mk (rP.mk R)
      | cons l0 z =>
        rw [hs] at c12 c13 zn hz
        have lc : (l0 :: z).length = z.length + 1 := rfl
        rw [if_neg (show ¬ nI (l0 :: z).length < 1 from by rw [show ((1 : Int32)) = nI 1 from rfl, nI_ltI (by omega) (by omega), lc]; omega)]
        refine dr_leave T he zn hz c12 c13 (fun h1 F1 v1 r1' => ?_)
        exact tr_mk (rP.pile R Z J he hb F1 v1 r1')
    · rw [if_neg (show ¬ (1 : Int32) = 2 by decide), if_neg (show ¬ (1 : Int32) = 0 by decide), if_pos (show (1 : Int32) = 1 from rfl), if_pos (show (1 : Int32) = 1 from rfl)]
      cases hs : s.2.2 b with
      | nil =>
        rw [if_pos (by decide)]; exact tr_mk (rP.mk R)
      | cons l0 z =>
        have lc : (l0 :: z).length = z.length + 1 := rfl
        rw [if_neg (show ¬ nI (l0 :: z).length < 1 from by rw [hs, lc] at zn; rw [show ((1 : Int32)) = nI 1 from rfl, nI_ltI (by omega) (by omega), lc]; omega)]
        refine dr_full T he A zn ?_
        rw [hs] at c12 c13 zn hz
        by_cases c2 : (s.2.2 b).length = 32
        · have c31 : ¬ z.length < 31 := by rw [hs, lc] at c2; omega
          rw [if_pos c2, if_neg (by decide)]
          show tr _ (rP L h (if z.length < 31 then _ else _))
          rw [if_neg c31]; exact tr_mk (rP.mk R)
        · have c31 : z.length < 31 := by rw [hs, lc] at c2; rw [lc] at zn; omega
          rw [if_neg c2, if_pos rfl]
          show tr _ (rP L h (if z.length < 31 then _ else _))
          rw [if_pos c31, if_neg (show ¬ (1 : Int32) = 0 by decide), if_pos (show (1 : Int32) = 1 from rfl)]
          refine tr_gr T.r17 (tr_ip (dq_in T.l506 rfl he (by decide)) ?_)
          rw [rr_n (n := e) (by omega), c12, mm_bi]
          obtain ⟨h1, p1, F1, r1'⟩ := dm_twice (L := L) (ke := fun b29 v30 h28 => mm_gr h28 b29 17 (fun b31 => if mm_in v30 (mm_ln h28 b31) = true then (if 32 ≤ b31 ∧ mm_in v30 (mm_ln h28 b31) = true then (mm_bh (mm_si h28 b31 (mm_n v30) ((mm_i h28 b31 (mm_n v30)) + (1 : Int32))) (fun h35 => some (some (.int 1), h35))) else none) else none)) (z := l0 :: z) he (by rw [lc]; omega) hz (l0 :: z).length mm_fu h T (Nat.le_refl _) (fun p l _ q => c13 p l q) (fun p l hp q => absurd (zi_get q).1 (by omega)) (by unfold mm_fu; rw [lc]; omega)
          rw [Int32.sub_eq_add_neg, p1]
          have T1 := T.F F1
          have i6 : mm_i h1 506 e = nI (l0 :: z).length := by rw [F1.i (by omega)]; exact c12
          refine tr_gr T1.r17 (tr_ip (dq_in T1.l506 rfl he (by decide)) ?_)
          rw [rr_n (n := e) (by omega), i6, nI_1]
          refine dq_sk (by decide) T1.l506 rfl he (by decide) (fun h2 F2 v2 => ?_)
          have F12 : dF (zP e) h h2 := (F1.c F2).mo (fun a k z => by
            rcases z with z | z
            · rcases z with z | z
              · exact Or.inl (by omega)
              · exact Or.inr (Or.inl (by omega))
            · exact Or.inr (Or.inr z))
          refine tr_mk (rP.pile R Z J he hb F12 v2 (fun p l q => ?_))
          cases p with
          | zero =>
            have ql : l0 = l := by simpa using q
            have r0 := c13 0 l0 rfl
            rw [← ql]
            have hl0 := hz l0 (by simp)
            exact ⟨by rw [F2.i (by omega), F1.i (by omega)]; exact r0.1, (r0.2.F F1 (fun k _ _ => (by omega))).F F2 (fun k _ _ => (by omega))⟩
          | succ p =>
            have q' : (l0 :: z)[p]? = some l := by simpa using q
            have r0 := r1' p l q'
            exact ⟨by rw [F2.i (by omega)]; exact r0.1, r0.2.F F2 (fun k _ _ => (by omega))⟩
    · rw [if_pos (show (2 : Int32) = 2 from rfl), if_neg (show ¬ (2 : Int32) = 1 by decide), if_neg (show ¬ (2 : Int32) = 0 by decide), if_neg (show ¬ (2 : Int32) = 1 by decide), if_neg (show ¬ (2 : Int32) = 0 by decide), if_neg (show ¬ (2 : Int32) = 1 by decide), if_pos (show (2 : Int32) = 2 from rfl)]
      match hs : s.2.2 b with
      | [] => rw [if_pos (by decide)]; exact tr_mk (rP.mk R)
      | [l0] => rw [if_pos (by show nI 1 < 2; decide)]; exact tr_mk (rP.mk R)
      | l0 :: l1 :: z =>
        rw [hs] at c12 c13 zn hz
        have lc : (l0 :: l1 :: z).length = z.length + 2 := rfl
        rw [if_neg (show ¬ nI (l0 :: l1 :: z).length < 2 from by rw [lc] at zn; rw [show ((2 : Int32)) = nI 2 from rfl, nI_ltI (by omega) (by omega), lc]; omega)]
        have z0 := hz l0 (by simp)
        have z1 := hz l1 (by simp)
        refine dr_copy (i := 0) (j := 32) T he (by decide) (by decide) (by decide) (c13 0 l0 rfl) z0 rfl rfl (fun h1 r1' F1 => ?_)
        refine dr_copy (i := 1) (j := 0) (T.F F1) he (by decide) (by decide) (by decide) ((c13 1 l1 rfl).F F1 (by decide) z1) z1 rfl rfl (fun h2 r2' F2 => ?_)
        refine dr_copy (i := 32) (j := 1) ((T.F F1).F F2) he (by decide) (by decide) (by decide) (r1'.F F2 (by decide) z0) z0 rfl rfl (fun h3 r3' F3 => ?_)
        have F13 : dF (zP e) h h3 := ((F1.c F2).c F3).mo (fun a k z => by
          rcases z with (z | z) | z
          · rcases z with z | z
            · exact Or.inl (by omega)
            · exact Or.inr (Or.inl (by omega))
          · rcases z with z | z
            · exact Or.inl (by omega)
            · exact Or.inr (Or.inl (by omega))
          · rcases z with z | z
            · exact Or.inl (by omega)
            · exact Or.inr (Or.inl (by omega)))
        refine tr_mk (rP.pile R Z J he hb F13 (by rw [F3.i (by omega), F2.i (by omega), F1.i (by omega)]; exact c12) (fun p l q => ?_))
        match p, q with
        | 0, q =>
          have ql : l1 = l := by simpa using q
          rw [← ql]; exact r2'.F F3 (by decide) z1
        | 1, q =>
          have ql : l0 = l := by simpa using q
          rw [← ql]; exact r3'
        | p + 2, q =>
          have q' : (l0 :: l1 :: z)[p + 2]? = some l := by simpa using q
          have zz := hz l (zi_get q').2
          have pl := (zi_get q').1
          rw [lc] at pl zn
          exact (((c13 _ l q').F F1 (by omega) zz).F F2 (by omega) zz).F F3 (by omega) zz
end RPL

