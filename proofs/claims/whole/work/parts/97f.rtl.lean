/-! ===== the reference's calls: those that only tell, alter, give, carry ===== -/
section RTL
variable {L : Nat} {h h' : mm_H} {s s' : sT} {e b : Nat} {f : mm_H → mm_O} {g : Int32 → mm_H → mm_O} {Q : Option Value → mm_H → Prop}
theorem cq_given {x j : Int32} (R : rR L h s) (Z : jB s) (J : jC s) : tr (bd_X12_given 490 x j h) (rP L h (nGiven s x j, s)) := by
  obtain ⟨r1, -, -, r5⟩ := id R
  unfold bd_X12_given nGiven
  refine dr_isEnd R J (fun e0 => ?_) (fun e he ex e0 hm => ?_)
  · rw [e0, if_pos rfl]; exact tr_mk (rP.mk R)
  · rw [e0, ex, if_neg (by decide)]
    obtain ⟨A, S⟩ := r5 e he
    have ze := Z.2 e he
    obtain ⟨b, hb⟩ : ∃ b, b = 82 + 102 * e := ⟨_, rfl⟩
    rw [← hb] at A S ze ⊢
    show tr _ (rP L h (rr_at (s.1 (b + 67)) j, s))
    obtain ⟨c0, c1, c2, c3, c4, c5, c6, c7, c8, c9, c10, c11, c12, c13, c14, c15, c16, c17, c18, c19, c20, c21⟩ := A
    have T := r1.1
    have z67 := ze.2.2.2.1
    refine tr_gr T.r19 (tr_ip (dq_in T.l508 rfl he (by decide)) ?_)
    rw [rr_n (n := e) (by omega), c14, dr_isIn, in_n (by omega)]
    unfold rr_at
    by_cases q0 : j < 0
    · rw [if_pos q0, if_pos q0, if_pos rfl]; exact tr_mk (rP.mk R)
    rw [if_neg q0, if_neg q0]
    by_cases q1 : nI (s.1 (b + 67)).length ≤ j
    · rw [if_pos q1, if_pos q1, if_pos rfl]; exact tr_mk (rP.mk R)
    rw [if_neg q1, if_neg q1, if_neg (by decide)]
    obtain ⟨k, hk, rfl⟩ := nI_of q0
    have q2 : k < (s.1 (b + 67)).length := by rw [nI_leI (by omega) hk] at q1; omega
    rw [show (2000 : Int32) * nI e = nI (2000 * e) from pk_mul 2000 e, nI_add]
    refine tr_gr T.r18 (tr_ip (dq_in T.l507 rfl (by omega) (by decide)) ?_)
    rw [rr_n (n := 2000 * e + k) (by omega), show mm_i h 507 (2000 * e + k) = _ from c15 k q2, b8_by (z67.2 _ (rr_mem q2)), rr_n hk]
    exact tr_mk (rP.mk R)
theorem cq_written {x j i : Int32} (R : rR L h s) (Z : jB s) (J : jC s) : tr (bd_X12_written 490 x j i h) (rP L h (nWritten s x j i, s)) := by
  obtain ⟨r1, -, -, r5⟩ := id R
  unfold bd_X12_written nWritten
  refine dr_isEnd R J (fun e0 => ?_) (fun e he ex e0 hm => ?_)
  · rw [e0, if_pos rfl]; exact tr_mk (rP.mk R)
  · rw [e0, ex, if_neg (by decide)]
    obtain ⟨A, S⟩ := r5 e he
    have ze := Z.2 e he
    obtain ⟨b, hb⟩ : ∃ b, b = 82 + 102 * e := ⟨_, rfl⟩
    rw [← hb] at A S ze ⊢
    show tr _ (rP L h (pl_b (s.2.2 b) j i, s))
    have T := r1.1
    have c12 := A.2.2.2.2.2.2.2.2.2.2.2.2.1
    have c13 : ∀ p l, (s.2.2 b)[p]? = some l → rc h e p l := A.2.2.2.2.2.2.2.2.2.2.2.2.2.1
    have zn := ze.2.2.2.2.2.2.1
    refine tr_gr T.r17 (tr_ip (dq_in T.l506 rfl he (by decide)) ?_)
    rw [rr_n (n := e) (by omega), c12, dr_isIn, in_n (by omega)]
    unfold pl_b
    by_cases q0 : j < 0
    · rw [if_pos q0, if_pos q0, if_pos rfl]; exact tr_mk (rP.mk R)
    rw [if_neg q0, if_neg q0]
    by_cases q1 : nI (s.2.2 b).length ≤ j
    · rw [if_pos q1, if_pos q1, if_pos rfl]; exact tr_mk (rP.mk R)
    rw [if_neg q1, if_neg q1, if_neg (by decide)]
    obtain ⟨p, hp, rfl⟩ := nI_of q0
    have q2 : p < (s.2.2 b).length := by rw [nI_leI (by omega) hp] at q1; omega
    obtain ⟨l, hl⟩ : ∃ l, (s.2.2 b)[p]? = some l := ⟨(s.2.2 b)[p]'q2, List.getElem?_eq_getElem q2⟩
    have lz := ze.2.2.2.2.2.2.2 l (zi_get hl).2
    obtain ⟨v1, v2⟩ := c13 p l hl
    rw [rr_n hp, show (s.2.2 b).getD p [] = l from by rw [List.getD_eq_getElem?_getD, hl]; rfl]
    rw [show (33 : Int32) * nI e = nI (33 * e) from pk_mul 33 e, nI_add, show (640 : Int32) * nI (33 * e + p) = nI (640 * (33 * e + p)) from pk_mul 640 _]
    refine tr_gr T.r16 (tr_ip (dq_in T.l505 rfl (by omega) (by decide)) ?_)
    rw [rr_n (n := 33 * e + p) (by omega), v1, dr_isIn, in_n (by omega)]
    unfold rr_at
    by_cases d0 : i < 0
    · rw [if_pos d0, if_pos d0, if_pos rfl]; exact tr_mk (rP.mk R)
    rw [if_neg d0, if_neg d0]
    by_cases d1 : nI l.length ≤ i
    · rw [if_pos d1, if_pos d1, if_pos rfl]; exact tr_mk (rP.mk R)
    rw [if_neg d1, if_neg d1, if_neg (by decide)]
    obtain ⟨k, hk, rfl⟩ := nI_of d0
    have d2 : k < l.length := by rw [nI_leI (by omega) hk] at d1; omega
    rw [nI_add]
    refine tr_gr T.r15 (tr_ip (dq_in T.l504 rfl (by omega) (by decide)) ?_)
    rw [rr_n (n := 640 * (33 * e + p) + k) (by omega), show mm_i h 504 (640 * (33 * e + p) + k) = _ from v2 k d2, b8_by (lz.2 _ (rr_mem d2)), rr_n hk]
    exact tr_mk (rP.mk R)
theorem cq_secret {x w j : Int32} (R : rR L h s) (Z : jB s) (J : jC s) : tr (bd_X12_secret 490 x w j h) (rP L h (nSecret s x w j, s)) := by
  obtain ⟨r1, -, -, r5⟩ := id R
  unfold bd_X12_secret nSecret
  refine dr_isEnd R J (fun e0 => ?_) (fun e he ex e0 hm => ?_)
  · rw [e0, if_pos rfl]; exact tr_mk (rP.mk R)
  · rw [e0, ex, if_neg (by decide)]
    obtain ⟨A, S⟩ := r5 e he
    have ze := Z.2 e he
    obtain ⟨b, hb⟩ : ∃ b, b = 82 + 102 * e := ⟨_, rfl⟩
    rw [← hb] at A S ze ⊢
    show tr _ (rP L h (if w = 0 then (if s.2.1 (b + 69) 4 = 0 then -1 else rr_at (s.1 (b + 70)) j) else if w = 1 then (if s.2.1 (b + 76) 4 = 0 then -1 else rr_at (s.1 (b + 77)) j) else -1, s))
    obtain ⟨c0, c1, c2, c3, c4, c5, c6, c7, c8, c9, c10, c11, c12, c13, c14, c15, c16, c17, c18, c19, c20, c21⟩ := A
    have T := r1.1
    obtain ⟨y70, y77⟩ := ze.2.2.2.2.2.1
    rw [dr_isIn, show (31 : Int32) = nI 32 - 1 from by decide, in_n (by decide)]
    have bad : (j < 0 ∨ nI 32 ≤ j) → tr (some (some (.int (-1)), h)) (rP L h (if w = 0 then (if s.2.1 (b + 69) 4 = 0 then -1 else rr_at (s.1 (b + 70)) j) else if w = 1 then (if s.2.1 (b + 76) 4 = 0 then -1 else rr_at (s.1 (b + 77)) j) else -1, s)) := fun q => by
      have z : ∀ l : List Int32, l.length = 32 → rr_at l j = -1 := fun l hl => by
        unfold rr_at
        rw [hl]
        by_cases q0 : j < 0
        · rw [if_pos q0]
        · rw [if_neg q0, if_pos (q.resolve_left q0)]
      have e : (if w = 0 then (if s.2.1 (b + 69) 4 = 0 then -1 else rr_at (s.1 (b + 70)) j) else if w = 1 then (if s.2.1 (b + 76) 4 = 0 then -1 else rr_at (s.1 (b + 77)) j) else -1) = -1 := by
        by_cases w0 : w = 0
        · rw [if_pos w0]
          by_cases k0 : s.2.1 (b + 69) 4 = 0
          · rw [if_pos k0]
          · rw [if_neg k0, z _ (c18 k0).2]
        · rw [if_neg w0]
          by_cases w1 : w = 1
          · rw [if_pos w1]
            by_cases k0 : s.2.1 (b + 76) 4 = 0
            · rw [if_pos k0]
            · rw [if_neg k0, z _ (c21 k0).2]
          · rw [if_neg w1]
      rw [e]; exact tr_mk (rP.mk R)
    by_cases q0 : j < 0
    · rw [if_pos q0, if_pos rfl]; exact bad (Or.inl q0)
    rw [if_neg q0]
    by_cases q1 : nI 32 ≤ j
    · rw [if_pos q1, if_pos rfl]; exact bad (Or.inr q1)
    rw [if_neg q1, if_neg (by decide)]
    obtain ⟨k, hk, rfl⟩ := nI_of q0
    have q2 : k < 32 := by rw [nI_leI (by decide) hk] at q1; omega
    have ok : ∀ l : List Int32, l.length = 32 → rr_at l (nI k) = l.getD k 0 := fun l hl => by
      unfold rr_at
      rw [hl, if_neg q0, if_neg q1, rr_n hk]
    rw [show (32 : Int32) * nI e = nI (32 * e) from pk_mul 32 e, nI_add]
    by_cases w0 : w = 0
    · rw [if_pos w0, if_pos w0]
      refine tr_gr T.r26 (tr_ip (dq_in T.l515 rfl he (by decide)) ?_)
      rw [rr_n (n := e) (by omega), c16]
      by_cases k0 : s.2.1 (b + 69) 4 = 0
      · rw [if_pos k0, if_pos k0]; exact tr_mk (rP.mk R)
      · obtain ⟨v, lv⟩ := c18 k0
        rw [if_neg k0, if_neg k0, ok _ lv]
        refine tr_gr T.r22 (tr_ip (dq_in T.l511 rfl (by omega) (by decide)) ?_)
        rw [rr_n (n := 32 * e + k) (by omega), show mm_i h 511 (32 * e + k) = _ from v k (by omega), b8_by (y70 _ (rr_mem (by omega)))]
        exact tr_mk (rP.mk R)
    · rw [if_neg w0, if_neg w0]
      by_cases w1 : w = 1
      · rw [if_pos w1, if_pos w1]
        refine tr_gr T.r27 (tr_ip (dq_in T.l516 rfl he (by decide)) ?_)
        rw [rr_n (n := e) (by omega), c19]
        by_cases k0 : s.2.1 (b + 76) 4 = 0
        · rw [if_pos k0, if_pos k0]; exact tr_mk (rP.mk R)
        · obtain ⟨v, lv⟩ := c21 k0
          rw [if_neg k0, if_neg k0, ok _ lv]
          refine tr_gr T.r23 (tr_ip (dq_in T.l512 rfl (by omega) (by decide)) ?_)
          rw [rr_n (n := 32 * e + k) (by omega), show mm_i h 512 (32 * e + k) = _ from v k (by omega), b8_by (y77 _ (rr_mem (by omega)))]
          exact tr_mk (rP.mk R)
      · rw [if_neg w1, if_neg w1]; exact tr_mk (rP.mk R)
theorem cq_state {x w : Int32} (R : rR L h s) (Z : jB s) (J : jC s) : tr (bd_X12_state 490 x w h) (rP L h (nState s x w, s)) := by
  obtain ⟨r1, -, -, r5⟩ := id R
  unfold bd_X12_state nState
  refine dr_isEnd R J (fun e0 => ?_) (fun e he ex e0 hm => ?_)
  · rw [e0, if_pos rfl]; exact tr_mk (rP.mk R)
  · rw [e0, ex, if_neg (by decide)]
    obtain ⟨A, S⟩ := r5 e he
    obtain ⟨b, hb⟩ : ∃ b, b = 82 + 102 * e := ⟨_, rfl⟩
    rw [← hb] at A S ⊢
    show tr _ (rP L h (nReport s b w, s))
    unfold nReport
    obtain ⟨c0, c1, c2, c3, c4, c5, c6, c7, c8, c9, c10, c11, c12, c13, c14, c15, c16, c17, c18, c19, c20, c21⟩ := A
    have T := r1.1
    have yes : ∀ v : Int32, tr (if v = 0 then some (some (.int 0), h) else some (some (.int 1), h)) (rP L h (if v = 0 then 0 else 1, s)) := fun v => by
      by_cases k : v = 0
      · rw [if_pos k, if_pos k]; exact tr_mk (rP.mk R)
      · rw [if_neg k, if_neg k]; exact tr_mk (rP.mk R)
    by_cases w0 : w = 0
    · rw [if_pos w0, if_pos w0]
      refine tr_gr T.r4 (tr_ip (dq_in T.l493 rfl he (by decide)) ?_)
      rw [rr_n (n := e) (by omega), c1]; exact tr_mk (rP.mk R)
    rw [if_neg w0, if_neg w0]
    by_cases w1 : w = 1
    · rw [if_pos w1, if_pos w1]
      refine tr_gr T.r11 (tr_ip (dq_in T.l500 rfl he (by decide)) ?_)
      rw [rr_n (n := e) (by omega), c8]; exact tr_mk (rP.mk R)
    rw [if_neg w1, if_neg w1]
    by_cases w2 : w = 2
    · rw [if_pos w2, if_pos w2]
      refine tr_gr T.r12 (tr_ip (dq_in T.l501 rfl he (by decide)) ?_)
      rw [rr_n (n := e) (by omega), c9]; exact tr_mk (rP.mk R)
    rw [if_neg w2, if_neg w2]
    by_cases w3 : w = 3
    · rw [if_pos w3, if_pos w3]
      refine tr_gr T.r17 (tr_ip (dq_in T.l506 rfl he (by decide)) ?_)
      rw [rr_n (n := e) (by omega), c12]; exact tr_mk (rP.mk R)
    rw [if_neg w3, if_neg w3]
    by_cases w4 : w = 4
    · rw [if_pos w4, if_pos w4]
      refine tr_gr T.r19 (tr_ip (dq_in T.l508 rfl he (by decide)) ?_)
      rw [rr_n (n := e) (by omega), c14]; exact tr_mk (rP.mk R)
    rw [if_neg w4, if_neg w4]
    by_cases w5 : w = 5
    · rw [if_pos w5, if_pos w5]
      refine tr_gr T.r28 (tr_ip (dq_in T.l517 rfl he (by decide)) ?_)
      rw [rr_n (n := e) (by omega), c17]; exact tr_mk (rP.mk R)
    rw [if_neg w5, if_neg w5]
    by_cases w6 : w = 6
    · rw [if_pos w6, if_pos w6]
      refine tr_gr T.r29 (tr_ip (dq_in T.l518 rfl he (by decide)) ?_)
      rw [rr_n (n := e) (by omega), c20]; exact tr_mk (rP.mk R)
    rw [if_neg w6, if_neg w6]
    by_cases w7 : w = 7
    · rw [if_pos w7, if_pos w7]
      refine tr_gr T.r13 (tr_ip (dq_in T.l502 rfl he (by decide)) ?_)
      rw [rr_n (n := e) (by omega), c10]; exact yes _
    rw [if_neg w7, if_neg w7]
    by_cases w8 : w = 8
    · rw [if_pos w8, if_pos w8]
      refine tr_gr T.r14 (tr_ip (dq_in T.l503 rfl he (by decide)) ?_)
      rw [rr_n (n := e) (by omega), c11]; exact yes _
    rw [if_neg w8, if_neg w8]
    by_cases w9 : w = 9
    · rw [if_pos w9, if_pos w9]
      refine tr_gr T.r3 (tr_ip (dq_in T.l492 rfl he (by decide)) ?_)
      rw [rr_n (n := e) (by omega), c0]; exact yes _
    rw [if_neg w9, if_neg w9]
    exact tr_mk (rP.mk R)
theorem dr_flip {l l' : List Int32} {i : Nat} {v : Int32} {k : Nat} (hk : k < l.length) (B : bs h 504 i l) (F : dF (zo 504 (i + k)) h h') (w : h'.2.1 504 (i + k) = mm_b8 v) (el : l' = l.set k v) : bs h' 504 i l' := by
  subst el
  intro j hj
  rw [List.length_set] at hj
  rw [List.getD_eq_getElem?_getD, List.getElem?_set]
  by_cases q : k = j
  · subst q
    rw [if_pos rfl, if_pos hk, w]; rfl
  · rw [if_neg q, F.2.2 504 _ (by omega), B j hj, List.getD_eq_getElem?_getD]
theorem cq_alter {x i m : Int32} (R : rR L h s) (Z : jB s) (J : jC s) : tr (bd_X12_alter 490 x i m h) (rP L h (nAlter s x i m)) := by
  obtain ⟨r1, -, -, r5⟩ := id R
  unfold bd_X12_alter nAlter
  refine dr_isEnd R J (fun e0 => ?_) (fun e he ex e0 hm => ?_)
  · rw [e0, if_pos rfl]; exact tr_mk (rP.mk R)
  · rw [e0, ex, if_neg (by decide)]
    obtain ⟨A, S⟩ := r5 e he
    have ze := Z.2 e he
    obtain ⟨b, hb⟩ : ∃ b, b = 82 + 102 * e := ⟨_, rfl⟩
    rw [← hb] at A S ze ⊢
    show tr _ (rP L h (match s.2.2 b with | [] => (0, s) | l :: z => if (¬ m < 0 ∧ m ≤ 255) ∧ ¬ i < 0 ∧ i < nI l.length then (1, mZ s b (l.set (mm_n i) (l.getD (mm_n i) 0 ^^^ m) :: z)) else (0, s)))
    have T := r1.1
    have c12 := A.2.2.2.2.2.2.2.2.2.2.2.2.1
    have c13 : ∀ p l, (s.2.2 b)[p]? = some l → rc h e p l := A.2.2.2.2.2.2.2.2.2.2.2.2.2.1
    have zn := ze.2.2.2.2.2.2.1
    have hz : ∀ z ∈ s.2.2 b, z.length ≤ 600 := fun z hz => (ze.2.2.2.2.2.2.2 z hz).1
    refine tr_gr T.r17 (tr_ip (dq_in T.l506 rfl he (by decide)) ?_)
    rw [rr_n (n := e) (by omega), c12]
    cases hs : s.2.2 b with
    | nil => rw [if_pos (show nI ([] : List (List Int32)).length = 0 from rfl)]; exact tr_mk (rP.mk R)
    | cons l z =>
      rw [hs] at c12 c13 zn hz
      have lc : (l :: z).length = z.length + 1 := rfl
      have hl := hz l (by simp)
      obtain ⟨v1, v2⟩ := c13 0 l rfl
      rw [lc] at zn
      rw [if_neg (show ¬ nI (l :: z).length = 0 from by rw [lc]; exact nI_ne0 (by omega) (by omega))]
      show tr _ (rP L h (if (¬ m < 0 ∧ m ≤ 255) ∧ ¬ i < 0 ∧ i < nI l.length then (1, mZ s b (l.set (mm_n i) (l.getD (mm_n i) 0 ^^^ m) :: z)) else (0, s)))
      rw [show (33 : Int32) * nI e = nI (33 * e) from pk_mul 33 e]
      refine tr_gr T.r16 (tr_ip (dq_in T.l505 rfl (by omega) (by decide)) ?_)
      rw [rr_n (n := 33 * e) (by omega), show mm_i h 505 (33 * e) = nI l.length from v1, dr_isIn, in_n (by omega)]
      by_cases d0 : i < 0
      · rw [if_pos d0, if_pos rfl, if_neg (fun q => q.2.1 d0)]; exact tr_mk (rP.mk R)
      rw [if_neg d0]
      by_cases d1 : nI l.length ≤ i
      · rw [if_pos d1, if_pos rfl, if_neg (fun q => Int32.not_le.mpr q.2.2 d1)]; exact tr_mk (rP.mk R)
      rw [if_neg d1, if_neg (by decide), dr_isIn]
      by_cases m0 : m < 0
      · rw [if_pos m0, if_pos rfl, if_neg (fun q => q.1.1 m0)]; exact tr_mk (rP.mk R)
      rw [if_neg m0]
      by_cases m1 : 255 < m
      · rw [if_pos m1, if_pos rfl, if_neg (fun q => Int32.not_lt.mpr q.1.2 m1)]; exact tr_mk (rP.mk R)
      rw [if_neg m1, if_neg (by decide), if_pos ⟨⟨m0, Int32.not_lt.mp m1⟩, d0, Int32.not_le.mp d1⟩]
      obtain ⟨k, hk, rfl⟩ := nI_of d0
      have d2 : k < l.length := by rw [nI_leI (by omega) hk] at d1; omega
      rw [show (21120 : Int32) * nI e = nI (21120 * e) from pk_mul 21120 e, nI_add, rr_n hk, show 21120 * e + k = 640 * (33 * e + 0) + k from (by omega)]
      refine tr_gr T.r15 (tr_ip (dq_in T.l504 rfl (by omega) (by decide)) ?_)
      rw [rr_n (n := 640 * (33 * e + 0) + k) (by omega), show mm_i h 504 (640 * (33 * e + 0) + k) = _ from v2 k d2, b8_b8, b8_xor, Int32.xor_comm (l.getD k 0) (mm_b8 m), b8_xor, Int32.xor_comm m (l.getD k 0)]
      refine dq_sk (by decide) T.l504 rfl (by omega) (by decide) (fun h1 F1 w1 => ?_)
      have FP : dF (zP e) h h1 := F1.mo (fun a k z => Or.inl (by omega))
      refine tr_mk (rP.pile R Z J he hb FP (by rw [F1.i (by omega)]; exact c12) (fun p l' q => ?_))
      cases p with
      | zero =>
        have ql : l.set k (l.getD k 0 ^^^ m) = l' := by simpa using q
        exact ⟨by rw [F1.i (by omega), ← ql, List.length_set]; exact v1, dr_flip d2 v2 F1 w1 ql.symm⟩
      | succ p =>
        have q' : (l :: z)[p + 1]? = some l' := by simpa using q
        obtain ⟨u1, u2⟩ := c13 (p + 1) l' q'
        exact ⟨by rw [F1.i (by omega)]; exact u1, u2.F F1 (fun k _ _ => (by omega))⟩
theorem jB.tape {l : List Int32} (Z : jB s) (h1 : l.length ≤ 600) (h2 : lby l) : jB (mM s 33 l) := ⟨⟨by rw [mM_at]; exact h1, by rw [mM_at]; exact h2⟩, fun e he => (Z.2 e he).q (tape_q he)⟩
theorem jB.z {z : List (List Int32)} (Z : jB s) (he : e < 4) (h1 : z.length ≤ 32) (h2 : ∀ l ∈ z, l.length ≤ 600 ∧ lby l) : jB (mZ s (82 + 102 * e) z) := ⟨Z.1, fun e' he' => by
  by_cases ee : e' = e
  · subst ee
    obtain ⟨z1, z2, z3, z4, z5, z6, -, -⟩ := Z.2 e' he'
    exact ⟨z1, z2, z3, z4, z5, z6, by rw [show (mZ s (82 + 102 * e') z).2.2 (82 + 102 * e') = z from vu_at]; exact h1, by rw [show (mZ s (82 + 102 * e') z).2.2 (82 + 102 * e') = z from vu_at]; exact h2⟩
  · exact (Z.2 e' he').q (xZ.eqE (bE_k he) (bE_k he') (by omega))⟩
theorem cq_give {x : Int32} (R : rR L h s) (Z : jB s) (J : jC s) : tr (bd_X12_give 490 x h) (rP L h (nGive s x)) := by
  obtain ⟨r1, ⟨r2, r3⟩, -, -⟩ := id R
  have l33 := Z.1
  unfold bd_X12_give nGive
  refine dr_isEnd R J (fun e0 => ?_) (fun e he ex e0 hm => ?_)
  · rw [e0, if_pos rfl]; exact tr_mk (rP.mk R)
  · rw [e0, ex, if_neg (by decide), r2, mm_bi]
    show tr _ (rP L h ((mRead (mM s 33 []) (82 + 102 * e) (s.1 33)).2.1 (82 + 102 * e) 5, mRead (mM s 33 []) (82 + 102 * e) (s.1 33)))
    have T := r1.1
    refine tr_gr T.r0 (tr_gr T.r60 ?_)
    refine dr_mv (j := 0) r3 (Or.inl (by decide)) (by decide) 620 640 T.l491 T.l547 (by omega) (by omega) (by decide) (by decide) rfl rfl rfl (by omega) (fun h1 b1 F1 => ?_)
    have R1 : rR L h1 s := R.sc Z J F1 (fun a k z => by omega)
    refine dq_fd (fun h2 F2 v2 => ?_)
    have R2 : rR L h2 (mM s 33 []) := R1.tape Z J (F2.mo (fun a k z => by omega)) v2 bs.nil
    have Z2 : jB (mM s 33 []) := Z.tape (Nat.zero_le _) (fun x hx => absurd hx (by simp))
    have J2 : jC (mM s 33 []) := J.tape
    obtain ⟨A, S⟩ := R2.2.2.2 e he
    refine dr_read R2.1 he A (Z2.2 e he) (J2.2.2.2 e he) S (b1.F F2 (fun k _ _ => (by omega))) l33.2 l33.1 (fun h3 B3 A3 S3 F3 => ?_)
    refine tr_gr B3.1.r4 (tr_ip (dq_in B3.1.l493 rfl he (by decide)) ?_)
    rw [rr_n (n := e) (by omega), A3.2.1]
    exact tr_mk ⟨rfl, R2.put Z2 J2 he B3 A3 S3 F3 xRead, ((F1.c F2).mo (fun a k z => by omega)).t (F3.mo (fun a k z => zR_A z))⟩
theorem cq_carry {x y : Int32} (R : rR L h s) (Z : jB s) (J : jC s) : tr (bd_X12_carry 490 x y h) (rP L h (nCarry s x y)) := by
  obtain ⟨r1, -, -, r5⟩ := id R
  unfold bd_X12_carry nCarry
  refine dr_isEnd R J (fun e0 => ?_) (fun e he ex e0 hm => ?_)
  · rw [e0, if_pos rfl]; exact tr_mk (rP.mk R)
  rw [e0, if_neg (by decide)]
  refine dr_isEnd R J (fun e0' => ?_) (fun e' he' ex' e0' hm' => ?_)
  · rw [e0', if_pos rfl]; exact tr_mk (rP.mk R)
  · rw [e0', ex, ex', if_neg (by decide)]
    obtain ⟨A, S⟩ := r5 e he
    have je := J.2.2.2 e he
    have ze := Z.2 e he
    obtain ⟨b, hb⟩ : ∃ b, b = 82 + 102 * e := ⟨_, rfl⟩
    obtain ⟨c, hc⟩ : ∃ c, c = 82 + 102 * e' := ⟨_, rfl⟩
    rw [← hb] at A S je ze ⊢
    rw [← hc]
    show tr _ (rP L h (match s.2.2 b with | [] => (-1, s) | l :: z => ((mRead (mZ s b z) c l).2.1 c 5, mRead (mZ s b z) c l)))
    have T := r1.1
    have c12 := A.2.2.2.2.2.2.2.2.2.2.2.2.1
    have c13 : ∀ p l, (s.2.2 b)[p]? = some l → rc h e p l := A.2.2.2.2.2.2.2.2.2.2.2.2.2.1
    have zn := ze.2.2.2.2.2.2.1
    have hz := ze.2.2.2.2.2.2.2
    refine tr_gr T.r17 (tr_ip (dq_in T.l506 rfl he (by decide)) ?_)
    rw [rr_n (n := e) (by omega), c12]
    cases hs : s.2.2 b with
    | nil => rw [if_pos (show nI ([] : List (List Int32)).length = 0 from rfl)]; exact tr_mk (rP.mk R)
    | cons l z =>
      rw [hs] at c12 c13 zn hz
      have lc : (l :: z).length = z.length + 1 := rfl
      have hl := hz l (by simp)
      obtain ⟨v1, v2⟩ := c13 0 l rfl
      have zn' := zn
      rw [lc] at zn'
      rw [if_neg (show ¬ nI (l :: z).length = 0 from by rw [lc]; exact nI_ne0 (by omega) (by omega))]
      show tr _ (rP L h ((mRead (mZ s b z) c l).2.1 c 5, mRead (mZ s b z) c l))
      rw [show (33 : Int32) * nI e = nI (33 * e) from pk_mul 33 e, show (21120 : Int32) * nI e = nI (21120 * e) from pk_mul 21120 e]
      refine tr_gr T.r16 (tr_ip (dq_in T.l505 rfl (by omega) (by decide)) ?_)
      rw [rr_n (n := 33 * e) (by omega), show mm_i h 505 (33 * e) = nI l.length from v1, mm_bi]
      refine tr_gr T.r15 (tr_gr T.r60 ?_)
      refine dr_mv (j := 0) v2 (Or.inl (by decide)) (by decide) 84480 640 T.l504 T.l547 (by omega) (by omega) (by decide) (by decide) (by congr 1; omega) rfl rfl (by omega) (fun h1 b1 F1 => ?_)
      have R1 : rR L h1 s := R.sc Z J F1 (fun a k z => by omega)
      refine dr_leave R1.1.1 he zn (fun k hk => (hz k hk).1) (by rw [F1.i (by omega)]; exact c12) (fun p k q => ⟨by rw [F1.i (by omega)]; exact (c13 p k q).1, (c13 p k q).2.F F1 (fun k _ _ => (by omega))⟩) (fun h2 F2 w1 w2 => ?_)
      have R2 : rR L h2 (mZ s b z) := (rP.pile (x := 0) R1 Z J he hb F2 w1 w2).2.1
      have hz' : ∀ k ∈ z, k.length ≤ 600 ∧ lby k := fun k hk => hz k (List.mem_cons_of_mem _ hk)
      have Z2 : jB (mZ s b z) := by rw [hb]; exact Z.z he (by omega) hz'
      have X2 : xF b s (mZ s b z) := xZ
      have J2 : jC (mZ s b z) := by
        have j2 := je.z (z := z) (by rw [hs]; simp)
        rw [hb] at j2 X2 ⊢
        exact J.put he hm j2 X2
      obtain ⟨A', S'⟩ := R2.2.2.2 e' he'
      have Ze := Z2.2 e' he'
      have Je := J2.2.2.2 e' he'
      rw [← hc] at A' S' Ze Je
      refine dr_read R2.1 he' A' Ze Je S' (b1.F F2 (fun k _ _ => (by omega))) hl.2 hl.1 (fun h3 B3 A3 S3 F3 => ?_)
      refine tr_gr B3.1.r4 (tr_ip (dq_in B3.1.l493 rfl he' (by decide)) ?_)
      rw [rr_n (n := e') (by omega), A3.2.1]
      refine tr_mk ⟨rfl, ?_, ((F1.c F2).mo (fun a k z => ?_)).t (F3.mo (fun a k z => zR_A z))⟩
      · subst hc
        exact R2.put Z2 J2 he' B3 A3 S3 F3 xRead
      · rcases z with z | z
        · omega
        · exact zR_A (zP_R z)
end RTL
