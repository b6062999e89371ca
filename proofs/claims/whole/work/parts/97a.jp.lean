/-! ===== what is so of an END stays so ===== -/
section JP
variable {s s1 s2 : sT} {b : Nat}
theorem jE.ib {k : Nat} {v : Int32} (J : jE s b) (h4 : 4 ≠ k) (h5 : 5 ≠ k) (h16 : 16 ≠ k) : jE (mI s b k v) b := by
  obtain ⟨⟨j1, j1'⟩, j2, j3, j4, j5, j6, j7, j8, j9, j10⟩ := J
  unfold jE
  rw [mI_b h4, mI_b h5, mI_b h16, show (mI s b k v).2.1 (b + 69) = s.2.1 (b + 69) from mI_o (by omega), show (mI s b k v).2.1 (b + 76) = s.2.1 (b + 76) from mI_o (by omega)]
  exact ⟨⟨j1.i (by omega), j1'.i (by omega)⟩, j2, j3, j4, j5, j6, j7, j8, j9, j10⟩
theorem jE.mm {r : Nat} {l : List Int32} (J : jE s b) (n : r < b + 70 ∨ b + 100 < r) : jE (mM s r l) b := by
  obtain ⟨⟨j1, j1'⟩, j2, j3, j4, j5, j6, j7, j8, j9, j10⟩ := J
  unfold jE
  rw [mM_off (show b + 94 ≠ r from (by omega)), mM_off (show b + 98 ≠ r from (by omega)), mM_off (show b + 100 ≠ r from (by omega)), mM_off (show b + 84 ≠ r from (by omega)), mM_off (show b + 86 ≠ r from (by omega)), mM_off (show b + 88 ≠ r from (by omega))]
  exact ⟨⟨j1.m (by omega) (by omega) (by omega), j1'.m (by omega) (by omega) (by omega)⟩, j2, j3, j4, j5, j6, j7, j8, j9, j10⟩
theorem jE.z {z : List (List Int32)} (J : jE s b) (h : s.2.2 b ≠ []) : jE (mZ s b z) b := by
  obtain ⟨⟨j1, j1'⟩, j2, j3, j4, j5, j6, j7, j8, j9, j10⟩ := J
  refine ⟨⟨j1, j1'⟩, j2, j3, fun w => absurd (j4 w).2 h, j5, j6, j7, j8, j9, j10⟩
theorem jE.heed {c : List Int32} (J : jE s b) (h0 : s.2.1 b 5 ≠ 0) : jE (mHeed s b c) b := by
  have seven : ∀ v w : Int32, jE (mI (mI (mI s b 17 v) b 15 w) b 5 7) b := fun v w => by
    obtain ⟨⟨j1, j1'⟩, ⟨j2, j2'⟩, -, -, -, -, j7, -, -, -⟩ := J
    refine jE.m7 (((j1.i (by omega)).i (by omega)).i (by omega)) (((j1'.i (by omega)).i (by omega)).i (by omega)) ?_ ?_ mI_at (show jSc s b from j7 h0)
    · rw [mI_o (by omega), mI_o (by omega), mI_o (by omega)]; exact j2
    · rw [mI_o (by omega), mI_o (by omega), mI_o (by omega)]; exact j2'
  unfold mHeed
  by_cases c1 : c.getD 0 0 = 1 ∧ c.getD 1 0 = 0
  · rw [if_pos c1]
    by_cases c2 : s.2.1 b 5 = 6
    · rw [if_pos c2]; exact J.ib (by decide) (by decide) (by decide)
    · rw [if_neg c2]; exact seven _ _
  · rw [if_neg c1]; exact seven _ _
theorem sayF {l : List Int32} : (∀ r, r ≠ b + 100 → (mSay s b l).1 r = s.1 r) ∧ (mSay s b l).2.1 b = s.2.1 b ∧ (mSay s b l).2.1 (b + 76) = s.2.1 (b + 76) ∧ (mSay s b l).2.1 (b + 69) 4 = s.2.1 (b + 69) 4 := by
  obtain ⟨t1, t2, t3, t4⟩ := tryF (s := mM s (b + 100) (s.1 (b + 100) ++ l)) (b := b) (x := 22) (l := l)
  unfold mSay
  exact ⟨fun r hr => by rw [t1]; exact mM_off hr, t2, t3, t4⟩
theorem jE.go {c : List Int32} (J : jE s b) (kw : (c.getD 0 0 = 2 ∧ s.2.1 b 5 = 1) ∨ (c.getD 0 0 = 8 ∧ s.2.1 b 5 = 2) ∨ (c.getD 0 0 = 20 ∧ s.2.1 b 5 = 3) ∨ (c.getD 0 0 = 1 ∧ s.2.1 b 5 = 4) ∨ (c.getD 0 0 = 20 ∧ s.2.1 b 5 = 5) ∨ (c.getD 0 0 = 24 ∧ s.2.1 b 5 = 6)) (m0 : rd_m s b c = 0) : jE (mGo s b c) b := by
  obtain ⟨⟨j1, j1'⟩, ⟨j2, j2'⟩, j3, j4, ⟨j5, j5'⟩, j6, j7, j8, j9, j10, j10', j10''⟩ := J
  rcases kw with ⟨q, st⟩ | ⟨q, st⟩ | ⟨q, st⟩ | ⟨q, st⟩ | ⟨q, st⟩ | ⟨q, st⟩
  · rw [mGo_2 q]
    have l56 := (ml_le (Or.inr (Or.inl q)) (by rw [q]; decide) m0).2 (by rw [q]; decide)
    have sc := j7 (by rw [st]; decide)
    have sv := j5 (Or.inl st)
    have cl := j6 (by rw [st]; decide) (by rw [st]; decide)
    have l1 := j10 st
    unfold mServed mHand
    obtain ⟨x, hx⟩ : ∃ x, x = hk_e ((mM s (b + 100) (s.1 (b + 100) ++ c)).1 (b + 86)) (tx_l 18) (sh_a ((mM s (b + 100) (s.1 (b + 100) ++ c)).1 (b + 100))) 32 := ⟨_, rfl⟩
    rw [← hx]
    generalize hk_e ((mLoad (mM s (b + 100) (s.1 (b + 100) ++ c)) (b + 76) x).1 (b + 86)) _ _ 32 = y
    unfold jE
    rw [mI_at, mI_b (show (4 : Nat) ≠ 5 by decide), mI_b (show (16 : Nat) ≠ 5 by decide), show (mI (mLoad (mLoad (mM s (b + 100) (s.1 (b + 100) ++ c)) (b + 76) x) (b + 69) y) b 5 2).2.1 (b + 69) = (mLoad (mLoad (mM s (b + 100) (s.1 (b + 100) ++ c)) (b + 76) x) (b + 69) y).2.1 (b + 69) from mI_o (by omega), show (mI (mLoad (mLoad (mM s (b + 100) (s.1 (b + 100) ++ c)) (b + 76) x) (b + 69) y) b 5 2).2.1 (b + 76) = (mLoad (mLoad (mM s (b + 100) (s.1 (b + 100) ++ c)) (b + 76) x) (b + 69) y).2.1 (b + 76) from mI_o (by omega), ml4, mlo (show b + 76 ≠ b + 69 from (by omega)), ml4, mlo (show b ≠ b + 69 from (by omega)), mlo (show b ≠ b + 76 from (by omega))]
    have f1 : ∀ r, r ≠ b + 70 → r ≠ b + 72 → r ≠ b + 74 → r ≠ b + 77 → r ≠ b + 79 → r ≠ b + 81 → (mI (mLoad (mLoad (mM s (b + 100) (s.1 (b + 100) ++ c)) (b + 76) x) (b + 69) y) b 5 2).1 r = (mM s (b + 100) (s.1 (b + 100) ++ c)).1 r := fun r a1 a2 a3 a4 a5 a6 => by
      show (mLoad (mLoad (mM s (b + 100) (s.1 (b + 100) ++ c)) (b + 76) x) (b + 69) y).1 r = _
      rw [mLoad_off (by omega) (by omega) (by omega), mLoad_off (by omega) (by omega) (by omega)]
    rw [f1 (b + 100) (by omega) (by omega) (by omega) (by omega) (by omega) (by omega), f1 (b + 98) (by omega) (by omega) (by omega) (by omega) (by omega) (by omega), f1 (b + 94) (by omega) (by omega) (by omega) (by omega) (by omega) (by omega), f1 (b + 84) (by omega) (by omega) (by omega) (by omega) (by omega) (by omega), f1 (b + 86) (by omega) (by omega) (by omega) (by omega) (by omega) (by omega), f1 (b + 88) (by omega) (by omega) (by omega) (by omega) (by omega) (by omega), mM_at, mM_off (show b + 98 ≠ b + 100 from (by omega)), mM_off (show b + 94 ≠ b + 100 from (by omega)), mM_off (show b + 84 ≠ b + 100 from (by omega)), mM_off (show b + 86 ≠ b + 100 from (by omega)), mM_off (show b + 88 ≠ b + 100 from (by omega))]
    refine ⟨⟨kI.load.i (by omega), (kI.load.l (by omega)).i (by omega)⟩, ⟨Or.inr rfl, Or.inr rfl⟩, Or.inr (Or.inl (by unfold sS; decide)), fun z => absurd z (by decide), ⟨fun _ => sv, fun z => absurd z (by decide)⟩, fun _ _ => cl, fun _ => sc, fun _ => ⟨rfl, rfl⟩, Or.inr sc.2.2.2, fun z => absurd z (by decide), fun _ => ?_, fun z => absurd z (by decide)⟩
    rw [List.length_append]; omega
  · rw [mGo_8 q]
    have l6 : c.length = 6 := by
      rw [rdm_8 q] at m0
      by_cases w : c = ms_ex
      · rw [w, ms_ex_ln]
      · rw [if_neg w] at m0; exact absurd m0 (by decide)
    have sc := j7 (by rw [st]; decide)
    have sv := j5 (Or.inr (Or.inl st))
    have cl := j6 (by rw [st]; decide) (by rw [st]; decide)
    have l2 := j10' st
    have f8 := j8 (Or.inl st)
    unfold mExt jE
    rw [mI_at, mI_b (show (4 : Nat) ≠ 5 by decide), mI_b (show (16 : Nat) ≠ 5 by decide), show (mI (mM s (b + 100) (s.1 (b + 100) ++ c)) b 5 3).2.1 (b + 69) = s.2.1 (b + 69) from mI_o (by omega), show (mI (mM s (b + 100) (s.1 (b + 100) ++ c)) b 5 3).2.1 (b + 76) = s.2.1 (b + 76) from mI_o (by omega)]
    rw [show (mI (mM s (b + 100) (s.1 (b + 100) ++ c)) b 5 3).1 = (mM s (b + 100) (s.1 (b + 100) ++ c)).1 from rfl, mM_at, mM_off (show b + 98 ≠ b + 100 from (by omega)), mM_off (show b + 94 ≠ b + 100 from (by omega)), mM_off (show b + 84 ≠ b + 100 from (by omega)), mM_off (show b + 86 ≠ b + 100 from (by omega)), mM_off (show b + 88 ≠ b + 100 from (by omega))]
    refine ⟨⟨(j1.m (by omega) (by omega) (by omega)).i (by omega), (j1'.m (by omega) (by omega) (by omega)).i (by omega)⟩, ⟨j2, j2'⟩, Or.inr (Or.inl (by unfold sS; decide)), fun z => absurd z (by decide), ⟨fun _ => sv, fun z => absurd z (by decide)⟩, fun _ _ => cl, fun _ => sc, fun _ => f8, Or.inr sc.2.2.2, fun z => absurd z (by decide), fun z => absurd z (by decide), fun _ => ?_⟩
    rw [List.length_append]; omega
  · rw [mGo_20 q]
    have sc : jSc s b := j7 (by rw [st]; decide)
    have sv := j5 (Or.inr (Or.inr st))
    have f8 := j8 (Or.inr (Or.inl st))
    unfold mDone
    rw [if_pos sv]
    have scM : ∀ t, jSc (mM s (b + 100) t) b := fun t => sc.e (fun r hr => mM_off (by omega))
    by_cases w : mCan s b = true
    · rw [if_pos w]
      unfold mMain
      generalize mFin (mM s (b + 100) (s.1 (b + 100) ++ c)) b = fin
      generalize s.1 (b + 100) ++ c = t
      generalize hk_e ((mSend (mM s (b + 100) t) b 22 fin).1 (b + 88)) _ _ 32 = x
      generalize hk_e ((mLoad (mSend (mM s (b + 100) t) b 22 fin) (b + 76) x).1 (b + 88)) _ _ 32 = y
      refine jE.m6 (kI.load.i (by omega)) ((kI.load.l (by omega)).i (by omega)) ?_ ?_ mI_at ((scM t).e (fun r hr => ?_))
      · rw [mI_o (by omega), ml4]
      · rw [mI_o (by omega), mlo (by omega), ml4]
      · show (mLoad (mLoad (mSend (mM s (b + 100) t) b 22 fin) (b + 76) x) (b + 69) y).1 r = _
        rw [mLoad_off (by omega) (by omega) (by omega), mLoad_off (by omega) (by omega) (by omega)]; rfl
    · rw [if_neg w]
      refine jE.m7 ((j1.m (by omega) (by omega) (by omega)).i (by omega)) ((j1'.m (by omega) (by omega) (by omega)).i (by omega)) ?_ ?_ mI_at (scM _)
      · rw [mI_o (by omega)]; exact j2
      · rw [mI_o (by omega)]; exact j2'
  · rw [mGo_1 q]
    have sc : jSc s b := j7 (by rw [st]; decide)
    have sv := j5' (Or.inl st)
    have cl := j6 (by rw [st]; decide) (by rw [st]; decide)
    unfold mAnswer mAns3 mAns2 mAns1 mMain mHand
    generalize ms_sh (s.1 (b + 98)) = m1
    obtain ⟨S1, hS1⟩ : ∃ S, S = mSay (mM s (b + 100) c) b m1 := ⟨_, rfl⟩
    rw [← hS1]
    generalize hk_e (S1.1 (b + 86)) (tx_l 17) _ 32 = x
    generalize hk_e ((mLoad S1 (b + 76) x).1 (b + 86)) _ _ 32 = y
    obtain ⟨S2, hS2⟩ : ∃ S, S = mLoad (mLoad S1 (b + 76) x) (b + 69) y := ⟨_, rfl⟩
    rw [← hS2]
    obtain ⟨S3, hS3⟩ : ∃ S, S = mSay S2 b ms_ex := ⟨_, rfl⟩
    rw [← hS3]
    generalize mFin S3 b = fin
    obtain ⟨S4, hS4⟩ : ∃ S, S = mSay S3 b fin := ⟨_, rfl⟩
    rw [← hS4]
    generalize hk_e (S4.1 (b + 88)) _ _ 32 = w
    obtain ⟨p1, p2, p3, p4⟩ := sayF (s := mM s (b + 100) c) (b := b) (l := m1)
    rw [← hS1] at p1 p2 p3 p4
    obtain ⟨r1, r2, r3, r4⟩ := sayF (s := S2) (b := b) (l := ms_ex)
    rw [← hS3] at r1 r2 r3 r4
    obtain ⟨t1, t2, t3, t4⟩ := sayF (s := S3) (b := b) (l := fin)
    rw [← hS4] at t1 t2 t3 t4
    have eb : S4.2.1 b = s.2.1 b := by rw [t2, r2, hS2, mlo (by omega), mlo (by omega), p2]; rfl
    have e76 : S4.2.1 (b + 76) 4 = 1 := by rw [t3, r3, hS2, mlo (by omega), ml4]
    have k76 : kI S4 (b + 76) := by
      rw [hS4]
      refine kI.say ?_ (by omega)
      rw [hS3]
      refine kI.say ?_ (by omega)
      rw [hS2]
      exact kI.load.l (by omega)
    have er : ∀ r, r = b + 84 ∨ r = b + 86 ∨ r = b + 88 ∨ r = b + 94 ∨ r = b + 98 → S4.1 r = s.1 r := fun r hr => by
      rw [t1 r (by omega), r1 r (by omega), hS2, mLoad_off (by omega) (by omega) (by omega), mLoad_off (by omega) (by omega) (by omega), p1 r (by omega), mM_off (by omega)]
    have sc6 : jSc (mI (mLoad S4 (b + 69) w) b 5 5) b := sc.e (fun r hr => by
      show (mLoad S4 (b + 69) w).1 r = _
      rw [mLoad_off (by omega) (by omega) (by omega)]; exact er r hr)
    unfold jE
    rw [mI_at, mI_b (show (4 : Nat) ≠ 5 by decide), mI_b (show (16 : Nat) ≠ 5 by decide), show (mI (mLoad S4 (b + 69) w) b 5 5).2.1 (b + 69) = (mLoad S4 (b + 69) w).2.1 (b + 69) from mI_o (by omega), show (mI (mLoad S4 (b + 69) w) b 5 5).2.1 (b + 76) = (mLoad S4 (b + 69) w).2.1 (b + 76) from mI_o (by omega), ml4, mlo (show b + 76 ≠ b + 69 from (by omega)), mlo (show b ≠ b + 69 from (by omega)), eb, e76]
    exact ⟨⟨kI.load.i (by omega), (k76.l (by omega)).i (by omega)⟩, ⟨Or.inr rfl, Or.inr rfl⟩, Or.inr (Or.inl (by unfold sS; decide)), fun z => absurd z (by decide), ⟨fun z => absurd z (by decide), fun _ => sv⟩, fun _ _ => cl, fun _ => sc6, fun _ => ⟨rfl, rfl⟩, Or.inr sc6.2.2.2, fun z => absurd z (by decide), fun z => absurd z (by decide), fun z => absurd z (by decide)⟩
  · rw [mGo_20 q]
    have sc : jSc s b := j7 (by rw [st]; decide)
    have sv := j5' (Or.inr st)
    have f8 := j8 (Or.inr (Or.inr (Or.inl st)))
    unfold mDone
    rw [if_neg sv]
    unfold mMain
    generalize hk_e (s.1 (b + 88)) _ _ 32 = x
    refine jE.m6 ((j1.l (by omega)).i (by omega)) (kI.load.i (by omega)) ?_ ?_ mI_at (sc.e (fun r hr => ?_))
    · rw [mI_o (by omega), mlo (by omega)]; exact f8.1
    · rw [mI_o (by omega), ml4]
    · show (mLoad s (b + 76) x).1 r = _
      rw [mLoad_off (by omega) (by omega) (by omega)]
  · rw [mGo_24 q]
    have sc : jSc s b := j7 (by rw [st]; decide)
    have f8 := j8 (Or.inr (Or.inr (Or.inr st)))
    have e5 : (mUpd1 s b).2.1 b = s.2.1 b := by unfold mUpd1; exact mlo (by omega)
    have e69 : (mUpd1 s b).2.1 (b + 69) = s.2.1 (b + 69) := by unfold mUpd1; exact mlo (by omega)
    have e76 : (mUpd1 s b).2.1 (b + 76) 4 = 1 := by unfold mUpd1; exact ml4
    have sc1 : jSc (mUpd1 s b) b := sc.e (fun r hr => by unfold mUpd1; rw [mLoad_off (by omega) (by omega) (by omega)])
    have k69 : kI (mUpd1 s b) (b + 69) := by unfold mUpd1; exact j1.l (by omega)
    have k76 : kI (mUpd1 s b) (b + 76) := by unfold mUpd1; exact kI.load
    unfold mUpd
    by_cases w1 : c.getD 4 0 = 1 ∧ s.2.1 b 16 = 0
    · rw [if_pos w1]
      by_cases w2 : mCan s b = true
      · rw [if_pos w2]
        unfold mRenew
        generalize hk_e ((mUpd1 s b).1 (b + 70)) _ _ 32 = y
        generalize ms_up 0 = u
        refine jE.m6 kI.load (k76.z.l (by omega)) ml4 ?_ ?_ (sc1.e (fun r hr => ?_))
        · rw [mlo (by omega), show (mSend (mUpd1 s b) b 22 u).2.1 (b + 76) = (mUpd1 s b).2.1 (b + 76) from sdI_o (by omega)]; exact e76
        · rw [mlo (by omega), show (mSend (mUpd1 s b) b 22 u).2.1 b = (mUpd1 s b).2.1 b from sdI_o (by omega), e5]; exact st
        · rw [mLoad_off (by omega) (by omega) (by omega)]; rfl
      · rw [if_neg w2]
        refine jE.m7 (k69.i (by omega)) (k76.i (by omega)) ?_ ?_ mI_at sc1
        · rw [mI_o (by omega), e69]; exact j2
        · rw [mI_o (by omega)]; exact Or.inr e76
    · rw [if_neg w1]
      exact jE.m6 k69 k76 (by rw [e69]; exact f8.1) e76 (by rw [e5]; exact st) sc1
theorem kwOf {c : List Int32} (st : sS (s.2.1 b 5)) (w2 : c.getD 0 0 = rd_wait (s.2.1 b 5)) : (c.getD 0 0 = 2 ∧ s.2.1 b 5 = 1) ∨ (c.getD 0 0 = 8 ∧ s.2.1 b 5 = 2) ∨ (c.getD 0 0 = 20 ∧ s.2.1 b 5 = 3) ∨ (c.getD 0 0 = 1 ∧ s.2.1 b 5 = 4) ∨ (c.getD 0 0 = 20 ∧ s.2.1 b 5 = 5) ∨ (c.getD 0 0 = 24 ∧ s.2.1 b 5 = 6) := by
  rw [w2]
  rcases st with q | q | q | q | q | q <;> rw [q] <;> decide
theorem jE.body {ty : Int32} {c : List Int32} (J : jE s b) (st : sS (s.2.1 b 5)) : jE (mBody s b ty c) b := by
  have h0 : s.2.1 b 5 ≠ 0 := fun z => by rw [z] at st; unfold sS at st; revert st; decide
  unfold mBody
  by_cases c1 : ty = 21
  · rw [if_pos c1]
    by_cases c2 : c.length = 2
    · rw [if_pos c2]; exact J.heed h0
    · rw [if_neg c2]; exact J.fail h0
  · rw [if_neg c1]
    by_cases c2 : ty = 22
    · rw [if_pos c2]
      unfold mMsg
      by_cases d1 : 4 ≤ c.length ∧ c.getD 1 0 = 0 ∧ rd_2 c 2 = nI c.length - 4
      · rw [if_pos d1]
        by_cases d2 : c.getD 0 0 = rd_wait (s.2.1 b 5)
        · rw [if_pos d2]
          by_cases d3 : rd_m s b c = 0
          · rw [if_pos d3]
            by_cases d4 : rd_p s b (c.getD 0 0) c = true
            · rw [if_pos d4]; exact J.go (kwOf st d2) d3
            · rw [if_neg d4]; exact J.fail h0
          · rw [if_neg d3]; exact J.fail h0
        · rw [if_neg d2]; exact J.fail h0
      · rw [if_neg d1]; exact J.fail h0
    · rw [if_neg c2]
      by_cases c3 : ty = 23
      · rw [if_pos c3]
        by_cases c4 : s.2.1 b 5 = 6
        · rw [if_pos c4]; exact J.mm (by omega)
        · rw [if_neg c4]; exact J.fail h0
      · rw [if_neg c3]
        by_cases c4 : ty = 256
        · rw [if_pos c4]; exact J
        · rw [if_neg c4]; exact J.fail h0
theorem jE.read {l : List Int32} (J : jE s b) : jE (mRead s b l) b := by
  unfold mRead
  by_cases c1 : s.2.1 b 5 = 0
  · rw [if_pos c1]; exact J
  · rw [if_neg c1]
    by_cases c2 : s.2.1 b 5 = 7
    · rw [if_pos c2]; exact J
    · rw [if_neg c2]
      have st : sS (s.2.1 b 5) := (J.2.2.1.resolve_left c1).resolve_right c2
      by_cases c3 : s.2.1 b 17 = 0
      · rw [if_pos c3]
        by_cases c4 : rd_f l = 0
        · rw [if_pos c4]
          by_cases c5 : l.getD 0 0 = 20
          · rw [if_pos c5]
            by_cases c6 : l.length = 6 ∧ l.getD 5 0 = 1 ∧ s.2.1 b 5 ≠ 4 ∧ s.2.1 b 5 ≠ 6
            · rw [if_pos c6]; exact J
            · rw [if_neg c6]; exact J.fail c1
          · rw [if_neg c5]
            by_cases c6 : l.getD 0 0 = 23 ↔ s.2.1 (b + 76) 4 = 1
            · rw [if_pos c6]
              by_cases c7 : l.getD 0 0 = 23
              · rw [if_pos c7]
                unfold mSeal
                by_cases d1 : 21 < l.length ∧ l.drop (l.length - 16) = sl_t (rd_F s b) l (l.length - 16)
                · rw [if_pos d1]
                  generalize rd_o s b l = o
                  have J' := J.up (v := s.2.1 (b + 76) 3 + 1)
                  have e5 : (mI s (b + 76) 3 (s.2.1 (b + 76) 3 + 1)).2.1 b = s.2.1 b := mI_o (by omega)
                  by_cases d2 : rd_t o = -1
                  · rw [if_pos d2]; exact J'.fail (by rw [e5]; exact c1)
                  · rw [if_neg d2]; exact J'.body (by rw [e5]; exact st)
                · rw [if_neg d1]; exact J.fail c1
              · rw [if_neg c7]; exact J.body st
            · rw [if_neg c6]; exact J.fail c1
        · rw [if_neg c4]; exact J.fail c1
      · rw [if_neg c3]; exact J
theorem jE.send6 {x : Int32} {l : List Int32} (J : jE s b) (h6 : s.2.1 b 5 = 6) : jE (mSend s b x l) b := by
  obtain ⟨⟨j1, j1'⟩, -, -, -, -, -, j7, j8, -, -⟩ := J
  have f8 := j8 (Or.inr (Or.inr (Or.inr h6)))
  refine jE.m6 j1.z j1'.z (sd_I4.trans f8.1) ?_ ?_ (show jSc s b from j7 (by rw [h6]; decide))
  · rw [show (mSend s b x l).2.1 (b + 76) = s.2.1 (b + 76) from sdI_o (by omega)]; exact f8.2
  · rw [show (mSend s b x l).2.1 b = s.2.1 b from sdI_o (by omega)]; exact h6
theorem jE.renew {x : Int32} (J : jE s b) (h6 : s.2.1 b 5 = 6) : jE (mRenew s b x) b := by
  have f8 := J.2.2.2.2.2.2.2.1 (Or.inr (Or.inr (Or.inr h6)))
  have sc : jSc s b := J.2.2.2.2.2.2.1 (by rw [h6]; decide)
  unfold mRenew
  generalize hk_e (s.1 (b + 70)) _ _ 32 = y
  generalize ms_up x = u
  refine jE.m6 kI.load (J.1.2.z.l (by omega)) ml4 ?_ ?_ (sc.e (fun r hr => ?_))
  · rw [mlo (by omega), show (mSend s b 22 u).2.1 (b + 76) = s.2.1 (b + 76) from sdI_o (by omega)]; exact f8.2
  · rw [mlo (by omega), show (mSend s b 22 u).2.1 b = s.2.1 b from sdI_o (by omega)]; exact h6
  · rw [mLoad_off (by omega) (by omega) (by omega)]; rfl
theorem jE.shut (J : jE s b) (h6 : s.2.1 b 5 = 6) : jE (mShut s b) b := by
  have J1 := J.send6 (x := 21) (l := ms_al 1 0) h6
  have e5 : (mSend s b 21 (ms_al 1 0)).2.1 b 5 = 6 := by rw [show (mSend s b 21 (ms_al 1 0)).2.1 b = s.2.1 b from sdI_o (by omega)]; exact h6
  have f8 := J1.2.2.2.2.2.2.2.1 (Or.inr (Or.inr (Or.inr e5)))
  have sc : jSc (mSend s b 21 (ms_al 1 0)) b := J1.2.2.2.2.2.2.1 (by rw [e5]; decide)
  unfold mShut
  refine jE.m6 (J1.1.1.i (by omega)) (J1.1.2.i (by omega)) ?_ ?_ ?_ sc
  · rw [mI_o (by omega)]; exact f8.1
  · rw [mI_o (by omega)]; exact f8.2
  · rw [mI_b (by decide)]; exact e5
theorem jE.learn {x : Int32} {t : sT} (J : jE s b) (h : mLearn s b x = some t) : jE t b := by
  have J0 := J
  obtain ⟨⟨j1, j1'⟩, ⟨j2, j2'⟩, j3, j4, j5, j6, j7, j8, j9, j10⟩ := J
  unfold mLearn at h
  by_cases h0 : s.2.1 b 5 = 0
  · rw [if_pos h0] at h
    have key : ∀ (r : Nat) (l : List Int32), b + 94 ≤ r ∧ r ≤ b + 98 → ((mM s r l).1 (b + 98) = [] ∨ ((mM s r l).1 (b + 98)).length = 32) → jE (mM s r l) b := fun r l hr h98 => by
      unfold jE
      rw [mM_off (show b + 100 ≠ r from (by omega)), mM_off (show b + 84 ≠ r from (by omega)), mM_off (show b + 86 ≠ r from (by omega)), mM_off (show b + 88 ≠ r from (by omega))]
      exact ⟨⟨j1.m (by omega) (by omega) (by omega), j1'.m (by omega) (by omega) (by omega)⟩, ⟨j2, j2'⟩, j3, j4, j5, j6, fun z => absurd h0 z, j8, h98, j10⟩
    by_cases x0 : x = 0
    · rw [if_pos x0] at h
      by_cases q : 1 ≤ (s.1 33).length ∧ (s.1 33).length ≤ 64
      · rw [if_pos q] at h; rw [← Option.some.inj h]
        exact key _ _ (by omega) (by rw [mM_off (by omega)]; exact j9)
      · rw [if_neg q] at h; exact absurd h (by simp)
    · rw [if_neg x0] at h
      by_cases x1 : x = 1
      · rw [if_pos x1] at h
        by_cases q : 1 ≤ (s.1 33).length ∧ (s.1 33).length ≤ 16
        · rw [if_pos q] at h; rw [← Option.some.inj h]
          exact key _ _ (by omega) (by rw [mM_off (by omega)]; exact j9)
        · rw [if_neg q] at h; exact absurd h (by simp)
      · rw [if_neg x1] at h
        by_cases x2 : x = 2
        · rw [if_pos x2] at h
          by_cases q : 32 ≤ (s.1 33).length ∧ (s.1 33).length ≤ 32
          · rw [if_pos q] at h; rw [← Option.some.inj h]
            exact key _ _ (by omega) (by rw [mM_at]; exact Or.inr (by omega))
          · rw [if_neg q] at h; exact absurd h (by simp)
        · rw [if_neg x2] at h; exact absurd h (by simp)
  · rw [if_neg h0] at h; exact absurd h (by simp)
theorem jE.begin (J : jE s b) (h0 : s.2.1 b 5 = 0) (hr : s.1 (b + 98) ≠ []) (hn : (s.1 (b + 96)).length ≤ 16) : jE (mBegin s b) b := by
  obtain ⟨⟨j1, j1'⟩, ⟨j2, j2'⟩, j3, j4, j5, j6, j7, j8, j9, j10⟩ := J
  have h32 := j9.resolve_left hr
  obtain ⟨e100, pz⟩ := j4 (Or.inl h0)
  have cl := j6 (by rw [h0]; decide) (by rw [h0]; decide)
  have scP : jSc (mPrep s b) b := by
    unfold jSc mPrep
    rw [mM_off (show b + 84 ≠ b + 88 from (by omega)), mM_off (show b + 84 ≠ b + 86 from (by omega)), mM_at, mM_off (show b + 94 ≠ b + 88 from (by omega)), mM_off (show b + 94 ≠ b + 86 from (by omega)), mM_off (show b + 94 ≠ b + 84 from (by omega)), mM_off (show b + 86 ≠ b + 88 from (by omega)), mM_at, mM_at, mM_off (show b + 98 ≠ b + 88 from (by omega)), mM_off (show b + 98 ≠ b + 86 from (by omega)), mM_off (show b + 98 ≠ b + 84 from (by omega))]
    exact ⟨rfl, rfl, rfl, h32⟩
  have kP : kI (mPrep s b) (b + 69) := ((j1.m (by omega) (by omega) (by omega)).m (by omega) (by omega) (by omega)).m (by omega) (by omega) (by omega)
  have kP' : kI (mPrep s b) (b + 76) := ((j1'.m (by omega) (by omega) (by omega)).m (by omega) (by omega) (by omega)).m (by omega) (by omega) (by omega)
  have p100 : (mPrep s b).1 (b + 100) = [] := by unfold mPrep; rw [mM_off (by omega), mM_off (by omega), mM_off (by omega)]; exact e100
  unfold mBegin
  by_cases sv : s.2.1 b 4 = 0
  · rw [if_pos sv]
    have lm : (ms_cb (s.1 (b + 94)) (s.1 (b + 98)) (s.1 (b + 96))).length ≤ 123 := by
      unfold ms_cb
      rw [List.length_append, List.length_append, ms_ch_ln, tb6, ksp_ln, h32]; omega
    generalize ms_cb (s.1 (b + 94)) (s.1 (b + 98)) (s.1 (b + 96)) = m at lm
    obtain ⟨S1, hS1⟩ : ∃ S, S = mTry (mM (mPrep s b) (b + 100) m) b 22 m := ⟨_, rfl⟩
    rw [← hS1]
    obtain ⟨t1, t2, t3, t4⟩ := tryF (s := mM (mPrep s b) (b + 100) m) (b := b) (x := 22) (l := m)
    rw [← hS1] at t1 t2 t3 t4
    have t2' : S1.2.1 b = s.2.1 b := t2
    have t3' : S1.2.1 (b + 76) = s.2.1 (b + 76) := t3
    have t4' : S1.2.1 (b + 69) 4 = s.2.1 (b + 69) 4 := t4
    have sc1 : jSc (mI S1 b 5 1) b := scP.e (fun r hr => by
      show S1.1 r = _
      rw [t1, mM_off (by omega)])
    unfold jE
    rw [mI_at, mI_b (show (4 : Nat) ≠ 5 by decide), mI_b (show (16 : Nat) ≠ 5 by decide), show (mI S1 b 5 1).2.1 (b + 69) = S1.2.1 (b + 69) from mI_o (by omega), show (mI S1 b 5 1).2.1 (b + 76) = S1.2.1 (b + 76) from mI_o (by omega), t2', t3', t4']
    have o100 : (mI S1 b 5 1).1 (b + 100) = m := by show S1.1 (b + 100) = m; rw [t1, mM_at]
    rw [o100]
    have k1 : kI (mI S1 b 5 1) (b + 69) := by rw [hS1]; exact (kP.m (by omega) (by omega) (by omega)).y.i (by omega)
    have k2 : kI (mI S1 b 5 1) (b + 76) := by rw [hS1]; exact (kP'.m (by omega) (by omega) (by omega)).y.i (by omega)
    exact ⟨⟨k1, k2⟩, ⟨j2, j2'⟩, Or.inr (Or.inl (by unfold sS; decide)), fun z => absurd z (by decide), ⟨fun _ => sv, fun z => absurd z (by decide)⟩, fun _ _ => cl, fun _ => sc1, fun z => absurd z (by decide), Or.inr sc1.2.2.2, fun _ => lm, fun z => absurd z (by decide), fun z => absurd z (by decide)⟩
  · rw [if_neg sv]
    unfold jE
    rw [mI_at, mI_b (show (4 : Nat) ≠ 5 by decide), mI_b (show (16 : Nat) ≠ 5 by decide), show (mI (mPrep s b) b 5 4).2.1 (b + 69) = s.2.1 (b + 69) from mI_o (by omega), show (mI (mPrep s b) b 5 4).2.1 (b + 76) = s.2.1 (b + 76) from mI_o (by omega)]
    exact ⟨⟨kP.i (by omega), kP'.i (by omega)⟩, ⟨j2, j2'⟩, Or.inr (Or.inl (by unfold sS; decide)), fun _ => ⟨p100, pz⟩, ⟨fun z => absurd z (by decide), fun _ => sv⟩, fun _ _ => cl, fun _ => scP, fun z => absurd z (by decide), Or.inr scP.2.2.2, fun z => absurd z (by decide), fun z => absurd z (by decide), fun z => absurd z (by decide)⟩
end JP
