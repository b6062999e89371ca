/-! ===== what calls on one END leave alone, and what stays so ===== -/
def xF (b : Nat) (s s' : sT) : Prop := (∀ r, r < b + 67 ∨ b + 100 < r → s'.1 r = s.1 r) ∧ (∀ a, a ≠ b → a ≠ b + 69 → a ≠ b + 76 → s'.2.1 a = s.2.1 a) ∧ ∀ c, c ≠ b → s'.2.2 c = s.2.2 c
section XF
variable {s s1 s2 : sT} {b : Nat}
theorem xF.rf : xF b s s := ⟨fun _ _ => rfl, fun _ _ _ _ => rfl, fun _ _ => rfl⟩
theorem xF.t (F : xF b s s1) (G : xF b s1 s2) : xF b s s2 := ⟨fun r hr => (G.1 r hr).trans (F.1 r hr), fun a h1 h2 h3 => (G.2.1 a h1 h2 h3).trans (F.2.1 a h1 h2 h3), fun c hc => (G.2.2 c hc).trans (F.2.2 c hc)⟩
theorem xI {k : Nat} {v : Int32} : xF b s (mI s b k v) := ⟨fun _ _ => rfl, fun a h1 _ _ => mI_o h1, fun _ _ => rfl⟩
theorem xI76 {k : Nat} {v : Int32} : xF b s (mI s (b + 76) k v) := ⟨fun _ _ => rfl, fun a _ _ h3 => mI_o h3, fun _ _ => rfl⟩
theorem xM {r : Nat} {l : List Int32} (hr : b + 67 ≤ r ∧ r ≤ b + 100) : xF b s (mM s r l) := ⟨fun q hq => mM_off (by omega), fun _ _ _ _ => rfl, fun _ _ => rfl⟩
theorem xL {k : Nat} {x : List Int32} (hk : k = b + 69 ∨ k = b + 76) : xF b s (mLoad s k x) := ⟨fun q hq => mLoad_off (by omega) (by omega) (by omega), fun a h1 h2 h3 => mlo (by omega), fun _ _ => rfl⟩
theorem xS {x : Int32} {l : List Int32} : xF b s (mSend s b x l) := ⟨fun _ _ => rfl, fun a h1 h2 h3 => sdI_o h2, fun c hc => vu_off hc⟩
theorem xZ {z : List (List Int32)} : xF b s (mZ s b z) := ⟨fun _ _ => rfl, fun _ _ _ _ => rfl, fun c hc => vu_off hc⟩
theorem xTry {x : Int32} {l : List Int32} : xF b s (mTry s b x l) := by
  unfold mTry
  by_cases c : mCan s b = true
  · rw [if_pos c]; exact xS
  · rw [if_neg c]; exact xF.rf
theorem xFail {x : Int32} : xF b s (mFail s b x) := (xI.t xTry).t xI
theorem xSay {l : List Int32} : xF b s (mSay s b l) := (xM (by omega)).t xTry
theorem xHand {k a : Nat} (hk : k = b + 69 ∨ k = b + 76) : xF b s (mHand s b k a) := xL hk
theorem xMain {k a : Nat} (hk : k = b + 69 ∨ k = b + 76) : xF b s (mMain s b k a) := xL hk
theorem xHeed {c : List Int32} : xF b s (mHeed s b c) := by
  unfold mHeed
  (repeat' split) <;> first | exact xI | exact (xI.t xI).t xI
theorem xPrep : xF b s (mPrep s b) := ((xM (by omega)).t (xM (by omega))).t (xM (by omega))
theorem xBegin : xF b s (mBegin s b) := by
  unfold mBegin
  split
  · exact ((xPrep.t (xM (by omega))).t xTry).t xI
  · exact xPrep.t xI
theorem xRenew {x : Int32} : xF b s (mRenew s b x) := xS.t (xL (Or.inl rfl))
theorem xShut : xF b s (mShut s b) := xS.t xI
theorem xUpd1 : xF b s (mUpd1 s b) := xL (Or.inr rfl)
theorem xGo {c : List Int32} : xF b s (mGo s b c) := by
  unfold mGo
  split
  · unfold mAnswer mAns3 mAns2 mAns1
    exact ((((((((xM (by omega)).t xSay).t (xHand (Or.inr rfl))).t (xHand (Or.inl rfl))).t xSay).t xSay).t (xMain (Or.inl rfl))).t xI)
  · split
    · unfold mServed
      exact (((xM (by omega)).t (xHand (Or.inr rfl))).t (xHand (Or.inl rfl))).t xI
    · split
      · exact (xM (by omega)).t xI
      · split
        · unfold mDone
          split
          · split
            · exact ((((xM (by omega)).t xS).t (xMain (Or.inr rfl))).t (xMain (Or.inl rfl))).t xI
            · exact (xM (by omega)).t xI
          · exact (xMain (Or.inr rfl)).t xI
        · unfold mUpd
          split
          · split
            · exact xUpd1.t xRenew
            · exact xUpd1.t xI
          · exact xUpd1
theorem xMsg {c : List Int32} : xF b s (mMsg s b c) := by
  unfold mMsg
  by_cases c1 : 4 ≤ c.length ∧ c.getD 1 0 = 0 ∧ rd_2 c 2 = nI c.length - 4
  · rw [if_pos c1]
    by_cases c2 : c.getD 0 0 = rd_wait (s.2.1 b 5)
    · rw [if_pos c2]
      by_cases c3 : rd_m s b c = 0
      · rw [if_pos c3]
        by_cases c4 : rd_p s b (c.getD 0 0) c = true
        · rw [if_pos c4]; exact xGo
        · rw [if_neg c4]; exact xFail
      · rw [if_neg c3]; exact xFail
    · rw [if_neg c2]; exact xFail
  · rw [if_neg c1]; exact xFail
theorem xBody {ty : Int32} {c : List Int32} : xF b s (mBody s b ty c) := by
  unfold mBody
  by_cases c1 : ty = 21
  · rw [if_pos c1]
    by_cases c2 : c.length = 2
    · rw [if_pos c2]; exact xHeed
    · rw [if_neg c2]; exact xFail
  · rw [if_neg c1]
    by_cases c2 : ty = 22
    · rw [if_pos c2]; exact xMsg
    · rw [if_neg c2]
      by_cases c3 : ty = 23
      · rw [if_pos c3]
        by_cases c4 : s.2.1 b 5 = 6
        · rw [if_pos c4]; exact xM (by omega)
        · rw [if_neg c4]; exact xFail
      · rw [if_neg c3]
        by_cases c4 : ty = 256
        · rw [if_pos c4]; exact xF.rf
        · rw [if_neg c4]; exact xFail
theorem xSeal {l : List Int32} : xF b s (mSeal s b l) := by
  unfold mSeal
  by_cases c1 : 21 < l.length ∧ l.drop (l.length - 16) = sl_t (rd_F s b) l (l.length - 16)
  · rw [if_pos c1]
    generalize rd_o s b l = o
    by_cases c2 : rd_t o = -1
    · rw [if_pos c2]; exact xI76.t xFail
    · rw [if_neg c2]; exact xI76.t xBody
  · rw [if_neg c1]; exact xFail
theorem xRead {l : List Int32} : xF b s (mRead s b l) := by
  unfold mRead
  by_cases c1 : s.2.1 b 5 = 0
  · rw [if_pos c1]; exact xF.rf
  · rw [if_neg c1]
    by_cases c2 : s.2.1 b 5 = 7
    · rw [if_pos c2]; exact xF.rf
    · rw [if_neg c2]
      by_cases c3 : s.2.1 b 17 = 0
      · rw [if_pos c3]
        by_cases c4 : rd_f l = 0
        · rw [if_pos c4]
          by_cases c5 : l.getD 0 0 = 20
          · rw [if_pos c5]
            by_cases c6 : l.length = 6 ∧ l.getD 5 0 = 1 ∧ s.2.1 b 5 ≠ 4 ∧ s.2.1 b 5 ≠ 6
            · rw [if_pos c6]; exact xF.rf
            · rw [if_neg c6]; exact xFail
          · rw [if_neg c5]
            by_cases c6 : l.getD 0 0 = 23 ↔ s.2.1 (b + 76) 4 = 1
            · rw [if_pos c6]
              by_cases c7 : l.getD 0 0 = 23
              · rw [if_pos c7]; exact xSeal
              · rw [if_neg c7]; exact xBody
            · rw [if_neg c6]; exact xFail
        · rw [if_neg c4]; exact xFail
      · rw [if_neg c3]; exact xF.rf
theorem xLearn {x : Int32} {t : sT} (h : mLearn s b x = some t) : xF b s t := by
  unfold mLearn at h
  split at h
  · split at h
    · split at h
      · rw [← Option.some.inj h]; exact xM (by omega)
      · exact absurd h (by simp)
    · split at h
      · split at h
        · rw [← Option.some.inj h]; exact xM (by omega)
        · exact absurd h (by simp)
      · split at h
        · split at h
          · rw [← Option.some.inj h]; exact xM (by omega)
          · exact absurd h (by simp)
        · exact absurd h (by simp)
  · exact absurd h (by simp)
theorem xF.eqE {b' : Nat} (F : xF b s s1) (hb : sk_b b) (hb' : sk_b b') (ne : b' ≠ b) : eqE s s1 b' := by
  unfold sk_b at hb hb'
  exact ⟨fun j h1 h2 => F.1 _ (by omega), F.2.1 _ (by omega) (by omega) (by omega), F.2.1 _ (by omega) (by omega) (by omega), F.2.1 _ (by omega) (by omega) (by omega), F.2.2 _ ne⟩
theorem kI.q {k : Nat} {b' : Nat} (K : kI s k) (q : eqE s s1 b') (hk : k = b' + 69 ∨ k = b' + 76) : kI s1 k := fun w => by
  have e4 : s1.2.1 k = s.2.1 k := by rcases hk with rfl | rfl; exact q.2.2.1; exact q.2.2.2.1
  have f : ∀ j, 1 ≤ j → j ≤ 5 → s1.1 (k + j) = s.1 (k + j) := fun j h1 h2 => by
    rcases hk with rfl | rfl
    · rw [Nat.add_assoc]; exact q.1 _ (by omega) (by omega)
    · rw [Nat.add_assoc]; exact q.1 _ (by omega) (by omega)
  rw [e4] at w
  rw [f 1 (by decide) (by decide), f 3 (by decide) (by decide), f 5 (by decide) (by decide)]
  exact K w
theorem jE.q (J : jE s b) (q : eqE s s1 b) : jE s1 b := by
  obtain ⟨⟨j1, j1'⟩, j2, j3, j4, j5, j6, j7, j8, j9, j10⟩ := J
  have q' := q
  obtain ⟨q1, q2, q3, q4, q5⟩ := q'
  unfold jE
  rw [q2, q3, q4, q5, q1 94 (by decide) (by decide), q1 98 (by decide) (by decide), q1 100 (by decide) (by decide), q1 84 (by decide) (by decide), q1 86 (by decide) (by decide), q1 88 (by decide) (by decide)]
  exact ⟨⟨j1.q q (Or.inl rfl), j1'.q q (Or.inr rfl)⟩, j2, j3, j4, j5, j6, j7, j8, j9, j10⟩
def jSc (s : sT) (b : Nat) : Prop := s.1 (b + 84) = ks_b (s.1 (b + 94)) ∧ s.1 (b + 86) = ks_h (s.1 (b + 94)) ∧ s.1 (b + 88) = ks_m (s.1 (b + 94)) ∧ (s.1 (b + 98)).length = 32
theorem jE.m7 (k1 : kI s (b + 69)) (k2 : kI s (b + 76)) (f1 : s.2.1 (b + 69) 4 = 0 ∨ s.2.1 (b + 69) 4 = 1) (f2 : s.2.1 (b + 76) 4 = 0 ∨ s.2.1 (b + 76) 4 = 1) (st : s.2.1 b 5 = 7) (sc : jSc s b) : jE s b := by
  unfold jE
  rw [st]
  exact ⟨⟨k1, k2⟩, ⟨f1, f2⟩, Or.inr (Or.inr rfl), fun z => absurd z (by decide), ⟨fun z => absurd z (by decide), fun z => absurd z (by decide)⟩, fun _ z => absurd rfl z, fun _ => sc, fun z => absurd z (by decide), Or.inr sc.2.2.2, fun z => absurd z (by decide), fun z => absurd z (by decide), fun z => absurd z (by decide)⟩
theorem jE.m6 (k1 : kI s (b + 69)) (k2 : kI s (b + 76)) (f1 : s.2.1 (b + 69) 4 = 1) (f2 : s.2.1 (b + 76) 4 = 1) (st : s.2.1 b 5 = 6) (sc : jSc s b) : jE s b := by
  unfold jE sS
  rw [st]
  exact ⟨⟨k1, k2⟩, ⟨Or.inr f1, Or.inr f2⟩, Or.inr (Or.inl (by decide)), fun z => absurd z (by decide), ⟨fun z => absurd z (by decide), fun z => absurd z (by decide)⟩, fun z => absurd rfl z, fun _ => sc, fun _ => ⟨f1, f2⟩, Or.inr sc.2.2.2, fun z => absurd z (by decide), fun z => absurd z (by decide), fun z => absurd z (by decide)⟩
/-- rows that the schedule speaks of -/
theorem jSc.e (sc : jSc s b) (e : ∀ r, r = b + 84 ∨ r = b + 86 ∨ r = b + 88 ∨ r = b + 94 ∨ r = b + 98 → s1.1 r = s.1 r) : jSc s1 b := by
  unfold jSc
  rw [e (b + 84) (by omega), e (b + 86) (by omega), e (b + 88) (by omega), e (b + 94) (by omega), e (b + 98) (by omega)]
  exact sc
theorem tryF {x : Int32} {l : List Int32} : (mTry s b x l).1 = s.1 ∧ (mTry s b x l).2.1 b = s.2.1 b ∧ (mTry s b x l).2.1 (b + 76) = s.2.1 (b + 76) ∧ (mTry s b x l).2.1 (b + 69) 4 = s.2.1 (b + 69) 4 := by
  unfold mTry
  by_cases c : mCan s b = true
  · rw [if_pos c]; exact ⟨rfl, sdI_o (by omega), sdI_o (by omega), sd_I4⟩
  · rw [if_neg c]; exact ⟨rfl, rfl, rfl, rfl⟩
theorem jE.fail {x : Int32} (J : jE s b) (h0 : s.2.1 b 5 ≠ 0) : jE (mFail s b x) b := by
  obtain ⟨⟨j1, j1'⟩, ⟨j2, j2'⟩, -, -, -, -, j7, -, -, -⟩ := J
  obtain ⟨t1, t2, t3, t4⟩ := tryF (s := mI s b 14 x) (b := b) (x := 21) (l := ms_al 2 x)
  unfold mFail
  refine jE.m7 ((j1.i (by omega)).y.i (by omega)) ((j1'.i (by omega)).y.i (by omega)) ?_ ?_ mI_at ((show jSc s b from j7 h0).e (fun r _ => ?_))
  · rw [mI_o (by omega), t4, mI_o (by omega)]; exact j2
  · rw [mI_o (by omega), t3, mI_o (by omega)]; exact j2'
  · show (mTry (mI s b 14 x) b 21 (ms_al 2 x)).1 r = s.1 r
    rw [t1]; rfl
end XF
