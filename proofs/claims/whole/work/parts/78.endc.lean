/-! ===== END: speak, renew, shut, heed, and what it does with messages that are right ===== -/
def mHeed (s : sT) (b : Nat) (c : List Int32) : sT := if c.getD 0 0 = 1 ∧ c.getD 1 0 = 0 then (if s.2.1 b 5 = 6 then mI s b 17 1 else mI (mI (mI s b 17 1) b 15 (c.getD 1 0)) b 5 7) else mI (mI (mI s b 17 0) b 15 (c.getD 1 0)) b 5 7
/-- says a message of the handshake, and hears it -/
def mSay (s : sT) (b : Nat) (l : List Int32) : sT := mTry (mM s (b + 100) (s.1 (b + 100) ++ l)) b 22 l
def mHand (s : sT) (b k a : Nat) : sT := mLoad s k (hk_e (s.1 (b + 86)) (tx_l a) (sh_a (s.1 (b + 100))) 32)
def mMain (s : sT) (b k a : Nat) : sT := mLoad s k (hk_e (s.1 (b + 88)) (tx_l a) (sh_a (s.1 (b + 100))) 32)
def mFin (s : sT) (b : Nat) : List Int32 := ms_fi (ks_p (s.1 (b + 70)) (s.1 (b + 100)))
def mAns1 (s : sT) (b : Nat) (c : List Int32) : sT := mHand (mHand (mSay (mM s (b + 100) c) b (ms_sh (s.1 (b + 98)))) b (b + 76) 17) b (b + 69) 18
def mAns2 (s : sT) (b : Nat) : sT := mSay s b ms_ex
def mAns3 (s : sT) (b : Nat) : sT := mSay s b (mFin s b)
def mAnswer (s : sT) (b : Nat) (c : List Int32) : sT := mI (mMain (mAns3 (mAns2 (mAns1 s b c) b) b) b (b + 69) 19) b 5 5
def mServed (s : sT) (b : Nat) (c : List Int32) : sT := mI (mHand (mHand (mM s (b + 100) (s.1 (b + 100) ++ c)) b (b + 76) 18) b (b + 69) 17) b 5 2
def mExt (s : sT) (b : Nat) (c : List Int32) : sT := mI (mM s (b + 100) (s.1 (b + 100) ++ c)) b 5 3
def mDone (s : sT) (b : Nat) (c : List Int32) : sT :=
  if s.2.1 b 4 = 0 then
    (if mCan s b = true then mI (mMain (mMain (mSend (mM s (b + 100) (s.1 (b + 100) ++ c)) b 22 (mFin (mM s (b + 100) (s.1 (b + 100) ++ c)) b)) b (b + 76) 19) b (b + 69) 20) b 5 6
    else mI (mM s (b + 100) (s.1 (b + 100) ++ c)) b 5 7)
  else mI (mMain s b (b + 76) 20) b 5 6
def mUpd1 (s : sT) (b : Nat) : sT := mLoad s (b + 76) (hk_e (s.1 (b + 77)) (tx_l 14) [] 32)
def mUpd (s : sT) (b : Nat) (c : List Int32) : sT :=
  if c.getD 4 0 = 1 ∧ s.2.1 b 16 = 0 then (if mCan s b = true then mRenew (mUpd1 s b) b 0 else mI (mUpd1 s b) b 5 7) else mUpd1 s b
theorem rr_at_k {l : List Int32} {k : Nat} (hk : k < l.length) (hl : l.length < 2 ^ 31) : rr_at l (nI k) = l.getD k 0 := by
  unfold rr_at
  rw [if_neg (nI_pos (by omega)), if_neg (by rw [nI_leI hl (by omega)]; omega), rr_n (by omega)]
theorem mSay_1 {s : sT} {b : Nat} {l : List Int32} : (mSay s b l).1 = va_up s.1 (b + 100) (s.1 (b + 100) ++ l) := by
  unfold mSay mTry
  by_cases c : mCan (mM s (b + 100) (s.1 (b + 100) ++ l)) b = true
  · rw [if_pos c]; rfl
  · rw [if_neg c]; rfl
theorem mM_at {s : sT} {r : Nat} {l : List Int32} : (mM s r l).1 r = l := vu_at
theorem mM_off {s : sT} {r q : Nat} {l : List Int32} (h : q ≠ r) : (mM s r l).1 q = s.1 q := vu_off h
section EDC
variable {L : Nat} {h h' : mm_H} {M : Nat → List Int32} {I : Nat → Nat → Int32} {s : sT}
variable {r o b : Nat} {f : mm_H → mm_O} {g : Int32 → mm_H → mm_O} {Q : Option Value → mm_H → Prop}
theorem co_speak (hb : sk_b b) (O : cO L h M I s) (hl : (s.1 33).length ≤ 400) (ky : kI s (b + 69)) (K0 : ∀ h', ¬ (s.2.1 b 5 = 6 ∧ mCan s b = true) → cO L h' M I s → tr (g 0 h') Q) (K1 : ∀ h' I', s.2.1 b 5 = 6 → mCan s b = true → cO L h' M I' (mSend s b 23 (s.1 33)) → tr (g 1 h') Q) : tr (mm_qi (bd_X0_speak b 33 h) g) Q := by
  refine tr_qi (R := fun v h' => (v = some (.int 0) ∧ ¬ (s.2.1 b 5 = 6 ∧ mCan s b = true) ∧ cO L h' M I s) ∨ (v = some (.int 1) ∧ s.2.1 b 5 = 6 ∧ mCan s b = true ∧ ∃ I', cO L h' M I' (mSend s b 23 (s.1 33)))) ?_ (fun v h' q => by
    rcases q with ⟨e, q2, q3⟩ | ⟨e, q1, q2, I', q3⟩
    · exact ⟨0, e, K0 h' q2 q3⟩
    · exact ⟨1, e, K1 h' I' q1 q2 q3⟩)
  have o33 : ob_r 33 = true := (by decide +kernel)
  unfold bd_X0_speak
  rw [O.i (by rcases hb with rfl | rfl | rfl | rfl <;> decide +kernel) (by rcases hb with rfl | rfl | rfl | rfl <;> decide +kernel)]
  by_cases c : s.2.1 b 5 = 6
  · rw [if_pos c]
    refine co_send hb O (by decide +kernel) (by rw [O.r o33]; exact hl) ky (fun h' w O' => ?_) (fun h' I' w O' => ?_)
    · exact tr_ip rfl (tr_mk (Or.inl ⟨rfl, fun z => by rw [z.2] at w; exact absurd w (by decide), O'⟩))
    · rw [O.r o33] at O'
      exact tr_in (by decide) (tr_mk (Or.inr ⟨rfl, c, w, _, O'⟩))
  · rw [if_neg c]
    exact tr_mk (Or.inl ⟨rfl, fun z => c z.1, O⟩)
theorem co_renew {x : Int32} (hb : sk_b b) (O : cO L h M I s) (h40 : s.1 40 = []) (ky : kI s (b + 69)) (K0 : ∀ h' M', ¬ (s.2.1 b 5 = 6 ∧ mCan s b = true) → cO L h' M' I s → tr (g 0 h') Q) (K1 : ∀ h' M' I', s.2.1 b 5 = 6 → mCan s b = true → cO L h' M' I' (mRenew s b x) → tr (g 1 h') Q) : tr (mm_qi (bd_X0_renew b x h) g) Q := by
  refine tr_qi (R := fun v h' => (v = some (.int 0) ∧ ¬ (s.2.1 b 5 = 6 ∧ mCan s b = true) ∧ ∃ M', cO L h' M' I s) ∨ (v = some (.int 1) ∧ s.2.1 b 5 = 6 ∧ mCan s b = true ∧ ∃ M' I', cO L h' M' I' (mRenew s b x))) ?_ (fun v h' q => by
    rcases q with ⟨e, q2, M', q3⟩ | ⟨e, q1, q2, M', I', q3⟩
    · exact ⟨0, e, K0 h' M' q2 q3⟩
    · exact ⟨1, e, K1 h' M' I' q1 q2 q3⟩)
  have f6 : sk_ref b 6 = some 35 := (by rcases hb with rfl | rfl | rfl | rfl <;> decide +kernel)
  have f2 : sk_ref b 2 = some (b + 69) := (by rcases hb with rfl | rfl | rfl | rfl <;> decide +kernel)
  have g5 : sk_ref 35 5 = some 69 := (by decide +kernel)
  have g1 : sk_ref 35 1 = some 39 := (by decide +kernel)
  have k1 : sk_ref 39 1 = some 40 := (by decide +kernel)
  have k0 : sk_ref (b + 69) 0 = some (b + 70) := (by rcases hb with rfl | rfl | rfl | rfl <;> decide +kernel)
  unfold bd_X0_renew
  rw [O.i (by rcases hb with rfl | rfl | rfl | rfl <;> decide +kernel) (by rcases hb with rfl | rfl | rfl | rfl <;> decide +kernel)]
  by_cases c : s.2.1 b 5 = 6
  · rw [if_pos c]
    simp only [mm_gr, O.1.f f6, O.1.f g5, Option.bind_some]
    refine ce_putUP O.1 (by decide +kernel) (by decide +kernel) (fun h1 E1 => ?_)
    have O1 := O.t E1 (by decide +kernel)
    simp only [O1.1.f f6, O1.1.f g5, Option.bind_some]
    refine co_send hb O1 (by decide +kernel) (by rw [vu_at, ms_up_ln]; decide) ky (fun h' w O' => ?_) (fun h' I' w O' => ?_)
    · exact tr_ip rfl (tr_mk (Or.inl ⟨rfl, fun z => by rw [z.2] at w; exact absurd w (by decide), _, O'⟩))
    · rw [vu_at] at O'
      refine tr_in (by decide) ?_
      simp only [O'.1.f f2, O'.1.f f6, O'.1.f g1, O'.1.f k1, O'.1.f k0, Option.bind_some]
      have e40 : va_up M 69 (ms_up x) 40 = [] := by rw [O'.r (by decide +kernel)]; exact h40
      have e70 : va_up M 69 (ms_up x) (b + 70) = s.1 (b + 70) := O'.r (by rcases hb with rfl | rfl | rfl | rfl <;> decide +kernel)
      refine co_load hb (Or.inl rfl) O' (by decide) (by decide) (by rcases hb with rfl | rfl | rfl | rfl <;> decide +kernel) (by decide +kernel) h40 (by rw [e40]; decide) (fun h2 M2 I2 O2 _ => tr_mk (Or.inr ⟨rfl, c, w, M2, I2, ?_⟩))
      rw [e40, e70] at O2
      exact O2
  · rw [if_neg c]
    exact tr_mk (Or.inl ⟨rfl, fun z => c z.1, _, O⟩)
theorem co_shut (hb : sk_b b) (O : cO L h M I s) (ky : kI s (b + 69)) (K0 : ∀ h' M', ¬ (s.2.1 b 5 = 6 ∧ mCan s b = true) → cO L h' M' I s → tr (g 0 h') Q) (K1 : ∀ h' M' I', s.2.1 b 5 = 6 → mCan s b = true → cO L h' M' I' (mShut s b) → tr (g 1 h') Q) : tr (mm_qi (bd_X0_shut b h) g) Q := by
  refine tr_qi (R := fun v h' => (v = some (.int 0) ∧ ¬ (s.2.1 b 5 = 6 ∧ mCan s b = true) ∧ ∃ M', cO L h' M' I s) ∨ (v = some (.int 1) ∧ s.2.1 b 5 = 6 ∧ mCan s b = true ∧ ∃ M' I', cO L h' M' I' (mShut s b))) ?_ (fun v h' q => by
    rcases q with ⟨e, q2, M', q3⟩ | ⟨e, q1, q2, M', I', q3⟩
    · exact ⟨0, e, K0 h' M' q2 q3⟩
    · exact ⟨1, e, K1 h' M' I' q1 q2 q3⟩)
  have f6 : sk_ref b 6 = some 35 := (by rcases hb with rfl | rfl | rfl | rfl <;> decide +kernel)
  have g5 : sk_ref 35 5 = some 69 := (by decide +kernel)
  unfold bd_X0_shut
  rw [O.i (by rcases hb with rfl | rfl | rfl | rfl <;> decide +kernel) (by rcases hb with rfl | rfl | rfl | rfl <;> decide +kernel)]
  by_cases c : s.2.1 b 5 = 6
  · rw [if_pos c]
    simp only [mm_gr, O.1.f f6, O.1.f g5, Option.bind_some]
    refine ce_putAL O.1 (by decide +kernel) (by decide +kernel) (fun h1 E1 => ?_)
    have O1 := O.t E1 (by decide +kernel)
    simp only [O1.1.f f6, O1.1.f g5, Option.bind_some]
    refine co_send hb O1 (by decide +kernel) (by rw [vu_at, ms_al_ln]; decide) ky (fun h' w O' => ?_) (fun h' I' w O' => ?_)
    · exact tr_ip rfl (tr_mk (Or.inl ⟨rfl, fun z => by rw [z.2] at w; exact absurd w (by decide), _, O'⟩))
    · rw [vu_at] at O'
      exact tr_in (by decide) (co_si O' (by rcases hb with rfl | rfl | rfl | rfl <;> decide +kernel) (by rcases hb with rfl | rfl | rfl | rfl <;> decide +kernel) (fun h2 I2 O2 => tr_mk (Or.inr ⟨rfl, c, w, _, I2, O2⟩)))
  · rw [if_neg c]
    exact tr_mk (Or.inl ⟨rfl, fun z => c z.1, _, O⟩)
theorem co_heed (hb : sk_b b) (O : cO L h M I s) (hl : (M 67).length = 2) (K : ∀ h' I', cO L h' M I' (mHeed s b (M 67)) → tr (f h') Q) : tr (mm_qv (bd_X0_heed b h) f) Q := by
  refine tr_v (p := fun h' => ∃ I', cO L h' M I' (mHeed s b (M 67))) ?_ (fun h' q => by obtain ⟨I', q⟩ := q; exact K h' I' q)
  have f6 : sk_ref b 6 = some 35 := (by rcases hb with rfl | rfl | rfl | rfl <;> decide +kernel)
  have g4 : sk_ref 35 4 = some 67 := (by decide +kernel)
  have ob : sk_ob b = true := (by rcases hb with rfl | rfl | rfl | rfl <;> decide +kernel)
  have pb : sk_pp b = false := (by rcases hb with rfl | rfl | rfl | rfl <;> decide +kernel)
  unfold bd_X0_heed
  simp only [mm_gr, O.1.f f6, O.1.f g4, Option.bind_some]
  refine ce_at (r := 67) O.1 (by decide +kernel) ?_
  simp only [O.1.f f6, O.1.f g4, Option.bind_some]
  refine ce_at (r := 67) O.1 (by decide +kernel) ?_
  rw [show rr_at (M 67) 1 = (M 67).getD 1 0 from rr_at_k (k := 1) (by omega) (by omega), show rr_at (M 67) 0 = (M 67).getD 0 0 from rr_at_k (k := 0) (by omega) (by omega)]
  generalize M 67 = c
  have no : tr (jn_X0_heed_35 b (c.getD 1 0) h) (fun v h' => v = none ∧ ∃ I', cO L h' M I' (mI (mI (mI s b 17 0) b 15 (c.getD 1 0)) b 5 7)) := by
    unfold jn_X0_heed_35 jn_X0_heed_36
    refine tr_ip (Or.inl rfl) ?_
    refine co_si O ob pb (fun h1 I1 O1 => ?_)
    refine tr_ip rfl ?_
    unfold jn_X0_heed_55
    exact co_si O1 ob pb (fun h2 I2 O2 => co_si O2 ob pb (fun h3 I3 O3 => tr_mk ⟨rfl, I3, O3⟩))
  unfold mHeed
  by_cases c1 : c.getD 0 0 = 1
  · rw [if_pos c1]
    by_cases c2 : c.getD 1 0 = 0
    · rw [if_pos c2, if_pos ⟨c1, c2⟩]
      unfold jn_X0_heed_36
      refine tr_ip (Or.inr rfl) ?_
      refine co_si O ob pb (fun h1 I1 O1 => ?_)
      refine tr_in (by decide) ?_
      rw [show mm_i h1 b 5 = s.2.1 b 5 from by rw [O1.i ob (by rcases hb with rfl | rfl | rfl | rfl <;> decide +kernel)]; show va_up s.2.1 b _ b 5 = _; rw [vu_at, upd_off (by decide)]]
      by_cases c3 : s.2.1 b 5 = 6
      · rw [if_pos c3, if_pos c3]
        exact tr_mk ⟨rfl, I1, O1⟩
      · rw [if_neg c3, if_neg c3]
        unfold jn_X0_heed_55
        exact co_si O1 ob pb (fun h2 I2 O2 => co_si O2 ob pb (fun h3 I3 O3 => tr_mk ⟨rfl, I3, O3⟩))
    · rw [if_neg c2, if_neg (fun z => c2 z.2)]
      exact no
  · rw [if_neg c1, if_neg (fun z => c1 z.1)]
    exact no
theorem co_say (hb : sk_b b) (O : cO L h M I s) (ky : kI s (b + 69)) (hl : (s.1 (b + 100)).length + (M 69).length ≤ 278) (K : ∀ v h' M' I', cO L h' M' I' (mSay s b (M 69)) → (∀ r, r ≠ b + 100 → M' r = M r) → tr (g v h') Q) : tr (mm_qv (bd_X6_append (b + 100) 69 h) (fun h' => mm_qi (bd_X0_send b 22 69 h') g)) Q := by
  have r100 : ob_r (b + 100) = true := (by rcases hb with rfl | rfl | rfl | rfl <;> decide +kernel)
  have n69 : b + 100 ≠ 69 := by unfold sk_b at hb; omega
  refine co_append 278 O r100 (by rcases hb with rfl | rfl | rfl | rfl <;> decide +kernel) (by decide +kernel) n69 (fun h1 O1 => ?_)
  rw [List.take_of_length_le (by rw [O.r r100, List.length_append]; exact hl), List.take_of_length_le (by rw [List.length_append]; exact hl)] at O1
  refine co_try hb O1 (by decide +kernel) (by rw [vu_off (Ne.symm n69)]; omega) (ky.m (by omega) (by omega) (by omega)) (fun v h2 I2 O2 => K v h2 (va_up M (b + 100) (M (b + 100) ++ M 69)) I2 ?_ (fun r hr => vu_off hr))
  rw [vu_off (Ne.symm n69)] at O2
  exact O2
/-- hashes what was heard -/
theorem co_hear (hb : sk_b b) (O : cO L h M I s) (K : ∀ h', cO L h' (va_up M 73 (sh_a (s.1 (b + 100)))) I s → tr (f h') Q) : tr (mm_qv (bd_X9_digest 36 (b + 100) 73 h) f) Q := by
  refine ce_digest O.1 (by rcases hb with rfl | rfl | rfl | rfl <;> decide +kernel) (by decide +kernel) (by decide +kernel) (fun h1 E1 => K h1 ?_)
  rw [show M (b + 100) = s.1 (b + 100) from O.r (by rcases hb with rfl | rfl | rfl | rfl <;> decide +kernel)] at E1
  exact O.t E1 (by decide +kernel)
theorem co_hand {k a : Nat} (hb : sk_b b) (hk : k = b + 69 ∨ k = b + 76) (O : cO L h M I s) (ha : a < 21) (h10 : 10 ≤ a) (h40 : s.1 40 = []) (hd : M 73 = sh_a (s.1 (b + 100))) (K : ∀ h' M' I', cO L h' M' I' (mHand s b k a) → (∀ r, r ≠ k + 1 → r ≠ k + 3 → r ≠ k + 5 → M' r = M r) → tr (f h') Q) : tr (mm_qv (bd_X2_load k 39 (b + 86) a 73 h) f) Q := by
  refine co_load hb hk O ha h10 (by rcases hb with rfl | rfl | rfl | rfl <;> decide +kernel) (by decide +kernel) h40 (by rw [hd, sh_a_len]; decide) (fun h' M' I' O' u => K h' M' I' ?_ u)
  rw [hd, show M (b + 86) = s.1 (b + 86) from O.r (by rcases hb with rfl | rfl | rfl | rfl <;> decide +kernel)] at O'
  exact O'
theorem co_main {k a : Nat} (hb : sk_b b) (hk : k = b + 69 ∨ k = b + 76) (O : cO L h M I s) (ha : a < 21) (h10 : 10 ≤ a) (h40 : s.1 40 = []) (hd : M 73 = sh_a (s.1 (b + 100))) (K : ∀ h' M' I', cO L h' M' I' (mMain s b k a) → (∀ r, r ≠ k + 1 → r ≠ k + 3 → r ≠ k + 5 → M' r = M r) → tr (f h') Q) : tr (mm_qv (bd_X2_load k 39 (b + 88) a 73 h) f) Q := by
  refine co_load hb hk O ha h10 (by rcases hb with rfl | rfl | rfl | rfl <;> decide +kernel) (by decide +kernel) h40 (by rw [hd, sh_a_len]; decide) (fun h' M' I' O' u => K h' M' I' ?_ u)
  rw [hd, show M (b + 88) = s.1 (b + 88) from O.r (by rcases hb with rfl | rfl | rfl | rfl <;> decide +kernel)] at O'
  exact O'
theorem mHand_off {k a r : Nat} (h1 : r ≠ k + 1) (h3 : r ≠ k + 3) (h5 : r ≠ k + 5) : (mHand s b k a).1 r = s.1 r := mLoad_off h1 h3 h5
theorem mMain_off {k a r : Nat} (h1 : r ≠ k + 1) (h3 : r ≠ k + 3) (h5 : r ≠ k + 5) : (mMain s b k a).1 r = s.1 r := mLoad_off h1 h3 h5
theorem co_served (hb : sk_b b) (O : cO L h M I s) (h40 : s.1 40 = []) (hl : (s.1 (b + 100)).length + (M 67).length ≤ 278) (K : ∀ h' M' I', cO L h' M' I' (mServed s b (M 67)) → tr (f h') Q) : tr (mm_qv (bd_X0_takeServerHello b h) f) Q := by
  have b1 : 82 ≤ b := by unfold sk_b at hb; omega
  have f6 : sk_ref b 6 = some 35 := (by rcases hb with rfl | rfl | rfl | rfl <;> decide +kernel)
  have f2 : sk_ref b 2 = some (b + 69) := (by rcases hb with rfl | rfl | rfl | rfl <;> decide +kernel)
  have f3 : sk_ref b 3 = some (b + 76) := (by rcases hb with rfl | rfl | rfl | rfl <;> decide +kernel)
  have f7 : sk_ref b 7 = some (b + 83) := (by rcases hb with rfl | rfl | rfl | rfl <;> decide +kernel)
  have f11 : sk_ref b 11 = some (b + 100) := (by rcases hb with rfl | rfl | rfl | rfl <;> decide +kernel)
  have g0 : sk_ref 35 0 = some 36 := (by decide +kernel)
  have g1 : sk_ref 35 1 = some 39 := (by decide +kernel)
  have g4 : sk_ref 35 4 = some 67 := (by decide +kernel)
  have g7 : sk_ref 35 7 = some 73 := (by decide +kernel)
  have s1 : sk_ref (b + 83) 1 = some (b + 86) := (by rcases hb with rfl | rfl | rfl | rfl <;> decide +kernel)
  have r100 : ob_r (b + 100) = true := (by rcases hb with rfl | rfl | rfl | rfl <;> decide +kernel)
  refine tr_v (p := fun h' => ∃ M' I', cO L h' M' I' (mServed s b (M 67))) ?_ (fun h' q => by obtain ⟨M', I', q⟩ := q; exact K h' M' I' q)
  unfold bd_X0_takeServerHello
  simp only [mm_gr, O.1.f f11, O.1.f f6, O.1.f g4, Option.bind_some]
  refine co_append 278 O r100 (by rcases hb with rfl | rfl | rfl | rfl <;> decide +kernel) (by decide +kernel) (by omega) (fun h1 O1 => ?_)
  rw [List.take_of_length_le (by rw [O.r r100, List.length_append]; exact hl), List.take_of_length_le (by rw [List.length_append]; exact hl)] at O1
  simp only [O1.1.f f6, O1.1.f g0, O1.1.f f11, O1.1.f g7, Option.bind_some]
  refine co_hear hb O1 (fun h2 O2 => ?_)
  simp only [O2.1.f f3, O2.1.f f6, O2.1.f g1, O2.1.f f7, O2.1.f s1, O2.1.f g7, Option.bind_some]
  refine co_hand hb (Or.inr rfl) O2 (by decide) (by decide) (by rw [mM_off (by omega)]; exact h40) vu_at (fun h3 M3 I3 O3 u3 => ?_)
  simp only [O3.1.f f2, O3.1.f f6, O3.1.f g1, O3.1.f f7, O3.1.f s1, O3.1.f g7, Option.bind_some]
  refine co_hand hb (Or.inl rfl) O3 (by decide) (by decide) (by rw [mHand_off (by omega) (by omega) (by omega)]; rw [mM_off (by omega)]; exact h40) (by rw [u3 73 (by omega) (by omega) (by omega), vu_at, mHand_off (by omega) (by omega) (by omega)]) (fun h4 M4 I4 O4 u4 => ?_)
  exact co_si O4 (by rcases hb with rfl | rfl | rfl | rfl <;> decide +kernel) (by rcases hb with rfl | rfl | rfl | rfl <;> decide +kernel) (fun h5 I5 O5 => tr_mk ⟨rfl, _, _, O5⟩)
end EDC
