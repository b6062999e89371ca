/-! ===== the state as it is looked at, and what the ENDS do to it ===== -/
abbrev sT : Type := (Nat → List Int32) × (Nat → Nat → Int32) × (Nat → List (List Int32))
def mI (s : sT) (a k : Nat) (v : Int32) : sT := (s.1, va_up s.2.1 a (upd (s.2.1 a) k v), s.2.2)
def mM (s : sT) (r : Nat) (l : List Int32) : sT := (va_up s.1 r l, s.2.1, s.2.2)
def mZ (s : sT) (b : Nat) (z : List (List Int32)) : sT := (s.1, s.2.1, va_up s.2.2 b z)
def mLoad (s : sT) (k : Nat) (x : List Int32) : sT := (va_up (va_up (va_up s.1 (k + 1) x) (k + 3) (ky_k x)) (k + 5) (ky_n x), va_up s.2.1 k (upd (upd (s.2.1 k) 3 0) 4 1), s.2.2)
def mSend (s : sT) (b : Nat) (x : Int32) (l : List Int32) : sT := (s.1, sd_I s.2.1 b, va_up s.2.2 b (s.2.2 b ++ [sd_r s.1 s.2.1 b x l]))
def mCan (s : sT) (b : Nat) : Bool := decide (s.2.1 b 16 = 0) && decide ((s.2.2 b).length < 32)
def mTry (s : sT) (b : Nat) (x : Int32) (l : List Int32) : sT := if mCan s b = true then mSend s b x l else s
def mFail (s : sT) (b : Nat) (x : Int32) : sT := mI (mTry (mI s b 14 x) b 21 (ms_al 2 x)) b 5 7
def ob_r (r : Nat) : Bool := sk_nr r && !([65, 67, 69, 71, 73, 75, 77, 79].contains r)
def ob_i (a k : Nat) : Bool := !(sk_pp a) && !((a == 82 || a == 184 || a == 286 || a == 388) && (k == 12 || k == 13))
def oA (M : Nat → List Int32) (I : Nat → Nat → Int32) (s : sT) : Prop := (∀ r, ob_r r = true → M r = s.1 r) ∧ ∀ a k, ob_i a k = true → I a k = s.2.1 a k
/-- the class stands in state s; the rest of M and I is nobody's business between calls -/
def cO (L : Nat) (h : mm_H) (M : Nat → List Int32) (I : Nat → Nat → Int32) (s : sT) : Prop := cE L h M I s.2.2 ∧ oA M I s
/-- keys that are held are those of their secret -/
def kI (s : sT) (k : Nat) : Prop := s.2.1 k 4 ≠ 0 → s.1 (k + 3) = ky_k (s.1 (k + 1)) ∧ s.1 (k + 5) = ky_n (s.1 (k + 1))
theorem hk_e_ln (a b c : List Int32) {n : Nat} (hn : n ≤ 32) : (hk_e a b c n).length = n := by
  unfold hk_e
  rw [List.length_take, hm_m_len]; omega
theorem ky_k_ln (s : List Int32) : (ky_k s).length = 32 := hk_e_ln _ _ _ (by omega)
theorem ky_n_ln (s : List Int32) : (ky_n s).length = 12 := hk_e_ln _ _ _ (by omega)
theorem mLoad_1 {s : sT} {k : Nat} {x : List Int32} : (mLoad s k x).1 (k + 1) = x := by show va_up (va_up (va_up s.1 (k + 1) x) (k + 3) (ky_k x)) (k + 5) (ky_n x) (k + 1) = _; rw [vu_off (by omega), vu_off (by omega), vu_at]
theorem mLoad_3 {s : sT} {k : Nat} {x : List Int32} : (mLoad s k x).1 (k + 3) = ky_k x := by show va_up (va_up (va_up s.1 (k + 1) x) (k + 3) (ky_k x)) (k + 5) (ky_n x) (k + 3) = _; rw [vu_off (by omega), vu_at]
theorem mLoad_5 {s : sT} {k : Nat} {x : List Int32} : (mLoad s k x).1 (k + 5) = ky_n x := by show va_up (va_up (va_up s.1 (k + 1) x) (k + 3) (ky_k x)) (k + 5) (ky_n x) (k + 5) = _; rw [vu_at]
theorem mLoad_off {s : sT} {k r : Nat} {x : List Int32} (h1 : r ≠ k + 1) (h3 : r ≠ k + 3) (h5 : r ≠ k + 5) : (mLoad s k x).1 r = s.1 r := by show va_up (va_up (va_up s.1 (k + 1) x) (k + 3) (ky_k x)) (k + 5) (ky_n x) r = _; rw [vu_off h5, vu_off h3, vu_off h1]
theorem kI.load {s : sT} {k : Nat} {x : List Int32} : kI (mLoad s k x) k := fun _ => by
  rw [mLoad_1, mLoad_3, mLoad_5]
  exact ⟨rfl, rfl⟩
section MAT
variable {L : Nat} {h h' : mm_H} {M : Nat → List Int32} {I I' : Nat → Nat → Int32} {s : sT}
theorem ob_nr {r : Nat} (hr : ob_r r = true) : sk_nr r = true := by unfold ob_r at hr; simp only [Bool.and_eq_true] at hr; exact hr.1
theorem cO.r (O : cO L h M I s) {r : Nat} (hr : ob_r r = true) : M r = s.1 r := O.2.1 r hr
theorem cO.k (O : cO L h M I s) {a k : Nat} (hk : ob_i a k = true) : I a k = s.2.1 a k := O.2.2 a k hk
theorem ob_pp {a k : Nat} (hk : ob_i a k = true) : sk_pp a = false := by unfold ob_i at hk; simp only [Bool.and_eq_true, Bool.not_eq_true'] at hk; exact hk.1
theorem cO.i (O : cO L h M I s) {a k : Nat} (ha : sk_ob a = true) (hk : ob_i a k = true) : mm_i h a k = s.2.1 a k := by rw [O.1.i ha (ob_pp hk), O.k hk]
theorem cO.m (O : cO L h M I s) {r : Nat} {l : List Int32} (E : cE L h' (va_up M r l) I s.2.2) : cO L h' (va_up M r l) I (mM s r l) := by
  refine ⟨E, fun q hq => ?_, O.2.2⟩
  show va_up M r l q = va_up s.1 r l q
  by_cases e : q = r
  · subst e; rw [vu_at, vu_at]
  · rw [vu_off e, vu_off e]; exact O.2.1 q hq
theorem cO.t (O : cO L h M I s) {r : Nat} {l : List Int32} (E : cE L h' (va_up M r l) I s.2.2) (hr : ob_r r = false) : cO L h' (va_up M r l) I s := by
  refine ⟨E, fun q hq => ?_, O.2.2⟩
  rw [vu_off (fun e => by rw [e, hr] at hq; exact absurd hq (by decide))]; exact O.2.1 q hq
theorem cO.f (O : cO L h M I s) {a k : Nat} {v : Int32} (E : cE L h' M (va_up I a (upd (I a) k v)) s.2.2) (ha : sk_pp a = false) : cO L h' M (va_up I a (upd (I a) k v)) (mI s a k v) := by
  refine ⟨E, O.2.1, fun b j hj => ?_⟩
  show va_up I a (upd (I a) k v) b j = va_up s.2.1 a (upd (s.2.1 a) k v) b j
  by_cases e : b = a
  · subst e
    rw [vu_at, vu_at]
    by_cases e2 : j = k
    · subst e2; rw [upd_at, upd_at]
    · rw [upd_off e2, upd_off e2]; exact O.2.2 b j hj
  · rw [vu_off e, vu_off e]; exact O.2.2 b j hj
theorem cO.g (O : cO L h M I s) {a k : Nat} {v : Int32} (E : cE L h' M (va_up I a (upd (I a) k v)) s.2.2) (hk : ob_i a k = false) : cO L h' M (va_up I a (upd (I a) k v)) s := by
  refine ⟨E, O.2.1, fun b j hj => ?_⟩
  by_cases e : b = a
  · subst e
    rw [vu_at, upd_off (fun z => by rw [z, hk] at hj; exact absurd hj (by decide))]; exact O.2.2 b j hj
  · rw [vu_off e]; exact O.2.2 b j hj
variable {r o b : Nat} {f : mm_H → mm_O} {g : Int32 → mm_H → mm_O} {Q : Option Value → mm_H → Prop}
theorem mCan_iff : mCan s b = true ↔ s.2.1 b 16 = 0 ∧ (s.2.2 b).length < 32 := by
  unfold mCan; simp only [Bool.and_eq_true, decide_eq_true_eq]
/-- a field of the state anew -/
theorem co_si {a k : Nat} {v : Int32} (O : cO L h M I s) (ha : sk_ob a = true) (hp : sk_pp a = false) (K : ∀ h' I', cO L h' M I' (mI s a k v) → tr (f h') Q) : tr (mm_bh (mm_si h a k v) f) Q := ce_si O.1 ha hp (fun h' E' => K h' _ (O.f E' hp))
theorem co_send {x : Int32} (hb : sk_b b) (O : cO L h M I s) (ho : sk_nr o = true) (hl : (M o).length ≤ 400) (ky : kI s (b + 69)) (K0 : ∀ h', mCan s b = false → cO L h' M I s → tr (g 0 h') Q) (K1 : ∀ h' I', mCan s b = true → cO L h' M I' (mSend s b x (M o)) → tr (g 1 h') Q) : tr (mm_qi (bd_X0_send b x o h) g) Q := by
  have o4 : ob_i (b + 69) 4 = true := (by rcases hb with rfl | rfl | rfl | rfl <;> decide +kernel)
  have o3 : ob_i (b + 69) 3 = true := (by rcases hb with rfl | rfl | rfl | rfl <;> decide +kernel)
  have o16 : ob_i b 16 = true := (by rcases hb with rfl | rfl | rfl | rfl <;> decide +kernel)
  have r2 : ob_r (b + 72) = true := (by rcases hb with rfl | rfl | rfl | rfl <;> decide +kernel)
  have r4 : ob_r (b + 74) = true := (by rcases hb with rfl | rfl | rfl | rfl <;> decide +kernel)
  have eI : ∀ a k, ob_i a k = true → sd_I I b a k = sd_I s.2.1 b a k := fun a k hk => by
    unfold sd_I
    rw [O.k o4]
    by_cases c : s.2.1 (b + 69) 4 = 0
    · rw [if_pos c, if_pos c]; exact O.k hk
    · rw [if_neg c, if_neg c]
      by_cases e : a = b + 69
      · subst e
        rw [vu_at, vu_at]
        by_cases e2 : k = 3
        · subst e2; rw [upd_at, upd_at, O.k o3]
        · rw [upd_off e2, upd_off e2]; exact O.k hk
      · rw [vu_off e, vu_off e]; exact O.k hk
  have er : sd_r M I b x (M o) = sd_r s.1 s.2.1 b x (M o) := by
    unfold sd_r; rw [O.k o4, O.k o3, O.r r2, O.r r4]
  refine ce_send hb O.1 ho hl (fun w => ?_) (fun h' w E' => K0 h' ?_ ⟨E', O.2⟩) (fun h' w1 w2 E' => K1 h' _ ?_ ⟨?_, O.2.1, eI⟩)
  · rw [O.k o4] at w
    obtain ⟨k1, k2⟩ := ky w
    rw [O.r r2, O.r r4]
    exact ⟨by rw [k1]; exact ky_k_ln _, by rw [k2]; exact ky_n_ln _⟩
  · rw [O.k o16] at w
    by_cases c : mCan s b = true
    · obtain ⟨c1, c2⟩ := mCan_iff.mp c
      rcases w with w | w
      · exact absurd c1 w
      · omega
    · simpa using c
  · rw [O.k o16] at w1
    exact mCan_iff.mpr ⟨w1, w2⟩
  · rw [er] at E'
    have e9 : cE L h' M (sd_I I b) (mSend s b x (M o)).2.2 := E'
    exact e9
/-- tries to send, whatever comes of it -/
theorem co_try {x : Int32} (hb : sk_b b) (O : cO L h M I s) (ho : sk_nr o = true) (hl : (M o).length ≤ 400) (ky : kI s (b + 69)) (K : ∀ v h' I', cO L h' M I' (mTry s b x (M o)) → tr (g v h') Q) : tr (mm_qi (bd_X0_send b x o h) g) Q := by
  refine co_send hb O ho hl ky (fun h' w O' => K 0 h' I ?_) (fun h' I' w O' => K 1 h' I' ?_)
  · unfold mTry; rw [w]; exact O'
  · unfold mTry; rw [if_pos w]; exact O'
theorem co_load {k q a x : Nat} (hb : sk_b b) (hk : k = b + 69 ∨ k = b + 76) (O : cO L h M I s) (ha : a < 21) (h10 : 10 ≤ a) (hq : sk_nr q = true) (hx : sk_nr x = true) (h40 : s.1 40 = []) (hl : (M x).length ≤ 32) (K : ∀ h' M' I', cO L h' M' I' (mLoad s k (hk_e (M q) (tx_l a) (M x) 32)) → (∀ r, r ≠ k + 1 → r ≠ k + 3 → r ≠ k + 5 → M' r = M r) → tr (f h') Q) : tr (mm_qv (bd_X2_load k 39 q a x h) f) Q := by
  have kp : sk_pp k = false := by rcases hb with rfl | rfl | rfl | rfl <;> rcases hk with rfl | rfl <;> decide +kernel
  refine ce_load hb hk O.1 ha h10 hq hx (by rw [O.r (by decide +kernel)]; exact h40) hl (fun h' E' => K h' _ _ ⟨E', fun r hr => ?_, fun c j hj => ?_⟩ (fun r h1 h3 h5 => by rw [vu_off h5, vu_off h3, vu_off h1]))
  · show _ = va_up (va_up (va_up s.1 _ _) _ _) _ _ r
    by_cases e5 : r = k + 5
    · subst e5; rw [vu_at, vu_at]
    · rw [vu_off e5, vu_off e5]
      by_cases e3 : r = k + 3
      · subst e3; rw [vu_at, vu_at]
      · rw [vu_off e3, vu_off e3]
        by_cases e1 : r = k + 1
        · subst e1; rw [vu_at, vu_at]
        · rw [vu_off e1, vu_off e1]; exact O.r hr
  · show va_up I k _ c j = va_up s.2.1 k _ c j
    by_cases e : c = k
    · subst e
      rw [vu_at, vu_at]
      by_cases j4 : j = 4
      · subst j4; rw [upd_at, upd_at]
      · rw [upd_off j4, upd_off j4]
        by_cases j3 : j = 3
        · subst j3; rw [upd_at, upd_at]
        · rw [upd_off j3, upd_off j3]; exact O.k hj
    · rw [vu_off e, vu_off e]; exact O.k hj
/-- as `co_load`, by what the state has -/
theorem kI.m {k r : Nat} {l : List Int32} (K : kI s k) (h1 : k + 1 ≠ r) (h3 : k + 3 ≠ r) (h5 : k + 5 ≠ r) : kI (mM s r l) k := fun w => by
  show va_up s.1 r l _ = ky_k (va_up s.1 r l _) ∧ va_up s.1 r l _ = ky_n (va_up s.1 r l _)
  rw [vu_off h1, vu_off h3, vu_off h5]; exact K w
theorem kI.i {k a j : Nat} {v : Int32} (K : kI s k) (hk : k ≠ a) : kI (mI s a j v) k := fun w => K (by
  have w' : va_up s.2.1 a (upd (s.2.1 a) j v) k 4 ≠ 0 := w
  rw [vu_off hk] at w'; exact w')
theorem sd_I4 {I : Nat → Nat → Int32} {k : Nat} : sd_I I b k 4 = I k 4 := by
  unfold sd_I
  by_cases c : I (b + 69) 4 = 0
  · rw [if_pos c]
  · rw [if_neg c]
    by_cases e : k = b + 69
    · subst e; rw [vu_at, upd_off (by decide)]
    · rw [vu_off e]
theorem kI.z {k : Nat} {x : Int32} {l : List Int32} (K : kI s k) : kI (mSend s b x l) k := fun w => K (by
  have w' : sd_I s.2.1 b k 4 ≠ 0 := w
  rw [sd_I4] at w'; exact w')
theorem kI.y {k : Nat} {x : Int32} {l : List Int32} (K : kI s k) : kI (mTry s b x l) k := by
  unfold mTry
  by_cases c : mCan s b = true
  · rw [if_pos c]; exact K.z
  · rw [if_neg c]; exact K
theorem kI.l {k j : Nat} {x : List Int32} (K : kI s k) (h : k + 6 < j ∨ j + 6 < k) : kI (mLoad s j x) k := fun w => by
  have w' : va_up s.2.1 j (upd (upd (s.2.1 j) 3 0) 4 1) k 4 ≠ 0 := w
  rw [vu_off (by omega)] at w'
  rw [mLoad_off (r := k + 1) (by omega) (by omega) (by omega), mLoad_off (r := k + 3) (by omega) (by omega) (by omega), mLoad_off (r := k + 5) (by omega) (by omega) (by omega)]
  exact K w'
theorem co_fail {x : Int32} (hb : sk_b b) (O : cO L h M I s) (ky : kI s (b + 69)) (K : ∀ h' M' I', cO L h' M' I' (mFail s b x) → tr (f h') Q) : tr (mm_qv (bd_X0_fail b x h) f) Q := by
  have ob : sk_ob b = true := (by rcases hb with rfl | rfl | rfl | rfl <;> decide +kernel)
  have pb : sk_pp b = false := (by rcases hb with rfl | rfl | rfl | rfl <;> decide +kernel)
  have f6 : sk_ref b 6 = some 35 := (by rcases hb with rfl | rfl | rfl | rfl <;> decide +kernel)
  have g5 : sk_ref 35 5 = some 69 := (by decide +kernel)
  refine tr_v (p := fun h' => ∃ M' I', cO L h' M' I' (mFail s b x)) ?_ (fun h' q => by obtain ⟨M', I', q⟩ := q; exact K h' M' I' q)
  unfold bd_X0_fail
  refine co_si O ob pb (fun h1 I1 O1 => ?_)
  simp only [mm_gr, O1.1.f f6, O1.1.f g5, Option.bind_some]
  refine ce_putAL O1.1 (by decide +kernel) (by decide +kernel) (fun h2 E2 => ?_)
  have O2 := O1.t E2 (by decide +kernel)
  simp only [O2.1.f f6, O2.1.f g5, Option.bind_some]
  refine co_try hb O2 (by decide +kernel) (by rw [vu_at, ms_al_ln]; decide) (ky.i (by omega)) (fun v h3 I3 O3 => ?_)
  rw [vu_at] at O3
  refine co_si O3 ob pb (fun h4 I4 O4 => tr_mk ⟨rfl, _, _, O4⟩)
end MAT
