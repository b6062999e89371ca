/-! ===== END: learn, begin, speak, renew, shut, report ===== -/
def mReady (s : sT) (b : Nat) : Prop := s.2.1 b 5 = 0 ∧ s.1 (b + 94) ≠ [] ∧ s.1 (b + 96) ≠ [] ∧ s.1 (b + 98) ≠ []
def mPrep (s : sT) (b : Nat) : sT := mM (mM (mM s (b + 84) (ks_b (s.1 (b + 94)))) (b + 86) (ks_h (s.1 (b + 94)))) (b + 88) (ks_m (s.1 (b + 94)))
/-- a CLIENTHELLO with its BINDER -/
def ms_cb (psk rnd name : List Int32) : List Int32 := ms_ch rnd name ++ sk_tb 6 ++ ks_p (ks_b psk) (ms_ch rnd name)
def mBegin (s : sT) (b : Nat) : sT := if s.2.1 b 4 = 0 then mI (mTry (mM (mPrep s b) (b + 100) (ms_cb (s.1 (b + 94)) (s.1 (b + 98)) (s.1 (b + 96)))) b 22 (ms_cb (s.1 (b + 94)) (s.1 (b + 98)) (s.1 (b + 96)))) b 5 1 else mI (mPrep s b) b 5 4
def mRenew (s : sT) (b : Nat) (x : Int32) : sT := mLoad (mSend s b 22 (ms_up x)) (b + 69) (hk_e (s.1 (b + 70)) (tx_l 14) [] 32)
def mShut (s : sT) (b : Nat) : sT := mI (mSend s b 21 (ms_al 1 0)) b 16 1
theorem nI_z {l : List Int32} (h : l.length < 2 ^ 31) : nI l.length = 0 ↔ l = [] := by
  constructor
  · intro e
    by_cases c : l = []
    · exact c
    · exact absurd e (nI_ne0 (List.length_pos_iff.mpr c) h)
  · rintro rfl; rfl
theorem ks_p_ln (a b : List Int32) : (ks_p a b).length = 32 := hm_m_len _ _
theorem ms_cb_ln (psk rnd name : List Int32) : (ms_cb psk rnd name).length = 75 + rnd.length + name.length := by
  simp only [ms_cb, List.length_append, ms_ch_ln, tb6, ks_p_ln]; omega
section EDB
variable {L : Nat} {h h' : mm_H} {M : Nat → List Int32} {I : Nat → Nat → Int32} {s : sT}
variable {r o b : Nat} {f : mm_H → mm_O} {g : Int32 → mm_H → mm_O} {Q : Option Value → mm_H → Prop}
theorem cO.ge (O : cO L h M I s) : cE L h M I s.2.2 := O.1
/-- the state alone: rows that the state has, by the state's name -/
theorem co_copy (c : Nat) (O : cO L h M I s) (hr : ob_r r = true) (hc : sk_cap r = c) (ho : sk_nr o = true) (hne : r ≠ o) (hl : (M o).length ≤ c) (K : ∀ h', cO L h' (va_up M r (M o)) I (mM s r (M o)) → tr (f h') Q) : tr (mm_qv (bd_X6_copy r o h) f) Q := ce_copy c O.1 (ob_nr hr) hc ho hne hl (fun h' E' => K h' (O.m E'))
theorem co_append (c : Nat) (O : cO L h M I s) (hr : ob_r r = true) (hc : sk_cap r = c) (ho : sk_nr o = true) (hne : r ≠ o) (K : ∀ h', cO L h' (va_up M r ((M r ++ M o).take c)) I (mM s r ((s.1 r ++ M o).take c)) → tr (f h') Q) : tr (mm_qv (bd_X6_append r o h) f) Q := ce_append c O.1 (ob_nr hr) hc ho hne (fun h' E' => K h' (by have := O.m E'; rw [O.r hr] at this ⊢; exact this))
theorem co_keep {n c : Nat} {x : Int32} (O : cO L h M I s) (hr : ob_r r = true) (hrc : sk_cap r = c) (hr0 : sk_ref r 0 = some (r + 1)) (hne : r ≠ 33) (hx : x = nI n) (hn : n < 1000) (hc : c < 1000) (K0 : ((s.1 33).length < n ∨ c < (s.1 33).length) → tr (g 0 h) Q) (K1 : ∀ h' M', n ≤ (s.1 33).length → (s.1 33).length ≤ c → cO L h' M' I (mM s r (s.1 33)) → tr (g 1 h') Q) : tr (mm_qi (bd_X0_keep r 33 x h) g) Q := by
  have o33 : ob_r 33 = true := (by decide +kernel)
  have e33 := O.r o33
  have l33 : (s.1 33).length ≤ 600 := by rw [← e33]; exact O.1.le (ob_nr o33) (by decide +kernel)
  refine tr_qi (R := fun v h' => (v = some (.int 0) ∧ h' = h ∧ ((s.1 33).length < n ∨ c < (s.1 33).length)) ∨ (v = some (.int 1) ∧ n ≤ (s.1 33).length ∧ (s.1 33).length ≤ c ∧ ∃ M', cO L h' M' I (mM s r (s.1 33)))) ?_ (fun v h' q => by
    rcases q with ⟨e, rfl, q2⟩ | ⟨e, q1, q2, M', q3⟩
    · exact ⟨0, e, K0 q2⟩
    · exact ⟨1, e, K1 h' M' q1 q2 q3⟩)
  unfold bd_X0_keep
  rw [O.1.n (ob_nr o33), e33, hx]
  by_cases c1 : (s.1 33).length < n
  · rw [if_pos (by rw [nI_ltI (by omega) (by omega)]; exact c1)]
    exact tr_mk (Or.inl ⟨rfl, rfl, Or.inl c1⟩)
  · rw [if_neg (by rw [nI_ltI (by omega) (by omega)]; exact c1)]
    have lr : mm_ln h (r + 1) = c := O.1.ln (by omega) hrc
    refine tr_gr (O.1.f hr0) ?_
    rw [lr]
    by_cases c2 : (s.1 33).length ≤ c
    · rw [if_pos (by rw [nI_leI (by omega) (by omega)]; exact c2)]
      refine co_copy c O hr hrc (ob_nr o33) hne (by rw [e33]; exact c2) (fun h' O' => tr_mk (Or.inr ⟨rfl, by omega, c2, va_up M r (M 33), ?_⟩))
      rw [e33] at O' ⊢
      exact O'
    · rw [if_neg (by rw [nI_leI (by omega) (by omega)]; exact c2)]
      exact tr_mk (Or.inl ⟨rfl, rfl, Or.inr (by omega)⟩)
/-- what END b learns by `tell what`; none where it refuses -/
def mLearn (s : sT) (b : Nat) (x : Int32) : Option sT :=
  if s.2.1 b 5 = 0 then
    if x = 0 then (if 1 ≤ (s.1 33).length ∧ (s.1 33).length ≤ 64 then some (mM s (b + 94) (s.1 33)) else none)
    else if x = 1 then (if 1 ≤ (s.1 33).length ∧ (s.1 33).length ≤ 16 then some (mM s (b + 96) (s.1 33)) else none)
    else if x = 2 then (if 32 ≤ (s.1 33).length ∧ (s.1 33).length ≤ 32 then some (mM s (b + 98) (s.1 33)) else none)
    else none
  else none
theorem co_learn {x : Int32} (hb : sk_b b) (O : cO L h M I s) (K0 : mLearn s b x = none → tr (g 0 h) Q) (K1 : ∀ h' M' t, mLearn s b x = some t → cO L h' M' I t → tr (g 1 h') Q) : tr (mm_qi (bd_X0_learn b x 33 h) g) Q := by
  refine tr_qi (R := fun v h' => (v = some (.int 0) ∧ h' = h ∧ mLearn s b x = none) ∨ (v = some (.int 1) ∧ ∃ M' t, mLearn s b x = some t ∧ cO L h' M' I t)) ?_ (fun v h' q => by
    rcases q with ⟨e, rfl, q2⟩ | ⟨e, M', t, q2, q3⟩
    · exact ⟨0, e, K0 q2⟩
    · exact ⟨1, e, K1 h' M' t q2 q3⟩)
  have o5 : ob_i b 5 = true := (by rcases hb with rfl | rfl | rfl | rfl <;> decide +kernel)
  unfold bd_X0_learn mLearn
  rw [O.i (by rcases hb with rfl | rfl | rfl | rfl <;> decide +kernel) o5]
  by_cases c0 : s.2.1 b 5 = 0
  · rw [if_pos c0, if_pos c0]
    by_cases c1 : x = 0
    · rw [if_pos c1, if_pos c1]
      refine tr_gr (b := b + 94) (O.1.f (by rcases hb with rfl | rfl | rfl | rfl <;> decide +kernel)) ?_
      refine co_keep (n := 1) (c := 64) O (by rcases hb with rfl | rfl | rfl | rfl <;> decide +kernel) (by rcases hb with rfl | rfl | rfl | rfl <;> decide +kernel) (by rcases hb with rfl | rfl | rfl | rfl <;> decide +kernel) (by unfold sk_b at hb; omega) rfl (by decide) (by decide) (fun w => ?_) (fun h' M' w1 w2 O' => ?_)
      · exact tr_ip (Or.inl rfl) (tr_mk (Or.inl ⟨rfl, rfl, if_neg (by omega)⟩))
      · exact tr_ip (Or.inr rfl) (tr_mk (Or.inr ⟨rfl, _, _, if_pos ⟨w1, w2⟩, O'⟩))
    · rw [if_neg c1, if_neg c1]
      by_cases c2 : x = 1
      · rw [if_pos c2, if_pos c2]
        refine tr_gr (b := b + 96) (O.1.f (by rcases hb with rfl | rfl | rfl | rfl <;> decide +kernel)) ?_
        refine co_keep (n := 1) (c := 16) O (by rcases hb with rfl | rfl | rfl | rfl <;> decide +kernel) (by rcases hb with rfl | rfl | rfl | rfl <;> decide +kernel) (by rcases hb with rfl | rfl | rfl | rfl <;> decide +kernel) (by unfold sk_b at hb; omega) rfl (by decide) (by decide) (fun w => ?_) (fun h' M' w1 w2 O' => ?_)
        · exact tr_ip (Or.inl rfl) (tr_mk (Or.inl ⟨rfl, rfl, if_neg (by omega)⟩))
        · exact tr_ip (Or.inr rfl) (tr_mk (Or.inr ⟨rfl, _, _, if_pos ⟨w1, w2⟩, O'⟩))
      · rw [if_neg c2, if_neg c2]
        by_cases c3 : x = 2
        · rw [if_pos c3, if_pos c3]
          refine tr_gr (b := b + 98) (O.1.f (by rcases hb with rfl | rfl | rfl | rfl <;> decide +kernel)) ?_
          refine co_keep (n := 32) (c := 32) O (by rcases hb with rfl | rfl | rfl | rfl <;> decide +kernel) (by rcases hb with rfl | rfl | rfl | rfl <;> decide +kernel) (by rcases hb with rfl | rfl | rfl | rfl <;> decide +kernel) (by unfold sk_b at hb; omega) rfl (by decide) (by decide) (fun w => ?_) (fun h' M' w1 w2 O' => ?_)
          · exact tr_ip (Or.inl rfl) (tr_mk (Or.inl ⟨rfl, rfl, if_neg (by omega)⟩))
          · exact tr_ip (Or.inr rfl) (tr_mk (Or.inr ⟨rfl, _, _, if_pos ⟨w1, w2⟩, O'⟩))
        · rw [if_neg c3, if_neg c3]
          exact tr_mk (Or.inl ⟨rfl, rfl, rfl⟩)
  · rw [if_neg c0, if_neg c0]
    exact tr_mk (Or.inl ⟨rfl, rfl, rfl⟩)
theorem co_begin (hb : sk_b b) (O : cO L h M I s) (h40 : s.1 40 = []) (h42 : s.1 42 = ks_z) (ky : kI s (b + 69)) (K0 : ¬ mReady s b → tr (g 0 h) Q) (K1 : ∀ h' M' I', mReady s b → cO L h' M' I' (mBegin s b) → tr (g 1 h') Q) : tr (mm_qi (bd_X0_begin b h) g) Q := by
  refine tr_qi (R := fun v h' => (v = some (.int 0) ∧ h' = h ∧ ¬ mReady s b) ∨ (v = some (.int 1) ∧ mReady s b ∧ ∃ M' I', cO L h' M' I' (mBegin s b))) ?_ (fun v h' q => by
    rcases q with ⟨e, rfl, q2⟩ | ⟨e, q1, M', I', q3⟩
    · exact ⟨0, e, K0 q2⟩
    · exact ⟨1, e, K1 h' M' I' q1 q3⟩)
  have b1 : 82 ≤ b := by unfold sk_b at hb; omega
  have ob : sk_ob b = true := (by rcases hb with rfl | rfl | rfl | rfl <;> decide +kernel)
  have pb : sk_pp b = false := (by rcases hb with rfl | rfl | rfl | rfl <;> decide +kernel)
  have o5 : ob_i b 5 = true := (by rcases hb with rfl | rfl | rfl | rfl <;> decide +kernel)
  have o4 : ob_i b 4 = true := (by rcases hb with rfl | rfl | rfl | rfl <;> decide +kernel)
  have r94 : ob_r (b + 94) = true := (by rcases hb with rfl | rfl | rfl | rfl <;> decide +kernel)
  have r96 : ob_r (b + 96) = true := (by rcases hb with rfl | rfl | rfl | rfl <;> decide +kernel)
  have r98 : ob_r (b + 98) = true := (by rcases hb with rfl | rfl | rfl | rfl <;> decide +kernel)
  have r100 : ob_r (b + 100) = true := (by rcases hb with rfl | rfl | rfl | rfl <;> decide +kernel)
  have f6 : sk_ref b 6 = some 35 := (by rcases hb with rfl | rfl | rfl | rfl <;> decide +kernel)
  have f7 : sk_ref b 7 = some (b + 83) := (by rcases hb with rfl | rfl | rfl | rfl <;> decide +kernel)
  have f8 : sk_ref b 8 = some (b + 94) := (by rcases hb with rfl | rfl | rfl | rfl <;> decide +kernel)
  have f9 : sk_ref b 9 = some (b + 96) := (by rcases hb with rfl | rfl | rfl | rfl <;> decide +kernel)
  have f10 : sk_ref b 10 = some (b + 98) := (by rcases hb with rfl | rfl | rfl | rfl <;> decide +kernel)
  have f11 : sk_ref b 11 = some (b + 100) := (by rcases hb with rfl | rfl | rfl | rfl <;> decide +kernel)
  have s0 : sk_ref (b + 83) 0 = some (b + 84) := (by rcases hb with rfl | rfl | rfl | rfl <;> decide +kernel)
  have g5 : sk_ref 35 5 = some 69 := (by decide +kernel)
  have g8 : sk_ref 35 8 = some 75 := (by decide +kernel)
  have l94 : (s.1 (b + 94)).length ≤ 64 := by rw [← O.r r94]; exact O.1.le (ob_nr r94) (by rcases hb with rfl | rfl | rfl | rfl <;> decide +kernel)
  have l96 : (s.1 (b + 96)).length ≤ 16 := by rw [← O.r r96]; exact O.1.le (ob_nr r96) (by rcases hb with rfl | rfl | rfl | rfl <;> decide +kernel)
  have l98 : (s.1 (b + 98)).length ≤ 32 := by rw [← O.r r98]; exact O.1.le (ob_nr r98) (by rcases hb with rfl | rfl | rfl | rfl <;> decide +kernel)
  unfold bd_X0_begin
  simp only [mm_gr, O.1.f f7, O.1.f f8, O.1.f f9, O.1.f f10, Option.bind_some]
  rw [O.i ob o5, O.1.n (ob_nr r94), O.1.n (ob_nr r96), O.1.n (ob_nr r98), O.r r94, O.r r96, O.r r98]
  by_cases c0 : s.2.1 b 5 = 0
  · rw [if_pos c0]
    by_cases c1 : s.1 (b + 94) = []
    · rw [if_pos ((nI_z (by omega)).mpr c1)]
      exact tr_mk (Or.inl ⟨rfl, rfl, fun z => z.2.1 c1⟩)
    · rw [if_neg (fun z => c1 ((nI_z (by omega)).mp z))]
      by_cases c2 : s.1 (b + 96) = []
      · rw [if_pos ((nI_z (by omega)).mpr c2)]
        exact tr_mk (Or.inl ⟨rfl, rfl, fun z => z.2.2.1 c2⟩)
      · rw [if_neg (fun z => c2 ((nI_z (by omega)).mp z))]
        by_cases c3 : s.1 (b + 98) = []
        · rw [if_pos ((nI_z (by omega)).mpr c3)]
          exact tr_mk (Or.inl ⟨rfl, rfl, fun z => z.2.2.2 c3⟩)
        · rw [if_neg (fun z => c3 ((nI_z (by omega)).mp z))]
          have rdy : mReady s b := ⟨c0, c1, c2, c3⟩
          refine ce_prepare hb O.1 (ob_nr r94) (by rw [O.r (by decide +kernel)]; exact h40) (by rw [O.r (by decide +kernel)]; exact h42) (by rw [O.r r94]; exact l94) (by omega) (fun h1 E1 => ?_)
          rw [O.r r94] at E1
          have O1 : cO L h1 _ I (mPrep s b) := ⟨E1, fun q hq => by
            show va_up (va_up (va_up M _ _) _ _) _ _ q = va_up (va_up (va_up s.1 _ _) _ _) _ _ q
            by_cases e1 : q = b + 88
            · subst e1; rw [vu_at, vu_at]
            · rw [vu_off e1, vu_off e1]
              by_cases e2 : q = b + 86
              · subst e2; rw [vu_at, vu_at]
              · rw [vu_off e2, vu_off e2]
                by_cases e3 : q = b + 84
                · subst e3; rw [vu_at, vu_at]
                · rw [vu_off e3, vu_off e3]; exact O.r hq, O.2.2⟩
          generalize va_up (va_up (va_up M (b + 84) (ks_b (s.1 (b + 94)))) (b + 86) (ks_h (s.1 (b + 94)))) (b + 88) (ks_m (s.1 (b + 94))) = M1 at E1 O1
          have p4 : (mPrep s b).1 (b + 84) = ks_b (s.1 (b + 94)) := by
            show va_up (va_up (va_up s.1 _ _) _ _) _ _ (b + 84) = _
            rw [vu_off (by omega), vu_off (by omega), vu_at]
          have px : ∀ q, q ≠ b + 84 → q ≠ b + 86 → q ≠ b + 88 → (mPrep s b).1 q = s.1 q := fun q h1 h2 h3 => by
            show va_up (va_up (va_up s.1 _ _) _ _) _ _ q = _
            rw [vu_off h3, vu_off h2, vu_off h1]
          rw [show mm_i h1 b 4 = s.2.1 b 4 from O1.i ob o4]
          unfold mBegin
          by_cases c4 : s.2.1 b 4 = 0
          · rw [if_pos c4, if_pos c4]
            simp only [mm_gr, O1.1.f f6, O1.1.f g5, O1.1.f f10, O1.1.f f9, Option.bind_some]
            have m98 : M1 (b + 98) = s.1 (b + 98) := by rw [O1.r r98, px _ (by omega) (by omega) (by omega)]
            have m96 : M1 (b + 96) = s.1 (b + 96) := by rw [O1.r r96, px _ (by omega) (by omega) (by omega)]
            refine ce_putCH O1.1 (by decide +kernel) (by decide +kernel) (ob_nr r98) (ob_nr r96) (by omega) (by omega) (by rw [m98]; exact l98) (by rw [m96]; exact l96) (fun h2 E2 => ?_)
            rw [m98, m96] at E2
            have O2 := O1.t E2 (by decide +kernel)
            simp only [O2.1.f f7, O2.1.f s0, O2.1.f f6, O2.1.f g8, Option.bind_some]
            refine ce_prove hb O2.1 (s := b + 84) (by rcases hb with rfl | rfl | rfl | rfl <;> decide +kernel) (by decide +kernel) (by decide +kernel) (by decide +kernel) (by rw [O2.r (by decide +kernel), px _ (by omega) (by omega) (by omega)]; exact h40) (fun h3 E3 => ?_)
            rw [show va_up M1 69 (ms_ch (s.1 (b + 98)) (s.1 (b + 96))) (b + 84) = ks_b (s.1 (b + 94)) from by rw [O2.r (by rcases hb with rfl | rfl | rfl | rfl <;> decide +kernel), p4], vu_at] at E3
            have O3 := O2.t E3 (by decide +kernel)
            refine ce_putAll 123 O3.1 (by decide +kernel) (by decide +kernel) (by decide) (by decide) (by decide +kernel) (by rw [tb6]; decide) (by rw [vu_off (by decide), vu_at, tb6, ms_ch_ln]; omega) (fun h4 E4 => ?_)
            rw [vu_off (by decide), vu_at] at E4
            have O4 := O3.t E4 (by decide +kernel)
            simp only [O4.1.f f6, O4.1.f g8, Option.bind_some]
            refine ce_appendL 123 O4.1 (by decide +kernel) (by decide +kernel) (by decide +kernel) (by decide) (by rw [vu_at, vu_off (by decide), vu_at, List.length_append, ms_ch_ln, tb6, ks_p_ln]; omega) (fun h5 E5 => ?_)
            rw [vu_at, vu_off (by decide), vu_at] at E5
            have O5 := O4.t E5 (by decide +kernel)
            simp only [O5.1.f f11, Option.bind_some]
            refine co_copy 278 O5 r100 (by rcases hb with rfl | rfl | rfl | rfl <;> decide +kernel) (by decide +kernel) (by omega) (by rw [vu_at]; simp only [List.length_append, ms_ch_ln, tb6, ks_p_ln]; omega) (fun h6 O6 => ?_)
            rw [vu_at] at O6
            refine co_try hb O6 (by decide +kernel) (by rw [vu_off (by omega), vu_at]; simp only [List.length_append, ms_ch_ln, tb6, ks_p_ln]; omega) ?_ (fun v h7 I7 O7 => ?_)
            · exact ((((ky.m (by omega) (by omega) (by omega)).m (by omega) (by omega) (by omega)).m (by omega) (by omega) (by omega)).m (by omega) (by omega) (by omega))
            · rw [vu_off (show 69 ≠ b + 100 by omega), vu_at] at O7
              exact co_si O7 ob pb (fun h8 I8 O8 => tr_mk (Or.inr ⟨rfl, rdy, _, _, O8⟩))
          · rw [if_neg c4, if_neg c4]
            exact co_si O1 ob pb (fun h8 I8 O8 => tr_mk (Or.inr ⟨rfl, rdy, _, _, O8⟩))
  · rw [if_neg c0]
    exact tr_mk (Or.inl ⟨rfl, rfl, fun z => c0 z.1⟩)
end EDB
