/-! ===== END: takeFinished, answerHello ===== -/
section EDD
variable {L : Nat} {h h' : mm_H} {M : Nat → List Int32} {I : Nat → Nat → Int32} {s : sT}
variable {r o b : Nat} {f : mm_H → mm_O} {g : Int32 → mm_H → mm_O} {Q : Option Value → mm_H → Prop}
theorem co_done (hb : sk_b b) (O : cO L h M I s) (h40 : s.1 40 = []) (ky : kI s (b + 69)) (hl : s.2.1 b 4 = 0 → (s.1 (b + 100)).length + (M 67).length ≤ 278) (K : ∀ h' M' I', cO L h' M' I' (mDone s b (M 67)) → tr (f h') Q) : tr (mm_qv (bd_X0_takeFinished b h) f) Q := by
  have b1 : 82 ≤ b := by unfold sk_b at hb; omega
  have f6 : sk_ref b 6 = some 35 := (by rcases hb with rfl | rfl | rfl | rfl <;> decide +kernel)
  have f2 : sk_ref b 2 = some (b + 69) := (by rcases hb with rfl | rfl | rfl | rfl <;> decide +kernel)
  have f3 : sk_ref b 3 = some (b + 76) := (by rcases hb with rfl | rfl | rfl | rfl <;> decide +kernel)
  have f7 : sk_ref b 7 = some (b + 83) := (by rcases hb with rfl | rfl | rfl | rfl <;> decide +kernel)
  have f11 : sk_ref b 11 = some (b + 100) := (by rcases hb with rfl | rfl | rfl | rfl <;> decide +kernel)
  have w0 : sk_ref (b + 69) 0 = some (b + 70) := (by rcases hb with rfl | rfl | rfl | rfl <;> decide +kernel)
  have g0 : sk_ref 35 0 = some 36 := (by decide +kernel)
  have g1 : sk_ref 35 1 = some 39 := (by decide +kernel)
  have g4 : sk_ref 35 4 = some 67 := (by decide +kernel)
  have g5 : sk_ref 35 5 = some 69 := (by decide +kernel)
  have g7 : sk_ref 35 7 = some 73 := (by decide +kernel)
  have g8 : sk_ref 35 8 = some 75 := (by decide +kernel)
  have s2 : sk_ref (b + 83) 2 = some (b + 88) := (by rcases hb with rfl | rfl | rfl | rfl <;> decide +kernel)
  have r100 : ob_r (b + 100) = true := (by rcases hb with rfl | rfl | rfl | rfl <;> decide +kernel)
  have ob : sk_ob b = true := (by rcases hb with rfl | rfl | rfl | rfl <;> decide +kernel)
  have pb : sk_pp b = false := (by rcases hb with rfl | rfl | rfl | rfl <;> decide +kernel)
  refine tr_v (p := fun h' => ∃ M' I', cO L h' M' I' (mDone s b (M 67))) ?_ (fun h' q => by obtain ⟨M', I', q⟩ := q; exact K h' M' I' q)
  unfold bd_X0_takeFinished mDone
  rw [O.i ob (by rcases hb with rfl | rfl | rfl | rfl <;> decide +kernel)]
  by_cases c0 : s.2.1 b 4 = 0
  · rw [if_pos c0, if_pos c0]
    have hl := hl c0
    simp only [mm_gr, O.1.f f11, O.1.f f6, O.1.f g4, Option.bind_some]
    refine co_append 278 O r100 (by rcases hb with rfl | rfl | rfl | rfl <;> decide +kernel) (by decide +kernel) (by omega) (fun h1 O1 => ?_)
    rw [List.take_of_length_le (by rw [O.r r100, List.length_append]; exact hl), List.take_of_length_le (by rw [List.length_append]; exact hl)] at O1
    have z40 : (mM s (b + 100) (s.1 (b + 100) ++ M 67)).1 40 = [] := by rw [mM_off (by omega)]; exact h40
    generalize hs1 : mM s (b + 100) (s.1 (b + 100) ++ M 67) = s1 at O1 z40 ⊢
    have ky1 : kI s1 (b + 69) := by rw [← hs1]; exact ky.m (by omega) (by omega) (by omega)
    have cn : mCan s1 b = mCan s b := by rw [← hs1]; rfl
    simp only [O1.1.f f7, O1.1.f f2, O1.1.f w0, O1.1.f f11, O1.1.f f6, O1.1.f g8, Option.bind_some]
    refine ce_prove hb O1.1 (s := b + 70) (m := b + 100) (by rcases hb with rfl | rfl | rfl | rfl <;> decide +kernel) (by rcases hb with rfl | rfl | rfl | rfl <;> decide +kernel) (by decide +kernel) (by decide +kernel) (by rw [O1.r (by decide +kernel)]; exact z40) (fun h2 E2 => ?_)
    rw [O1.r (r := b + 70) (by rcases hb with rfl | rfl | rfl | rfl <;> decide +kernel), O1.r (r := b + 100) (by rcases hb with rfl | rfl | rfl | rfl <;> decide +kernel)] at E2
    have O2 := O1.t E2 (by decide +kernel)
    simp only [O2.1.f f6, O2.1.f g5, O2.1.f g8, Option.bind_some]
    refine ce_putFI O2.1 (by decide +kernel) (by decide +kernel) (by decide +kernel) (by decide) (by rw [vu_at, ks_p_ln]; decide) (fun h3 E3 => ?_)
    rw [vu_at] at E3
    have O3 := O2.t E3 (by decide +kernel)
    simp only [O3.1.f f6, O3.1.f g5, Option.bind_some]
    refine co_send hb O3 (by decide +kernel) (by rw [vu_at, ms_fi_ln, ks_p_ln]; decide) ky1 (fun h4 w O4 => ?_) (fun h4 I4 w O4 => ?_)
    · rw [cn] at w
      refine tr_ip rfl (co_si O4 ob pb (fun h5 I5 O5 => tr_mk ⟨rfl, va_up (va_up (va_up M (b + 100) (M (b + 100) ++ M 67)) 75 (ks_p (s1.1 (b + 70)) (s1.1 (b + 100)))) 69 (ms_fi (ks_p (s1.1 (b + 70)) (s1.1 (b + 100)))), I5, ?_⟩))
      rw [if_neg (by rw [w]; decide)]
      exact O5
    · rw [cn] at w
      refine tr_in (by decide) ?_
      rw [if_pos w]
      rw [vu_at] at O4
      have O4' : cO L h4 _ I4 (mSend s1 b 22 (mFin s1 b)) := O4
      generalize hs2 : mSend s1 b 22 (mFin s1 b) = sq at O4' ⊢
      have y40 : sq.1 40 = [] := by rw [← hs2]; exact z40
      simp only [O4'.1.f f6, O4'.1.f g0, O4'.1.f f11, O4'.1.f g7, Option.bind_some]
      refine co_hear hb O4' (fun h5 O5 => ?_)
      simp only [O5.1.f f3, O5.1.f f6, O5.1.f g1, O5.1.f f7, O5.1.f s2, O5.1.f g7, Option.bind_some]
      refine co_main hb (Or.inr rfl) O5 (by decide) (by decide) y40 vu_at (fun h6 M6 I6 O6 u6 => ?_)
      simp only [O6.1.f f2, O6.1.f f6, O6.1.f g1, O6.1.f f7, O6.1.f s2, O6.1.f g7, Option.bind_some]
      refine co_main hb (Or.inl rfl) O6 (by decide) (by decide) (by rw [mMain_off (by omega) (by omega) (by omega)]; exact y40) (by rw [u6 73 (by omega) (by omega) (by omega), vu_at, mMain_off (by omega) (by omega) (by omega)]) (fun h7 M7 I7 O7 u7 => ?_)
      exact co_si O7 ob pb (fun h8 I8 O8 => tr_mk ⟨rfl, _, _, O8⟩)
  · rw [if_neg c0, if_neg c0]
    simp only [mm_gr, O.1.f f6, O.1.f g0, O.1.f f11, O.1.f g7, Option.bind_some]
    refine co_hear hb O (fun h5 O5 => ?_)
    simp only [O5.1.f f3, O5.1.f f6, O5.1.f g1, O5.1.f f7, O5.1.f s2, O5.1.f g7, Option.bind_some]
    refine co_main hb (Or.inr rfl) O5 (by decide) (by decide) h40 vu_at (fun h6 M6 I6 O6 u6 => ?_)
    exact co_si O6 ob pb (fun h8 I8 O8 => tr_mk ⟨rfl, _, _, O8⟩)
theorem mSay_100 {l : List Int32} : (mSay s b l).1 (b + 100) = s.1 (b + 100) ++ l := by rw [mSay_1, vu_at]
theorem mSay_off {l : List Int32} (hr : r ≠ b + 100) : (mSay s b l).1 r = s.1 r := by rw [mSay_1, vu_off hr]
theorem kI.say {k : Nat} {l : List Int32} (ky : kI s k) (hk : k + 6 < b + 100) : kI (mSay s b l) k := (ky.m (by omega) (by omega) (by omega)).y
theorem co_answer (hb : sk_b b) (O : cO L h M I s) (h40 : s.1 40 = []) (ky : kI s (b + 69)) (hl : (M 67).length ≤ 123) (K : ∀ h' M' I', cO L h' M' I' (mAnswer s b (M 67)) → tr (f h') Q) : tr (mm_qv (bd_X0_answerHello b h) f) Q := by
  have b1 : 82 ≤ b := by unfold sk_b at hb; omega
  have f6 : sk_ref b 6 = some 35 := (by rcases hb with rfl | rfl | rfl | rfl <;> decide +kernel)
  have f2 : sk_ref b 2 = some (b + 69) := (by rcases hb with rfl | rfl | rfl | rfl <;> decide +kernel)
  have f3 : sk_ref b 3 = some (b + 76) := (by rcases hb with rfl | rfl | rfl | rfl <;> decide +kernel)
  have f7 : sk_ref b 7 = some (b + 83) := (by rcases hb with rfl | rfl | rfl | rfl <;> decide +kernel)
  have f10 : sk_ref b 10 = some (b + 98) := (by rcases hb with rfl | rfl | rfl | rfl <;> decide +kernel)
  have f11 : sk_ref b 11 = some (b + 100) := (by rcases hb with rfl | rfl | rfl | rfl <;> decide +kernel)
  have w0 : sk_ref (b + 69) 0 = some (b + 70) := (by rcases hb with rfl | rfl | rfl | rfl <;> decide +kernel)
  have g0 : sk_ref 35 0 = some 36 := (by decide +kernel)
  have g1 : sk_ref 35 1 = some 39 := (by decide +kernel)
  have g4 : sk_ref 35 4 = some 67 := (by decide +kernel)
  have g5 : sk_ref 35 5 = some 69 := (by decide +kernel)
  have g7 : sk_ref 35 7 = some 73 := (by decide +kernel)
  have g8 : sk_ref 35 8 = some 75 := (by decide +kernel)
  have s1 : sk_ref (b + 83) 1 = some (b + 86) := (by rcases hb with rfl | rfl | rfl | rfl <;> decide +kernel)
  have s2 : sk_ref (b + 83) 2 = some (b + 88) := (by rcases hb with rfl | rfl | rfl | rfl <;> decide +kernel)
  have r100 : ob_r (b + 100) = true := (by rcases hb with rfl | rfl | rfl | rfl <;> decide +kernel)
  have r98 : ob_r (b + 98) = true := (by rcases hb with rfl | rfl | rfl | rfl <;> decide +kernel)
  have ob : sk_ob b = true := (by rcases hb with rfl | rfl | rfl | rfl <;> decide +kernel)
  have pb : sk_pp b = false := (by rcases hb with rfl | rfl | rfl | rfl <;> decide +kernel)
  have l98 : (s.1 (b + 98)).length ≤ 32 := by rw [← O.r r98]; exact O.1.le (ob_nr r98) (by rcases hb with rfl | rfl | rfl | rfl <;> decide +kernel)
  refine tr_v (p := fun h' => ∃ M' I', cO L h' M' I' (mAnswer s b (M 67))) ?_ (fun h' q => by obtain ⟨M', I', q⟩ := q; exact K h' M' I' q)
  unfold bd_X0_answerHello mAnswer mAns1
  simp only [mm_gr, O.1.f f11, O.1.f f6, O.1.f g4, O.1.f g5, Option.bind_some]
  refine co_copy 278 O r100 (by rcases hb with rfl | rfl | rfl | rfl <;> decide +kernel) (by decide +kernel) (by omega) (by omega) (fun h1 O1 => ?_)
  simp only [O1.1.f f10, Option.bind_some]
  have m98 : va_up M (b + 100) (M 67) (b + 98) = s.1 (b + 98) := by rw [O1.r r98, mM_off (by omega)]
  refine ce_putSH O1.1 (by decide +kernel) (by decide +kernel) (ob_nr r98) (by omega) (by rw [m98]; exact l98) (fun h2 E2 => ?_)
  rw [m98] at E2
  have O2 := O1.t E2 (by decide +kernel)
  simp only [O2.1.f f11, Option.bind_some]
  have z40 : (mM s (b + 100) (M 67)).1 40 = [] := by rw [mM_off (by omega)]; exact h40
  have t1 : (mM s (b + 100) (M 67)).1 (b + 100) = M 67 := mM_at
  have ky1 : kI (mM s (b + 100) (M 67)) (b + 69) := ky.m (by omega) (by omega) (by omega)
  generalize mM s (b + 100) (M 67) = sa at O2 z40 t1 ky1 ⊢
  refine co_say hb O2 ky1 (by rw [t1, vu_at, ms_sh_ln]; omega) (fun v h3 M3 I3 O3 u3 => ?_)
  rw [vu_at] at O3
  have t2 : ((mSay sa b (ms_sh (s.1 (b + 98)))).1 (b + 100)).length ≤ 179 := by rw [mSay_100, t1, List.length_append, ms_sh_ln]; omega
  have y40 : (mSay sa b (ms_sh (s.1 (b + 98)))).1 40 = [] := by rw [mSay_off (by omega)]; exact z40
  generalize mSay sa b (ms_sh (s.1 (b + 98))) = sb at O3 t2 y40 ⊢
  simp only [O3.1.f f6, O3.1.f g0, O3.1.f f11, O3.1.f g7, Option.bind_some]
  refine co_hear hb O3 (fun h4 O4 => ?_)
  simp only [O4.1.f f3, O4.1.f f6, O4.1.f g1, O4.1.f f7, O4.1.f s1, O4.1.f g7, Option.bind_some]
  refine co_hand hb (Or.inr rfl) O4 (by decide) (by decide) y40 vu_at (fun h5 M5 I5 O5 u5 => ?_)
  simp only [O5.1.f f2, O5.1.f f6, O5.1.f g1, O5.1.f f7, O5.1.f s1, O5.1.f g7, Option.bind_some]
  refine co_hand hb (Or.inl rfl) O5 (by decide) (by decide) (by rw [mHand_off (by omega) (by omega) (by omega)]; exact y40) (by rw [u5 73 (by omega) (by omega) (by omega), vu_at, mHand_off (by omega) (by omega) (by omega)]) (fun h6 M6 I6 O6 u6 => ?_)
  have t3 : ((mHand (mHand sb b (b + 76) 17) b (b + 69) 18).1 (b + 100)).length ≤ 179 := by rw [mHand_off (by omega) (by omega) (by omega), mHand_off (by omega) (by omega) (by omega)]; exact t2
  have x40 : (mHand (mHand sb b (b + 76) 17) b (b + 69) 18).1 40 = [] := by rw [mHand_off (by omega) (by omega) (by omega), mHand_off (by omega) (by omega) (by omega)]; exact y40
  have ky2 : kI (mHand (mHand sb b (b + 76) 17) b (b + 69) 18) (b + 69) := kI.load
  generalize mHand (mHand sb b (b + 76) 17) b (b + 69) 18 = sc at O6 t3 x40 ky2 ⊢
  refine ce_putEX O6.1 (by decide +kernel) (by decide +kernel) (fun h7 E7 => ?_)
  have O7 := O6.t E7 (by decide +kernel)
  simp only [O7.1.f f11, Option.bind_some]
  refine co_say hb O7 ky2 (by rw [vu_at, ms_ex_ln]; omega) (fun v2 h8 M8 I8 O8 u8 => ?_)
  rw [vu_at] at O8
  have O8' : cO L h8 M8 I8 (mAns2 sc b) := O8
  have t4 : ((mAns2 sc b).1 (b + 100)).length ≤ 185 := by rw [mAns2, mSay_100, List.length_append, ms_ex_ln]; omega
  have q40 : (mAns2 sc b).1 40 = [] := by rw [mAns2, mSay_off (by omega)]; exact x40
  have ky3 : kI (mAns2 sc b) (b + 69) := ky2.say (by omega)
  generalize mAns2 sc b = sd at O8' t4 q40 ky3 ⊢
  simp only [O8'.1.f f7, O8'.1.f f2, O8'.1.f w0, O8'.1.f f11, O8'.1.f f6, O8'.1.f g8, Option.bind_some]
  refine ce_prove hb O8'.1 (s := b + 70) (m := b + 100) (by rcases hb with rfl | rfl | rfl | rfl <;> decide +kernel) (by rcases hb with rfl | rfl | rfl | rfl <;> decide +kernel) (by decide +kernel) (by decide +kernel) (by rw [O8'.r (by decide +kernel)]; exact q40) (fun h9 E9 => ?_)
  rw [O8'.r (r := b + 70) (by rcases hb with rfl | rfl | rfl | rfl <;> decide +kernel), O8'.r (r := b + 100) (by rcases hb with rfl | rfl | rfl | rfl <;> decide +kernel)] at E9
  have O9 := O8'.t E9 (by decide +kernel)
  simp only [O9.1.f f6, O9.1.f g8, Option.bind_some]
  refine ce_putFI O9.1 (by decide +kernel) (by decide +kernel) (by decide +kernel) (by decide) (by rw [vu_at, ks_p_ln]; decide) (fun ha Ea => ?_)
  rw [vu_at] at Ea
  have Oa := O9.t Ea (by decide +kernel)
  simp only [Oa.1.f f11, Option.bind_some]
  refine co_say hb Oa ky3 (by rw [vu_at, ms_fi_ln, ks_p_ln]; omega) (fun v3 hb' Mb Ib Ob ub => ?_)
  rw [vu_at] at Ob
  have Ob' : cO L hb' Mb Ib (mAns3 sd b) := Ob
  have p40 : (mAns3 sd b).1 40 = [] := by rw [mAns3, mSay_off (by omega)]; exact q40
  generalize mAns3 sd b = se at Ob' p40 ⊢
  simp only [Ob'.1.f f6, Ob'.1.f g0, Ob'.1.f f11, Ob'.1.f g7, Option.bind_some]
  refine co_hear hb Ob' (fun hc Oc => ?_)
  simp only [Oc.1.f f2, Oc.1.f f6, Oc.1.f g1, Oc.1.f f7, Oc.1.f s2, Oc.1.f g7, Option.bind_some]
  refine co_main hb (Or.inl rfl) Oc (by decide) (by decide) p40 vu_at (fun hd Md Id Od ud => ?_)
  exact co_si Od ob pb (fun he Ie Oe => tr_mk ⟨rfl, _, _, Oe⟩)
end EDD
