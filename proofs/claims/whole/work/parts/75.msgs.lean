/-! ===== Messages ===== -/
def ms_h (k n : Int32) : List Int32 := [k &&& 255] ++ rr_num n 3
def ms_ch (rnd name : List Int32) : List Int32 := ms_h 1 (nI (103 + name.length)) ++ [3] ++ [3] ++ rnd ++ sk_tb 7 ++ rr_num (nI (60 + name.length)) 2 ++ sk_tb 8 ++ rr_num (nI (43 + name.length)) 2 ++ rr_num (nI (6 + name.length)) 2 ++ rr_num (nI name.length) 2 ++ name ++ rr_num 0 4
def ms_sh (rnd : List Int32) : List Int32 := ms_h 2 52 ++ [3] ++ [3] ++ rnd ++ sk_tb 9
def ms_ex : List Int32 := ms_h 8 2 ++ rr_num 0 2
def ms_fi (p : List Int32) : List Int32 := ms_h 20 32 ++ p
def ms_up (a : Int32) : List Int32 := ms_h 24 1 ++ [a &&& 255]
def ms_al (a b : Int32) : List Int32 := [a &&& 255] ++ [b &&& 255]
theorem ms_h_ln (k n : Int32) : (ms_h k n).length = 4 := by simp [ms_h, rr_num_len]
theorem tb7 : (sk_tb 7).length = 7 := by decide +kernel
theorem tb8 : (sk_tb 8).length = 15 := by decide +kernel
theorem tb9 : (sk_tb 9).length = 18 := by decide +kernel
theorem tb6 : (sk_tb 6).length = 3 := by decide +kernel
theorem ms_ch_ln (rnd name : List Int32) : (ms_ch rnd name).length = 40 + rnd.length + name.length := by
  simp only [ms_ch, List.length_append, ms_h_ln, rr_num_len, tb7, tb8, List.length_singleton]; omega
theorem ms_sh_ln (rnd : List Int32) : (ms_sh rnd).length = 24 + rnd.length := by
  simp only [ms_sh, List.length_append, ms_h_ln, tb9, List.length_singleton]; omega
theorem ms_ex_ln : ms_ex.length = 6 := by simp only [ms_ex, List.length_append, ms_h_ln, rr_num_len]
theorem ms_fi_ln (p : List Int32) : (ms_fi p).length = 4 + p.length := by simp only [ms_fi, List.length_append, ms_h_ln]
theorem ms_up_ln (a : Int32) : (ms_up a).length = 5 := by simp only [ms_up, List.length_append, ms_h_ln, List.length_singleton]
theorem ms_al_ln (a b : Int32) : (ms_al a b).length = 2 := rfl
theorem tr_v {o : mm_O} {f : mm_H → mm_O} {Q : Option Value → mm_H → Prop} {p : mm_H → Prop} (t : tr o (fun v h' => v = none ∧ p h')) (K : ∀ h', p h' → tr (f h') Q) : tr (mm_qv o f) Q := tr_qv t (fun v h' q => ⟨q.1, K h' q.2⟩)
section MSG
variable {L : Nat} {h : mm_H} {M : Nat → List Int32} {I : Nat → Nat → Int32} {Z : Nat → List (List Int32)}
variable {r o : Nat} {l : List Int32} {f : mm_H → mm_O} {g : Int32 → mm_H → mm_O} {Q : Option Value → mm_H → Prop}
theorem cr_put (c : Nat) (E : cE L h (va_up M r l) I Z) (hr : sk_nr r = true) (hc : sk_cap r = c) (x : Int32) (hl : l.length < c) (K : ∀ h', cE L h' (va_up M r (l ++ [x &&& 255])) I Z → tr (f h') Q) : tr (mm_qv (bd_X6_put r x h) f) Q := by
  refine ce_put c E hr hc x (by rw [vu_at]; exact hl) (fun h' E' => K h' ?_)
  rw [vu_uu, vu_at] at E'; exact E'
theorem cr_num (c s : Nat) {x : Int32} (v : Int32) (E : cE L h (va_up M r l) I Z) (hr : sk_nr r = true) (hc : sk_cap r = c) (ex : x = nI s) (hs : s < 1000) (hl : l.length + s ≤ c) (K : ∀ h', cE L h' (va_up M r (l ++ rr_num v s)) I Z → tr (f h') Q) : tr (mm_qv (bd_X6_putNumber r v x h) f) Q := by
  refine ce_num c s v E hr hc ex hs (by rw [vu_at]; exact hl) (fun h' E' => K h' ?_)
  rw [vu_uu, vu_at] at E'; exact E'
theorem cr_putAll (c : Nat) {a : Nat} (E : cE L h (va_up M r l) I Z) (hr : sk_nr r = true) (hc : sk_cap r = c) (ha : 0 < a) (h32 : a < 32) (hb : (sk_tb a).all (fun x => x &&& 255 == x) = true) (hn : (sk_tb a).length < 1000) (hl : l.length + (sk_tb a).length ≤ c) (K : ∀ h', cE L h' (va_up M r (l ++ sk_tb a)) I Z → tr (f h') Q) : tr (mm_qv (bd_X6_putAll r a h) f) Q := by
  refine ce_putAll c E hr hc ha h32 hb hn (by rw [vu_at]; exact hl) (fun h' E' => K h' ?_)
  rw [vu_uu, vu_at] at E'; exact E'
theorem cr_app (c : Nat) (E : cE L h (va_up M r l) I Z) (hr : sk_nr r = true) (hc : sk_cap r = c) (ho : sk_nr o = true) (hne : r ≠ o) (hl : l.length + (M o).length ≤ c) (K : ∀ h', cE L h' (va_up M r (l ++ M o)) I Z → tr (f h') Q) : tr (mm_qv (bd_X6_append r o h) f) Q := by
  refine ce_appendL c E hr hc ho hne (by rw [vu_at, vu_off (Ne.symm hne)]; exact hl) (fun h' E' => K h' ?_)
  rw [vu_uu, vu_at, vu_off (Ne.symm hne)] at E'; exact E'
theorem cr_clear (E : cE L h (va_up M r l) I Z) (hr : sk_nr r = true) (K : ∀ h', cE L h' (va_up M r []) I Z → tr (f h') Q) : tr (mm_qv (bd_X6_clear r h) f) Q := by
  refine ce_clear E hr (fun h' E' => K h' ?_)
  rw [vu_uu] at E'; exact E'
theorem ce_head {k n : Int32} (E : cE L h M I Z) (hr : sk_nr r = true) (hc : sk_cap r = 123) (K : ∀ h', cE L h' (va_up M r (ms_h k n)) I Z → tr (f h') Q) : tr (mm_qv (bd_X3_putHead r k n h) f) Q := by
  refine tr_v (p := fun h' => cE L h' (va_up M r (ms_h k n)) I Z) ?_ K
  unfold bd_X3_putHead
  refine ce_clear E hr (fun h1 E1 => ?_)
  refine cr_put 123 E1 hr hc _ (by decide) (fun h2 E2 => ?_)
  refine cr_num 123 3 _ E2 hr hc rfl (by decide) (by simp) (fun h3 E3 => tr_mk ⟨rfl, E3⟩)
theorem ms_3 : (3 : Int32) &&& 255 = 3 := by decide
theorem ce_putCH {a n : Nat} (E : cE L h M I Z) (hr : sk_nr r = true) (hc : sk_cap r = 123) (ha : sk_nr a = true) (hn : sk_nr n = true) (har : r ≠ a) (hnr : r ≠ n) (la : (M a).length ≤ 32) (ln : (M n).length ≤ 16) (K : ∀ h', cE L h' (va_up M r (ms_ch (M a) (M n))) I Z → tr (f h') Q) : tr (mm_qv (bd_X3_putClientHello r a n h) f) Q := by
  refine tr_v (p := fun h' => cE L h' (va_up M r (ms_ch (M a) (M n))) I Z) ?_ K
  unfold bd_X3_putClientHello
  rw [mm_bi, E.n hn, show (103 : Int32) + nI (M n).length = nI (103 + (M n).length) from nI_add 103 _, show (60 : Int32) + nI (M n).length = nI (60 + (M n).length) from nI_add 60 _, show (43 : Int32) + nI (M n).length = nI (43 + (M n).length) from nI_add 43 _, show (6 : Int32) + nI (M n).length = nI (6 + (M n).length) from nI_add 6 _]
  refine ce_head E hr hc (fun h1 E1 => ?_)
  refine cr_put 123 E1 hr hc _ (by rw [ms_h_ln]; decide) (fun h2 E2 => ?_)
  refine cr_put 123 E2 hr hc _ (by simp [ms_h_ln]) (fun h3 E3 => ?_)
  refine cr_app 123 E3 hr hc ha har (by simp [ms_h_ln]; omega) (fun h4 E4 => ?_)
  refine cr_putAll 123 E4 hr hc (by decide) (by decide) (by decide +kernel) (by rw [tb7]; decide) (by simp [ms_h_ln, tb7]; omega) (fun h5 E5 => ?_)
  refine cr_num 123 2 _ E5 hr hc rfl (by decide) (by simp [ms_h_ln, tb7]; omega) (fun h6 E6 => ?_)
  refine cr_putAll 123 E6 hr hc (by decide) (by decide) (by decide +kernel) (by rw [tb8]; decide) (by simp [ms_h_ln, tb7, tb8, rr_num_len]; omega) (fun h7 E7 => ?_)
  refine cr_num 123 2 _ E7 hr hc rfl (by decide) (by simp [ms_h_ln, tb7, tb8, rr_num_len]; omega) (fun h8 E8 => ?_)
  refine cr_num 123 2 _ E8 hr hc rfl (by decide) (by simp [ms_h_ln, tb7, tb8, rr_num_len]; omega) (fun h9 E9 => ?_)
  refine cr_num 123 2 _ E9 hr hc rfl (by decide) (by simp [ms_h_ln, tb7, tb8, rr_num_len]; omega) (fun h10 E10 => ?_)
  refine cr_app 123 E10 hr hc hn hnr (by simp [ms_h_ln, tb7, tb8, rr_num_len]; omega) (fun h11 E11 => ?_)
  refine cr_num 123 4 _ E11 hr hc rfl (by decide) (by simp [ms_h_ln, tb7, tb8, rr_num_len]; omega) (fun h12 E12 => tr_mk ⟨rfl, ?_⟩)
  rw [ms_3] at E12
  exact E12
theorem ce_putSH {a : Nat} (E : cE L h M I Z) (hr : sk_nr r = true) (hc : sk_cap r = 123) (ha : sk_nr a = true) (har : r ≠ a) (la : (M a).length ≤ 32) (K : ∀ h', cE L h' (va_up M r (ms_sh (M a))) I Z → tr (f h') Q) : tr (mm_qv (bd_X3_putServerHello r a h) f) Q := by
  refine tr_v (p := fun h' => cE L h' (va_up M r (ms_sh (M a))) I Z) ?_ K
  unfold bd_X3_putServerHello
  refine ce_head E hr hc (fun h1 E1 => ?_)
  refine cr_put 123 E1 hr hc _ (by rw [ms_h_ln]; decide) (fun h2 E2 => ?_)
  refine cr_put 123 E2 hr hc _ (by simp [ms_h_ln]) (fun h3 E3 => ?_)
  refine cr_app 123 E3 hr hc ha har (by simp [ms_h_ln]; omega) (fun h4 E4 => ?_)
  refine cr_putAll 123 E4 hr hc (by decide) (by decide) (by decide +kernel) (by rw [tb9]; decide) (by simp [ms_h_ln, tb9]; omega) (fun h5 E5 => tr_mk ⟨rfl, ?_⟩)
  rw [ms_3] at E5
  exact E5
theorem ce_putEX (E : cE L h M I Z) (hr : sk_nr r = true) (hc : sk_cap r = 123) (K : ∀ h', cE L h' (va_up M r ms_ex) I Z → tr (f h') Q) : tr (mm_qv (bd_X3_putExtensions r h) f) Q := by
  refine tr_v (p := fun h' => cE L h' (va_up M r ms_ex) I Z) ?_ K
  unfold bd_X3_putExtensions
  refine ce_head E hr hc (fun h1 E1 => ?_)
  exact cr_num 123 2 _ E1 hr hc rfl (by decide) (by simp [ms_h_ln]) (fun h3 E3 => tr_mk ⟨rfl, E3⟩)
theorem ce_putFI {a : Nat} (E : cE L h M I Z) (hr : sk_nr r = true) (hc : sk_cap r = 123) (ha : sk_nr a = true) (har : r ≠ a) (la : (M a).length ≤ 32) (K : ∀ h', cE L h' (va_up M r (ms_fi (M a))) I Z → tr (f h') Q) : tr (mm_qv (bd_X3_putFinished r a h) f) Q := by
  refine tr_v (p := fun h' => cE L h' (va_up M r (ms_fi (M a))) I Z) ?_ K
  unfold bd_X3_putFinished
  refine ce_head E hr hc (fun h1 E1 => ?_)
  exact cr_app 123 E1 hr hc ha har (by simp [ms_h_ln]; omega) (fun h3 E3 => tr_mk ⟨rfl, E3⟩)
theorem ce_putUP {x : Int32} (E : cE L h M I Z) (hr : sk_nr r = true) (hc : sk_cap r = 123) (K : ∀ h', cE L h' (va_up M r (ms_up x)) I Z → tr (f h') Q) : tr (mm_qv (bd_X3_putUpdate r x h) f) Q := by
  refine tr_v (p := fun h' => cE L h' (va_up M r (ms_up x)) I Z) ?_ K
  unfold bd_X3_putUpdate
  refine ce_head E hr hc (fun h1 E1 => ?_)
  exact cr_put 123 E1 hr hc _ (by simp [ms_h_ln]) (fun h3 E3 => tr_mk ⟨rfl, E3⟩)
theorem ce_putAL {x y : Int32} (E : cE L h M I Z) (hr : sk_nr r = true) (hc : sk_cap r = 123) (K : ∀ h', cE L h' (va_up M r (ms_al x y)) I Z → tr (f h') Q) : tr (mm_qv (bd_X3_putAlert r x y h) f) Q := by
  refine tr_v (p := fun h' => cE L h' (va_up M r (ms_al x y)) I Z) ?_ K
  unfold bd_X3_putAlert
  refine ce_clear E hr (fun h1 E1 => ?_)
  refine cr_put 123 E1 hr hc _ (by decide) (fun h2 E2 => ?_)
  exact cr_put 123 E2 hr hc _ (by simp) (fun h3 E3 => tr_mk ⟨rfl, E3⟩)
end MSG
