/-! ===== the schedule of keys, and the keys of a direction ===== -/
/-- as cR, all rows exact -/
def cX (L : Nat) (h : mm_H) (M : Nat → List Int32) (I : Nat → Nat → Int32) (P : Nat → Nat → Option Nat) : Prop :=
  sk_T L h ∧ (∀ a k, sk_fx a = true → mm_r h a k = sk_ref a k) ∧ rr_M h M ∧ (∀ a, sk_ob a = true → h.2.1 a = I a) ∧ (∀ a, sk_pa a = true → h.2.2.2 a = P a)
/-- where an END lies -/
def sk_b (b : Nat) : Prop := b = 82 ∨ b = 184 ∨ b = 286 ∨ b = 388
section SCH
variable {L : Nat} {h : mm_H} {M : Nat → List Int32} {I : Nat → Nat → Int32} {P : Nat → Nat → Option Nat}
theorem cX.R (C : cX L h M I P) {M' : Nat → List Int32} (e : ∀ r, r ∉ sk_S → M r = M' r) : cR L h M' I P := ⟨C.1, C.2.1, ⟨M, C.2.2.1, e⟩, C.2.2.2.1, C.2.2.2.2⟩
theorem cR.X (C : cR L h M I P) : ∃ M0, cX L h M0 I P ∧ ∀ r, r ∉ sk_S → M0 r = M r := by
  obtain ⟨c1, c2, ⟨M0, c3, c3'⟩, c4, c5⟩ := C
  exact ⟨M0, ⟨c1, c2, c3, c4, c5⟩, c3'⟩
theorem cX.c (C : cX L h M I P) : cR L h M I P := C.R (fun _ _ => rfl)
theorem cX.step (C : cX L h M I P) {h' : mm_H} {M' : Nat → List Int32} (R : rr_M h' M') (X : rr_X sk_X h h') : cX L h' M' I P := by
  obtain ⟨c1, c2, -, c4, c5⟩ := C.c.step R X (fun _ _ => rfl)
  exact ⟨c1, c2, R, c4, c5⟩
theorem cX.f (C : cX L h M I P) {a k b : Nat} (e : sk_ref a k = some b) : mm_r h a k = some b := C.c.f e
theorem cX.kd (C : cX L h M I P) {r : Nat} (hr : sk_kz r = 5) : mm_kd h r = 5 := sk_kd C.1.1 hr
theorem cX.cap (C : cX L h M I P) {r c : Nat} (hc : sk_cap r = c) : mm_ln h (r + 1) = c := sk_ln C.1.1 (by omega) hc
theorem cX.le (C : cX L h M I P) {r c : Nat} (hr : sk_kz r = 5) (hc : sk_cap r = c) : (M r).length ≤ c := by
  rw [← C.cap hc]; exact (C.2.2.1.cap (C.kd hr)).1
theorem cX.n (C : cX L h M I P) {r : Nat} (hr : sk_kz r = 5) : mm_i h r 1 = nI (M r).length := (C.2.2.1 r (C.kd hr)).2.2.2.1
theorem cX.by (C : cX L h M I P) {r : Nat} (hr : sk_kz r = 5) : ∀ x ∈ M r, x &&& 255 = x := (C.2.2.1 r (C.kd hr)).2.2.2.2.2.2.2
variable {r o w : Nat} {f : mm_H → mm_O} {g : Int32 → mm_H → mm_O} {Q : Option Value → mm_H → Prop}
theorem cx_digest (C : cX L h M I P) (hr : sk_kz r = 5) (ho : sk_kz o = 5) (hc : sk_cap o = 32) (K : ∀ h', cX L h' (va_up M o (sh_a (M r))) I P → tr (f h') Q) : tr (mm_qv (bd_X9_digest 36 r o h) f) Q := by
  obtain ⟨h', p, R', X⟩ := sp_X9_digest (X := sk_X) C.2.2.1 (C.kd hr) (C.kd ho) (sk_sha C.1) (sk_1 C.1) (sk_2 C.1) (by decide) (by decide) (by rw [C.cap hc]; omega)
  rw [p, mm_qv_s]; exact K h' (C.step R' X)
theorem cx_mac (C : cX L h M I P) (hr : sk_kz r = 5) (hw : sk_kz w = 5) (ho : sk_kz o = 5) (hc : sk_cap o = 32) (hr4 : r ≠ 44) (hr6 : r ≠ 46) (hw4 : w ≠ 44) (ho4 : o ≠ 44) (hl : (M w).length ≤ 64) (K : ∀ h' M', cX L h' M' I P → M' o = hm_m (M r) (M w) → (∀ s, s ≠ 44 → s ≠ 46 → s ≠ o → M' s = M s) → tr (f h') Q) : tr (mm_qv (bd_X1_mac 39 r w o h) f) Q := by
  obtain ⟨h', M', p, R', X, e1, e2⟩ := sp_X1_mac (key := r) (what := w) (out := o) C.2.2.1 C.1 (C.kd hr) (C.kd hw) (C.kd ho) hr4 hr6 hw4 ho4 hl (by rw [C.cap hc]; omega)
  rw [p, mm_qv_s]; exact K h' M' (C.step R' X) e1 e2
theorem cx_expand (c n : Nat) {a x : Nat} {y : Int32} (C : cX L h M I P) (ha : a < 21) (h10 : 10 ≤ a) (hr : sk_kz r = 5) (hx : sk_kz x = 5) (ho : sk_kz o = 5) (hc : sk_cap o = c) (hr4 : r ≠ 44 ∧ r ≠ 46 ∧ r ≠ 48 ∧ r ≠ 50) (hx4 : x ≠ 48) (ho4 : o ≠ 50) (hl : (M x).length ≤ 32) (ey : y = nI n) (hn : n ≤ 32) (hnc : n ≤ c) (K : ∀ h' M', cX L h' M' I P → M' o = hk_e (M r) (tx_l a) (M x) n → (∀ s, s ≠ 44 → s ≠ 46 → s ≠ 48 → s ≠ 50 → s ≠ o → M' s = M s) → tr (f h') Q) : tr (mm_qv (bd_X1_expand 39 r a x y o h) f) Q := by
  obtain ⟨h', M', p, R', X, e1, e2⟩ := sp_X1_expand (sec := r) (a := a) (ctx := x) (out := o) (n := n) C.2.2.1 C.1 ha h10 (C.kd hr) (C.kd hx) (C.kd ho) hr4 hx4 ho4 hl hn (by rw [C.cap hc]; exact hnc)
  rw [ey, p, mm_qv_s]; exact K h' M' (C.step R' X) e1 e2
/-- what the SECRET alone gives -/
def ks_z : List Int32 := List.replicate 32 0
def ks_e (psk : List Int32) : List Int32 := hm_m ks_z psk
def ks_b (psk : List Int32) : List Int32 := hk_e (ks_e psk) (tx_l 10) (sh_a []) 32
def ks_h (psk : List Int32) : List Int32 := hm_m (hk_e (ks_e psk) (tx_l 12) (sh_a []) 32) ks_z
def ks_m (psk : List Int32) : List Int32 := hm_m (hk_e (ks_h psk) (tx_l 12) (sh_a []) 32) ks_z
/-- a proof that one holds a secret, over messages -/
def ks_p (sec msg : List Int32) : List Int32 := hm_m (hk_e sec (tx_l 13) [] 32) (sh_a msg)
theorem sk_bS {b r : Nat} (hb : sk_b b) (hr : r ∉ sk_S) : r ≠ 44 ∧ r ≠ 46 ∧ r ≠ 48 ∧ r ≠ 50 ∧ r ≠ b + 90 ∧ r ≠ b + 92 := by
  simp only [sk_S, List.mem_cons, not_or] at hr
  rcases hb with rfl | rfl | rfl | rfl <;> omega
theorem cx_prepare {b p : Nat} (hb : sk_b b) (C : cX L h M I P) (hp : sk_row p = true) (h40 : M 40 = []) (h42 : M 42 = ks_z) (hl : (M p).length ≤ 64) (hne : p ≠ b + 84 ∧ p ≠ b + 86 ∧ p ≠ b + 88) : tr (bd_X7_prepare (b + 83) p h) (fun v h' => v = none ∧ ∃ M', cX L h' M' I P ∧ M' (b + 84) = ks_b (M p) ∧ M' (b + 86) = ks_h (M p) ∧ M' (b + 88) = ks_m (M p) ∧ ∀ r, r ∉ sk_S → r ≠ b + 84 → r ≠ b + 86 → r ≠ b + 88 → M' r = M r) := by
  have b1 : 82 ≤ b := by unfold sk_b at hb; omega
  obtain ⟨p1, p2, p3, p4, p5, p6⟩ := sk_bS hb (sk_rS hp)
  have pk : sk_kz p = 5 := by unfold sk_row at hp; simp only [Bool.and_eq_true, beq_iff_eq] at hp; exact hp.1
  have kA : sk_kz (b + 84) = 5 := (by rcases hb with rfl | rfl | rfl | rfl <;> decide +kernel)
  have kB : sk_kz (b + 86) = 5 := (by rcases hb with rfl | rfl | rfl | rfl <;> decide +kernel)
  have kC : sk_kz (b + 88) = 5 := (by rcases hb with rfl | rfl | rfl | rfl <;> decide +kernel)
  have kD : sk_kz (b + 90) = 5 := (by rcases hb with rfl | rfl | rfl | rfl <;> decide +kernel)
  have kE : sk_kz (b + 92) = 5 := (by rcases hb with rfl | rfl | rfl | rfl <;> decide +kernel)
  have cA : sk_cap (b + 84) = 32 := (by rcases hb with rfl | rfl | rfl | rfl <;> decide +kernel)
  have cB : sk_cap (b + 86) = 32 := (by rcases hb with rfl | rfl | rfl | rfl <;> decide +kernel)
  have cC : sk_cap (b + 88) = 32 := (by rcases hb with rfl | rfl | rfl | rfl <;> decide +kernel)
  have cD : sk_cap (b + 90) = 32 := (by rcases hb with rfl | rfl | rfl | rfl <;> decide +kernel)
  have cE : sk_cap (b + 92) = 32 := (by rcases hb with rfl | rfl | rfl | rfl <;> decide +kernel)
  have f0 : sk_ref (b + 83) 0 = some (b + 84) := (by rcases hb with rfl | rfl | rfl | rfl <;> decide +kernel)
  have f1 : sk_ref (b + 83) 1 = some (b + 86) := (by rcases hb with rfl | rfl | rfl | rfl <;> decide +kernel)
  have f2 : sk_ref (b + 83) 2 = some (b + 88) := (by rcases hb with rfl | rfl | rfl | rfl <;> decide +kernel)
  have f3 : sk_ref (b + 83) 3 = some 39 := (by rcases hb with rfl | rfl | rfl | rfl <;> decide +kernel)
  have f4 : sk_ref (b + 83) 4 = some (b + 90) := (by rcases hb with rfl | rfl | rfl | rfl <;> decide +kernel)
  have f5 : sk_ref (b + 83) 5 = some (b + 92) := (by rcases hb with rfl | rfl | rfl | rfl <;> decide +kernel)
  have g0 : sk_ref 39 0 = some 36 := (by decide +kernel)
  have g1 : sk_ref 39 1 = some 40 := (by decide +kernel)
  have g2 : sk_ref 39 2 = some 42 := (by decide +kernel)
  have k40 : sk_kz 40 = 5 := (by decide +kernel)
  have k42 : sk_kz 42 = 5 := (by decide +kernel)
  unfold bd_X7_prepare
  simp only [mm_gr, C.f f3, C.f f4, C.f f5, C.f g0, C.f g1, Option.bind_some]
  refine cx_digest C k40 kE cE (fun h1 C1 => ?_)
  simp only [C1.f f3, C1.f g2, Option.bind_some]
  refine cx_mac C1 k42 pk kD cD (by omega) (by omega) p1 (by omega) (by rw [vu_off p6]; exact hl) (fun h2 M2 C2 e2 u2 => ?_)
  simp only [C2.f f3, C2.f f5, C2.f f0, Option.bind_some]
  rw [vu_off (by omega), vu_off p6, h42] at e2
  have d2 : M2 (b + 92) = sh_a [] := by rw [u2 _ (by omega) (by omega) (by omega), vu_at, h40]
  refine cx_expand 32 32 (a := 10) C2 (by omega) (by omega) kD kE kA cA (by omega) (by omega) (by omega) (by rw [d2, sh_a_len]; omega) rfl (by omega) (by omega) (fun h3 M3 C3 e3 u3 => ?_)
  rw [e2, d2] at e3
  simp only [C3.f f3, C3.f f5, C3.f f1, Option.bind_some]
  have d3 : M3 (b + 92) = sh_a [] := by rw [u3 _ (by omega) (by omega) (by omega) (by omega) (by omega), d2]
  have y3 : M3 (b + 90) = ks_e (M p) := by rw [u3 _ (by omega) (by omega) (by omega) (by omega) (by omega), e2]; rfl
  refine cx_expand 32 32 (a := 12) C3 (by omega) (by omega) kD kE kB cB (by omega) (by omega) (by omega) (by rw [d3, sh_a_len]; omega) rfl (by omega) (by omega) (fun h4 M4 C4 e4 u4 => ?_)
  rw [y3, d3] at e4
  simp only [C4.f f3, C4.f f1, C4.f g2, Option.bind_some]
  have d4 : M4 (b + 92) = sh_a [] := by rw [u4 _ (by omega) (by omega) (by omega) (by omega) (by omega), d3]
  have z4 : M4 42 = ks_z := by rw [u4 _ (by omega) (by omega) (by omega) (by omega) (by omega), u3 _ (by omega) (by omega) (by omega) (by omega) (by omega), u2 _ (by omega) (by omega) (by omega), vu_off (by omega), h42]
  refine cx_mac C4 kB k42 kB cB (by omega) (by omega) (by omega) (by omega) (by rw [z4]; decide) (fun h5 M5 C5 e5 u5 => ?_)
  rw [e4, z4] at e5
  simp only [C5.f f3, C5.f f1, C5.f f5, C5.f f2, Option.bind_some]
  have d5 : M5 (b + 92) = sh_a [] := by rw [u5 _ (by omega) (by omega) (by omega), d4]
  refine cx_expand 32 32 (a := 12) C5 (by omega) (by omega) kB kE kC cC (by omega) (by omega) (by omega) (by rw [d5, sh_a_len]; omega) rfl (by omega) (by omega) (fun h6 M6 C6 e6 u6 => ?_)
  rw [e5, d5] at e6
  simp only [C6.f f3, C6.f f2, C6.f g2, Option.bind_some]
  have z6 : M6 42 = ks_z := by rw [u6 _ (by omega) (by omega) (by omega) (by omega) (by omega), u5 _ (by omega) (by omega) (by omega), z4]
  refine cx_mac C6 kC k42 kC cC (by omega) (by omega) (by omega) (by omega) (by rw [z6]; decide) (fun h7 M7 C7 e7 u7 => ?_)
  rw [e6, z6] at e7
  refine tr_mk ⟨rfl, M7, C7, ?_, ?_, e7, fun r hr q1 q2 q3 => ?_⟩
  · rw [u7 _ (by omega) (by omega) (by omega), u6 _ (by omega) (by omega) (by omega) (by omega) (by omega), u5 _ (by omega) (by omega) (by omega), u4 _ (by omega) (by omega) (by omega) (by omega) (by omega), e3]; rfl
  · rw [u7 _ (by omega) (by omega) (by omega), u6 _ (by omega) (by omega) (by omega) (by omega) (by omega), e5]; rfl
  · obtain ⟨w1, w2, w3, w4, w5, w6⟩ := sk_bS hb hr
    rw [u7 _ w1 w2 q3, u6 _ w1 w2 w3 w4 q3, u5 _ w1 w2 q2, u4 _ w1 w2 w3 w4 q2, u3 _ w1 w2 w3 w4 q1, u2 _ w1 w2 w5, vu_off w6]
theorem sk_rk {r : Nat} (hr : sk_row r = true) : sk_kz r = 5 := by unfold sk_row at hr; simp only [Bool.and_eq_true, beq_iff_eq] at hr; exact hr.1
theorem cs_prepare {b p : Nat} (hb : sk_b b) (C : cR L h M I P) (hp : sk_row p = true) (h40 : M 40 = []) (h42 : M 42 = ks_z) (hl : (M p).length ≤ 64) (hne : p ≠ b + 84 ∧ p ≠ b + 86 ∧ p ≠ b + 88) (K : ∀ h', cR L h' (va_up (va_up (va_up M (b + 84) (ks_b (M p))) (b + 86) (ks_h (M p))) (b + 88) (ks_m (M p))) I P → tr (f h') Q) : tr (mm_qv (bd_X7_prepare (b + 83) p h) f) Q := by
  obtain ⟨M0, C0, e0⟩ := C.X
  refine tr_qv (cx_prepare hb C0 hp (by rw [e0 40 (by decide)]; exact h40) (by rw [e0 42 (by decide)]; exact h42) (by rw [e0 p (sk_rS hp)]; exact hl) hne) ?_
  rintro v h' ⟨rfl, M', C', q1, q2, q3, q4⟩
  rw [e0 p (sk_rS hp)] at q1 q2 q3
  refine ⟨rfl, K h' (C'.R (fun r hr => ?_))⟩
  by_cases w3 : r = b + 88
  · subst w3; rw [vu_at]; exact q3
  · rw [vu_off w3]
    by_cases w2 : r = b + 86
    · subst w2; rw [vu_at]; exact q2
    · rw [vu_off w2]
      by_cases w1 : r = b + 84
      · subst w1; rw [vu_at]; exact q1
      · rw [vu_off w1, q4 r hr w1 w2 w3, e0 r hr]
theorem cs_prove {b s m out : Nat} (hb : sk_b b) (C : cR L h M I P) (hs : sk_row s = true) (hm : sk_row m = true) (ho : sk_row out = true) (hc : sk_cap out = 32) (h40 : M 40 = []) (K : ∀ h', cR L h' (va_up M out (ks_p (M s) (M m))) I P → tr (f h') Q) : tr (mm_qv (bd_X7_prove (b + 83) s m out h) f) Q := by
  obtain ⟨M0, C0, e0⟩ := C.X
  have b1 : 82 ≤ b := by unfold sk_b at hb; omega
  have kD : sk_kz (b + 90) = 5 := (by rcases hb with rfl | rfl | rfl | rfl <;> decide +kernel)
  have kE : sk_kz (b + 92) = 5 := (by rcases hb with rfl | rfl | rfl | rfl <;> decide +kernel)
  have cD : sk_cap (b + 90) = 32 := (by rcases hb with rfl | rfl | rfl | rfl <;> decide +kernel)
  have cE : sk_cap (b + 92) = 32 := (by rcases hb with rfl | rfl | rfl | rfl <;> decide +kernel)
  have f3 : sk_ref (b + 83) 3 = some 39 := (by rcases hb with rfl | rfl | rfl | rfl <;> decide +kernel)
  have f4 : sk_ref (b + 83) 4 = some (b + 90) := (by rcases hb with rfl | rfl | rfl | rfl <;> decide +kernel)
  have f5 : sk_ref (b + 83) 5 = some (b + 92) := (by rcases hb with rfl | rfl | rfl | rfl <;> decide +kernel)
  have g0 : sk_ref 39 0 = some 36 := (by decide +kernel)
  have g1 : sk_ref 39 1 = some 40 := (by decide +kernel)
  have k40 : sk_kz 40 = 5 := (by decide +kernel)
  obtain ⟨s1, s2, s3, s4, s5, s6⟩ := sk_bS hb (sk_rS hs)
  obtain ⟨m1, m2, m3, m4, m5, m6⟩ := sk_bS hb (sk_rS hm)
  obtain ⟨o1, o2, o3, o4, o5, o6⟩ := sk_bS hb (sk_rS ho)
  have z0 : M0 40 = [] := by rw [e0 40 (by decide)]; exact h40
  refine tr_qv (R := fun v h' => v = none ∧ cR L h' (va_up M out (ks_p (M s) (M m))) I P) ?_ (fun v h' q => ⟨q.1, K h' q.2⟩)
  unfold bd_X7_prove
  simp only [mm_gr, C0.f f3, C0.f f4, C0.f g1, Option.bind_some]
  refine cx_expand 32 32 (a := 13) C0 (by omega) (by omega) (sk_rk hs) k40 kD cD ⟨s1, s2, s3, s4⟩ (by omega) (by omega) (by rw [z0]; simp) rfl (by omega) (by omega) (fun h1 M1 C1 e1 u1 => ?_)
  rw [z0, e0 s (sk_rS hs)] at e1
  simp only [C1.f f3, C1.f g0, C1.f f5, Option.bind_some]
  refine cx_digest C1 (sk_rk hm) kE cE (fun h2 C2 => ?_)
  simp only [C2.f f3, C2.f f4, C2.f f5, Option.bind_some]
  have dm : M1 m = M m := by rw [u1 m m1 m2 m3 m4 m5, e0 m (sk_rS hm)]
  refine cx_mac C2 kD kE (sk_rk ho) hc (by omega) (by omega) (by omega) o1 (by rw [vu_at, sh_a_len]; omega) (fun h3 M3 C3 e3 u3 => ?_)
  rw [vu_off (by omega), e1, vu_at, dm] at e3
  refine tr_mk ⟨rfl, C3.R (fun r hr => ?_)⟩
  by_cases q : r = out
  · subst q; rw [vu_at, e3]; rfl
  · obtain ⟨w1, w2, w3, w4, w5, w6⟩ := sk_bS hb hr
    rw [vu_off q, u3 r w1 w2 q, vu_off w6, u1 r w1 w2 w3 w4 w5, e0 r hr]
/-- Keys.load: the keys at k of an END -/
def ky_k (s : List Int32) : List Int32 := hk_e s (tx_l 15) [] 32
def ky_n (s : List Int32) : List Int32 := hk_e s (tx_l 16) [] 12
theorem cs_load {b k s a x : Nat} (hb : sk_b b) (hk : k = b + 69 ∨ k = b + 76) (C : cR L h M I P) (ha : a < 21) (h10 : 10 ≤ a) (hs : sk_row s = true) (hx : sk_row x = true) (h40 : M 40 = []) (hl : (M x).length ≤ 32) (K : ∀ h', cR L h' (va_up (va_up (va_up M (k + 1) (hk_e (M s) (tx_l a) (M x) 32)) (k + 3) (ky_k (hk_e (M s) (tx_l a) (M x) 32))) (k + 5) (ky_n (hk_e (M s) (tx_l a) (M x) 32))) (va_up I k (upd (upd (I k) 3 0) 4 1)) P → tr (f h') Q) : tr (mm_qv (bd_X2_load k 39 s a x h) f) Q := by
  have b1 : 82 ≤ b := by unfold sk_b at hb; omega
  have kA : sk_row (k + 1) = true := by rcases hb with rfl | rfl | rfl | rfl <;> rcases hk with rfl | rfl <;> decide +kernel
  have kB : sk_row (k + 3) = true := by rcases hb with rfl | rfl | rfl | rfl <;> rcases hk with rfl | rfl <;> decide +kernel
  have kC : sk_row (k + 5) = true := by rcases hb with rfl | rfl | rfl | rfl <;> rcases hk with rfl | rfl <;> decide +kernel
  have cA : sk_cap (k + 1) = 32 := by rcases hb with rfl | rfl | rfl | rfl <;> rcases hk with rfl | rfl <;> decide +kernel
  have cB : sk_cap (k + 3) = 32 := by rcases hb with rfl | rfl | rfl | rfl <;> rcases hk with rfl | rfl <;> decide +kernel
  have cC : sk_cap (k + 5) = 12 := by rcases hb with rfl | rfl | rfl | rfl <;> rcases hk with rfl | rfl <;> decide +kernel
  have f0 : sk_ref k 0 = some (k + 1) := by rcases hb with rfl | rfl | rfl | rfl <;> rcases hk with rfl | rfl <;> decide +kernel
  have f1 : sk_ref k 1 = some (k + 3) := by rcases hb with rfl | rfl | rfl | rfl <;> rcases hk with rfl | rfl <;> decide +kernel
  have f2 : sk_ref k 2 = some (k + 5) := by rcases hb with rfl | rfl | rfl | rfl <;> rcases hk with rfl | rfl <;> decide +kernel
  have ob : sk_ob k = true := by rcases hb with rfl | rfl | rfl | rfl <;> rcases hk with rfl | rfl <;> decide +kernel
  have g1 : sk_ref 39 1 = some 40 := (by decide +kernel)
  have k40 : sk_row 40 = true := (by decide +kernel)
  have k1 : 82 < k := by omega
  refine tr_qv (R := fun v h' => v = none ∧ cR L h' (va_up (va_up (va_up M (k + 1) (hk_e (M s) (tx_l a) (M x) 32)) (k + 3) (ky_k (hk_e (M s) (tx_l a) (M x) 32))) (k + 5) (ky_n (hk_e (M s) (tx_l a) (M x) 32))) (va_up I k (upd (upd (I k) 3 0) 4 1)) P) ?_ (fun v h' q => ⟨q.1, K h' q.2⟩)
  unfold bd_X2_load
  simp only [mm_gr, C.f f0, Option.bind_some]
  refine cs_expand 32 32 C ha h10 hs hx kA cA hl rfl (by omega) (by omega) (fun h1 C1 => ?_)
  simp only [C1.f f0, C1.f g1, C1.f f1, Option.bind_some]
  have z1 : va_up M (k + 1) (hk_e (M s) (tx_l a) (M x) 32) 40 = [] := by rw [vu_off (by omega)]; exact h40
  refine cs_expand 32 32 C1 (by omega) (by omega) kA k40 kB cB (by rw [z1]; simp) rfl (by omega) (by omega) (fun h2 C2 => ?_)
  rw [z1, vu_at] at C2
  simp only [C2.f f0, C2.f g1, C2.f f2, Option.bind_some]
  refine cs_expand 12 12 C2 (by omega) (by omega) kA k40 kC cC (by rw [vu_off (by omega), z1]; simp) rfl (by omega) (by omega) (fun h3 C3 => ?_)
  rw [vu_off (by omega), vu_at, vu_off (by omega), z1] at C3
  refine cs_si C3 ob (fun h4 C4 => cs_si C4 ob (fun h5 C5 => tr_mk ⟨rfl, ?_⟩))
  rw [vu_at, show va_up (va_up I k (upd (I k) 3 0)) k (upd (upd (I k) 3 0) 4 1) = va_up I k (upd (upd (I k) 3 0) 4 1) from bx_uu _ _ _ _] at C5
  exact C5
end SCH
