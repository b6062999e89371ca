/-! ===== where the law's loop begins ===== -/
section BEG
variable {L : Nat} {xs : Nat → Int32} {h : mm_H} {f1 f2 : Nat → Nat → Int32}
theorem st_lf : ∀ a, a < 32 → lfB a = true := by decide +kernel
theorem st_hi {a : Nat} (ha : 32 ≤ a) : st_i xs a = fun _ => 0 := by
  obtain ⟨k, rfl⟩ : ∃ k, a = k + 32 := ⟨a - 32, by omega⟩
  rfl
theorem st_lo {a : Nat} (ha : 0 < a) (h32 : a < 32) : st_i xs a = st_i (fun _ => 0) a := by
  rcases (by omega : a = 1 ∨ a = 2 ∨ a = 3 ∨ a = 4 ∨ a = 5 ∨ a = 6 ∨ a = 7 ∨ a = 8 ∨ a = 9 ∨ a = 10 ∨ a = 11 ∨ a = 12 ∨ a = 13 ∨ a = 14 ∨ a = 15 ∨ a = 16 ∨ a = 17 ∨ a = 18 ∨ a = 19 ∨ a = 20 ∨ a = 21 ∨ a = 22 ∨ a = 23 ∨ a = 24 ∨ a = 25 ∨ a = 26 ∨ a = 27 ∨ a = 28 ∨ a = 29 ∨ a = 30 ∨ a = 31) with rfl | rfl | rfl | rfl | rfl | rfl | rfl | rfl | rfl | rfl | rfl | rfl | rfl | rfl | rfl | rfl | rfl | rfl | rfl | rfl | rfl | rfl | rfl | rfl | rfl | rfl | rfl | rfl | rfl | rfl | rfl <;> rfl
theorem st_bS : bS L 32 [] [] (st_i xs) (st_h L xs) := by
  refine ⟨?_, rfl, fun a k => ?_, fun a ha => st_hi ha, fun p hp => absurd hp (by simp)⟩
  · show st_sh L = (sk_sh L).take 32
    unfold sk_sh
    rw [List.take_append_of_le_length (show 32 ≤ (st_sh L).length from Nat.le_refl 32), List.take_of_length_le (show (st_sh L).length ≤ 32 from Nat.le_refl 32)]
  · show none = _
    by_cases q : a < 32
    · rw [lf_n (st_lf a q)]
      by_cases z : a < 32 ∧ (a ∉ ([] : List Nat) ∨ (a, k) ∈ ([] : List (Nat × Nat)))
      · rw [if_pos z]
      · rw [if_neg z]
    · rw [if_neg (fun z => q z.1)]
/-- what the numbers are there -/
def bF (xs : Nat → Int32) (f : Nat → Nat → Int32) : Prop :=
  (∀ a, a < 32 → f a = st_i xs a) ∧ (∀ a, 32 ≤ a → a ≠ 42 → ¬ sk_b a → a ≠ 519 → a ≠ 500 → a ≠ 501 → f a = fun _ => 0) ∧ f 42 1 = 32 ∧ (∀ b, sk_b b → f b 4 = 0 ∧ f b 5 = 0 ∧ f b 14 = -1 ∧ f b 15 = -1 ∧ f b 16 = 0 ∧ f b 17 = 0) ∧ f 519 = sh_K ∧ ∀ e, e < 4 → f 500 e = -1 ∧ f 501 e = -1
theorem u3_o {f : Nat → Nat → Int32} {a b : Nat} (q : a ≠ b) : u3 f b a = f a := by unfold u3; rw [uf_o q, uf_o q, uf_o q]
theorem u3_b {f : Nat → Nat → Int32} {b : Nat} (z : f b = fun _ => 0) : u3 f b b 4 = 0 ∧ u3 f b b 5 = 0 ∧ u3 f b b 14 = -1 ∧ u3 f b b 15 = -1 ∧ u3 f b b 16 = 0 ∧ u3 f b b 17 = 0 := by
  unfold u3
  refine ⟨?_, ?_, ?_, uf_at, ?_, ?_⟩
  · rw [uf_k (by decide), uf_k (by decide), uf_k (by decide), z]
  · rw [uf_k (by decide), uf_k (by decide), uf_k (by decide), z]
  · rw [uf_k (by decide), uf_at]
  · rw [uf_k (by decide), uf_k (by decide), uf_k (by decide), z]
  · rw [uf_k (by decide), uf_k (by decide), uf_k (by decide), z]
theorem kT : (fun j => if j < 64 then sh_K j else 0) = sh_K := funext (fun j => by
  by_cases q : j < 64
  · rw [if_pos q]
  · rw [if_neg q]
    unfold sh_K
    rw [List.getD_eq_getElem?_getD, List.getElem?_eq_none (show sv_2.length ≤ j from by rw [show sv_2.length = 64 from rfl]; omega)]
    rfl)
theorem bF_mk (T : tK (fC (st_i xs)) 64 f1) (U : tM f1 4 f2) : bF xs f2 := by
  have g : ∀ a, a ≠ 519 → a ≠ 500 → a ≠ 501 → f2 a = fC (st_i xs) a := fun a h1 h2 h3 => by rw [U.2 a h2 h3, T.2 a h1]
  have c : ∀ a, ¬ sk_b a → a ≠ 42 → fC (st_i xs) a = st_i xs a := fun a h1 h2 => by
    unfold fC
    rw [u3_o (fun z => h1 (by rw [z]; unfold sk_b; decide)), u3_o (fun z => h1 (by rw [z]; unfold sk_b; decide)), u3_o (fun z => h1 (by rw [z]; unfold sk_b; decide)), u3_o (fun z => h1 (by rw [z]; unfold sk_b; decide)), uf_o h2]
  refine ⟨fun a ha => ?_, fun a h0 h1 h2 h3 h4 h5 => ?_, ?_, fun b hb => ?_, ?_, U.1⟩
  · rw [g a (by omega) (by omega) (by omega), c a (fun z => by unfold sk_b at z; omega) (by omega)]
  · rw [g a h3 h4 h5, c a h2 h1, st_hi h0]
  · rw [g 42 (by decide) (by decide) (by decide)]
    unfold fC
    rw [u3_o (by decide), u3_o (by decide), u3_o (by decide), u3_o (by decide), uf_at]
  · have z : uf (st_i xs) 42 1 32 b = fun _ => 0 := by
      rw [uf_o (by unfold sk_b at hb; omega), st_hi (by unfold sk_b at hb; omega)]
    rw [g b (by unfold sk_b at hb; omega) (by unfold sk_b at hb; omega) (by unfold sk_b at hb; omega)]
    unfold fC
    rcases hb with rfl | rfl | rfl | rfl
    · rw [u3_o (show (82 : Nat) ≠ 388 by decide), u3_o (show (82 : Nat) ≠ 286 by decide), u3_o (show (82 : Nat) ≠ 184 by decide)]
      exact u3_b z
    · rw [u3_o (show (184 : Nat) ≠ 388 by decide), u3_o (show (184 : Nat) ≠ 286 by decide)]
      exact u3_b (by rw [u3_o (by decide)]; exact z)
    · rw [u3_o (show (286 : Nat) ≠ 388 by decide)]
      exact u3_b (by rw [u3_o (by decide), u3_o (by decide)]; exact z)
    · exact u3_b (by rw [u3_o (by decide), u3_o (by decide), u3_o (by decide)]; exact z)
  · rw [U.2 519 (by decide) (by decide), T.1, kT]
theorem rl_t : ∀ q ∈ sk_rl, q.1 < 549 ∧ sk_pa q.1 = false := by decide +kernel
theorem fx_t {a : Nat} (ha : sk_fx a = true) : a < 549 ∧ sk_pa a = false := by
  unfold sk_fx at ha
  cases hf : sk_rl.find? (fun q => q.1 == a) with
  | none => rw [hf] at ha; exact absurd ha (by decide)
  | some q =>
    have m := List.mem_of_find?_eq_some hf
    have e := List.find?_some hf
    have e' : q.1 = a := by simpa using e
    rw [← e']; exact rl_t q m
theorem ro_t : ∀ r, r < 489 → ((sk_sh 0).getD r (99, 0)).1 = 5 → fR r 0 = some (r + 1) ∧ ((sk_sh 0).getD (r + 1) (99, 0)).1 = 20 ∧ 32 ≤ r ∧ ((sk_sh 0).getD (r + 1) (99, 0)).2 ≤ 5000 ∧ r ≠ 82 ∧ r ≠ 184 ∧ r ≠ 286 ∧ r ≠ 388 := by decide +kernel
/-- the state there -/
def s0 (f : Nat → Nat → Int32) : sT := (fun r => if r = 42 then ks_z else [], f, fun _ => [])
theorem s0_m {r : Nat} (q : r ≠ 42) : (s0 f2).1 r = [] := if_neg q
theorem bS.rf (S : bS L 549 [] [] f2 h) {a k : Nat} (ha : a < 549) : mm_r h a k = fR a k := by
  show h.2.2.2 a k = _
  rw [S.2.2.1, if_pos ⟨ha, Or.inl (by simp)⟩]
theorem beg_c (S : bS L 549 [] [] f2 h) (F : bF xs f2) : cO L h (s0 f2).1 f2 (s0 f2) := by
  have sh : h.1 = sk_sh L := by rw [S.1]; exact List.take_of_length_le (by rw [sk_lenL]; exact Nat.le_refl _)
  have fi : h.2.1 = f2 := S.2.1
  obtain ⟨F1, F2, F3, F4, F5, F6⟩ := F
  refine ⟨⟨(s0 f2).1, f2, h.2.2.2, ⟨⟨sh, fun a h0 h32 => ?_, ⟨?_, ?_⟩, ?_, ?_, ?_, ?_, ?_, ?_, ?_⟩, fun a k ha => ?_, ⟨(s0 f2).1, fun r hr => ?_, fun r _ => rfl⟩, fun a _ => by rw [fi], fun a _ => rfl⟩, fun r _ _ => rfl, fun a _ => rfl, fun b hb => ?_⟩, fun r _ => rfl, fun a k _ => rfl⟩
  · rw [fi, F1 a h32, st_lo h0 h32]
  · rw [S.rf (by decide)]; decide +kernel
  · rw [S.rf (by decide)]; decide +kernel
  · rw [S.rf (by decide)]; decide +kernel
  · rw [S.rf (by decide)]; decide +kernel
  · rw [S.rf (by decide)]; decide +kernel
  · rw [S.rf (by decide)]; decide +kernel
  · rw [S.rf (by decide)]; decide +kernel
  · rw [S.rf (by decide)]; decide +kernel
  · rw [S.rf (by decide)]; decide +kernel
  · obtain ⟨t1, t2⟩ := fx_t ha
    rw [S.rf t1]
    unfold fR
    rw [if_neg (by rw [t2]; decide)]
  · have lt := sk_r5 sh hr
    rw [sk_kd sh rfl] at hr
    obtain ⟨t1, t2, t3, t4, t5, t6, t7, t8⟩ := ro_t r lt hr
    have nb : ¬ sk_b r := fun z => by unfold sk_b at z; omega
    refine ⟨by rw [S.rf (by omega)]; exact t1, by rw [sk_kd sh rfl]; exact t2, t3, ?_, ?_, by rw [sk_ln sh (by omega) rfl]; exact t4, fun j hj => ?_, fun x hx => ?_⟩
    · show h.2.1 r 1 = _
      rw [fi]
      by_cases q : r = 42
      · subst q
        rw [F3]; rfl
      · rw [F2 r t3 q nb (by omega) (by omega) (by omega), s0_m q]; rfl
    · by_cases q : r = 42
      · subst q
        rw [sk_ln sh (a := 42 + 1) (c := 32) (by decide) (by decide +kernel)]
        show ks_z.length ≤ 32
        decide
      · rw [s0_m q]; exact Nat.zero_le _
    · by_cases q : r = 42
      · subst q
        show h.2.1 (42 + 1) j = ks_z.getD j 0
        rw [fi, F2 (42 + 1) (by decide) (by decide) (by unfold sk_b; decide) (by decide) (by decide) (by decide)]
        unfold ks_z
        rw [List.getD_eq_getElem?_getD, List.getElem?_replicate]
        by_cases z : j < 32
        · rw [if_pos z]; rfl
        · rw [if_neg z]; rfl
      · rw [s0_m q] at hj; exact absurd hj (Nat.not_lt_zero _)
    · by_cases q : r = 42
      · subst q
        have hx' : x ∈ List.replicate 32 (0 : Int32) := hx
        rw [(List.mem_replicate.mp hx').2]; decide
      · rw [s0_m q] at hx; exact absurd hx (by simp)
  · refine ⟨?_, Nat.zero_le _, fun k => b + 3 + 2 * k, ⟨fun k hk => ⟨k, hk, rfl⟩, fun i k _ _ e => ?_⟩, fun k hk => ?_, fun k hk => absurd hk (Nat.not_lt_zero _)⟩
    · rw [F2 (b + 1) (by unfold sk_b at hb; omega) (by unfold sk_b at hb; omega) (by unfold sk_b at hb ⊢; omega) (by unfold sk_b at hb; omega) (by unfold sk_b at hb; omega) (by unfold sk_b at hb; omega)]; rfl
    · have e' : b + 3 + 2 * i = b + 3 + 2 * k := e
      omega
    · show mm_r h (b + 2) k = some (b + 3 + 2 * k)
      rw [S.rf (by unfold sk_b at hb; omega)]
      unfold fR
      rw [if_pos (by rcases hb with rfl | rfl | rfl | rfl <;> decide), if_pos hk]
theorem beg_w (S : bS L 549 [] [] f2 h) (F : bF xs f2) : wI L h (s0 f2) := by
  have O := beg_c S F
  have fi : h.2.1 = f2 := S.2.1
  have T := O.dT
  obtain ⟨F1, F2, F3, F4, F5, F6⟩ := F
  have z : ∀ a k, 32 ≤ a → a ≠ 42 → ¬ sk_b a → a ≠ 519 → a ≠ 500 → a ≠ 501 → mm_i h a k = 0 := fun a k h1 h2 h3 h4 h5 h6 => by
    show h.2.1 a k = 0
    rw [fi, F2 a h1 h2 h3 h4 h5 h6]
  have z' : ∀ a k, 490 ≤ a → a ≠ 519 → a ≠ 500 → a ≠ 501 → mm_i h a k = 0 := fun a k h1 h4 h5 h6 => z a k (by omega) (by omega) (fun w => by unfold sk_b at w; omega) h4 h5 h6
  have y : ∀ a k, 32 ≤ a → a ≠ 42 → ¬ sk_b a → a < 490 → (s0 f2).2.1 a k = 0 := fun a k h1 h2 h3 h4 => by
    show f2 a k = 0
    rw [F2 a h1 h2 h3 (by omega) (by omega) (by omega)]
  have nb : ∀ e j, e < 4 → (j = 69 ∨ j = 76) → ¬ sk_b (82 + 102 * e + j) := fun e j he hj w => by unfold sk_b at w; omega
  have y69 : ∀ e k, e < 4 → (s0 f2).2.1 (82 + 102 * e + 69) k = 0 := fun e k he => y _ k (by omega) (by omega) (nb e 69 he (by omega)) (by omega)
  have y76 : ∀ e k, e < 4 → (s0 f2).2.1 (82 + 102 * e + 76) k = 0 := fun e k he => y _ k (by omega) (by omega) (nb e 76 he (by omega)) (by omega)
  have m : ∀ e j, (s0 f2).1 (82 + 102 * e + j) = [] := fun e j => s0_m (by omega)
  refine ⟨⟨_, _, O⟩, ⟨⟨T, by rw [fi]; exact F5, fun k => z' 527 k (by decide) (by decide) (by decide) (by decide)⟩, ⟨by rw [z' 490 1 (by decide) (by decide) (by decide) (by decide)]; rfl, bs.nil⟩, ?_, fun e he => ⟨?_, ?_⟩⟩, rfl, rfl, ⟨0, by decide, ?_, fun e _ he => ?_⟩, fun e he => ?_⟩
  · rw [z' 490 2 (by decide) (by decide) (by decide) (by decide), y 32 3 (by decide) (by decide) (by unfold sk_b; decide) (by decide)]
  · obtain ⟨b4, b5, b14, b15, b16, b17⟩ := F4 _ (bE_k he)
    have e4 : (s0 f2).2.1 (82 + 102 * e) 4 = 0 := b4
    have e5 : (s0 f2).2.1 (82 + 102 * e) 5 = 0 := b5
    have e14 : (s0 f2).2.1 (82 + 102 * e) 14 = -1 := b14
    have e15 : (s0 f2).2.1 (82 + 102 * e) 15 = -1 := b15
    have e16 : (s0 f2).2.1 (82 + 102 * e) 16 = 0 := b16
    have e17 : (s0 f2).2.1 (82 + 102 * e) 17 = 0 := b17
    have e500 : mm_i h 500 e = -1 := by show h.2.1 500 e = -1; rw [fi]; exact (F6 e he).1
    have e501 : mm_i h 501 e = -1 := by show h.2.1 501 e = -1; rw [fi]; exact (F6 e he).2
    unfold rA
    rw [m e 94, m e 96, m e 98, m e 67, e4, e5, e14, e15, e16, e17, e500, e501, y69 e 4 he, y69 e 3 he, y76 e 4 he, y76 e 3 he]
    exact ⟨z' _ _ (by decide) (by decide) (by decide) (by decide), z' _ _ (by decide) (by decide) (by decide) (by decide), z' _ _ (by decide) (by decide) (by decide) (by decide), bs.nil, z' _ _ (by decide) (by decide) (by decide) (by decide), bs.nil, by rw [if_pos rfl]; exact z' _ _ (by decide) (by decide) (by decide) (by decide), bs.nil, rfl, rfl, z' _ _ (by decide) (by decide) (by decide) (by decide), z' _ _ (by decide) (by decide) (by decide) (by decide), z' _ _ (by decide) (by decide) (by decide) (by decide), fun k l w => absurd w (by simp [s0]), z' _ _ (by decide) (by decide) (by decide) (by decide), bs.nil, z' _ _ (by decide) (by decide) (by decide) (by decide), z' _ _ (by decide) (by decide) (by decide) (by decide), fun w => absurd rfl w, z' _ _ (by decide) (by decide) (by decide) (by decide), z' _ _ (by decide) (by decide) (by decide) (by decide), fun w => absurd rfl w⟩
  · have e5 : (s0 f2).2.1 (82 + 102 * e) 5 = 0 := (F4 _ (bE_k he)).2.1
    unfold rS
    rw [m e 100, e5]
    exact ⟨fun _ _ => ⟨z' _ _ (by decide) (by decide) (by decide) (by decide), bs.nil⟩, fun w => absurd w (by decide), fun w => absurd w (by decide)⟩
  · exact y 32 3 (by decide) (by decide) (by unfold sk_b; decide) (by decide)
  · exact (F4 _ (bE_k he)).2.1
  · have e5 : (s0 f2).2.1 (82 + 102 * e) 5 = 0 := (F4 _ (bE_k he)).2.1
    have e16 : (s0 f2).2.1 (82 + 102 * e) 16 = 0 := (F4 _ (bE_k he)).2.2.2.2.1
    unfold jE kI
    rw [e5, e16, y69 e 4 he, y76 e 4 he, m e 98, m e 100]
    exact ⟨⟨fun w => absurd rfl w, fun w => absurd rfl w⟩, ⟨Or.inl rfl, Or.inl rfl⟩, Or.inl rfl, fun _ => ⟨rfl, rfl⟩, ⟨fun w => absurd w (by decide), fun w => absurd w (by decide)⟩, fun _ _ => rfl, fun w => absurd rfl w, fun w => absurd w (by decide), Or.inl rfl, fun w => absurd w (by decide), fun w => absurd w (by decide), fun w => absurd w (by decide)⟩
theorem sz_c : ((sk_sh 0).map (fun q => q.2)).sum ≤ 7299000 := by decide +kernel
theorem sz_L : ((sk_sh L).map (fun q => q.2)).sum = L + ((sk_sh 0).map (fun q => q.2)).sum := by
  unfold sk_sh st_sh
  simp only [List.cons_append, List.map_cons, List.sum_cons]
  omega
theorem pure_law (L : Nat) (xs : Nat → Int32) (hL : L ≤ 3072) : ∃ hF : mm_H, bd_L_law 0 (st_h L xs) = some (some (.int 1), hF) ∧ hF.1.length ≤ 600000 ∧ mm_sz hF ≤ 7302250 := by
  have t : tr (bd_L_law 0 (st_h L xs)) (fun v h' => v = some (.int 1) ∧ h'.1 = sk_sh L) := by
    unfold bd_L_law
    refine bs_open st_bS (by decide +kernel) (fun h S => ?_)
    refine ci_X11 S (st_hi (by decide)) (fun h S => ?_)
    refine bs_open S (by decide +kernel) (fun h S => ?_)
    refine ci_X12 S (fun h f1 f2 T U S => ?_)
    exact lw_loop hL mm_fu 0 h (s0 f2) (beg_w S (bF_mk T U)) (by unfold mm_fu; omega) (by omega)
  obtain ⟨v, hF, e, rfl, sh⟩ := t
  refine ⟨hF, e, by rw [sh, sk_lenL]; decide, ?_⟩
  unfold mm_sz
  rw [sh, sz_L]
  have := sz_c
  omega
end BEG
