/-! ===== the reference's constructor ===== -/
section CTL
variable {L : Nat} {op : List Nat} {D : List (Nat × Nat)} {f f0 : Nat → Nat → Int32} {h : mm_H} {Q : Option Value → mm_H → Prop} {g : mm_H → mm_O}
/-- the first m numbers of the table are there -/
def tK (f0 : Nat → Nat → Int32) (m : Nat) (f : Nat → Nat → Int32) : Prop := (f 519 = fun j => if j < m then sh_K j else 0) ∧ ∀ a, a ≠ 519 → f a = f0 a
theorem bs_pk {k : Nat} {x v : Int32} (S : bS L 549 op D f h) (d : (490, 30) ∈ D) (ex : x = nI k) (hk : k < 64) (T : tK f0 k f) (ev : v = sh_K k) (K : ∀ h' f', tK f0 (k + 1) f' → bS L 549 op D f' h' → tr (g h') Q) : tr (mm_gr h 490 30 (fun b => if 32 ≤ b ∧ mm_in x (mm_ln h b) = true then mm_bh (mm_si h b (mm_n x) v) g else none)) Q := by
  refine bs_gr (b := 519) S (by decide +kernel) ⟨by decide, Or.inr d⟩ ?_
  refine tr_ip ⟨by decide, dq_in (S.ln (by decide) (by decide) (by decide +kernel)) ex hk (by decide)⟩ ?_
  rw [ex, rr_n (by omega), ev]
  refine bs_si S (by decide) (fun h' S' => K h' _ ⟨?_, fun a ha => ?_⟩ S')
  · funext j
    by_cases q : j = k
    · subst q
      rw [uf_at, if_pos (by omega)]
    · rw [uf_k q, T.1]
      by_cases z : j < k
      · show (if j < k then _ else _) = _
        rw [if_pos z, if_pos (by omega)]
      · show (if j < k then _ else _) = _
        rw [if_neg z, if_neg (by omega)]
  · rw [uf_o ha]; exact T.2 a ha
theorem ci_put8 {m : Nat} {x v0 v1 v2 v3 v4 v5 v6 v7 : Int32} (S : bS L 549 op D f h) (d : (490, 30) ∈ D) (ex : x = nI m) (hm : m + 8 ≤ 64) (T : tK f0 m f) (ev : v0 = sh_K m ∧ v1 = sh_K (m + 1) ∧ v2 = sh_K (m + 2) ∧ v3 = sh_K (m + 3) ∧ v4 = sh_K (m + 4) ∧ v5 = sh_K (m + 5) ∧ v6 = sh_K (m + 6) ∧ v7 = sh_K (m + 7)) (K : ∀ h' f', tK f0 (m + 8) f' → bS L 549 op D f' h' → tr (g h') Q) : tr (mm_qv (bd_X12_put8 490 x v0 v1 v2 v3 v4 v5 v6 v7 h) g) Q := by
  refine tr_v (p := fun h' => ∃ f', tK f0 (m + 8) f' ∧ bS L 549 op D f' h') ?_ (fun h' q => by obtain ⟨f', q1, q2⟩ := q; exact K h' f' q1 q2)
  obtain ⟨e0, e1, e2, e3, e4, e5, e6, e7⟩ := ev
  unfold bd_X12_put8
  refine bs_pk S d ex (by omega) T e0 (fun h f T S => ?_)
  refine bs_pk S d (show x + 1 = nI (m + 1) from by rw [ex]; exact nI_add m 1) (by omega) T e1 (fun h f T S => ?_)
  refine bs_pk S d (show x + 2 = nI (m + 2) from by rw [ex]; exact nI_add m 2) (by omega) T e2 (fun h f T S => ?_)
  refine bs_pk S d (show x + 3 = nI (m + 3) from by rw [ex]; exact nI_add m 3) (by omega) T e3 (fun h f T S => ?_)
  refine bs_pk S d (show x + 4 = nI (m + 4) from by rw [ex]; exact nI_add m 4) (by omega) T e4 (fun h f T S => ?_)
  refine bs_pk S d (show x + 5 = nI (m + 5) from by rw [ex]; exact nI_add m 5) (by omega) T e5 (fun h f T S => ?_)
  refine bs_pk S d (show x + 6 = nI (m + 6) from by rw [ex]; exact nI_add m 6) (by omega) T e6 (fun h f T S => ?_)
  refine bs_pk S d (show x + 7 = nI (m + 7) from by rw [ex]; exact nI_add m 7) (by omega) T e7 (fun h f T S => ?_)
  exact tr_mk ⟨rfl, f, T, S⟩
/-- the first m ENDS have no alert yet -/
def tM (f0 : Nat → Nat → Int32) (m : Nat) (f : Nat → Nat → Int32) : Prop := (∀ j, j < m → f 500 j = -1 ∧ f 501 j = -1) ∧ ∀ a, a ≠ 500 → a ≠ 501 → f a = f0 a
theorem cl_X12 {j n : Nat} (hj : j < 4) (S : bS L 549 op D f h) (d1 : (490, 11) ∈ D) (d2 : (490, 12) ∈ D) (T : tM f0 j f) (K : ∀ h' f', tM f0 (j + 1) f' → bS L 549 op D f' h' → tr (lp_X12_init_639 n 490 (nI (j + 1)) h') Q) : tr (lp_X12_init_639 (n + 1) 490 (nI j) h) Q := by
  rw [lp_X12_init_639]
  refine tr_in (show ¬ (4 : Int32) ≤ nI j from by rw [show ((4 : Int32)) = nI 4 from rfl, nI_leI (by omega) (by omega)]; omega) ?_
  refine bs_gr (b := 500) S (by decide +kernel) ⟨by decide, Or.inr d1⟩ ?_
  refine tr_ip ⟨by decide, dq_in (S.ln (by decide) (by decide) (by decide +kernel)) rfl hj (by decide)⟩ ?_
  rw [rr_n (by omega)]
  refine bs_si S (by decide) (fun h S => ?_)
  refine bs_gr (b := 501) S (by decide +kernel) ⟨by decide, Or.inr d2⟩ ?_
  refine tr_ip ⟨by decide, dq_in (S.ln (by decide) (by decide) (by decide +kernel)) rfl hj (by decide)⟩ ?_
  refine bs_si S (by decide) (fun h S => ?_)
  rw [nI_1]
  refine K h _ ⟨fun k hk => ?_, fun a h1 h2 => ?_⟩ S
  · rw [uf_o (show (500 : Nat) ≠ 501 by decide)]
    by_cases q : k = j
    · subst q
      exact ⟨uf_at, uf_at⟩
    · rw [uf_k q, uf_k q, uf_o (show (501 : Nat) ≠ 500 by decide)]
      exact T.1 k (by omega)
  · rw [uf_o h2, uf_o h1]; exact T.2 a h1 h2
theorem ci_X12 (S : bS L 491 [490] [] f h) (K : ∀ h' f1 f2, tK f 64 f1 → tM f1 4 f2 → bS L 549 [] [] f2 h' → tr (g h') Q) : tr (mm_qv (bd_X12_init 490 h) g) Q := by
  refine tr_v (p := fun h' => ∃ f1 f2, tK f 64 f1 ∧ tM f1 4 f2 ∧ bS L 549 [] [] f2 h') ?_ (fun h' q => by obtain ⟨f1, f2, q1, q2, q3⟩ := q; exact K h' f1 f2 q1 q2 q3)
  have z519 : f 519 = fun _ => 0 := S.2.2.2.1 _ (by decide)
  unfold bd_X12_init
  refine bs_leaf S (by decide +kernel) (by decide +kernel) (fun h S => ?_)
  refine bs_sr S (by decide +kernel) (by decide) (fun h S => ?_)
  refine bs_leaf S (by decide +kernel) (by decide +kernel) (fun h S => ?_)
  refine bs_sr S (by decide +kernel) (by decide) (fun h S => ?_)
  refine bs_leaf S (by decide +kernel) (by decide +kernel) (fun h S => ?_)
  refine bs_sr S (by decide +kernel) (by decide) (fun h S => ?_)
  refine bs_leaf S (by decide +kernel) (by decide +kernel) (fun h S => ?_)
  refine bs_sr S (by decide +kernel) (by decide) (fun h S => ?_)
  refine bs_leaf S (by decide +kernel) (by decide +kernel) (fun h S => ?_)
  refine bs_sr S (by decide +kernel) (by decide) (fun h S => ?_)
  refine bs_leaf S (by decide +kernel) (by decide +kernel) (fun h S => ?_)
  refine bs_sr S (by decide +kernel) (by decide) (fun h S => ?_)
  refine bs_leaf S (by decide +kernel) (by decide +kernel) (fun h S => ?_)
  refine bs_sr S (by decide +kernel) (by decide) (fun h S => ?_)
  refine bs_leaf S (by decide +kernel) (by decide +kernel) (fun h S => ?_)
  refine bs_sr S (by decide +kernel) (by decide) (fun h S => ?_)
  refine bs_leaf S (by decide +kernel) (by decide +kernel) (fun h S => ?_)
  refine bs_sr S (by decide +kernel) (by decide) (fun h S => ?_)
  refine bs_leaf S (by decide +kernel) (by decide +kernel) (fun h S => ?_)
  refine bs_sr S (by decide +kernel) (by decide) (fun h S => ?_)
  refine bs_leaf S (by decide +kernel) (by decide +kernel) (fun h S => ?_)
  refine bs_sr S (by decide +kernel) (by decide) (fun h S => ?_)
  refine bs_leaf S (by decide +kernel) (by decide +kernel) (fun h S => ?_)
  refine bs_sr S (by decide +kernel) (by decide) (fun h S => ?_)
  refine bs_leaf S (by decide +kernel) (by decide +kernel) (fun h S => ?_)
  refine bs_sr S (by decide +kernel) (by decide) (fun h S => ?_)
  refine bs_leaf S (by decide +kernel) (by decide +kernel) (fun h S => ?_)
  refine bs_sr S (by decide +kernel) (by decide) (fun h S => ?_)
  refine bs_leaf S (by decide +kernel) (by decide +kernel) (fun h S => ?_)
  refine bs_sr S (by decide +kernel) (by decide) (fun h S => ?_)
  refine bs_leaf S (by decide +kernel) (by decide +kernel) (fun h S => ?_)
  refine bs_sr S (by decide +kernel) (by decide) (fun h S => ?_)
  refine bs_leaf S (by decide +kernel) (by decide +kernel) (fun h S => ?_)
  refine bs_sr S (by decide +kernel) (by decide) (fun h S => ?_)
  refine bs_leaf S (by decide +kernel) (by decide +kernel) (fun h S => ?_)
  refine bs_sr S (by decide +kernel) (by decide) (fun h S => ?_)
  refine bs_leaf S (by decide +kernel) (by decide +kernel) (fun h S => ?_)
  refine bs_sr S (by decide +kernel) (by decide) (fun h S => ?_)
  refine bs_leaf S (by decide +kernel) (by decide +kernel) (fun h S => ?_)
  refine bs_sr S (by decide +kernel) (by decide) (fun h S => ?_)
  refine bs_leaf S (by decide +kernel) (by decide +kernel) (fun h S => ?_)
  refine bs_sr S (by decide +kernel) (by decide) (fun h S => ?_)
  refine bs_leaf S (by decide +kernel) (by decide +kernel) (fun h S => ?_)
  refine bs_sr S (by decide +kernel) (by decide) (fun h S => ?_)
  refine bs_leaf S (by decide +kernel) (by decide +kernel) (fun h S => ?_)
  refine bs_sr S (by decide +kernel) (by decide) (fun h S => ?_)
  refine bs_leaf S (by decide +kernel) (by decide +kernel) (fun h S => ?_)
  refine bs_sr S (by decide +kernel) (by decide) (fun h S => ?_)
  refine bs_leaf S (by decide +kernel) (by decide +kernel) (fun h S => ?_)
  refine bs_sr S (by decide +kernel) (by decide) (fun h S => ?_)
  refine bs_leaf S (by decide +kernel) (by decide +kernel) (fun h S => ?_)
  refine bs_sr S (by decide +kernel) (by decide) (fun h S => ?_)
  refine bs_leaf S (by decide +kernel) (by decide +kernel) (fun h S => ?_)
  refine bs_sr S (by decide +kernel) (by decide) (fun h S => ?_)
  refine bs_leaf S (by decide +kernel) (by decide +kernel) (fun h S => ?_)
  refine bs_sr S (by decide +kernel) (by decide) (fun h S => ?_)
  refine bs_leaf S (by decide +kernel) (by decide +kernel) (fun h S => ?_)
  refine bs_sr S (by decide +kernel) (by decide) (fun h S => ?_)
  refine bs_leaf S (by decide +kernel) (by decide +kernel) (fun h S => ?_)
  refine bs_sr S (by decide +kernel) (by decide) (fun h S => ?_)
  refine bs_leaf S (by decide +kernel) (by decide +kernel) (fun h S => ?_)
  refine bs_sr S (by decide +kernel) (by decide) (fun h S => ?_)
  refine bs_leaf S (by decide +kernel) (by decide +kernel) (fun h S => ?_)
  refine bs_sr S (by decide +kernel) (by decide) (fun h S => ?_)
  refine bs_leaf S (by decide +kernel) (by decide +kernel) (fun h S => ?_)
  refine bs_sr S (by decide +kernel) (by decide) (fun h S => ?_)
  refine bs_leaf S (by decide +kernel) (by decide +kernel) (fun h S => ?_)
  refine bs_sr S (by decide +kernel) (by decide) (fun h S => ?_)
  refine bs_leaf S (by decide +kernel) (by decide +kernel) (fun h S => ?_)
  refine bs_sr S (by decide +kernel) (by decide) (fun h S => ?_)
  refine bs_leaf S (by decide +kernel) (by decide +kernel) (fun h S => ?_)
  refine bs_sr S (by decide +kernel) (by decide) (fun h S => ?_)
  refine bs_leaf S (by decide +kernel) (by decide +kernel) (fun h S => ?_)
  refine bs_sr S (by decide +kernel) (by decide) (fun h S => ?_)
  refine bs_leaf S (by decide +kernel) (by decide +kernel) (fun h S => ?_)
  refine bs_sr S (by decide +kernel) (by decide) (fun h S => ?_)
  refine bs_leaf S (by decide +kernel) (by decide +kernel) (fun h S => ?_)
  refine bs_sr S (by decide +kernel) (by decide) (fun h S => ?_)
  refine bs_leaf S (by decide +kernel) (by decide +kernel) (fun h S => ?_)
  refine bs_sr S (by decide +kernel) (by decide) (fun h S => ?_)
  refine bs_leaf S (by decide +kernel) (by decide +kernel) (fun h S => ?_)
  refine bs_sr S (by decide +kernel) (by decide) (fun h S => ?_)
  refine bs_leaf S (by decide +kernel) (by decide +kernel) (fun h S => ?_)
  refine bs_sr S (by decide +kernel) (by decide) (fun h S => ?_)
  refine bs_leaf S (by decide +kernel) (by decide +kernel) (fun h S => ?_)
  refine bs_sr S (by decide +kernel) (by decide) (fun h S => ?_)
  refine bs_leaf S (by decide +kernel) (by decide +kernel) (fun h S => ?_)
  refine bs_sr S (by decide +kernel) (by decide) (fun h S => ?_)
  refine bs_leaf S (by decide +kernel) (by decide +kernel) (fun h S => ?_)
  refine bs_sr S (by decide +kernel) (by decide) (fun h S => ?_)
  refine bs_leaf S (by decide +kernel) (by decide +kernel) (fun h S => ?_)
  refine bs_sr S (by decide +kernel) (by decide) (fun h S => ?_)
  refine bs_leaf S (by decide +kernel) (by decide +kernel) (fun h S => ?_)
  refine bs_sr S (by decide +kernel) (by decide) (fun h S => ?_)
  refine bs_leaf S (by decide +kernel) (by decide +kernel) (fun h S => ?_)
  refine bs_sr S (by decide +kernel) (by decide) (fun h S => ?_)
  refine bs_leaf S (by decide +kernel) (by decide +kernel) (fun h S => ?_)
  refine bs_sr S (by decide +kernel) (by decide) (fun h S => ?_)
  refine bs_leaf S (by decide +kernel) (by decide +kernel) (fun h S => ?_)
  refine bs_sr S (by decide +kernel) (by decide) (fun h S => ?_)
  refine bs_leaf S (by decide +kernel) (by decide +kernel) (fun h S => ?_)
  refine bs_sr S (by decide +kernel) (by decide) (fun h S => ?_)
  refine bs_leaf S (by decide +kernel) (by decide +kernel) (fun h S => ?_)
  refine bs_sr S (by decide +kernel) (by decide) (fun h S => ?_)
  refine bs_leaf S (by decide +kernel) (by decide +kernel) (fun h S => ?_)
  refine bs_sr S (by decide +kernel) (by decide) (fun h S => ?_)
  refine bs_leaf S (by decide +kernel) (by decide +kernel) (fun h S => ?_)
  refine bs_sr S (by decide +kernel) (by decide) (fun h S => ?_)
  refine bs_leaf S (by decide +kernel) (by decide +kernel) (fun h S => ?_)
  refine bs_sr S (by decide +kernel) (by decide) (fun h S => ?_)
  refine bs_leaf S (by decide +kernel) (by decide +kernel) (fun h S => ?_)
  refine bs_sr S (by decide +kernel) (by decide) (fun h S => ?_)
  refine bs_leaf S (by decide +kernel) (by decide +kernel) (fun h S => ?_)
  refine bs_sr S (by decide +kernel) (by decide) (fun h S => ?_)
  refine bs_leaf S (by decide +kernel) (by decide +kernel) (fun h S => ?_)
  refine bs_sr S (by decide +kernel) (by decide) (fun h S => ?_)
  have T0 : tK f 0 f := ⟨by rw [z519]; rfl, fun _ _ => rfl⟩
  generalize hD : [(490, 65), (490, 60), (490, 59), (490, 57), (490, 56), (490, 55), (490, 54), (490, 53), (490, 52), (490, 51), (490, 50), (490, 49), (490, 48), (490, 47), (490, 46), (490, 45), (490, 44), (490, 43), (490, 42), (490, 41), (490, 40), (490, 39), (490, 38), (490, 36), (490, 35), (490, 34), (490, 33), (490, 32), (490, 31), (490, 30), (490, 29), (490, 28), (490, 27), (490, 26), (490, 25), (490, 24), (490, 23), (490, 22), (490, 21), (490, 20), (490, 19), (490, 18), (490, 17), (490, 16), (490, 15), (490, 14), (490, 13), (490, 12), (490, 11), (490, 10), (490, 9), (490, 8), (490, 7), (490, 6), (490, 5), (490, 4), (490, 3), (490, 0)] = DD at S
  have d30 : (490, 30) ∈ DD := by rw [← hD]; simp
  have d11 : (490, 11) ∈ DD := by rw [← hD]; simp
  have d12 : (490, 12) ∈ DD := by rw [← hD]; simp
  refine ci_put8 (m := 0) S d30 rfl (by decide) T0 (by decide +kernel) (fun h f8 T8 S => ?_)
  refine ci_put8 (m := 8) S d30 rfl (by decide) T8 (by decide +kernel) (fun h f16 T16 S => ?_)
  refine ci_put8 (m := 16) S d30 rfl (by decide) T16 (by decide +kernel) (fun h f24 T24 S => ?_)
  refine ci_put8 (m := 24) S d30 rfl (by decide) T24 (by decide +kernel) (fun h f32 T32 S => ?_)
  refine ci_put8 (m := 32) S d30 rfl (by decide) T32 (by decide +kernel) (fun h f40 T40 S => ?_)
  refine ci_put8 (m := 40) S d30 rfl (by decide) T40 (by decide +kernel) (fun h f48 T48 S => ?_)
  refine ci_put8 (m := 48) S d30 rfl (by decide) T48 (by decide +kernel) (fun h f56 T56 S => ?_)
  refine ci_put8 (m := 56) S d30 rfl (by decide) T56 (by decide +kernel) (fun h f64 T64 S => ?_)
  rw [show mm_fu = 99995 + 1 + 1 + 1 + 1 + 1 from rfl]
  refine cl_X12 (j := 0) (by decide) S d11 d12 ⟨fun j hj => absurd hj (Nat.not_lt_zero _), fun _ _ _ => rfl⟩ (fun h g1 U S => ?_)
  refine cl_X12 (j := 1) (by decide) S d11 d12 U (fun h g2 U S => ?_)
  refine cl_X12 (j := 2) (by decide) S d11 d12 U (fun h g3 U S => ?_)
  refine cl_X12 (j := 3) (by decide) S d11 d12 U (fun h g4 U S => ?_)
  rw [lp_X12_init_639]
  refine tr_ip (by decide) ?_
  refine tr_mk ⟨rfl, f64, g4, T64, U, ?_⟩
  rw [← hD] at S
  exact bS.close (ks := [65, 60, 59, 57, 56, 55, 54, 53, 52, 51, 50, 49, 48, 47, 46, 45, 44, 43, 42, 41, 40, 39, 38, 36, 35, 34, 33, 32, 31, 30, 29, 28, 27, 26, 25, 24, 23, 22, 21, 20, 19, 18, 17, 16, 15, 14, 13, 12, 11, 10, 9, 8, 7, 6, 5, 4, 3, 0]) S (by decide) (fu_n (by decide +kernel))
end CTL
