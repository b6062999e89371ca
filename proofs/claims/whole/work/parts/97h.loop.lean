/-! ===== the law's loop ===== -/
theorem lw_end {L t : Nat} (hL : L ≤ 3072) (ht : t ≤ L + 5) (c : ¬ t + 5 < L) : nI L - 6 < nI t := by
  by_cases q : 6 ≤ L
  · rw [show ((6 : Int32)) = nI 6 from rfl, nI_sb q, nI_ltI (by omega) (by omega)]; omega
  · have n : nI L - 6 < 0 := by
      rcases (by omega : L = 0 ∨ L = 1 ∨ L = 2 ∨ L = 3 ∨ L = 4 ∨ L = 5) with rfl | rfl | rfl | rfl | rfl | rfl <;> decide
    exact Int32.lt_of_lt_of_le n (nI_pos' (by omega))
theorem lw_on {L t : Nat} (hL : L ≤ 3072) (c : t + 5 < L) : ¬ nI L - 6 < nI t := by
  rw [show ((6 : Int32)) = nI 6 from rfl, nI_sb (by omega), nI_ltI (by omega) (by omega)]; omega
theorem sk_l0 {L : Nat} {h : mm_H} (e : h.1 = sk_sh L) : mm_ln h 0 = L := by
  unfold mm_ln; rw [e]; rfl
theorem lw_loop {L : Nat} (hL : L ≤ 3072) : ∀ (n t : Nat) (h : mm_H) (s : sT), wI L h s → L + 6 ≤ t + 6 * n → t ≤ L + 5 → tr (lp_L_law_18 n 0 32 490 (nI t) h) (fun v h' => v = some (.int 1) ∧ h'.1 = sk_sh L) := by
  intro n
  induction n with
  | zero => intro t h s W h1 h2; exact absurd h1 (by omega)
  | succ n ih =>
    intro t h s W hn ht
    obtain ⟨⟨M, I, O⟩, R, J⟩ := id W
    have Z := O.jB
    have i := J.i
    have sh := O.sh
    have ln := sk_l0 sh
    rw [lp_L_law_18, ln]
    by_cases c : t + 5 < L
    · refine tr_in (lw_on hL c) ?_
      rw [show nI t + 1 = nI (t + 1) from nI_1 t, show nI t + 2 = nI (t + 2) from nI_add t 2, show nI t + 3 = nI (t + 3) from nI_add t 3, show nI t + 4 = nI (t + 4) from nI_add t 4, show nI t + 5 = nI (t + 5) from nI_add t 5]
      have m1 : mm_in (nI (t + 1)) L = true := rr_in (by omega) (by omega)
      have m2 : mm_in (nI (t + 2)) L = true := rr_in (by omega) (by omega)
      have m3 : mm_in (nI (t + 3)) L = true := rr_in (by omega) (by omega)
      have m4 : mm_in (nI (t + 4)) L = true := rr_in (by omega) (by omega)
      have m5 : mm_in (nI (t + 5)) L = true := rr_in (by omega) (by omega)
      refine tr_ip (rr_in (show t < L from (by omega)) (by omega)) ?_
      have next : ∀ h2, (∃ s2, wI L h2 s2) → tr (jn_L_law_710 (lp_L_law_18 n) 0 32 490 (nI t) h2) (fun v h' => v = some (.int 1) ∧ h'.1 = sk_sh L) := fun h2 w => by
        obtain ⟨s2, w⟩ := w
        unfold jn_L_law_710
        rw [show nI t + 6 = nI (t + 6) from nI_add t 6]
        exact ih (t + 6) h2 s2 w (by omega) (by omega)
      by_cases k0 : mm_i h 0 (mm_n (nI t)) &&& 31 = 0
      · refine tr_ip k0 ?_
        refine tr_ip m1 (tr_ip m2 (tr_ip m3 (tr_ip m4 (tr_ip m5 (?_)))))
        refine W.two (ng_feed J) (cp_feed O) (fun h1 a1 l1 R1 K1 => ?_)
        rw [sk_l0 (l1.trans sh)]
        refine tr_ip m1 (tr_ip m2 (tr_ip m3 (tr_ip m4 (tr_ip m5 (?_)))))
        rw [a1 (mm_n (nI (t + 1))), a1 (mm_n (nI (t + 2))), a1 (mm_n (nI (t + 3))), a1 (mm_n (nI (t + 4))), a1 (mm_n (nI (t + 5)))]
        exact lw_ref (cq_feed R1 Z J) (fun h2 R2 F2 => tr_ip rfl (next h2 (K1 h2 R2 F2)))
      refine tr_in k0 ?_
      by_cases k1 : mm_i h 0 (mm_n (nI t)) &&& 31 = 1
      · refine tr_ip k1 ?_
        refine tr_ip m1 (?_)
        refine W.two (ng_end J) (cp_end O) (fun h1 a1 l1 R1 K1 => ?_)
        rw [sk_l0 (l1.trans sh)]
        refine tr_ip m1 (?_)
        rw [a1 (mm_n (nI (t + 1)))]
        exact lw_ref (cq_end R1 Z J) (fun h2 R2 F2 => tr_ip rfl (next h2 (K1 h2 R2 F2)))
      refine tr_in k1 ?_
      by_cases k2 : mm_i h 0 (mm_n (nI t)) &&& 31 = 2
      · refine tr_ip k2 ?_
        refine tr_ip m1 ?_
        by_cases z : mm_i h 0 (mm_n (nI (t + 1))) = 0
        · refine tr_ip z ?_
          unfold jn_L_law_220
          refine W.two (ng_make J) (cp_make O i (Or.inl rfl)) (fun h1 a1 l1 R1 K1 => ?_)
          rw [sk_l0 (l1.trans sh), show nI t + 1 = nI (t + 1) from nI_1 t, a1]
          refine tr_ip m1 (tr_ip z ?_)
          unfold jn_L_law_237
          refine lw_ref (cq_make R1 Z J (Or.inl rfl)) (fun h2 R2 F2 => tr_ip rfl (next h2 (K1 h2 R2 F2)))
        · refine tr_in z ?_
          unfold jn_L_law_220
          refine W.two (ng_make J) (cp_make O i (Or.inr rfl)) (fun h1 a1 l1 R1 K1 => ?_)
          rw [sk_l0 (l1.trans sh), show nI t + 1 = nI (t + 1) from nI_1 t, a1]
          refine tr_ip m1 (tr_in z ?_)
          unfold jn_L_law_237
          refine lw_ref (cq_make R1 Z J (Or.inr rfl)) (fun h2 R2 F2 => tr_ip rfl (next h2 (K1 h2 R2 F2)))
      refine tr_in k2 ?_
      by_cases k3 : mm_i h 0 (mm_n (nI t)) &&& 31 = 3
      · refine tr_ip k3 ?_
        refine tr_ip m1 (tr_ip m2 (?_))
        refine W.two (ng_tell J) (cp_tell O i) (fun h1 a1 l1 R1 K1 => ?_)
        rw [sk_l0 (l1.trans sh)]
        refine tr_ip m1 (tr_ip m2 (?_))
        rw [a1 (mm_n (nI (t + 1))), a1 (mm_n (nI (t + 2)))]
        exact lw_ref (cq_tell R1 Z J) (fun h2 R2 F2 => tr_ip rfl (next h2 (K1 h2 R2 F2)))
      refine tr_in k3 ?_
      by_cases k4 : mm_i h 0 (mm_n (nI t)) &&& 31 = 4
      · refine tr_ip k4 ?_
        refine tr_ip m1 (?_)
        refine W.two (ng_start J Z) (cp_start O i) (fun h1 a1 l1 R1 K1 => ?_)
        rw [sk_l0 (l1.trans sh)]
        refine tr_ip m1 (?_)
        rw [a1 (mm_n (nI (t + 1)))]
        exact lw_ref (cq_start R1 Z J) (fun h2 R2 F2 => tr_ip rfl (next h2 (K1 h2 R2 F2)))
      refine tr_in k4 ?_
      by_cases k5 : mm_i h 0 (mm_n (nI t)) &&& 31 = 5
      · refine tr_ip k5 ?_
        refine tr_ip m1 (?_)
        refine W.two (ng_say J) (cp_say O i) (fun h1 a1 l1 R1 K1 => ?_)
        rw [sk_l0 (l1.trans sh)]
        refine tr_ip m1 (?_)
        rw [a1 (mm_n (nI (t + 1)))]
        exact lw_ref (cq_say R1 Z J) (fun h2 R2 F2 => tr_ip rfl (next h2 (K1 h2 R2 F2)))
      refine tr_in k5 ?_
      by_cases k6 : mm_i h 0 (mm_n (nI t)) &&& 31 = 6
      · refine tr_ip k6 ?_
        refine tr_ip m1 (tr_ip m2 (?_))
        refine W.two (ng_update J) (cp_update O i) (fun h1 a1 l1 R1 K1 => ?_)
        rw [sk_l0 (l1.trans sh)]
        refine tr_ip m1 (tr_ip m2 (?_))
        rw [a1 (mm_n (nI (t + 1))), a1 (mm_n (nI (t + 2)))]
        exact lw_ref (cq_update R1 Z J) (fun h2 R2 F2 => tr_ip rfl (next h2 (K1 h2 R2 F2)))
      refine tr_in k6 ?_
      by_cases k7 : mm_i h 0 (mm_n (nI t)) &&& 31 = 7
      · refine tr_ip k7 ?_
        refine tr_ip m1 (?_)
        refine W.two (ng_close J) (cp_close O i) (fun h1 a1 l1 R1 K1 => ?_)
        rw [sk_l0 (l1.trans sh)]
        refine tr_ip m1 (?_)
        rw [a1 (mm_n (nI (t + 1)))]
        exact lw_ref (cq_close R1 Z J) (fun h2 R2 F2 => tr_ip rfl (next h2 (K1 h2 R2 F2)))
      refine tr_in k7 ?_
      by_cases k8 : mm_i h 0 (mm_n (nI t)) &&& 31 = 8
      · refine tr_ip k8 ?_
        refine tr_ip m1 (tr_ip m2 (?_))
        refine W.two (ng_carry J) (cp_carry O i) (fun h1 a1 l1 R1 K1 => ?_)
        rw [sk_l0 (l1.trans sh)]
        refine tr_ip m1 (tr_ip m2 (?_))
        rw [a1 (mm_n (nI (t + 1))), a1 (mm_n (nI (t + 2)))]
        exact lw_ref (cq_carry R1 Z J) (fun h2 R2 F2 => tr_ip rfl (next h2 (K1 h2 R2 F2)))
      refine tr_in k8 ?_
      by_cases k9 : mm_i h 0 (mm_n (nI t)) &&& 31 = 9
      · refine tr_ip k9 ?_
        refine tr_ip m1 (?_)
        refine W.two (ng_give J) (cp_give O i) (fun h1 a1 l1 R1 K1 => ?_)
        rw [sk_l0 (l1.trans sh)]
        refine tr_ip m1 (?_)
        rw [a1 (mm_n (nI (t + 1)))]
        exact lw_ref (cq_give R1 Z J) (fun h2 R2 F2 => tr_ip rfl (next h2 (K1 h2 R2 F2)))
      refine tr_in k9 ?_
      by_cases k10 : mm_i h 0 (mm_n (nI t)) &&& 31 = 10
      · refine tr_ip k10 ?_
        refine tr_ip m1 (tr_ip m2 (?_))
        refine W.two (ng_meddle J) (cp_meddle O i) (fun h1 a1 l1 R1 K1 => ?_)
        rw [sk_l0 (l1.trans sh)]
        refine tr_ip m1 (tr_ip m2 (?_))
        rw [a1 (mm_n (nI (t + 1))), a1 (mm_n (nI (t + 2)))]
        exact lw_ref (cq_meddle R1 Z J) (fun h2 R2 F2 => tr_ip rfl (next h2 (K1 h2 R2 F2)))
      refine tr_in k10 ?_
      by_cases k11 : mm_i h 0 (mm_n (nI t)) &&& 31 = 11
      · refine tr_ip k11 ?_
        refine tr_ip m1 (tr_ip m2 (tr_ip m3 (?_)))
        refine W.two (ng_alter J) (cp_alter O i) (fun h1 a1 l1 R1 K1 => ?_)
        rw [sk_l0 (l1.trans sh)]
        refine tr_ip m1 (tr_ip m2 (tr_ip m3 (?_)))
        rw [a1 (mm_n (nI (t + 1))), a1 (mm_n (nI (t + 2))), a1 (mm_n (nI (t + 3)))]
        exact lw_ref (cq_alter R1 Z J) (fun h2 R2 F2 => tr_ip rfl (next h2 (K1 h2 R2 F2)))
      refine tr_in k11 ?_
      by_cases k12 : mm_i h 0 (mm_n (nI t)) &&& 31 = 12
      · refine tr_ip k12 ?_
        refine tr_ip m1 (tr_ip m2 (tr_ip m3 (?_)))
        refine W.two (nG.id J) (cp_written O i) (fun h1 a1 l1 R1 K1 => ?_)
        rw [sk_l0 (l1.trans sh)]
        refine tr_ip m1 (tr_ip m2 (tr_ip m3 (?_)))
        rw [a1 (mm_n (nI (t + 1))), a1 (mm_n (nI (t + 2))), a1 (mm_n (nI (t + 3)))]
        exact lw_ref (cq_written R1 Z J) (fun h2 R2 F2 => tr_ip rfl (next h2 (K1 h2 R2 F2)))
      refine tr_in k12 ?_
      by_cases k13 : mm_i h 0 (mm_n (nI t)) &&& 31 = 13
      · refine tr_ip k13 ?_
        refine tr_ip m1 (tr_ip m2 (?_))
        refine W.two (nG.id J) (cp_given O i) (fun h1 a1 l1 R1 K1 => ?_)
        rw [sk_l0 (l1.trans sh)]
        refine tr_ip m1 (tr_ip m2 (?_))
        rw [a1 (mm_n (nI (t + 1))), a1 (mm_n (nI (t + 2)))]
        exact lw_ref (cq_given R1 Z J) (fun h2 R2 F2 => tr_ip rfl (next h2 (K1 h2 R2 F2)))
      refine tr_in k13 ?_
      by_cases k14 : mm_i h 0 (mm_n (nI t)) &&& 31 = 14
      · refine tr_ip k14 ?_
        refine tr_ip m1 (tr_ip m2 (tr_ip m3 (?_)))
        refine W.two (nG.id J) (cp_secret O i) (fun h1 a1 l1 R1 K1 => ?_)
        rw [sk_l0 (l1.trans sh)]
        refine tr_ip m1 (tr_ip m2 (tr_ip m3 (?_)))
        rw [a1 (mm_n (nI (t + 1))), a1 (mm_n (nI (t + 2))), a1 (mm_n (nI (t + 3)))]
        exact lw_ref (cq_secret R1 Z J) (fun h2 R2 F2 => tr_ip rfl (next h2 (K1 h2 R2 F2)))
      refine tr_in k14 ?_
      by_cases k15 : mm_i h 0 (mm_n (nI t)) &&& 31 = 15
      · refine tr_ip k15 ?_
        refine tr_ip m1 (tr_ip m2 (?_))
        refine W.two (nG.id J) (cp_state O i) (fun h1 a1 l1 R1 K1 => ?_)
        rw [sk_l0 (l1.trans sh)]
        refine tr_ip m1 (tr_ip m2 (?_))
        rw [a1 (mm_n (nI (t + 1))), a1 (mm_n (nI (t + 2)))]
        exact lw_ref (cq_state R1 Z J) (fun h2 R2 F2 => tr_ip rfl (next h2 (K1 h2 R2 F2)))
      refine tr_in k15 ?_
      by_cases k16 : mm_i h 0 (mm_n (nI t)) &&& 31 = 16
      · refine tr_ip k16 ?_
        refine tr_ip m1 (?_)
        refine W.two (nG.id J) (cp_hash O) (fun h1 a1 l1 R1 K1 => ?_)
        rw [sk_l0 (l1.trans sh)]
        refine tr_ip m1 (?_)
        rw [a1 (mm_n (nI (t + 1)))]
        exact lw_ref (cq_hash R1 Z J) (fun h2 R2 F2 => tr_ip rfl (next h2 (K1 h2 R2 F2)))
      refine tr_in k16 ?_
      by_cases k17 : mm_i h 0 (mm_n (nI t)) &&& 31 = 17
      · refine tr_ip k17 ?_
        refine tr_ip m1 (?_)
        refine W.two (nG.id J) (cp_about O) (fun h1 a1 l1 R1 K1 => ?_)
        rw [sk_l0 (l1.trans sh)]
        refine tr_ip m1 (?_)
        rw [a1 (mm_n (nI (t + 1)))]
        exact lw_ref (cq_about R1) (fun h2 R2 F2 => tr_ip rfl (next h2 (K1 h2 R2 F2)))
      refine tr_in k17 ?_
      exact next h ⟨s, W⟩
    · exact tr_ip (lw_end hL ht c) (tr_mk ⟨rfl, sh⟩)
