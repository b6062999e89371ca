/-! ===== the reference's HKDF, schedule, transcript, proofs ===== -/
theorem lb_r (x : Int32) : lb x < 21 ∧ 10 ≤ lb x := by
  unfold lb
  (repeat' split) <;> decide
theorem hki_by {n : Nat} {x : Int32} {ctx : List Int32} (hc : lby ctx) : lby (hk_i n (tx_l (lb x)) ctx) := by
  obtain ⟨h1, h2⟩ := lb_r x
  unfold hk_i
  exact (((((((num_by _ _).app (lby.one (and255 _))).app (tx_b 11 (by decide) (by decide))).app (tx_b _ h1 h2)).app (lby.one (and255 _))).app hc).app (lby.one (by decide)))
theorem hki_ln (n : Nat) (lab ctx : List Int32) : (hk_i n lab ctx).length = 11 + lab.length + ctx.length := by
  have t6 : (tx_l 11).length = 6 := (by decide +kernel)
  unfold hk_i
  simp only [List.length_append, rr_num_len, List.length_singleton, t6]; omega
section REX
variable {L : Nat} {h : mm_H} {f : mm_H → mm_O} {g : Int32 → mm_H → mm_O} {Q : Option Value → mm_H → Prop}
theorem dq_sk {b k n j : Nat} {x v : Int32} (h32 : 32 ≤ b) (hl : mm_ln h b = n) (ex : x = nI k) (hk : k < n) (hn : n ≤ 100000) (K : ∀ h', dF (zo b j) h h' → h'.2.1 b j = v → tr (f h') Q) : tr (if 32 ≤ b ∧ mm_in x (mm_ln h b) = true then mm_bh (mm_si h b j v) f else none) Q := by
  rw [if_pos ⟨h32, dq_in hl ex hk hn⟩, mm_bh]
  exact K _ dF.si mi_eq
theorem dr_expand {a1 a4 a6 fr p n : Nat} {x2 x3 x5 x7 x8 : Int32} {sec ctx : List Int32} (B : rB L h) (bl : bs h a1 fr sec) (hs : sec.length = 32) (bc : bs h a4 0 ctx) (hc : lby ctx) (hcl : ctx.length ≤ 32) (n1 : 490 < a1 ∧ (a1 < 520 ∨ 526 < a1)) (n4 : 490 < a4 ∧ (a4 < 520 ∨ 526 < a4)) (n6 : 490 < a6 ∧ a6 ≠ 519 ∧ a6 ≠ 527 ∧ (a6 < 520 ∨ 526 < a6)) (hn : n = 32 ∨ n = 12) (na nm nb : Nat) (e1 : mm_ln h a1 = na) (la : fr + 32 ≤ na) (la2 : na ≤ 90000) (e4 : mm_ln h a4 = nm) (lm : ctx.length ≤ nm) (lm2 : nm ≤ 90000) (e6 : mm_ln h a6 = nb) (lb6 : p + n ≤ nb) (lb2 : nb ≤ 90000) (ex2 : x2 = nI fr) (ex5 : x5 = nI ctx.length) (ex7 : x7 = nI p) (ex8 : x8 = nI n) (K : ∀ h', bs h' a6 p (hk_e sec (tx_l (lb x3)) ctx n) → dF (zz a6 p n) h h' → tr (f h') Q) : tr (mm_qv (bd_X12_expand 490 a1 x2 x3 a4 x5 a6 x7 x8 h) f) Q := by
  refine tr_v (p := fun h' => bs h' a6 p (hk_e sec (tx_l (lb x3)) ctx n) ∧ dF (zz a6 p n) h h') ?_ (fun h' q => K h' q.1 q.2)
  obtain ⟨lr1, lr2⟩ := lb_r x3
  have t12 := (tx_n _ lr1 lr2).1
  have t6 : (tx_l 11).length = 6 := (by decide +kernel)
  generalize hlab : tx_l (lb x3) = lab at t12
  have hlb : lby lab := by rw [← hlab]; exact tx_b _ lr1 lr2
  unfold bd_X12_expand
  refine dq_fd (fun h1 F1 v1 => ?_)
  refine dr_label (B.1.F F1) v1 (fun h3 F3 v3 b3 => ?_)
  rw [hlab] at v3 b3
  have T3 := (B.1.F F1).F F3
  refine tr_gr T3.r36 (dq_st (by decide) T3.l525 rfl (k := 0) (by decide) (by decide) (fun h12 F12 w0 => ?_))
  have T12 := T3.F F12
  refine tr_gr T12.r36 (dq_st (by decide) T12.l525 rfl (k := 1) (by decide) (by decide) (fun h17 F17 w1 => ?_))
  have T17 := T12.F F17
  rw [F17.i (a := 490) (k := 37) (by omega), F12.i (a := 490) (k := 37) (by omega), v3]
  refine tr_gr T17.r36 (dq_st (by decide) T17.l525 rfl (k := 2) (by decide) (by decide) (fun h22 F22 w2 => ?_))
  have T22 := T17.F F22
  have i22 : mm_i h22 490 37 = nI (9 + lab.length) := by rw [F22.i (a := 490) (k := 37) (by omega), F17.i (a := 490) (k := 37) (by omega), F12.i (a := 490) (k := 37) (by omega), v3]
  refine tr_gr T22.r36 (dq_st (by decide) T22.l525 i22 (by omega) (by decide) (fun h27 F27 w3 => ?_))
  have T27 := T22.F F27
  rw [F27.i (a := 490) (k := 37) (by omega), i22, nI_1]
  refine dq_fd (fun h29 F29 i29 => ?_)
  have T29 := T27.F F29
  have G29 := ((((((F1.c F3).c F12).c F17).c F22).c F27).c F29).mo (S := fun a k => (a = 490 ∧ k = 37) ∨ a = 525) (fun a k z => by omega)
  refine tr_gr T29.r36 ?_
  refine dr_mv (bc.F G29 (fun k _ _ => (by omega))) (Or.inl (by omega)) (by decide) nm 100 (by rw [G29.ln]; exact e4) T29.l525 (by omega) (j := 9 + lab.length + 1) (by omega) (by omega) (by decide) rfl i29 ex5 (by omega) (fun h33 b33 F33 => ?_)
  have T33 := T29.F F33
  rw [show mm_i h33 490 37 = nI (9 + lab.length + 1) from by rw [F33.i (by omega)]; exact i29, ex5, nI_add]
  refine dq_fd (fun h39 F39 i39 => ?_)
  have T39 := T33.F F39
  refine tr_gr T39.r36 (dq_st (by decide) T39.l525 i39 (by omega) (by decide) (fun h44 F44 w4 => ?_))
  have T44 := T39.F F44
  rw [show mm_i h44 490 37 = nI (9 + lab.length + 1 + ctx.length) from by rw [F44.i (by omega)]; exact i39, nI_1]
  refine dq_fd (fun h46 F46 i46 => ?_)
  have T46 := T44.F F46
  have G46 := (G29.c (((F33.c F39).c F44).c F46)).mo (S := fun a k => (a = 490 ∧ k = 37) ∨ a = 525) (fun a k z => by omega)
  have B46 : rB L h46 := B.F G46 (fun a k z => by omega)
  -- what lies in info
  have R1 : dF (fun a k => a = 490 ∨ (a = 525 ∧ 9 + lab.length ≤ k)) h22 h46 := (F27.c (F29.c (F33.c (F39.c (F44.c F46))))).mo (fun a k z => by omega)
  have p0 : h46.2.1 525 0 = mm_b8 0 := by rw [R1.2.2 525 0 (by omega), F22.2.2 525 0 (by omega), F17.2.2 525 0 (by omega)]; exact w0
  have p1 : h46.2.1 525 1 = mm_b8 x8 := by rw [R1.2.2 525 1 (by omega), F22.2.2 525 1 (by omega), w1, b8_b8]
  have p2 : h46.2.1 525 2 = mm_b8 (nI (6 + lab.length) &&& 255) := by
    rw [R1.2.2 525 2 (by omega), w2, b8_b8, b8_a, show nI (9 + lab.length) - 3 = nI (6 + lab.length) from by rw [show ((3 : Int32)) = nI 3 from rfl, nI_sb (by omega)]; congr 1; omega]
  have p3 : bs h46 525 3 (tx_l 11 ++ lab) := by
    refine b3.F (((F12.c F17).c F22).c R1) (fun k z1 z2 => ?_)
    rw [List.length_append, t6] at z2
    omega
  have R2 : dF (fun a k => a = 490 ∨ (a = 525 ∧ 10 + lab.length ≤ k)) h27 h46 := (F29.c (F33.c (F39.c (F44.c F46)))).mo (fun a k z => by omega)
  have p4 : h46.2.1 525 (9 + lab.length) = mm_b8 (nI ctx.length &&& 255) := by rw [R2.2.2 525 _ (by omega), w3, b8_b8, ex5, b8_a]
  have p5 : bs h46 525 (9 + lab.length + 1) ctx := b33.F (F39.c (F44.c F46)) (fun k z1 z2 => by omega)
  have p6 : h46.2.1 525 (9 + lab.length + 1 + ctx.length) = mm_b8 1 := by rw [F46.2.2 525 _ (by omega)]; exact w4
  have pn : bs h46 525 0 (rr_num (nI n) 2) := by
    have e : rr_num (nI n) 2 = [0] ++ [x8] := by
      rw [ex8]
      rcases hn with rfl | rfl <;> decide
    rw [e]
    exact (bs.one p0).app (bs.one p1)
  have bi : bs h46 525 0 (hk_i n lab ctx) := by
    unfold hk_i
    have q3 : bs h46 525 0 (rr_num (nI n) 2 ++ [nI (6 + lab.length) &&& 255]) := pn.app (by rw [rr_num_len]; exact bs.one p2)
    have q4 : bs h46 525 0 (rr_num (nI n) 2 ++ [nI (6 + lab.length) &&& 255] ++ tx_l 11 ++ lab) := by
      rw [List.append_assoc _ (tx_l 11) lab]
      exact q3.app (by rw [List.length_append, rr_num_len]; exact p3)
    have l4 : (rr_num (nI n) 2 ++ [nI (6 + lab.length) &&& 255] ++ tx_l 11 ++ lab).length = 9 + lab.length := by
      simp only [List.length_append, rr_num_len, List.length_singleton, t6]
    have q5 := q4.app (m := [nI ctx.length &&& 255]) (by rw [l4, Nat.zero_add]; exact bs.one p4)
    have q6 := q5.app (m := ctx) (by rw [List.length_append, l4, Nat.zero_add]; exact p5)
    exact q6.app (m := [1]) (by rw [List.length_append, List.length_append, l4, Nat.zero_add]; exact bs.one p6)
  refine tr_gr T46.r36 (tr_gr T46.r38 ?_)
  refine dr_sign B46 (bl.F G46 (fun k _ _ => (by omega))) (by omega) bi (by rw [← hlab]; exact hki_by hc) (by rw [hki_ln]; omega) (by omega) (by decide) (by decide) (by decide) na 100 32 (by rw [G46.ln]; exact e1) (by omega) la2 B46.1.l525 (by rw [hki_ln]; omega) (by decide) B46.1.l526 (by decide) (by decide) ex2 (by rw [hs]; rfl) rfl (by rw [hki_ln]; exact i46.trans (by congr 1; omega)) rfl (fun h52 b52 F52 => ?_)
  have B52 : rB L h52 := B46.F F52 (fun a k z => by omega)
  refine tr_gr B52.1.r38 ?_
  have eh : (hk_e sec lab ctx n).length = n := hk_e_ln _ _ _ (by omega)
  refine dr_mv (i := 0) (l := hk_e sec lab ctx n) (by unfold hk_e; exact b52.take) (Or.inl (by omega)) (by omega) 32 nb B52.1.l526 (by rw [F52.ln, G46.ln]; exact e6) (by rw [eh]; omega) (by rw [eh]; omega) (by decide) lb2 rfl ex7 (by rw [eh]; exact ex8) (by rw [eh]; omega) (fun h60 b60 F60 => ?_)
  rw [eh] at F60
  exact tr_mk ⟨rfl, b60, ((G46.c F52).c F60).mo (fun a k z => by omega)⟩
theorem ks_z_ln : ks_z.length = 32 := by unfold ks_z; simp
theorem ks_z_by : lby ks_z := fun x hx => by rw [List.eq_of_mem_replicate hx]; decide
theorem ks_z_bs (B : rB L h) : bs h 527 0 ks_z := fun k hk => by
  rw [ks_z_ln] at hk
  rw [B.2.2, (by decide +kernel : ∀ k, k < 32 → ks_z.getD k 0 = 0) k hk]
  decide
abbrev zb (e a k : Nat) : Prop := (520 ≤ a ∧ a ≤ 526) ∨ (a = 490 ∧ k = 37) ∨ (528 ≤ a ∧ a ≤ 531) ∨ (a = 514 ∧ 32 * e ≤ k ∧ k < 32 * e + 32)
theorem dr_sched {e : Nat} {psk : List Int32} (B : rB L h) (he : e < 4) (bp : bs h 494 (64 * e) psk) (hp : lby psk) (hl : psk.length ≤ 64) (ip : mm_i h 495 e = nI psk.length) (K : ∀ h', bs h' 528 0 (sh_a []) → bs h' 529 0 (ks_e psk) → bs h' 530 0 (ks_h psk) → bs h' 514 (32 * e) (ks_m psk) → dF (zb e) h h' → tr (f h') Q) : tr (mm_qv (bd_X12_beginSchedule 490 (nI e) h) f) Q := by
  refine tr_v (p := fun h' => bs h' 528 0 (sh_a []) ∧ bs h' 529 0 (ks_e psk) ∧ bs h' 530 0 (ks_h psk) ∧ bs h' 514 (32 * e) (ks_m psk) ∧ dF (zb e) h h') ?_ (fun h' q => K h' q.1 q.2.1 q.2.2.1 q.2.2.2.1 q.2.2.2.2)
  have e12 : lb 0 = 12 := by decide
  unfold bd_X12_beginSchedule
  refine tr_gr B.1.r39 (tr_gr B.1.r40 ?_)
  refine dr_sumz (l := []) B bs.nil lby.nil (by decide) (by decide) (by decide) (by decide) 32 32 B.1.l527 (by decide) (by decide) B.1.l528 (by decide) (by decide) rfl rfl rfl (fun h1 b1 F1 => ?_)
  have B1 : rB L h1 := B.F F1 (fun a k z => by omega)
  refine tr_gr B1.1.r39 (tr_gr B1.1.r5 (tr_gr B1.1.r6 ?_))
  refine tr_ip (dq_in B1.1.l495 rfl he (by decide)) (tr_gr B1.1.r41 ?_)
  rw [rr_n (by omega), F1.i (a := 495) (k := e) (by omega), ip, show (64 : Int32) * nI e = nI (64 * e) from pk_mul 64 e, show (32 : Int32) * nI e = nI (32 * e) from pk_mul 32 e]
  refine dr_sign B1 (ks_z_bs B1) (by rw [ks_z_ln]; decide) (bp.F F1 (fun k _ _ => (by omega))) hp (by omega) (by decide) (by decide) (by decide) (by decide) 32 256 32 B1.1.l527 (by rw [ks_z_ln]; decide) (by decide) B1.1.l494 (by omega) (by decide) B1.1.l529 (by decide) (by decide) rfl (by rw [ks_z_ln]; rfl) rfl rfl rfl (fun h2 b2 F2 => ?_)
  have B2 : rB L h2 := B1.F F2 (fun a k z => by omega)
  have c1 := b1.F F2 (fun k _ _ => (by omega))
  refine tr_gr B2.1.r41 (tr_gr B2.1.r40 (tr_gr B2.1.r43 ?_))
  have e2 : (ks_e psk).length = 32 := hm_m_len _ _
  refine dr_expand (sec := ks_e psk) (ctx := sh_a []) B2 b2 e2 c1 (sha_by _) (by rw [sh_a_len]; decide) (by decide) (by decide) (by decide) (Or.inl rfl) 32 32 32 B2.1.l529 (by decide) (by decide) B2.1.l528 (by rw [sh_a_len]; decide) (by decide) B2.1.l531 (by decide) (by decide) rfl (by rw [sh_a_len]; rfl) rfl rfl (fun h3 b3 F3 => ?_)
  rw [e12] at b3
  have B3 : rB L h3 := B2.F F3 (fun a k z => by omega)
  refine tr_gr B3.1.r43 (tr_gr B3.1.r39 (tr_gr B3.1.r42 ?_))
  have e3 : (hk_e (ks_e psk) (tx_l 12) (sh_a []) 32).length = 32 := hk_e_ln _ _ _ (by omega)
  refine dr_sign B3 b3 (by rw [e3]; decide) (ks_z_bs B3) ks_z_by (by rw [ks_z_ln]; decide) (by decide) (by decide) (by decide) (by decide) 32 32 32 B3.1.l531 (by rw [e3]; decide) (by decide) B3.1.l527 (by rw [ks_z_ln]; decide) (by decide) B3.1.l530 (by decide) (by decide) rfl (by rw [e3]; rfl) rfl (by rw [ks_z_ln]; rfl) rfl (fun h4 b4 F4 => ?_)
  have B4 : rB L h4 := B3.F F4 (fun a k z => by omega)
  have c3 := c1.F (F3.c F4) (fun k _ _ => (by omega))
  have b4' : bs h4 530 0 (ks_h psk) := b4
  refine tr_gr B4.1.r42 (tr_gr B4.1.r40 (tr_gr B4.1.r43 ?_))
  refine dr_expand (sec := ks_h psk) (ctx := sh_a []) B4 b4' (hm_m_len _ _) c3 (sha_by _) (by rw [sh_a_len]; decide) (by decide) (by decide) (by decide) (Or.inl rfl) 32 32 32 B4.1.l530 (by decide) (by decide) B4.1.l528 (by rw [sh_a_len]; decide) (by decide) B4.1.l531 (by decide) (by decide) rfl (by rw [sh_a_len]; rfl) rfl rfl (fun h5 b5 F5 => ?_)
  rw [e12] at b5
  have B5 : rB L h5 := B4.F F5 (fun a k z => by omega)
  refine tr_gr B5.1.r43 (tr_gr B5.1.r39 (tr_gr B5.1.r25 ?_))
  have e5 : (hk_e (ks_h psk) (tx_l 12) (sh_a []) 32).length = 32 := hk_e_ln _ _ _ (by omega)
  refine dr_sign B5 b5 (by rw [e5]; decide) (ks_z_bs B5) ks_z_by (by rw [ks_z_ln]; decide) (by decide) (by decide) (by decide) (by decide) 32 32 128 B5.1.l531 (by rw [e5]; decide) (by decide) B5.1.l527 (by rw [ks_z_ln]; decide) (by decide) B5.1.l514 (by omega) (by decide) rfl (by rw [e5]; rfl) rfl (by rw [ks_z_ln]; rfl) rfl (fun h6 b6 F6 => ?_)
  refine tr_mk ⟨rfl, c3.F (F5.c F6) (fun k _ _ => (by omega)), (b2.F ((F3.c F4).c (F5.c F6)) (fun k _ _ => (by omega))), b4'.F (F5.c F6) (fun k _ _ => (by omega)), b6, ?_⟩
  exact (((((F1.c F2).c F3).c F4).c F5).c F6).mo (fun a k z => by omega)
theorem dr_hear {e : Nat} {t : List Int32} (B : rB L h) (he : e < 4) (bt : bs h 509 (400 * e) t) (hb : lby t) (hl : t.length ≤ 400) (it : mm_i h 510 e = nI t.length) (K : ∀ h', bs h' 532 0 (sh_a t) → dF (zs 532 0 32) h h' → tr (f h') Q) : tr (mm_qv (bd_X12_hear 490 (nI e) h) f) Q := by
  refine tr_v (p := fun h' => bs h' 532 0 (sh_a t) ∧ dF (zs 532 0 32) h h') ?_ (fun h' q => K h' q.1 q.2)
  unfold bd_X12_hear
  refine tr_gr B.1.r20 (tr_gr B.1.r21 ?_)
  refine tr_ip (dq_in B.1.l510 rfl he (by decide)) (tr_gr B.1.r44 ?_)
  rw [rr_n (by omega), it, show (400 : Int32) * nI e = nI (400 * e) from pk_mul 400 e]
  exact dr_sumz B bt hb (by decide) (by decide) (by decide) (by omega) 1600 32 B.1.l509 (by omega) (by decide) B.1.l532 (by decide) (by decide) rfl rfl rfl (fun h1 b1 F1 => tr_mk ⟨rfl, b1, F1⟩)
abbrev zt (e t n a k : Nat) : Prop := (a = 509 ∧ 400 * e + t ≤ k ∧ k < 400 * e + t + n) ∨ (a = 510 ∧ k = e)
theorem dr_append {e a2 i na : Nat} {x3 x4 : Int32} {t l : List Int32} (B : rB L h) (he : e < 4) (bt : bs h 509 (400 * e) t) (hl : t.length + l.length ≤ 400) (it : mm_i h 510 e = nI t.length) (bl : bs h a2 i l) (n2 : a2 ≠ 509) (e2 : mm_ln h a2 = na) (la : i + l.length ≤ na) (la2 : na ≤ 90000) (ex3 : x3 = nI i) (ex4 : x4 = nI l.length) (K : ∀ h', bs h' 509 (400 * e) (t ++ l) → mm_i h' 510 e = nI (t ++ l).length → dF (zt e t.length l.length) h h' → tr (f h') Q) : tr (mm_qv (bd_X12_append 490 (nI e) a2 x3 x4 h) f) Q := by
  refine tr_v (p := fun h' => bs h' 509 (400 * e) (t ++ l) ∧ mm_i h' 510 e = nI (t ++ l).length ∧ dF (zt e t.length l.length) h h') ?_ (fun h' q => K h' q.1 q.2.1 q.2.2)
  unfold bd_X12_append
  refine tr_gr B.1.r20 (tr_gr B.1.r21 ?_)
  refine tr_ip (dq_in B.1.l510 rfl he (by decide)) ?_
  rw [rr_n (by omega), it, show (400 : Int32) * nI e = nI (400 * e) from pk_mul 400 e, nI_add]
  refine dr_mv bl (Or.inl n2) (by decide) na 1600 e2 B.1.l509 la (by omega) la2 (by decide) ex3 rfl ex4 (by omega) (fun h1 b1 F1 => ?_)
  have B1 : rB L h1 := B.F F1 (fun a k z => by omega)
  refine tr_gr B1.1.r21 (tr_ip (dq_in B1.1.l510 rfl he (by decide)) ?_)
  rw [show mm_i h1 510 e = nI t.length from by rw [F1.i (by omega)]; exact it, ex4, nI_add]
  refine dq_sk (by decide) B1.1.l510 rfl he (by decide) (fun h2 F2 w2 => ?_)
  refine tr_mk ⟨rfl, ?_, by rw [List.length_append]; exact w2, (F1.c F2).mo (fun a k z => by omega)⟩
  exact (bt.F (F1.c F2) (fun k z1 z2 => by omega)).app (b1.F F2 (fun k _ _ => (by omega)))
abbrev zp (b p a k : Nat) : Prop := (520 ≤ a ∧ a ≤ 526) ∨ (a = 490 ∧ k = 37) ∨ (532 ≤ a ∧ a ≤ 533) ∨ (a = b ∧ p ≤ k ∧ k < p + 32)
theorem dr_prove {e a2 a3 p nb : Nat} {x4 : Int32} {t sec : List Int32} (B : rB L h) (he : e < 4) (bt : bs h 509 (400 * e) t) (hb : lby t) (hl : t.length ≤ 400) (it : mm_i h 510 e = nI t.length) (b2 : bs h a2 (32 * e) sec) (h2 : sec.length = 32) (n2 : a2 = 511 ∨ a2 = 512) (n3 : a3 = 531) (e3 : mm_ln h a3 = nb) (l3 : p + 32 ≤ nb) (nb2 : nb ≤ 90000) (ex4 : x4 = nI p) (K : ∀ h', bs h' a3 p (ks_p sec t) → dF (zp a3 p) h h' → tr (f h') Q) : tr (mm_qv (bd_X12_prove 490 (nI e) a2 a3 x4 h) f) Q := by
  refine tr_v (p := fun h' => bs h' a3 p (ks_p sec t) ∧ dF (zp a3 p) h h') ?_ (fun h' q => K h' q.1 q.2)
  unfold bd_X12_prove
  refine dr_hear B he bt hb hl it (fun h1 b1 F1 => ?_)
  have B1 : rB L h1 := B.F F1 (fun a k z => by omega)
  refine tr_gr B1.1.r40 (tr_gr B1.1.r45 ?_)
  rw [show (32 : Int32) * nI e = nI (32 * e) from pk_mul 32 e]
  have l2 : mm_ln h1 a2 = 128 := by
    rcases n2 with rfl | rfl
    · exact B1.1.l511
    · exact B1.1.l512
  refine dr_expand (sec := sec) (ctx := []) B1 (b2.F F1 (fun k _ _ => (by omega))) h2 bs.nil lby.nil (by decide) (by omega) (by decide) (by decide) (Or.inl rfl) 128 32 32 l2 (by omega) (by decide) B1.1.l528 (by decide) (by decide) B1.1.l533 (by decide) (by decide) rfl rfl rfl rfl (fun h3 b3 F3 => ?_)
  rw [show lb 7 = 13 from by decide] at b3
  have B3 : rB L h3 := B1.F F3 (fun a k z => by omega)
  refine tr_gr B3.1.r45 (tr_gr B3.1.r44 ?_)
  have e4 : (hk_e sec (tx_l 13) [] 32).length = 32 := hk_e_ln _ _ _ (by omega)
  refine dr_sign B3 b3 (by rw [e4]; decide) (b1.F F3 (fun k _ _ => (by omega))) (sha_by _) (by rw [sh_a_len]; decide) (by decide) (by decide) (by omega) (by omega) 32 32 nb B3.1.l533 (by rw [e4]; decide) (by decide) B3.1.l532 (by rw [sh_a_len]; decide) (by decide) (by rw [F3.ln, F1.ln]; exact e3) l3 nb2 rfl (by rw [e4]; rfl) rfl (by rw [sh_a_len]; rfl) ex4 (fun h5 b5 F5 => ?_)
  exact tr_mk ⟨rfl, b5, ((F1.c F3).c F5).mo (fun a k z => by omega)⟩
end REX
