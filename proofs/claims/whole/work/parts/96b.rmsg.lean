/-! ===== the reference says messages ===== -/
theorem rA.ll {h h' : mm_H} {s : sT} {e b : Nat} {x y : List Int32} (A : rA h s e b) (F : dF (fun a k => ((515 ≤ a ∧ a ≤ 518) ∧ k = e) ∨ ((a = 511 ∨ a = 512) ∧ 32 * e ≤ k ∧ k < 32 * e + 32)) h h') (wb : bs h' 511 (32 * e) y) (ly : y.length = 32) (w4 : mm_i h' 515 e = 1) (w3 : mm_i h' 517 e = 0) (ub : bs h' 512 (32 * e) x) (lx : x.length = 32) (u4 : mm_i h' 516 e = 1) (u3 : mm_i h' 518 e = 0) : rA h' (mLoad (mLoad s (b + 76) x) (b + 69) y) e b := by
  obtain ⟨c0, c1, c2, c3, c4, c5, c6, c7, c8, c9, c10, c11, c12, c13, c14, c15, c16, c17, c18, c19, c20, c21⟩ := A
  exact ⟨by rw [F.i (by omega), mlo (by omega), mlo (by omega)]; exact c0, by rw [F.i (by omega), mlo (by omega), mlo (by omega)]; exact c1, by rw [F.i (by omega), mLoad_off (by omega) (by omega) (by omega), mLoad_off (by omega) (by omega) (by omega)]; exact c2, by rw [mLoad_off (by omega) (by omega) (by omega), mLoad_off (by omega) (by omega) (by omega)]; exact c3.F F (fun k z1 z2 => (by omega)), by rw [F.i (by omega), mLoad_off (by omega) (by omega) (by omega), mLoad_off (by omega) (by omega) (by omega)]; exact c4, by rw [mLoad_off (by omega) (by omega) (by omega), mLoad_off (by omega) (by omega) (by omega)]; exact c5.F F (fun k z1 z2 => (by omega)), by rw [F.i (by omega), mLoad_off (by omega) (by omega) (by omega), mLoad_off (by omega) (by omega) (by omega)]; exact c6, by rw [mLoad_off (by omega) (by omega) (by omega), mLoad_off (by omega) (by omega) (by omega)]; exact c7.F F (fun k z1 z2 => (by omega)), by rw [F.i (by omega), mlo (by omega), mlo (by omega)]; exact c8, by rw [F.i (by omega), mlo (by omega), mlo (by omega)]; exact c9, by rw [F.i (by omega), mlo (by omega), mlo (by omega)]; exact c10, by rw [F.i (by omega), mlo (by omega), mlo (by omega)]; exact c11, by rw [F.i (by omega)]; exact c12, fun k l z => ⟨by rw [F.i (by omega)]; exact (c13 k l z).1, (c13 k l z).2.F F (fun j z3 z4 => (by omega))⟩, by rw [F.i (by omega), mLoad_off (by omega) (by omega) (by omega), mLoad_off (by omega) (by omega) (by omega)]; exact c14, by rw [mLoad_off (by omega) (by omega) (by omega), mLoad_off (by omega) (by omega) (by omega)]; exact c15.F F (fun k z1 z2 => (by omega)), by rw [ml4]; exact w4, by rw [ml3]; exact w3, fun z => by rw [show (mLoad (mLoad s (b + 76) x) (b + 69) y).1 (b + 70) = y from mLoad_1]; exact ⟨wb, ly⟩, by rw [mlo (by omega), ml4]; exact u4, by rw [mlo (by omega), ml3]; exact u3, fun z => by rw [mLoad_off (by omega) (by omega) (by omega), show (mLoad s (b + 76) x).1 (b + 77) = x from mLoad_1]; exact ⟨ub, lx⟩⟩
theorem rA.S {S : Nat → Nat → Prop} {h h' : mm_H} {s : sT} {e b : Nat} (A : rA h s e b) (F : dF S h h') (n : ∀ a k, 492 ≤ a ∧ a ≤ 518 ∧ a ≠ 509 ∧ a ≠ 510 ∧ a ≠ 513 ∧ a ≠ 514 → ¬ S a k) : rA h' s e b := by
  obtain ⟨c0, c1, c2, c3, c4, c5, c6, c7, c8, c9, c10, c11, c12, c13, c14, c15, c16, c17, c18, c19, c20, c21⟩ := A
  exact ⟨by rw [F.i (n _ _ (by omega))]; exact c0, by rw [F.i (n _ _ (by omega))]; exact c1, by rw [F.i (n _ _ (by omega))]; exact c2, c3.F F (fun k z1 z2 => n _ _ (by omega)), by rw [F.i (n _ _ (by omega))]; exact c4, c5.F F (fun k z1 z2 => n _ _ (by omega)), by rw [F.i (n _ _ (by omega))]; exact c6, c7.F F (fun k z1 z2 => n _ _ (by omega)), by rw [F.i (n _ _ (by omega))]; exact c8, by rw [F.i (n _ _ (by omega))]; exact c9, by rw [F.i (n _ _ (by omega))]; exact c10, by rw [F.i (n _ _ (by omega))]; exact c11, by rw [F.i (n _ _ (by omega))]; exact c12, fun k l z => ⟨by rw [F.i (n _ _ (by omega))]; exact (c13 k l z).1, (c13 k l z).2.F F (fun j z3 z4 => n _ _ (by omega))⟩, by rw [F.i (n _ _ (by omega))]; exact c14, c15.F F (fun k z1 z2 => n _ _ (by omega)), by rw [F.i (n _ _ (by omega))]; exact c16, by rw [F.i (n _ _ (by omega))]; exact c17, fun z => ⟨(c18 z).1.F F (fun k z1 z2 => n _ _ (by omega)), (c18 z).2⟩, by rw [F.i (n _ _ (by omega))]; exact c19, by rw [F.i (n _ _ (by omega))]; exact c20, fun z => ⟨(c21 z).1.F F (fun k z1 z2 => n _ _ (by omega)), (c21 z).2⟩⟩
theorem sh0 : ∀ m, m < 256 → mm_shr (nI m) 8 &&& 255 = 0 := by decide +kernel
theorem sdr_ln {M : Nat → List Int32} {I : Nat → Nat → Int32} {b : Nat} {x : Int32} {l : List Int32} : (sd_r M I b x l).length ≤ l.length + 22 := by
  unfold sd_r
  by_cases c : I (b + 69) 4 = 0
  · rw [if_pos c]; unfold rc_p; simp [rr_num_len]; omega
  · rw [if_neg c, sl_s_ln]; unfold rc_b; simp [rr_num_len]; omega
theorem mSend_mI {s : sT} {b k : Nat} {x v : Int32} {l : List Int32} : mSend (mI s b k v) b x l = mI (mSend s b x l) b k v := by
  have e1 : va_up s.2.1 b (upd (s.2.1 b) k v) (b + 69) = s.2.1 (b + 69) := vu_off (by omega)
  have e2 : sd_I (va_up s.2.1 b (upd (s.2.1 b) k v)) b = va_up (sd_I s.2.1 b) b (upd (sd_I s.2.1 b b) k v) := by
    rw [sdI_o (b := b) (a := b) (I := s.2.1) (by omega)]
    unfold sd_I
    rw [e1]
    by_cases c : s.2.1 (b + 69) 4 = 0
    · rw [if_pos c, if_pos c]
    · rw [if_neg c, if_neg c]
      funext a
      by_cases a1 : a = b
      · subst a1; rw [vu_off (by omega), vu_at, vu_at]
      · by_cases a2 : a = b + 69
        · subst a2; rw [vu_at, vu_off (by omega), vu_at]
        · rw [vu_off a2, vu_off a1, vu_off a1, vu_off a2]
  have e3 : sd_r s.1 (va_up s.2.1 b (upd (s.2.1 b) k v)) b x l = sd_r s.1 s.2.1 b x l := by
    unfold sd_r; rw [e1]
  show (s.1, sd_I (va_up s.2.1 b (upd (s.2.1 b) k v)) b, va_up s.2.2 b (s.2.2 b ++ [sd_r s.1 (va_up s.2.1 b (upd (s.2.1 b) k v)) b x l])) = _
  rw [e2, e3]
  rfl
/-- what END e has heard -/
def rT (h : mm_H) (t : List Int32) (e : Nat) : Prop := mm_i h 510 e = nI t.length ∧ bs h 509 (400 * e) t
theorem rT.F {S : Nat → Nat → Prop} {h h' : mm_H} {t : List Int32} {e : Nat} (R : rT h t e) (F : dF S h h') (hl : t.length ≤ 400) (n : ∀ a k, (a = 510 ∧ k = e) ∨ (a = 509 ∧ 400 * e ≤ k ∧ k < 400 * e + 400) → ¬ S a k) : rT h' t e := ⟨by rw [F.i (n _ _ (by omega))]; exact R.1, R.2.F F (fun k z1 z2 => n _ _ (by omega))⟩
abbrev zM (e a k : Nat) : Prop := (520 ≤ a ∧ a ≤ 526) ∨ (534 ≤ a ∧ a ≤ 545) ∨ (a = 490 ∧ (k = 37 ∨ k = 58)) ∨ (a = 504 ∧ 21120 * e ≤ k ∧ k < 21120 * e + 21120) ∨ (a = 505 ∧ 33 * e ≤ k ∧ k < 33 * e + 33) ∨ ((a = 506 ∨ a = 517 ∨ a = 510) ∧ k = e) ∨ (a = 509 ∧ 400 * e ≤ k ∧ k < 400 * e + 400)
section RMS
variable {L : Nat} {h : mm_H} {s : sT} {e b : Nat} {f : mm_H → mm_O} {g : Int32 → mm_H → mm_O} {Q : Option Value → mm_H → Prop}
theorem dr_endM1 {k z2 z3 : Int32} {body t : List Int32} (B : rB L h) (he : e < 4) (A : rA h s e b) (R : rT h t e) (ht : t.length + (4 + body.length) ≤ 400) (G : gO h ([k &&& 255, 0, z2, z3] ++ body)) (hb : lby body) (hp : (s.2.2 b).length < 32) (hz : ∀ z ∈ s.2.2 b, z.length ≤ 600) (ky : kI s (b + 69)) (K : ∀ h', rB L h' → rA h' (mSend s b 22 (ms_h k (nI body.length) ++ body)) e b → rT h' (t ++ (ms_h k (nI body.length) ++ body)) e → dF (zM e) h h' → tr (f h') Q) : tr (mm_qv (bd_X12_endMessage 490 (nI e) 1 h) f) Q := by
  refine tr_v (p := fun h' => rB L h' ∧ rA h' (mSend s b 22 (ms_h k (nI body.length) ++ body)) e b ∧ rT h' (t ++ (ms_h k (nI body.length) ++ body)) e ∧ dF (zM e) h h') ?_ (fun h' q => K h' q.1 q.2.1 q.2.2.1 q.2.2.2)
  have ln4 : ∀ y2 y3 : Int32, ([k &&& 255, 0, y2, y3] ++ body).length = 4 + body.length := fun y2 y3 => by simp; omega
  have g2 := G.2
  rw [ln4] at g2
  have T := B.1
  unfold bd_X12_endMessage
  rw [g2, show nI (4 + body.length) - 4 = nI body.length from by rw [show ((4 : Int32)) = nI 4 from rfl, nI_sb (by omega)]; congr 1; omega]
  refine tr_gr T.r57 (dq_st (by decide) T.l545 (k := 2) rfl (by decide) (by decide) (fun h1 F1 v1 => ?_))
  rw [F1.i (a := 490) (k := 58) (by omega), g2, show nI (4 + body.length) - 4 = nI body.length from by rw [show ((4 : Int32)) = nI 4 from rfl, nI_sb (by omega)]; congr 1; omega]
  have T1 := T.F F1
  refine tr_gr T1.r57 (dq_st (by decide) T1.l545 (k := 3) rfl (by decide) (by decide) (fun h2 F2 v2 => ?_))
  have G2 : gO h2 (ms_h k (nI body.length) ++ body) := by
    rw [msh_eq (by omega)]
    exact go_fix G F1 (by rw [v1, b8_b8, b8_a]) F2 (by rw [v2, b8_b8, b8_a])
  have lm : (ms_h k (nI body.length) ++ body).length = 4 + body.length := by rw [List.length_append, ms_h_ln]
  have hm : lby (ms_h k (nI body.length) ++ body) := by
    unfold ms_h
    exact ((lby.one (and255 _)).app (num_by _ _)).app hb
  generalize ms_h k (nI body.length) ++ body = m at G2 lm hm
  have B2 : rB L h2 := B.F (F1.c F2) (fun a k z => by omega)
  have A2 : rA h2 s e b := A.S (F1.c F2) (fun a k z => by omega)
  have R2 : rT h2 t e := R.F (F1.c F2) (by omega) (fun a k z => by omega)
  refine tr_in (by decide) (tr_gr B2.1.r57 ?_)
  refine dr_append B2 he R2.2 (by omega) R2.1 G2.1 (by decide) B2.1.l545 (by omega) (by decide) rfl G2.2 (fun h3 b3 i3 F3 => ?_)
  have B3 : rB L h3 := B2.F F3 (fun a k z => by omega)
  have A3 : rA h3 s e b := A2.S F3 (fun a k z => by omega)
  have G3 := G2.F F3 (fun a k z => by omega)
  unfold jn_X12_endMessage_47
  refine dr_write B3 he A3 G3 (by omega) hm hp hz ky (fun h4 B4 A4 F4 => ?_)
  refine tr_mk ⟨rfl, B4, A4, rT.F ⟨i3, b3⟩ F4 (by rw [List.length_append]; omega) (fun a k z => by omega), (((F1.c F2).c F3).c F4).mo (fun a k z => by omega)⟩
theorem dr_endM0 {k z2 z3 : Int32} {body : List Int32} (B : rB L h) (he : e < 4) (A : rA h s e b) (hbl : body.length ≤ 396) (G : gO h ([k &&& 255, 0, z2, z3] ++ body)) (hb : lby body) (hp : (s.2.2 b).length < 32) (hz : ∀ z ∈ s.2.2 b, z.length ≤ 600) (ky : kI s (b + 69)) (K : ∀ h', rB L h' → rA h' (mSend s b 22 (ms_h k (nI body.length) ++ body)) e b → dF (fun a k => zw e a k ∨ zy a k) h h' → tr (f h') Q) : tr (mm_qv (bd_X12_endMessage 490 (nI e) 0 h) f) Q := by
  refine tr_v (p := fun h' => rB L h' ∧ rA h' (mSend s b 22 (ms_h k (nI body.length) ++ body)) e b ∧ dF (fun a k => zw e a k ∨ zy a k) h h') ?_ (fun h' q => K h' q.1 q.2.1 q.2.2)
  have ln4 : ∀ y2 y3 : Int32, ([k &&& 255, 0, y2, y3] ++ body).length = 4 + body.length := fun y2 y3 => by simp; omega
  have g2 := G.2
  rw [ln4] at g2
  have T := B.1
  unfold bd_X12_endMessage
  rw [g2, show nI (4 + body.length) - 4 = nI body.length from by rw [show ((4 : Int32)) = nI 4 from rfl, nI_sb (by omega)]; congr 1; omega]
  refine tr_gr T.r57 (dq_st (by decide) T.l545 (k := 2) rfl (by decide) (by decide) (fun h1 F1 v1 => ?_))
  rw [F1.i (a := 490) (k := 58) (by omega), g2, show nI (4 + body.length) - 4 = nI body.length from by rw [show ((4 : Int32)) = nI 4 from rfl, nI_sb (by omega)]; congr 1; omega]
  have T1 := T.F F1
  refine tr_gr T1.r57 (dq_st (by decide) T1.l545 (k := 3) rfl (by decide) (by decide) (fun h2 F2 v2 => ?_))
  have G2 : gO h2 (ms_h k (nI body.length) ++ body) := by
    rw [msh_eq (by omega)]
    exact go_fix G F1 (by rw [v1, b8_b8, b8_a]) F2 (by rw [v2, b8_b8, b8_a])
  have lm : (ms_h k (nI body.length) ++ body).length = 4 + body.length := by rw [List.length_append, ms_h_ln]
  have hm : lby (ms_h k (nI body.length) ++ body) := by
    unfold ms_h
    exact ((lby.one (and255 _)).app (num_by _ _)).app hb
  generalize ms_h k (nI body.length) ++ body = m at G2 lm hm
  have B2 : rB L h2 := B.F (F1.c F2) (fun a k z => by omega)
  have A2 : rA h2 s e b := A.S (F1.c F2) (fun a k z => by omega)
  refine tr_ip rfl ?_
  unfold jn_X12_endMessage_47
  refine dr_write B2 he A2 G2 (by omega) hm hp hz ky (fun h4 B4 A4 F4 => ?_)
  exact tr_mk ⟨rfl, B4, A4, ((F1.c F2).c F4).mo (fun a k z => by omega)⟩
abbrev zi (e a k : Nat) : Prop := (520 ≤ a ∧ a ≤ 526) ∨ (a = 490 ∧ k = 37) ∨ (528 ≤ a ∧ a ≤ 533) ∨ (a = 514 ∧ 32 * e ≤ k ∧ k < 32 * e + 32) ∨ a = 546
theorem dr_bind {a2 fr na : Nat} {x3 x4 : Int32} {psk msg : List Int32} (B : rB L h) (he : e < 4) (bp : bs h 494 (64 * e) psk) (hp : lby psk) (hl : psk.length ≤ 64) (ip : mm_i h 495 e = nI psk.length) (bm : bs h a2 fr msg) (hm : lby msg) (lm : msg.length ≤ 1000) (n2 : a2 = 545 ∨ a2 = 547) (e2 : mm_ln h a2 = na) (la : fr + msg.length ≤ na) (la2 : na ≤ 90000) (ex3 : x3 = nI fr) (ex4 : x4 = nI msg.length) (K : ∀ h', rB L h' → bs h' 546 0 (ks_p (ks_b psk) msg) → bs h' 514 (32 * e) (ks_m psk) → dF (zi e) h h' → tr (f h') Q) : tr (mm_qv (bd_X12_bind 490 (nI e) a2 x3 x4 h) f) Q := by
  refine tr_v (p := fun h' => rB L h' ∧ bs h' 546 0 (ks_p (ks_b psk) msg) ∧ bs h' 514 (32 * e) (ks_m psk) ∧ dF (zi e) h h') ?_ (fun h' q => K h' q.1 q.2.1 q.2.2.1 q.2.2.2)
  unfold bd_X12_bind
  refine dr_sched B he bp hp hl ip (fun h1 b28 b29 b30 b14 F1 => ?_)
  have B1 : rB L h1 := B.F F1 (fun a k z => by omega)
  refine tr_gr B1.1.r41 (tr_gr B1.1.r40 (tr_gr B1.1.r43 ?_))
  refine dr_expand (n := 32) (p := 0) (fr := 0) (sec := ks_e psk) (ctx := sh_a []) B1 b29 (hm_m_len _ _) b28 (sha_by _) (by rw [sh_a_len]; decide) (by decide) (by decide) (by decide) (Or.inl rfl) 32 32 32 B1.1.l529 (by decide) (by decide) B1.1.l528 (by rw [sh_a_len]; decide) (by decide) B1.1.l531 (by decide) (by decide) rfl (by rw [sh_a_len]; rfl) rfl rfl (fun h2 b2 F2 => ?_)
  rw [show lb 9 = 10 from by decide] at b2
  have B2 : rB L h2 := B1.F F2 (fun a k z => by omega)
  refine tr_gr B2.1.r43 (tr_gr B2.1.r40 (tr_gr B2.1.r45 ?_))
  refine dr_expand (n := 32) (p := 0) (fr := 0) (sec := ks_b psk) (ctx := []) B2 b2 (hk_e_ln _ _ _ (by omega)) bs.nil lby.nil (by decide) (by decide) (by decide) (by decide) (Or.inl rfl) 32 32 32 B2.1.l531 (by decide) (by decide) B2.1.l528 (by decide) (by decide) B2.1.l533 (by decide) (by decide) rfl rfl rfl rfl (fun h3 b3 F3 => ?_)
  rw [show lb 7 = 13 from by decide] at b3
  have B3 : rB L h3 := B2.F F3 (fun a k z => by omega)
  have G3 := (F1.c F2).c F3
  refine tr_gr B3.1.r44 ?_
  refine dr_sumz (p := 0) B3 (bm.F G3 (fun k _ _ => (by omega))) hm (by omega) (by decide) (by decide) (by omega) na 32 (by rw [G3.ln]; exact e2) la la2 B3.1.l532 (by decide) (by decide) ex3 ex4 rfl (fun h4 b4 F4 => ?_)
  have B4 : rB L h4 := B3.F F4 (fun a k z => by omega)
  refine tr_gr B4.1.r45 (tr_gr B4.1.r44 (tr_gr B4.1.r59 ?_))
  have e4 : (hk_e (ks_b psk) (tx_l 13) [] 32).length = 32 := hk_e_ln _ _ _ (by omega)
  refine dr_sign (fr := 0) (q := 0) (p := 0) B4 (b3.F F4 (fun k _ _ => (by omega))) (by rw [e4]; decide) b4 (sha_by _) (by rw [sh_a_len]; decide) (by decide) (by decide) (by decide) (by decide) 32 32 32 B4.1.l533 (by rw [e4]; decide) (by decide) B4.1.l532 (by rw [sh_a_len]; decide) (by decide) B4.1.l546 (by decide) (by decide) rfl (by rw [e4]; rfl) rfl (by rw [sh_a_len]; rfl) rfl (fun h5 b5 F5 => ?_)
  exact tr_mk ⟨rfl, B4.F F5 (fun a k z => by omega), b5, b14.F ((F2.c F3).c (F4.c F5)) (fun k _ _ => (by omega)), ((G3.c F4).c F5).mo (fun a k z => by omega)⟩
theorem tb7e : sk_tb 7 = [(0 : Int32) &&& 255] ++ rr_num 2 2 ++ rr_num 4867 2 ++ rr_num 256 2 := by decide +kernel
theorem tb8e : sk_tb 8 = rr_num 43 2 ++ rr_num 3 2 ++ [(2 : Int32) &&& 255] ++ rr_num 772 2 ++ rr_num 45 2 ++ rr_num 2 2 ++ rr_num 256 2 ++ rr_num 41 2 := by decide +kernel
theorem tb9e : sk_tb 9 = [(0 : Int32) &&& 255] ++ rr_num 4867 2 ++ [(0 : Int32) &&& 255] ++ rr_num 12 2 ++ rr_num 43 2 ++ rr_num 2 2 ++ rr_num 772 2 ++ rr_num 41 2 ++ rr_num 2 2 ++ rr_num 0 2 := by decide +kernel
theorem tb6e : sk_tb 6 = rr_num 33 2 ++ [(32 : Int32) &&& 255] := by decide +kernel
theorem n771 : rr_num 771 2 = [3] ++ [3] := by decide +kernel
theorem tb_by : ∀ a, a < 10 → 6 ≤ a → lby (sk_tb a) := by unfold lby; decide +kernel
/-- what follows the head of a CLIENTHELLO -/
def ch_b (rnd name : List Int32) : List Int32 := rr_num 771 2 ++ (rnd ++ ([(0 : Int32) &&& 255] ++ (rr_num 2 2 ++ (rr_num 4867 2 ++ (rr_num 256 2 ++ (rr_num ((60 : Int32) + nI name.length) 2 ++ (rr_num 43 2 ++ (rr_num 3 2 ++ ([(2 : Int32) &&& 255] ++ (rr_num 772 2 ++ (rr_num 45 2 ++ (rr_num 2 2 ++ (rr_num 256 2 ++ (rr_num 41 2 ++ (rr_num (nI name.length + (43 : Int32)) 2 ++ (rr_num (nI name.length + (6 : Int32)) 2 ++ (rr_num (nI name.length) 2 ++ (name ++ (rr_num 0 2 ++ rr_num 0 2)))))))))))))))))))
theorem chb_ln (rnd name : List Int32) : (ch_b rnd name).length = 36 + rnd.length + name.length := by
  unfold ch_b
  simp only [List.length_append, rr_num_len, List.length_singleton]; omega
theorem chb_by {rnd name : List Int32} (h1 : lby rnd) (h2 : lby name) : lby (ch_b rnd name) := by
  unfold ch_b
  exact (num_by _ _).app (h1.app ((lby.one (and255 _)).app ((num_by _ _).app ((num_by _ _).app ((num_by _ _).app ((num_by _ _).app ((num_by _ _).app ((num_by _ _).app ((lby.one (and255 _)).app ((num_by _ _).app ((num_by _ _).app ((num_by _ _).app ((num_by _ _).app ((num_by _ _).app ((num_by _ _).app ((num_by _ _).app ((num_by _ _).app (h2.app ((num_by _ _).app (num_by _ _))))))))))))))))))))
theorem ch_eq (rnd name : List Int32) : ms_ch rnd name = ms_h 1 (nI (103 + name.length)) ++ ch_b rnd name := by
  unfold ms_ch ch_b
  rw [tb7e, tb8e, n771, show nI (60 + name.length) = 60 + nI name.length from (nI_add 60 _).symm, show nI (43 + name.length) = nI name.length + 43 from by rw [Nat.add_comm]; exact (nI_add _ 43).symm, show nI (6 + name.length) = nI name.length + 6 from by rw [Nat.add_comm]; exact (nI_add _ 6).symm, show rr_num 0 4 = rr_num 0 2 ++ rr_num 0 2 from by decide]
  simp only [List.append_assoc]
theorem ksp_ln (a b : List Int32) : (ks_p a b).length = 32 := hm_m_len _ _
theorem ksp_by (a b : List Int32) : lby (ks_p a b) := hmm_by _ _
/-- a CLIENTHELLO with its binder, by head and body -/
theorem cb_eq (psk rnd name : List Int32) (hr : rnd.length = 32) (hn : name.length ≤ 16) : ms_cb psk rnd name = ms_h 1 (nI (ch_b rnd name ++ (rr_num 33 2 ++ ([(32 : Int32) &&& 255] ++ ks_p (ks_b psk) (ms_ch rnd name)))).length) ++ (ch_b rnd name ++ (rr_num 33 2 ++ ([(32 : Int32) &&& 255] ++ ks_p (ks_b psk) (ms_ch rnd name)))) := by
  unfold ms_cb
  rw [tb6e]
  have e : (ch_b rnd name ++ (rr_num 33 2 ++ ([(32 : Int32) &&& 255] ++ ks_p (ks_b psk) (ms_ch rnd name)))).length = 103 + name.length := by
    simp only [List.length_append, chb_ln, rr_num_len, List.length_singleton, ksp_ln]; omega
  rw [e]
  generalize ks_p (ks_b psk) (ms_ch rnd name) = P
  rw [ch_eq]
  simp only [List.append_assoc]
end RMS

