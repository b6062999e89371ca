/-! ===== the reference goes on with a message that is right ===== -/
theorem rS.t {h : mm_H} {s : sT} {e b : Nat} (q : s.2.1 b 5 = 6 ∨ s.2.1 b 5 = 7) : rS h s e b := by
  unfold rS
  rcases q with q | q
  · rw [q]
    exact ⟨fun z => absurd rfl z, fun z => absurd z (by decide), fun z => absurd z (by decide)⟩
  · rw [q]
    exact ⟨fun _ z => absurd rfl z, fun z => absurd z (by decide), fun z => absurd z (by decide)⟩
section RFS
variable {L : Nat} {h : mm_H} {s : sT} {e b : Nat} {f : mm_H → mm_O} {g : Int32 → mm_H → mm_O} {Q : Option Value → mm_H → Prop}
theorem dr_finS (B : rB L h) (he : e < 4) (A : rA h s e b) (sv : s.2.1 b 4 ≠ 0) (hr : s.2.1 (b + 76) 4 = 1) (lt : bs h 513 (32 * e) (hk_e (s.1 (b + 88)) (tx_l 20) (sh_a (s.1 (b + 100))) 32)) (K : ∀ h', rB L h' → rA h' (mI (mMain s b (b + 76) 20) b 5 6) e b → dF (zR e) h h' → tr (f h') Q) : tr (mm_qv (bd_X12_finish 490 (nI e) h) f) Q := by
  refine tr_v (p := fun h' => rB L h' ∧ rA h' (mI (mMain s b (b + 76) 20) b 5 6) e b ∧ dF (zR e) h h') ?_ (fun h' q => K h' q.1 q.2.1 q.2.2)
  have c0 := A.1
  have c19 := A.2.2.2.2.2.2.2.2.2.2.2.2.2.2.2.2.2.2.2.1
  unfold bd_X12_finish
  refine tr_gr B.1.r3 (tr_ip (dq_in B.1.l492 rfl he (by decide)) ?_)
  rw [rr_n (n := e) (by omega), c0, if_neg sv, show (32 : Int32) * nI e = nI (32 * e) from pk_mul 32 e]
  refine tr_gr B.1.r24 (tr_gr B.1.r23 ?_)
  have ll : (hk_e (s.1 (b + 88)) (tx_l 20) (sh_a (s.1 (b + 100))) 32).length = 32 := hk_e_ln _ _ _ (by omega)
  refine dr_mv lt (Or.inl (by decide)) (by decide) 128 128 B.1.l513 B.1.l512 (by rw [ll]; omega) (by rw [ll]; omega) (by decide) (by decide) rfl rfl (by rw [ll]; rfl) (by rw [ll]; decide) (fun h1 b1 F1 => ?_)
  rw [ll] at F1
  have B1 : rB L h1 := B.F F1 (fun a k z => by omega)
  refine tr_gr B1.1.r29 (dq_sk (by decide) B1.1.l518 rfl he (by decide) (fun h2 F2 v2 => ?_))
  have B2 : rB L h2 := B1.F F2 (fun a k z => by omega)
  refine tr_gr B2.1.r4 (dq_sk (by decide) B2.1.l493 rfl he (by decide) (fun h3 F3 v3 => ?_))
  have W2 : dF (fun a k => zN a ∨ (a = 512 ∧ 32 * e ≤ k ∧ k < 32 * e + 32) ∨ (a = 518 ∧ k = e)) h h2 := (F1.c F2).mo (fun a k z => z.elim (fun z => Or.inr (Or.inl z)) (fun z => Or.inr (Or.inr z)))
  have A2 : rA h2 (mLoad s (b + 76) (hk_e (s.1 (b + 88)) (tx_l 20) (sh_a (s.1 (b + 100))) 32)) e b := A.l76t W2 (b1.F F2 (fun k _ _ => (by omega))) ll (by rw [W2.i (by omega), c19]; exact hr) v2
  exact tr_mk ⟨rfl, B2.F F3 (fun a k z => by omega), A2.i493 F3 v3, ((F1.R (fun z => re4 (by omega))).t (F2.R (fun z => re1 (by omega)))).t (F3.R (fun z => re1 (by omega)))⟩
theorem dr_finC {t : List Int32} (B : rB L h) (he : e < 4) (A : rA h s e b) (Z : rZ s b) (sv : s.2.1 b 4 = 0) (cl : s.2.1 b 16 = 0) (hw : s.2.1 (b + 69) 4 = 1) (hr : s.2.1 (b + 76) 4 = 1) (ky : kI s (b + 69)) (mn : bs h 514 (32 * e) (s.1 (b + 88))) (lmn : (s.1 (b + 88)).length = 32) (R : rT h t e) (yt : lby t) (lt : t.length ≤ 350) (K : ∀ h', rB L h' → rA h' (if mCan s b = true then mI (mMain (mMain (mSend (mM s (b + 100) t) b 22 (mFin (mM s (b + 100) t) b)) b (b + 76) 19) b (b + 69) 20) b 5 6 else mI (mM s (b + 100) t) b 5 7) e b → dF (zR e) h h' → tr (f h') Q) : tr (mm_qv (bd_X12_finish 490 (nI e) h) f) Q := by
  refine tr_v (p := fun h' => rB L h' ∧ rA h' (if mCan s b = true then mI (mMain (mMain (mSend (mM s (b + 100) t) b 22 (mFin (mM s (b + 100) t) b)) b (b + 76) 19) b (b + 69) 20) b 5 6 else mI (mM s (b + 100) t) b 5 7) e b ∧ dF (zR e) h h') ?_ (fun h' q => K h' q.1 q.2.1 q.2.2)
  have c0 := A.1
  have c19 := A.2.2.2.2.2.2.2.2.2.2.2.2.2.2.2.2.2.2.2.1
  obtain ⟨-, -, -, -, -, -, zn, zl⟩ := Z
  have hz : ∀ z ∈ s.2.2 b, z.length ≤ 600 := fun z hz => (zl z hz).1
  unfold bd_X12_finish
  refine tr_gr B.1.r3 (tr_ip (dq_in B.1.l492 rfl he (by decide)) ?_)
  rw [rr_n (n := e) (by omega), c0, if_pos sv, show (32 : Int32) * nI e = nI (32 * e) from pk_mul 32 e]
  refine dr_full B.1 he A zn ?_
  by_cases c2 : (s.2.2 b).length = 32
  · rw [if_pos c2, if_neg (by decide)]
    refine tr_gr B.1.r4 (dq_sk (by decide) B.1.l493 rfl he (by decide) (fun h3 F3 v3 => ?_))
    refine tr_mk ⟨rfl, B.F F3 (fun a k z => by omega), ?_, F3.R (fun z => re1 (by omega))⟩
    rw [if_neg (fun z => by have := (mCan_iff.mp z).2; omega)]
    exact (A.m (rm100 rfl)).i493 F3 v3
  · rw [if_neg c2, if_pos rfl]
    have hp : (s.2.2 b).length < 32 := (by omega)
    have hc : mCan s b = true := mCan_iff.mpr ⟨cl, hp⟩
    rw [if_pos hc]
    refine dr_hear B he R.2 yt (by omega) R.1 (fun h1 b1 F1 => ?_)
    have B1 : rB L h1 := B.F F1 (fun a k z => by omega)
    refine tr_gr B1.1.r25 (tr_gr B1.1.r44 (tr_gr B1.1.r24 ?_))
    have m1 := mn.F F1 (fun k _ _ => (by omega))
    refine dr_expand (n := 32) (sec := s.1 (b + 88)) (ctx := sh_a t) B1 m1 lmn b1 (sha_by _) (by rw [sh_a_len]; decide) (by decide) (by decide) (by decide) (Or.inl rfl) 128 32 128 B1.1.l514 (by omega) (by decide) B1.1.l532 (by rw [sh_a_len]; decide) (by decide) B1.1.l513 (by omega) (by decide) rfl (by rw [sh_a_len]; rfl) rfl rfl (fun h2 b2 F2 => ?_)
    rw [show lb 3 = 20 from by decide] at b2
    have B2 : rB L h2 := B1.F F2 (fun a k z => by omega)
    refine tr_gr B2.1.r25 (tr_gr B2.1.r44 (tr_gr B2.1.r23 ?_))
    refine dr_expand (n := 32) (sec := s.1 (b + 88)) (ctx := sh_a t) B2 (m1.F F2 (fun k _ _ => (by omega))) lmn (b1.F F2 (fun k _ _ => (by omega))) (sha_by _) (by rw [sh_a_len]; decide) (by decide) (by decide) (by decide) (Or.inl rfl) 128 32 128 B2.1.l514 (by omega) (by decide) B2.1.l532 (by rw [sh_a_len]; decide) (by decide) B2.1.l512 (by omega) (by decide) rfl (by rw [sh_a_len]; rfl) rfl rfl (fun h3 b3 F3 => ?_)
    rw [show lb 4 = 19 from by decide] at b3
    have B3 : rB L h3 := B2.F F3 (fun a k z => by omega)
    obtain ⟨x, qx⟩ : ∃ x, x = hk_e (s.1 (b + 88)) (tx_l 19) (sh_a t) 32 := ⟨_, rfl⟩
    obtain ⟨w, qw⟩ : ∃ x, x = hk_e (s.1 (b + 88)) (tx_l 20) (sh_a t) 32 := ⟨_, rfl⟩
    rw [← qx] at b3
    rw [← qw] at b2
    have lx : x.length = 32 := by rw [qx]; exact hk_e_ln _ _ _ (by omega)
    have lw : w.length = 32 := by rw [qw]; exact hk_e_ln _ _ _ (by omega)
    refine tr_gr B3.1.r29 (dq_sk (by decide) B3.1.l518 rfl he (by decide) (fun h4 F4 v4 => ?_))
    have B4 : rB L h4 := B3.F F4 (fun a k z => by omega)
    have W4 : dF (fun a k => zN a ∨ (a = 512 ∧ 32 * e ≤ k ∧ k < 32 * e + 32) ∨ (a = 518 ∧ k = e)) h h4 := (((F1.c F2).c F3).c F4).mo (fun a k z => by
      rcases z with ((z | z) | z) | z
      · exact Or.inl (by omega)
      · rcases z with z | z | z
        · exact Or.inl (by omega)
        · exact Or.inl (by omega)
        · exact Or.inl (by omega)
      · rcases z with z | z | z
        · exact Or.inl (by omega)
        · exact Or.inl (by omega)
        · exact Or.inr (Or.inl z)
      · exact Or.inr (Or.inr z))
    have A4 : rA h4 (mLoad (mM s (b + 100) t) (b + 76) x) e b := (A.m (rm100 rfl)).l76t W4 (b3.F F4 (fun k _ _ => (by omega))) lx (by rw [W4.i (by omega), c19]; exact hr) v4
    have V4 : dF (zR e) h h4 := (((F1.R zs_R).t (F2.R (zz_R (Or.inr (Or.inr rfl))))).t (F3.R (zz_R (Or.inr (Or.inl rfl))))).t (F4.R (fun z => re1 (by omega)))
    have R4 : rT h4 t e := (R.F (F1.c F2) (by omega) (fun a k z => by omega)).F (F3.c F4) (by omega) (fun a k z => by omega)
    have w4 : (mLoad (mM s (b + 100) t) (b + 76) x).2.1 (b + 69) 4 = 1 := by rw [mlo (by omega)]; exact hw
    obtain ⟨k4, l4⟩ := rA_w A4 w4 (by decide)
    have e70 : (mLoad (mM s (b + 100) t) (b + 76) x).1 (b + 70) = s.1 (b + 70) := by rw [mLoad_off (by omega) (by omega) (by omega), mM_off (by omega)]
    rw [e70] at k4 l4
    refine dr_fin (t := t) (sec := s.1 (b + 70)) B4 he A4 R4 yt (by omega) k4 l4 (show (s.2.2 b).length < 32 from hp) (show ∀ z ∈ s.2.2 b, _ from hz) ((ky.m (by omega) (by omega) (by omega)).l (by omega)) (fun h5 B5 A5 R5 F5 => ?_)
    rw [mSend_mLoad] at A5
    have b5 : bs h5 513 (32 * e) w := ((b2.F F3 (fun k _ _ => (by omega))).F F4 (fun k _ _ => (by omega))).F F5 (fun k _ _ => (by omega))
    refine tr_gr B5.1.r24 (tr_gr B5.1.r22 ?_)
    refine dr_mv b5 (Or.inl (by decide)) (by decide) 128 128 B5.1.l513 B5.1.l511 (by rw [lw]; omega) (by rw [lw]; omega) (by decide) (by decide) rfl rfl (by rw [lw]; rfl) (by rw [lw]; decide) (fun h6 b6 F6 => ?_)
    rw [lw] at F6
    have B6 : rB L h6 := B5.F F6 (fun a k z => by omega)
    refine tr_gr B6.1.r28 (dq_sk (by decide) B6.1.l517 rfl he (by decide) (fun h7 F7 v7 => ?_))
    have B7 : rB L h7 := B6.F F7 (fun a k z => by omega)
    refine tr_gr B7.1.r4 (dq_sk (by decide) B7.1.l493 rfl he (by decide) (fun h8 F8 v8 => ?_))
    have W7 : dF (fun a k => zN a ∨ (a = 511 ∧ 32 * e ≤ k ∧ k < 32 * e + 32) ∨ (a = 517 ∧ k = e)) h5 h7 := (F6.c F7).mo (fun a k z => z.elim (fun z => Or.inr (Or.inl z)) (fun z => Or.inr (Or.inr z)))
    have c16 := A5.2.2.2.2.2.2.2.2.2.2.2.2.2.2.2.2.1
    have A7 := A5.l69t W7 (b6.F F7 (fun k _ _ => (by omega))) lw (by
      rw [W7.i (by omega), c16, mlo (by omega)]
      exact sd_I4.trans hw) v7
    have A8 := A7.i493 F8 v8
    refine tr_mk ⟨rfl, B7.F F8 (fun a k z => by omega), ?_, (((V4.t (F5.R zf_R)).t (F6.R (fun z => re4 (by omega)))).t (F7.R (fun z => re1 (by omega)))).t (F8.R (fun z => re1 (by omega)))⟩
    have eq : mI (mMain (mMain (mSend (mM s (b + 100) t) b 22 (mFin (mM s (b + 100) t) b)) b (b + 76) 19) b (b + 69) 20) b 5 6 = mI (mLoad (mLoad (mSend (mM s (b + 100) t) b 22 (ms_fi (ks_p (s.1 (b + 70)) t))) (b + 76) x) (b + 69) w) b 5 6 := by
      unfold mMain mFin
      rw [mM_at, mM_off (show b + 70 ≠ b + 100 from (by omega))]
      generalize ms_fi (ks_p (s.1 (b + 70)) t) = fin
      have e1 : (mSend (mM s (b + 100) t) b 22 fin).1 (b + 88) = s.1 (b + 88) := mM_off (by omega)
      have e2 : (mSend (mM s (b + 100) t) b 22 fin).1 (b + 100) = t := mM_at
      rw [e1, e2, ← qx, mLoad_off (by omega) (by omega) (by omega), mLoad_off (by omega) (by omega) (by omega), e1, e2, ← qw]
    rw [eq]
    exact A8
theorem dr_turn {c : List Int32} (B : rB L h) (he : e < 4) (A : rA h s e b) (Z : rZ s b) (hw : s.2.1 (b + 69) 4 = 1) (hr : s.2.1 (b + 76) 4 = 1) (ky : kI s (b + 69)) (Bi : bs h 547 5 c) (hb : lby c) (h5 : c.length = 5) (h01 : c.getD 4 0 = 0 ∨ c.getD 4 0 = 1) (K : ∀ h', rB L h' → rA h' (mUpd s b c) e b → dF (zR e) h h' → tr (f h') Q) : tr (mm_qv (bd_X12_turnOver 490 (nI e) h) f) Q := by
  refine tr_v (p := fun h' => rB L h' ∧ rA h' (mUpd s b c) e b ∧ dF (zR e) h h') ?_ (fun h' q => K h' q.1 q.2.1 q.2.2)
  obtain ⟨-, -, -, -, -, -, zn, zl⟩ := Z
  have hz : ∀ z ∈ s.2.2 b, z.length ≤ 600 := fun z hz => (zl z hz).1
  have y4 := hb _ (rr_mem (show 4 < c.length from (by omega)))
  have v9 : mm_i h 547 9 = mm_b8 (c.getD 4 0) := Bi 4 (by omega)
  have T := B.1
  unfold bd_X12_turnOver
  refine tr_gr T.r60 (tr_ip (dq_in T.l547 (k := 9) rfl (by decide) (by decide)) ?_)
  rw [mm_bi, show mm_n (9 : Int32) = 9 from by decide, v9]
  refine tr_gr T.r23 ?_
  obtain ⟨k1, l1⟩ := rA_r A hr (by decide)
  refine dr_follow B he k1 l1 (Or.inr rfl) (fun h1 B1 b1 F1 => ?_)
  refine tr_gr B1.1.r29 (dq_st (by decide) B1.1.l518 rfl he (by decide) (fun h2 F2 v2 => ?_))
  have B2 : rB L h2 := B1.F F2 (fun a k z => by omega)
  have c19 := A.2.2.2.2.2.2.2.2.2.2.2.2.2.2.2.2.2.2.2.1
  have W2 : dF (fun a k => zN a ∨ (a = 512 ∧ 32 * e ≤ k ∧ k < 32 * e + 32) ∨ (a = 518 ∧ k = e)) h h2 := (F1.c F2).mo (fun a k z => by
    rcases z with z | z
    · rcases z with z | z | z
      · exact Or.inl (by omega)
      · exact Or.inl (by omega)
      · exact Or.inr (Or.inl z)
    · exact Or.inr (Or.inr z))
  have A2 : rA h2 (mUpd1 s b) e b := A.l76t W2 (b1.F F2 (fun k _ _ => (by omega))) (hk_e_ln _ _ _ (by omega)) (by rw [W2.i (by omega), c19]; exact hr) v2
  have V2 : dF (zR e) h h2 := (F1.R (zz_R (Or.inr (Or.inl rfl)))).t (F2.R (fun z => re1 (by omega)))
  have i16 : (mUpd1 s b).2.1 b 16 = s.2.1 b 16 := by unfold mUpd1; rw [mlo (by omega)]
  have w1 : (mUpd1 s b).2.1 (b + 69) 4 = 1 := by unfold mUpd1; rw [mlo (by omega)]; exact hw
  have cc : mCan (mUpd1 s b) b = mCan s b := by unfold mCan; rw [i16]; rfl
  unfold mUpd
  rcases h01 with q | q
  · rw [if_pos ((b8_is y4 (by decide)).mpr q), if_neg (fun z => by rw [q] at z; exact absurd z.1 (by decide))]
    exact tr_mk ⟨rfl, B2, A2, V2⟩
  · rw [if_neg (fun z => by rw [(b8_is y4 (by decide)).mp z] at q; exact absurd q (by decide))]
    refine tr_gr B2.1.r13 (tr_ip (dq_in B2.1.l502 rfl he (by decide)) ?_)
    have i2 : mm_i h2 502 e = s.2.1 b 16 := A2.2.2.2.2.2.2.2.2.2.2.1.trans i16
    rw [rr_n (n := e) (by omega), i2]
    by_cases cl : s.2.1 b 16 = 0
    · rw [if_pos cl, if_pos ⟨q, cl⟩]
      refine dr_full B2.1 he A2 zn ?_
      show tr (if (if (s.2.2 b).length = 32 then (1 : Int32) else 0) = 0 then _ else _) _
      by_cases c2 : (s.2.2 b).length = 32
      · rw [if_pos c2, if_neg (by decide), if_neg (fun z => by have := (mCan_iff.mp z).2; omega)]
        refine tr_gr B2.1.r4 (dq_sk (by decide) B2.1.l493 rfl he (by decide) (fun h3 F3 v3 => ?_))
        exact tr_mk ⟨rfl, B2.F F3 (fun a k z => by omega), A2.i493 F3 v3, V2.t (F3.R (fun z => re1 (by omega)))⟩
      · rw [if_neg c2, if_pos rfl, if_pos (mCan_iff.mpr ⟨cl, (by omega)⟩)]
        refine dr_upd B2 he A2 w1 (show (s.2.2 b).length < 32 from (by omega)) hz (ky.l (by omega)) (fun h3 B3 A3 F3 => ?_)
        exact tr_mk ⟨rfl, B3, A3, V2.t (F3.R (fun z => z.elim zv_R (zz_R (Or.inl rfl))))⟩
    · rw [if_neg cl, if_neg (fun z => cl z.2)]
      exact tr_mk ⟨rfl, B2, A2, V2⟩
end RFS
