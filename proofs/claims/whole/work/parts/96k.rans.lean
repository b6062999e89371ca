/-! ===== the reference answers a CLIENTHELLO ===== -/
/-- what stands with the state of an END's handshake -/
def rS (h : mm_H) (s : sT) (e b : Nat) : Prop := (s.2.1 b 5 ≠ 6 → s.2.1 b 5 ≠ 7 → rT h (s.1 (b + 100)) e) ∧ (s.2.1 b 5 = 1 ∨ s.2.1 b 5 = 2 ∨ s.2.1 b 5 = 3 ∨ s.2.1 b 5 = 5 → bs h 514 (32 * e) (s.1 (b + 88))) ∧ (s.2.1 b 5 = 5 → bs h 513 (32 * e) (hk_e (s.1 (b + 88)) (tx_l 20) (sh_a (s.1 (b + 100))) 32))
theorem mex_eq : ms_h 8 (nI 2) ++ rr_num 0 2 = ms_ex := by decide
theorem mAns_eq {s : sT} {b : Nat} {c psk rnd m1 t1 x2 y2 t3 fin t4 w5 : List Int32} {S1 S2 S3 S4 : sT} (e98 : s.1 (b + 98) = rnd) (e86 : s.1 (b + 86) = ks_h psk) (e88 : s.1 (b + 88) = ks_m psk) (cl : s.2.1 b 16 = 0) (pz : s.2.2 b = []) (q1 : m1 = ms_sh rnd) (q2 : t1 = c ++ m1) (q3 : S1 = mSend (mM (mM s (b + 100) c) (b + 100) t1) b 22 m1) (q4 : x2 = hk_e (ks_h psk) (tx_l 17) (sh_a t1) 32) (q5 : y2 = hk_e (ks_h psk) (tx_l 18) (sh_a t1) 32) (q6 : S2 = mLoad (mLoad S1 (b + 76) x2) (b + 69) y2) (q7 : t3 = t1 ++ ms_ex) (q8 : S3 = mSend (mM S2 (b + 100) t3) b 22 ms_ex) (q9 : fin = ms_fi (ks_p y2 t3)) (q10 : t4 = t3 ++ fin) (q11 : S4 = mSend (mM S3 (b + 100) t4) b 22 fin) (q12 : w5 = hk_e (ks_m psk) (tx_l 19) (sh_a t4) 32) : mAnswer s b c = mI (mLoad S4 (b + 69) w5) b 5 5 := by
  have o1 : ∀ r, r ≠ b + 100 → S1.1 r = s.1 r := fun r hr => by rw [q3]; show va_up (va_up s.1 (b + 100) c) (b + 100) t1 r = _; rw [vu_off hr, vu_off hr]
  have t1' : S1.1 (b + 100) = t1 := by rw [q3]; exact vu_at
  have i1 : S1.2.1 b = s.2.1 b := by rw [q3]; exact sdI_o (by omega)
  have z1 : (S1.2.2 b).length = 1 := by rw [q3, mSend_z]; show (s.2.2 b ++ [_]).length = 1; rw [pz]; rfl
  have o2 : ∀ r, r ≠ b + 77 → r ≠ b + 79 → r ≠ b + 81 → r ≠ b + 70 → r ≠ b + 72 → r ≠ b + 74 → S2.1 r = S1.1 r := fun r a1 a2 a3 a4 a5 a6 => by
    rw [q6, mLoad_off (by omega) (by omega) (by omega), mLoad_off (by omega) (by omega) (by omega)]
  have i2 : S2.2.1 b = s.2.1 b := by rw [q6, mlo (by omega), mlo (by omega)]; exact i1
  have z2 : (S2.2.2 b).length = 1 := by rw [q6]; exact z1
  have y70 : S2.1 (b + 70) = y2 := by rw [q6]; exact mLoad_1
  have c0 : mCan (mM s (b + 100) c) b = true := mCan_iff.mpr ⟨cl, by show (s.2.2 b).length < 32; rw [pz]; decide⟩
  have a1 : mAns1 s b c = S2 := by
    unfold mAns1 mHand
    rw [mSay_s c0, mM_at, e98, ← q1, ← q2, ← q3, o1 _ (by omega), e86, t1', ← q4, mLoad_off (by omega) (by omega) (by omega), mLoad_off (by omega) (by omega) (by omega), o1 _ (by omega), e86, t1', ← q5, ← q6]
  have c2 : mCan S2 b = true := mCan_iff.mpr ⟨by rw [i2]; exact cl, by omega⟩
  have a2 : mAns2 S2 b = S3 := by
    unfold mAns2
    rw [mSay_s c2, o2 _ (by omega) (by omega) (by omega) (by omega) (by omega) (by omega), t1', ← q7, ← q8]
  have o3 : ∀ r, r ≠ b + 100 → S3.1 r = S2.1 r := fun r hr => by rw [q8]; show va_up S2.1 (b + 100) t3 r = _; rw [vu_off hr]
  have t3' : S3.1 (b + 100) = t3 := by rw [q8]; exact vu_at
  have i3 : S3.2.1 b = s.2.1 b := by rw [q8]; exact (sdI_o (by omega)).trans i2
  have z3 : (S3.2.2 b).length = 2 := by rw [q8, mSend_z, List.length_append]; show (S2.2.2 b).length + 1 = 2; omega
  have c3 : mCan S3 b = true := mCan_iff.mpr ⟨by rw [i3]; exact cl, by omega⟩
  have a3 : mAns3 S3 b = S4 := by
    unfold mAns3 mFin
    rw [mSay_s c3, t3', o3 _ (by omega), y70, ← q9, ← q10, ← q11]
  have o4 : ∀ r, r ≠ b + 100 → S4.1 r = S3.1 r := fun r hr => by rw [q11]; show va_up S3.1 (b + 100) t4 r = _; rw [vu_off hr]
  have t4' : S4.1 (b + 100) = t4 := by rw [q11]; exact vu_at
  unfold mAnswer mMain
  rw [a1, a2, a3, t4', o4 _ (by omega), o3 _ (by omega), o2 _ (by omega) (by omega) (by omega) (by omega) (by omega) (by omega), o1 _ (by omega), e88, ← q12]
section RAN
variable {L : Nat} {h : mm_H} {s : sT} {e b : Nat} {f : mm_H → mm_O} {g : Int32 → mm_H → mm_O} {Q : Option Value → mm_H → Prop}
theorem rm100 {r : Nat} (hr : r = b + 100) : r ≠ b + 94 ∧ r ≠ b + 96 ∧ r ≠ b + 98 ∧ r ≠ b + 67 ∧ r ≠ b + 70 ∧ r ≠ b + 77 := by omega
theorem kI.z' {S : sT} {k : Nat} {x : Int32} {l : List Int32} (K : kI S k) : kI (mSend S b x l) k := K.z
set_option maxHeartbeats 4000000 in
theorem dr_answer {c psk rnd : List Int32} (B : rB L h) (he : e < 4) (A : rA h s e b) (Z : rZ s b) (e94 : s.1 (b + 94) = psk) (e98 : s.1 (b + 98) = rnd) (hr : rnd.length = 32) (e86 : s.1 (b + 86) = ks_h psk) (e88 : s.1 (b + 88) = ks_m psk) (sv : s.2.1 b 4 ≠ 0) (cl : s.2.1 b 16 = 0) (pz : s.2.2 b = []) (ky : kI s (b + 69)) (R : rT h c e) (yc : lby c) (lc : c.length ≤ 160) (K : ∀ h', rB L h' → rA h' (mAnswer s b c) e b → rS h' (mAnswer s b c) e b → dF (zR e) h h' → tr (f h') Q) : tr (mm_qv (bd_X12_answer 490 (nI e) h) f) Q := by
  refine tr_v (p := fun h' => rB L h' ∧ rA h' (mAnswer s b c) e b ∧ rS h' (mAnswer s b c) e b ∧ dF (zR e) h h') ?_ (fun h' q => K h' q.1 q.2.1 q.2.2.1 q.2.2.2)
  obtain ⟨⟨z94, y94⟩, -, ⟨z98, y98⟩, -, -, -, -, -⟩ := Z
  rw [e94] at z94 y94
  rw [e98] at z98 y98
  have c7 : bs h 498 (32 * e) rnd := by rw [← e98]; exact A.2.2.2.2.2.2.2.1
  obtain ⟨m1, q1⟩ : ∃ m, m = ms_sh rnd := ⟨_, rfl⟩
  obtain ⟨t1, q2⟩ : ∃ t, t = c ++ m1 := ⟨_, rfl⟩
  obtain ⟨S1, q3⟩ : ∃ S, S = mSend (mM (mM s (b + 100) c) (b + 100) t1) b 22 m1 := ⟨_, rfl⟩
  obtain ⟨x2, q4⟩ : ∃ x, x = hk_e (ks_h psk) (tx_l 17) (sh_a t1) 32 := ⟨_, rfl⟩
  obtain ⟨y2, q5⟩ : ∃ x, x = hk_e (ks_h psk) (tx_l 18) (sh_a t1) 32 := ⟨_, rfl⟩
  obtain ⟨S2, q6⟩ : ∃ S, S = mLoad (mLoad S1 (b + 76) x2) (b + 69) y2 := ⟨_, rfl⟩
  obtain ⟨t3, q7⟩ : ∃ t, t = t1 ++ ms_ex := ⟨_, rfl⟩
  obtain ⟨S3, q8⟩ : ∃ S, S = mSend (mM S2 (b + 100) t3) b 22 ms_ex := ⟨_, rfl⟩
  obtain ⟨fin, q9⟩ : ∃ x, x = ms_fi (ks_p y2 t3) := ⟨_, rfl⟩
  obtain ⟨t4, q10⟩ : ∃ t, t = t3 ++ fin := ⟨_, rfl⟩
  obtain ⟨S4, q11⟩ : ∃ S, S = mSend (mM S3 (b + 100) t4) b 22 fin := ⟨_, rfl⟩
  obtain ⟨w5, q12⟩ : ∃ x, x = hk_e (ks_m psk) (tx_l 19) (sh_a t4) 32 := ⟨_, rfl⟩
  have eM := mAns_eq e98 e86 e88 cl pz q1 q2 q3 q4 q5 q6 q7 q8 q9 q10 q11 q12
  rw [eM]
  have lm1 : m1.length = 56 := by rw [q1, ms_sh_ln, hr]
  have ym1 : lby m1 := by
    rw [q1, shh_eq _ hr]
    unfold ms_h
    exact ((lby.one (and255 _)).app (num_by _ _)).app (shb_by y98)
  have lt1 : t1.length = c.length + 56 := by rw [q2, List.length_append, lm1]
  have yt1 : lby t1 := by rw [q2]; exact yc.app ym1
  have yex : lby ms_ex := by unfold ms_ex ms_h; exact ((lby.one (and255 _)).app (num_by _ _)).app (num_by _ _)
  have lt3 : t3.length = c.length + 62 := by rw [q7, List.length_append, lt1, ms_ex_ln]
  have yt3 : lby t3 := by rw [q7]; exact yt1.app yex
  have lfin : fin.length = 36 := by rw [q9, ms_fi_ln, ksp_ln]
  have yfin : lby fin := by rw [q9]; unfold ms_fi ms_h; exact ((lby.one (and255 _)).app (num_by _ _)).app (ksp_by _ _)
  have lt4 : t4.length = c.length + 98 := by rw [q10, List.length_append, lt3, lfin]
  have yt4 : lby t4 := by rw [q10]; exact yt3.app yfin
  unfold bd_X12_answer
  rw [show (32 : Int32) * nI e = nI (32 * e) from pk_mul 32 e]
  refine dr_ans1 B.1 he c7 y98 hr (fun h1 G1 F1 => ?_)
  have B1 : rB L h1 := B.F F1 (fun a k z => by omega)
  have A1 : rA h1 (mM (mM s (b + 100) c) (b + 100) t1) e b := ((A.S F1 (fun a k z => by omega)).m (rm100 rfl)).m (rm100 rfl)
  refine dr_endM1 (t := c) B1 he A1 (R.F F1 (by omega) (fun a k z => by omega)) (by rw [shb_ln, hr]; omega) G1 (shb_by y98) (by show (s.2.2 b).length < 32; rw [pz]; decide) (by show ∀ z ∈ s.2.2 b, _; rw [pz]; intro z hz; exact absurd hz (List.not_mem_nil)) ((ky.m (by omega) (by omega) (by omega)).m (by omega) (by omega) (by omega)) (fun h2 B2 A2 R2 F2 => ?_)
  rw [← shh_eq rnd hr, ← q1] at A2 R2
  rw [← q3] at A2
  rw [← q2] at R2
  have V2 : dF (zR e) h h2 := (F1.R zy_R).t (F2.R zM_R)
  have o1 : ∀ r, r ≠ b + 100 → S1.1 r = s.1 r := fun r hr => by rw [q3]; show va_up (va_up s.1 (b + 100) c) (b + 100) t1 r = _; rw [vu_off hr, vu_off hr]
  have i1 : S1.2.1 b = s.2.1 b := by rw [q3]; exact sdI_o (by omega)
  have zz1 : S1.2.2 b = [sd_r (mM (mM s (b + 100) c) (b + 100) t1).1 (mM (mM s (b + 100) c) (b + 100) t1).2.1 b 22 m1] := by rw [q3, mSend_z]; show s.2.2 b ++ _ = _; rw [pz]; rfl
  have hz1 : ∀ z ∈ S1.2.2 b, z.length ≤ 600 := by
    rw [zz1]
    intro z hz
    rw [List.mem_singleton.mp hz]
    have := sdr_ln (M := (mM (mM s (b + 100) c) (b + 100) t1).1) (I := (mM (mM s (b + 100) c) (b + 100) t1).2.1) (b := b) (x := 22) (l := m1)
    omega
  have z1 : (S1.2.2 b).length = 1 := by rw [zz1]; rfl
  refine dr_hand (s := S1) (t := t1) (psk := psk) (rl := 17) (wl := 18) B2 he A2 (by rw [o1 _ (by omega)]; exact e94) y94 z94 R2 yt1 (by omega) ⟨fun z => absurd z (by rw [i1]; exact sv), fun _ => ⟨rfl, rfl⟩⟩ (fun h3 B3 A3 R3 b14 F3 => ?_)
  rw [← q4, ← q5, ← q6] at A3
  have V3 : dF (zR e) h h3 := V2.t (F3.R zh_R)
  have hz2 : ∀ z ∈ S2.2.2 b, z.length ≤ 600 := by rw [q6]; exact hz1
  have z2 : (S2.2.2 b).length = 1 := by rw [q6]; exact z1
  have ky2 : kI S2 (b + 69) := by rw [q6]; exact kI.load
  refine dr_begM B3.1 (fun h4 G4 F4 => ?_)
  refine dr_sayT (B3.1.F F4) G4 (by simp) (fun h5 G5 F5 => ?_)
  have U5 := F4.t F5
  have B5 : rB L h5 := B3.F U5 (fun a k z => by omega)
  have A5 : rA h5 (mM S2 (b + 100) t3) e b := (A3.S U5 (fun a k z => by omega)).m (rm100 rfl)
  refine dr_endM1 (t := t1) B5 he A5 (R3.F U5 (by omega) (fun a k z => by omega)) (by rw [rr_num_len]; omega) G5 (num_by _ _) (show (S2.2.2 b).length < 32 from (by omega)) (show ∀ z ∈ S2.2.2 b, _ from hz2) (ky2.m (by omega) (by omega) (by omega)) (fun h6 B6 A6 R6 F6 => ?_)
  rw [rr_num_len, mex_eq] at A6 R6
  rw [← q8] at A6
  rw [← q7] at R6
  have V6 : dF (zR e) h h6 := (V3.t (U5.R zy_R)).t (F6.R zM_R)
  have hz3 : ∀ z ∈ S3.2.2 b, z.length ≤ 600 := by rw [q8]; exact send_hz (s := mM S2 (b + 100) t3) hz2 (by rw [ms_ex_ln]; decide)
  have z3 : (S3.2.2 b).length = 2 := by rw [q8, mSend_z, List.length_append]; show (S2.2.2 b).length + 1 = 2; omega
  have y70 : S3.1 (b + 70) = y2 := by rw [q8]; show va_up S2.1 (b + 100) t3 (b + 70) = _; rw [vu_off (by omega), q6]; exact mLoad_1
  have w69 : S3.2.1 (b + 69) 4 = 1 := by rw [q8]; refine sd_I4.trans ?_; show S2.2.1 (b + 69) 4 = 1; rw [q6]; exact ml4
  have ky3 : kI S3 (b + 69) := by rw [q8]; exact (ky2.m (by omega) (by omega) (by omega)).z
  obtain ⟨k6, l6⟩ := rA_w A6 w69 (by decide)
  rw [y70] at k6 l6
  refine dr_fin (t := t3) (sec := y2) (s := mM S3 (b + 100) t4) B6 he (A6.m (rm100 rfl)) R6 yt3 (by omega) k6 l6 (show (S3.2.2 b).length < 32 from (by omega)) (show ∀ z ∈ S3.2.2 b, _ from hz3) (ky3.m (by omega) (by omega) (by omega)) (fun h7 B7 A7 R7 F7 => ?_)
  rw [← q9] at A7 R7
  rw [← q11] at A7
  rw [← q10] at R7
  have V7 : dF (zR e) h h7 := V6.t (F7.R zf_R)
  have b14' : bs h7 514 (32 * e) (ks_m psk) := ((b14.F U5 (fun k _ _ => (by omega))).F F6 (fun k _ _ => (by omega))).F F7 (fun k _ _ => (by omega))
  refine dr_hear B7 he R7.2 yt4 (by omega) R7.1 (fun h8 b8 F8 => ?_)
  have B8 : rB L h8 := B7.F F8 (fun a k z => by omega)
  refine tr_gr B8.1.r25 (tr_gr B8.1.r44 (tr_gr B8.1.r22 ?_))
  have lks : (ks_m psk).length = 32 := hm_m_len _ _
  refine dr_expand (n := 32) (sec := ks_m psk) (ctx := sh_a t4) B8 (b14'.F F8 (fun k _ _ => (by omega))) lks b8 (sha_by _) (by rw [sh_a_len]; decide) (by decide) (by decide) (by decide) (Or.inl rfl) 128 32 128 B8.1.l514 (by omega) (by decide) B8.1.l532 (by rw [sh_a_len]; decide) (by decide) B8.1.l511 (by omega) (by decide) rfl (by rw [sh_a_len]; rfl) rfl rfl (fun h9 b9 F9 => ?_)
  rw [show lb 4 = 19 from by decide, ← q12] at b9
  have B9 : rB L h9 := B8.F F9 (fun a k z => by omega)
  refine tr_gr B9.1.r25 (tr_gr B9.1.r44 (tr_gr B9.1.r24 ?_))
  have b14'' : bs h9 514 (32 * e) (ks_m psk) := (b14'.F F8 (fun k _ _ => (by omega))).F F9 (fun k _ _ => (by omega))
  refine dr_expand (n := 32) (sec := ks_m psk) (ctx := sh_a t4) B9 b14'' lks (b8.F F9 (fun k _ _ => (by omega))) (sha_by _) (by rw [sh_a_len]; decide) (by decide) (by decide) (by decide) (Or.inl rfl) 128 32 128 B9.1.l514 (by omega) (by decide) B9.1.l532 (by rw [sh_a_len]; decide) (by decide) B9.1.l513 (by omega) (by decide) rfl (by rw [sh_a_len]; rfl) rfl rfl (fun h10 b10 F10 => ?_)
  rw [show lb 3 = 20 from by decide] at b10
  have B10 : rB L h10 := B9.F F10 (fun a k z => by omega)
  refine tr_gr B10.1.r28 (dq_st (by decide) B10.1.l517 rfl he (by decide) (fun h11 F11 v11 => ?_))
  have B11 : rB L h11 := B10.F F11 (fun a k z => by omega)
  refine tr_gr B11.1.r4 (dq_st (by decide) B11.1.l493 rfl he (by decide) (fun h12 F12 v12 => ?_))
  have W11 : dF (fun a k => zN a ∨ (a = 511 ∧ 32 * e ≤ k ∧ k < 32 * e + 32) ∨ (a = 517 ∧ k = e)) h7 h11 := (((F8.c F9).c F10).c F11).mo (fun a k z => by
    rcases z with ((z | z) | z) | z
    · exact Or.inl (by omega)
    · rcases z with z | z | z
      · exact Or.inl (by omega)
      · exact Or.inl (by omega)
      · exact Or.inr (Or.inl z)
    · rcases z with z | z | z
      · exact Or.inl (by omega)
      · exact Or.inl (by omega)
      · exact Or.inl (by omega)
    · exact Or.inr (Or.inr z))
  have w69' : S4.2.1 (b + 69) 4 = 1 := by rw [q11]; exact sd_I4.trans w69
  have c16 := A7.2.2.2.2.2.2.2.2.2.2.2.2.2.2.2.2.1
  have lw5 : w5.length = 32 := by rw [q12]; exact hk_e_ln _ _ _ (by omega)
  have A11 : rA h11 (mLoad S4 (b + 69) w5) e b := A7.l69t W11 ((b9.F F10 (fun k _ _ => (by omega))).F F11 (fun k _ _ => (by omega))) lw5 (by rw [W11.i (by omega), c16]; exact w69') v11
  have A12 := A11.i493 F12 v12
  have W12 : dF (zR e) h7 h12 := ((((F8.R zs_R).t (F9.R (zz_R (Or.inl rfl)))).t (F10.R (zz_R (Or.inr (Or.inr rfl))))).t (F11.R (fun z => re1 (by omega)))).t (F12.R (fun z => re1 (by omega)))
  have o100 : (mI (mLoad S4 (b + 69) w5) b 5 5).1 (b + 100) = t4 := by
    show (mLoad S4 (b + 69) w5).1 (b + 100) = t4
    rw [mLoad_off (by omega) (by omega) (by omega), q11]; exact vu_at
  have o88 : (mI (mLoad S4 (b + 69) w5) b 5 5).1 (b + 88) = ks_m psk := by
    show (mLoad S4 (b + 69) w5).1 (b + 88) = _
    rw [mLoad_off (by omega) (by omega) (by omega), q11]
    show va_up S3.1 (b + 100) t4 (b + 88) = _
    rw [vu_off (by omega), q8]
    show va_up S2.1 (b + 100) t3 (b + 88) = _
    rw [vu_off (by omega), q6, mLoad_off (by omega) (by omega) (by omega), mLoad_off (by omega) (by omega) (by omega), o1 _ (by omega), e88]
  refine tr_mk ⟨rfl, B11.F F12 (fun a k z => by omega), A12, ?_, V7.t W12⟩
  unfold rS
  rw [o100, o88]
  refine ⟨fun _ _ => ?_, fun _ => ?_, fun _ => ?_⟩
  · exact ((R7.F (F8.c F9) (by omega) (fun a k z => by omega)).F (F10.c F11) (by omega) (fun a k z => by omega)).F F12 (by omega) (fun a k z => by omega)
  · exact (b14''.F (F10.c F11) (fun k _ _ => (by omega))).F F12 (fun k _ _ => (by omega))
  · exact b10.F (F11.c F12) (fun k _ _ => (by omega))
end RAN
