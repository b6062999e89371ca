/-! ===== the reference goes on, heeds alerts, takes data ===== -/
theorem rA.gv {h h' : mm_H} {s : sT} {e b : Nat} {l : List Int32} (A : rA h s e b) (F : dF (fun a k => (a = 507 ∧ 2000 * e ≤ k ∧ k < 2000 * e + 2000) ∨ (a = 508 ∧ k = e)) h h') (w1 : mm_i h' 508 e = nI l.length) (w2 : bs h' 507 (2000 * e) l) : rA h' (mM s (b + 67) l) e b := by
  obtain ⟨c0, c1, c2, c3, c4, c5, c6, c7, c8, c9, c10, c11, c12, c13, c14, c15, c16, c17, c18, c19, c20, c21⟩ := A
  exact ⟨by rw [F.i (by omega)]; exact c0, by rw [F.i (by omega)]; exact c1, by rw [F.i (by omega), mM_off (by omega)]; exact c2, by rw [mM_off (by omega)]; exact c3.F F (fun k z1 z2 => (by omega)), by rw [F.i (by omega), mM_off (by omega)]; exact c4, by rw [mM_off (by omega)]; exact c5.F F (fun k z1 z2 => (by omega)), by rw [F.i (by omega), mM_off (by omega)]; exact c6, by rw [mM_off (by omega)]; exact c7.F F (fun k z1 z2 => (by omega)), by rw [F.i (by omega)]; exact c8, by rw [F.i (by omega)]; exact c9, by rw [F.i (by omega)]; exact c10, by rw [F.i (by omega)]; exact c11, by rw [F.i (by omega)]; exact c12, fun k l z => ⟨by rw [F.i (by omega)]; exact (c13 k l z).1, (c13 k l z).2.F F (fun j z3 z4 => (by omega))⟩, by rw [mM_at]; exact w1, by rw [mM_at]; exact w2, by rw [F.i (by omega)]; exact c16, by rw [F.i (by omega)]; exact c17, fun z => by rw [mM_off (by omega)]; exact ⟨(c18 z).1.F F (fun k z1 z2 => (by omega)), (c18 z).2⟩, by rw [F.i (by omega)]; exact c19, by rw [F.i (by omega)]; exact c20, fun z => by rw [mM_off (by omega)]; exact ⟨(c21 z).1.F F (fun k z1 z2 => (by omega)), (c21 z).2⟩⟩
/-- what is so of an END between calls -/
def jE (s : sT) (b : Nat) : Prop :=
  (kI s (b + 69) ∧ kI s (b + 76)) ∧
  ((s.2.1 (b + 69) 4 = 0 ∨ s.2.1 (b + 69) 4 = 1) ∧ (s.2.1 (b + 76) 4 = 0 ∨ s.2.1 (b + 76) 4 = 1)) ∧
  (s.2.1 b 5 = 0 ∨ sS (s.2.1 b 5) ∨ s.2.1 b 5 = 7) ∧
  (s.2.1 b 5 = 0 ∨ s.2.1 b 5 = 4 → s.1 (b + 100) = [] ∧ s.2.2 b = []) ∧
  ((s.2.1 b 5 = 1 ∨ s.2.1 b 5 = 2 ∨ s.2.1 b 5 = 3 → s.2.1 b 4 = 0) ∧ (s.2.1 b 5 = 4 ∨ s.2.1 b 5 = 5 → s.2.1 b 4 ≠ 0)) ∧
  (s.2.1 b 5 ≠ 6 → s.2.1 b 5 ≠ 7 → s.2.1 b 16 = 0) ∧
  (s.2.1 b 5 ≠ 0 → s.1 (b + 84) = ks_b (s.1 (b + 94)) ∧ s.1 (b + 86) = ks_h (s.1 (b + 94)) ∧ s.1 (b + 88) = ks_m (s.1 (b + 94)) ∧ (s.1 (b + 98)).length = 32) ∧
  (s.2.1 b 5 = 2 ∨ s.2.1 b 5 = 3 ∨ s.2.1 b 5 = 5 ∨ s.2.1 b 5 = 6 → s.2.1 (b + 69) 4 = 1 ∧ s.2.1 (b + 76) 4 = 1) ∧
  (s.1 (b + 98) = [] ∨ (s.1 (b + 98)).length = 32) ∧
  ((s.2.1 b 5 = 1 → (s.1 (b + 100)).length ≤ 123) ∧ (s.2.1 b 5 = 2 → (s.1 (b + 100)).length ≤ 179) ∧ (s.2.1 b 5 = 3 → (s.1 (b + 100)).length ≤ 185))
theorem mGo_1 {s : sT} {b : Nat} {c : List Int32} (q : c.getD 0 0 = 1) : mGo s b c = mAnswer s b c := by unfold mGo; rw [q, if_pos rfl]
theorem mGo_2 {s : sT} {b : Nat} {c : List Int32} (q : c.getD 0 0 = 2) : mGo s b c = mServed s b c := by unfold mGo; rw [q, if_neg (show ¬ (2 : Int32) = 1 by decide), if_pos rfl]
theorem mGo_8 {s : sT} {b : Nat} {c : List Int32} (q : c.getD 0 0 = 8) : mGo s b c = mExt s b c := by unfold mGo; rw [q, if_neg (show ¬ (8 : Int32) = 1 by decide), if_neg (show ¬ (8 : Int32) = 2 by decide), if_pos rfl]
theorem mGo_20 {s : sT} {b : Nat} {c : List Int32} (q : c.getD 0 0 = 20) : mGo s b c = mDone s b c := by unfold mGo; rw [q, if_neg (show ¬ (20 : Int32) = 1 by decide), if_neg (show ¬ (20 : Int32) = 2 by decide), if_neg (show ¬ (20 : Int32) = 8 by decide), if_pos rfl]
theorem mGo_24 {s : sT} {b : Nat} {c : List Int32} (q : c.getD 0 0 = 24) : mGo s b c = mUpd s b c := by unfold mGo; rw [q, if_neg (show ¬ (24 : Int32) = 1 by decide), if_neg (show ¬ (24 : Int32) = 2 by decide), if_neg (show ¬ (24 : Int32) = 8 by decide), if_neg (show ¬ (24 : Int32) = 20 by decide)]
section RGM
variable {L : Nat} {h : mm_H} {s : sT} {e b : Nat} {f : mm_H → mm_O} {g : Int32 → mm_H → mm_O} {Q : Option Value → mm_H → Prop}
theorem dr_goOn {c : List Int32} (B : rB L h) (he : e < 4) (A : rA h s e b) (Z : rZ s b) (J : jE s b) (kw : (c.getD 0 0 = 2 ∧ s.2.1 b 5 = 1) ∨ (c.getD 0 0 = 8 ∧ s.2.1 b 5 = 2) ∨ (c.getD 0 0 = 20 ∧ s.2.1 b 5 = 3) ∨ (c.getD 0 0 = 1 ∧ s.2.1 b 5 = 4) ∨ (c.getD 0 0 = 20 ∧ s.2.1 b 5 = 5) ∨ (c.getD 0 0 = 24 ∧ s.2.1 b 5 = 6)) (m0 : rd_m s b c = 0) (Bi : bs h 547 5 c) (hb : lby c) (hc : c.length ≤ 600) (R : c.getD 0 0 ≠ 24 → rT h (s.1 (b + 100) ++ c) e) (mn : s.2.1 b 5 = 1 ∨ s.2.1 b 5 = 2 ∨ s.2.1 b 5 = 3 ∨ s.2.1 b 5 = 5 → bs h 514 (32 * e) (s.1 (b + 88))) (lt : s.2.1 b 5 = 5 → bs h 513 (32 * e) (hk_e (s.1 (b + 88)) (tx_l 20) (sh_a (s.1 (b + 100))) 32)) (K : ∀ h', rB L h' → rA h' (mGo s b c) e b → rS h' (mGo s b c) e b → dF (zR e) h h' → tr (f h') Q) : tr (mm_qv (bd_X12_goOn 490 (nI e) (c.getD 0 0) h) f) Q := by
  refine tr_v (p := fun h' => rB L h' ∧ rA h' (mGo s b c) e b ∧ rS h' (mGo s b c) e b ∧ dF (zR e) h h') ?_ (fun h' q => K h' q.1 q.2.1 q.2.2.1 q.2.2.2)
  obtain ⟨⟨j1, j1'⟩, -, -, j4, ⟨j5, j5'⟩, j6, j7, j8, -, j10, j10', j10''⟩ := J
  have Z' := Z
  obtain ⟨⟨z94, y94⟩, -, -, -, ⟨z100, y100⟩, -, zn, -⟩ := Z'
  unfold bd_X12_goOn
  rcases kw with ⟨q, st⟩ | ⟨q, st⟩ | ⟨q, st⟩ | ⟨q, st⟩ | ⟨q, st⟩ | ⟨q, st⟩
  · -- SERVERHELLO
    rw [mGo_2 q]
    have R' := R (by rw [q]; decide)
    obtain ⟨-, e86, e88, -⟩ := j7 (by rw [st]; decide)
    rw [rdm_2 q] at m0
    have l56 : c.length = 56 := by
      by_cases w : c = ms_sh (rd_rn c)
      · have e1 := congrArg List.length w
        rw [ms_sh_ln] at e1
        have e2 : (rd_rn c).length = min 38 c.length - 6 := by unfold rd_rn; rw [List.length_drop, List.length_take]
        omega
      · rw [if_neg w] at m0; exact absurd m0 (by decide)
    have l1 := j10 st
    rw [q, if_neg (by decide), if_pos rfl]
    obtain ⟨t, qt⟩ : ∃ t, t = s.1 (b + 100) ++ c := ⟨_, rfl⟩
    rw [← qt] at R'
    have lt' : t.length ≤ 179 := by rw [qt, List.length_append]; omega
    have yt : lby t := by rw [qt]; exact lby.app y100 hb
    refine dr_hand (s := mM s (b + 100) t) (t := t) (psk := s.1 (b + 94)) (rl := 18) (wl := 17) B he (A.m (rm100 rfl)) (mM_off (by omega)) y94 z94 R' yt (by omega) ⟨fun _ => ⟨rfl, rfl⟩, fun z => absurd (j5 (Or.inl st)) z⟩ (fun h1 B1 A1 R1 b14 F1 => ?_)
    refine tr_gr B1.1.r4 (dq_st (by decide) B1.1.l493 rfl he (by decide) (fun h2 F2 v2 => ?_))
    have A2 := A1.i493 F2 v2
    have eq : mServed s b c = mI (mLoad (mLoad (mM s (b + 100) t) (b + 76) (hk_e (ks_h (s.1 (b + 94))) (tx_l 18) (sh_a t) 32)) (b + 69) (hk_e (ks_h (s.1 (b + 94))) (tx_l 17) (sh_a t) 32)) b 5 2 := by
      unfold mServed mHand
      rw [← qt, mLoad_off (by omega) (by omega) (by omega), mLoad_off (by omega) (by omega) (by omega), mM_at, mM_off (show b + 86 ≠ b + 100 from (by omega)), e86]
    rw [eq]
    refine tr_mk ⟨rfl, B1.F F2 (fun a k z => by omega), A2, ?_, (F1.R zh_R).t (F2.R (fun z => re1 (by omega)))⟩
    unfold rS
    have o100 : (mI (mLoad (mLoad (mM s (b + 100) t) (b + 76) (hk_e (ks_h (s.1 (b + 94))) (tx_l 18) (sh_a t) 32)) (b + 69) (hk_e (ks_h (s.1 (b + 94))) (tx_l 17) (sh_a t) 32)) b 5 2).1 (b + 100) = t := by
      show (mLoad (mLoad (mM s (b + 100) t) (b + 76) _) (b + 69) _).1 (b + 100) = t
      rw [mLoad_off (by omega) (by omega) (by omega), mLoad_off (by omega) (by omega) (by omega), mM_at]
    have o88 : (mI (mLoad (mLoad (mM s (b + 100) t) (b + 76) (hk_e (ks_h (s.1 (b + 94))) (tx_l 18) (sh_a t) 32)) (b + 69) (hk_e (ks_h (s.1 (b + 94))) (tx_l 17) (sh_a t) 32)) b 5 2).1 (b + 88) = ks_m (s.1 (b + 94)) := by
      show (mLoad (mLoad (mM s (b + 100) t) (b + 76) _) (b + 69) _).1 (b + 88) = _
      rw [mLoad_off (by omega) (by omega) (by omega), mLoad_off (by omega) (by omega) (by omega), mM_off (by omega), e88]
    rw [o100, o88, mI_at]
    exact ⟨fun _ _ => R1.F F2 (by omega) (fun a k z => by omega), fun _ => b14.F F2 (fun k _ _ => (by omega)), fun z => absurd z (by decide)⟩
  · -- EXTENSIONS
    rw [mGo_8 q]
    have R' := R (by rw [q]; decide)
    rw [q, if_neg (by decide), if_neg (by decide), if_pos rfl]
    have l2 := j10' st
    rw [rdm_8 q] at m0
    have l6 : c.length = 6 := by
      by_cases w : c = ms_ex
      · rw [w, ms_ex_ln]
      · rw [if_neg w] at m0; exact absurd m0 (by decide)
    refine tr_gr B.1.r4 (dq_st (by decide) B.1.l493 rfl he (by decide) (fun h2 F2 v2 => ?_))
    refine tr_mk ⟨rfl, B.F F2 (fun a k z => by omega), (A.m (rm100 rfl)).i493 F2 v2, ?_, F2.R (fun z => re1 (by omega))⟩
    unfold rS mExt
    rw [show (mI (mM s (b + 100) (s.1 (b + 100) ++ c)) b 5 3).1 (b + 100) = s.1 (b + 100) ++ c from mM_at, show (mI (mM s (b + 100) (s.1 (b + 100) ++ c)) b 5 3).1 (b + 88) = s.1 (b + 88) from mM_off (by omega), mI_at]
    exact ⟨fun _ _ => R'.F F2 (by rw [List.length_append]; omega) (fun a k z => by omega), fun _ => (mn (Or.inr (Or.inl st))).F F2 (fun k _ _ => (by omega)), fun z => absurd z (by decide)⟩
  · -- the server's FINISHED
    rw [mGo_20 q]
    have R' := R (by rw [q]; decide)
    rw [q, if_neg (by decide), if_neg (by decide), if_neg (by decide), if_pos rfl]
    have l3 := j10'' st
    rw [rdm_20 q] at m0
    have l36 : c.length = 36 := by
      by_cases w : c.length = 36
      · exact w
      · rw [if_neg w] at m0; exact absurd m0 (by decide)
    obtain ⟨j8a, j8b⟩ := j8 (Or.inr (Or.inl st))
    obtain ⟨-, -, e88, -⟩ := j7 (by rw [st]; decide)
    have sv := j5 (Or.inr (Or.inr st))
    refine dr_finC (t := s.1 (b + 100) ++ c) B he A Z sv (j6 (by rw [st]; decide) (by rw [st]; decide)) j8a j8b j1 (mn (Or.inr (Or.inr (Or.inl st)))) (by rw [e88]; exact hm_m_len _ _) R' (lby.app y100 hb) (by rw [List.length_append]; omega) (fun h1 B1 A1 F1 => ?_)
    have eq : mDone s b c = (if mCan s b = true then mI (mMain (mMain (mSend (mM s (b + 100) (s.1 (b + 100) ++ c)) b 22 (mFin (mM s (b + 100) (s.1 (b + 100) ++ c)) b)) b (b + 76) 19) b (b + 69) 20) b 5 6 else mI (mM s (b + 100) (s.1 (b + 100) ++ c)) b 5 7) := by
      unfold mDone
      rw [if_pos sv]
    rw [← eq] at A1
    refine tr_mk ⟨rfl, B1, A1, rS.t ?_, F1⟩
    rw [eq]
    by_cases w : mCan s b = true
    · rw [if_pos w]; exact Or.inl mI_at
    · rw [if_neg w]; exact Or.inr mI_at
  · -- CLIENTHELLO
    rw [mGo_1 q]
    obtain ⟨e100, pz⟩ := j4 (Or.inr st)
    have R' := R (by rw [q]; decide)
    rw [e100, List.nil_append] at R'
    rw [q, if_pos rfl]
    obtain ⟨-, e86, e88, hr⟩ := j7 (by rw [st]; decide)
    have l123 : c.length ≤ 123 := by
      unfold rd_m at m0
      rw [q, if_pos rfl] at m0
      unfold rd_ch at m0
      by_cases w : 108 ≤ c.length ∧ c.length ≤ 123 ∧ rd_2 c 66 = nI (c.length - 107)
      · exact w.2.1
      · rw [if_neg w] at m0; exact absurd m0 (by decide)
    refine dr_answer (psk := s.1 (b + 94)) (rnd := s.1 (b + 98)) B he A Z rfl rfl hr e86 e88 (j5' (Or.inl st)) (j6 (by rw [st]; decide) (by rw [st]; decide)) pz j1 R' hb (by omega) (fun h1 B1 A1 S1 F1 => ?_)
    exact tr_mk ⟨rfl, B1, A1, S1, F1⟩
  · -- the client's FINISHED
    rw [mGo_20 q]
    rw [q, if_neg (by decide), if_neg (by decide), if_neg (by decide), if_pos rfl]
    have sv := j5' (Or.inr st)
    obtain ⟨j8a, j8b⟩ := j8 (Or.inr (Or.inr (Or.inl st)))
    refine dr_finS B he A sv j8b (lt st) (fun h1 B1 A1 F1 => ?_)
    have eq : mDone s b c = mI (mMain s b (b + 76) 20) b 5 6 := by
      unfold mDone
      rw [if_neg sv]
    rw [← eq] at A1
    exact tr_mk ⟨rfl, B1, A1, rS.t (by rw [eq]; exact Or.inl mI_at), F1⟩
  · -- UPDATE
    rw [mGo_24 q]
    rw [q, if_neg (by decide), if_neg (by decide), if_neg (by decide), if_neg (by decide)]
    obtain ⟨j8a, j8b⟩ := j8 (Or.inr (Or.inr (Or.inr st)))
    rw [rdm_24 q] at m0
    unfold rd_u at m0
    by_cases l5 : c.length = 5
    · rw [if_pos l5] at m0
      have y4 := hb _ (rr_mem (show 4 < c.length from (by omega)))
      by_cases w : c.getD 4 0 ≤ 1
      · refine dr_turn B he A Z j8a j8b j1 Bi hb l5 ((by_le1 y4).mp w) (fun h1 B1 A1 F1 => ?_)
        refine tr_mk ⟨rfl, B1, A1, rS.t ?_, F1⟩
        have e6 : (mUpd1 s b).2.1 b 5 = 6 := by unfold mUpd1; rw [mlo (by omega)]; exact st
        unfold mUpd
        by_cases w1 : c.getD 4 0 = 1 ∧ s.2.1 b 16 = 0
        · rw [if_pos w1]
          by_cases w2 : mCan s b = true
          · rw [if_pos w2]
            unfold mRenew
            rw [mlo (by omega), show (mSend (mUpd1 s b) b 22 (ms_up 0)).2.1 b = (mUpd1 s b).2.1 b from sdI_o (by omega)]
            exact Or.inl e6
          · rw [if_neg w2]; exact Or.inr mI_at
        · rw [if_neg w1]; exact Or.inl e6
      · rw [if_neg w] at m0; exact absurd m0 (by decide)
    · rw [if_neg l5] at m0; exact absurd m0 (by decide)
/-! alerts -/
theorem dr_al69 {v : Int32} (B : rB L h) (he : e < 4) (A : rA h s e b) (i6 : mm_i h 547 6 &&& 255 = v) (K : ∀ h', rB L h' → rA h' (mI (mI s b 15 v) b 5 7) e b → dF (zR e) h h' → Q none h') : tr (jn_X12_readAlert_69 490 (nI e) h) Q := by
  unfold jn_X12_readAlert_69
  refine tr_gr B.1.r12 (tr_gr B.1.r60 (tr_ip (dq_in B.1.l547 (k := 6) rfl (by decide) (by decide)) ?_))
  rw [show mm_n (6 : Int32) = 6 from by decide, i6]
  refine dq_st (by decide) B.1.l501 rfl he (by decide) (fun h1 F1 v1 => ?_)
  have B1 : rB L h1 := B.F F1 (fun a k z => by omega)
  refine tr_gr B1.1.r4 (dq_st (by decide) B1.1.l493 rfl he (by decide) (fun h2 F2 v2 => ?_))
  exact tr_mk (K h2 (B1.F F2 (fun a k z => by omega)) ((A.i501 F1 v1).i493 F2 v2) ((F1.R (fun z => re1 (by omega))).t (F2.R (fun z => re1 (by omega)))))
theorem dr_alertR {c : List Int32} (B : rB L h) (he : e < 4) (A : rA h s e b) (Z : rZ s b) (ky : kI s (b + 69)) (S : rS h s e b) (ov : s.2.1 b 17 = 0) (Bi : bs h 547 5 c) (hb : lby c) (hc : c.length ≤ 600) (i62 : mm_i h 490 62 = nI c.length) (K : ∀ h', rB L h' → rA h' (if c.length = 2 then mHeed s b c else mFail s b 50) e b → rS h' (if c.length = 2 then mHeed s b c else mFail s b 50) e b → dF (zR e) h h' → tr (f h') Q) : tr (mm_qv (bd_X12_readAlert 490 (nI e) h) f) Q := by
  refine tr_v (p := fun h' => rB L h' ∧ rA h' (if c.length = 2 then mHeed s b c else mFail s b 50) e b ∧ rS h' (if c.length = 2 then mHeed s b c else mFail s b 50) e b ∧ dF (zR e) h h') ?_ (fun h' q => K h' q.1 q.2.1 q.2.2.1 q.2.2.2)
  obtain ⟨-, -, -, -, -, -, zn, zl⟩ := Z
  have hz : ∀ z ∈ s.2.2 b, z.length ≤ 600 := fun z hz => (zl z hz).1
  unfold bd_X12_readAlert
  rw [i62]
  by_cases l2 : c.length = 2
  · rw [if_pos (by rw [l2]; rfl), if_pos l2]
    have y0 := hb _ (rr_mem (show 0 < c.length from (by omega)))
    have y1 := hb _ (rr_mem (show 1 < c.length from (by omega)))
    have v5 : mm_i h 547 5 = mm_b8 (c.getD 0 0) := Bi 0 (by omega)
    have v6 : mm_i h 547 6 = mm_b8 (c.getD 1 0) := Bi 1 (by omega)
    have no : ¬ (c.getD 0 0 = 1 ∧ c.getD 1 0 = 0) → tr (jn_X12_readAlert_40 490 (nI e) h) (fun v h' => v = none ∧ rB L h' ∧ rA h' (mHeed s b c) e b ∧ rS h' (mHeed s b c) e b ∧ dF (zR e) h h') := by
      intro w
      unfold jn_X12_readAlert_40 jn_X12_readAlert_41 jn_X12_readAlert_53
      rw [if_pos rfl, if_pos rfl]
      refine dr_al69 B he A (by rw [v6, b8_by y1]) (fun h1 B1 A1 F1 => ⟨rfl, B1, ?_, rS.t ?_, F1⟩)
      · unfold mHeed
        rw [if_neg w, show mI s b 17 0 = s from by rw [← ov]; exact mI_self]; exact A1
      · unfold mHeed
        rw [if_neg w]; exact Or.inr mI_at
    refine tr_gr B.1.r60 (tr_ip (dq_in B.1.l547 (k := 5) rfl (by decide) (by decide)) ?_)
    rw [show mm_n (5 : Int32) = 5 from by decide, v5]
    by_cases w1 : c.getD 0 0 = 1
    · rw [if_pos ((b8_is y0 (by decide)).mpr w1)]
      refine tr_gr B.1.r60 (tr_ip (dq_in B.1.l547 (k := 6) rfl (by decide) (by decide)) ?_)
      rw [show mm_n (6 : Int32) = 6 from by decide, v6]
      by_cases w2 : c.getD 1 0 = 0
      · rw [if_pos ((b8_is y1 (by decide)).mpr w2)]
        unfold jn_X12_readAlert_41
        rw [if_neg (by decide)]
        refine tr_gr B.1.r14 (dq_st (by decide) B.1.l503 rfl he (by decide) (fun h1 F1 v1 => ?_))
        have B1 : rB L h1 := B.F F1 (fun a k z => by omega)
        have A1 : rA h1 (mI s b 17 1) e b := A.i503 F1 v1
        unfold jn_X12_readAlert_53
        rw [if_neg (by decide)]
        refine tr_gr B1.1.r4 (tr_ip (dq_in B1.1.l493 rfl he (by decide)) ?_)
        have i5 : mm_i h1 493 e = s.2.1 b 5 := A1.2.1.trans (mI_b (by decide))
        rw [rr_n (n := e) (by omega), i5]
        unfold mHeed
        rw [if_pos (show c.getD 0 0 = 1 ∧ c.getD 1 0 = 0 from ⟨w1, w2⟩)]
        by_cases w3 : s.2.1 b 5 = 6
        · rw [if_pos w3, if_pos w3]
          exact tr_mk ⟨rfl, B1, A1, rS.t (by rw [mI_b (by decide)]; exact Or.inl w3), F1.R (fun z => re1 (by omega))⟩
        · rw [if_neg w3, if_neg w3]
          refine dr_al69 B1 he A1 (by rw [F1.i (by omega), v6, b8_by y1]) (fun h2 B2 A2 F2 => ⟨rfl, B2, A2, rS.t (Or.inr mI_at), (F1.R (fun z => re1 (by omega))).t F2⟩)
      · rw [if_neg (fun z => w2 ((b8_is y1 (by decide)).mp z))]
        exact no (fun z => w2 z.2)
    · rw [if_neg (fun z => w1 ((b8_is y0 (by decide)).mp z))]
      exact no (fun z => w1 z.1)
  · rw [if_neg (show ¬ nI c.length = 2 from by rw [show ((2 : Int32)) = nI 2 from rfl, nI_eq (by omega) (by omega)]; exact l2), if_neg l2]
    refine dr_fail B he A zn hz ky (fun h1 B1 A1 F1 => ?_)
    exact tr_mk ⟨rfl, B1, A1, rS.t (Or.inr mI_at), F1.R zx_R⟩
end RGM

