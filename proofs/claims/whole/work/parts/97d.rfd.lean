/-! ===== the reference's calls: start, say, update, close, and those that only tell ===== -/
section RFD
variable {L : Nat} {h h' : mm_H} {s s' : sT} {e b : Nat} {f : mm_H → mm_O} {g : Int32 → mm_H → mm_O} {Q : Option Value → mm_H → Prop}
/-- a call on END e, done -/
theorem rP.put {x : Int32} (R : rR L h s) (Z : jB s) (J : jC s) (he : e < 4) (hb : b = 82 + 102 * e) (B' : rB L h') (A' : rA h' s' e b) (S' : rS h' s' e b) (F : dF (zR e) h h') (X : xF b s s') : rP L h (x, s') (some (.int x)) h' := by
  subst hb
  exact ⟨rfl, R.put Z J he B' A' S' F X, F.mo (fun a k z => zR_A z)⟩
theorem cq_start {x : Int32} (R : rR L h s) (Z : jB s) (J : jC s) : tr (bd_X12_start 490 x h) (rP L h (nStart s x)) := by
  obtain ⟨r1, ⟨r2, r3⟩, r4, r5⟩ := id R
  unfold bd_X12_start nStart
  refine dr_isEnd R J (fun e0 => ?_) (fun e he ex e0 hm => ?_)
  · rw [e0, if_pos rfl]; exact tr_mk (rP.mk R)
  · rw [e0, ex, if_neg (by decide)]
    obtain ⟨A, S⟩ := r5 e he
    have je := J.2.2.2 e he
    have ze := Z.2 e he
    obtain ⟨b, hb⟩ : ∃ b, b = 82 + 102 * e := ⟨_, rfl⟩
    rw [← hb] at A S je ze ⊢
    have A' := A
    obtain ⟨c0, c1, c2, c3, c4, c5, c6, c7, c8, c9, c10, c11, c12, c13, c14, c15, c16, c17, c18, c19, c20, c21⟩ := A'
    have T := r1.1
    show tr _ (rP L h (if _ then _ else _))
    have no : ¬ (s.2.1 b 5 = 0 ∧ s.1 (b + 94) ≠ [] ∧ s.1 (b + 96) ≠ [] ∧ s.1 (b + 98) ≠ []) → tr (some (some (.int 0), h)) (rP L h (if s.2.1 b 5 = 0 ∧ s.1 (b + 94) ≠ [] ∧ s.1 (b + 96) ≠ [] ∧ s.1 (b + 98) ≠ [] then (1, mBegin s b) else (0, s))) := fun z => by rw [if_neg z]; exact tr_mk (rP.mk R)
    have ze' := ze
    obtain ⟨⟨z94, y94⟩, ⟨z96, y96⟩, ⟨z98, y98⟩, -, ⟨z100, -⟩, -, -, -⟩ := ze'
    refine tr_gr T.r4 (tr_ip (dq_in T.l493 rfl he (by decide)) ?_)
    rw [rr_n (n := e) (by omega), c1]
    by_cases s0 : s.2.1 b 5 = 0
    · rw [if_pos s0]
      refine tr_gr T.r6 (tr_ip (dq_in T.l495 rfl he (by decide)) ?_)
      rw [c2]
      by_cases n94 : s.1 (b + 94) = []
      · rw [if_pos ((nI_z (by omega)).mpr n94)]; exact no (fun z => z.2.1 n94)
      · rw [if_neg (fun z => n94 ((nI_z (by omega)).mp z))]
        refine tr_gr T.r8 (tr_ip (dq_in T.l497 rfl he (by decide)) ?_)
        rw [c4]
        by_cases n96 : s.1 (b + 96) = []
        · rw [if_pos ((nI_z (by omega)).mpr n96)]; exact no (fun z => z.2.2.1 n96)
        · rw [if_neg (fun z => n96 ((nI_z (by omega)).mp z))]
          refine tr_gr T.r10 (tr_ip (dq_in T.l499 rfl he (by decide)) ?_)
          rw [c6]
          by_cases n98 : s.1 (b + 98) = []
          · rw [if_pos n98, if_pos rfl]; exact no (fun z => z.2.2.2 n98)
          · rw [if_neg n98, if_neg (show ¬ (1 : Int32) = 0 by decide), if_pos ⟨s0, n94, n96, n98⟩]
            refine tr_gr T.r4 (tr_gr T.r3 (tr_ip (dq_in T.l492 rfl he (by decide)) ?_))
            rw [c0]
            obtain ⟨e100, pz⟩ := je.2.2.2.1 (Or.inl s0)
            have cl := je.2.2.2.2.2.1 (by rw [s0]; decide) (by rw [s0]; decide)
            have h32 := je.2.2.2.2.2.2.2.2.1.resolve_left n98
            have AP : rA h (mPrep s b) e b := ((A.m (by omega)).m (by omega)).m (by omega)
            have kP : kI (mPrep s b) (b + 69) := ((je.1.1.m (by omega) (by omega) (by omega)).m (by omega) (by omega) (by omega)).m (by omega) (by omega) (by omega)
            unfold jn_X12_start_65
            by_cases sv : s.2.1 b 4 = 0
            · rw [if_pos sv]
              obtain ⟨m, em⟩ : ∃ m, m = ms_cb (s.1 (b + 94)) (s.1 (b + 98)) (s.1 (b + 96)) := ⟨_, rfl⟩
              obtain ⟨S0, hS0⟩ : ∃ S, S = mI (mM (mPrep s b) (b + 100) m) b 5 1 := ⟨_, rfl⟩
              have eB : mBegin s b = mSend S0 b 22 m := by
                unfold mBegin
                rw [if_pos sv, ← em]
                unfold mTry
                rw [mCan_m, show mCan (mPrep s b) b = true from mCan_iff.mpr ⟨cl, by show (s.2.2 b).length < 32; rw [pz]; decide⟩, if_pos rfl, ← mSend_mI, ← hS0]
              rw [eB]
              refine dq_st (by decide) T.l493 rfl he (by decide) (fun h1 F1 v1 => ?_)
              have B1 : rB L h1 := r1.F F1 (fun a k z => by omega)
              have A1 : rA h1 S0 e b := by rw [hS0]; exact (AP.m (rm100 rfl)).i493 F1 v1
              refine tr_gr B1.1.r3 (tr_ip (dq_in B1.1.l492 rfl he (by decide)) ?_)
              have i4 : mm_i h1 492 e = s.2.1 b 4 := by rw [F1.i (by omega)]; exact c0
              rw [rr_n (n := e) (by omega), i4, if_pos sv]
              have oS : ∀ r, r ≠ b + 84 → r ≠ b + 86 → r ≠ b + 88 → r ≠ b + 100 → S0.1 r = s.1 r := fun r a1 a2 a3 a4 => by
                rw [hS0]
                show (mM (mPrep s b) (b + 100) m).1 r = _
                unfold mPrep
                rw [mM_off a4, mM_off a3, mM_off a2, mM_off a1]
              have RT : rT h1 [] e := by
                have := S.1 (by rw [s0]; decide) (by rw [s0]; decide)
                rw [e100] at this
                exact this.F F1 (by decide) (fun a k z => by omega)
              have ZS : rZ S0 b := by
                unfold rZ
                rw [oS (b + 94) (by omega) (by omega) (by omega) (by omega), oS (b + 96) (by omega) (by omega) (by omega) (by omega), oS (b + 98) (by omega) (by omega) (by omega) (by omega), oS (b + 67) (by omega) (by omega) (by omega) (by omega), oS (b + 70) (by omega) (by omega) (by omega) (by omega), oS (b + 77) (by omega) (by omega) (by omega) (by omega)]
                obtain ⟨u1, u2, u3, u4, u5, u6, u7, u8⟩ := ze
                have e100' : S0.1 (b + 100) = m := by rw [hS0]; exact mM_at
                rw [e100']
                have lm : m.length ≤ 278 := by
                  rw [em]; unfold ms_cb
                  rw [List.length_append, List.length_append, ms_ch_ln, tb6, ksp_ln, h32]; omega
                have ym : lby m := by
                  rw [em, cb_eq _ _ _ h32 z96]
                  unfold ms_h
                  exact ((lby.one (and255 _)).app (num_by _ _)).app ((chb_by y98 y96).app ((num_by _ _).app ((lby.one (and255 _)).app (ksp_by _ _))))
                exact ⟨u1, u2, u3, u4, ⟨lm, ym⟩, u6, by rw [hS0]; exact u7, by rw [hS0]; exact u8⟩
              refine dr_hello (psk := s.1 (b + 94)) (rnd := s.1 (b + 98)) (name := s.1 (b + 96)) B1 he A1 (oS _ (by omega) (by omega) (by omega) (by omega)) (oS _ (by omega) (by omega) (by omega) (by omega)) (oS _ (by omega) (by omega) (by omega) (by omega)) ZS h32 RT (by rw [hS0]; show (s.2.2 b).length < 32; rw [pz]; decide) (by rw [hS0]; exact (kP.m (by omega) (by omega) (by omega)).i (by omega)) (fun h2 B2 A2 R2 m2 F2 => ?_)
              rw [← em] at A2 R2
              refine tr_mk (rP.put R Z J he hb B2 A2 ?_ ((F1.R (fun z => re1 (by omega))).t (F2.R (fun z => z.elim zM_R zi_R))) (by rw [← eB]; exact xBegin))
              unfold rS
              rw [show (mSend S0 b 22 m).1 = S0.1 from rfl, show (mSend S0 b 22 m).2.1 b = S0.2.1 b from sdI_o (by omega)]
              have s5 : S0.2.1 b 5 = 1 := by rw [hS0]; exact mI_at
              have o100 : S0.1 (b + 100) = m := by rw [hS0]; exact mM_at
              have o88 : S0.1 (b + 88) = ks_m (s.1 (b + 94)) := by
                rw [hS0]
                show (mM (mPrep s b) (b + 100) m).1 (b + 88) = _
                rw [mM_off (by omega)]; unfold mPrep; exact mM_at
              rw [s5, o100, o88]
              exact ⟨fun _ _ => R2, fun _ => m2, fun z => absurd z (by decide)⟩
            · rw [if_neg sv]
              have eB : mBegin s b = mI (mPrep s b) b 5 4 := by unfold mBegin; rw [if_neg sv]
              rw [eB]
              refine dq_st (by decide) T.l493 rfl he (by decide) (fun h1 F1 v1 => ?_)
              have B1 : rB L h1 := r1.F F1 (fun a k z => by omega)
              refine tr_gr B1.1.r3 (tr_ip (dq_in B1.1.l492 rfl he (by decide)) ?_)
              have i4 : mm_i h1 492 e = s.2.1 b 4 := by rw [F1.i (by omega)]; exact c0
              rw [rr_n (n := e) (by omega), i4, if_neg sv]
              refine tr_mk (rP.put R Z J he hb B1 (AP.i493 F1 v1) ?_ (F1.R (fun z => re1 (by omega))) (by rw [← eB]; exact xBegin))
              have p100 : (mI (mPrep s b) b 5 4).1 (b + 100) = [] := by
                show (mPrep s b).1 (b + 100) = []
                unfold mPrep; rw [mM_off (by omega), mM_off (by omega), mM_off (by omega)]; exact e100
              unfold rS
              rw [mI_at, p100]
              refine ⟨fun _ _ => ?_, fun z => absurd z (by decide), fun z => absurd z (by decide)⟩
              have := S.1 (by rw [s0]; decide) (by rw [s0]; decide)
              rw [e100] at this
              exact this.F F1 (by decide) (fun a k z => by omega)
    · rw [if_neg s0]; exact no (fun z => s0 z.1)
/-- may it say something? -/
theorem dr_can {x : Int32} (R : rR L h s) (Z : jB s) (J : jC s) (K0 : (∀ b, fd s x = some b → ¬ (s.2.1 b 5 = 6 ∧ mCan s b = true)) → tr (g 0 h) Q) (K1 : ∀ e b, e < 4 → b = 82 + 102 * e → x = nI e → fd s x = some b → (∃ n, s.2.1 32 3 = nI n ∧ n ≤ 4 ∧ e < n) → s.2.1 b 5 = 6 → mCan s b = true → tr (g 1 h) Q) : tr (mm_qi (bd_X12_canSay 490 x h) g) Q := by
  refine tr_qi (R := fun v h' => h' = h ∧ ((v = some (.int 0) ∧ ∀ b, fd s x = some b → ¬ (s.2.1 b 5 = 6 ∧ mCan s b = true)) ∨ (v = some (.int 1) ∧ ∃ e b, e < 4 ∧ b = 82 + 102 * e ∧ x = nI e ∧ fd s x = some b ∧ (∃ n, s.2.1 32 3 = nI n ∧ n ≤ 4 ∧ e < n) ∧ s.2.1 b 5 = 6 ∧ mCan s b = true))) ?_ (fun v h' q => by
    obtain ⟨rfl, q⟩ := q
    rcases q with ⟨e1, q⟩ | ⟨e1, e, b, q1, q2, q3, q4, q5, q6, q7⟩
    · exact ⟨0, e1, K0 q⟩
    · exact ⟨1, e1, K1 e b q1 q2 q3 q4 q5 q6 q7⟩)
  unfold bd_X12_canSay
  refine dr_isEnd R J (fun e0 => ?_) (fun e he ex e0 hm => ?_)
  · rw [if_pos rfl]
    exact tr_mk ⟨rfl, Or.inl ⟨rfl, fun b z => by rw [e0] at z; exact absurd z (by simp)⟩⟩
  · rw [if_neg (by decide)]
    obtain ⟨A, S⟩ := R.2.2.2 e he
    have ze := Z.2 e he
    have T := R.1.1
    have no : ¬ (s.2.1 (82 + 102 * e) 5 = 6 ∧ mCan s (82 + 102 * e) = true) → tr (some (some (.int 0), h)) (fun v h' => h' = h ∧ ((v = some (.int 0) ∧ ∀ b, fd s x = some b → ¬ (s.2.1 b 5 = 6 ∧ mCan s b = true)) ∨ (v = some (.int 1) ∧ ∃ e b, e < 4 ∧ b = 82 + 102 * e ∧ x = nI e ∧ fd s x = some b ∧ (∃ n, s.2.1 32 3 = nI n ∧ n ≤ 4 ∧ e < n) ∧ s.2.1 b 5 = 6 ∧ mCan s b = true))) := fun z => tr_mk ⟨rfl, Or.inl ⟨rfl, fun b q => by rw [e0] at q; rw [← Option.some.inj q]; exact z⟩⟩
    rw [ex]
    rw [ex] at no e0
    refine tr_gr T.r4 (tr_ip (dq_in T.l493 rfl he (by decide)) ?_)
    rw [rr_n (n := e) (by omega), A.2.1]
    by_cases s6 : s.2.1 (82 + 102 * e) 5 = 6
    · rw [if_pos s6]
      refine tr_gr T.r13 (tr_ip (dq_in T.l502 rfl he (by decide)) ?_)
      rw [A.2.2.2.2.2.2.2.2.2.2.1]
      by_cases cl : s.2.1 (82 + 102 * e) 16 = 0
      · rw [if_pos cl]
        refine dr_full T he A ze.2.2.2.2.2.2.1 ?_
        by_cases c2 : (s.2.2 (82 + 102 * e)).length = 32
        · rw [if_pos c2, if_neg (by decide)]
          exact no (fun z => by have := (mCan_iff.mp z.2).2; omega)
        · rw [if_neg c2, if_pos rfl]
          have := ze.2.2.2.2.2.2.1
          exact tr_mk ⟨rfl, Or.inr ⟨rfl, e, _, he, rfl, rfl, e0, hm, s6, mCan_iff.mpr ⟨cl, (by omega)⟩⟩⟩
      · rw [if_neg cl]; exact no (fun z => cl (mCan_iff.mp z.2).1)
    · rw [if_neg s6]; exact no (fun z => s6 z.1)
theorem cq_say {x : Int32} (R : rR L h s) (Z : jB s) (J : jC s) : tr (bd_X12_say 490 x h) (rP L h (nSay s x)) := by
  obtain ⟨r1, ⟨r2, r3⟩, r4, r5⟩ := id R
  have l33 := Z.1.1
  unfold bd_X12_say nSay
  refine dr_can R Z J (fun no => ?_) (fun e b he hb ex e0 hm s6 hc => ?_)
  · rw [if_pos rfl]
    cases hf : fd s x with
    | none => exact tr_mk (rP.mk R)
    | some b =>
      show tr _ (rP L h (if _ then _ else _))
      rw [if_neg (fun z => no b hf z.2)]; exact tr_mk (rP.mk R)
  · rw [e0, if_neg (by decide)]
    show tr _ (rP L h (if _ then _ else _))
    obtain ⟨A, S⟩ := r5 e he
    have je := J.2.2.2 e he
    have ze := Z.2 e he
    rw [← hb] at A S je ze
    have hz : ∀ z ∈ s.2.2 b, z.length ≤ 600 := fun z hz => (ze.2.2.2.2.2.2.2 z hz).1
    have hp := (mCan_iff.mp hc).2
    rw [r2, dr_isIn]
    by_cases c1 : (s.1 33).length < 1
    · rw [if_pos (show nI (s.1 33).length < 1 from by rw [show ((1 : Int32)) = nI 1 from rfl, nI_ltI (by omega) (by omega)]; exact c1), if_pos rfl, if_neg (fun z => by omega)]
      exact tr_mk (rP.mk R)
    · rw [if_neg (show ¬ nI (s.1 33).length < 1 from by rw [show ((1 : Int32)) = nI 1 from rfl, nI_ltI (by omega) (by omega)]; exact c1)]
      by_cases c2 : 400 < (s.1 33).length
      · rw [if_pos (show (400 : Int32) < nI (s.1 33).length from by rw [show ((400 : Int32)) = nI 400 from rfl, nI_ltI (by omega) (by omega)]; exact c2), if_pos rfl, if_neg (fun z => by omega)]
        exact tr_mk (rP.mk R)
      · rw [if_neg (show ¬ (400 : Int32) < nI (s.1 33).length from by rw [show ((400 : Int32)) = nI 400 from rfl, nI_ltI (by omega) (by omega)]; exact c2), if_neg (by decide), if_pos ⟨⟨(by omega), (by omega)⟩, s6, hc⟩, ex]
        refine dr_go0 (fun h1 G1 F1 => ?_)
        have B1 : rB L h1 := r1.F F1 (fun a k z => by omega)
        refine tr_gr B1.1.r0 ?_
        refine dr_sayR (fr := 0) 620 B1.1 B1.1.l491 (r3.F F1 (fun k _ _ => (by omega))) Z.1.2 (by decide) (by omega) (by decide) G1 (by simp; omega) rfl (by rw [F1.i (by omega)]; exact r2) (fun h2 G2 F2 => ?_)
        rw [List.nil_append] at G2
        have U2 := F1.t F2
        refine dr_write (r1.F U2 (fun a k z => by omega)) he (A.S U2 (fun a k z => by omega)) G2 (by omega) Z.1.2 hp hz je.1.1 (fun h3 B3 A3 F3 => ?_)
        have V3 : dF (zR e) h h3 := (U2.R zy_R).t (F3.R zw_R)
        have e5 : (mSend s b 23 (s.1 33)).2.1 b 5 = 6 := by rw [show (mSend s b 23 (s.1 33)).2.1 b = s.2.1 b from sdI_o (by omega)]; exact s6
        have R3 : rR L h3 (mSend s b 23 (s.1 33)) := by
          rw [hb] at A3 e5 ⊢
          exact R.put Z J he B3 A3 (rS.t (Or.inl e5)) V3 xS
        refine dq_fd (fun h4 F4 v4 => ?_)
        have FT : dF zT h3 h4 := F4.mo (fun a k z => by omega)
        have A4 := A3.S FT (fun a k z => by omega)
        have T4 := R3.1.1.F FT
        refine tr_gr T4.r17 (tr_ip (dq_in T4.l506 rfl he (by decide)) ?_)
        have i6 : mm_i h4 506 e = nI ((s.2.2 b).length + 1) := by
          have := A4.2.2.2.2.2.2.2.2.2.2.2.2.1
          rw [mSend_z, List.length_append, List.length_singleton] at this; exact this
        rw [rr_n (n := e) (by omega), i6]
        refine tr_mk ⟨rfl, ⟨R3.1.F FT (fun a k z => by omega), ⟨by rw [mM_at]; exact v4, by rw [mM_at]; exact bs.nil⟩, by rw [FT.i (by omega)]; exact R3.2.2.1, fun e' he' => ?_⟩, (V3.mo (fun a k z => zR_A z)).t (FT.mo (fun a k z => by omega))⟩
        obtain ⟨a1, a2⟩ := R3.2.2.2 e' he'
        refine ⟨(a1.S FT (fun a k z => by omega)).q (tape_q he'), (a2.G (Nat.le_trans (Z.2 e' he').2.2.2.2.1.1 (by decide)) ?_ FT (fun a k z => by omega)).q (tape_q he')⟩
        by_cases ee : e' = e
        · subst ee
          rw [hb] at je s6 ⊢
          exact je.send6 s6
        · rw [hb]
          exact (J.2.2.2 e' he').q (xS.eqE (bE_k he) (bE_k he') (by omega))
theorem cq_update {x a : Int32} (R : rR L h s) (Z : jB s) (J : jC s) : tr (bd_X12_update 490 x a h) (rP L h (nUpdate s x a)) := by
  obtain ⟨r1, ⟨r2, r3⟩, r4, r5⟩ := id R
  unfold bd_X12_update nUpdate
  refine dr_can R Z J (fun no => ?_) (fun e b he hb ex e0 hm s6 hc => ?_)
  · rw [if_pos rfl]
    cases hf : fd s x with
    | none => exact tr_mk (rP.mk R)
    | some b =>
      show tr _ (rP L h (if _ then _ else _))
      rw [if_neg (fun z => no b hf z.2.2)]; exact tr_mk (rP.mk R)
  · rw [e0, if_neg (by decide), dr_isIn]
    show tr _ (rP L h (if _ then _ else _))
    obtain ⟨A, S⟩ := r5 e he
    have je := J.2.2.2 e he
    have ze := Z.2 e he
    rw [← hb] at A S je ze
    have hz : ∀ z ∈ s.2.2 b, z.length ≤ 600 := fun z hz => (ze.2.2.2.2.2.2.2 z hz).1
    have hp := (mCan_iff.mp hc).2
    by_cases c1 : a < 0
    · rw [if_pos c1, if_pos rfl, if_neg (fun z => z.1 c1)]; exact tr_mk (rP.mk R)
    · rw [if_neg c1]
      by_cases c2 : 1 < a
      · rw [if_pos c2, if_pos rfl, if_neg (fun z => z.2.1 c2)]; exact tr_mk (rP.mk R)
      · rw [if_neg c2, if_neg (by decide), if_pos ⟨c1, c2, s6, hc⟩, ex]
        have f8 := je.2.2.2.2.2.2.2.1 (Or.inr (Or.inr (Or.inr s6)))
        refine dr_upd r1 he A f8.1 hp hz je.1.1 (fun h1 B1 A1 F1 => ?_)
        refine tr_gr B1.1.r17 (tr_ip (dq_in B1.1.l506 rfl he (by decide)) ?_)
        have i6 : mm_i h1 506 e = nI ((s.2.2 b).length + 1) := by
          have := A1.2.2.2.2.2.2.2.2.2.2.2.2.1
          rw [show (mRenew s b a).2.2 b = s.2.2 b ++ [sd_r s.1 s.2.1 b 22 (ms_up a)] from mSend_z, List.length_append, List.length_singleton] at this; exact this
        rw [rr_n (n := e) (by omega), i6]
        have j' := je.renew (x := a) s6
        refine tr_mk (rP.put R Z J he hb B1 A1 (rS.t (Or.inl ?_)) (F1.R (fun z => z.elim zv_R (zz_R (Or.inl rfl)))) xRenew)
        unfold mRenew
        rw [mlo (by omega), show (mSend s b 22 (ms_up a)).2.1 b = s.2.1 b from sdI_o (by omega)]; exact s6
theorem cq_close {x : Int32} (R : rR L h s) (Z : jB s) (J : jC s) : tr (bd_X12_close 490 x h) (rP L h (nClose s x)) := by
  obtain ⟨r1, ⟨r2, r3⟩, r4, r5⟩ := id R
  unfold bd_X12_close nClose
  refine dr_can R Z J (fun no => ?_) (fun e b he hb ex e0 hm s6 hc => ?_)
  · rw [if_pos rfl]
    cases hf : fd s x with
    | none => exact tr_mk (rP.mk R)
    | some b =>
      show tr _ (rP L h (if _ then _ else _))
      rw [if_neg (fun z => no b hf z)]; exact tr_mk (rP.mk R)
  · rw [e0, if_neg (by decide)]
    show tr _ (rP L h (if _ then _ else _))
    obtain ⟨A, S⟩ := r5 e he
    have je := J.2.2.2 e he
    have ze := Z.2 e he
    rw [← hb] at A S je ze
    have hz : ∀ z ∈ s.2.2 b, z.length ≤ 600 := fun z hz => (ze.2.2.2.2.2.2.2 z hz).1
    have hp := (mCan_iff.mp hc).2
    rw [if_pos ⟨s6, hc⟩, ex]
    refine dr_alert r1 he A hp hz je.1.1 (fun h1 B1 A1 F1 => ?_)
    refine tr_gr B1.1.r13 (dq_st (by decide) B1.1.l502 rfl he (by decide) (fun h2 F2 v2 => ?_))
    refine tr_mk (rP.put R Z J he hb (B1.F F2 (fun a k z => by omega)) (A1.i502 F2 v2) (rS.t (Or.inl ?_)) ((F1.R zv_R).t (F2.R (fun z => re1 (by omega)))) xShut)
    unfold mShut
    rw [mI_b (by decide), show (mSend s b 21 (ms_al 1 0)).2.1 b = s.2.1 b from sdI_o (by omega)]; exact s6
end RFD
