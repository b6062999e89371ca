/-! ===== the reference: secrets of the handshake, failing, opening ===== -/
abbrev zh (e a k : Nat) : Prop := (520 ≤ a ∧ a ≤ 526) ∨ (a = 490 ∧ k = 37) ∨ (528 ≤ a ∧ a ≤ 532) ∨ ((515 ≤ a ∧ a ≤ 518) ∧ k = e) ∨ ((a = 511 ∨ a = 512 ∨ a = 514) ∧ 32 * e ≤ k ∧ k < 32 * e + 32)
theorem rA.lls {h h' : mm_H} {s : sT} {e b : Nat} {x y : List Int32} (A : rA h s e b) (F : dF (zh e) h h') (wb : bs h' 511 (32 * e) y) (ly : y.length = 32) (w4 : mm_i h' 515 e = 1) (w3 : mm_i h' 517 e = 0) (ub : bs h' 512 (32 * e) x) (lx : x.length = 32) (u4 : mm_i h' 516 e = 1) (u3 : mm_i h' 518 e = 0) : rA h' (mLoad (mLoad s (b + 76) x) (b + 69) y) e b := by
  obtain ⟨c0, c1, c2, c3, c4, c5, c6, c7, c8, c9, c10, c11, c12, c13, c14, c15, c16, c17, c18, c19, c20, c21⟩ := A
  exact ⟨by rw [F.i (by omega), mlo (by omega), mlo (by omega)]; exact c0, by rw [F.i (by omega), mlo (by omega), mlo (by omega)]; exact c1, by rw [F.i (by omega), mLoad_off (by omega) (by omega) (by omega), mLoad_off (by omega) (by omega) (by omega)]; exact c2, by rw [mLoad_off (by omega) (by omega) (by omega), mLoad_off (by omega) (by omega) (by omega)]; exact c3.F F (fun k z1 z2 => (by omega)), by rw [F.i (by omega), mLoad_off (by omega) (by omega) (by omega), mLoad_off (by omega) (by omega) (by omega)]; exact c4, by rw [mLoad_off (by omega) (by omega) (by omega), mLoad_off (by omega) (by omega) (by omega)]; exact c5.F F (fun k z1 z2 => (by omega)), by rw [F.i (by omega), mLoad_off (by omega) (by omega) (by omega), mLoad_off (by omega) (by omega) (by omega)]; exact c6, by rw [mLoad_off (by omega) (by omega) (by omega), mLoad_off (by omega) (by omega) (by omega)]; exact c7.F F (fun k z1 z2 => (by omega)), by rw [F.i (by omega), mlo (by omega), mlo (by omega)]; exact c8, by rw [F.i (by omega), mlo (by omega), mlo (by omega)]; exact c9, by rw [F.i (by omega), mlo (by omega), mlo (by omega)]; exact c10, by rw [F.i (by omega), mlo (by omega), mlo (by omega)]; exact c11, by rw [F.i (by omega)]; exact c12, fun k l z => ⟨by rw [F.i (by omega)]; exact (c13 k l z).1, (c13 k l z).2.F F (fun j z3 z4 => (by omega))⟩, by rw [F.i (by omega), mLoad_off (by omega) (by omega) (by omega), mLoad_off (by omega) (by omega) (by omega)]; exact c14, by rw [mLoad_off (by omega) (by omega) (by omega), mLoad_off (by omega) (by omega) (by omega)]; exact c15.F F (fun k z1 z2 => (by omega)), by rw [ml4]; exact w4, by rw [ml3]; exact w3, fun z => by rw [show (mLoad (mLoad s (b + 76) x) (b + 69) y).1 (b + 70) = y from mLoad_1]; exact ⟨wb, ly⟩, by rw [mlo (by omega), ml4]; exact u4, by rw [mlo (by omega), ml3]; exact u3, fun z => by rw [mLoad_off (by omega) (by omega) (by omega), show (mLoad s (b + 76) x).1 (b + 77) = x from mLoad_1]; exact ⟨ub, lx⟩⟩
theorem mI_cm {s : sT} {b j k : Nat} {v w : Int32} (hjk : j ≠ k) : mI (mI s b j v) b k w = mI (mI s b k w) b j v := by
  show (s.1, va_up (va_up s.2.1 b (upd (s.2.1 b) j v)) b (upd (va_up s.2.1 b (upd (s.2.1 b) j v) b) k w), s.2.2) = (s.1, va_up (va_up s.2.1 b (upd (s.2.1 b) k w)) b (upd (va_up s.2.1 b (upd (s.2.1 b) k w) b) j v), s.2.2)
  congr 2
  funext a i
  by_cases e : a = b
  · subst e
    rw [vu_at, vu_at, vu_at, vu_at]
    by_cases e1 : i = j
    · subst e1; rw [upd_off hjk, upd_at, upd_at]
    · by_cases e2 : i = k
      · subst e2; rw [upd_at, upd_off e1, upd_at]
      · rw [upd_off e2, upd_off e1, upd_off e1, upd_off e2]
  · rw [vu_off e, vu_off e, vu_off e, vu_off e]
theorem mI_self {s : sT} {b k : Nat} : mI s b k (s.2.1 b k) = s := by
  show (s.1, va_up s.2.1 b (upd (s.2.1 b) k (s.2.1 b k)), s.2.2) = s
  have e : va_up s.2.1 b (upd (s.2.1 b) k (s.2.1 b k)) = s.2.1 := by
    funext a i
    by_cases ea : a = b
    · subst ea
      rw [vu_at]
      by_cases ei : i = k
      · subst ei; rw [upd_at]
      · rw [upd_off ei]
    · rw [vu_off ea]
  rw [e]
section RHD
variable {L : Nat} {h : mm_H} {s : sT} {e b : Nat} {f : mm_H → mm_O} {g : Int32 → mm_H → mm_O} {Q : Option Value → mm_H → Prop}
theorem dr_hand {t psk : List Int32} {rl wl : Nat} (B : rB L h) (he : e < 4) (A : rA h s e b) (e94 : s.1 (b + 94) = psk) (hp : lby psk) (hl : psk.length ≤ 64) (R : rT h t e) (hb : lby t) (ht : t.length ≤ 400) (er : (s.2.1 b 4 = 0 → rl = 18 ∧ wl = 17) ∧ (s.2.1 b 4 ≠ 0 → rl = 17 ∧ wl = 18)) (K : ∀ h', rB L h' → rA h' (mLoad (mLoad s (b + 76) (hk_e (ks_h psk) (tx_l rl) (sh_a t) 32)) (b + 69) (hk_e (ks_h psk) (tx_l wl) (sh_a t) 32)) e b → rT h' t e → bs h' 514 (32 * e) (ks_m psk) → dF (zh e) h h' → tr (f h') Q) : tr (mm_qv (bd_X12_handSecrets 490 (nI e) h) f) Q := by
  refine tr_v (p := fun h' => rB L h' ∧ rA h' (mLoad (mLoad s (b + 76) (hk_e (ks_h psk) (tx_l rl) (sh_a t) 32)) (b + 69) (hk_e (ks_h psk) (tx_l wl) (sh_a t) 32)) e b ∧ rT h' t e ∧ bs h' 514 (32 * e) (ks_m psk) ∧ dF (zh e) h h') ?_ (fun h' q => K h' q.1 q.2.1 q.2.2.1 q.2.2.2.1 q.2.2.2.2)
  have A' := A
  obtain ⟨c0, c1, c2, c3, c4, c5, c6, c7, c8, c9, c10, c11, c12, c13, c14, c15, c16, c17, c18, c19, c20, c21⟩ := A'
  rw [e94] at c2 c3
  unfold bd_X12_handSecrets
  refine dr_hear B he R.2 hb ht R.1 (fun h1 b1 F1 => ?_)
  have B1 : rB L h1 := B.F F1 (fun a k z => by omega)
  refine dr_sched B1 he (c3.F F1 (fun k _ _ => (by omega))) hp hl (by rw [F1.i (by omega)]; exact c2) (fun h2 b28 b29 b30 b14 F2 => ?_)
  have B2 : rB L h2 := B1.F F2 (fun a k z => by omega)
  have V2 := F1.c F2
  have b32 := b1.F F2 (fun k _ _ => (by omega))
  refine tr_gr B2.1.r42 (tr_gr B2.1.r3 (tr_ip (dq_in B2.1.l492 rfl he (by decide)) ?_))
  have i2 : mm_i h2 492 e = s.2.1 b 4 := by rw [V2.i (by omega)]; exact c0
  rw [rr_n (n := e) (by omega), i2]
  have key : ∀ x1 x2 : Int32, lb x1 = wl → lb x2 = rl → (∀ h3 : mm_H, mm_i h3 492 e = s.2.1 b 4 → dT L h3 → ∀ Q', tr (jn_X12_handSecrets_69 490 (nI e) x2 0 530 490 h3) Q' → tr (mm_gr h3 490 42 (fun b19 => mm_gr h3 490 3 (fun b21 => if mm_in (nI e) (mm_ln h3 b21) = true then (if (mm_i h3 b21 (mm_n (nI e))) = 0 then (jn_X12_handSecrets_69 490 (nI e) 2 0 b19 490 h3) else (jn_X12_handSecrets_69 490 (nI e) 1 0 b19 490 h3)) else none))) Q') → tr (jn_X12_handSecrets_30 490 (nI e) x1 0 530 490 h2) (fun v h' => v = none ∧ rB L h' ∧ rA h' (mLoad (mLoad s (b + 76) (hk_e (ks_h psk) (tx_l rl) (sh_a t) 32)) (b + 69) (hk_e (ks_h psk) (tx_l wl) (sh_a t) 32)) e b ∧ rT h' t e ∧ bs h' 514 (32 * e) (ks_m psk) ∧ dF (zh e) h h') := by
    intro x1 x2 l1 l2 jj
    unfold jn_X12_handSecrets_30
    refine tr_gr B2.1.r44 (tr_gr B2.1.r22 ?_)
    rw [show (32 : Int32) * nI e = nI (32 * e) from pk_mul 32 e]
    refine dr_expand (n := 32) (p := 32 * e) (fr := 0) (sec := ks_h psk) (ctx := sh_a t) B2 b30 (hm_m_len _ _) b32 (sha_by _) (by rw [sh_a_len]; decide) (by decide) (by decide) (by decide) (Or.inl rfl) 32 32 128 B2.1.l530 (by decide) (by decide) B2.1.l532 (by rw [sh_a_len]; decide) (by decide) B2.1.l511 (by omega) (by decide) rfl (by rw [sh_a_len]; rfl) rfl rfl (fun h3 b3 F3 => ?_)
    rw [l1] at b3
    have B3 : rB L h3 := B2.F F3 (fun a k z => by omega)
    refine jj h3 (by rw [F3.i (by omega)]; exact i2) B3.1 _ ?_
    unfold jn_X12_handSecrets_69
    refine tr_gr B3.1.r44 (tr_gr B3.1.r23 ?_)
    rw [show (32 : Int32) * nI e = nI (32 * e) from pk_mul 32 e]
    refine dr_expand (n := 32) (p := 32 * e) (fr := 0) (sec := ks_h psk) (ctx := sh_a t) B3 (b30.F F3 (fun k _ _ => (by omega))) (hm_m_len _ _) (b32.F F3 (fun k _ _ => (by omega))) (sha_by _) (by rw [sh_a_len]; decide) (by decide) (by decide) (by decide) (Or.inl rfl) 32 32 128 B3.1.l530 (by decide) (by decide) B3.1.l532 (by rw [sh_a_len]; decide) (by decide) B3.1.l512 (by omega) (by decide) rfl (by rw [sh_a_len]; rfl) rfl rfl (fun h4 b4 F4 => ?_)
    rw [l2] at b4
    have B4 : rB L h4 := B3.F F4 (fun a k z => by omega)
    refine tr_gr B4.1.r26 (dq_st (by decide) B4.1.l515 rfl he (by decide) (fun h5 F5 v5 => ?_))
    have T5 := B4.1.F F5
    refine tr_gr T5.r27 (dq_st (by decide) T5.l516 rfl he (by decide) (fun h6 F6 v6 => ?_))
    have T6 := T5.F F6
    refine tr_gr T6.r28 (dq_st (by decide) T6.l517 rfl he (by decide) (fun h7 F7 v7 => ?_))
    have T7 := T6.F F7
    refine tr_gr T7.r29 (dq_st (by decide) T7.l518 rfl he (by decide) (fun h8 F8 v8 => ?_))
    have W8 : dF (fun a k => (515 ≤ a ∧ a ≤ 518) ∧ k = e) h4 h8 := (((F5.c F6).c F7).c F8).mo (fun a k z => by omega)
    have V8 : dF (zh e) h h8 := (((V2.c F3).c F4).c W8).mo (fun a k z => by
      rcases z with (((z | z) | z) | z) | z
      · rcases z with z | z
        · exact Or.inl (by omega)
        · exact Or.inr (Or.inr (Or.inl (by omega)))
      · rcases z with z | z | z | z
        · exact Or.inl z
        · exact Or.inr (Or.inl z)
        · exact Or.inr (Or.inr (Or.inl (by omega)))
        · exact Or.inr (Or.inr (Or.inr (Or.inr (by omega))))
      · rcases z with z | z | z
        · exact Or.inl z
        · exact Or.inr (Or.inl z)
        · exact Or.inr (Or.inr (Or.inr (Or.inr (by omega))))
      · rcases z with z | z | z
        · exact Or.inl z
        · exact Or.inr (Or.inl z)
        · exact Or.inr (Or.inr (Or.inr (Or.inr (by omega))))
      · exact Or.inr (Or.inr (Or.inr (Or.inl z))))
    refine tr_mk ⟨rfl, B4.F W8 (fun a k z => by omega), ?_, ?_, ?_, V8⟩
    · refine A.lls V8 (b3.F (F4.c W8) (fun k _ _ => (by omega))) (hk_e_ln _ _ _ (by omega)) ?_ ?_ (b4.F W8 (fun k _ _ => (by omega))) (hk_e_ln _ _ _ (by omega)) ?_ ?_
      · rw [F8.i (by omega), F7.i (by omega), F6.i (by omega)]; exact v5
      · rw [F8.i (by omega)]; exact v7
      · rw [F8.i (by omega), F7.i (by omega)]; exact v6
      · exact v8
    · exact R.F V8 ht (fun a k z => by omega)
    · exact b14.F ((F3.c F4).c W8) (fun k _ _ => (by omega))
  by_cases c : s.2.1 b 4 = 0
  · obtain ⟨r1, r2⟩ := er.1 c
    rw [if_pos c]
    refine key 1 2 (by rw [r2]; decide) (by rw [r1]; decide) (fun h3 i3 T3 Q' t => ?_)
    refine tr_gr T3.r42 (tr_gr T3.r3 (tr_ip (dq_in T3.l492 rfl he (by decide)) ?_))
    rw [rr_n (n := e) (by omega), i3, if_pos c]; exact t
  · obtain ⟨r1, r2⟩ := er.2 c
    rw [if_neg c]
    refine key 2 1 (by rw [r2]; decide) (by rw [r1]; decide) (fun h3 i3 T3 Q' t => ?_)
    refine tr_gr T3.r42 (tr_gr T3.r3 (tr_ip (dq_in T3.l492 rfl he (by decide)) ?_))
    rw [rr_n (n := e) (by omega), i3, if_neg c]; exact t
/-- full? -/
theorem dr_full {g : Int32 → mm_H → mm_O} (T : dT L h) (he : e < 4) (A : rA h s e b) (zn : (s.2.2 b).length ≤ 32) (K : tr (g (if (s.2.2 b).length = 32 then 1 else 0) h) Q) : tr (mm_qi (bd_X12_isFull 490 (nI e) h) g) Q := by
  have c12 := A.2.2.2.2.2.2.2.2.2.2.2.2.1
  refine tr_qi (R := fun v h' => v = some (.int (if (s.2.2 b).length = 32 then 1 else 0)) ∧ h' = h) ?_ (fun v h' q => ⟨_, q.1, by rw [q.2]; exact K⟩)
  unfold bd_X12_isFull
  refine tr_gr T.r17 (tr_ip (dq_in T.l506 rfl he (by decide)) ?_)
  rw [rr_n (n := e) (by omega), c12]
  by_cases c : (s.2.2 b).length = 32
  · rw [if_pos (by rw [c]; rfl), if_pos c]; exact tr_mk ⟨rfl, rfl⟩
  · rw [if_neg (by rw [show ((32 : Int32)) = nI 32 from rfl, nI_eq (by omega) (by omega)]; exact c), if_neg c]; exact tr_mk ⟨rfl, rfl⟩
abbrev zx (e a k : Nat) : Prop := zv e a k ∨ ((a = 493 ∨ a = 500) ∧ k = e)
theorem dr_fail {x : Int32} (B : rB L h) (he : e < 4) (A : rA h s e b) (zn : (s.2.2 b).length ≤ 32) (hz : ∀ z ∈ s.2.2 b, z.length ≤ 600) (ky : kI s (b + 69)) (K : ∀ h', rB L h' → rA h' (mFail s b x) e b → dF (zx e) h h' → tr (f h') Q) : tr (mm_qv (bd_X12_fail 490 (nI e) x h) f) Q := by
  refine tr_v (p := fun h' => rB L h' ∧ rA h' (mFail s b x) e b ∧ dF (zx e) h h') ?_ (fun h' q => K h' q.1 q.2.1 q.2.2)
  unfold bd_X12_fail
  refine tr_gr B.1.r4 (dq_st (by decide) B.1.l493 rfl he (by decide) (fun h1 F1 v1 => ?_))
  have B1 : rB L h1 := B.F F1 (fun a k z => by omega)
  have A1 : rA h1 (mI s b 5 7) e b := A.i493 F1 v1
  have i2 : mm_i h1 502 e = s.2.1 b 16 := by
    have := A1.2.2.2.2.2.2.2.2.2.2.1
    rw [mI_b (by decide)] at this; exact this
  have cC : mCan (mI s b 14 x) b = mCan s b := by unfold mCan; rw [mI_b (by decide)]; rfl
  have nope : mCan s b = false → ∀ h1' : mm_H, rB L h1' → rA h1' (mI s b 5 7) e b → dF (zx e) h h1' → tr (jn_X12_fail_25 490 (nI e) x h1') (fun v h' => v = none ∧ rB L h' ∧ rA h' (mFail s b x) e b ∧ dF (zx e) h h') := by
    intro nc h2 B2 A2 V2
    unfold jn_X12_fail_25
    refine tr_gr B2.1.r11 (dq_st (by decide) B2.1.l500 rfl he (by decide) (fun h3 F3 v3 => ?_))
    have A3 := A2.i500 F3 v3
    refine tr_mk ⟨rfl, B2.F F3 (fun a k z => by omega), ?_, (V2.c F3).mo (fun a k z => by
      rcases z with z | z
      · exact z
      · exact Or.inr (by omega))⟩
    unfold mFail mTry
    rw [cC, if_neg (by rw [nc]; decide), mI_cm (by decide)]
    exact A3
  have V1 : dF (zx e) h h1 := F1.mo (fun a k z => Or.inr (by omega))
  refine tr_gr B1.1.r13 (tr_ip (dq_in B1.1.l502 rfl he (by decide)) ?_)
  rw [rr_n (n := e) (by omega), i2]
  by_cases c1 : s.2.1 b 16 = 0
  · rw [if_pos c1]
    refine dr_full B1.1 he A1 zn ?_
    show tr (if (if (s.2.2 b).length = 32 then (1 : Int32) else 0) = 0 then _ else _) _
    by_cases c2 : (s.2.2 b).length = 32
    · rw [if_pos c2, if_neg (by decide)]
      exact nope (by
        by_cases q : mCan s b = true
        · exact absurd (mCan_iff.mp q).2 (by omega)
        · simpa using q) h1 B1 A1 V1
    · rw [if_neg c2, if_pos rfl]
      have hc : mCan s b = true := mCan_iff.mpr ⟨c1, (by omega)⟩
      refine tr_gr B1.1.r11 ?_
      refine dq_sk (by decide) B1.1.l500 rfl he (by decide) (fun h3 F3 v3 => ?_)
      have A3 := A1.i500 F3 v3
      have B3 : rB L h3 := B1.F F3 (fun a k z => by omega)
      refine dr_alert B3 he A3 (show (s.2.2 b).length < 32 from (by omega)) hz ((ky.i (by omega)).i (by omega)) (fun h4 B4 A4 F4 => ?_)
      refine tr_mk ⟨rfl, B4, ?_, ((V1.c F3).c F4).mo (fun a k z => by
        rcases z with (z | z) | z
        · exact z
        · exact Or.inr (by omega)
        · exact Or.inl z)⟩
      unfold mFail mTry
      rw [cC, if_pos hc, ← mSend_mI, mI_cm (by decide)]
      exact A4
  · rw [if_neg c1]
    exact nope (by
      by_cases q : mCan s b = true
      · exact absurd (mCan_iff.mp q).1 c1
      · simpa using q) h1 B1 A1 V1
end RHD

