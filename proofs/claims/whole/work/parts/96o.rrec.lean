/-! ===== the reference's readRecord ===== -/
theorem jE.up {s : sT} {b : Nat} {v : Int32} (J : jE s b) : jE (mI s (b + 76) 3 v) b := by
  obtain ⟨⟨j1, j1'⟩, j2, j3, j4, j5, j6, j7, j8, j9, j10⟩ := J
  have e5 : (mI s (b + 76) 3 v).2.1 b = s.2.1 b := mI_o (by omega)
  have e69 : (mI s (b + 76) 3 v).2.1 (b + 69) = s.2.1 (b + 69) := mI_o (by omega)
  have e4 : (mI s (b + 76) 3 v).2.1 (b + 76) 4 = s.2.1 (b + 76) 4 := mI_b (by decide)
  unfold jE
  rw [e5, e69, e4]
  refine ⟨⟨j1.i (by omega), fun w => ?_⟩, j2, j3, j4, j5, j6, j7, j8, j9, j10⟩
  rw [e4] at w
  exact j1' w
theorem rS.up {h : mm_H} {s : sT} {e b : Nat} {v : Int32} (R : rS h s e b) : rS h (mI s (b + 76) 3 v) e b := by
  have e5 : (mI s (b + 76) 3 v).2.1 b = s.2.1 b := mI_o (by omega)
  unfold rS
  rw [e5]; exact R
theorem oF_v {s : sT} {b : Nat} {l : List Int32} : oF s b l = 0 ∨ ¬ oF s b l ≤ 0 := by
  have hm : rd_f l = 0 ∨ rd_f l = 22 ∨ rd_f l = 50 ∨ rd_f l = 70 := by
    unfold rd_f
    (repeat' split) <;> simp
  unfold oF
  rcases hm with q | q | q | q
  · rw [q, if_pos rfl]
    (repeat' split) <;> first | exact Or.inl rfl | exact Or.inr (by decide)
  · rw [q, if_neg (by decide)]; exact Or.inr (by decide)
  · rw [q, if_neg (by decide)]; exact Or.inr (by decide)
  · rw [q, if_neg (by decide)]; exact Or.inr (by decide)
/-- mRead, by what `outerFault` answers -/
theorem mRead_n {s : sT} {b : Nat} {l : List Int32} (h0 : s.2.1 b 5 ≠ 0) (h7 : s.2.1 b 5 ≠ 7) (ov : s.2.1 b 17 = 0) (q : ¬ oF s b l ≤ 0) : mRead s b l = mFail s b (oF s b l) := by
  unfold mRead
  rw [if_neg h0, if_neg h7, if_pos ov]
  unfold oF at q ⊢
  by_cases w : rd_f l = 0
  · rw [if_pos w] at q ⊢
    rw [if_pos w]
    by_cases w1 : l.getD 0 0 = 20
    · rw [if_pos w1] at q ⊢
      rw [if_pos w1]
      by_cases w2 : l.length = 6 ∧ l.getD 5 0 = 1 ∧ s.2.1 b 5 ≠ 4 ∧ s.2.1 b 5 ≠ 6
      · rw [if_pos w2] at q; exact absurd (by decide) q
      · rw [if_neg w2, if_neg w2]
    · rw [if_neg w1] at q ⊢
      rw [if_neg w1]
      by_cases w2 : l.getD 0 0 = 23 ↔ s.2.1 (b + 76) 4 = 1
      · rw [if_pos w2] at q; exact absurd (by decide) q
      · rw [if_neg w2, if_neg w2]
  · rw [if_neg w, if_neg w]
theorem mRead_0 {s : sT} {b : Nat} {l : List Int32} (h0 : s.2.1 b 5 ≠ 0) (h7 : s.2.1 b 5 ≠ 7) (ov : s.2.1 b 17 = 0) (q : oF s b l = 0) : 5 ≤ l.length ∧ ((l.getD 0 0 = 20 ∧ mRead s b l = s) ∨ (l.getD 0 0 ≠ 20 ∧ (l.getD 0 0 = 23 ↔ s.2.1 (b + 76) 4 = 1) ∧ mRead s b l = if l.getD 0 0 = 23 then mSeal s b l else mBody s b (l.getD 0 0) (l.drop 5))) := by
  unfold mRead
  rw [if_neg h0, if_neg h7, if_pos ov]
  unfold oF at q
  by_cases w : rd_f l = 0
  · have k5 : 5 ≤ l.length := by
      by_cases k5 : 5 ≤ l.length
      · exact k5
      · unfold rd_f at w; rw [if_neg k5] at w; exact absurd w (by decide)
    refine ⟨k5, ?_⟩
    rw [if_pos w] at q
    rw [if_pos w]
    by_cases w1 : l.getD 0 0 = 20
    · rw [if_pos w1] at q
      rw [if_pos w1]
      by_cases w2 : l.length = 6 ∧ l.getD 5 0 = 1 ∧ s.2.1 b 5 ≠ 4 ∧ s.2.1 b 5 ≠ 6
      · rw [if_pos w2]; exact Or.inl ⟨w1, rfl⟩
      · rw [if_neg w2] at q; exact absurd q (by decide)
    · rw [if_neg w1] at q
      rw [if_neg w1]
      by_cases w2 : l.getD 0 0 = 23 ↔ s.2.1 (b + 76) 4 = 1
      · rw [if_pos w2]; exact Or.inr ⟨w1, w2, rfl⟩
      · rw [if_neg w2] at q; exact absurd q (by decide)
  · rw [if_neg w] at q; exact absurd q w
section RRC
variable {L : Nat} {h : mm_H} {s : sT} {e b : Nat} {f : mm_H → mm_O} {g : Int32 → mm_H → mm_O} {Q : Option Value → mm_H → Prop}
/-- by type -/
theorem dr_197 {c : List Int32} {ty : Int32} (B : rB L h) (he : e < 4) (A : rA h s e b) (Z : rZ s b) (J : jE s b) (S : rS h s e b) (st : sS (s.2.1 b 5)) (ov : s.2.1 b 17 = 0) (Bi : bs h 547 5 c) (hb : lby c) (hc : c.length ≤ 600) (i61 : mm_i h 490 61 = ty) (i62 : mm_i h 490 62 = nI c.length) (ht : ty &&& 255 = ty) (t23 : ty = 23 → s.2.1 (b + 76) 4 ≠ 0) (K : ∀ h', rB L h' → rA h' (mBody s b ty c) e b → rS h' (mBody s b ty c) e b → dF (zR e) h h' → Q none h') : tr (jn_X12_readRecord_197 490 (nI e) h) Q := by
  have ky := J.1.1
  have Z' := Z
  obtain ⟨-, -, -, -, -, -, zn, zl⟩ := Z'
  have hz : ∀ z ∈ s.2.2 b, z.length ≤ 600 := fun z hz => (zl z hz).1
  unfold jn_X12_readRecord_197 jn_X12_readRecord_240
  unfold mBody at K
  rw [i61]
  by_cases w1 : ty = 21
  · rw [if_pos w1]
    rw [if_pos w1] at K
    exact dr_alertR B he A Z ky S ov Bi hb hc i62 (fun h1 B1 A1 S1 F1 => tr_mk (K h1 B1 A1 S1 F1))
  · rw [if_neg w1]
    rw [if_neg w1] at K
    by_cases w3 : ty = 23
    · rw [if_pos w3]
      rw [if_neg (by rw [w3]; decide), if_pos w3] at K
      refine tr_gr B.1.r27 (tr_ip (dq_in B.1.l516 rfl he (by decide)) ?_)
      have c19 := A.2.2.2.2.2.2.2.2.2.2.2.2.2.2.2.2.2.2.2.1
      rw [rr_n (n := e) (by omega), c19, if_neg (t23 w3)]
      exact dr_dataR B he A Z ky Bi hb hc i62 (fun h1 B1 A1 S1 F1 => tr_mk (K h1 B1 A1 S1 F1))
    · rw [if_neg w3]
      by_cases w2 : ty = 22
      · rw [if_pos w2]
        rw [if_pos w2] at K
        exact dr_msgR B he A Z J S st Bi hb hc i62 (fun h1 B1 A1 S1 F1 => tr_mk (K h1 B1 A1 S1 F1))
      · rw [if_neg w2]
        rw [if_neg w2, if_neg w3, if_neg (fun z => by rw [z] at ht; exact absurd ht (by decide))] at K
        exact dr_fail B he A zn hz ky (fun h1 B1 A1 F1 => tr_mk (K h1 B1 A1 (rS.t (Or.inr mI_at)) (F1.R zx_R)))
theorem dm_119 {ke : Nat → Int32 → mm_H → mm_O} {c : List Int32} (hb : lby c) (hc : c.length ≤ 600) : ∀ (k n : Nat) (h : mm_H), dT L h → bs h 547 5 c → mm_i h 490 62 = nI k → k ≤ c.length → k < n → ∃ h', lp_X12_readRecord_119 ke n 490 (nI e) h = ke 490 (nI e) h' ∧ dF (zo 490 62) h h' ∧ mm_i h' 490 62 = nI (rd_k c k) := by
  intro k
  induction k with
  | zero =>
    intro n h T B i62 hk hn
    obtain ⟨n, rfl⟩ : ∃ k, n = k + 1 := ⟨n - 1, by omega⟩
    rw [lp_X12_readRecord_119, i62, if_pos (by decide)]
    exact ⟨h, rfl, dF.rf, i62⟩
  | succ k ih =>
    intro n h T B i62 hk hn
    obtain ⟨n, rfl⟩ : ∃ k, n = k + 1 := ⟨n - 1, by omega⟩
    have y := hb _ (rr_mem (show k < c.length from (by omega)))
    have v : mm_i h 547 (4 + (k + 1)) = mm_b8 (c.getD k 0) := by
      have := B k (by omega)
      rw [show 5 + k = 4 + (k + 1) by omega] at this; exact this
    rw [lp_X12_readRecord_119, i62, if_neg (by rw [show ((0 : Int32)) = nI 0 from rfl, nI_leI (by omega) (by omega)]; omega), mm_gr_s T.r60, show (4 : Int32) + nI (k + 1) = nI (4 + (k + 1)) from nI_add 4 _, T.l547, if_pos (rr_in (by omega) (by omega)), rr_n (by omega), v, rd_k]
    by_cases w : c.getD k 0 = 0
    · rw [if_pos ((b8_is y (by decide)).mpr w), if_pos w, mm_bh, nI_m1]
      have F1 : dF (zo 490 62) h (mm_si h 490 62 (nI k)) := dF.si
      have v1 : mm_i (mm_si h 490 62 (nI k)) 490 62 = nI k := mi_eq
      generalize mm_si h 490 62 (nI k) = h1 at F1 v1
      obtain ⟨h', p1, p2, p3⟩ := ih n h1 (T.F F1) (B.F F1 (fun _ _ _ => (by omega))) v1 (by omega) (by omega)
      exact ⟨h', p1, F1.t p2, p3⟩
    · rw [if_neg (fun z => w ((b8_is y (by decide)).mp z)), if_neg w]
      exact ⟨h, rfl, dF.rf, i62⟩
theorem rdk_le {c : List Int32} : ∀ k, rd_k c k ≤ k := by
  intro k
  induction k with
  | zero => exact Nat.le_refl 0
  | succ k ih =>
    rw [rd_k]
    by_cases w : c.getD k 0 = 0
    · rw [if_pos w]; omega
    · rw [if_neg w]; exact Nat.le_refl _
abbrev zu (a k : Nat) : Prop := a = 490 ∧ (k = 61 ∨ k = 62)
theorem dr_read {l : List Int32} (B : rB L h) (he : e < 4) (A : rA h s e b) (Z : rZ s b) (J : jE s b) (S : rS h s e b) (Bi : bs h 547 0 l) (hb : lby l) (hl : l.length ≤ 600) (K : ∀ h', rB L h' → rA h' (mRead s b l) e b → rS h' (mRead s b l) e b → dF (zR e) h h' → tr (f h') Q) : tr (mm_qv (bd_X12_readRecord 490 (nI e) (nI l.length) h) f) Q := by
  refine tr_v (p := fun h' => rB L h' ∧ rA h' (mRead s b l) e b ∧ rS h' (mRead s b l) e b ∧ dF (zR e) h h') ?_ (fun h' q => K h' q.1 q.2.1 q.2.2.1 q.2.2.2)
  have Z' := Z
  obtain ⟨-, -, -, -, ⟨z100, -⟩, -, zn, zl⟩ := Z'
  have hz : ∀ z ∈ s.2.2 b, z.length ≤ 600 := fun z hz => (zl z hz).1
  have c1 := A.2.1
  have c11 := A.2.2.2.2.2.2.2.2.2.2.2.1
  have c19 := A.2.2.2.2.2.2.2.2.2.2.2.2.2.2.2.2.2.2.2.1
  have T := B.1
  unfold bd_X12_readRecord
  refine tr_gr T.r4 (tr_ip (dq_in T.l493 rfl he (by decide)) ?_)
  rw [rr_n (n := e) (by omega), c1]
  by_cases h0 : s.2.1 b 5 = 0
  · rw [if_pos h0]
    have e0 : mRead s b l = s := by unfold mRead; rw [if_pos h0]
    rw [e0]; exact tr_mk ⟨rfl, B, A, S, dF.rf⟩
  rw [if_neg h0]
  refine tr_gr T.r4 (tr_ip (dq_in T.l493 rfl he (by decide)) ?_)
  rw [c1]
  by_cases h7 : s.2.1 b 5 = 7
  · rw [if_pos h7]
    have e0 : mRead s b l = s := by unfold mRead; rw [if_neg h0, if_pos h7]
    rw [e0]; exact tr_mk ⟨rfl, B, A, S, dF.rf⟩
  rw [if_neg h7]
  refine tr_gr T.r14 (tr_ip (dq_in T.l503 rfl he (by decide)) ?_)
  rw [c11]
  by_cases ov : s.2.1 b 17 = 0
  · rw [if_pos ov]
    have st : sS (s.2.1 b 5) := (J.2.2.1.resolve_left h0).resolve_right h7
    have l88 : (s.1 (b + 88)).length ≤ 32 := by rw [(J.2.2.2.2.2.2.1 h0).2.2.1]; exact Nat.le_of_eq (hm_m_len _ _)
    refine dr_outer T he A Bi hb hl st J.2.1.2 ?_
    rcases oF_v (s := s) (b := b) (l := l) with q | q
    · rw [q, if_pos (by decide)]
      obtain ⟨k5, cases0⟩ := mRead_0 h0 h7 ov q
      obtain ⟨i0, y0⟩ := in_at (x := 0) Bi hb (show 0 < l.length from (by omega)) (by decide)
      refine tr_gr T.r60 (tr_ip (dq_in T.l547 (k := 0) rfl (by decide) (by decide)) ?_)
      rw [i0, b8_by y0]
      refine dq_fd (fun h1 F1 v1 => ?_)
      rw [show nI l.length - 5 = nI (l.length - 5) from by rw [show ((5 : Int32)) = nI 5 from rfl, nI_sb k5]]
      refine dq_fd (fun h2 F2 v2 => ?_)
      have U2 : dF zu h h2 := (F1.c F2).mo (fun a k z => by omega)
      have B2 : rB L h2 := B.F U2 (fun a k z => by omega)
      have A2 : rA h2 s e b := A.S U2 (fun a k z => by omega)
      have S2 : rS h2 s e b := S.F (by omega) l88 U2 (fun a k z => by omega)
      have V2 : dF (zR e) h h2 := U2.R (fun z => rc3 (by omega))
      have i61 : mm_i h2 490 61 = l.getD 0 0 := by rw [F2.i (by omega)]; exact v1
      rw [i61]
      rcases cases0 with ⟨w, e0⟩ | ⟨w, wi, e0⟩
      · rw [if_pos w, e0]; exact tr_mk ⟨rfl, B2, A2, S2, V2⟩
      · rw [if_neg w, e0]
        refine tr_gr B2.1.r27 (tr_ip (dq_in B2.1.l516 rfl he (by decide)) ?_)
        have i516 : mm_i h2 516 e = s.2.1 (b + 76) 4 := by rw [U2.i (by omega)]; exact c19
        rw [i516]
        have Bi2 := Bi.F U2 (fun k _ _ => (by omega))
        by_cases w3 : l.getD 0 0 = 23
        · have hr := wi.mp w3
          rw [if_neg (by rw [hr]; decide), if_pos w3]
          rw [show mm_i h2 490 62 = nI (l.length - 5) from v2]
          refine dr_open B2 he A2 Bi2 hb hl k5 (by rw [hr]; decide) J.1.2 (fun h3 no B3 A3 F3 => ?_) (fun h3 ok B3 A3 b3 F3 => ?_)
          · rw [if_pos rfl]
            have em : mSeal s b l = mFail s b 20 := by unfold mSeal; rw [if_neg no]
            rw [em]
            exact dr_fail B3 he A3 zn hz J.1.1 (fun h4 B4 A4 F4 => tr_mk ⟨rfl, B4, A4, rS.t (Or.inr mI_at), (V2.t (F3.R zq_R)).t (F4.R zx_R)⟩)
          · rw [if_neg (by decide)]
            obtain ⟨s', hs'⟩ : ∃ s', s' = mI s (b + 76) 3 (s.2.1 (b + 76) 3 + 1) := ⟨_, rfl⟩
            obtain ⟨o, ho⟩ : ∃ o, o = rd_o s b l := ⟨_, rfl⟩
            have em : mSeal s b l = if rd_t o = -1 then mFail s' b 10 else mBody s' b (rd_t o) (rd_i o) := by unfold mSeal; rw [if_pos ok, ← hs', ← ho]
            rw [em]
            rw [← hs'] at A3
            rw [← ho] at b3
            have lo : o.length = l.length - 21 := by rw [ho]; unfold rd_o; rw [sl_o_ln, List.length_drop, List.length_take]; omega
            have yo : lby o := by rw [ho]; unfold rd_o; exact chm_by ((lby.take hb).drop)
            have V3 := V2.t (F3.R zq_R)
            have Z3 : rZ s' b := by rw [hs']; exact Z
            have J3 : jE s' b := by rw [hs']; exact J.up
            have S3 : rS h3 s' e b := by rw [hs']; exact (S2.F (by omega) l88 F3 (fun a k z => by omega)).up
            have st3 : sS (s'.2.1 b 5) := by rw [hs', mI_o (by omega)]; exact st
            have ov3 : s'.2.1 b 17 = 0 := by rw [hs', mI_o (by omega)]; exact ov
            have r3 : s'.2.1 (b + 76) 4 ≠ 0 := by rw [hs', mI_b (by decide), hr]; decide
            have zn3 : (s'.2.2 b).length ≤ 32 := by rw [hs']; exact zn
            have hz3 : ∀ z ∈ s'.2.2 b, z.length ≤ 600 := by rw [hs']; exact hz
            have l100 : (s'.1 (b + 100)).length ≤ 400 := by rw [hs']; show (s.1 (b + 100)).length ≤ 400; omega
            have l88' : (s'.1 (b + 88)).length ≤ 32 := by rw [hs']; exact l88
            have i62 : mm_i h3 490 62 = nI (l.length - 5) := by rw [F3.i (by omega)]; exact v2
            rw [i62, show nI (l.length - 5) - 16 = nI o.length from by rw [show ((16 : Int32)) = nI 16 from rfl, nI_sb (by omega), lo, Nat.sub_sub]]
            refine dq_fd (fun h4 F4 v4 => ?_)
            have B4 : rB L h4 := B3.F F4 (fun a k z => by omega)
            obtain ⟨h5, p5, F5, i5⟩ := dm_119 (L := L) (e := e) (ke := fun b51 v52 h50 => if (mm_i h50 b51 62) = 0 then (mm_qv (bd_X12_fail b51 v52 10 h50) (fun h60 => some (none, h60))) else (mm_bh (mm_si h50 b51 62 ((mm_i h50 b51 62) - (1 : Int32))) (fun h53 => mm_gr h53 b51 60 (fun b55 => if mm_in ((5 : Int32) + (mm_i h53 b51 62)) (mm_ln h53 b55) = true then (mm_bh (mm_si h53 b51 61 ((mm_i h53 b55 (mm_n ((5 : Int32) + (mm_i h53 b51 62)))) &&& (255 : Int32))) (fun h58 => jn_X12_readRecord_197 b51 v52 h58)) else none)))) yo (by omega) o.length mm_fu h4 B4.1 (b3.F F4 (fun k _ _ => (by omega))) v4 (Nat.le_refl _) (by unfold mm_fu; omega)
            rw [p5]
            have U5 := F4.t F5
            have B5 : rB L h5 := B3.F U5 (fun a k z => by omega)
            have A5 : rA h5 s' e b := A3.S U5 (fun a k z => by omega)
            have V5 : dF (zR e) h h5 := V3.t (U5.R (fun z => rc3 (by omega)))
            have kle := rdk_le (c := o) o.length
            show tr (if mm_i h5 490 62 = 0 then _ else _) _
            rw [i5]
            by_cases k0 : rd_k o o.length = 0
            · have et : rd_t o = -1 := by unfold rd_t; rw [if_pos k0]
              rw [if_pos (by rw [k0]; rfl), if_pos et]
              exact dr_fail B5 he A5 zn3 hz3 J3.1.1 (fun h6 B6 A6 F6 => tr_mk ⟨rfl, B6, A6, rS.t (Or.inr mI_at), V5.t (F6.R zx_R)⟩)
            · obtain ⟨k, hk⟩ : ∃ k, rd_k o o.length = k + 1 := ⟨rd_k o o.length - 1, by omega⟩
              have et : rd_t o = o.getD k 0 := by unfold rd_t; rw [if_neg k0, hk, Nat.add_sub_cancel]
              have ei : rd_i o = o.take k := by unfold rd_i; rw [hk, Nat.add_sub_cancel]
              have yk := yo _ (rr_mem (show k < o.length from (by omega)))
              rw [if_neg (by rw [show ((0 : Int32)) = nI 0 from rfl, nI_eq (by omega) (by omega)]; exact k0), hk, nI_m1, et, ei, if_neg (fun z => by rw [z] at yk; exact absurd yk (by decide))]
              refine dq_fd (fun h6 F6 v6 => ?_)
              have B6 : rB L h6 := B5.F F6 (fun a k z => by omega)
              refine tr_gr B6.1.r60 ?_
              rw [show mm_i h6 490 62 = nI k from v6, show (5 : Int32) + nI k = nI (5 + k) from nI_add 5 k]
              refine tr_ip (dq_in B6.1.l547 rfl (by omega) (by decide)) ?_
              have b6 : bs h6 547 5 o := (b3.F U5 (fun k _ _ => (by omega))).F F6 (fun k _ _ => (by omega))
              rw [rr_n (by omega), b6.at (show k < o.length from (by omega)), b8_by yk]
              refine dq_fd (fun h7 F7 v7 => ?_)
              have U7 := F6.c F7
              have W7 := U5.c U7
              have lk : (o.take k).length = k := by rw [List.length_take]; omega
              refine dr_197 (c := o.take k) (ty := o.getD k 0) (B5.F U7 (fun a k z => by omega)) he (A5.S U7 (fun a k z => by omega)) Z3 J3 (S3.F l100 l88' W7 (fun a k z => by omega)) st3 ov3 ((b6.F F7 (fun k _ _ => (by omega))).take) (lby.take yo) (by omega) v7 (by rw [lk, F7.i (by omega)]; exact v6) yk (fun _ => r3) (fun h8 B8 A8 S8 F8 => ?_)
              exact ⟨rfl, B8, A8, S8, (V5.t (U7.R (fun z => rc3 (by omega)))).t F8⟩
        · have hr0 : s.2.1 (b + 76) 4 = 0 := J.2.1.2.resolve_right (fun z => w3 (wi.mpr z))
          rw [if_pos hr0, if_neg w3]
          have ld : (l.drop 5).length = l.length - 5 := List.length_drop
          refine dr_197 (c := l.drop 5) (ty := l.getD 0 0) B2 he A2 Z J S2 st ov (by have := Bi2.drop (n := 5); rw [Nat.zero_add] at this; exact this) (lby.drop hb) (by omega) i61 (by rw [ld]; exact v2) y0 (fun z => absurd z w3) (fun h3 B3 A3 S3 F3 => ⟨rfl, B3, A3, S3, V2.t F3⟩)
    · rw [if_neg q, mRead_n h0 h7 ov q]
      exact dr_fail B he A zn hz J.1.1 (fun h1 B1 A1 F1 => tr_mk ⟨rfl, B1, A1, rS.t (Or.inr mI_at), F1.R zx_R⟩)
  · rw [if_neg ov]
    have e0 : mRead s b l = s := by unfold mRead; rw [if_neg h0, if_neg h7, if_neg ov]
    rw [e0]; exact tr_mk ⟨rfl, B, A, S, dF.rf⟩
end RRC
