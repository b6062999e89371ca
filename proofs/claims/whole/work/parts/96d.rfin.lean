/-! ===== the reference: FINISHED, alerts, UPDATE ===== -/
section RFN
variable {L : Nat} {h : mm_H} {s : sT} {e b : Nat} {f : mm_H → mm_O} {g : Int32 → mm_H → mm_O} {Q : Option Value → mm_H → Prop}
abbrev zf (e a k : Nat) : Prop := zM e a k ∨ (531 ≤ a ∧ a ≤ 533)
theorem dr_fin {t sec : List Int32} (B : rB L h) (he : e < 4) (A : rA h s e b) (R : rT h t e) (hb : lby t) (ht : t.length + 36 ≤ 400) (b2 : bs h 511 (32 * e) sec) (h2 : sec.length = 32) (hp : (s.2.2 b).length < 32) (hz : ∀ z ∈ s.2.2 b, z.length ≤ 600) (ky : kI s (b + 69)) (K : ∀ h', rB L h' → rA h' (mSend s b 22 (ms_fi (ks_p sec t))) e b → rT h' (t ++ ms_fi (ks_p sec t)) e → dF (zf e) h h' → tr (f h') Q) : tr (mm_qv (bd_X12_sayFinished 490 (nI e) h) f) Q := by
  refine tr_v (p := fun h' => rB L h' ∧ rA h' (mSend s b 22 (ms_fi (ks_p sec t))) e b ∧ rT h' (t ++ ms_fi (ks_p sec t)) e ∧ dF (zf e) h h') ?_ (fun h' q => K h' q.1 q.2.1 q.2.2.1 q.2.2.2)
  unfold bd_X12_sayFinished
  refine dr_begM B.1 (fun h1 G1 F1 => ?_)
  have B1 : rB L h1 := B.F F1 (fun a k z => by omega)
  refine tr_gr B1.1.r22 (tr_gr B1.1.r43 ?_)
  have R1 := R.F F1 (by omega) (fun a k z => by omega)
  refine dr_prove (p := 0) B1 he R1.2 hb (by omega) R1.1 (b2.F F1 (fun k _ _ => (by omega))) h2 (Or.inl rfl) rfl B1.1.l531 (by decide) (by decide) rfl (fun h3 b3 F3 => ?_)
  have B3 : rB L h3 := B1.F F3 (fun a k z => by omega)
  refine tr_gr B3.1.r43 ?_
  have G3 := G1.F F3 (fun a k z => by omega)
  refine dr_sayR 32 B3.1 B3.1.l531 b3 (ksp_by _ _) (by decide) (by rw [ksp_ln]; decide) (by decide) G3 (by rw [ksp_ln]; simp) rfl (by rw [ksp_ln]; rfl) (fun h4 G4 F4 => ?_)
  have V4 := (F1.c F3).c F4
  have B4 : rB L h4 := B.F V4 (fun a k z => by omega)
  refine dr_endM1 B4 he (A.S V4 (fun a k z => by omega)) (R.F V4 (by omega) (fun a k z => by omega)) (by rw [ksp_ln]; omega) G4 (ksp_by _ _) hp hz ky (fun h5 B5 A5 R5 F5 => ?_)
  rw [ksp_ln] at A5 R5
  refine tr_mk ⟨rfl, B5, A5, R5, (V4.c F5).mo (fun a k z => ?_)⟩
  rcases z with ((z | z) | z) | z
  · exact Or.inl (by omega)
  · rcases z with z | z | z | z
    · exact Or.inl (Or.inl z)
    · exact Or.inl (by omega)
    · exact Or.inr (by omega)
    · exact Or.inr (by omega)
  · exact Or.inl (by omega)
  · exact Or.inl z
abbrev zv (e a k : Nat) : Prop := zw e a k ∨ zy a k
theorem dr_alert {x y : Int32} (B : rB L h) (he : e < 4) (A : rA h s e b) (hp : (s.2.2 b).length < 32) (hz : ∀ z ∈ s.2.2 b, z.length ≤ 600) (ky : kI s (b + 69)) (K : ∀ h', rB L h' → rA h' (mSend s b 21 (ms_al x y)) e b → dF (zv e) h h' → tr (f h') Q) : tr (mm_qv (bd_X12_sayAlert 490 (nI e) x y h) f) Q := by
  refine tr_v (p := fun h' => rB L h' ∧ rA h' (mSend s b 21 (ms_al x y)) e b ∧ dF (zv e) h h') ?_ (fun h' q => K h' q.1 q.2.1 q.2.2)
  unfold bd_X12_sayAlert
  refine dr_go0 (fun h1 G1 F1 => ?_)
  refine dr_sayB (B.1.F F1) G1 (by decide) (fun h2 G2 F2 => ?_)
  refine dr_sayB ((B.1.F F1).F F2) G2 (by simp) (fun h3 G3 F3 => ?_)
  have V3 := (F1.t F2).t F3
  have B3 : rB L h3 := B.F V3 (fun a k z => by omega)
  have G3' : gO h3 (ms_al x y) := G3
  refine dr_write B3 he (A.S V3 (fun a k z => by omega)) G3' (by rw [ms_al_ln]; decide) ((lby.one (and255 _)).app (lby.one (and255 _))) hp hz ky (fun h4 B4 A4 F4 => ?_)
  exact tr_mk ⟨rfl, B4, A4, (V3.c F4).mo (fun a k z => z.symm)⟩
theorem dr_follow {a1 : Nat} {sec : List Int32} (B : rB L h) (he : e < 4) (b1 : bs h a1 (32 * e) sec) (h1 : sec.length = 32) (n1 : a1 = 511 ∨ a1 = 512) (K : ∀ h', rB L h' → bs h' a1 (32 * e) (hk_e sec (tx_l 14) [] 32) → dF (zz a1 (32 * e) 32) h h' → tr (f h') Q) : tr (mm_qv (bd_X12_follow 490 a1 (nI e) h) f) Q := by
  refine tr_v (p := fun h' => rB L h' ∧ bs h' a1 (32 * e) (hk_e sec (tx_l 14) [] 32) ∧ dF (zz a1 (32 * e) 32) h h') ?_ (fun h' q => K h' q.1 q.2.1 q.2.2)
  unfold bd_X12_follow
  rw [show (32 : Int32) * nI e = nI (32 * e) from pk_mul 32 e]
  refine tr_gr B.1.r40 ?_
  have l1 : mm_ln h a1 = 128 := by
    rcases n1 with rfl | rfl
    · exact B.1.l511
    · exact B.1.l512
  refine dr_expand (n := 32) (sec := sec) (ctx := []) B b1 h1 bs.nil lby.nil (by decide) (by omega) (by decide) (by omega) (Or.inl rfl) 128 32 128 l1 (by omega) (by decide) B.1.l528 (by decide) (by decide) l1 (by omega) (by decide) rfl rfl rfl rfl (fun h3 b3 F3 => ?_)
  rw [show lb 8 = 14 from by decide] at b3
  exact tr_mk ⟨rfl, B.F F3 (fun a k z => by omega), b3, F3⟩
theorem rA_w {w : Int32} (A : rA h s e b) (hw : s.2.1 (b + 69) 4 = w) (h0 : w ≠ 0) : bs h 511 (32 * e) (s.1 (b + 70)) ∧ (s.1 (b + 70)).length = 32 := A.2.2.2.2.2.2.2.2.2.2.2.2.2.2.2.2.2.2.1 (by rw [hw]; exact h0)
theorem rA_r {w : Int32} (A : rA h s e b) (hw : s.2.1 (b + 76) 4 = w) (h0 : w ≠ 0) : bs h 512 (32 * e) (s.1 (b + 77)) ∧ (s.1 (b + 77)).length = 32 := A.2.2.2.2.2.2.2.2.2.2.2.2.2.2.2.2.2.2.2.2.2 (by rw [hw]; exact h0)
theorem dr_upd {x : Int32} (B : rB L h) (he : e < 4) (A : rA h s e b) (hw : s.2.1 (b + 69) 4 = 1) (hp : (s.2.2 b).length < 32) (hz : ∀ z ∈ s.2.2 b, z.length ≤ 600) (ky : kI s (b + 69)) (K : ∀ h', rB L h' → rA h' (mRenew s b x) e b → dF (fun a k => zv e a k ∨ zz 511 (32 * e) 32 a k) h h' → tr (f h') Q) : tr (mm_qv (bd_X12_sayUpdate 490 (nI e) x h) f) Q := by
  refine tr_v (p := fun h' => rB L h' ∧ rA h' (mRenew s b x) e b ∧ dF (fun a k => zv e a k ∨ zz 511 (32 * e) 32 a k) h h') ?_ (fun h' q => K h' q.1 q.2.1 q.2.2)
  unfold bd_X12_sayUpdate
  refine dr_begM B.1 (fun h1 G1 F1 => ?_)
  refine dr_sayB (B.1.F F1) G1 (by simp) (fun h2 G2 F2 => ?_)
  have V2 := F1.t F2
  have B2 : rB L h2 := B.F V2 (fun a k z => by omega)
  refine dr_endM0 B2 he (A.S V2 (fun a k z => by omega)) (by simp) G2 (lby.one (and255 _)) hp hz ky (fun h3 B3 A3 F3 => ?_)
  have A3' : rA h3 (mSend s b 22 (ms_up x)) e b := A3
  have hw3 : (mSend s b 22 (ms_up x)).2.1 (b + 69) 4 = 1 := sd_I4.trans hw
  obtain ⟨k3, l3⟩ := rA_w A3' hw3 (by decide)
  refine tr_gr B3.1.r22 ?_
  refine dr_follow B3 he k3 l3 (Or.inl rfl) (fun h4 B4 b4 F4 => ?_)
  refine tr_gr B4.1.r28 (dq_st (by decide) B4.1.l517 rfl he (by decide) (fun h5 F5 v5 => ?_))
  have A3'' := A3'
  obtain ⟨c0, c1, c2, c3, c4, c5, c6, c7, c8, c9, c10, c11, c12, c13, c14, c15, c16, c17, c18, c19, c20, c21⟩ := A3''
  have F45 : dF (fun a k => (520 ≤ a ∧ a ≤ 526) ∨ (a = 490 ∧ k = 37) ∨ (a = 511 ∧ 32 * e ≤ k ∧ k < 32 * e + 32) ∨ (a = 517 ∧ k = e)) h3 h5 := (F4.c F5).mo (fun a k z => by omega)
  refine tr_mk ⟨rfl, B4.F F5 (fun a k z => by omega), ?_, ((V2.c F3).c F45).mo (fun a k z => by
    rcases z with (z | z) | z
    · exact Or.inl (Or.inr z)
    · exact Or.inl z
    · rcases z with z | z | z | z
      · exact Or.inr (Or.inl z)
      · exact Or.inr (Or.inr (Or.inl z))
      · exact Or.inr (Or.inr (Or.inr z))
      · exact Or.inl (Or.inl (by omega)))⟩
  have lx : (hk_e (s.1 (b + 70)) (tx_l 14) [] 32).length = 32 := hk_e_ln _ _ _ (by omega)
  refine rA.l69s A3' F45 (b4.F F5 (fun k _ _ => (by omega))) lx (by rw [F45.i (by omega), c16]; exact hw3) v5
end RFN
