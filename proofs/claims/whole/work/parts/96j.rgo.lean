/-! ===== the reference goes on: frames ===== -/
abbrev zN (a : Nat) : Prop := a < 492 ∨ 518 < a ∨ a = 509 ∨ a = 510 ∨ a = 513 ∨ a = 514
theorem rA.l69t {h h' : mm_H} {s : sT} {e b : Nat} {x : List Int32} (A : rA h s e b) (F : dF (fun a k => zN a ∨ (a = 511 ∧ 32 * e ≤ k ∧ k < 32 * e + 32) ∨ (a = 517 ∧ k = e)) h h') (wb : bs h' 511 (32 * e) x) (lx : x.length = 32) (w4 : mm_i h' 515 e = 1) (w3 : mm_i h' 517 e = 0) : rA h' (mLoad s (b + 69) x) e b := by
  obtain ⟨c0, c1, c2, c3, c4, c5, c6, c7, c8, c9, c10, c11, c12, c13, c14, c15, c16, c17, c18, c19, c20, c21⟩ := A
  exact ⟨by rw [F.i (by omega), mlo (by omega)]; exact c0, by rw [F.i (by omega), mlo (by omega)]; exact c1, by rw [F.i (by omega), mLoad_off (by omega) (by omega) (by omega)]; exact c2, by rw [mLoad_off (by omega) (by omega) (by omega)]; exact c3.F F (fun k z1 z2 => (by omega)), by rw [F.i (by omega), mLoad_off (by omega) (by omega) (by omega)]; exact c4, by rw [mLoad_off (by omega) (by omega) (by omega)]; exact c5.F F (fun k z1 z2 => (by omega)), by rw [F.i (by omega), mLoad_off (by omega) (by omega) (by omega)]; exact c6, by rw [mLoad_off (by omega) (by omega) (by omega)]; exact c7.F F (fun k z1 z2 => (by omega)), by rw [F.i (by omega), mlo (by omega)]; exact c8, by rw [F.i (by omega), mlo (by omega)]; exact c9, by rw [F.i (by omega), mlo (by omega)]; exact c10, by rw [F.i (by omega), mlo (by omega)]; exact c11, by rw [F.i (by omega)]; exact c12, fun k l z => ⟨by rw [F.i (by omega)]; exact (c13 k l z).1, (c13 k l z).2.F F (fun j z3 z4 => (by omega))⟩, by rw [F.i (by omega), mLoad_off (by omega) (by omega) (by omega)]; exact c14, by rw [mLoad_off (by omega) (by omega) (by omega)]; exact c15.F F (fun k z1 z2 => (by omega)), by rw [ml4]; exact w4, by rw [ml3]; exact w3, fun z => by rw [show (mLoad s (b + 69) x).1 (b + 70) = x from mLoad_1]; exact ⟨wb, lx⟩, by rw [F.i (by omega), mlo (by omega)]; exact c19, by rw [F.i (by omega), mlo (by omega)]; exact c20, fun z => by rw [mlo (by omega)] at z; rw [mLoad_off (by omega) (by omega) (by omega)]; exact ⟨(c21 z).1.F F (fun k z1 z2 => (by omega)), (c21 z).2⟩⟩
theorem rA.l76t {h h' : mm_H} {s : sT} {e b : Nat} {x : List Int32} (A : rA h s e b) (F : dF (fun a k => zN a ∨ (a = 512 ∧ 32 * e ≤ k ∧ k < 32 * e + 32) ∨ (a = 518 ∧ k = e)) h h') (wb : bs h' 512 (32 * e) x) (lx : x.length = 32) (w4 : mm_i h' 516 e = 1) (w3 : mm_i h' 518 e = 0) : rA h' (mLoad s (b + 76) x) e b := by
  obtain ⟨c0, c1, c2, c3, c4, c5, c6, c7, c8, c9, c10, c11, c12, c13, c14, c15, c16, c17, c18, c19, c20, c21⟩ := A
  exact ⟨by rw [F.i (by omega), mlo (by omega)]; exact c0, by rw [F.i (by omega), mlo (by omega)]; exact c1, by rw [F.i (by omega), mLoad_off (by omega) (by omega) (by omega)]; exact c2, by rw [mLoad_off (by omega) (by omega) (by omega)]; exact c3.F F (fun k z1 z2 => (by omega)), by rw [F.i (by omega), mLoad_off (by omega) (by omega) (by omega)]; exact c4, by rw [mLoad_off (by omega) (by omega) (by omega)]; exact c5.F F (fun k z1 z2 => (by omega)), by rw [F.i (by omega), mLoad_off (by omega) (by omega) (by omega)]; exact c6, by rw [mLoad_off (by omega) (by omega) (by omega)]; exact c7.F F (fun k z1 z2 => (by omega)), by rw [F.i (by omega), mlo (by omega)]; exact c8, by rw [F.i (by omega), mlo (by omega)]; exact c9, by rw [F.i (by omega), mlo (by omega)]; exact c10, by rw [F.i (by omega), mlo (by omega)]; exact c11, by rw [F.i (by omega)]; exact c12, fun k l z => ⟨by rw [F.i (by omega)]; exact (c13 k l z).1, (c13 k l z).2.F F (fun j z3 z4 => (by omega))⟩, by rw [F.i (by omega), mLoad_off (by omega) (by omega) (by omega)]; exact c14, by rw [mLoad_off (by omega) (by omega) (by omega)]; exact c15.F F (fun k z1 z2 => (by omega)), by rw [F.i (by omega), mlo (by omega)]; exact c16, by rw [F.i (by omega), mlo (by omega)]; exact c17, fun z => by rw [mlo (by omega)] at z; rw [mLoad_off (by omega) (by omega) (by omega)]; exact ⟨(c18 z).1.F F (fun k z1 z2 => (by omega)), (c18 z).2⟩, by rw [ml4]; exact w4, by rw [ml3]; exact w3, fun z => by rw [show (mLoad s (b + 76) x).1 (b + 77) = x from mLoad_1]; exact ⟨wb, lx⟩⟩
/-- all that calls on END e may change -/
abbrev zR (e a k : Nat) : Prop := zc a k ∨ zE e a k
theorem rc1 {e a k : Nat} (z : 520 ≤ a ∧ a ≤ 526) : zR e a k := Or.inl (Or.inl z)
theorem rc2 {e a k : Nat} (z : 528 ≤ a ∧ a ≤ 548) : zR e a k := Or.inl (Or.inr (Or.inl z))
theorem rc3 {e a k : Nat} (z : a = 490 ∧ (k = 37 ∨ k = 58 ∨ 61 ≤ k)) : zR e a k := Or.inl (Or.inr (Or.inr z))
theorem re1 {e a k : Nat} (z : k = e ∧ (a = 492 ∨ a = 493 ∨ a = 495 ∨ a = 497 ∨ (499 ≤ a ∧ a ≤ 503) ∨ a = 506 ∨ a = 508 ∨ a = 510 ∨ (515 ≤ a ∧ a ≤ 518))) : zR e a k := Or.inr (Or.inl z)
theorem re4 {e a k : Nat} (z : (a = 498 ∨ (511 ≤ a ∧ a ≤ 514)) ∧ 32 * e ≤ k ∧ k < 32 * e + 32) : zR e a k := Or.inr (Or.inr (Or.inr (Or.inr (Or.inl z))))
theorem re5 {e a k : Nat} (z : a = 504 ∧ 21120 * e ≤ k ∧ k < 21120 * e + 21120) : zR e a k := Or.inr (Or.inr (Or.inr (Or.inr (Or.inr (Or.inl z)))))
theorem re6 {e a k : Nat} (z : a = 505 ∧ 33 * e ≤ k ∧ k < 33 * e + 33) : zR e a k := Or.inr (Or.inr (Or.inr (Or.inr (Or.inr (Or.inr (Or.inl z))))))
theorem re7 {e a k : Nat} (z : a = 507 ∧ 2000 * e ≤ k ∧ k < 2000 * e + 2000) : zR e a k := Or.inr (Or.inr (Or.inr (Or.inr (Or.inr (Or.inr (Or.inr (Or.inl z)))))))
theorem re8 {e a k : Nat} (z : a = 509 ∧ 400 * e ≤ k ∧ k < 400 * e + 400) : zR e a k := Or.inr (Or.inr (Or.inr (Or.inr (Or.inr (Or.inr (Or.inr (Or.inr z)))))))
theorem zM_R {e a k : Nat} (z : zM e a k) : zR e a k := by
  rcases z with z | z | z | z | z | z | z
  · exact rc1 z
  · exact rc2 (by omega)
  · exact rc3 (by omega)
  · exact re5 z
  · exact re6 z
  · exact re1 (by omega)
  · exact re8 z
theorem zi_R {e a k : Nat} (z : zi e a k) : zR e a k := by
  rcases z with z | z | z | z | z
  · exact rc1 z
  · exact rc3 (by omega)
  · exact rc2 (by omega)
  · exact re4 (by omega)
  · exact rc2 (by omega)
theorem zh_R {e a k : Nat} (z : zh e a k) : zR e a k := by
  rcases z with z | z | z | z | z
  · exact rc1 z
  · exact rc3 (by omega)
  · exact rc2 (by omega)
  · exact re1 (by omega)
  · exact re4 (by omega)
theorem zf_R {e a k : Nat} (z : zf e a k) : zR e a k := by
  rcases z with z | z
  · exact zM_R z
  · exact rc2 (by omega)
theorem zy_R {e a k : Nat} (z : zy a k) : zR e a k := by
  rcases z with z | z
  · exact rc2 (by omega)
  · exact rc3 (by omega)
theorem zw_R {e a k : Nat} (z : zw e a k) : zR e a k := by
  rcases z with z | z | z | z | z | z
  · exact rc1 z
  · exact rc2 (by omega)
  · exact rc3 (by omega)
  · exact re5 z
  · exact re6 z
  · exact re1 (by omega)
theorem zv_R {e a k : Nat} (z : zv e a k) : zR e a k := z.elim zw_R zy_R
theorem zx_R {e a k : Nat} (z : zx e a k) : zR e a k := by
  rcases z with z | z
  · exact zv_R z
  · exact re1 (by omega)
theorem zz_R {e a k b : Nat} (hb : b = 511 ∨ b = 512 ∨ b = 513) (z : zz b (32 * e) 32 a k) : zR e a k := by
  rcases z with z | z | z
  · exact rc1 z
  · exact rc3 (by omega)
  · exact re4 (by omega)
theorem zs_R {e a k : Nat} (z : zs 532 0 32 a k) : zR e a k := by
  rcases z with z | z
  · exact rc1 (by omega)
  · exact rc2 (by omega)
theorem zq_R {e a k : Nat} (z : zq e a k) : zR e a k := by
  rcases z with z | z | z | z | z
  · exact rc1 z
  · exact rc2 (by omega)
  · exact rc3 (by omega)
  · exact re1 (by omega)
  · exact rc2 (by omega)
theorem zn_R {e a k : Nat} (z : zn e a k) : zR e a k := by
  rcases z with z | z
  · exact rc3 (by omega)
  · exact zi_R z
theorem dF.R {S : Nat → Nat → Prop} {h h' : mm_H} {e : Nat} (F : dF S h h') (n : ∀ {a k}, S a k → zR e a k) : dF (zR e) h h' := F.mo (fun _ _ z => n z)
theorem mCan_m {s : sT} {b r : Nat} {l : List Int32} : mCan (mM s r l) b = mCan s b := rfl
theorem mSay_s {s : sT} {b : Nat} {l : List Int32} (hc : mCan s b = true) : mSay s b l = mSend (mM s (b + 100) (s.1 (b + 100) ++ l)) b 22 l := by
  unfold mSay mTry
  rw [mCan_m, if_pos hc]
theorem mCan_send {s : sT} {b : Nat} {x : Int32} {l : List Int32} (h16 : s.2.1 b 16 = 0) (hp : (s.2.2 b).length < 31) : mCan (mSend s b x l) b = true := by
  refine mCan_iff.mpr ⟨?_, ?_⟩
  · rw [show (mSend s b x l).2.1 b = s.2.1 b from sdI_o (by omega)]; exact h16
  · rw [mSend_z, List.length_append, List.length_singleton]; omega
theorem mLoad_b {s : sT} {b k : Nat} {x : List Int32} (hk : b ≠ k) : (mLoad s k x).2.1 b = s.2.1 b := mlo hk
theorem mSend_mLoad {s : sT} {b : Nat} {x : Int32} {l y : List Int32} : mSend (mLoad s (b + 76) y) b x l = mLoad (mSend s b x l) (b + 76) y := by
  have e1 : (mLoad s (b + 76) y).2.1 (b + 69) = s.2.1 (b + 69) := mlo (by omega)
  have e2 : sd_I (mLoad s (b + 76) y).2.1 b = (mLoad (mSend s b x l) (b + 76) y).2.1 := by
    show sd_I (va_up s.2.1 (b + 76) (upd (upd (s.2.1 (b + 76)) 3 0) 4 1)) b = va_up (sd_I s.2.1 b) (b + 76) (upd (upd (sd_I s.2.1 b (b + 76)) 3 0) 4 1)
    rw [sdI_o (b := b) (a := b + 76) (I := s.2.1) (by omega)]
    unfold sd_I
    rw [vu_off (show b + 69 ≠ b + 76 from (by omega))]
    by_cases c : s.2.1 (b + 69) 4 = 0
    · rw [if_pos c, if_pos c]
    · rw [if_neg c, if_neg c]
      funext a
      by_cases a1 : a = b + 76
      · subst a1; rw [vu_off (by omega), vu_at, vu_at]
      · by_cases a2 : a = b + 69
        · subst a2; rw [vu_at, vu_off (by omega), vu_at]
        · rw [vu_off a2, vu_off a1, vu_off a1, vu_off a2]
  have e3 : sd_r (mLoad s (b + 76) y).1 (mLoad s (b + 76) y).2.1 b x l = sd_r s.1 s.2.1 b x l := by
    unfold sd_r
    rw [e1, mLoad_off (r := b + 72) (by omega) (by omega) (by omega), mLoad_off (r := b + 74) (by omega) (by omega) (by omega)]
  show ((mLoad s (b + 76) y).1, sd_I (mLoad s (b + 76) y).2.1 b, va_up s.2.2 b (s.2.2 b ++ [sd_r (mLoad s (b + 76) y).1 (mLoad s (b + 76) y).2.1 b x l])) = _
  rw [e2, e3]
  rfl
/-- what follows the head of a SERVERHELLO -/
def sh_b (rnd : List Int32) : List Int32 := rr_num 771 2 ++ (rnd ++ ([(0 : Int32) &&& 255] ++ (rr_num 4867 2 ++ ([(0 : Int32) &&& 255] ++ (rr_num 12 2 ++ (rr_num 43 2 ++ (rr_num 2 2 ++ (rr_num 772 2 ++ (rr_num 41 2 ++ (rr_num 2 2 ++ rr_num 0 2))))))))))
theorem shb_ln (rnd : List Int32) : (sh_b rnd).length = 20 + rnd.length := by
  unfold sh_b
  simp only [List.length_append, rr_num_len, List.length_singleton]; omega
theorem shb_by {rnd : List Int32} (h1 : lby rnd) : lby (sh_b rnd) := by
  unfold sh_b
  exact (num_by _ _).app (h1.app ((lby.one (and255 _)).app ((num_by _ _).app ((lby.one (and255 _)).app ((num_by _ _).app ((num_by _ _).app ((num_by _ _).app ((num_by _ _).app ((num_by _ _).app ((num_by _ _).app (num_by _ _)))))))))))
theorem shh_eq (rnd : List Int32) (hr : rnd.length = 32) : ms_sh rnd = ms_h 2 (nI (sh_b rnd).length) ++ sh_b rnd := by
  rw [shb_ln, hr]
  unfold ms_sh sh_b
  rw [tb9e, n771]
  simp only [List.append_assoc]
  rfl
section RGO
variable {L : Nat} {h : mm_H} {s : sT} {e b : Nat} {f : mm_H → mm_O} {g : Int32 → mm_H → mm_O} {Q : Option Value → mm_H → Prop}
theorem dr_ans1 {rnd : List Int32} (T : dT L h) (he : e < 4) (c7 : bs h 498 (32 * e) rnd) (y98 : lby rnd) (hr : rnd.length = 32) (K : ∀ h', gO h' ([(2 : Int32) &&& 255, 0, 0, 0] ++ sh_b rnd) → dF zy h h' → tr (f h') Q) : tr (mm_qv (bd_X12_beginMessage 490 2 h) (fun h1 =>
  mm_qv (bd_X12_sayTwo 490 771 h1) (fun h4 =>
  mm_gr h4 490 9 (fun b7 =>
  mm_qv (bd_X12_sayRow 490 b7 (nI (32 * e)) 32 h4) (fun h9 =>
  mm_qv (bd_X12_sayByte 490 0 h9) (fun h12 =>
  mm_qv (bd_X12_sayTwo 490 4867 h12) (fun h15 =>
  mm_qv (bd_X12_sayByte 490 0 h15) (fun h18 =>
  mm_qv (bd_X12_sayTwo 490 12 h18) (fun h21 =>
  mm_qv (bd_X12_sayTwo 490 43 h21) (fun h24 =>
  mm_qv (bd_X12_sayTwo 490 2 h24) (fun h27 =>
  mm_qv (bd_X12_sayTwo 490 772 h27) (fun h30 =>
  mm_qv (bd_X12_sayTwo 490 41 h30) (fun h33 =>
  mm_qv (bd_X12_sayTwo 490 2 h33) (fun h36 =>
  mm_qv (bd_X12_sayTwo 490 0 h36) f)))))))))))))) Q := by
  refine dr_begM T (fun h1 G1 F1 => ?_)
  refine dr_sayT (T.F F1) G1 (by simp) (fun h2 G2 F2 => ?_)
  have U2 := F1.t F2
  refine tr_gr (T.F U2).r9 ?_
  refine dr_sayR 128 (T.F U2) (T.F U2).l498 (c7.F U2 (fun k _ _ => (by omega))) y98 (by decide) (by omega) (by decide) G2 (by simp [rr_num_len, hr]) rfl (by rw [hr]; rfl) (fun h3 G3 F3 => ?_)
  have U3 := U2.t F3
  refine dr_sayB (T.F U3) G3 (by simp [rr_num_len, hr]) (fun h4 G4 F4 => ?_)
  have U4 := U3.t F4
  refine dr_sayT (T.F U4) G4 (by simp [rr_num_len, hr]) (fun h5 G5 F5 => ?_)
  have U5 := U4.t F5
  refine dr_sayB (T.F U5) G5 (by simp [rr_num_len, hr]) (fun h6 G6 F6 => ?_)
  have U6 := U5.t F6
  refine dr_sayT (T.F U6) G6 (by simp [rr_num_len, hr]) (fun h7 G7 F7 => ?_)
  have U7 := U6.t F7
  refine dr_sayT (T.F U7) G7 (by simp [rr_num_len, hr]) (fun h8 G8 F8 => ?_)
  have U8 := U7.t F8
  refine dr_sayT (T.F U8) G8 (by simp [rr_num_len, hr]) (fun h9 G9 F9 => ?_)
  have U9 := U8.t F9
  refine dr_sayT (T.F U9) G9 (by simp [rr_num_len, hr]) (fun h10 G10 F10 => ?_)
  have U10 := U9.t F10
  refine dr_sayT (T.F U10) G10 (by simp [rr_num_len, hr]) (fun h11 G11 F11 => ?_)
  have U11 := U10.t F11
  refine dr_sayT (T.F U11) G11 (by simp [rr_num_len, hr]) (fun h12 G12 F12 => ?_)
  have U12 := U11.t F12
  refine dr_sayT (T.F U12) G12 (by simp [rr_num_len, hr]) (fun h13 G13 F13 => ?_)
  refine K _ ?_ (U12.t F13)
  unfold sh_b
  simp only [List.append_assoc] at G13
  exact G13
end RGO

