def jn_X12_sign_26 (kb : Nat → Nat → Int32 → Int32 → Nat → Int32 → Int32 → Nat → Int32 → Int32 → mm_H → mm_O) (ke_60 : Nat → Nat → Int32 → Int32 → Nat → Int32 → mm_H → mm_O) (a0 : Nat) (a1 : Nat) (x2 : Int32) (x3 : Int32) (a4 : Nat) (x5 : Int32) (x6 : Int32) (a7 : Nat) (x8 : Int32) (x9 : Int32) (s0 : Int32) (h : mm_H) : mm_O := mm_gr h a0 34 (fun b1 =>
  if 32 ≤ b1 ∧ mm_in x9 (mm_ln h b1) = true then (mm_bh (mm_si h b1 (mm_n x9) (mm_b8 (mm_b8 (s0 ^^^ (54 : Int32))))) (fun h4 =>
  mm_gr h4 a0 35 (fun b6 =>
  if 32 ≤ b6 ∧ mm_in x9 (mm_ln h4 b6) = true then (mm_bh (mm_si h4 b6 (mm_n x9) (mm_b8 (mm_b8 (s0 ^^^ (92 : Int32))))) (fun h9 =>
  kb a0 a1 x2 x3 a4 x5 x6 a7 x8 (x9 + 1) h9)) else none))) else none)
set_option maxHeartbeats 4000000 in
set_option maxRecDepth 100000 in
theorem oj_X12_sign_26 {G : mm_G} {kb : Nat → Nat → Int32 → Int32 → Nat → Int32 → Int32 → Nat → Int32 → Int32 → mm_H → mm_O} {ke_60 : Nat → Nat → Int32 → Int32 → Nat → Int32 → mm_H → mm_O} (hkb : ∀ (a0 : Nat) (a1 : Nat) (x2 : Int32) (x3 : Int32) (a4 : Nat) (x5 : Int32) (x6 : Int32) (a7 : Nat) (x8 : Int32) (x9 : Int32) (h : mm_H), mm_kd h a0 = 11 → mm_kd h a1 = 21 → mm_kd h a4 = 21 → mm_kd h a7 = 21 → mm_Ok G my_X12_sign 3 [.ref a0, .ref a1, .int x2, .int x3, .ref a4, .int x5, .int x6, .ref a7, .int x8, .int x9, mm_U] [] h (kb a0 a1 x2 x3 a4 x5 x6 a7 x8 x9 h)) (hke_60 : ∀ (a0 : Nat) (a4 : Nat) (x5 : Int32) (x6 : Int32) (a7 : Nat) (x8 : Int32) (h : mm_H), mm_kd h a0 = 11 → mm_kd h a4 = 21 → mm_kd h a7 = 21 → mm_Ok G my_X12_sign 60 [.ref a0, mm_U, mm_U, mm_U, .ref a4, .int x5, .int x6, .ref a7, .int x8, mm_U, mm_U] [] h (ke_60 a0 a4 x5 x6 a7 x8 h)) (a0 : Nat) (a1 : Nat) (x2 : Int32) (x3 : Int32) (a4 : Nat) (x5 : Int32) (x6 : Int32) (a7 : Nat) (x8 : Int32) (x9 : Int32) (s0 : Int32) (h : mm_H) (k_a0 : mm_kd h a0 = 11) (k_a1 : mm_kd h a1 = 21) (k_a4 : mm_kd h a4 = 21) (k_a7 : mm_kd h a7 = 21) : mm_Ok G my_X12_sign 26 [.ref a0, .ref a1, .int x2, .int x3, .ref a4, .int x5, .int x6, .ref a7, .int x8, .int x9, mm_U] [.int s0] h (jn_X12_sign_26 kb ke_60 a0 a1 x2 x3 a4 x5 x6 a7 x8 x9 s0 h) := by
  unfold jn_X12_sign_26
  refine ok_istore (q := 28) (ls' := [.ref a0, .ref a1, .int x2, .int x3, .ref a4, .int x5, .int x6, .ref a7, .int x8, .int x9, .int s0]) dX12_sign_26 (Nat.le_of_ble_eq_true rfl) rfl rfl ?_
  refine ok_aload_n (q := 29) dX12_sign_28 rfl rfl ?_
  refine ok_getR cl_11 (q := 32) (k := 34) dX12_sign_29 (Nat.le_of_ble_eq_true rfl) wd_1066 (fun _ _ _ => rfl) kt_11_34 k_a0 rfl (fun b1 k2 => ?_)
  refine ok_iload (q := 34) dX12_sign_32 rfl rfl ?_
  refine ok_iload (q := 36) dX12_sign_34 rfl rfl ?_
  refine ok_bipush (q := 38) (v := 54) dX12_sign_36 cb_54 rfl ?_
  refine ok_ixor (q := 39) dX12_sign_38 rfl ?_
  refine ok_i2b (q := 40) dX12_sign_39 rfl ?_
  refine mm_ck (fun c3 => ?_)
  refine ok_bast (q := 41) dX12_sign_40 k2 c3.1 c3.2 rfl (bh_ok (fun h4 e5 => ?_))
  have e5 : h4.1 = h.1 := e5
  refine ok_aload_n (q := 42) dX12_sign_41 rfl rfl ?_
  refine ok_getR cl_11 (q := 45) (k := 35) dX12_sign_42 (Nat.le_of_ble_eq_true rfl) wd_1067 (fun _ _ _ => rfl) kt_11_35 (mm_ke e5 k_a0) rfl (fun b6 k7 => ?_)
  refine ok_iload (q := 47) dX12_sign_45 rfl rfl ?_
  refine ok_iload (q := 49) dX12_sign_47 rfl rfl ?_
  refine ok_bipush (q := 51) (v := 92) dX12_sign_49 cb_92 rfl ?_
  refine ok_ixor (q := 52) dX12_sign_51 rfl ?_
  refine ok_i2b (q := 53) dX12_sign_52 rfl ?_
  refine mm_ck (fun c8 => ?_)
  refine ok_bast (q := 54) dX12_sign_53 (mm_ke e5 (mm_ke e5.symm k7)) c8.1 c8.2 rfl (bh_ok (fun h9 e10 => ?_))
  have e10 : h9.1 = h.1 := e10.trans e5
  refine ok_iinc (q := 57) (v := x9 + 1) (ls' := [.ref a0, .ref a1, .int x2, .int x3, .ref a4, .int x5, .int x6, .ref a7, .int x8, .int (x9 + 1), .int s0]) dX12_sign_54 rfl (congrArg (x9 + ·) ci_1) (Nat.le_of_ble_eq_true rfl) rfl rfl ?_
  refine ok_goto (q := 3) dX12_sign_57 rfl ?_
  refine mm_wk [true, true, true, true, true, true, true, true, true, true, false] (ls' := [.ref a0, .ref a1, .int x2, .int x3, .ref a4, .int x5, .int x6, .ref a7, .int x8, .int (x9 + 1), mm_U]) rfl ?_
  exact hkb a0 a1 x2 x3 a4 x5 x6 a7 x8 (x9 + 1) h9 (mm_ke e10 k_a0) (mm_ke e10 k_a1) (mm_ke e10 k_a4) (mm_ke e10 k_a7)
def lp_X12_sign_3 (ke_60 : Nat → Nat → Int32 → Int32 → Nat → Int32 → mm_H → mm_O) : Nat → Nat → Nat → Int32 → Int32 → Nat → Int32 → Int32 → Nat → Int32 → Int32 → mm_H → mm_O
  | 0, _, _, _, _, _, _, _, _, _, _, _ => none
  | n + 1, a0, a1, x2, x3, a4, x5, x6, a7, x8, x9, h => if (64 : Int32) ≤ x9 then
  (ke_60 a0 a4 x5 x6 a7 x8 h)
  else
  (if x3 ≤ x9 then
  (jn_X12_sign_26 (lp_X12_sign_3 ke_60 n) ke_60 a0 a1 x2 x3 a4 x5 x6 a7 x8 x9 0 h)
  else
  (if mm_in (x2 + x9) (mm_ln h a1) = true then (jn_X12_sign_26 (lp_X12_sign_3 ke_60 n) ke_60 a0 a1 x2 x3 a4 x5 x6 a7 x8 x9 (mm_i h a1 (mm_n (x2 + x9))) h) else none))
set_option maxHeartbeats 4000000 in
set_option maxRecDepth 100000 in
theorem ol_X12_sign_3 {G : mm_G} {ke_60 : Nat → Nat → Int32 → Int32 → Nat → Int32 → mm_H → mm_O} (hke_60 : ∀ (a0 : Nat) (a4 : Nat) (x5 : Int32) (x6 : Int32) (a7 : Nat) (x8 : Int32) (h : mm_H), mm_kd h a0 = 11 → mm_kd h a4 = 21 → mm_kd h a7 = 21 → mm_Ok G my_X12_sign 60 [.ref a0, mm_U, mm_U, mm_U, .ref a4, .int x5, .int x6, .ref a7, .int x8, mm_U, mm_U] [] h (ke_60 a0 a4 x5 x6 a7 x8 h)) : ∀ (n : Nat) (a0 : Nat) (a1 : Nat) (x2 : Int32) (x3 : Int32) (a4 : Nat) (x5 : Int32) (x6 : Int32) (a7 : Nat) (x8 : Int32) (x9 : Int32) (h : mm_H), mm_kd h a0 = 11 → mm_kd h a1 = 21 → mm_kd h a4 = 21 → mm_kd h a7 = 21 → mm_Ok G my_X12_sign 3 [.ref a0, .ref a1, .int x2, .int x3, .ref a4, .int x5, .int x6, .ref a7, .int x8, .int x9, mm_U] [] h (lp_X12_sign_3 ke_60 n a0 a1 x2 x3 a4 x5 x6 a7 x8 x9 h) := by
  intro n
  induction n with
  | zero => intro a0 a1 x2 x3 a4 x5 x6 a7 x8 x9 h k_a0 k_a1 k_a4 k_a7; exact mm_no
  | succ n ih =>
    intro a0 a1 x2 x3 a4 x5 x6 a7 x8 x9 h k_a0 k_a1 k_a4 k_a7
    rw [lp_X12_sign_3]
    refine ok_iload (q := 5) dX12_sign_3 rfl rfl ?_
    refine ok_bipush (q := 7) (v := 64) dX12_sign_5 cb_64 rfl ?_
    refine ok_icmp_ge (q := 10) (t := 60) dX12_sign_7 rfl rfl ?_ ?_
    · refine mm_wk [true, false, false, false, true, true, true, true, true, false, false] (ls' := [.ref a0, mm_U, mm_U, mm_U, .ref a4, .int x5, .int x6, .ref a7, .int x8, mm_U, mm_U]) rfl ?_
      exact hke_60 a0 a4 x5 x6 a7 x8 h k_a0 k_a4 k_a7
    · refine ok_iload (q := 12) dX12_sign_10 rfl rfl ?_
      refine ok_iload_n (q := 13) dX12_sign_12 rfl rfl ?_
      refine ok_icmp_ge (q := 16) (t := 25) dX12_sign_13 rfl rfl ?_ ?_
      · refine ok_iconst (q := 26) (v := 0) dX12_sign_25 ci_0 rfl ?_
        exact oj_X12_sign_26 ih hke_60 a0 a1 x2 x3 a4 x5 x6 a7 x8 x9 0 h k_a0 k_a1 k_a4 k_a7
      · refine ok_aload_n (q := 17) dX12_sign_16 rfl rfl ?_
        refine ok_iload_n (q := 18) dX12_sign_17 rfl rfl ?_
        refine ok_iload (q := 20) dX12_sign_18 rfl rfl ?_
        refine ok_iadd (q := 21) dX12_sign_20 rfl ?_
        refine mm_ck (fun c11 => ?_)
        refine ok_bald (q := 22) dX12_sign_21 k_a1 c11 rfl ?_
        refine ok_goto (q := 26) dX12_sign_22 rfl ?_
        exact oj_X12_sign_26 ih hke_60 a0 a1 x2 x3 a4 x5 x6 a7 x8 x9 (mm_i h a1 (mm_n (x2 + x9))) h k_a0 k_a1 k_a4 k_a7
def bd_X12_sign (a0 : Nat) (a1 : Nat) (x2 : Int32) (x3 : Int32) (a4 : Nat) (x5 : Int32) (x6 : Int32) (a7 : Nat) (x8 : Int32) (h : mm_H) : mm_O := lp_X12_sign_3 (fun b13 b14 v15 v16 b17 v18 h12 => mm_gr h12 b13 34 (fun b19 =>
  mm_qv (bd_X12_move b14 v15 b19 64 v16 h12) (fun h21 =>
  mm_gr h21 b13 34 (fun b26 =>
  mm_gr h21 b13 35 (fun b28 =>
  mm_qv (bd_X12_sum b13 b26 0 ((64 : Int32) + v16) b28 64 h21) (fun h30 =>
  mm_gr h30 b13 35 (fun b35 =>
  mm_qv (bd_X12_sum b13 b35 0 96 b17 v18 h30) (fun h37 =>
  some (none, h37))))))))) mm_fu a0 a1 x2 x3 a4 x5 x6 a7 x8 0 h
set_option maxHeartbeats 4000000 in
set_option maxRecDepth 100000 in
theorem mt_X12_sign (G : mm_G) (a0 : Nat) (a1 : Nat) (x2 : Int32) (x3 : Int32) (a4 : Nat) (x5 : Int32) (x6 : Int32) (a7 : Nat) (x8 : Int32) (h : mm_H) (k_a0 : mm_kd h a0 = 11) (k_a1 : mm_kd h a1 = 21) (k_a4 : mm_kd h a4 = 21) (k_a7 : mm_kd h a7 = 21) : mm_Met G my_X12_sign [.ref a0, .ref a1, .int x2, .int x3, .ref a4, .int x5, .int x6, .ref a7, .int x8] h (bd_X12_sign a0 a1 x2 x3 a4 x5 x6 a7 x8 h) := by
  refine mm_met (ls := [.ref a0, .ref a1, .int x2, .int x3, .ref a4, .int x5, .int x6, .ref a7, .int x8, mm_U, mm_U]) pn_RX12 (Nat.le_of_ble_eq_true rfl) rfl ?_
  unfold bd_X12_sign
  refine ok_iconst (q := 1) (v := 0) dX12_sign_0 ci_0 rfl ?_
  refine ok_istore (q := 3) (ls' := [.ref a0, .ref a1, .int x2, .int x3, .ref a4, .int x5, .int x6, .ref a7, .int x8, .int 0, mm_U]) dX12_sign_1 (Nat.le_of_ble_eq_true rfl) rfl rfl ?_
  refine ol_X12_sign_3 (fun b13 b14 v15 v16 b17 v18 h12 k_b13 k_b14 k_b17 => ?_) mm_fu a0 a1 x2 x3 a4 x5 x6 a7 x8 0 h k_a0 k_a1 k_a4 k_a7
  · refine ok_aload (q := 62) dX12_sign_60 rfl rfl ?_
    refine ok_iload (q := 64) dX12_sign_62 rfl rfl ?_
    refine ok_aload_n (q := 65) dX12_sign_64 rfl rfl ?_
    refine ok_getR cl_11 (q := 68) (k := 34) dX12_sign_65 (Nat.le_of_ble_eq_true rfl) wd_1066 (fun _ _ _ => rfl) kt_11_34 k_b13 rfl (fun b19 k20 => ?_)
    refine ok_bipush (q := 70) (v := 64) dX12_sign_68 cb_64 rfl ?_
    refine ok_iload (q := 72) dX12_sign_70 rfl rfl ?_
    refine mm_cv (q := 75) (mt_X12_move G b14 v15 b19 64 v16 h12 k_b14 k20) (mm_runS (as := [.ref b14, .int v15, .ref b19, .int 64, .int v16]) (st := []) lk_X12_sign_X12_move_279 dX12_sign_72 rfl (Nat.le_of_ble_eq_true rfl)) rfl (fun h21 p22 => ?_)
    have k23 : mm_kd h21 b13 = 11 := mm_kd_app p22 k_b13 (by decide)
    have k24 : mm_kd h21 b14 = 21 := mm_kd_app p22 k_b14 (by decide)
    have k25 : mm_kd h21 b17 = 21 := mm_kd_app p22 k_b17 (by decide)
    refine ok_aload_n (q := 76) dX12_sign_75 rfl rfl ?_
    refine ok_aload_n (q := 77) dX12_sign_76 rfl rfl ?_
    refine ok_getR cl_11 (q := 80) (k := 34) dX12_sign_77 (Nat.le_of_ble_eq_true rfl) wd_1066 (fun _ _ _ => rfl) kt_11_34 k23 rfl (fun b26 k27 => ?_)
    refine ok_iconst (q := 81) (v := 0) dX12_sign_80 ci_0 rfl ?_
    refine ok_bipush (q := 83) (v := 64) dX12_sign_81 cb_64 rfl ?_
    refine ok_iload (q := 85) dX12_sign_83 rfl rfl ?_
    refine ok_iadd (q := 86) dX12_sign_85 rfl ?_
    refine ok_aload_n (q := 87) dX12_sign_86 rfl rfl ?_
    refine ok_getR cl_11 (q := 90) (k := 35) dX12_sign_87 (Nat.le_of_ble_eq_true rfl) wd_1067 (fun _ _ _ => rfl) kt_11_35 k23 rfl (fun b28 k29 => ?_)
    refine ok_bipush (q := 92) (v := 64) dX12_sign_90 cb_64 rfl ?_
    refine mm_cv (q := 95) (mt_X12_sum G b13 b26 0 ((64 : Int32) + v16) b28 64 h21 k23 k27 k29) (mm_runV (as := [.ref b26, .int 0, .int ((64 : Int32) + v16), .ref b28, .int 64]) (st := []) cl_11 lk_X12_sign_X12_sum_283 rfl dX12_sign_92 rfl (Nat.le_of_ble_eq_true rfl) k23) rfl (fun h30 p31 => ?_)
    have k32 : mm_kd h30 b13 = 11 := mm_kd_app p31 k23 (by decide)
    have k33 : mm_kd h30 b14 = 21 := mm_kd_app p31 k24 (by decide)
    have k34 : mm_kd h30 b17 = 21 := mm_kd_app p31 k25 (by decide)
    refine ok_aload_n (q := 96) dX12_sign_95 rfl rfl ?_
    refine ok_aload_n (q := 97) dX12_sign_96 rfl rfl ?_
    refine ok_getR cl_11 (q := 100) (k := 35) dX12_sign_97 (Nat.le_of_ble_eq_true rfl) wd_1067 (fun _ _ _ => rfl) kt_11_35 k32 rfl (fun b35 k36 => ?_)
    refine ok_iconst (q := 101) (v := 0) dX12_sign_100 ci_0 rfl ?_
    refine ok_bipush (q := 103) (v := 96) dX12_sign_101 cb_96 rfl ?_
    refine ok_aload (q := 105) dX12_sign_103 rfl rfl ?_
    refine ok_iload (q := 107) dX12_sign_105 rfl rfl ?_
    refine mm_cv (q := 110) (mt_X12_sum G b13 b35 0 96 b17 v18 h30 k32 k36 k34) (mm_runV (as := [.ref b35, .int 0, .int 96, .ref b17, .int v18]) (st := []) cl_11 lk_X12_sign_X12_sum_283 rfl dX12_sign_107 rfl (Nat.le_of_ble_eq_true rfl) k32) rfl (fun h37 p38 => ?_)
    have k39 : mm_kd h37 b13 = 11 := mm_kd_app p38 k32 (by decide)
    have k40 : mm_kd h37 b14 = 21 := mm_kd_app p38 k33 (by decide)
    have k41 : mm_kd h37 b17 = 21 := mm_kd_app p38 k34 (by decide)
    exact ok_ret dX12_sign_110 rfl
def lp_X12_text_2  : Nat → Nat → Int64 → mm_H → mm_O
  | 0, _, _, _ => none
  | n + 1, a0, x3, h => if (lg_cmp x3 (0 : Int64)) = 0 then
  (some (none, h))
  else
  (mm_gr h a0 36 (fun b1 =>
  if 32 ≤ b1 ∧ mm_in (mm_i h a0 37) (mm_ln h b1) = true then (mm_bh (mm_si h b1 (mm_n (mm_i h a0 37)) (mm_b8 (mm_b8 (Int64.toInt32 x3)))) (fun h4 =>
  mm_bh (mm_si h4 a0 37 ((mm_i h4 a0 37) + (1 : Int32))) (fun h6 =>
  mm_bl (mm_lush x3 (8 : Int32)) (fun v8 =>
  lp_X12_text_2 n a0 v8 h6)))) else none))
set_option maxHeartbeats 4000000 in
set_option maxRecDepth 100000 in
theorem ol_X12_text_2 {G : mm_G}   : ∀ (n : Nat) (a0 : Nat) (x3 : Int64) (h : mm_H), mm_kd h a0 = 11 → mm_Ok G my_X12_text 2 [.ref a0, mm_U, mm_U, .long x3, mm_U] [] h (lp_X12_text_2 n a0 x3 h) := by
  intro n
  induction n with
  | zero => intro a0 x3 h k_a0; exact mm_no
  | succ n ih =>
    intro a0 x3 h k_a0
    rw [lp_X12_text_2]
    refine ok_lload_n (q := 3) dX12_text_2 rfl rfl ?_
    refine ok_lconst (q := 4) (v := 0) dX12_text_3 rfl rfl ?_
    refine ok_lcmp (q := 5) dX12_text_4 rfl ?_
    refine ok_if_eq (q := 8) (t := 38) dX12_text_5 rfl rfl ?_ ?_
    · exact ok_ret dX12_text_38 rfl
    · refine ok_aload_n (q := 9) dX12_text_8 rfl rfl ?_
      refine ok_getR cl_11 (q := 12) (k := 36) dX12_text_9 (Nat.le_of_ble_eq_true rfl) wd_1068 (fun _ _ _ => rfl) kt_11_36 k_a0 rfl (fun b1 k2 => ?_)
      refine ok_aload_n (q := 13) dX12_text_12 rfl rfl ?_
      refine ok_getI cl_11 (q := 16) (k := 37) dX12_text_13 (Nat.le_of_ble_eq_true rfl) wd_1069 (fun _ _ _ => rfl) k_a0 rfl ?_
      refine ok_lload_n (q := 17) dX12_text_16 rfl rfl ?_
      refine ok_l2i (q := 18) dX12_text_17 rfl ?_
      refine ok_i2b (q := 19) dX12_text_18 rfl ?_
      refine mm_ck (fun c3 => ?_)
      refine ok_bast (q := 20) dX12_text_19 k2 c3.1 c3.2 rfl (bh_ok (fun h4 e5 => ?_))
      have e5 : h4.1 = h.1 := e5
      refine ok_aload_n (q := 21) dX12_text_20 rfl rfl ?_
      refine ok_dup (q := 22) dX12_text_21 rfl rfl ?_
      refine ok_getI cl_11 (q := 25) (k := 37) dX12_text_22 (Nat.le_of_ble_eq_true rfl) wd_1069 (fun _ _ _ => rfl) (mm_ke e5 k_a0) rfl ?_
      refine ok_iconst (q := 26) (v := 1) dX12_text_25 ci_1 rfl ?_
      refine ok_iadd (q := 27) dX12_text_26 rfl ?_
      refine ok_putI cl_11 (q := 30) (k := 37) dX12_text_27 (Nat.le_of_ble_eq_true rfl) wd_1069 (Or.inl rfl) (fun _ _ _ => rfl) rfl rfl (mm_ke e5 k_a0) rfl (bh_ok (fun h6 e7 => ?_))
      have e7 : h6.1 = h.1 := e7.trans e5
      refine ok_lload_n (q := 31) dX12_text_30 rfl rfl ?_
      refine ok_bipush (q := 33) (v := 8) dX12_text_31 cb_8 rfl ?_
      refine ok_lushr (q := 34) dX12_text_33 rfl ?_
      refine bl_ok (fun v8 => ?_)
      refine ok_lstore_n (q := 35) (ls' := [.ref a0, mm_U, mm_U, .long v8, mm_U]) dX12_text_34 (Nat.le_of_ble_eq_true rfl) rfl rfl ?_
      refine ok_goto (q := 2) dX12_text_35 rfl ?_
      exact ih a0 v8 h6 (mm_ke e7 k_a0)
def bd_X12_text (a0 : Nat) (x1 : Int64) (h : mm_H) : mm_O := lp_X12_text_2  mm_fu a0 x1 h
set_option maxHeartbeats 4000000 in
set_option maxRecDepth 100000 in
theorem mt_X12_text (G : mm_G) (a0 : Nat) (x1 : Int64) (h : mm_H) (k_a0 : mm_kd h a0 = 11) : mm_Met G my_X12_text [.ref a0, .long x1] h (bd_X12_text a0 x1 h) := by
  refine mm_met (ls := [.ref a0, .long x1, mm_U, mm_U, mm_U]) pn_RX12 (Nat.le_of_ble_eq_true rfl) rfl ?_
  unfold bd_X12_text
  refine ok_lload_n (q := 1) dX12_text_0 rfl rfl ?_
  refine ok_lstore_n (q := 2) (ls' := [.ref a0, .long x1, mm_U, .long x1, mm_U]) dX12_text_1 (Nat.le_of_ble_eq_true rfl) rfl rfl ?_
  refine mm_wk [true, false, false, true, false] (ls' := [.ref a0, mm_U, mm_U, .long x1, mm_U]) rfl ?_
  refine ol_X12_text_2  mm_fu a0 x1 h k_a0
def jn_X12_label_162 (a0 : Nat) (h : mm_H) : mm_O := mm_qv (bd_X12_text a0 1667851878 h) (fun h12 =>
  some (none, h12))
set_option maxHeartbeats 4000000 in
set_option maxRecDepth 100000 in
theorem oj_X12_label_162 {G : mm_G}   (a0 : Nat) (h : mm_H) (k_a0 : mm_kd h a0 = 11) : mm_Ok G my_X12_label 162 [.ref a0, mm_U] [] h (jn_X12_label_162 a0 h) := by
  unfold jn_X12_label_162
  refine ok_aload_n (q := 163) dX12_label_162 rfl rfl ?_
  refine ok_ldc2 (q := 166) (v := 1667851878) dX12_label_163 wd_1342 rfl ?_
  refine mm_cv (q := 169) (mt_X12_text G a0 1667851878 h k_a0) (mm_runV (as := [.long 1667851878]) (st := []) cl_11 lk_X12_label_X12_text_292 rfl dX12_label_166 rfl (Nat.le_of_ble_eq_true rfl) k_a0) rfl (fun h12 p13 => ?_)
  have k14 : mm_kd h12 a0 = 11 := mm_kd_app p13 k_a0 (by decide)
  exact ok_ret dX12_label_169 rfl
def bd_X12_label (a0 : Nat) (x1 : Int32) (h : mm_H) : mm_O := mm_qv (bd_X12_text a0 35404245068916 h) (fun h1 =>
  if x1 = 0 then
  (mm_qv (bd_X12_text a0 28259056920716644 h1) (fun h5 =>
  some (none, h5)))
  else
  (if x1 = 1 then
  (mm_qv (bd_X12_text a0 7021802451748003939 h1) (fun h9 =>
  jn_X12_label_162 a0 h9))
  else
  (if x1 = 2 then
  (mm_qv (bd_X12_text a0 7021802451748003955 h1) (fun h16 =>
  jn_X12_label_162 a0 h16))
  else
  (if x1 = 3 then
  (mm_qv (bd_X12_text a0 7021802451697213539 h1) (fun h20 =>
  jn_X12_label_162 a0 h20))
  else
  (if x1 = 4 then
  (mm_qv (bd_X12_text a0 7021802451697213555 h1) (fun h24 =>
  jn_X12_label_162 a0 h24))
  else
  (if x1 = 5 then
  (mm_qv (bd_X12_text a0 7955819 h1) (fun h28 =>
  some (none, h28)))
  else
  (if x1 = 6 then
  (mm_qv (bd_X12_text a0 30313 h1) (fun h32 =>
  some (none, h32)))
  else
  (if x1 = 7 then
  (mm_qv (bd_X12_text a0 7234303221339941222 h1) (fun h36 =>
  some (none, h36)))
  else
  (if x1 = 8 then
  (mm_qv (bd_X12_text a0 2333824920433291892 h1) (fun h40 =>
  mm_qv (bd_X12_text a0 6582389 h40) (fun h43 =>
  some (none, h43))))
  else
  (mm_qv (bd_X12_text a0 7236837521403181157 h1) (fun h46 =>
  mm_qv (bd_X12_text a0 29285 h46) (fun h49 =>
  some (none, h49)))))))))))))
set_option maxHeartbeats 4000000 in
set_option maxRecDepth 100000 in
theorem mt_X12_label (G : mm_G) (a0 : Nat) (x1 : Int32) (h : mm_H) (k_a0 : mm_kd h a0 = 11) : mm_Met G my_X12_label [.ref a0, .int x1] h (bd_X12_label a0 x1 h) := by
  refine mm_met (ls := [.ref a0, .int x1]) pn_RX12 (Nat.le_of_ble_eq_true rfl) rfl ?_
  unfold bd_X12_label
  refine ok_aload_n (q := 1) dX12_label_0 rfl rfl ?_
  refine ok_ldc2 (q := 4) (v := 35404245068916) dX12_label_1 wd_1325 rfl ?_
  refine mm_cv (q := 7) (mt_X12_text G a0 35404245068916 h k_a0) (mm_runV (as := [.long 35404245068916]) (st := []) cl_11 lk_X12_label_X12_text_292 rfl dX12_label_4 rfl (Nat.le_of_ble_eq_true rfl) k_a0) rfl (fun h1 p2 => ?_)
  have k3 : mm_kd h1 a0 = 11 := mm_kd_app p2 k_a0 (by decide)
  refine ok_iload_n (q := 8) dX12_label_7 rfl rfl ?_
  refine mm_sp (fun c4 => ?_) (fun c4 => ?_)
  · refine ok_tableIn (q := 60) dX12_label_8 (by rw [c4]; decide) (by rw [c4]; decide) (by rw [c4]; rfl) rfl ?_
    refine ok_aload_n (q := 61) dX12_label_60 rfl rfl ?_
    refine ok_ldc2 (q := 64) (v := 28259056920716644) dX12_label_61 wd_1330 rfl ?_
    refine mm_cv (q := 67) (mt_X12_text G a0 28259056920716644 h1 k3) (mm_runV (as := [.long 28259056920716644]) (st := []) cl_11 lk_X12_label_X12_text_292 rfl dX12_label_64 rfl (Nat.le_of_ble_eq_true rfl) k3) rfl (fun h5 p6 => ?_)
    have k7 : mm_kd h5 a0 = 11 := mm_kd_app p6 k3 (by decide)
    exact ok_ret dX12_label_67 rfl
  · refine mm_sp (fun c8 => ?_) (fun c8 => ?_)
    · refine ok_tableIn (q := 68) dX12_label_8 (by rw [c8]; decide) (by rw [c8]; decide) (by rw [c8]; rfl) rfl ?_
      refine ok_aload_n (q := 69) dX12_label_68 rfl rfl ?_
      refine ok_ldc2 (q := 72) (v := 7021802451748003939) dX12_label_69 wd_1331 rfl ?_
      refine mm_cv (q := 75) (mt_X12_text G a0 7021802451748003939 h1 k3) (mm_runV (as := [.long 7021802451748003939]) (st := []) cl_11 lk_X12_label_X12_text_292 rfl dX12_label_72 rfl (Nat.le_of_ble_eq_true rfl) k3) rfl (fun h9 p10 => ?_)
      have k11 : mm_kd h9 a0 = 11 := mm_kd_app p10 k3 (by decide)
      refine ok_goto (q := 162) dX12_label_75 rfl ?_
      refine mm_wk [true, false] (ls' := [.ref a0, mm_U]) rfl ?_
      exact oj_X12_label_162 a0 h9 k11
    · refine mm_sp (fun c15 => ?_) (fun c15 => ?_)
      · refine ok_tableIn (q := 78) dX12_label_8 (by rw [c15]; decide) (by rw [c15]; decide) (by rw [c15]; rfl) rfl ?_
        refine ok_aload_n (q := 79) dX12_label_78 rfl rfl ?_
        refine ok_ldc2 (q := 82) (v := 7021802451748003955) dX12_label_79 wd_1332 rfl ?_
        refine mm_cv (q := 85) (mt_X12_text G a0 7021802451748003955 h1 k3) (mm_runV (as := [.long 7021802451748003955]) (st := []) cl_11 lk_X12_label_X12_text_292 rfl dX12_label_82 rfl (Nat.le_of_ble_eq_true rfl) k3) rfl (fun h16 p17 => ?_)
        have k18 : mm_kd h16 a0 = 11 := mm_kd_app p17 k3 (by decide)
        refine ok_goto (q := 162) dX12_label_85 rfl ?_
        refine mm_wk [true, false] (ls' := [.ref a0, mm_U]) rfl ?_
        exact oj_X12_label_162 a0 h16 k18
      · refine mm_sp (fun c19 => ?_) (fun c19 => ?_)
        · refine ok_tableIn (q := 88) dX12_label_8 (by rw [c19]; decide) (by rw [c19]; decide) (by rw [c19]; rfl) rfl ?_
          refine ok_aload_n (q := 89) dX12_label_88 rfl rfl ?_
          refine ok_ldc2 (q := 92) (v := 7021802451697213539) dX12_label_89 wd_1333 rfl ?_
          refine mm_cv (q := 95) (mt_X12_text G a0 7021802451697213539 h1 k3) (mm_runV (as := [.long 7021802451697213539]) (st := []) cl_11 lk_X12_label_X12_text_292 rfl dX12_label_92 rfl (Nat.le_of_ble_eq_true rfl) k3) rfl (fun h20 p21 => ?_)
          have k22 : mm_kd h20 a0 = 11 := mm_kd_app p21 k3 (by decide)
          refine ok_goto (q := 162) dX12_label_95 rfl ?_
          refine mm_wk [true, false] (ls' := [.ref a0, mm_U]) rfl ?_
          exact oj_X12_label_162 a0 h20 k22
        · refine mm_sp (fun c23 => ?_) (fun c23 => ?_)
          · refine ok_tableIn (q := 98) dX12_label_8 (by rw [c23]; decide) (by rw [c23]; decide) (by rw [c23]; rfl) rfl ?_
            refine ok_aload_n (q := 99) dX12_label_98 rfl rfl ?_
            refine ok_ldc2 (q := 102) (v := 7021802451697213555) dX12_label_99 wd_1334 rfl ?_
            refine mm_cv (q := 105) (mt_X12_text G a0 7021802451697213555 h1 k3) (mm_runV (as := [.long 7021802451697213555]) (st := []) cl_11 lk_X12_label_X12_text_292 rfl dX12_label_102 rfl (Nat.le_of_ble_eq_true rfl) k3) rfl (fun h24 p25 => ?_)
            have k26 : mm_kd h24 a0 = 11 := mm_kd_app p25 k3 (by decide)
            refine ok_goto (q := 162) dX12_label_105 rfl ?_
            refine mm_wk [true, false] (ls' := [.ref a0, mm_U]) rfl ?_
            exact oj_X12_label_162 a0 h24 k26
          · refine mm_sp (fun c27 => ?_) (fun c27 => ?_)
            · refine ok_tableIn (q := 108) dX12_label_8 (by rw [c27]; decide) (by rw [c27]; decide) (by rw [c27]; rfl) rfl ?_
              refine ok_aload_n (q := 109) dX12_label_108 rfl rfl ?_
              refine ok_ldc2 (q := 112) (v := 7955819) dX12_label_109 wd_1335 rfl ?_
              refine mm_cv (q := 115) (mt_X12_text G a0 7955819 h1 k3) (mm_runV (as := [.long 7955819]) (st := []) cl_11 lk_X12_label_X12_text_292 rfl dX12_label_112 rfl (Nat.le_of_ble_eq_true rfl) k3) rfl (fun h28 p29 => ?_)
              have k30 : mm_kd h28 a0 = 11 := mm_kd_app p29 k3 (by decide)
              exact ok_ret dX12_label_115 rfl
            · refine mm_sp (fun c31 => ?_) (fun c31 => ?_)
              · refine ok_tableIn (q := 116) dX12_label_8 (by rw [c31]; decide) (by rw [c31]; decide) (by rw [c31]; rfl) rfl ?_
                refine ok_aload_n (q := 117) dX12_label_116 rfl rfl ?_
                refine ok_ldc2 (q := 120) (v := 30313) dX12_label_117 wd_1336 rfl ?_
                refine mm_cv (q := 123) (mt_X12_text G a0 30313 h1 k3) (mm_runV (as := [.long 30313]) (st := []) cl_11 lk_X12_label_X12_text_292 rfl dX12_label_120 rfl (Nat.le_of_ble_eq_true rfl) k3) rfl (fun h32 p33 => ?_)
                have k34 : mm_kd h32 a0 = 11 := mm_kd_app p33 k3 (by decide)
                exact ok_ret dX12_label_123 rfl
              · refine mm_sp (fun c35 => ?_) (fun c35 => ?_)
                · refine ok_tableIn (q := 124) dX12_label_8 (by rw [c35]; decide) (by rw [c35]; decide) (by rw [c35]; rfl) rfl ?_
                  refine ok_aload_n (q := 125) dX12_label_124 rfl rfl ?_
                  refine ok_ldc2 (q := 128) (v := 7234303221339941222) dX12_label_125 wd_1337 rfl ?_
                  refine mm_cv (q := 131) (mt_X12_text G a0 7234303221339941222 h1 k3) (mm_runV (as := [.long 7234303221339941222]) (st := []) cl_11 lk_X12_label_X12_text_292 rfl dX12_label_128 rfl (Nat.le_of_ble_eq_true rfl) k3) rfl (fun h36 p37 => ?_)
                  have k38 : mm_kd h36 a0 = 11 := mm_kd_app p37 k3 (by decide)
                  exact ok_ret dX12_label_131 rfl
                · refine mm_sp (fun c39 => ?_) (fun c39 => ?_)
                  · refine ok_tableIn (q := 132) dX12_label_8 (by rw [c39]; decide) (by rw [c39]; decide) (by rw [c39]; rfl) rfl ?_
                    refine ok_aload_n (q := 133) dX12_label_132 rfl rfl ?_
                    refine ok_ldc2 (q := 136) (v := 2333824920433291892) dX12_label_133 wd_1338 rfl ?_
                    refine mm_cv (q := 139) (mt_X12_text G a0 2333824920433291892 h1 k3) (mm_runV (as := [.long 2333824920433291892]) (st := []) cl_11 lk_X12_label_X12_text_292 rfl dX12_label_136 rfl (Nat.le_of_ble_eq_true rfl) k3) rfl (fun h40 p41 => ?_)
                    have k42 : mm_kd h40 a0 = 11 := mm_kd_app p41 k3 (by decide)
                    refine ok_aload_n (q := 140) dX12_label_139 rfl rfl ?_
                    refine ok_ldc2 (q := 143) (v := 6582389) dX12_label_140 wd_1339 rfl ?_
                    refine mm_cv (q := 146) (mt_X12_text G a0 6582389 h40 k42) (mm_runV (as := [.long 6582389]) (st := []) cl_11 lk_X12_label_X12_text_292 rfl dX12_label_143 rfl (Nat.le_of_ble_eq_true rfl) k42) rfl (fun h43 p44 => ?_)
                    have k45 : mm_kd h43 a0 = 11 := mm_kd_app p44 k42 (by decide)
                    exact ok_ret dX12_label_146 rfl
                  · have tc4 := lv_neT c4 (by decide : (0 : Int32).toInt = 0)
                    have tc8 := lv_neT c8 (by decide : (1 : Int32).toInt = 1)
                    have tc15 := lv_neT c15 (by decide : (2 : Int32).toInt = 2)
                    have tc19 := lv_neT c19 (by decide : (3 : Int32).toInt = 3)
                    have tc23 := lv_neT c23 (by decide : (4 : Int32).toInt = 4)
                    have tc27 := lv_neT c27 (by decide : (5 : Int32).toInt = 5)
                    have tc31 := lv_neT c31 (by decide : (6 : Int32).toInt = 6)
                    have tc35 := lv_neT c35 (by decide : (7 : Int32).toInt = 7)
                    have tc39 := lv_neT c39 (by decide : (8 : Int32).toInt = 8)
                    refine ok_tableOut (q := 147) dX12_label_8 (by omega) rfl ?_
                    refine ok_aload_n (q := 148) dX12_label_147 rfl rfl ?_
                    refine ok_ldc2 (q := 151) (v := 7236837521403181157) dX12_label_148 wd_1340 rfl ?_
                    refine mm_cv (q := 154) (mt_X12_text G a0 7236837521403181157 h1 k3) (mm_runV (as := [.long 7236837521403181157]) (st := []) cl_11 lk_X12_label_X12_text_292 rfl dX12_label_151 rfl (Nat.le_of_ble_eq_true rfl) k3) rfl (fun h46 p47 => ?_)
                    have k48 : mm_kd h46 a0 = 11 := mm_kd_app p47 k3 (by decide)
                    refine ok_aload_n (q := 155) dX12_label_154 rfl rfl ?_
                    refine ok_ldc2 (q := 158) (v := 29285) dX12_label_155 wd_1341 rfl ?_
                    refine mm_cv (q := 161) (mt_X12_text G a0 29285 h46 k48) (mm_runV (as := [.long 29285]) (st := []) cl_11 lk_X12_label_X12_text_292 rfl dX12_label_158 rfl (Nat.le_of_ble_eq_true rfl) k48) rfl (fun h49 p50 => ?_)
                    have k51 : mm_kd h49 a0 = 11 := mm_kd_app p50 k48 (by decide)
                    exact ok_ret dX12_label_161 rfl
def bd_X12_expand (a0 : Nat) (a1 : Nat) (x2 : Int32) (x3 : Int32) (a4 : Nat) (x5 : Int32) (a6 : Nat) (x7 : Int32) (x8 : Int32) (h : mm_H) : mm_O := mm_bh (mm_si h a0 37 3) (fun h1 =>
  mm_qv (bd_X12_label a0 x3 h1) (fun h3 =>
  mm_gr h3 a0 36 (fun b9 =>
  if 32 ≤ b9 ∧ mm_in (0 : Int32) (mm_ln h3 b9) = true then (mm_bh (mm_si h3 b9 (mm_n (0 : Int32)) (mm_b8 (0 : Int32))) (fun h12 =>
  mm_gr h12 a0 36 (fun b14 =>
  if 32 ≤ b14 ∧ mm_in (1 : Int32) (mm_ln h12 b14) = true then (mm_bh (mm_si h12 b14 (mm_n (1 : Int32)) (mm_b8 (mm_b8 x8))) (fun h17 =>
  mm_gr h17 a0 36 (fun b19 =>
  if 32 ≤ b19 ∧ mm_in (2 : Int32) (mm_ln h17 b19) = true then (mm_bh (mm_si h17 b19 (mm_n (2 : Int32)) (mm_b8 (mm_b8 ((mm_i h17 a0 37) - (3 : Int32))))) (fun h22 =>
  mm_gr h22 a0 36 (fun b24 =>
  if 32 ≤ b24 ∧ mm_in (mm_i h22 a0 37) (mm_ln h22 b24) = true then (mm_bh (mm_si h22 b24 (mm_n (mm_i h22 a0 37)) (mm_b8 (mm_b8 x5))) (fun h27 =>
  mm_bh (mm_si h27 a0 37 ((mm_i h27 a0 37) + (1 : Int32))) (fun h29 =>
  mm_gr h29 a0 36 (fun b31 =>
  mm_qv (bd_X12_move a4 0 b31 (mm_i h29 a0 37) x5 h29) (fun h33 =>
  mm_bh (mm_si h33 a0 37 ((mm_i h33 a0 37) + x5)) (fun h39 =>
  mm_gr h39 a0 36 (fun b41 =>
  if 32 ≤ b41 ∧ mm_in (mm_i h39 a0 37) (mm_ln h39 b41) = true then (mm_bh (mm_si h39 b41 (mm_n (mm_i h39 a0 37)) (mm_b8 (1 : Int32))) (fun h44 =>
  mm_bh (mm_si h44 a0 37 ((mm_i h44 a0 37) + (1 : Int32))) (fun h46 =>
  mm_gr h46 a0 36 (fun b48 =>
  mm_gr h46 a0 38 (fun b50 =>
  mm_qv (bd_X12_sign a0 a1 x2 32 b48 0 (mm_i h46 a0 37) b50 0 h46) (fun h52 =>
  mm_gr h52 a0 38 (fun b58 =>
  mm_qv (bd_X12_move b58 0 a6 x7 x8 h52) (fun h60 =>
  some (none, h60))))))))) else none))))))) else none))) else none))) else none))) else none)))
set_option maxHeartbeats 4000000 in
set_option maxRecDepth 100000 in
theorem mt_X12_expand (G : mm_G) (a0 : Nat) (a1 : Nat) (x2 : Int32) (x3 : Int32) (a4 : Nat) (x5 : Int32) (a6 : Nat) (x7 : Int32) (x8 : Int32) (h : mm_H) (k_a0 : mm_kd h a0 = 11) (k_a1 : mm_kd h a1 = 21) (k_a4 : mm_kd h a4 = 21) (k_a6 : mm_kd h a6 = 21) : mm_Met G my_X12_expand [.ref a0, .ref a1, .int x2, .int x3, .ref a4, .int x5, .ref a6, .int x7, .int x8] h (bd_X12_expand a0 a1 x2 x3 a4 x5 a6 x7 x8 h) := by
  refine mm_met (ls := [.ref a0, .ref a1, .int x2, .int x3, .ref a4, .int x5, .ref a6, .int x7, .int x8]) pn_RX12 (Nat.le_of_ble_eq_true rfl) rfl ?_
  unfold bd_X12_expand
  refine ok_aload_n (q := 1) dX12_expand_0 rfl rfl ?_
  refine ok_iconst (q := 2) (v := 3) dX12_expand_1 ci_3 rfl ?_
  refine ok_putI cl_11 (q := 5) (k := 37) dX12_expand_2 (Nat.le_of_ble_eq_true rfl) wd_1069 (Or.inl rfl) (fun _ _ _ => rfl) rfl rfl k_a0 rfl (bh_ok (fun h1 e2 => ?_))
  have e2 : h1.1 = h.1 := e2
  refine ok_aload_n (q := 6) dX12_expand_5 rfl rfl ?_
  refine ok_iload_n (q := 7) dX12_expand_6 rfl rfl ?_
  refine mm_cv (q := 10) (mt_X12_label G a0 x3 h1 (mm_ke e2 k_a0)) (mm_runV (as := [.int x3]) (st := []) cl_11 lk_X12_expand_X12_label_322 rfl dX12_expand_7 rfl (Nat.le_of_ble_eq_true rfl) (mm_ke e2 k_a0)) rfl (fun h3 p4 => ?_)
  have k5 : mm_kd h3 a0 = 11 := mm_kd_app p4 (mm_ke e2 k_a0) (by decide)
  have k6 : mm_kd h3 a1 = 21 := mm_kd_app p4 (mm_ke e2 k_a1) (by decide)
  have k7 : mm_kd h3 a4 = 21 := mm_kd_app p4 (mm_ke e2 k_a4) (by decide)
  have k8 : mm_kd h3 a6 = 21 := mm_kd_app p4 (mm_ke e2 k_a6) (by decide)
  refine ok_aload_n (q := 11) dX12_expand_10 rfl rfl ?_
  refine ok_getR cl_11 (q := 14) (k := 36) dX12_expand_11 (Nat.le_of_ble_eq_true rfl) wd_1068 (fun _ _ _ => rfl) kt_11_36 k5 rfl (fun b9 k10 => ?_)
  refine ok_iconst (q := 15) (v := 0) dX12_expand_14 ci_0 rfl ?_
  refine ok_iconst (q := 16) (v := 0) dX12_expand_15 ci_0 rfl ?_
  refine mm_ck (fun c11 => ?_)
  refine ok_bast (q := 17) dX12_expand_16 k10 c11.1 c11.2 rfl (bh_ok (fun h12 e13 => ?_))
  have e13 : h12.1 = h3.1 := e13
  refine ok_aload_n (q := 18) dX12_expand_17 rfl rfl ?_
  refine ok_getR cl_11 (q := 21) (k := 36) dX12_expand_18 (Nat.le_of_ble_eq_true rfl) wd_1068 (fun _ _ _ => rfl) kt_11_36 (mm_ke e13 k5) rfl (fun b14 k15 => ?_)
  refine ok_iconst (q := 22) (v := 1) dX12_expand_21 ci_1 rfl ?_
  refine ok_iload (q := 24) dX12_expand_22 rfl rfl ?_
  refine ok_i2b (q := 25) dX12_expand_24 rfl ?_
  refine mm_ck (fun c16 => ?_)
  refine ok_bast (q := 26) dX12_expand_25 (mm_ke e13 (mm_ke e13.symm k15)) c16.1 c16.2 rfl (bh_ok (fun h17 e18 => ?_))
  have e18 : h17.1 = h3.1 := e18.trans e13
  refine ok_aload_n (q := 27) dX12_expand_26 rfl rfl ?_
  refine ok_getR cl_11 (q := 30) (k := 36) dX12_expand_27 (Nat.le_of_ble_eq_true rfl) wd_1068 (fun _ _ _ => rfl) kt_11_36 (mm_ke e18 k5) rfl (fun b19 k20 => ?_)
  refine ok_iconst (q := 31) (v := 2) dX12_expand_30 ci_2 rfl ?_
  refine ok_aload_n (q := 32) dX12_expand_31 rfl rfl ?_
  refine ok_getI cl_11 (q := 35) (k := 37) dX12_expand_32 (Nat.le_of_ble_eq_true rfl) wd_1069 (fun _ _ _ => rfl) (mm_ke e18 k5) rfl ?_
  refine ok_iconst (q := 36) (v := 3) dX12_expand_35 ci_3 rfl ?_
  refine ok_isub (q := 37) dX12_expand_36 rfl ?_
  refine ok_i2b (q := 38) dX12_expand_37 rfl ?_
  refine mm_ck (fun c21 => ?_)
  refine ok_bast (q := 39) dX12_expand_38 (mm_ke e18 (mm_ke e18.symm k20)) c21.1 c21.2 rfl (bh_ok (fun h22 e23 => ?_))
  have e23 : h22.1 = h3.1 := e23.trans e18
  refine ok_aload_n (q := 40) dX12_expand_39 rfl rfl ?_
  refine ok_getR cl_11 (q := 43) (k := 36) dX12_expand_40 (Nat.le_of_ble_eq_true rfl) wd_1068 (fun _ _ _ => rfl) kt_11_36 (mm_ke e23 k5) rfl (fun b24 k25 => ?_)
  refine ok_aload_n (q := 44) dX12_expand_43 rfl rfl ?_
  refine ok_getI cl_11 (q := 47) (k := 37) dX12_expand_44 (Nat.le_of_ble_eq_true rfl) wd_1069 (fun _ _ _ => rfl) (mm_ke e23 k5) rfl ?_
  refine ok_iload (q := 49) dX12_expand_47 rfl rfl ?_
  refine ok_i2b (q := 50) dX12_expand_49 rfl ?_
  refine mm_ck (fun c26 => ?_)
  refine ok_bast (q := 51) dX12_expand_50 (mm_ke e23 (mm_ke e23.symm k25)) c26.1 c26.2 rfl (bh_ok (fun h27 e28 => ?_))
  have e28 : h27.1 = h3.1 := e28.trans e23
  refine ok_aload_n (q := 52) dX12_expand_51 rfl rfl ?_
  refine ok_dup (q := 53) dX12_expand_52 rfl rfl ?_
  refine ok_getI cl_11 (q := 56) (k := 37) dX12_expand_53 (Nat.le_of_ble_eq_true rfl) wd_1069 (fun _ _ _ => rfl) (mm_ke e28 k5) rfl ?_
  refine ok_iconst (q := 57) (v := 1) dX12_expand_56 ci_1 rfl ?_
  refine ok_iadd (q := 58) dX12_expand_57 rfl ?_
  refine ok_putI cl_11 (q := 61) (k := 37) dX12_expand_58 (Nat.le_of_ble_eq_true rfl) wd_1069 (Or.inl rfl) (fun _ _ _ => rfl) rfl rfl (mm_ke e28 k5) rfl (bh_ok (fun h29 e30 => ?_))
  have e30 : h29.1 = h3.1 := e30.trans e28
  refine ok_aload (q := 63) dX12_expand_61 rfl rfl ?_
  refine ok_iconst (q := 64) (v := 0) dX12_expand_63 ci_0 rfl ?_
  refine ok_aload_n (q := 65) dX12_expand_64 rfl rfl ?_
  refine ok_getR cl_11 (q := 68) (k := 36) dX12_expand_65 (Nat.le_of_ble_eq_true rfl) wd_1068 (fun _ _ _ => rfl) kt_11_36 (mm_ke e30 k5) rfl (fun b31 k32 => ?_)
  refine ok_aload_n (q := 69) dX12_expand_68 rfl rfl ?_
  refine ok_getI cl_11 (q := 72) (k := 37) dX12_expand_69 (Nat.le_of_ble_eq_true rfl) wd_1069 (fun _ _ _ => rfl) (mm_ke e30 k5) rfl ?_
  refine ok_iload (q := 74) dX12_expand_72 rfl rfl ?_
  refine mm_cv (q := 77) (mt_X12_move G a4 0 b31 (mm_i h29 a0 37) x5 h29 (mm_ke e30 k7) (mm_ke e30 (mm_ke e30.symm k32))) (mm_runS (as := [.ref a4, .int 0, .ref b31, .int (mm_i h29 a0 37), .int x5]) (st := []) lk_X12_expand_X12_move_279 dX12_expand_74 rfl (Nat.le_of_ble_eq_true rfl)) rfl (fun h33 p34 => ?_)
  have k35 : mm_kd h33 a0 = 11 := mm_kd_app p34 (mm_ke e30 k5) (by decide)
  have k36 : mm_kd h33 a1 = 21 := mm_kd_app p34 (mm_ke e30 k6) (by decide)
  have k37 : mm_kd h33 a4 = 21 := mm_kd_app p34 (mm_ke e30 k7) (by decide)
  have k38 : mm_kd h33 a6 = 21 := mm_kd_app p34 (mm_ke e30 k8) (by decide)
  refine ok_aload_n (q := 78) dX12_expand_77 rfl rfl ?_
  refine ok_dup (q := 79) dX12_expand_78 rfl rfl ?_
  refine ok_getI cl_11 (q := 82) (k := 37) dX12_expand_79 (Nat.le_of_ble_eq_true rfl) wd_1069 (fun _ _ _ => rfl) k35 rfl ?_
  refine ok_iload (q := 84) dX12_expand_82 rfl rfl ?_
  refine ok_iadd (q := 85) dX12_expand_84 rfl ?_
  refine ok_putI cl_11 (q := 88) (k := 37) dX12_expand_85 (Nat.le_of_ble_eq_true rfl) wd_1069 (Or.inl rfl) (fun _ _ _ => rfl) rfl rfl k35 rfl (bh_ok (fun h39 e40 => ?_))
  have e40 : h39.1 = h33.1 := e40
  refine ok_aload_n (q := 89) dX12_expand_88 rfl rfl ?_
  refine ok_getR cl_11 (q := 92) (k := 36) dX12_expand_89 (Nat.le_of_ble_eq_true rfl) wd_1068 (fun _ _ _ => rfl) kt_11_36 (mm_ke e40 k35) rfl (fun b41 k42 => ?_)
  refine ok_aload_n (q := 93) dX12_expand_92 rfl rfl ?_
  refine ok_getI cl_11 (q := 96) (k := 37) dX12_expand_93 (Nat.le_of_ble_eq_true rfl) wd_1069 (fun _ _ _ => rfl) (mm_ke e40 k35) rfl ?_
  refine ok_iconst (q := 97) (v := 1) dX12_expand_96 ci_1 rfl ?_
  refine mm_ck (fun c43 => ?_)
  refine ok_bast (q := 98) dX12_expand_97 (mm_ke e40 (mm_ke e40.symm k42)) c43.1 c43.2 rfl (bh_ok (fun h44 e45 => ?_))
  have e45 : h44.1 = h33.1 := e45.trans e40
  refine ok_aload_n (q := 99) dX12_expand_98 rfl rfl ?_
  refine ok_dup (q := 100) dX12_expand_99 rfl rfl ?_
  refine ok_getI cl_11 (q := 103) (k := 37) dX12_expand_100 (Nat.le_of_ble_eq_true rfl) wd_1069 (fun _ _ _ => rfl) (mm_ke e45 k35) rfl ?_
  refine ok_iconst (q := 104) (v := 1) dX12_expand_103 ci_1 rfl ?_
  refine ok_iadd (q := 105) dX12_expand_104 rfl ?_
  refine ok_putI cl_11 (q := 108) (k := 37) dX12_expand_105 (Nat.le_of_ble_eq_true rfl) wd_1069 (Or.inl rfl) (fun _ _ _ => rfl) rfl rfl (mm_ke e45 k35) rfl (bh_ok (fun h46 e47 => ?_))
  have e47 : h46.1 = h33.1 := e47.trans e45
  refine ok_aload_n (q := 109) dX12_expand_108 rfl rfl ?_
  refine ok_aload_n (q := 110) dX12_expand_109 rfl rfl ?_
  refine ok_iload_n (q := 111) dX12_expand_110 rfl rfl ?_
  refine ok_bipush (q := 113) (v := 32) dX12_expand_111 cb_32 rfl ?_
  refine ok_aload_n (q := 114) dX12_expand_113 rfl rfl ?_
  refine ok_getR cl_11 (q := 117) (k := 36) dX12_expand_114 (Nat.le_of_ble_eq_true rfl) wd_1068 (fun _ _ _ => rfl) kt_11_36 (mm_ke e47 k35) rfl (fun b48 k49 => ?_)
  refine ok_iconst (q := 118) (v := 0) dX12_expand_117 ci_0 rfl ?_
  refine ok_aload_n (q := 119) dX12_expand_118 rfl rfl ?_
  refine ok_getI cl_11 (q := 122) (k := 37) dX12_expand_119 (Nat.le_of_ble_eq_true rfl) wd_1069 (fun _ _ _ => rfl) (mm_ke e47 k35) rfl ?_
  refine ok_aload_n (q := 123) dX12_expand_122 rfl rfl ?_
  refine ok_getR cl_11 (q := 126) (k := 38) dX12_expand_123 (Nat.le_of_ble_eq_true rfl) wd_1070 (fun _ _ _ => rfl) kt_11_38 (mm_ke e47 k35) rfl (fun b50 k51 => ?_)
  refine ok_iconst (q := 127) (v := 0) dX12_expand_126 ci_0 rfl ?_
  refine mm_cv (q := 130) (mt_X12_sign G a0 a1 x2 32 b48 0 (mm_i h46 a0 37) b50 0 h46 (mm_ke e47 k35) (mm_ke e47 k36) (mm_ke e47 (mm_ke e47.symm k49)) (mm_ke e47 (mm_ke e47.symm k51))) (mm_runV (as := [.ref a1, .int x2, .int 32, .ref b48, .int 0, .int (mm_i h46 a0 37), .ref b50, .int 0]) (st := []) cl_11 lk_X12_expand_X12_sign_326 rfl dX12_expand_127 rfl (Nat.le_of_ble_eq_true rfl) (mm_ke e47 k35)) rfl (fun h52 p53 => ?_)
  have k54 : mm_kd h52 a0 = 11 := mm_kd_app p53 (mm_ke e47 k35) (by decide)
  have k55 : mm_kd h52 a1 = 21 := mm_kd_app p53 (mm_ke e47 k36) (by decide)
  have k56 : mm_kd h52 a4 = 21 := mm_kd_app p53 (mm_ke e47 k37) (by decide)
  have k57 : mm_kd h52 a6 = 21 := mm_kd_app p53 (mm_ke e47 k38) (by decide)
  refine ok_aload_n (q := 131) dX12_expand_130 rfl rfl ?_
  refine ok_getR cl_11 (q := 134) (k := 38) dX12_expand_131 (Nat.le_of_ble_eq_true rfl) wd_1070 (fun _ _ _ => rfl) kt_11_38 k54 rfl (fun b58 k59 => ?_)
  refine ok_iconst (q := 135) (v := 0) dX12_expand_134 ci_0 rfl ?_
  refine ok_aload (q := 137) dX12_expand_135 rfl rfl ?_
  refine ok_iload (q := 139) dX12_expand_137 rfl rfl ?_
  refine ok_iload (q := 141) dX12_expand_139 rfl rfl ?_
  refine mm_cv (q := 144) (mt_X12_move G b58 0 a6 x7 x8 h52 k59 k57) (mm_runS (as := [.ref b58, .int 0, .ref a6, .int x7, .int x8]) (st := []) lk_X12_expand_X12_move_279 dX12_expand_141 rfl (Nat.le_of_ble_eq_true rfl)) rfl (fun h60 p61 => ?_)
  have k62 : mm_kd h60 a0 = 11 := mm_kd_app p61 k54 (by decide)
  have k63 : mm_kd h60 a1 = 21 := mm_kd_app p61 k55 (by decide)
  have k64 : mm_kd h60 a4 = 21 := mm_kd_app p61 k56 (by decide)
  have k65 : mm_kd h60 a6 = 21 := mm_kd_app p61 k57 (by decide)
  exact ok_ret dX12_expand_144 rfl
def bd_X12_beginSchedule (a0 : Nat) (x1 : Int32) (h : mm_H) : mm_O := mm_gr h a0 39 (fun b1 =>
  mm_gr h a0 40 (fun b3 =>
  mm_qv (bd_X12_sum a0 b1 0 0 b3 0 h) (fun h5 =>
  mm_gr h5 a0 39 (fun b8 =>
  mm_gr h5 a0 5 (fun b10 =>
  mm_gr h5 a0 6 (fun b12 =>
  if mm_in x1 (mm_ln h5 b12) = true then (mm_gr h5 a0 41 (fun b15 =>
  mm_qv (bd_X12_sign a0 b8 0 32 b10 ((64 : Int32) * x1) (mm_i h5 b12 (mm_n x1)) b15 0 h5) (fun h17 =>
  mm_gr h17 a0 41 (fun b20 =>
  mm_gr h17 a0 40 (fun b22 =>
  mm_gr h17 a0 43 (fun b24 =>
  mm_qv (bd_X12_expand a0 b20 0 0 b22 32 b24 0 32 h17) (fun h26 =>
  mm_gr h26 a0 43 (fun b29 =>
  mm_gr h26 a0 39 (fun b31 =>
  mm_gr h26 a0 42 (fun b33 =>
  mm_qv (bd_X12_sign a0 b29 0 32 b31 0 32 b33 0 h26) (fun h35 =>
  mm_gr h35 a0 42 (fun b38 =>
  mm_gr h35 a0 40 (fun b40 =>
  mm_gr h35 a0 43 (fun b42 =>
  mm_qv (bd_X12_expand a0 b38 0 0 b40 32 b42 0 32 h35) (fun h44 =>
  mm_gr h44 a0 43 (fun b47 =>
  mm_gr h44 a0 39 (fun b49 =>
  mm_gr h44 a0 25 (fun b51 =>
  mm_qv (bd_X12_sign a0 b47 0 32 b49 0 32 b51 ((32 : Int32) * x1) h44) (fun h53 =>
  some (none, h53)))))))))))))))))))) else none))))))
set_option maxHeartbeats 4000000 in
set_option maxRecDepth 100000 in
theorem mt_X12_beginSchedule (G : mm_G) (a0 : Nat) (x1 : Int32) (h : mm_H) (k_a0 : mm_kd h a0 = 11) : mm_Met G my_X12_beginSchedule [.ref a0, .int x1] h (bd_X12_beginSchedule a0 x1 h) := by
  refine mm_met (ls := [.ref a0, .int x1]) pn_RX12 (Nat.le_of_ble_eq_true rfl) rfl ?_
  unfold bd_X12_beginSchedule
  refine ok_aload_n (q := 1) dX12_beginSchedule_0 rfl rfl ?_
  refine ok_aload_n (q := 2) dX12_beginSchedule_1 rfl rfl ?_
  refine ok_getR cl_11 (q := 5) (k := 39) dX12_beginSchedule_2 (Nat.le_of_ble_eq_true rfl) wd_1071 (fun _ _ _ => rfl) kt_11_39 k_a0 rfl (fun b1 k2 => ?_)
  refine ok_iconst (q := 6) (v := 0) dX12_beginSchedule_5 ci_0 rfl ?_
  refine ok_iconst (q := 7) (v := 0) dX12_beginSchedule_6 ci_0 rfl ?_
  refine ok_aload_n (q := 8) dX12_beginSchedule_7 rfl rfl ?_
  refine ok_getR cl_11 (q := 11) (k := 40) dX12_beginSchedule_8 (Nat.le_of_ble_eq_true rfl) wd_1072 (fun _ _ _ => rfl) kt_11_40 k_a0 rfl (fun b3 k4 => ?_)
  refine ok_iconst (q := 12) (v := 0) dX12_beginSchedule_11 ci_0 rfl ?_
  refine mm_cv (q := 15) (mt_X12_sum G a0 b1 0 0 b3 0 h k_a0 k2 k4) (mm_runV (as := [.ref b1, .int 0, .int 0, .ref b3, .int 0]) (st := []) cl_11 lk_X12_beginSchedule_X12_sum_283 rfl dX12_beginSchedule_12 rfl (Nat.le_of_ble_eq_true rfl) k_a0) rfl (fun h5 p6 => ?_)
  have k7 : mm_kd h5 a0 = 11 := mm_kd_app p6 k_a0 (by decide)
  refine ok_aload_n (q := 16) dX12_beginSchedule_15 rfl rfl ?_
  refine ok_aload_n (q := 17) dX12_beginSchedule_16 rfl rfl ?_
  refine ok_getR cl_11 (q := 20) (k := 39) dX12_beginSchedule_17 (Nat.le_of_ble_eq_true rfl) wd_1071 (fun _ _ _ => rfl) kt_11_39 k7 rfl (fun b8 k9 => ?_)
  refine ok_iconst (q := 21) (v := 0) dX12_beginSchedule_20 ci_0 rfl ?_
  refine ok_bipush (q := 23) (v := 32) dX12_beginSchedule_21 cb_32 rfl ?_
  refine ok_aload_n (q := 24) dX12_beginSchedule_23 rfl rfl ?_
  refine ok_getR cl_11 (q := 27) (k := 5) dX12_beginSchedule_24 (Nat.le_of_ble_eq_true rfl) wd_1037 (fun _ _ _ => rfl) kt_11_5 k7 rfl (fun b10 k11 => ?_)
  refine ok_bipush (q := 29) (v := 64) dX12_beginSchedule_27 cb_64 rfl ?_
  refine ok_iload_n (q := 30) dX12_beginSchedule_29 rfl rfl ?_
  refine ok_imul (q := 31) dX12_beginSchedule_30 rfl ?_
  refine ok_aload_n (q := 32) dX12_beginSchedule_31 rfl rfl ?_
  refine ok_getR cl_11 (q := 35) (k := 6) dX12_beginSchedule_32 (Nat.le_of_ble_eq_true rfl) wd_1038 (fun _ _ _ => rfl) kt_11_6 k7 rfl (fun b12 k13 => ?_)
  refine ok_iload_n (q := 36) dX12_beginSchedule_35 rfl rfl ?_
  refine mm_ck (fun c14 => ?_)
  refine ok_iald (q := 37) dX12_beginSchedule_36 k13 c14 rfl ?_
  refine ok_aload_n (q := 38) dX12_beginSchedule_37 rfl rfl ?_
  refine ok_getR cl_11 (q := 41) (k := 41) dX12_beginSchedule_38 (Nat.le_of_ble_eq_true rfl) wd_1073 (fun _ _ _ => rfl) kt_11_41 k7 rfl (fun b15 k16 => ?_)
  refine ok_iconst (q := 42) (v := 0) dX12_beginSchedule_41 ci_0 rfl ?_
  refine mm_cv (q := 45) (mt_X12_sign G a0 b8 0 32 b10 ((64 : Int32) * x1) (mm_i h5 b12 (mm_n x1)) b15 0 h5 k7 k9 k11 k16) (mm_runV (as := [.ref b8, .int 0, .int 32, .ref b10, .int ((64 : Int32) * x1), .int (mm_i h5 b12 (mm_n x1)), .ref b15, .int 0]) (st := []) cl_11 lk_X12_beginSchedule_X12_sign_326 rfl dX12_beginSchedule_42 rfl (Nat.le_of_ble_eq_true rfl) k7) rfl (fun h17 p18 => ?_)
  have k19 : mm_kd h17 a0 = 11 := mm_kd_app p18 k7 (by decide)
  refine ok_aload_n (q := 46) dX12_beginSchedule_45 rfl rfl ?_
  refine ok_aload_n (q := 47) dX12_beginSchedule_46 rfl rfl ?_
  refine ok_getR cl_11 (q := 50) (k := 41) dX12_beginSchedule_47 (Nat.le_of_ble_eq_true rfl) wd_1073 (fun _ _ _ => rfl) kt_11_41 k19 rfl (fun b20 k21 => ?_)
  refine ok_iconst (q := 51) (v := 0) dX12_beginSchedule_50 ci_0 rfl ?_
  refine ok_iconst (q := 52) (v := 0) dX12_beginSchedule_51 ci_0 rfl ?_
  refine ok_aload_n (q := 53) dX12_beginSchedule_52 rfl rfl ?_
  refine ok_getR cl_11 (q := 56) (k := 40) dX12_beginSchedule_53 (Nat.le_of_ble_eq_true rfl) wd_1072 (fun _ _ _ => rfl) kt_11_40 k19 rfl (fun b22 k23 => ?_)
  refine ok_bipush (q := 58) (v := 32) dX12_beginSchedule_56 cb_32 rfl ?_
  refine ok_aload_n (q := 59) dX12_beginSchedule_58 rfl rfl ?_
  refine ok_getR cl_11 (q := 62) (k := 43) dX12_beginSchedule_59 (Nat.le_of_ble_eq_true rfl) wd_1075 (fun _ _ _ => rfl) kt_11_43 k19 rfl (fun b24 k25 => ?_)
  refine ok_iconst (q := 63) (v := 0) dX12_beginSchedule_62 ci_0 rfl ?_
  refine ok_bipush (q := 65) (v := 32) dX12_beginSchedule_63 cb_32 rfl ?_
  refine mm_cv (q := 68) (mt_X12_expand G a0 b20 0 0 b22 32 b24 0 32 h17 k19 k21 k23 k25) (mm_runV (as := [.ref b20, .int 0, .int 0, .ref b22, .int 32, .ref b24, .int 0, .int 32]) (st := []) cl_11 lk_X12_beginSchedule_X12_expand_330 rfl dX12_beginSchedule_65 rfl (Nat.le_of_ble_eq_true rfl) k19) rfl (fun h26 p27 => ?_)
  have k28 : mm_kd h26 a0 = 11 := mm_kd_app p27 k19 (by decide)
  refine ok_aload_n (q := 69) dX12_beginSchedule_68 rfl rfl ?_
  refine ok_aload_n (q := 70) dX12_beginSchedule_69 rfl rfl ?_
  refine ok_getR cl_11 (q := 73) (k := 43) dX12_beginSchedule_70 (Nat.le_of_ble_eq_true rfl) wd_1075 (fun _ _ _ => rfl) kt_11_43 k28 rfl (fun b29 k30 => ?_)
  refine ok_iconst (q := 74) (v := 0) dX12_beginSchedule_73 ci_0 rfl ?_
  refine ok_bipush (q := 76) (v := 32) dX12_beginSchedule_74 cb_32 rfl ?_
  refine ok_aload_n (q := 77) dX12_beginSchedule_76 rfl rfl ?_
  refine ok_getR cl_11 (q := 80) (k := 39) dX12_beginSchedule_77 (Nat.le_of_ble_eq_true rfl) wd_1071 (fun _ _ _ => rfl) kt_11_39 k28 rfl (fun b31 k32 => ?_)
  refine ok_iconst (q := 81) (v := 0) dX12_beginSchedule_80 ci_0 rfl ?_
  refine ok_bipush (q := 83) (v := 32) dX12_beginSchedule_81 cb_32 rfl ?_
  refine ok_aload_n (q := 84) dX12_beginSchedule_83 rfl rfl ?_
  refine ok_getR cl_11 (q := 87) (k := 42) dX12_beginSchedule_84 (Nat.le_of_ble_eq_true rfl) wd_1074 (fun _ _ _ => rfl) kt_11_42 k28 rfl (fun b33 k34 => ?_)
  refine ok_iconst (q := 88) (v := 0) dX12_beginSchedule_87 ci_0 rfl ?_
  refine mm_cv (q := 91) (mt_X12_sign G a0 b29 0 32 b31 0 32 b33 0 h26 k28 k30 k32 k34) (mm_runV (as := [.ref b29, .int 0, .int 32, .ref b31, .int 0, .int 32, .ref b33, .int 0]) (st := []) cl_11 lk_X12_beginSchedule_X12_sign_326 rfl dX12_beginSchedule_88 rfl (Nat.le_of_ble_eq_true rfl) k28) rfl (fun h35 p36 => ?_)
  have k37 : mm_kd h35 a0 = 11 := mm_kd_app p36 k28 (by decide)
  refine ok_aload_n (q := 92) dX12_beginSchedule_91 rfl rfl ?_
  refine ok_aload_n (q := 93) dX12_beginSchedule_92 rfl rfl ?_
  refine ok_getR cl_11 (q := 96) (k := 42) dX12_beginSchedule_93 (Nat.le_of_ble_eq_true rfl) wd_1074 (fun _ _ _ => rfl) kt_11_42 k37 rfl (fun b38 k39 => ?_)
  refine ok_iconst (q := 97) (v := 0) dX12_beginSchedule_96 ci_0 rfl ?_
  refine ok_iconst (q := 98) (v := 0) dX12_beginSchedule_97 ci_0 rfl ?_
  refine ok_aload_n (q := 99) dX12_beginSchedule_98 rfl rfl ?_
  refine ok_getR cl_11 (q := 102) (k := 40) dX12_beginSchedule_99 (Nat.le_of_ble_eq_true rfl) wd_1072 (fun _ _ _ => rfl) kt_11_40 k37 rfl (fun b40 k41 => ?_)
  refine ok_bipush (q := 104) (v := 32) dX12_beginSchedule_102 cb_32 rfl ?_
  refine ok_aload_n (q := 105) dX12_beginSchedule_104 rfl rfl ?_
  refine ok_getR cl_11 (q := 108) (k := 43) dX12_beginSchedule_105 (Nat.le_of_ble_eq_true rfl) wd_1075 (fun _ _ _ => rfl) kt_11_43 k37 rfl (fun b42 k43 => ?_)
  refine ok_iconst (q := 109) (v := 0) dX12_beginSchedule_108 ci_0 rfl ?_
  refine ok_bipush (q := 111) (v := 32) dX12_beginSchedule_109 cb_32 rfl ?_
  refine mm_cv (q := 114) (mt_X12_expand G a0 b38 0 0 b40 32 b42 0 32 h35 k37 k39 k41 k43) (mm_runV (as := [.ref b38, .int 0, .int 0, .ref b40, .int 32, .ref b42, .int 0, .int 32]) (st := []) cl_11 lk_X12_beginSchedule_X12_expand_330 rfl dX12_beginSchedule_111 rfl (Nat.le_of_ble_eq_true rfl) k37) rfl (fun h44 p45 => ?_)
  have k46 : mm_kd h44 a0 = 11 := mm_kd_app p45 k37 (by decide)
  refine ok_aload_n (q := 115) dX12_beginSchedule_114 rfl rfl ?_
  refine ok_aload_n (q := 116) dX12_beginSchedule_115 rfl rfl ?_
  refine ok_getR cl_11 (q := 119) (k := 43) dX12_beginSchedule_116 (Nat.le_of_ble_eq_true rfl) wd_1075 (fun _ _ _ => rfl) kt_11_43 k46 rfl (fun b47 k48 => ?_)
  refine ok_iconst (q := 120) (v := 0) dX12_beginSchedule_119 ci_0 rfl ?_
  refine ok_bipush (q := 122) (v := 32) dX12_beginSchedule_120 cb_32 rfl ?_
  refine ok_aload_n (q := 123) dX12_beginSchedule_122 rfl rfl ?_
  refine ok_getR cl_11 (q := 126) (k := 39) dX12_beginSchedule_123 (Nat.le_of_ble_eq_true rfl) wd_1071 (fun _ _ _ => rfl) kt_11_39 k46 rfl (fun b49 k50 => ?_)
  refine ok_iconst (q := 127) (v := 0) dX12_beginSchedule_126 ci_0 rfl ?_
  refine ok_bipush (q := 129) (v := 32) dX12_beginSchedule_127 cb_32 rfl ?_
  refine ok_aload_n (q := 130) dX12_beginSchedule_129 rfl rfl ?_
  refine ok_getR cl_11 (q := 133) (k := 25) dX12_beginSchedule_130 (Nat.le_of_ble_eq_true rfl) wd_1057 (fun _ _ _ => rfl) kt_11_25 k46 rfl (fun b51 k52 => ?_)
  refine ok_bipush (q := 135) (v := 32) dX12_beginSchedule_133 cb_32 rfl ?_
  refine ok_iload_n (q := 136) dX12_beginSchedule_135 rfl rfl ?_
  refine ok_imul (q := 137) dX12_beginSchedule_136 rfl ?_
  refine mm_cv (q := 140) (mt_X12_sign G a0 b47 0 32 b49 0 32 b51 ((32 : Int32) * x1) h44 k46 k48 k50 k52) (mm_runV (as := [.ref b47, .int 0, .int 32, .ref b49, .int 0, .int 32, .ref b51, .int ((32 : Int32) * x1)]) (st := []) cl_11 lk_X12_beginSchedule_X12_sign_326 rfl dX12_beginSchedule_137 rfl (Nat.le_of_ble_eq_true rfl) k46) rfl (fun h53 p54 => ?_)
  have k55 : mm_kd h53 a0 = 11 := mm_kd_app p54 k46 (by decide)
  exact ok_ret dX12_beginSchedule_140 rfl
def bd_X12_hear (a0 : Nat) (x1 : Int32) (h : mm_H) : mm_O := mm_gr h a0 20 (fun b1 =>
  mm_gr h a0 21 (fun b3 =>
  if mm_in x1 (mm_ln h b3) = true then (mm_gr h a0 44 (fun b6 =>
  mm_qv (bd_X12_sum a0 b1 ((400 : Int32) * x1) (mm_i h b3 (mm_n x1)) b6 0 h) (fun h8 =>
  some (none, h8)))) else none))
set_option maxHeartbeats 4000000 in
set_option maxRecDepth 100000 in
theorem mt_X12_hear (G : mm_G) (a0 : Nat) (x1 : Int32) (h : mm_H) (k_a0 : mm_kd h a0 = 11) : mm_Met G my_X12_hear [.ref a0, .int x1] h (bd_X12_hear a0 x1 h) := by
  refine mm_met (ls := [.ref a0, .int x1]) pn_RX12 (Nat.le_of_ble_eq_true rfl) rfl ?_
  unfold bd_X12_hear
  refine ok_aload_n (q := 1) dX12_hear_0 rfl rfl ?_
  refine ok_aload_n (q := 2) dX12_hear_1 rfl rfl ?_
  refine ok_getR cl_11 (q := 5) (k := 20) dX12_hear_2 (Nat.le_of_ble_eq_true rfl) wd_1052 (fun _ _ _ => rfl) kt_11_20 k_a0 rfl (fun b1 k2 => ?_)
  refine ok_sipush (q := 8) (v := 400) dX12_hear_5 cs_400 rfl ?_
  refine ok_iload_n (q := 9) dX12_hear_8 rfl rfl ?_
  refine ok_imul (q := 10) dX12_hear_9 rfl ?_
  refine ok_aload_n (q := 11) dX12_hear_10 rfl rfl ?_
  refine ok_getR cl_11 (q := 14) (k := 21) dX12_hear_11 (Nat.le_of_ble_eq_true rfl) wd_1053 (fun _ _ _ => rfl) kt_11_21 k_a0 rfl (fun b3 k4 => ?_)
  refine ok_iload_n (q := 15) dX12_hear_14 rfl rfl ?_
  refine mm_ck (fun c5 => ?_)
  refine ok_iald (q := 16) dX12_hear_15 k4 c5 rfl ?_
  refine ok_aload_n (q := 17) dX12_hear_16 rfl rfl ?_
  refine ok_getR cl_11 (q := 20) (k := 44) dX12_hear_17 (Nat.le_of_ble_eq_true rfl) wd_1076 (fun _ _ _ => rfl) kt_11_44 k_a0 rfl (fun b6 k7 => ?_)
  refine ok_iconst (q := 21) (v := 0) dX12_hear_20 ci_0 rfl ?_
  refine mm_cv (q := 24) (mt_X12_sum G a0 b1 ((400 : Int32) * x1) (mm_i h b3 (mm_n x1)) b6 0 h k_a0 k2 k7) (mm_runV (as := [.ref b1, .int ((400 : Int32) * x1), .int (mm_i h b3 (mm_n x1)), .ref b6, .int 0]) (st := []) cl_11 lk_X12_hear_X12_sum_283 rfl dX12_hear_21 rfl (Nat.le_of_ble_eq_true rfl) k_a0) rfl (fun h8 p9 => ?_)
  have k10 : mm_kd h8 a0 = 11 := mm_kd_app p9 k_a0 (by decide)
  exact ok_ret dX12_hear_24 rfl
def bd_X12_append (a0 : Nat) (x1 : Int32) (a2 : Nat) (x3 : Int32) (x4 : Int32) (h : mm_H) : mm_O := mm_gr h a0 20 (fun b1 =>
  mm_gr h a0 21 (fun b3 =>
  if mm_in x1 (mm_ln h b3) = true then (mm_qv (bd_X12_move a2 x3 b1 (((400 : Int32) * x1) + (mm_i h b3 (mm_n x1))) x4 h) (fun h6 =>
  mm_gr h6 a0 21 (fun b10 =>
  if mm_in x1 (mm_ln h6 b10) = true then (if 32 ≤ b10 ∧ mm_in x1 (mm_ln h6 b10) = true then (mm_bh (mm_si h6 b10 (mm_n x1) ((mm_i h6 b10 (mm_n x1)) + x4)) (fun h14 =>
  some (none, h14))) else none) else none))) else none))
set_option maxHeartbeats 4000000 in
set_option maxRecDepth 100000 in
theorem mt_X12_append (G : mm_G) (a0 : Nat) (x1 : Int32) (a2 : Nat) (x3 : Int32) (x4 : Int32) (h : mm_H) (k_a0 : mm_kd h a0 = 11) (k_a2 : mm_kd h a2 = 21) : mm_Met G my_X12_append [.ref a0, .int x1, .ref a2, .int x3, .int x4] h (bd_X12_append a0 x1 a2 x3 x4 h) := by
  refine mm_met (ls := [.ref a0, .int x1, .ref a2, .int x3, .int x4]) pn_RX12 (Nat.le_of_ble_eq_true rfl) rfl ?_
  unfold bd_X12_append
  refine ok_aload_n (q := 1) dX12_append_0 rfl rfl ?_
  refine ok_iload_n (q := 2) dX12_append_1 rfl rfl ?_
  refine ok_aload_n (q := 3) dX12_append_2 rfl rfl ?_
  refine ok_getR cl_11 (q := 6) (k := 20) dX12_append_3 (Nat.le_of_ble_eq_true rfl) wd_1052 (fun _ _ _ => rfl) kt_11_20 k_a0 rfl (fun b1 k2 => ?_)
  refine ok_sipush (q := 9) (v := 400) dX12_append_6 cs_400 rfl ?_
  refine ok_iload_n (q := 10) dX12_append_9 rfl rfl ?_
  refine ok_imul (q := 11) dX12_append_10 rfl ?_
  refine ok_aload_n (q := 12) dX12_append_11 rfl rfl ?_
  refine ok_getR cl_11 (q := 15) (k := 21) dX12_append_12 (Nat.le_of_ble_eq_true rfl) wd_1053 (fun _ _ _ => rfl) kt_11_21 k_a0 rfl (fun b3 k4 => ?_)
  refine ok_iload_n (q := 16) dX12_append_15 rfl rfl ?_
  refine mm_ck (fun c5 => ?_)
  refine ok_iald (q := 17) dX12_append_16 k4 c5 rfl ?_
  refine ok_iadd (q := 18) dX12_append_17 rfl ?_
  refine ok_iload (q := 20) dX12_append_18 rfl rfl ?_
  refine mm_cv (q := 23) (mt_X12_move G a2 x3 b1 (((400 : Int32) * x1) + (mm_i h b3 (mm_n x1))) x4 h k_a2 k2) (mm_runS (as := [.ref a2, .int x3, .ref b1, .int (((400 : Int32) * x1) + (mm_i h b3 (mm_n x1))), .int x4]) (st := []) lk_X12_append_X12_move_279 dX12_append_20 rfl (Nat.le_of_ble_eq_true rfl)) rfl (fun h6 p7 => ?_)
  have k8 : mm_kd h6 a0 = 11 := mm_kd_app p7 k_a0 (by decide)
  have k9 : mm_kd h6 a2 = 21 := mm_kd_app p7 k_a2 (by decide)
  refine ok_aload_n (q := 24) dX12_append_23 rfl rfl ?_
  refine ok_getR cl_11 (q := 27) (k := 21) dX12_append_24 (Nat.le_of_ble_eq_true rfl) wd_1053 (fun _ _ _ => rfl) kt_11_21 k8 rfl (fun b10 k11 => ?_)
  refine ok_iload_n (q := 28) dX12_append_27 rfl rfl ?_
  refine ok_dup2 (q := 29) dX12_append_28 rfl rfl rfl ?_
  refine mm_ck (fun c12 => ?_)
  refine ok_iald (q := 30) dX12_append_29 k11 c12 rfl ?_
  refine ok_iload (q := 32) dX12_append_30 rfl rfl ?_
  refine ok_iadd (q := 33) dX12_append_32 rfl ?_
  refine mm_ck (fun c13 => ?_)
  refine ok_iast (q := 34) dX12_append_33 k11 c13.1 c13.2 rfl (bh_ok (fun h14 e15 => ?_))
  have e15 : h14.1 = h6.1 := e15
  exact ok_ret dX12_append_34 rfl
def bd_X12_prove (a0 : Nat) (x1 : Int32) (a2 : Nat) (a3 : Nat) (x4 : Int32) (h : mm_H) : mm_O := mm_qv (bd_X12_hear a0 x1 h) (fun h1 =>
  mm_gr h1 a0 40 (fun b6 =>
  mm_gr h1 a0 45 (fun b8 =>
  mm_qv (bd_X12_expand a0 a2 ((32 : Int32) * x1) 7 b6 0 b8 0 32 h1) (fun h10 =>
  mm_gr h10 a0 45 (fun b15 =>
  mm_gr h10 a0 44 (fun b17 =>
  mm_qv (bd_X12_sign a0 b15 0 32 b17 0 32 a3 x4 h10) (fun h19 =>
  some (none, h19))))))))
set_option maxHeartbeats 4000000 in
set_option maxRecDepth 100000 in
theorem mt_X12_prove (G : mm_G) (a0 : Nat) (x1 : Int32) (a2 : Nat) (a3 : Nat) (x4 : Int32) (h : mm_H) (k_a0 : mm_kd h a0 = 11) (k_a2 : mm_kd h a2 = 21) (k_a3 : mm_kd h a3 = 21) : mm_Met G my_X12_prove [.ref a0, .int x1, .ref a2, .ref a3, .int x4] h (bd_X12_prove a0 x1 a2 a3 x4 h) := by
  refine mm_met (ls := [.ref a0, .int x1, .ref a2, .ref a3, .int x4]) pn_RX12 (Nat.le_of_ble_eq_true rfl) rfl ?_
  unfold bd_X12_prove
  refine ok_aload_n (q := 1) dX12_prove_0 rfl rfl ?_
  refine ok_iload_n (q := 2) dX12_prove_1 rfl rfl ?_
  refine mm_cv (q := 5) (mt_X12_hear G a0 x1 h k_a0) (mm_runV (as := [.int x1]) (st := []) cl_11 lk_X12_prove_X12_hear_334 rfl dX12_prove_2 rfl (Nat.le_of_ble_eq_true rfl) k_a0) rfl (fun h1 p2 => ?_)
  have k3 : mm_kd h1 a0 = 11 := mm_kd_app p2 k_a0 (by decide)
  have k4 : mm_kd h1 a2 = 21 := mm_kd_app p2 k_a2 (by decide)
  have k5 : mm_kd h1 a3 = 21 := mm_kd_app p2 k_a3 (by decide)
  refine ok_aload_n (q := 6) dX12_prove_5 rfl rfl ?_
  refine ok_aload_n (q := 7) dX12_prove_6 rfl rfl ?_
  refine ok_bipush (q := 9) (v := 32) dX12_prove_7 cb_32 rfl ?_
  refine ok_iload_n (q := 10) dX12_prove_9 rfl rfl ?_
  refine ok_imul (q := 11) dX12_prove_10 rfl ?_
  refine ok_bipush (q := 13) (v := 7) dX12_prove_11 cb_7 rfl ?_
  refine ok_aload_n (q := 14) dX12_prove_13 rfl rfl ?_
  refine ok_getR cl_11 (q := 17) (k := 40) dX12_prove_14 (Nat.le_of_ble_eq_true rfl) wd_1072 (fun _ _ _ => rfl) kt_11_40 k3 rfl (fun b6 k7 => ?_)
  refine ok_iconst (q := 18) (v := 0) dX12_prove_17 ci_0 rfl ?_
  refine ok_aload_n (q := 19) dX12_prove_18 rfl rfl ?_
  refine ok_getR cl_11 (q := 22) (k := 45) dX12_prove_19 (Nat.le_of_ble_eq_true rfl) wd_1077 (fun _ _ _ => rfl) kt_11_45 k3 rfl (fun b8 k9 => ?_)
  refine ok_iconst (q := 23) (v := 0) dX12_prove_22 ci_0 rfl ?_
  refine ok_bipush (q := 25) (v := 32) dX12_prove_23 cb_32 rfl ?_
  refine mm_cv (q := 28) (mt_X12_expand G a0 a2 ((32 : Int32) * x1) 7 b6 0 b8 0 32 h1 k3 k4 k7 k9) (mm_runV (as := [.ref a2, .int ((32 : Int32) * x1), .int 7, .ref b6, .int 0, .ref b8, .int 0, .int 32]) (st := []) cl_11 lk_X12_prove_X12_expand_330 rfl dX12_prove_25 rfl (Nat.le_of_ble_eq_true rfl) k3) rfl (fun h10 p11 => ?_)
  have k12 : mm_kd h10 a0 = 11 := mm_kd_app p11 k3 (by decide)
  have k13 : mm_kd h10 a2 = 21 := mm_kd_app p11 k4 (by decide)
  have k14 : mm_kd h10 a3 = 21 := mm_kd_app p11 k5 (by decide)
  refine ok_aload_n (q := 29) dX12_prove_28 rfl rfl ?_
  refine ok_aload_n (q := 30) dX12_prove_29 rfl rfl ?_
  refine ok_getR cl_11 (q := 33) (k := 45) dX12_prove_30 (Nat.le_of_ble_eq_true rfl) wd_1077 (fun _ _ _ => rfl) kt_11_45 k12 rfl (fun b15 k16 => ?_)
  refine ok_iconst (q := 34) (v := 0) dX12_prove_33 ci_0 rfl ?_
  refine ok_bipush (q := 36) (v := 32) dX12_prove_34 cb_32 rfl ?_
  refine ok_aload_n (q := 37) dX12_prove_36 rfl rfl ?_
  refine ok_getR cl_11 (q := 40) (k := 44) dX12_prove_37 (Nat.le_of_ble_eq_true rfl) wd_1076 (fun _ _ _ => rfl) kt_11_44 k12 rfl (fun b17 k18 => ?_)
  refine ok_iconst (q := 41) (v := 0) dX12_prove_40 ci_0 rfl ?_
  refine ok_bipush (q := 43) (v := 32) dX12_prove_41 cb_32 rfl ?_
  refine ok_aload_n (q := 44) dX12_prove_43 rfl rfl ?_
  refine ok_iload (q := 46) dX12_prove_44 rfl rfl ?_
  refine mm_cv (q := 49) (mt_X12_sign G a0 b15 0 32 b17 0 32 a3 x4 h10 k12 k16 k18 k14) (mm_runV (as := [.ref b15, .int 0, .int 32, .ref b17, .int 0, .int 32, .ref a3, .int x4]) (st := []) cl_11 lk_X12_prove_X12_sign_326 rfl dX12_prove_46 rfl (Nat.le_of_ble_eq_true rfl) k12) rfl (fun h19 p20 => ?_)
  have k21 : mm_kd h19 a0 = 11 := mm_kd_app p20 k12 (by decide)
  have k22 : mm_kd h19 a2 = 21 := mm_kd_app p20 k13 (by decide)
  have k23 : mm_kd h19 a3 = 21 := mm_kd_app p20 k14 (by decide)
  exact ok_ret dX12_prove_49 rfl
def bd_X12_word (a0 : Nat) (x1 : Int32) (h : mm_H) : mm_O := if mm_in x1 (mm_ln h a0) = true then (if mm_in (x1 + (1 : Int32)) (mm_ln h a0) = true then (if mm_in (x1 + (2 : Int32)) (mm_ln h a0) = true then (if mm_in (x1 + (3 : Int32)) (mm_ln h a0) = true then (some (some (.int (((((mm_i h a0 (mm_n x1)) &&& (255 : Int32)) ||| (mm_shl ((mm_i h a0 (mm_n (x1 + (1 : Int32)))) &&& (255 : Int32)) (8 : Int32))) ||| (mm_shl ((mm_i h a0 (mm_n (x1 + (2 : Int32)))) &&& (255 : Int32)) (16 : Int32))) ||| (mm_shl ((mm_i h a0 (mm_n (x1 + (3 : Int32)))) &&& (255 : Int32)) (24 : Int32)))), h)) else none) else none) else none) else none
set_option maxHeartbeats 4000000 in
set_option maxRecDepth 100000 in
theorem mt_X12_word (G : mm_G) (a0 : Nat) (x1 : Int32) (h : mm_H) (k_a0 : mm_kd h a0 = 21) : mm_Met G my_X12_word [.ref a0, .int x1] h (bd_X12_word a0 x1 h) := by
  refine mm_met (ls := [.ref a0, .int x1]) pn_RX12 (Nat.le_of_ble_eq_true rfl) rfl ?_
  unfold bd_X12_word
  refine ok_aload_n (q := 1) dX12_word_0 rfl rfl ?_
  refine ok_iload_n (q := 2) dX12_word_1 rfl rfl ?_
  refine mm_ck (fun c1 => ?_)
  refine ok_bald (q := 3) dX12_word_2 k_a0 c1 rfl ?_
  refine ok_sipush (q := 6) (v := 255) dX12_word_3 cs_255 rfl ?_
  refine ok_iand (q := 7) dX12_word_6 rfl ?_
  refine ok_aload_n (q := 8) dX12_word_7 rfl rfl ?_
  refine ok_iload_n (q := 9) dX12_word_8 rfl rfl ?_
  refine ok_iconst (q := 10) (v := 1) dX12_word_9 ci_1 rfl ?_
  refine ok_iadd (q := 11) dX12_word_10 rfl ?_
  refine mm_ck (fun c2 => ?_)
  refine ok_bald (q := 12) dX12_word_11 k_a0 c2 rfl ?_
  refine ok_sipush (q := 15) (v := 255) dX12_word_12 cs_255 rfl ?_
  refine ok_iand (q := 16) dX12_word_15 rfl ?_
  refine ok_bipush (q := 18) (v := 8) dX12_word_16 cb_8 rfl ?_
  refine ok_ishl (q := 19) dX12_word_18 rfl ?_
  refine ok_ior (q := 20) dX12_word_19 rfl ?_
  refine ok_aload_n (q := 21) dX12_word_20 rfl rfl ?_
  refine ok_iload_n (q := 22) dX12_word_21 rfl rfl ?_
  refine ok_iconst (q := 23) (v := 2) dX12_word_22 ci_2 rfl ?_
  refine ok_iadd (q := 24) dX12_word_23 rfl ?_
  refine mm_ck (fun c3 => ?_)
  refine ok_bald (q := 25) dX12_word_24 k_a0 c3 rfl ?_
  refine ok_sipush (q := 28) (v := 255) dX12_word_25 cs_255 rfl ?_
  refine ok_iand (q := 29) dX12_word_28 rfl ?_
  refine ok_bipush (q := 31) (v := 16) dX12_word_29 cb_16 rfl ?_
  refine ok_ishl (q := 32) dX12_word_31 rfl ?_
  refine ok_ior (q := 33) dX12_word_32 rfl ?_
  refine ok_aload_n (q := 34) dX12_word_33 rfl rfl ?_
  refine ok_iload_n (q := 35) dX12_word_34 rfl rfl ?_
  refine ok_iconst (q := 36) (v := 3) dX12_word_35 ci_3 rfl ?_
  refine ok_iadd (q := 37) dX12_word_36 rfl ?_
  refine mm_ck (fun c4 => ?_)
  refine ok_bald (q := 38) dX12_word_37 k_a0 c4 rfl ?_
  refine ok_sipush (q := 41) (v := 255) dX12_word_38 cs_255 rfl ?_
  refine ok_iand (q := 42) dX12_word_41 rfl ?_
  refine ok_bipush (q := 44) (v := 24) dX12_word_42 cb_24 rfl ?_
  refine ok_ishl (q := 45) dX12_word_44 rfl ?_
  refine ok_ior (q := 46) dX12_word_45 rfl ?_
  exact ok_iret (t := .int) dX12_word_46 rfl rfl
