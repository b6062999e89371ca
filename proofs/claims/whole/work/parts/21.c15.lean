def lp_X12_takeSixteen_2 (ke_33 : Nat → mm_H → mm_O) : Nat → Nat → Int32 → mm_H → mm_O
  | 0, _, _, _ => none
  | n + 1, a0, x1, h => if (5 : Int32) ≤ x1 then
  (ke_33 a0 h)
  else
  (mm_gr h a0 52 (fun b1 =>
  if mm_in x1 (mm_ln h b1) = true then (mm_gr h a0 54 (fun b4 =>
  mm_ql (bd_X12_part b4 ((26 : Int32) * x1) h) (fun v8 h6 =>
  if mm_in x1 (mm_ln h6 b1) = true then (mm_bh (mm_sl h6 b1 (mm_n x1) ((mm_l h b1 (mm_n x1)) + v8)) (fun h12 =>
  lp_X12_takeSixteen_2 ke_33 n a0 (x1 + 1) h12)) else none))) else none))
set_option maxHeartbeats 4000000 in
set_option maxRecDepth 100000 in
theorem ol_X12_takeSixteen_2 {G : mm_G} {ke_33 : Nat → mm_H → mm_O} (hke_33 : ∀ (a0 : Nat) (h : mm_H), mm_kd h a0 = 11 → mm_Ok G my_X12_takeSixteen 33 [.ref a0, mm_U, mm_U, mm_U, mm_U, mm_U] [] h (ke_33 a0 h)) : ∀ (n : Nat) (a0 : Nat) (x1 : Int32) (h : mm_H), mm_kd h a0 = 11 → mm_Ok G my_X12_takeSixteen 2 [.ref a0, .int x1, mm_U, mm_U, mm_U, mm_U] [] h (lp_X12_takeSixteen_2 ke_33 n a0 x1 h) := by
  intro n
  induction n with
  | zero => intro a0 x1 h k_a0; exact mm_no
  | succ n ih =>
    intro a0 x1 h k_a0
    rw [lp_X12_takeSixteen_2]
    refine ok_iload_n (q := 3) dX12_takeSixteen_2 rfl rfl ?_
    refine ok_iconst (q := 4) (v := 5) dX12_takeSixteen_3 ci_5 rfl ?_
    refine ok_icmp_ge (q := 7) (t := 33) dX12_takeSixteen_4 rfl rfl ?_ ?_
    · refine mm_wk [true, false, false, false, false, false] (ls' := [.ref a0, mm_U, mm_U, mm_U, mm_U, mm_U]) rfl ?_
      exact hke_33 a0 h k_a0
    · refine ok_aload_n (q := 8) dX12_takeSixteen_7 rfl rfl ?_
      refine ok_getR cl_11 (q := 11) (k := 52) dX12_takeSixteen_8 (Nat.le_of_ble_eq_true rfl) wd_1084 (fun _ _ _ => rfl) kt_11_52 k_a0 rfl (fun b1 k2 => ?_)
      refine ok_iload_n (q := 12) dX12_takeSixteen_11 rfl rfl ?_
      refine ok_dup2 (q := 13) dX12_takeSixteen_12 rfl rfl rfl ?_
      refine mm_ck (fun c3 => ?_)
      refine ok_lald (q := 14) dX12_takeSixteen_13 k2 c3 rfl ?_
      refine ok_aload_n (q := 15) dX12_takeSixteen_14 rfl rfl ?_
      refine ok_getR cl_11 (q := 18) (k := 54) dX12_takeSixteen_15 (Nat.le_of_ble_eq_true rfl) wd_1086 (fun _ _ _ => rfl) kt_11_54 k_a0 rfl (fun b4 k5 => ?_)
      refine ok_bipush (q := 20) (v := 26) dX12_takeSixteen_18 cb_26 rfl ?_
      refine ok_iload_n (q := 21) dX12_takeSixteen_20 rfl rfl ?_
      refine ok_imul (q := 22) dX12_takeSixteen_21 rfl ?_
      refine mm_cl (q := 25) (mt_X12_part G b4 ((26 : Int32) * x1) h k5) (mm_runS (as := [.ref b4, .int ((26 : Int32) * x1)]) (st := [.long (mm_l h b1 (mm_n x1)), .int x1, .ref b1]) lk_X12_takeSixteen_X12_part_352 dX12_takeSixteen_22 rfl (Nat.le_of_ble_eq_true rfl)) rfl (fun v8 h6 p7 => ?_)
      have k9 : mm_kd h6 a0 = 11 := mm_kd_app p7 k_a0 (by decide)
      have k10 : mm_kd h6 b1 = 23 := mm_kd_app p7 k2 (by decide)
      refine ok_ladd (q := 26) dX12_takeSixteen_25 rfl ?_
      refine mm_ck (fun c11 => ?_)
      refine ok_last (q := 27) dX12_takeSixteen_26 k10 c11 rfl (bh_ok (fun h12 e13 => ?_))
      have e13 : h12.1 = h6.1 := e13
      refine ok_iinc (q := 30) (v := x1 + 1) (ls' := [.ref a0, .int (x1 + 1), mm_U, mm_U, mm_U, mm_U]) dX12_takeSixteen_27 rfl (congrArg (x1 + ·) ci_1) (Nat.le_of_ble_eq_true rfl) rfl rfl ?_
      refine ok_goto (q := 2) dX12_takeSixteen_30 rfl ?_
      exact ih a0 (x1 + 1) h12 (mm_ke e13 k9)
def jn_X12_takeSixteen_101 (kb : Nat → Int32 → Int64 → Int32 → mm_H → mm_O) (ke_109 : Nat → Int32 → Int64 → mm_H → mm_O) (a0 : Nat) (x1 : Int32) (x4 : Int32) (s0 : Int64) (s1 : Int64) (h : mm_H) : mm_O := mm_bl (s1 + s0) (fun v22 =>
  kb a0 x1 v22 (x4 + 1) h)
set_option maxHeartbeats 4000000 in
set_option maxRecDepth 100000 in
theorem oj_X12_takeSixteen_101 {G : mm_G} {kb : Nat → Int32 → Int64 → Int32 → mm_H → mm_O} {ke_109 : Nat → Int32 → Int64 → mm_H → mm_O} (hkb : ∀ (a0 : Nat) (x1 : Int32) (x2 : Int64) (x4 : Int32) (h : mm_H), mm_kd h a0 = 11 → mm_Ok G my_X12_takeSixteen 45 [.ref a0, .int x1, .long x2, mm_U, .int x4, mm_U] [] h (kb a0 x1 x2 x4 h)) (hke_109 : ∀ (a0 : Nat) (x1 : Int32) (x2 : Int64) (h : mm_H), mm_kd h a0 = 11 → mm_Ok G my_X12_takeSixteen 109 [.ref a0, .int x1, .long x2, mm_U, mm_U, mm_U] [] h (ke_109 a0 x1 x2 h)) (a0 : Nat) (x1 : Int32) (x4 : Int32) (s0 : Int64) (s1 : Int64) (h : mm_H) (k_a0 : mm_kd h a0 = 11) : mm_Ok G my_X12_takeSixteen 101 [.ref a0, .int x1, mm_U, mm_U, .int x4, mm_U] [.long s0, .long s1] h (jn_X12_takeSixteen_101 kb ke_109 a0 x1 x4 s0 s1 h) := by
  unfold jn_X12_takeSixteen_101
  refine ok_ladd (q := 102) dX12_takeSixteen_101 rfl ?_
  refine bl_ok (fun v22 => ?_)
  refine ok_lstore_n (q := 103) (ls' := [.ref a0, .int x1, .long v22, mm_U, .int x4, mm_U]) dX12_takeSixteen_102 (Nat.le_of_ble_eq_true rfl) rfl rfl ?_
  refine ok_iinc (q := 106) (v := x4 + 1) (ls' := [.ref a0, .int x1, .long v22, mm_U, .int (x4 + 1), mm_U]) dX12_takeSixteen_103 rfl (congrArg (x4 + ·) ci_1) (Nat.le_of_ble_eq_true rfl) rfl rfl ?_
  refine ok_goto (q := 45) dX12_takeSixteen_106 rfl ?_
  exact hkb a0 x1 v22 (x4 + 1) h k_a0
def lp_X12_takeSixteen_45 (ke_109 : Nat → Int32 → Int64 → mm_H → mm_O) : Nat → Nat → Int32 → Int64 → Int32 → mm_H → mm_O
  | 0, _, _, _, _, _ => none
  | n + 1, a0, x1, x2, x4, h => if (5 : Int32) ≤ x4 then
  (ke_109 a0 x1 x2 h)
  else
  (if x1 < x4 then
  (mm_gr h a0 52 (fun b16 =>
  if mm_in x4 (mm_ln h b16) = true then (mm_gr h a0 51 (fun b19 =>
  if mm_in (((5 : Int32) + x1) - x4) (mm_ln h b19) = true then (jn_X12_takeSixteen_101 (lp_X12_takeSixteen_45 ke_109 n) ke_109 a0 x1 x4 (((5 : Int64) * (mm_l h b16 (mm_n x4))) * (mm_l h b19 (mm_n (((5 : Int32) + x1) - x4)))) x2 h) else none)) else none))
  else
  (mm_gr h a0 52 (fun b23 =>
  if mm_in x4 (mm_ln h b23) = true then (mm_gr h a0 51 (fun b26 =>
  if mm_in (x1 - x4) (mm_ln h b26) = true then (jn_X12_takeSixteen_101 (lp_X12_takeSixteen_45 ke_109 n) ke_109 a0 x1 x4 ((mm_l h b23 (mm_n x4)) * (mm_l h b26 (mm_n (x1 - x4)))) x2 h) else none)) else none)))
set_option maxHeartbeats 4000000 in
set_option maxRecDepth 100000 in
theorem ol_X12_takeSixteen_45 {G : mm_G} {ke_109 : Nat → Int32 → Int64 → mm_H → mm_O} (hke_109 : ∀ (a0 : Nat) (x1 : Int32) (x2 : Int64) (h : mm_H), mm_kd h a0 = 11 → mm_Ok G my_X12_takeSixteen 109 [.ref a0, .int x1, .long x2, mm_U, mm_U, mm_U] [] h (ke_109 a0 x1 x2 h)) : ∀ (n : Nat) (a0 : Nat) (x1 : Int32) (x2 : Int64) (x4 : Int32) (h : mm_H), mm_kd h a0 = 11 → mm_Ok G my_X12_takeSixteen 45 [.ref a0, .int x1, .long x2, mm_U, .int x4, mm_U] [] h (lp_X12_takeSixteen_45 ke_109 n a0 x1 x2 x4 h) := by
  intro n
  induction n with
  | zero => intro a0 x1 x2 x4 h k_a0; exact mm_no
  | succ n ih =>
    intro a0 x1 x2 x4 h k_a0
    rw [lp_X12_takeSixteen_45]
    refine ok_iload (q := 47) dX12_takeSixteen_45 rfl rfl ?_
    refine ok_iconst (q := 48) (v := 5) dX12_takeSixteen_47 ci_5 rfl ?_
    refine ok_icmp_ge (q := 51) (t := 109) dX12_takeSixteen_48 rfl rfl ?_ ?_
    · refine mm_wk [true, true, true, false, false, false] (ls' := [.ref a0, .int x1, .long x2, mm_U, mm_U, mm_U]) rfl ?_
      exact hke_109 a0 x1 x2 h k_a0
    · refine ok_lload_n (q := 52) dX12_takeSixteen_51 rfl rfl ?_
      refine ok_iload (q := 54) dX12_takeSixteen_52 rfl rfl ?_
      refine ok_iload_n (q := 55) dX12_takeSixteen_54 rfl rfl ?_
      refine ok_icmp_gt (q := 58) (t := 78) dX12_takeSixteen_55 rfl rfl ?_ ?_
      · refine ok_ldc2 (q := 81) (v := 5) dX12_takeSixteen_78 wd_1393 rfl ?_
        refine ok_aload_n (q := 82) dX12_takeSixteen_81 rfl rfl ?_
        refine ok_getR cl_11 (q := 85) (k := 52) dX12_takeSixteen_82 (Nat.le_of_ble_eq_true rfl) wd_1084 (fun _ _ _ => rfl) kt_11_52 k_a0 rfl (fun b16 k17 => ?_)
        refine ok_iload (q := 87) dX12_takeSixteen_85 rfl rfl ?_
        refine mm_ck (fun c18 => ?_)
        refine ok_lald (q := 88) dX12_takeSixteen_87 k17 c18 rfl ?_
        refine ok_lmul (q := 89) dX12_takeSixteen_88 rfl ?_
        refine ok_aload_n (q := 90) dX12_takeSixteen_89 rfl rfl ?_
        refine ok_getR cl_11 (q := 93) (k := 51) dX12_takeSixteen_90 (Nat.le_of_ble_eq_true rfl) wd_1083 (fun _ _ _ => rfl) kt_11_51 k_a0 rfl (fun b19 k20 => ?_)
        refine ok_iconst (q := 94) (v := 5) dX12_takeSixteen_93 ci_5 rfl ?_
        refine ok_iload_n (q := 95) dX12_takeSixteen_94 rfl rfl ?_
        refine ok_iadd (q := 96) dX12_takeSixteen_95 rfl ?_
        refine ok_iload (q := 98) dX12_takeSixteen_96 rfl rfl ?_
        refine ok_isub (q := 99) dX12_takeSixteen_98 rfl ?_
        refine mm_ck (fun c21 => ?_)
        refine ok_lald (q := 100) dX12_takeSixteen_99 k20 c21 rfl ?_
        refine ok_lmul (q := 101) dX12_takeSixteen_100 rfl ?_
        refine mm_wk [true, true, false, false, true, false] (ls' := [.ref a0, .int x1, mm_U, mm_U, .int x4, mm_U]) rfl ?_
        exact oj_X12_takeSixteen_101 ih hke_109 a0 x1 x4 (((5 : Int64) * (mm_l h b16 (mm_n x4))) * (mm_l h b19 (mm_n (((5 : Int32) + x1) - x4)))) x2 h k_a0
      · refine ok_aload_n (q := 59) dX12_takeSixteen_58 rfl rfl ?_
        refine ok_getR cl_11 (q := 62) (k := 52) dX12_takeSixteen_59 (Nat.le_of_ble_eq_true rfl) wd_1084 (fun _ _ _ => rfl) kt_11_52 k_a0 rfl (fun b23 k24 => ?_)
        refine ok_iload (q := 64) dX12_takeSixteen_62 rfl rfl ?_
        refine mm_ck (fun c25 => ?_)
        refine ok_lald (q := 65) dX12_takeSixteen_64 k24 c25 rfl ?_
        refine ok_aload_n (q := 66) dX12_takeSixteen_65 rfl rfl ?_
        refine ok_getR cl_11 (q := 69) (k := 51) dX12_takeSixteen_66 (Nat.le_of_ble_eq_true rfl) wd_1083 (fun _ _ _ => rfl) kt_11_51 k_a0 rfl (fun b26 k27 => ?_)
        refine ok_iload_n (q := 70) dX12_takeSixteen_69 rfl rfl ?_
        refine ok_iload (q := 72) dX12_takeSixteen_70 rfl rfl ?_
        refine ok_isub (q := 73) dX12_takeSixteen_72 rfl ?_
        refine mm_ck (fun c28 => ?_)
        refine ok_lald (q := 74) dX12_takeSixteen_73 k27 c28 rfl ?_
        refine ok_lmul (q := 75) dX12_takeSixteen_74 rfl ?_
        refine ok_goto (q := 101) dX12_takeSixteen_75 rfl ?_
        refine mm_wk [true, true, false, false, true, false] (ls' := [.ref a0, .int x1, mm_U, mm_U, .int x4, mm_U]) rfl ?_
        exact oj_X12_takeSixteen_101 ih hke_109 a0 x1 x4 ((mm_l h b23 (mm_n x4)) * (mm_l h b26 (mm_n (x1 - x4)))) x2 h k_a0
def lp_X12_takeSixteen_35 (ke_122 : Nat → mm_H → mm_O) : Nat → Nat → Int32 → mm_H → mm_O
  | 0, _, _, _ => none
  | n + 1, a0, x1, h => if (5 : Int32) ≤ x1 then
  (ke_122 a0 h)
  else
  (lp_X12_takeSixteen_45 (fun b30 v31 v32 h29 => mm_gr h29 b30 53 (fun b33 =>
  if mm_in v31 (mm_ln h29 b33) = true then (mm_bh (mm_sl h29 b33 (mm_n v31) v32) (fun h36 =>
  lp_X12_takeSixteen_35 ke_122 n b30 (v31 + 1) h36)) else none)) mm_fu a0 x1 0 0 h)
set_option maxHeartbeats 4000000 in
set_option maxRecDepth 100000 in
theorem ol_X12_takeSixteen_35 {G : mm_G} {ke_122 : Nat → mm_H → mm_O} (hke_122 : ∀ (a0 : Nat) (h : mm_H), mm_kd h a0 = 11 → mm_Ok G my_X12_takeSixteen 122 [.ref a0, mm_U, mm_U, mm_U, mm_U, mm_U] [] h (ke_122 a0 h)) : ∀ (n : Nat) (a0 : Nat) (x1 : Int32) (h : mm_H), mm_kd h a0 = 11 → mm_Ok G my_X12_takeSixteen 35 [.ref a0, .int x1, mm_U, mm_U, mm_U, mm_U] [] h (lp_X12_takeSixteen_35 ke_122 n a0 x1 h) := by
  intro n
  induction n with
  | zero => intro a0 x1 h k_a0; exact mm_no
  | succ n ih =>
    intro a0 x1 h k_a0
    rw [lp_X12_takeSixteen_35]
    refine ok_iload_n (q := 36) dX12_takeSixteen_35 rfl rfl ?_
    refine ok_iconst (q := 37) (v := 5) dX12_takeSixteen_36 ci_5 rfl ?_
    refine ok_icmp_ge (q := 40) (t := 122) dX12_takeSixteen_37 rfl rfl ?_ ?_
    · refine mm_wk [true, false, false, false, false, false] (ls' := [.ref a0, mm_U, mm_U, mm_U, mm_U, mm_U]) rfl ?_
      exact hke_122 a0 h k_a0
    · refine ok_lconst (q := 41) (v := 0) dX12_takeSixteen_40 rfl rfl ?_
      refine ok_lstore_n (q := 42) (ls' := [.ref a0, .int x1, .long 0, mm_U, mm_U, mm_U]) dX12_takeSixteen_41 (Nat.le_of_ble_eq_true rfl) rfl rfl ?_
      refine ok_iconst (q := 43) (v := 0) dX12_takeSixteen_42 ci_0 rfl ?_
      refine ok_istore (q := 45) (ls' := [.ref a0, .int x1, .long 0, mm_U, .int 0, mm_U]) dX12_takeSixteen_43 (Nat.le_of_ble_eq_true rfl) rfl rfl ?_
      refine ol_X12_takeSixteen_45 (fun b30 v31 v32 h29 k_b30 => ?_) mm_fu a0 x1 0 0 h k_a0
      · refine ok_aload_n (q := 110) dX12_takeSixteen_109 rfl rfl ?_
        refine ok_getR cl_11 (q := 113) (k := 53) dX12_takeSixteen_110 (Nat.le_of_ble_eq_true rfl) wd_1085 (fun _ _ _ => rfl) kt_11_53 k_b30 rfl (fun b33 k34 => ?_)
        refine ok_iload_n (q := 114) dX12_takeSixteen_113 rfl rfl ?_
        refine ok_lload_n (q := 115) dX12_takeSixteen_114 rfl rfl ?_
        refine mm_ck (fun c35 => ?_)
        refine ok_last (q := 116) dX12_takeSixteen_115 k34 c35 rfl (bh_ok (fun h36 e37 => ?_))
        have e37 : h36.1 = h29.1 := e37
        refine ok_iinc (q := 119) (v := v31 + 1) (ls' := [.ref b30, .int (v31 + 1), .long v32, mm_U, mm_U, mm_U]) dX12_takeSixteen_116 rfl (congrArg (v31 + ·) ci_1) (Nat.le_of_ble_eq_true rfl) rfl rfl ?_
        refine ok_goto (q := 35) dX12_takeSixteen_119 rfl ?_
        refine mm_wk [true, true, false, false, false, false] (ls' := [.ref b30, .int (v31 + 1), mm_U, mm_U, mm_U, mm_U]) rfl ?_
        exact ih b30 (v31 + 1) h36 (mm_ke e37 k_b30)
def lp_X12_takeSixteen_126 (ke_165 : Nat → Int64 → mm_H → mm_O) : Nat → Nat → Int64 → Int32 → mm_H → mm_O
  | 0, _, _, _, _ => none
  | n + 1, a0, x1, x3, h => if (5 : Int32) ≤ x3 then
  (ke_165 a0 x1 h)
  else
  (mm_gr h a0 53 (fun b40 =>
  if mm_in x3 (mm_ln h b40) = true then (mm_bl ((mm_l h b40 (mm_n x3)) + x1) (fun v43 =>
  mm_gr h a0 52 (fun b44 =>
  if mm_in x3 (mm_ln h b44) = true then (mm_bh (mm_sl h b44 (mm_n x3) (v43 &&& (67108863 : Int64))) (fun h47 =>
  mm_bl (mm_lshr v43 (26 : Int32)) (fun v49 =>
  lp_X12_takeSixteen_126 ke_165 n a0 v49 (x3 + 1) h47))) else none))) else none))
set_option maxHeartbeats 4000000 in
set_option maxRecDepth 100000 in
theorem ol_X12_takeSixteen_126 {G : mm_G} {ke_165 : Nat → Int64 → mm_H → mm_O} (hke_165 : ∀ (a0 : Nat) (x1 : Int64) (h : mm_H), mm_kd h a0 = 11 → mm_Ok G my_X12_takeSixteen 165 [.ref a0, .long x1, mm_U, mm_U, mm_U, mm_U] [] h (ke_165 a0 x1 h)) : ∀ (n : Nat) (a0 : Nat) (x1 : Int64) (x3 : Int32) (h : mm_H), mm_kd h a0 = 11 → mm_Ok G my_X12_takeSixteen 126 [.ref a0, .long x1, mm_U, .int x3, mm_U, mm_U] [] h (lp_X12_takeSixteen_126 ke_165 n a0 x1 x3 h) := by
  intro n
  induction n with
  | zero => intro a0 x1 x3 h k_a0; exact mm_no
  | succ n ih =>
    intro a0 x1 x3 h k_a0
    rw [lp_X12_takeSixteen_126]
    refine ok_iload_n (q := 127) dX12_takeSixteen_126 rfl rfl ?_
    refine ok_iconst (q := 128) (v := 5) dX12_takeSixteen_127 ci_5 rfl ?_
    refine ok_icmp_ge (q := 131) (t := 165) dX12_takeSixteen_128 rfl rfl ?_ ?_
    · refine mm_wk [true, true, false, false, false, false] (ls' := [.ref a0, .long x1, mm_U, mm_U, mm_U, mm_U]) rfl ?_
      exact hke_165 a0 x1 h k_a0
    · refine ok_aload_n (q := 132) dX12_takeSixteen_131 rfl rfl ?_
      refine ok_getR cl_11 (q := 135) (k := 53) dX12_takeSixteen_132 (Nat.le_of_ble_eq_true rfl) wd_1085 (fun _ _ _ => rfl) kt_11_53 k_a0 rfl (fun b40 k41 => ?_)
      refine ok_iload_n (q := 136) dX12_takeSixteen_135 rfl rfl ?_
      refine mm_ck (fun c42 => ?_)
      refine ok_lald (q := 137) dX12_takeSixteen_136 k41 c42 rfl ?_
      refine ok_lload_n (q := 138) dX12_takeSixteen_137 rfl rfl ?_
      refine ok_ladd (q := 139) dX12_takeSixteen_138 rfl ?_
      refine bl_ok (fun v43 => ?_)
      refine ok_lstore (q := 141) (ls' := [.ref a0, .long x1, mm_U, .int x3, .long v43, mm_U]) dX12_takeSixteen_139 (Nat.le_of_ble_eq_true rfl) rfl rfl ?_
      refine ok_aload_n (q := 142) dX12_takeSixteen_141 rfl rfl ?_
      refine ok_getR cl_11 (q := 145) (k := 52) dX12_takeSixteen_142 (Nat.le_of_ble_eq_true rfl) wd_1084 (fun _ _ _ => rfl) kt_11_52 k_a0 rfl (fun b44 k45 => ?_)
      refine ok_iload_n (q := 146) dX12_takeSixteen_145 rfl rfl ?_
      refine ok_lload (q := 148) dX12_takeSixteen_146 rfl rfl ?_
      refine ok_ldc2 (q := 151) (v := 67108863) dX12_takeSixteen_148 wd_1394 rfl ?_
      refine ok_land (q := 152) dX12_takeSixteen_151 rfl ?_
      refine mm_ck (fun c46 => ?_)
      refine ok_last (q := 153) dX12_takeSixteen_152 k45 c46 rfl (bh_ok (fun h47 e48 => ?_))
      have e48 : h47.1 = h.1 := e48
      refine ok_lload (q := 155) dX12_takeSixteen_153 rfl rfl ?_
      refine ok_bipush (q := 157) (v := 26) dX12_takeSixteen_155 cb_26 rfl ?_
      refine ok_lshr (q := 158) dX12_takeSixteen_157 rfl ?_
      refine bl_ok (fun v49 => ?_)
      refine ok_lstore_n (q := 159) (ls' := [.ref a0, .long v49, mm_U, .int x3, .long v43, mm_U]) dX12_takeSixteen_158 (Nat.le_of_ble_eq_true rfl) rfl rfl ?_
      refine ok_iinc (q := 162) (v := x3 + 1) (ls' := [.ref a0, .long v49, mm_U, .int (x3 + 1), .long v43, mm_U]) dX12_takeSixteen_159 rfl (congrArg (x3 + ·) ci_1) (Nat.le_of_ble_eq_true rfl) rfl rfl ?_
      refine ok_goto (q := 126) dX12_takeSixteen_162 rfl ?_
      refine mm_wk [true, true, false, true, false, false] (ls' := [.ref a0, .long v49, mm_U, .int (x3 + 1), mm_U, mm_U]) rfl ?_
      exact ih a0 v49 (x3 + 1) h47 (mm_ke e48 k_a0)
def bd_X12_takeSixteen (a0 : Nat) (h : mm_H) : mm_O := lp_X12_takeSixteen_2 (fun b15 h14 => lp_X12_takeSixteen_35 (fun b39 h38 => lp_X12_takeSixteen_126 (fun b51 v52 h50 => mm_gr h50 b51 52 (fun b53 =>
  if mm_in (0 : Int32) (mm_ln h50 b53) = true then (if mm_in (0 : Int32) (mm_ln h50 b53) = true then (mm_bh (mm_sl h50 b53 (mm_n (0 : Int32)) ((mm_l h50 b53 (mm_n (0 : Int32))) + ((5 : Int64) * v52))) (fun h57 =>
  mm_gr h57 b51 52 (fun b59 =>
  if mm_in (1 : Int32) (mm_ln h57 b59) = true then (mm_gr h57 b51 52 (fun b62 =>
  if mm_in (0 : Int32) (mm_ln h57 b62) = true then (if mm_in (1 : Int32) (mm_ln h57 b59) = true then (mm_bh (mm_sl h57 b59 (mm_n (1 : Int32)) ((mm_l h57 b59 (mm_n (1 : Int32))) + (mm_lshr (mm_l h57 b62 (mm_n (0 : Int32))) (26 : Int32)))) (fun h66 =>
  mm_gr h66 b51 52 (fun b68 =>
  if mm_in (0 : Int32) (mm_ln h66 b68) = true then (if mm_in (0 : Int32) (mm_ln h66 b68) = true then (mm_bh (mm_sl h66 b68 (mm_n (0 : Int32)) ((mm_l h66 b68 (mm_n (0 : Int32))) &&& (67108863 : Int64))) (fun h72 =>
  some (none, h72))) else none) else none))) else none) else none)) else none))) else none) else none)) mm_fu b39 0 0 h38) mm_fu b15 0 h14) mm_fu a0 0 h
set_option maxHeartbeats 4000000 in
set_option maxRecDepth 100000 in
theorem mt_X12_takeSixteen (G : mm_G) (a0 : Nat) (h : mm_H) (k_a0 : mm_kd h a0 = 11) : mm_Met G my_X12_takeSixteen [.ref a0] h (bd_X12_takeSixteen a0 h) := by
  refine mm_met (ls := [.ref a0, mm_U, mm_U, mm_U, mm_U, mm_U]) pn_RX12 (Nat.le_of_ble_eq_true rfl) rfl ?_
  unfold bd_X12_takeSixteen
  refine ok_iconst (q := 1) (v := 0) dX12_takeSixteen_0 ci_0 rfl ?_
  refine ok_istore_n (q := 2) (ls' := [.ref a0, .int 0, mm_U, mm_U, mm_U, mm_U]) dX12_takeSixteen_1 (Nat.le_of_ble_eq_true rfl) rfl rfl ?_
  refine ol_X12_takeSixteen_2 (fun b15 h14 k_b15 => ?_) mm_fu a0 0 h k_a0
  · refine ok_iconst (q := 34) (v := 0) dX12_takeSixteen_33 ci_0 rfl ?_
    refine ok_istore_n (q := 35) (ls' := [.ref b15, .int 0, mm_U, mm_U, mm_U, mm_U]) dX12_takeSixteen_34 (Nat.le_of_ble_eq_true rfl) rfl rfl ?_
    refine ol_X12_takeSixteen_35 (fun b39 h38 k_b39 => ?_) mm_fu b15 0 h14 k_b15
    · refine ok_lconst (q := 123) (v := 0) dX12_takeSixteen_122 rfl rfl ?_
      refine ok_lstore_n (q := 124) (ls' := [.ref b39, .long 0, mm_U, mm_U, mm_U, mm_U]) dX12_takeSixteen_123 (Nat.le_of_ble_eq_true rfl) rfl rfl ?_
      refine ok_iconst (q := 125) (v := 0) dX12_takeSixteen_124 ci_0 rfl ?_
      refine ok_istore_n (q := 126) (ls' := [.ref b39, .long 0, mm_U, .int 0, mm_U, mm_U]) dX12_takeSixteen_125 (Nat.le_of_ble_eq_true rfl) rfl rfl ?_
      refine ol_X12_takeSixteen_126 (fun b51 v52 h50 k_b51 => ?_) mm_fu b39 0 0 h38 k_b39
      · refine ok_aload_n (q := 166) dX12_takeSixteen_165 rfl rfl ?_
        refine ok_getR cl_11 (q := 169) (k := 52) dX12_takeSixteen_166 (Nat.le_of_ble_eq_true rfl) wd_1084 (fun _ _ _ => rfl) kt_11_52 k_b51 rfl (fun b53 k54 => ?_)
        refine ok_iconst (q := 170) (v := 0) dX12_takeSixteen_169 ci_0 rfl ?_
        refine ok_dup2 (q := 171) dX12_takeSixteen_170 rfl rfl rfl ?_
        refine mm_ck (fun c55 => ?_)
        refine ok_lald (q := 172) dX12_takeSixteen_171 k54 c55 rfl ?_
        refine ok_ldc2 (q := 175) (v := 5) dX12_takeSixteen_172 wd_1393 rfl ?_
        refine ok_lload_n (q := 176) dX12_takeSixteen_175 rfl rfl ?_
        refine ok_lmul (q := 177) dX12_takeSixteen_176 rfl ?_
        refine ok_ladd (q := 178) dX12_takeSixteen_177 rfl ?_
        refine mm_ck (fun c56 => ?_)
        refine ok_last (q := 179) dX12_takeSixteen_178 k54 c56 rfl (bh_ok (fun h57 e58 => ?_))
        have e58 : h57.1 = h50.1 := e58
        refine ok_aload_n (q := 180) dX12_takeSixteen_179 rfl rfl ?_
        refine ok_getR cl_11 (q := 183) (k := 52) dX12_takeSixteen_180 (Nat.le_of_ble_eq_true rfl) wd_1084 (fun _ _ _ => rfl) kt_11_52 (mm_ke e58 k_b51) rfl (fun b59 k60 => ?_)
        refine ok_iconst (q := 184) (v := 1) dX12_takeSixteen_183 ci_1 rfl ?_
        refine ok_dup2 (q := 185) dX12_takeSixteen_184 rfl rfl rfl ?_
        refine mm_ck (fun c61 => ?_)
        refine ok_lald (q := 186) dX12_takeSixteen_185 (mm_ke e58 (mm_ke e58.symm k60)) c61 rfl ?_
        refine ok_aload_n (q := 187) dX12_takeSixteen_186 rfl rfl ?_
        refine ok_getR cl_11 (q := 190) (k := 52) dX12_takeSixteen_187 (Nat.le_of_ble_eq_true rfl) wd_1084 (fun _ _ _ => rfl) kt_11_52 (mm_ke e58 k_b51) rfl (fun b62 k63 => ?_)
        refine ok_iconst (q := 191) (v := 0) dX12_takeSixteen_190 ci_0 rfl ?_
        refine mm_ck (fun c64 => ?_)
        refine ok_lald (q := 192) dX12_takeSixteen_191 (mm_ke e58 (mm_ke e58.symm k63)) c64 rfl ?_
        refine ok_bipush (q := 194) (v := 26) dX12_takeSixteen_192 cb_26 rfl ?_
        refine ok_lshr (q := 195) dX12_takeSixteen_194 rfl ?_
        refine ok_ladd (q := 196) dX12_takeSixteen_195 rfl ?_
        refine mm_ck (fun c65 => ?_)
        refine ok_last (q := 197) dX12_takeSixteen_196 (mm_ke e58 (mm_ke e58.symm k60)) c65 rfl (bh_ok (fun h66 e67 => ?_))
        have e67 : h66.1 = h50.1 := e67.trans e58
        refine ok_aload_n (q := 198) dX12_takeSixteen_197 rfl rfl ?_
        refine ok_getR cl_11 (q := 201) (k := 52) dX12_takeSixteen_198 (Nat.le_of_ble_eq_true rfl) wd_1084 (fun _ _ _ => rfl) kt_11_52 (mm_ke e67 k_b51) rfl (fun b68 k69 => ?_)
        refine ok_iconst (q := 202) (v := 0) dX12_takeSixteen_201 ci_0 rfl ?_
        refine ok_dup2 (q := 203) dX12_takeSixteen_202 rfl rfl rfl ?_
        refine mm_ck (fun c70 => ?_)
        refine ok_lald (q := 204) dX12_takeSixteen_203 (mm_ke e67 (mm_ke e67.symm k69)) c70 rfl ?_
        refine ok_ldc2 (q := 207) (v := 67108863) dX12_takeSixteen_204 wd_1394 rfl ?_
        refine ok_land (q := 208) dX12_takeSixteen_207 rfl ?_
        refine mm_ck (fun c71 => ?_)
        refine ok_last (q := 209) dX12_takeSixteen_208 (mm_ke e67 (mm_ke e67.symm k69)) c71 rfl (bh_ok (fun h72 e73 => ?_))
        have e73 : h72.1 = h50.1 := e73.trans e67
        exact ok_ret dX12_takeSixteen_209 rfl
def jn_X12_take_47 (kb : Nat → Nat → Int32 → Int32 → Int32 → Int32 → mm_H → mm_O) (ke_54 : Nat → Nat → Int32 → Int32 → Int32 → mm_H → mm_O) (a0 : Nat) (a1 : Nat) (x2 : Int32) (x3 : Int32) (x4 : Int32) (x5 : Int32) (s0 : Int32) (s1 : Int32) (s2 : Nat) (h : mm_H) : mm_O := if 32 ≤ s2 ∧ mm_in s1 (mm_ln h s2) = true then (mm_bh (mm_si h s2 (mm_n s1) (mm_b8 s0)) (fun h4 =>
  kb a0 a1 x2 x3 x4 (x5 + 1) h4)) else none
set_option maxHeartbeats 4000000 in
set_option maxRecDepth 100000 in
theorem oj_X12_take_47 {G : mm_G} {kb : Nat → Nat → Int32 → Int32 → Int32 → Int32 → mm_H → mm_O} {ke_54 : Nat → Nat → Int32 → Int32 → Int32 → mm_H → mm_O} (hkb : ∀ (a0 : Nat) (a1 : Nat) (x2 : Int32) (x3 : Int32) (x4 : Int32) (x5 : Int32) (h : mm_H), mm_kd h a0 = 11 → mm_kd h a1 = 21 → mm_Ok G my_X12_take 12 [.ref a0, .ref a1, .int x2, .int x3, .int x4, .int x5] [] h (kb a0 a1 x2 x3 x4 x5 h)) (hke_54 : ∀ (a0 : Nat) (a1 : Nat) (x2 : Int32) (x3 : Int32) (x4 : Int32) (h : mm_H), mm_kd h a0 = 11 → mm_kd h a1 = 21 → mm_Ok G my_X12_take 54 [.ref a0, .ref a1, .int x2, .int x3, .int x4, mm_U] [] h (ke_54 a0 a1 x2 x3 x4 h)) (a0 : Nat) (a1 : Nat) (x2 : Int32) (x3 : Int32) (x4 : Int32) (x5 : Int32) (s0 : Int32) (s1 : Int32) (s2 : Nat) (h : mm_H) (k_a0 : mm_kd h a0 = 11) (k_a1 : mm_kd h a1 = 21) (k_s2 : mm_kd h s2 = 21) : mm_Ok G my_X12_take 47 [.ref a0, .ref a1, .int x2, .int x3, .int x4, .int x5] [.int s0, .int s1, .ref s2] h (jn_X12_take_47 kb ke_54 a0 a1 x2 x3 x4 x5 s0 s1 s2 h) := by
  unfold jn_X12_take_47
  refine mm_ck (fun c3 => ?_)
  refine ok_bast (q := 48) dX12_take_47 k_s2 c3.1 c3.2 rfl (bh_ok (fun h4 e5 => ?_))
  have e5 : h4.1 = h.1 := e5
  refine ok_iinc (q := 51) (v := x5 + 1) (ls' := [.ref a0, .ref a1, .int x2, .int x3, .int x4, .int (x5 + 1)]) dX12_take_48 rfl (congrArg (x5 + ·) ci_1) (Nat.le_of_ble_eq_true rfl) rfl rfl ?_
  refine ok_goto (q := 12) dX12_take_51 rfl ?_
  exact hkb a0 a1 x2 x3 x4 (x5 + 1) h4 (mm_ke e5 k_a0) (mm_ke e5 k_a1)
def lp_X12_take_12 (ke_54 : Nat → Nat → Int32 → Int32 → Int32 → mm_H → mm_O) : Nat → Nat → Nat → Int32 → Int32 → Int32 → Int32 → mm_H → mm_O
  | 0, _, _, _, _, _, _, _ => none
  | n + 1, a0, a1, x2, x3, x4, x5, h => if (16 : Int32) ≤ x5 then
  (ke_54 a0 a1 x2 x3 x4 h)
  else
  (mm_gr h a0 54 (fun b1 =>
  if x3 ≤ (x4 + x5) then
  (jn_X12_take_47 (lp_X12_take_12 ke_54 n) ke_54 a0 a1 x2 x3 x4 x5 0 x5 b1 h)
  else
  (if mm_in ((x2 + x4) + x5) (mm_ln h a1) = true then (jn_X12_take_47 (lp_X12_take_12 ke_54 n) ke_54 a0 a1 x2 x3 x4 x5 (mm_i h a1 (mm_n ((x2 + x4) + x5))) x5 b1 h) else none)))
set_option maxHeartbeats 4000000 in
set_option maxRecDepth 100000 in
theorem ol_X12_take_12 {G : mm_G} {ke_54 : Nat → Nat → Int32 → Int32 → Int32 → mm_H → mm_O} (hke_54 : ∀ (a0 : Nat) (a1 : Nat) (x2 : Int32) (x3 : Int32) (x4 : Int32) (h : mm_H), mm_kd h a0 = 11 → mm_kd h a1 = 21 → mm_Ok G my_X12_take 54 [.ref a0, .ref a1, .int x2, .int x3, .int x4, mm_U] [] h (ke_54 a0 a1 x2 x3 x4 h)) : ∀ (n : Nat) (a0 : Nat) (a1 : Nat) (x2 : Int32) (x3 : Int32) (x4 : Int32) (x5 : Int32) (h : mm_H), mm_kd h a0 = 11 → mm_kd h a1 = 21 → mm_Ok G my_X12_take 12 [.ref a0, .ref a1, .int x2, .int x3, .int x4, .int x5] [] h (lp_X12_take_12 ke_54 n a0 a1 x2 x3 x4 x5 h) := by
  intro n
  induction n with
  | zero => intro a0 a1 x2 x3 x4 x5 h k_a0 k_a1; exact mm_no
  | succ n ih =>
    intro a0 a1 x2 x3 x4 x5 h k_a0 k_a1
    rw [lp_X12_take_12]
    refine ok_iload (q := 14) dX12_take_12 rfl rfl ?_
    refine ok_bipush (q := 16) (v := 16) dX12_take_14 cb_16 rfl ?_
    refine ok_icmp_ge (q := 19) (t := 54) dX12_take_16 rfl rfl ?_ ?_
    · refine mm_wk [true, true, true, true, true, false] (ls' := [.ref a0, .ref a1, .int x2, .int x3, .int x4, mm_U]) rfl ?_
      exact hke_54 a0 a1 x2 x3 x4 h k_a0 k_a1
    · refine ok_aload_n (q := 20) dX12_take_19 rfl rfl ?_
      refine ok_getR cl_11 (q := 23) (k := 54) dX12_take_20 (Nat.le_of_ble_eq_true rfl) wd_1086 (fun _ _ _ => rfl) kt_11_54 k_a0 rfl (fun b1 k2 => ?_)
      refine ok_iload (q := 25) dX12_take_23 rfl rfl ?_
      refine ok_iload (q := 27) dX12_take_25 rfl rfl ?_
      refine ok_iload (q := 29) dX12_take_27 rfl rfl ?_
      refine ok_iadd (q := 30) dX12_take_29 rfl ?_
      refine ok_iload_n (q := 31) dX12_take_30 rfl rfl ?_
      refine ok_icmp_ge (q := 34) (t := 46) dX12_take_31 rfl rfl ?_ ?_
      · refine ok_iconst (q := 47) (v := 0) dX12_take_46 ci_0 rfl ?_
        exact oj_X12_take_47 ih hke_54 a0 a1 x2 x3 x4 x5 0 x5 b1 h k_a0 k_a1 k2
      · refine ok_aload_n (q := 35) dX12_take_34 rfl rfl ?_
        refine ok_iload_n (q := 36) dX12_take_35 rfl rfl ?_
        refine ok_iload (q := 38) dX12_take_36 rfl rfl ?_
        refine ok_iadd (q := 39) dX12_take_38 rfl ?_
        refine ok_iload (q := 41) dX12_take_39 rfl rfl ?_
        refine ok_iadd (q := 42) dX12_take_41 rfl ?_
        refine mm_ck (fun c6 => ?_)
        refine ok_bald (q := 43) dX12_take_42 k_a1 c6 rfl ?_
        refine ok_goto (q := 47) dX12_take_43 rfl ?_
        exact oj_X12_take_47 ih hke_54 a0 a1 x2 x3 x4 x5 (mm_i h a1 (mm_n ((x2 + x4) + x5))) x5 b1 h k_a0 k_a1 k2
def lp_X12_take_3  : Nat → Nat → Nat → Int32 → Int32 → Int32 → mm_H → mm_O
  | 0, _, _, _, _, _, _ => none
  | n + 1, a0, a1, x2, x3, x4, h => if x3 ≤ x4 then
  (some (none, h))
  else
  (lp_X12_take_12 (fun b8 b9 v10 v11 v12 h7 => mm_gr h7 b8 54 (fun b13 =>
  if 32 ≤ b13 ∧ mm_in (16 : Int32) (mm_ln h7 b13) = true then (mm_bh (mm_si h7 b13 (mm_n (16 : Int32)) (mm_b8 (1 : Int32))) (fun h16 =>
  mm_qv (bd_X12_takeSixteen b8 h16) (fun h18 =>
  lp_X12_take_3 n b8 b9 v10 v11 (v12 + 16) h18))) else none)) mm_fu a0 a1 x2 x3 x4 0 h)
set_option maxHeartbeats 4000000 in
set_option maxRecDepth 100000 in
theorem ol_X12_take_3 {G : mm_G}   : ∀ (n : Nat) (a0 : Nat) (a1 : Nat) (x2 : Int32) (x3 : Int32) (x4 : Int32) (h : mm_H), mm_kd h a0 = 11 → mm_kd h a1 = 21 → mm_Ok G my_X12_take 3 [.ref a0, .ref a1, .int x2, .int x3, .int x4, mm_U] [] h (lp_X12_take_3 n a0 a1 x2 x3 x4 h) := by
  intro n
  induction n with
  | zero => intro a0 a1 x2 x3 x4 h k_a0 k_a1; exact mm_no
  | succ n ih =>
    intro a0 a1 x2 x3 x4 h k_a0 k_a1
    rw [lp_X12_take_3]
    refine ok_iload (q := 5) dX12_take_3 rfl rfl ?_
    refine ok_iload_n (q := 6) dX12_take_5 rfl rfl ?_
    refine ok_icmp_ge (q := 9) (t := 72) dX12_take_6 rfl rfl ?_ ?_
    · exact ok_ret dX12_take_72 rfl
    · refine ok_iconst (q := 10) (v := 0) dX12_take_9 ci_0 rfl ?_
      refine ok_istore (q := 12) (ls' := [.ref a0, .ref a1, .int x2, .int x3, .int x4, .int 0]) dX12_take_10 (Nat.le_of_ble_eq_true rfl) rfl rfl ?_
      refine ol_X12_take_12 (fun b8 b9 v10 v11 v12 h7 k_b8 k_b9 => ?_) mm_fu a0 a1 x2 x3 x4 0 h k_a0 k_a1
      · refine ok_aload_n (q := 55) dX12_take_54 rfl rfl ?_
        refine ok_getR cl_11 (q := 58) (k := 54) dX12_take_55 (Nat.le_of_ble_eq_true rfl) wd_1086 (fun _ _ _ => rfl) kt_11_54 k_b8 rfl (fun b13 k14 => ?_)
        refine ok_bipush (q := 60) (v := 16) dX12_take_58 cb_16 rfl ?_
        refine ok_iconst (q := 61) (v := 1) dX12_take_60 ci_1 rfl ?_
        refine mm_ck (fun c15 => ?_)
        refine ok_bast (q := 62) dX12_take_61 k14 c15.1 c15.2 rfl (bh_ok (fun h16 e17 => ?_))
        have e17 : h16.1 = h7.1 := e17
        refine ok_aload_n (q := 63) dX12_take_62 rfl rfl ?_
        refine mm_cv (q := 66) (mt_X12_takeSixteen G b8 h16 (mm_ke e17 k_b8)) (mm_runV (as := []) (st := []) cl_11 lk_X12_take_X12_takeSixteen_360 rfl dX12_take_63 rfl (Nat.le_of_ble_eq_true rfl) (mm_ke e17 k_b8)) rfl (fun h18 p19 => ?_)
        have k20 : mm_kd h18 b8 = 11 := mm_kd_app p19 (mm_ke e17 k_b8) (by decide)
        have k21 : mm_kd h18 b9 = 21 := mm_kd_app p19 (mm_ke e17 k_b9) (by decide)
        refine ok_iinc (q := 69) (v := v12 + 16) (ls' := [.ref b8, .ref b9, .int v10, .int v11, .int (v12 + 16), mm_U]) dX12_take_66 rfl (congrArg (v12 + ·) ci_16) (Nat.le_of_ble_eq_true rfl) rfl rfl ?_
        refine ok_goto (q := 3) dX12_take_69 rfl ?_
        exact ih b8 b9 v10 v11 (v12 + 16) h18 k20 k21
def bd_X12_take (a0 : Nat) (a1 : Nat) (x2 : Int32) (x3 : Int32) (h : mm_H) : mm_O := lp_X12_take_3  mm_fu a0 a1 x2 x3 0 h
set_option maxHeartbeats 4000000 in
set_option maxRecDepth 100000 in
theorem mt_X12_take (G : mm_G) (a0 : Nat) (a1 : Nat) (x2 : Int32) (x3 : Int32) (h : mm_H) (k_a0 : mm_kd h a0 = 11) (k_a1 : mm_kd h a1 = 21) : mm_Met G my_X12_take [.ref a0, .ref a1, .int x2, .int x3] h (bd_X12_take a0 a1 x2 x3 h) := by
  refine mm_met (ls := [.ref a0, .ref a1, .int x2, .int x3, mm_U, mm_U]) pn_RX12 (Nat.le_of_ble_eq_true rfl) rfl ?_
  unfold bd_X12_take
  refine ok_iconst (q := 1) (v := 0) dX12_take_0 ci_0 rfl ?_
  refine ok_istore (q := 3) (ls' := [.ref a0, .ref a1, .int x2, .int x3, .int 0, mm_U]) dX12_take_1 (Nat.le_of_ble_eq_true rfl) rfl rfl ?_
  refine ol_X12_take_3  mm_fu a0 a1 x2 x3 0 h k_a0 k_a1
def lp_X12_byteOf_4  : Nat → Nat → Int32 → Int32 → Int32 → mm_H → mm_O
  | 0, _, _, _, _, _ => none
  | n + 1, a0, x1, x2, x3, h => if (8 : Int32) ≤ x3 then
  (some (some (.int x2), h))
  else
  (mm_bi (((8 : Int32) * x1) + x3) (fun v1 =>
  mm_gr h a0 52 (fun b2 =>
  if mm_in (v1 / (26 : Int32)) (mm_ln h b2) = true then (mm_bi (x2 ||| (mm_shl (Int64.toInt32 ((mm_lshr (mm_l h b2 (mm_n (v1 / (26 : Int32)))) (mm_rem v1 (26 : Int32))) &&& (1 : Int64))) x3)) (fun v5 =>
  lp_X12_byteOf_4 n a0 x1 v5 (x3 + 1) h)) else none)))
set_option maxHeartbeats 4000000 in
set_option maxRecDepth 100000 in
theorem ol_X12_byteOf_4 {G : mm_G}   : ∀ (n : Nat) (a0 : Nat) (x1 : Int32) (x2 : Int32) (x3 : Int32) (h : mm_H), mm_kd h a0 = 11 → mm_Ok G my_X12_byteOf 4 [.ref a0, .int x1, .int x2, .int x3, mm_U] [] h (lp_X12_byteOf_4 n a0 x1 x2 x3 h) := by
  intro n
  induction n with
  | zero => intro a0 x1 x2 x3 h k_a0; exact mm_no
  | succ n ih =>
    intro a0 x1 x2 x3 h k_a0
    rw [lp_X12_byteOf_4]
    refine ok_iload_n (q := 5) dX12_byteOf_4 rfl rfl ?_
    refine ok_bipush (q := 7) (v := 8) dX12_byteOf_5 cb_8 rfl ?_
    refine ok_icmp_ge (q := 10) (t := 48) dX12_byteOf_7 rfl rfl ?_ ?_
    · refine ok_iload_n (q := 49) dX12_byteOf_48 rfl rfl ?_
      exact ok_iret (t := .int) dX12_byteOf_49 rfl rfl
    · refine ok_bipush (q := 12) (v := 8) dX12_byteOf_10 cb_8 rfl ?_
      refine ok_iload_n (q := 13) dX12_byteOf_12 rfl rfl ?_
      refine ok_imul (q := 14) dX12_byteOf_13 rfl ?_
      refine ok_iload_n (q := 15) dX12_byteOf_14 rfl rfl ?_
      refine ok_iadd (q := 16) dX12_byteOf_15 rfl ?_
      refine bi_ok (fun v1 => ?_)
      refine ok_istore (q := 18) (ls' := [.ref a0, .int x1, .int x2, .int x3, .int v1]) dX12_byteOf_16 (Nat.le_of_ble_eq_true rfl) rfl rfl ?_
      refine ok_iload_n (q := 19) dX12_byteOf_18 rfl rfl ?_
      refine ok_aload_n (q := 20) dX12_byteOf_19 rfl rfl ?_
      refine ok_getR cl_11 (q := 23) (k := 52) dX12_byteOf_20 (Nat.le_of_ble_eq_true rfl) wd_1084 (fun _ _ _ => rfl) kt_11_52 k_a0 rfl (fun b2 k3 => ?_)
      refine ok_iload (q := 25) dX12_byteOf_23 rfl rfl ?_
      refine ok_bipush (q := 27) (v := 26) dX12_byteOf_25 cb_26 rfl ?_
      refine ok_idiv (q := 28) dX12_byteOf_27 (by decide) rfl ?_
      refine mm_ck (fun c4 => ?_)
      refine ok_lald (q := 29) dX12_byteOf_28 k3 c4 rfl ?_
      refine ok_iload (q := 31) dX12_byteOf_29 rfl rfl ?_
      refine ok_bipush (q := 33) (v := 26) dX12_byteOf_31 cb_26 rfl ?_
      refine ok_irem (q := 34) dX12_byteOf_33 (by decide) rfl ?_
      refine ok_lshr (q := 35) dX12_byteOf_34 rfl ?_
      refine ok_lconst (q := 36) (v := 1) dX12_byteOf_35 rfl rfl ?_
      refine ok_land (q := 37) dX12_byteOf_36 rfl ?_
      refine ok_l2i (q := 38) dX12_byteOf_37 rfl ?_
      refine ok_iload_n (q := 39) dX12_byteOf_38 rfl rfl ?_
      refine ok_ishl (q := 40) dX12_byteOf_39 rfl ?_
      refine ok_ior (q := 41) dX12_byteOf_40 rfl ?_
      refine bi_ok (fun v5 => ?_)
      refine ok_istore_n (q := 42) (ls' := [.ref a0, .int x1, .int v5, .int x3, .int v1]) dX12_byteOf_41 (Nat.le_of_ble_eq_true rfl) rfl rfl ?_
      refine ok_iinc (q := 45) (v := x3 + 1) (ls' := [.ref a0, .int x1, .int v5, .int (x3 + 1), .int v1]) dX12_byteOf_42 rfl (congrArg (x3 + ·) ci_1) (Nat.le_of_ble_eq_true rfl) rfl rfl ?_
      refine ok_goto (q := 4) dX12_byteOf_45 rfl ?_
      refine mm_wk [true, true, true, true, false] (ls' := [.ref a0, .int x1, .int v5, .int (x3 + 1), mm_U]) rfl ?_
      exact ih a0 x1 v5 (x3 + 1) h k_a0
def bd_X12_byteOf (a0 : Nat) (x1 : Int32) (h : mm_H) : mm_O := lp_X12_byteOf_4  mm_fu a0 x1 0 0 h
set_option maxHeartbeats 4000000 in
set_option maxRecDepth 100000 in
theorem mt_X12_byteOf (G : mm_G) (a0 : Nat) (x1 : Int32) (h : mm_H) (k_a0 : mm_kd h a0 = 11) : mm_Met G my_X12_byteOf [.ref a0, .int x1] h (bd_X12_byteOf a0 x1 h) := by
  refine mm_met (ls := [.ref a0, .int x1, mm_U, mm_U, mm_U]) pn_RX12 (Nat.le_of_ble_eq_true rfl) rfl ?_
  unfold bd_X12_byteOf
  refine ok_iconst (q := 1) (v := 0) dX12_byteOf_0 ci_0 rfl ?_
  refine ok_istore_n (q := 2) (ls' := [.ref a0, .int x1, .int 0, mm_U, mm_U]) dX12_byteOf_1 (Nat.le_of_ble_eq_true rfl) rfl rfl ?_
  refine ok_iconst (q := 3) (v := 0) dX12_byteOf_2 ci_0 rfl ?_
  refine ok_istore_n (q := 4) (ls' := [.ref a0, .int x1, .int 0, .int 0, mm_U]) dX12_byteOf_3 (Nat.le_of_ble_eq_true rfl) rfl rfl ?_
  refine ol_X12_byteOf_4  mm_fu a0 x1 0 0 h k_a0
def lp_X12_settle_12 (ke_59 : Nat → Int32 → Int64 → mm_H → mm_O) : Nat → Nat → Int32 → Int64 → Int32 → mm_H → mm_O
  | 0, _, _, _, _, _ => none
  | n + 1, a0, x1, x2, x4, h => if (5 : Int32) ≤ x4 then
  (ke_59 a0 x1 x2 h)
  else
  (mm_gr h a0 52 (fun b1 =>
  if mm_in x4 (mm_ln h b1) = true then (if mm_in x4 (mm_ln h b1) = true then (mm_bh (mm_sl h b1 (mm_n x4) ((mm_l h b1 (mm_n x4)) + x2)) (fun h5 =>
  mm_gr h5 a0 52 (fun b7 =>
  if mm_in x4 (mm_ln h5 b7) = true then (mm_bl (mm_lshr (mm_l h5 b7 (mm_n x4)) (26 : Int32)) (fun v10 =>
  mm_gr h5 a0 52 (fun b11 =>
  if mm_in x4 (mm_ln h5 b11) = true then (if mm_in x4 (mm_ln h5 b11) = true then (mm_bh (mm_sl h5 b11 (mm_n x4) ((mm_l h5 b11 (mm_n x4)) &&& (67108863 : Int64))) (fun h15 =>
  lp_X12_settle_12 ke_59 n a0 x1 v10 (x4 + 1) h15)) else none) else none))) else none))) else none) else none))
set_option maxHeartbeats 4000000 in
set_option maxRecDepth 100000 in
theorem ol_X12_settle_12 {G : mm_G} {ke_59 : Nat → Int32 → Int64 → mm_H → mm_O} (hke_59 : ∀ (a0 : Nat) (x1 : Int32) (x2 : Int64) (h : mm_H), mm_kd h a0 = 11 → mm_Ok G my_X12_settle 59 [.ref a0, .int x1, .long x2, mm_U, mm_U] [] h (ke_59 a0 x1 x2 h)) : ∀ (n : Nat) (a0 : Nat) (x1 : Int32) (x2 : Int64) (x4 : Int32) (h : mm_H), mm_kd h a0 = 11 → mm_Ok G my_X12_settle 12 [.ref a0, .int x1, .long x2, mm_U, .int x4] [] h (lp_X12_settle_12 ke_59 n a0 x1 x2 x4 h) := by
  intro n
  induction n with
  | zero => intro a0 x1 x2 x4 h k_a0; exact mm_no
  | succ n ih =>
    intro a0 x1 x2 x4 h k_a0
    rw [lp_X12_settle_12]
    refine ok_iload (q := 14) dX12_settle_12 rfl rfl ?_
    refine ok_iconst (q := 15) (v := 5) dX12_settle_14 ci_5 rfl ?_
    refine ok_icmp_ge (q := 18) (t := 59) dX12_settle_15 rfl rfl ?_ ?_
    · refine mm_wk [true, true, true, false, false] (ls' := [.ref a0, .int x1, .long x2, mm_U, mm_U]) rfl ?_
      exact hke_59 a0 x1 x2 h k_a0
    · refine ok_aload_n (q := 19) dX12_settle_18 rfl rfl ?_
      refine ok_getR cl_11 (q := 22) (k := 52) dX12_settle_19 (Nat.le_of_ble_eq_true rfl) wd_1084 (fun _ _ _ => rfl) kt_11_52 k_a0 rfl (fun b1 k2 => ?_)
      refine ok_iload (q := 24) dX12_settle_22 rfl rfl ?_
      refine ok_dup2 (q := 25) dX12_settle_24 rfl rfl rfl ?_
      refine mm_ck (fun c3 => ?_)
      refine ok_lald (q := 26) dX12_settle_25 k2 c3 rfl ?_
      refine ok_lload_n (q := 27) dX12_settle_26 rfl rfl ?_
      refine ok_ladd (q := 28) dX12_settle_27 rfl ?_
      refine mm_ck (fun c4 => ?_)
      refine ok_last (q := 29) dX12_settle_28 k2 c4 rfl (bh_ok (fun h5 e6 => ?_))
      have e6 : h5.1 = h.1 := e6
      refine ok_aload_n (q := 30) dX12_settle_29 rfl rfl ?_
      refine ok_getR cl_11 (q := 33) (k := 52) dX12_settle_30 (Nat.le_of_ble_eq_true rfl) wd_1084 (fun _ _ _ => rfl) kt_11_52 (mm_ke e6 k_a0) rfl (fun b7 k8 => ?_)
      refine ok_iload (q := 35) dX12_settle_33 rfl rfl ?_
      refine mm_ck (fun c9 => ?_)
      refine ok_lald (q := 36) dX12_settle_35 (mm_ke e6 (mm_ke e6.symm k8)) c9 rfl ?_
      refine ok_bipush (q := 38) (v := 26) dX12_settle_36 cb_26 rfl ?_
      refine ok_lshr (q := 39) dX12_settle_38 rfl ?_
      refine bl_ok (fun v10 => ?_)
      refine ok_lstore_n (q := 40) (ls' := [.ref a0, .int x1, .long v10, mm_U, .int x4]) dX12_settle_39 (Nat.le_of_ble_eq_true rfl) rfl rfl ?_
      refine ok_aload_n (q := 41) dX12_settle_40 rfl rfl ?_
      refine ok_getR cl_11 (q := 44) (k := 52) dX12_settle_41 (Nat.le_of_ble_eq_true rfl) wd_1084 (fun _ _ _ => rfl) kt_11_52 (mm_ke e6 k_a0) rfl (fun b11 k12 => ?_)
      refine ok_iload (q := 46) dX12_settle_44 rfl rfl ?_
      refine ok_dup2 (q := 47) dX12_settle_46 rfl rfl rfl ?_
      refine mm_ck (fun c13 => ?_)
      refine ok_lald (q := 48) dX12_settle_47 (mm_ke e6 (mm_ke e6.symm k12)) c13 rfl ?_
      refine ok_ldc2 (q := 51) (v := 67108863) dX12_settle_48 wd_1394 rfl ?_
      refine ok_land (q := 52) dX12_settle_51 rfl ?_
      refine mm_ck (fun c14 => ?_)
      refine ok_last (q := 53) dX12_settle_52 (mm_ke e6 (mm_ke e6.symm k12)) c14 rfl (bh_ok (fun h15 e16 => ?_))
      have e16 : h15.1 = h.1 := e16.trans e6
      refine ok_iinc (q := 56) (v := x4 + 1) (ls' := [.ref a0, .int x1, .long v10, mm_U, .int (x4 + 1)]) dX12_settle_53 rfl (congrArg (x4 + ·) ci_1) (Nat.le_of_ble_eq_true rfl) rfl rfl ?_
      refine ok_goto (q := 12) dX12_settle_56 rfl ?_
      exact ih a0 x1 v10 (x4 + 1) h15 (mm_ke e16 k_a0)
def lp_X12_settle_2 (ke_79 : Nat → mm_H → mm_O) : Nat → Nat → Int32 → mm_H → mm_O
  | 0, _, _, _ => none
  | n + 1, a0, x1, h => if (2 : Int32) ≤ x1 then
  (ke_79 a0 h)
  else
  (lp_X12_settle_12 (fun b18 v19 v20 h17 => mm_gr h17 b18 52 (fun b21 =>
  if mm_in (0 : Int32) (mm_ln h17 b21) = true then (if mm_in (0 : Int32) (mm_ln h17 b21) = true then (mm_bh (mm_sl h17 b21 (mm_n (0 : Int32)) ((mm_l h17 b21 (mm_n (0 : Int32))) + ((5 : Int64) * v20))) (fun h25 =>
  lp_X12_settle_2 ke_79 n b18 (v19 + 1) h25)) else none) else none)) mm_fu a0 x1 0 0 h)
set_option maxHeartbeats 4000000 in
set_option maxRecDepth 100000 in
theorem ol_X12_settle_2 {G : mm_G} {ke_79 : Nat → mm_H → mm_O} (hke_79 : ∀ (a0 : Nat) (h : mm_H), mm_kd h a0 = 11 → mm_Ok G my_X12_settle 79 [.ref a0, mm_U, mm_U, mm_U, mm_U] [] h (ke_79 a0 h)) : ∀ (n : Nat) (a0 : Nat) (x1 : Int32) (h : mm_H), mm_kd h a0 = 11 → mm_Ok G my_X12_settle 2 [.ref a0, .int x1, mm_U, mm_U, mm_U] [] h (lp_X12_settle_2 ke_79 n a0 x1 h) := by
  intro n
  induction n with
  | zero => intro a0 x1 h k_a0; exact mm_no
  | succ n ih =>
    intro a0 x1 h k_a0
    rw [lp_X12_settle_2]
    refine ok_iload_n (q := 3) dX12_settle_2 rfl rfl ?_
    refine ok_iconst (q := 4) (v := 2) dX12_settle_3 ci_2 rfl ?_
    refine ok_icmp_ge (q := 7) (t := 79) dX12_settle_4 rfl rfl ?_ ?_
    · refine mm_wk [true, false, false, false, false] (ls' := [.ref a0, mm_U, mm_U, mm_U, mm_U]) rfl ?_
      exact hke_79 a0 h k_a0
    · refine ok_lconst (q := 8) (v := 0) dX12_settle_7 rfl rfl ?_
      refine ok_lstore_n (q := 9) (ls' := [.ref a0, .int x1, .long 0, mm_U, mm_U]) dX12_settle_8 (Nat.le_of_ble_eq_true rfl) rfl rfl ?_
      refine ok_iconst (q := 10) (v := 0) dX12_settle_9 ci_0 rfl ?_
      refine ok_istore (q := 12) (ls' := [.ref a0, .int x1, .long 0, mm_U, .int 0]) dX12_settle_10 (Nat.le_of_ble_eq_true rfl) rfl rfl ?_
      refine ol_X12_settle_12 (fun b18 v19 v20 h17 k_b18 => ?_) mm_fu a0 x1 0 0 h k_a0
      · refine ok_aload_n (q := 60) dX12_settle_59 rfl rfl ?_
        refine ok_getR cl_11 (q := 63) (k := 52) dX12_settle_60 (Nat.le_of_ble_eq_true rfl) wd_1084 (fun _ _ _ => rfl) kt_11_52 k_b18 rfl (fun b21 k22 => ?_)
        refine ok_iconst (q := 64) (v := 0) dX12_settle_63 ci_0 rfl ?_
        refine ok_dup2 (q := 65) dX12_settle_64 rfl rfl rfl ?_
        refine mm_ck (fun c23 => ?_)
        refine ok_lald (q := 66) dX12_settle_65 k22 c23 rfl ?_
        refine ok_ldc2 (q := 69) (v := 5) dX12_settle_66 wd_1393 rfl ?_
        refine ok_lload_n (q := 70) dX12_settle_69 rfl rfl ?_
        refine ok_lmul (q := 71) dX12_settle_70 rfl ?_
        refine ok_ladd (q := 72) dX12_settle_71 rfl ?_
        refine mm_ck (fun c24 => ?_)
        refine ok_last (q := 73) dX12_settle_72 k22 c24 rfl (bh_ok (fun h25 e26 => ?_))
        have e26 : h25.1 = h17.1 := e26
        refine ok_iinc (q := 76) (v := v19 + 1) (ls' := [.ref b18, .int (v19 + 1), .long v20, mm_U, mm_U]) dX12_settle_73 rfl (congrArg (v19 + ·) ci_1) (Nat.le_of_ble_eq_true rfl) rfl rfl ?_
        refine ok_goto (q := 2) dX12_settle_76 rfl ?_
        refine mm_wk [true, true, false, false, false] (ls' := [.ref b18, .int (v19 + 1), mm_U, mm_U, mm_U]) rfl ?_
        exact ih b18 (v19 + 1) h25 (mm_ke e26 k_b18)
def lp_X12_settle_85 (ke_132 : Nat → Int64 → mm_H → mm_O) : Nat → Nat → Int64 → Int32 → mm_H → mm_O
  | 0, _, _, _, _ => none
  | n + 1, a0, x1, x3, h => if (5 : Int32) ≤ x3 then
  (ke_132 a0 x1 h)
  else
  (mm_gr h a0 53 (fun b29 =>
  mm_gr h a0 52 (fun b31 =>
  if mm_in x3 (mm_ln h b31) = true then (if mm_in x3 (mm_ln h b29) = true then (mm_bh (mm_sl h b29 (mm_n x3) ((mm_l h b31 (mm_n x3)) + x1)) (fun h35 =>
  mm_gr h35 a0 53 (fun b37 =>
  if mm_in x3 (mm_ln h35 b37) = true then (mm_bl (mm_lshr (mm_l h35 b37 (mm_n x3)) (26 : Int32)) (fun v40 =>
  mm_gr h35 a0 53 (fun b41 =>
  if mm_in x3 (mm_ln h35 b41) = true then (if mm_in x3 (mm_ln h35 b41) = true then (mm_bh (mm_sl h35 b41 (mm_n x3) ((mm_l h35 b41 (mm_n x3)) &&& (67108863 : Int64))) (fun h45 =>
  lp_X12_settle_85 ke_132 n a0 v40 (x3 + 1) h45)) else none) else none))) else none))) else none) else none)))
set_option maxHeartbeats 4000000 in
set_option maxRecDepth 100000 in
theorem ol_X12_settle_85 {G : mm_G} {ke_132 : Nat → Int64 → mm_H → mm_O} (hke_132 : ∀ (a0 : Nat) (x1 : Int64) (h : mm_H), mm_kd h a0 = 11 → mm_Ok G my_X12_settle 132 [.ref a0, .long x1, mm_U, mm_U, mm_U] [] h (ke_132 a0 x1 h)) : ∀ (n : Nat) (a0 : Nat) (x1 : Int64) (x3 : Int32) (h : mm_H), mm_kd h a0 = 11 → mm_Ok G my_X12_settle 85 [.ref a0, .long x1, mm_U, .int x3, mm_U] [] h (lp_X12_settle_85 ke_132 n a0 x1 x3 h) := by
  intro n
  induction n with
  | zero => intro a0 x1 x3 h k_a0; exact mm_no
  | succ n ih =>
    intro a0 x1 x3 h k_a0
    rw [lp_X12_settle_85]
    refine ok_iload_n (q := 86) dX12_settle_85 rfl rfl ?_
    refine ok_iconst (q := 87) (v := 5) dX12_settle_86 ci_5 rfl ?_
    refine ok_icmp_ge (q := 90) (t := 132) dX12_settle_87 rfl rfl ?_ ?_
    · refine mm_wk [true, true, false, false, false] (ls' := [.ref a0, .long x1, mm_U, mm_U, mm_U]) rfl ?_
      exact hke_132 a0 x1 h k_a0
    · refine ok_aload_n (q := 91) dX12_settle_90 rfl rfl ?_
      refine ok_getR cl_11 (q := 94) (k := 53) dX12_settle_91 (Nat.le_of_ble_eq_true rfl) wd_1085 (fun _ _ _ => rfl) kt_11_53 k_a0 rfl (fun b29 k30 => ?_)
      refine ok_iload_n (q := 95) dX12_settle_94 rfl rfl ?_
      refine ok_aload_n (q := 96) dX12_settle_95 rfl rfl ?_
      refine ok_getR cl_11 (q := 99) (k := 52) dX12_settle_96 (Nat.le_of_ble_eq_true rfl) wd_1084 (fun _ _ _ => rfl) kt_11_52 k_a0 rfl (fun b31 k32 => ?_)
      refine ok_iload_n (q := 100) dX12_settle_99 rfl rfl ?_
      refine mm_ck (fun c33 => ?_)
      refine ok_lald (q := 101) dX12_settle_100 k32 c33 rfl ?_
      refine ok_lload_n (q := 102) dX12_settle_101 rfl rfl ?_
      refine ok_ladd (q := 103) dX12_settle_102 rfl ?_
      refine mm_ck (fun c34 => ?_)
      refine ok_last (q := 104) dX12_settle_103 k30 c34 rfl (bh_ok (fun h35 e36 => ?_))
      have e36 : h35.1 = h.1 := e36
      refine ok_aload_n (q := 105) dX12_settle_104 rfl rfl ?_
      refine ok_getR cl_11 (q := 108) (k := 53) dX12_settle_105 (Nat.le_of_ble_eq_true rfl) wd_1085 (fun _ _ _ => rfl) kt_11_53 (mm_ke e36 k_a0) rfl (fun b37 k38 => ?_)
      refine ok_iload_n (q := 109) dX12_settle_108 rfl rfl ?_
      refine mm_ck (fun c39 => ?_)
      refine ok_lald (q := 110) dX12_settle_109 (mm_ke e36 (mm_ke e36.symm k38)) c39 rfl ?_
      refine ok_bipush (q := 112) (v := 26) dX12_settle_110 cb_26 rfl ?_
      refine ok_lshr (q := 113) dX12_settle_112 rfl ?_
      refine bl_ok (fun v40 => ?_)
      refine ok_lstore_n (q := 114) (ls' := [.ref a0, .long v40, mm_U, .int x3, mm_U]) dX12_settle_113 (Nat.le_of_ble_eq_true rfl) rfl rfl ?_
      refine ok_aload_n (q := 115) dX12_settle_114 rfl rfl ?_
      refine ok_getR cl_11 (q := 118) (k := 53) dX12_settle_115 (Nat.le_of_ble_eq_true rfl) wd_1085 (fun _ _ _ => rfl) kt_11_53 (mm_ke e36 k_a0) rfl (fun b41 k42 => ?_)
      refine ok_iload_n (q := 119) dX12_settle_118 rfl rfl ?_
      refine ok_dup2 (q := 120) dX12_settle_119 rfl rfl rfl ?_
      refine mm_ck (fun c43 => ?_)
      refine ok_lald (q := 121) dX12_settle_120 (mm_ke e36 (mm_ke e36.symm k42)) c43 rfl ?_
      refine ok_ldc2 (q := 124) (v := 67108863) dX12_settle_121 wd_1394 rfl ?_
      refine ok_land (q := 125) dX12_settle_124 rfl ?_
      refine mm_ck (fun c44 => ?_)
      refine ok_last (q := 126) dX12_settle_125 (mm_ke e36 (mm_ke e36.symm k42)) c44 rfl (bh_ok (fun h45 e46 => ?_))
      have e46 : h45.1 = h.1 := e46.trans e36
      refine ok_iinc (q := 129) (v := x3 + 1) (ls' := [.ref a0, .long v40, mm_U, .int (x3 + 1), mm_U]) dX12_settle_126 rfl (congrArg (x3 + ·) ci_1) (Nat.le_of_ble_eq_true rfl) rfl rfl ?_
      refine ok_goto (q := 85) dX12_settle_129 rfl ?_
      exact ih a0 v40 (x3 + 1) h45 (mm_ke e46 k_a0)
def lp_X12_settle_140  : Nat → Nat → Int32 → mm_H → mm_O
  | 0, _, _, _ => none
  | n + 1, a0, x3, h => if (5 : Int32) ≤ x3 then
  (some (none, h))
  else
  (mm_gr h a0 52 (fun b50 =>
  mm_gr h a0 53 (fun b52 =>
  if mm_in x3 (mm_ln h b52) = true then (if mm_in x3 (mm_ln h b50) = true then (mm_bh (mm_sl h b50 (mm_n x3) (mm_l h b52 (mm_n x3))) (fun h56 =>
  lp_X12_settle_140 n a0 (x3 + 1) h56)) else none) else none)))
set_option maxHeartbeats 4000000 in
set_option maxRecDepth 100000 in
theorem ol_X12_settle_140 {G : mm_G}   : ∀ (n : Nat) (a0 : Nat) (x3 : Int32) (h : mm_H), mm_kd h a0 = 11 → mm_Ok G my_X12_settle 140 [.ref a0, mm_U, mm_U, .int x3, mm_U] [] h (lp_X12_settle_140 n a0 x3 h) := by
  intro n
  induction n with
  | zero => intro a0 x3 h k_a0; exact mm_no
  | succ n ih =>
    intro a0 x3 h k_a0
    rw [lp_X12_settle_140]
    refine ok_iload_n (q := 141) dX12_settle_140 rfl rfl ?_
    refine ok_iconst (q := 142) (v := 5) dX12_settle_141 ci_5 rfl ?_
    refine ok_icmp_ge (q := 145) (t := 163) dX12_settle_142 rfl rfl ?_ ?_
    · exact ok_ret dX12_settle_163 rfl
    · refine ok_aload_n (q := 146) dX12_settle_145 rfl rfl ?_
      refine ok_getR cl_11 (q := 149) (k := 52) dX12_settle_146 (Nat.le_of_ble_eq_true rfl) wd_1084 (fun _ _ _ => rfl) kt_11_52 k_a0 rfl (fun b50 k51 => ?_)
      refine ok_iload_n (q := 150) dX12_settle_149 rfl rfl ?_
      refine ok_aload_n (q := 151) dX12_settle_150 rfl rfl ?_
      refine ok_getR cl_11 (q := 154) (k := 53) dX12_settle_151 (Nat.le_of_ble_eq_true rfl) wd_1085 (fun _ _ _ => rfl) kt_11_53 k_a0 rfl (fun b52 k53 => ?_)
      refine ok_iload_n (q := 155) dX12_settle_154 rfl rfl ?_
      refine mm_ck (fun c54 => ?_)
      refine ok_lald (q := 156) dX12_settle_155 k53 c54 rfl ?_
      refine mm_ck (fun c55 => ?_)
      refine ok_last (q := 157) dX12_settle_156 k51 c55 rfl (bh_ok (fun h56 e57 => ?_))
      have e57 : h56.1 = h.1 := e57
      refine ok_iinc (q := 160) (v := x3 + 1) (ls' := [.ref a0, mm_U, mm_U, .int (x3 + 1), mm_U]) dX12_settle_157 rfl (congrArg (x3 + ·) ci_1) (Nat.le_of_ble_eq_true rfl) rfl rfl ?_
      refine ok_goto (q := 140) dX12_settle_160 rfl ?_
      exact ih a0 (x3 + 1) h56 (mm_ke e57 k_a0)
def bd_X12_settle (a0 : Nat) (h : mm_H) : mm_O := lp_X12_settle_2 (fun b28 h27 => lp_X12_settle_85 (fun b48 v49 h47 => if (lg_cmp v49 (0 : Int64)) ≤ 0 then
  (some (none, h47))
  else
  (lp_X12_settle_140  mm_fu b48 0 h47)) mm_fu b28 5 0 h27) mm_fu a0 0 h
set_option maxHeartbeats 4000000 in
set_option maxRecDepth 100000 in
theorem mt_X12_settle (G : mm_G) (a0 : Nat) (h : mm_H) (k_a0 : mm_kd h a0 = 11) : mm_Met G my_X12_settle [.ref a0] h (bd_X12_settle a0 h) := by
  refine mm_met (ls := [.ref a0, mm_U, mm_U, mm_U, mm_U]) pn_RX12 (Nat.le_of_ble_eq_true rfl) rfl ?_
  unfold bd_X12_settle
  refine ok_iconst (q := 1) (v := 0) dX12_settle_0 ci_0 rfl ?_
  refine ok_istore_n (q := 2) (ls' := [.ref a0, .int 0, mm_U, mm_U, mm_U]) dX12_settle_1 (Nat.le_of_ble_eq_true rfl) rfl rfl ?_
  refine ol_X12_settle_2 (fun b28 h27 k_b28 => ?_) mm_fu a0 0 h k_a0
  · refine ok_ldc2 (q := 82) (v := 5) dX12_settle_79 wd_1393 rfl ?_
    refine ok_lstore_n (q := 83) (ls' := [.ref b28, .long 5, mm_U, mm_U, mm_U]) dX12_settle_82 (Nat.le_of_ble_eq_true rfl) rfl rfl ?_
    refine ok_iconst (q := 84) (v := 0) dX12_settle_83 ci_0 rfl ?_
    refine ok_istore_n (q := 85) (ls' := [.ref b28, .long 5, mm_U, .int 0, mm_U]) dX12_settle_84 (Nat.le_of_ble_eq_true rfl) rfl rfl ?_
    refine ol_X12_settle_85 (fun b48 v49 h47 k_b48 => ?_) mm_fu b28 5 0 h27 k_b28
    · refine ok_lload_n (q := 133) dX12_settle_132 rfl rfl ?_
      refine ok_lconst (q := 134) (v := 0) dX12_settle_133 rfl rfl ?_
      refine ok_lcmp (q := 135) dX12_settle_134 rfl ?_
      refine ok_if_le (q := 138) (t := 163) dX12_settle_135 rfl rfl ?_ ?_
      · exact ok_ret dX12_settle_163 rfl
      · refine ok_iconst (q := 139) (v := 0) dX12_settle_138 ci_0 rfl ?_
        refine ok_istore_n (q := 140) (ls' := [.ref b48, .long v49, mm_U, .int 0, mm_U]) dX12_settle_139 (Nat.le_of_ble_eq_true rfl) rfl rfl ?_
        refine mm_wk [true, false, false, true, false] (ls' := [.ref b48, mm_U, mm_U, .int 0, mm_U]) rfl ?_
        refine ol_X12_settle_140  mm_fu b48 0 h47 k_b48
