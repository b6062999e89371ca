def jn_X5_addBytes_89 (kb : Nat → Int32 → Nat → Int32 → mm_H → mm_O) (a0 : Nat) (x1 : Int32) (a2 : Nat) (x3 : Int32) (h : mm_H) : mm_O := kb a0 x1 a2 (x3 + 1) h
set_option maxHeartbeats 4000000 in
set_option maxRecDepth 100000 in
theorem oj_X5_addBytes_89 {G : mm_G} {kb : Nat → Int32 → Nat → Int32 → mm_H → mm_O} (hkb : ∀ (a0 : Nat) (x1 : Int32) (a2 : Nat) (x3 : Int32) (h : mm_H), mm_kd h a0 = 5 → mm_kd h a2 = 23 → mm_Ok G my_X5_addBytes 2 [.ref a0, .int x1, .ref a2, .int x3, mm_U, mm_U, mm_U] [] h (kb a0 x1 a2 x3 h)) (a0 : Nat) (x1 : Int32) (a2 : Nat) (x3 : Int32) (h : mm_H) (k_a0 : mm_kd h a0 = 5) (k_a2 : mm_kd h a2 = 23) : mm_Ok G my_X5_addBytes 89 [.ref a0, .int x1, .ref a2, .int x3, mm_U, mm_U, mm_U] [] h (jn_X5_addBytes_89 kb a0 x1 a2 x3 h) := by
  unfold jn_X5_addBytes_89
  refine ok_iinc (q := 92) (v := x3 + 1) (ls' := [.ref a0, .int x1, .ref a2, .int (x3 + 1), mm_U, mm_U, mm_U]) dX5_addBytes_89 rfl (congrArg (x3 + ·) ci_1) (Nat.le_of_ble_eq_true rfl) rfl rfl ?_
  refine ok_goto (q := 2) dX5_addBytes_92 rfl ?_
  exact hkb a0 x1 a2 (x3 + 1) h k_a0 k_a2
def jn_X5_addBytes_66 (kb : Nat → Int32 → Nat → Int32 → mm_H → mm_O) (a0 : Nat) (x1 : Int32) (a2 : Nat) (x3 : Int32) (x4 : Int32) (x5 : Int64) (h : mm_H) : mm_O := if (nI (mm_ln h a2)) ≤ (x4 + (1 : Int32)) then
  (jn_X5_addBytes_89 (kb) a0 x1 a2 x3 h)
  else
  (if mm_in (x4 + (1 : Int32)) (mm_ln h a2) = true then (if mm_in (x4 + (1 : Int32)) (mm_ln h a2) = true then (mm_bh (mm_sl h a2 (mm_n (x4 + (1 : Int32))) ((mm_l h a2 (mm_n (x4 + (1 : Int32)))) + (mm_lush x5 (26 : Int32)))) (fun h8 =>
  jn_X5_addBytes_89 (kb) a0 x1 a2 x3 h8)) else none) else none)
set_option maxHeartbeats 4000000 in
set_option maxRecDepth 100000 in
theorem oj_X5_addBytes_66 {G : mm_G} {kb : Nat → Int32 → Nat → Int32 → mm_H → mm_O} (hkb : ∀ (a0 : Nat) (x1 : Int32) (a2 : Nat) (x3 : Int32) (h : mm_H), mm_kd h a0 = 5 → mm_kd h a2 = 23 → mm_Ok G my_X5_addBytes 2 [.ref a0, .int x1, .ref a2, .int x3, mm_U, mm_U, mm_U] [] h (kb a0 x1 a2 x3 h)) (a0 : Nat) (x1 : Int32) (a2 : Nat) (x3 : Int32) (x4 : Int32) (x5 : Int64) (h : mm_H) (k_a0 : mm_kd h a0 = 5) (k_a2 : mm_kd h a2 = 23) : mm_Ok G my_X5_addBytes 66 [.ref a0, .int x1, .ref a2, .int x3, .int x4, .long x5, mm_U] [] h (jn_X5_addBytes_66 kb a0 x1 a2 x3 x4 x5 h) := by
  unfold jn_X5_addBytes_66
  refine ok_iload (q := 68) dX5_addBytes_66 rfl rfl ?_
  refine ok_iconst (q := 69) (v := 1) dX5_addBytes_68 ci_1 rfl ?_
  refine ok_iadd (q := 70) dX5_addBytes_69 rfl ?_
  refine ok_aload_n (q := 71) dX5_addBytes_70 rfl rfl ?_
  refine ok_alen (q := 72) dX5_addBytes_71 (by rw [k_a2]; decide) rfl ?_
  refine ok_icmp_ge (q := 75) (t := 89) dX5_addBytes_72 rfl rfl ?_ ?_
  · refine mm_wk [true, true, true, true, false, false, false] (ls' := [.ref a0, .int x1, .ref a2, .int x3, mm_U, mm_U, mm_U]) rfl ?_
    exact oj_X5_addBytes_89 hkb a0 x1 a2 x3 h k_a0 k_a2
  · refine ok_aload_n (q := 76) dX5_addBytes_75 rfl rfl ?_
    refine ok_iload (q := 78) dX5_addBytes_76 rfl rfl ?_
    refine ok_iconst (q := 79) (v := 1) dX5_addBytes_78 ci_1 rfl ?_
    refine ok_iadd (q := 80) dX5_addBytes_79 rfl ?_
    refine ok_dup2 (q := 81) dX5_addBytes_80 rfl rfl rfl ?_
    refine mm_ck (fun c6 => ?_)
    refine ok_lald (q := 82) dX5_addBytes_81 k_a2 c6 rfl ?_
    refine ok_lload (q := 84) dX5_addBytes_82 rfl rfl ?_
    refine ok_bipush (q := 86) (v := 26) dX5_addBytes_84 cb_26 rfl ?_
    refine ok_lushr (q := 87) dX5_addBytes_86 rfl ?_
    refine ok_ladd (q := 88) dX5_addBytes_87 rfl ?_
    refine mm_ck (fun c7 => ?_)
    refine ok_last (q := 89) dX5_addBytes_88 k_a2 c7 rfl (bh_ok (fun h8 e9 => ?_))
    have e9 : h8.1 = h.1 := e9
    refine mm_wk [true, true, true, true, false, false, false] (ls' := [.ref a0, .int x1, .ref a2, .int x3, mm_U, mm_U, mm_U]) rfl ?_
    exact oj_X5_addBytes_89 hkb a0 x1 a2 x3 h8 (mm_ke e9 k_a0) (mm_ke e9 k_a2)
def lp_X5_addBytes_2  : Nat → Nat → Int32 → Nat → Int32 → mm_H → mm_O
  | 0, _, _, _, _, _ => none
  | n + 1, a0, x1, a2, x3, h => if (16 : Int32) ≤ x3 then
  (some (none, h))
  else
  (if (mm_i h a0 1) ≤ (x1 + x3) then
  (some (none, h))
  else
  (mm_bi (((8 : Int32) * x3) / (26 : Int32)) (fun v1 =>
  mm_gr h a0 0 (fun b2 =>
  if mm_in (x1 + x3) (mm_ln h b2) = true then (mm_bl (mm_lshl (Int32.toInt64 (mm_i h b2 (mm_n (x1 + x3)))) (mm_rem ((8 : Int32) * x3) (26 : Int32))) (fun v5 =>
  if (nI (mm_ln h a2)) ≤ v1 then
  (jn_X5_addBytes_66 (lp_X5_addBytes_2 n) a0 x1 a2 x3 v1 v5 h)
  else
  (if mm_in v1 (mm_ln h a2) = true then (if mm_in v1 (mm_ln h a2) = true then (mm_bh (mm_sl h a2 (mm_n v1) ((mm_l h a2 (mm_n v1)) + (v5 &&& (67108863 : Int64)))) (fun h12 =>
  jn_X5_addBytes_66 (lp_X5_addBytes_2 n) a0 x1 a2 x3 v1 v5 h12)) else none) else none))) else none))))
set_option maxHeartbeats 4000000 in
set_option maxRecDepth 100000 in
theorem ol_X5_addBytes_2 {G : mm_G}   : ∀ (n : Nat) (a0 : Nat) (x1 : Int32) (a2 : Nat) (x3 : Int32) (h : mm_H), mm_kd h a0 = 5 → mm_kd h a2 = 23 → mm_Ok G my_X5_addBytes 2 [.ref a0, .int x1, .ref a2, .int x3, mm_U, mm_U, mm_U] [] h (lp_X5_addBytes_2 n a0 x1 a2 x3 h) := by
  intro n
  induction n with
  | zero => intro a0 x1 a2 x3 h k_a0 k_a2; exact mm_no
  | succ n ih =>
    intro a0 x1 a2 x3 h k_a0 k_a2
    rw [lp_X5_addBytes_2]
    refine ok_iload_n (q := 3) dX5_addBytes_2 rfl rfl ?_
    refine ok_bipush (q := 5) (v := 16) dX5_addBytes_3 cb_16 rfl ?_
    refine ok_icmp_ge (q := 8) (t := 95) dX5_addBytes_5 rfl rfl ?_ ?_
    · exact ok_ret dX5_addBytes_95 rfl
    · refine ok_iload_n (q := 9) dX5_addBytes_8 rfl rfl ?_
      refine ok_iload_n (q := 10) dX5_addBytes_9 rfl rfl ?_
      refine ok_iadd (q := 11) dX5_addBytes_10 rfl ?_
      refine ok_aload_n (q := 12) dX5_addBytes_11 rfl rfl ?_
      refine ok_getI cl_5 (q := 15) (k := 1) dX5_addBytes_12 (Nat.le_of_ble_eq_true rfl) wd_127 (fun _ _ _ => rfl) k_a0 rfl ?_
      refine ok_icmp_ge (q := 18) (t := 95) dX5_addBytes_15 rfl rfl ?_ ?_
      · exact ok_ret dX5_addBytes_95 rfl
      · refine ok_bipush (q := 20) (v := 8) dX5_addBytes_18 cb_8 rfl ?_
        refine ok_iload_n (q := 21) dX5_addBytes_20 rfl rfl ?_
        refine ok_imul (q := 22) dX5_addBytes_21 rfl ?_
        refine ok_bipush (q := 24) (v := 26) dX5_addBytes_22 cb_26 rfl ?_
        refine ok_idiv (q := 25) dX5_addBytes_24 (by decide) rfl ?_
        refine bi_ok (fun v1 => ?_)
        refine ok_istore (q := 27) (ls' := [.ref a0, .int x1, .ref a2, .int x3, .int v1, mm_U, mm_U]) dX5_addBytes_25 (Nat.le_of_ble_eq_true rfl) rfl rfl ?_
        refine ok_aload_n (q := 28) dX5_addBytes_27 rfl rfl ?_
        refine ok_getR cl_5 (q := 31) (k := 0) dX5_addBytes_28 (Nat.le_of_ble_eq_true rfl) wd_117 (fun _ _ _ => rfl) kt_5_0 k_a0 rfl (fun b2 k3 => ?_)
        refine ok_iload_n (q := 32) dX5_addBytes_31 rfl rfl ?_
        refine ok_iload_n (q := 33) dX5_addBytes_32 rfl rfl ?_
        refine ok_iadd (q := 34) dX5_addBytes_33 rfl ?_
        refine mm_ck (fun c4 => ?_)
        refine ok_iald (q := 35) dX5_addBytes_34 k3 c4 rfl ?_
        refine ok_i2l (q := 36) dX5_addBytes_35 rfl ?_
        refine ok_bipush (q := 38) (v := 8) dX5_addBytes_36 cb_8 rfl ?_
        refine ok_iload_n (q := 39) dX5_addBytes_38 rfl rfl ?_
        refine ok_imul (q := 40) dX5_addBytes_39 rfl ?_
        refine ok_bipush (q := 42) (v := 26) dX5_addBytes_40 cb_26 rfl ?_
        refine ok_irem (q := 43) dX5_addBytes_42 (by decide) rfl ?_
        refine ok_lshl (q := 44) dX5_addBytes_43 rfl ?_
        refine bl_ok (fun v5 => ?_)
        refine ok_lstore (q := 46) (ls' := [.ref a0, .int x1, .ref a2, .int x3, .int v1, .long v5, mm_U]) dX5_addBytes_44 (Nat.le_of_ble_eq_true rfl) rfl rfl ?_
        refine ok_iload (q := 48) dX5_addBytes_46 rfl rfl ?_
        refine ok_aload_n (q := 49) dX5_addBytes_48 rfl rfl ?_
        refine ok_alen (q := 50) dX5_addBytes_49 (by rw [k_a2]; decide) rfl ?_
        refine ok_icmp_ge (q := 53) (t := 66) dX5_addBytes_50 rfl rfl ?_ ?_
        · exact oj_X5_addBytes_66 ih a0 x1 a2 x3 v1 v5 h k_a0 k_a2
        · refine ok_aload_n (q := 54) dX5_addBytes_53 rfl rfl ?_
          refine ok_iload (q := 56) dX5_addBytes_54 rfl rfl ?_
          refine ok_dup2 (q := 57) dX5_addBytes_56 rfl rfl rfl ?_
          refine mm_ck (fun c10 => ?_)
          refine ok_lald (q := 58) dX5_addBytes_57 k_a2 c10 rfl ?_
          refine ok_lload (q := 60) dX5_addBytes_58 rfl rfl ?_
          refine ok_ldc2 (q := 63) (v := 67108863) dX5_addBytes_60 wd_703 rfl ?_
          refine ok_land (q := 64) dX5_addBytes_63 rfl ?_
          refine ok_ladd (q := 65) dX5_addBytes_64 rfl ?_
          refine mm_ck (fun c11 => ?_)
          refine ok_last (q := 66) dX5_addBytes_65 k_a2 c11 rfl (bh_ok (fun h12 e13 => ?_))
          have e13 : h12.1 = h.1 := e13
          exact oj_X5_addBytes_66 ih a0 x1 a2 x3 v1 v5 h12 (mm_ke e13 k_a0) (mm_ke e13 k_a2)
def bd_X5_addBytes (a0 : Nat) (x1 : Int32) (a2 : Nat) (h : mm_H) : mm_O := lp_X5_addBytes_2  mm_fu a0 x1 a2 0 h
set_option maxHeartbeats 4000000 in
set_option maxRecDepth 100000 in
theorem mt_X5_addBytes (G : mm_G) (a0 : Nat) (x1 : Int32) (a2 : Nat) (h : mm_H) (k_a0 : mm_kd h a0 = 5) (k_a2 : mm_kd h a2 = 23) : mm_Met G my_X5_addBytes [.ref a0, .int x1, .ref a2] h (bd_X5_addBytes a0 x1 a2 h) := by
  refine mm_met (ls := [.ref a0, .int x1, .ref a2, mm_U, mm_U, mm_U, mm_U]) pn_RX5 (Nat.le_of_ble_eq_true rfl) rfl ?_
  unfold bd_X5_addBytes
  refine ok_iconst (q := 1) (v := 0) dX5_addBytes_0 ci_0 rfl ?_
  refine ok_istore_n (q := 2) (ls' := [.ref a0, .int x1, .ref a2, .int 0, mm_U, mm_U, mm_U]) dX5_addBytes_1 (Nat.le_of_ble_eq_true rfl) rfl rfl ?_
  refine ol_X5_addBytes_2  mm_fu a0 x1 a2 0 h k_a0 k_a2
def jn_X5_multiply_68 (kb : Nat → Int32 → Int64 → Int32 → mm_H → mm_O) (ke_76 : Nat → Int32 → Int64 → mm_H → mm_O) (a0 : Nat) (x1 : Int32) (x4 : Int32) (s0 : Int64) (s1 : Int64) (h : mm_H) : mm_O := mm_bl (s1 + s0) (fun v7 =>
  kb a0 x1 v7 (x4 + 1) h)
set_option maxHeartbeats 4000000 in
set_option maxRecDepth 100000 in
theorem oj_X5_multiply_68 {G : mm_G} {kb : Nat → Int32 → Int64 → Int32 → mm_H → mm_O} {ke_76 : Nat → Int32 → Int64 → mm_H → mm_O} (hkb : ∀ (a0 : Nat) (x1 : Int32) (x2 : Int64) (x4 : Int32) (h : mm_H), mm_kd h a0 = 4 → mm_Ok G my_X5_multiply 12 [.ref a0, .int x1, .long x2, mm_U, .int x4] [] h (kb a0 x1 x2 x4 h)) (hke_76 : ∀ (a0 : Nat) (x1 : Int32) (x2 : Int64) (h : mm_H), mm_kd h a0 = 4 → mm_Ok G my_X5_multiply 76 [.ref a0, .int x1, .long x2, mm_U, mm_U] [] h (ke_76 a0 x1 x2 h)) (a0 : Nat) (x1 : Int32) (x4 : Int32) (s0 : Int64) (s1 : Int64) (h : mm_H) (k_a0 : mm_kd h a0 = 4) : mm_Ok G my_X5_multiply 68 [.ref a0, .int x1, mm_U, mm_U, .int x4] [.long s0, .long s1] h (jn_X5_multiply_68 kb ke_76 a0 x1 x4 s0 s1 h) := by
  unfold jn_X5_multiply_68
  refine ok_ladd (q := 69) dX5_multiply_68 rfl ?_
  refine bl_ok (fun v7 => ?_)
  refine ok_lstore_n (q := 70) (ls' := [.ref a0, .int x1, .long v7, mm_U, .int x4]) dX5_multiply_69 (Nat.le_of_ble_eq_true rfl) rfl rfl ?_
  refine ok_iinc (q := 73) (v := x4 + 1) (ls' := [.ref a0, .int x1, .long v7, mm_U, .int (x4 + 1)]) dX5_multiply_70 rfl (congrArg (x4 + ·) ci_1) (Nat.le_of_ble_eq_true rfl) rfl rfl ?_
  refine ok_goto (q := 12) dX5_multiply_73 rfl ?_
  exact hkb a0 x1 v7 (x4 + 1) h k_a0
def lp_X5_multiply_12 (ke_76 : Nat → Int32 → Int64 → mm_H → mm_O) : Nat → Nat → Int32 → Int64 → Int32 → mm_H → mm_O
  | 0, _, _, _, _, _ => none
  | n + 1, a0, x1, x2, x4, h => if (5 : Int32) ≤ x4 then
  (ke_76 a0 x1 x2 h)
  else
  (if x4 ≤ x1 then
  (mm_gr h a0 1 (fun b1 =>
  if mm_in x4 (mm_ln h b1) = true then (mm_gr h a0 0 (fun b4 =>
  if mm_in (x1 - x4) (mm_ln h b4) = true then (jn_X5_multiply_68 (lp_X5_multiply_12 ke_76 n) ke_76 a0 x1 x4 ((mm_l h b1 (mm_n x4)) * (mm_l h b4 (mm_n (x1 - x4)))) x2 h) else none)) else none))
  else
  (mm_gr h a0 1 (fun b8 =>
  if mm_in x4 (mm_ln h b8) = true then (mm_gr h a0 0 (fun b11 =>
  if mm_in ((x1 - x4) + (5 : Int32)) (mm_ln h b11) = true then (jn_X5_multiply_68 (lp_X5_multiply_12 ke_76 n) ke_76 a0 x1 x4 (((5 : Int64) * (mm_l h b8 (mm_n x4))) * (mm_l h b11 (mm_n ((x1 - x4) + (5 : Int32))))) x2 h) else none)) else none)))
set_option maxHeartbeats 4000000 in
set_option maxRecDepth 100000 in
theorem ol_X5_multiply_12 {G : mm_G} {ke_76 : Nat → Int32 → Int64 → mm_H → mm_O} (hke_76 : ∀ (a0 : Nat) (x1 : Int32) (x2 : Int64) (h : mm_H), mm_kd h a0 = 4 → mm_Ok G my_X5_multiply 76 [.ref a0, .int x1, .long x2, mm_U, mm_U] [] h (ke_76 a0 x1 x2 h)) : ∀ (n : Nat) (a0 : Nat) (x1 : Int32) (x2 : Int64) (x4 : Int32) (h : mm_H), mm_kd h a0 = 4 → mm_Ok G my_X5_multiply 12 [.ref a0, .int x1, .long x2, mm_U, .int x4] [] h (lp_X5_multiply_12 ke_76 n a0 x1 x2 x4 h) := by
  intro n
  induction n with
  | zero => intro a0 x1 x2 x4 h k_a0; exact mm_no
  | succ n ih =>
    intro a0 x1 x2 x4 h k_a0
    rw [lp_X5_multiply_12]
    refine ok_iload (q := 14) dX5_multiply_12 rfl rfl ?_
    refine ok_iconst (q := 15) (v := 5) dX5_multiply_14 ci_5 rfl ?_
    refine ok_icmp_ge (q := 18) (t := 76) dX5_multiply_15 rfl rfl ?_ ?_
    · refine mm_wk [true, true, true, false, false] (ls' := [.ref a0, .int x1, .long x2, mm_U, mm_U]) rfl ?_
      exact hke_76 a0 x1 x2 h k_a0
    · refine ok_lload_n (q := 19) dX5_multiply_18 rfl rfl ?_
      refine ok_iload (q := 21) dX5_multiply_19 rfl rfl ?_
      refine ok_iload_n (q := 22) dX5_multiply_21 rfl rfl ?_
      refine ok_icmp_le (q := 25) (t := 51) dX5_multiply_22 rfl rfl ?_ ?_
      · refine ok_aload_n (q := 52) dX5_multiply_51 rfl rfl ?_
        refine ok_getR cl_4 (q := 55) (k := 1) dX5_multiply_52 (Nat.le_of_ble_eq_true rfl) wd_207 (fun _ _ _ => rfl) kt_4_1 k_a0 rfl (fun b1 k2 => ?_)
        refine ok_iload (q := 57) dX5_multiply_55 rfl rfl ?_
        refine mm_ck (fun c3 => ?_)
        refine ok_lald (q := 58) dX5_multiply_57 k2 c3 rfl ?_
        refine ok_aload_n (q := 59) dX5_multiply_58 rfl rfl ?_
        refine ok_getR cl_4 (q := 62) (k := 0) dX5_multiply_59 (Nat.le_of_ble_eq_true rfl) wd_206 (fun _ _ _ => rfl) kt_4_0 k_a0 rfl (fun b4 k5 => ?_)
        refine ok_iload_n (q := 63) dX5_multiply_62 rfl rfl ?_
        refine ok_iload (q := 65) dX5_multiply_63 rfl rfl ?_
        refine ok_isub (q := 66) dX5_multiply_65 rfl ?_
        refine mm_ck (fun c6 => ?_)
        refine ok_lald (q := 67) dX5_multiply_66 k5 c6 rfl ?_
        refine ok_lmul (q := 68) dX5_multiply_67 rfl ?_
        refine mm_wk [true, true, false, false, true] (ls' := [.ref a0, .int x1, mm_U, mm_U, .int x4]) rfl ?_
        exact oj_X5_multiply_68 ih hke_76 a0 x1 x4 ((mm_l h b1 (mm_n x4)) * (mm_l h b4 (mm_n (x1 - x4)))) x2 h k_a0
      · refine ok_ldc2 (q := 28) (v := 5) dX5_multiply_25 wd_709 rfl ?_
        refine ok_aload_n (q := 29) dX5_multiply_28 rfl rfl ?_
        refine ok_getR cl_4 (q := 32) (k := 1) dX5_multiply_29 (Nat.le_of_ble_eq_true rfl) wd_207 (fun _ _ _ => rfl) kt_4_1 k_a0 rfl (fun b8 k9 => ?_)
        refine ok_iload (q := 34) dX5_multiply_32 rfl rfl ?_
        refine mm_ck (fun c10 => ?_)
        refine ok_lald (q := 35) dX5_multiply_34 k9 c10 rfl ?_
        refine ok_lmul (q := 36) dX5_multiply_35 rfl ?_
        refine ok_aload_n (q := 37) dX5_multiply_36 rfl rfl ?_
        refine ok_getR cl_4 (q := 40) (k := 0) dX5_multiply_37 (Nat.le_of_ble_eq_true rfl) wd_206 (fun _ _ _ => rfl) kt_4_0 k_a0 rfl (fun b11 k12 => ?_)
        refine ok_iload_n (q := 41) dX5_multiply_40 rfl rfl ?_
        refine ok_iload (q := 43) dX5_multiply_41 rfl rfl ?_
        refine ok_isub (q := 44) dX5_multiply_43 rfl ?_
        refine ok_iconst (q := 45) (v := 5) dX5_multiply_44 ci_5 rfl ?_
        refine ok_iadd (q := 46) dX5_multiply_45 rfl ?_
        refine mm_ck (fun c13 => ?_)
        refine ok_lald (q := 47) dX5_multiply_46 k12 c13 rfl ?_
        refine ok_lmul (q := 48) dX5_multiply_47 rfl ?_
        refine ok_goto (q := 68) dX5_multiply_48 rfl ?_
        refine mm_wk [true, true, false, false, true] (ls' := [.ref a0, .int x1, mm_U, mm_U, .int x4]) rfl ?_
        exact oj_X5_multiply_68 ih hke_76 a0 x1 x4 (((5 : Int64) * (mm_l h b8 (mm_n x4))) * (mm_l h b11 (mm_n ((x1 - x4) + (5 : Int32))))) x2 h k_a0
def lp_X5_multiply_2 (ke_89 : Nat → mm_H → mm_O) : Nat → Nat → Int32 → mm_H → mm_O
  | 0, _, _, _ => none
  | n + 1, a0, x1, h => if (5 : Int32) ≤ x1 then
  (ke_89 a0 h)
  else
  (lp_X5_multiply_12 (fun b15 v16 v17 h14 => mm_gr h14 b15 2 (fun b18 =>
  if mm_in v16 (mm_ln h14 b18) = true then (mm_bh (mm_sl h14 b18 (mm_n v16) v17) (fun h21 =>
  lp_X5_multiply_2 ke_89 n b15 (v16 + 1) h21)) else none)) mm_fu a0 x1 0 0 h)
set_option maxHeartbeats 4000000 in
set_option maxRecDepth 100000 in
theorem ol_X5_multiply_2 {G : mm_G} {ke_89 : Nat → mm_H → mm_O} (hke_89 : ∀ (a0 : Nat) (h : mm_H), mm_kd h a0 = 4 → mm_Ok G my_X5_multiply 89 [.ref a0, mm_U, mm_U, mm_U, mm_U] [] h (ke_89 a0 h)) : ∀ (n : Nat) (a0 : Nat) (x1 : Int32) (h : mm_H), mm_kd h a0 = 4 → mm_Ok G my_X5_multiply 2 [.ref a0, .int x1, mm_U, mm_U, mm_U] [] h (lp_X5_multiply_2 ke_89 n a0 x1 h) := by
  intro n
  induction n with
  | zero => intro a0 x1 h k_a0; exact mm_no
  | succ n ih =>
    intro a0 x1 h k_a0
    rw [lp_X5_multiply_2]
    refine ok_iload_n (q := 3) dX5_multiply_2 rfl rfl ?_
    refine ok_iconst (q := 4) (v := 5) dX5_multiply_3 ci_5 rfl ?_
    refine ok_icmp_ge (q := 7) (t := 89) dX5_multiply_4 rfl rfl ?_ ?_
    · refine mm_wk [true, false, false, false, false] (ls' := [.ref a0, mm_U, mm_U, mm_U, mm_U]) rfl ?_
      exact hke_89 a0 h k_a0
    · refine ok_lconst (q := 8) (v := 0) dX5_multiply_7 rfl rfl ?_
      refine ok_lstore_n (q := 9) (ls' := [.ref a0, .int x1, .long 0, mm_U, mm_U]) dX5_multiply_8 (Nat.le_of_ble_eq_true rfl) rfl rfl ?_
      refine ok_iconst (q := 10) (v := 0) dX5_multiply_9 ci_0 rfl ?_
      refine ok_istore (q := 12) (ls' := [.ref a0, .int x1, .long 0, mm_U, .int 0]) dX5_multiply_10 (Nat.le_of_ble_eq_true rfl) rfl rfl ?_
      refine ol_X5_multiply_12 (fun b15 v16 v17 h14 k_b15 => ?_) mm_fu a0 x1 0 0 h k_a0
      · refine ok_aload_n (q := 77) dX5_multiply_76 rfl rfl ?_
        refine ok_getR cl_4 (q := 80) (k := 2) dX5_multiply_77 (Nat.le_of_ble_eq_true rfl) wd_208 (fun _ _ _ => rfl) kt_4_2 k_b15 rfl (fun b18 k19 => ?_)
        refine ok_iload_n (q := 81) dX5_multiply_80 rfl rfl ?_
        refine ok_lload_n (q := 82) dX5_multiply_81 rfl rfl ?_
        refine mm_ck (fun c20 => ?_)
        refine ok_last (q := 83) dX5_multiply_82 k19 c20 rfl (bh_ok (fun h21 e22 => ?_))
        have e22 : h21.1 = h14.1 := e22
        refine ok_iinc (q := 86) (v := v16 + 1) (ls' := [.ref b15, .int (v16 + 1), .long v17, mm_U, mm_U]) dX5_multiply_83 rfl (congrArg (v16 + ·) ci_1) (Nat.le_of_ble_eq_true rfl) rfl rfl ?_
        refine ok_goto (q := 2) dX5_multiply_86 rfl ?_
        refine mm_wk [true, true, false, false, false] (ls' := [.ref b15, .int (v16 + 1), mm_U, mm_U, mm_U]) rfl ?_
        exact ih b15 (v16 + 1) h21 (mm_ke e22 k_b15)
def lp_X5_multiply_91  : Nat → Nat → Int32 → mm_H → mm_O
  | 0, _, _, _ => none
  | n + 1, a0, x1, h => if (5 : Int32) ≤ x1 then
  (some (none, h))
  else
  (mm_gr h a0 1 (fun b25 =>
  mm_gr h a0 2 (fun b27 =>
  if mm_in x1 (mm_ln h b27) = true then (if mm_in x1 (mm_ln h b25) = true then (mm_bh (mm_sl h b25 (mm_n x1) (mm_l h b27 (mm_n x1))) (fun h31 =>
  lp_X5_multiply_91 n a0 (x1 + 1) h31)) else none) else none)))
set_option maxHeartbeats 4000000 in
set_option maxRecDepth 100000 in
theorem ol_X5_multiply_91 {G : mm_G}   : ∀ (n : Nat) (a0 : Nat) (x1 : Int32) (h : mm_H), mm_kd h a0 = 4 → mm_Ok G my_X5_multiply 91 [.ref a0, .int x1, mm_U, mm_U, mm_U] [] h (lp_X5_multiply_91 n a0 x1 h) := by
  intro n
  induction n with
  | zero => intro a0 x1 h k_a0; exact mm_no
  | succ n ih =>
    intro a0 x1 h k_a0
    rw [lp_X5_multiply_91]
    refine ok_iload_n (q := 92) dX5_multiply_91 rfl rfl ?_
    refine ok_iconst (q := 93) (v := 5) dX5_multiply_92 ci_5 rfl ?_
    refine ok_icmp_ge (q := 96) (t := 114) dX5_multiply_93 rfl rfl ?_ ?_
    · exact ok_ret dX5_multiply_114 rfl
    · refine ok_aload_n (q := 97) dX5_multiply_96 rfl rfl ?_
      refine ok_getR cl_4 (q := 100) (k := 1) dX5_multiply_97 (Nat.le_of_ble_eq_true rfl) wd_207 (fun _ _ _ => rfl) kt_4_1 k_a0 rfl (fun b25 k26 => ?_)
      refine ok_iload_n (q := 101) dX5_multiply_100 rfl rfl ?_
      refine ok_aload_n (q := 102) dX5_multiply_101 rfl rfl ?_
      refine ok_getR cl_4 (q := 105) (k := 2) dX5_multiply_102 (Nat.le_of_ble_eq_true rfl) wd_208 (fun _ _ _ => rfl) kt_4_2 k_a0 rfl (fun b27 k28 => ?_)
      refine ok_iload_n (q := 106) dX5_multiply_105 rfl rfl ?_
      refine mm_ck (fun c29 => ?_)
      refine ok_lald (q := 107) dX5_multiply_106 k28 c29 rfl ?_
      refine mm_ck (fun c30 => ?_)
      refine ok_last (q := 108) dX5_multiply_107 k26 c30 rfl (bh_ok (fun h31 e32 => ?_))
      have e32 : h31.1 = h.1 := e32
      refine ok_iinc (q := 111) (v := x1 + 1) (ls' := [.ref a0, .int (x1 + 1), mm_U, mm_U, mm_U]) dX5_multiply_108 rfl (congrArg (x1 + ·) ci_1) (Nat.le_of_ble_eq_true rfl) rfl rfl ?_
      refine ok_goto (q := 91) dX5_multiply_111 rfl ?_
      exact ih a0 (x1 + 1) h31 (mm_ke e32 k_a0)
def bd_X5_multiply (a0 : Nat) (h : mm_H) : mm_O := lp_X5_multiply_2 (fun b24 h23 => lp_X5_multiply_91  mm_fu b24 0 h23) mm_fu a0 0 h
set_option maxHeartbeats 4000000 in
set_option maxRecDepth 100000 in
theorem mt_X5_multiply (G : mm_G) (a0 : Nat) (h : mm_H) (k_a0 : mm_kd h a0 = 4) : mm_Met G my_X5_multiply [.ref a0] h (bd_X5_multiply a0 h) := by
  refine mm_met (ls := [.ref a0, mm_U, mm_U, mm_U, mm_U]) pn_RX5 (Nat.le_of_ble_eq_true rfl) rfl ?_
  unfold bd_X5_multiply
  refine ok_iconst (q := 1) (v := 0) dX5_multiply_0 ci_0 rfl ?_
  refine ok_istore_n (q := 2) (ls' := [.ref a0, .int 0, mm_U, mm_U, mm_U]) dX5_multiply_1 (Nat.le_of_ble_eq_true rfl) rfl rfl ?_
  refine ol_X5_multiply_2 (fun b24 h23 k_b24 => ?_) mm_fu a0 0 h k_a0
  · refine ok_iconst (q := 90) (v := 0) dX5_multiply_89 ci_0 rfl ?_
    refine ok_istore_n (q := 91) (ls' := [.ref b24, .int 0, mm_U, mm_U, mm_U]) dX5_multiply_90 (Nat.le_of_ble_eq_true rfl) rfl rfl ?_
    refine ol_X5_multiply_91  mm_fu b24 0 h23 k_b24
def jn_X5_putSum_98 (kb : Nat → Nat → Nat → Int32 → Int32 → mm_H → mm_O) (a0 : Nat) (a1 : Nat) (a2 : Nat) (x3 : Int32) (x4 : Int32) (x7 : Int64) (h : mm_H) : mm_O := mm_gr h a1 0 (fun b8 =>
  if mm_in ((16 : Int32) + x4) (mm_ln h b8) = true then (mm_bi (x3 + ((Int64.toInt32 (x7 &&& (255 : Int64))) + (mm_i h b8 (mm_n ((16 : Int32) + x4))))) (fun v11 =>
  mm_qv (bd_X6_put a2 v11 h) (fun h12 =>
  mm_bi (mm_ush v11 (8 : Int32)) (fun v17 =>
  kb a0 a1 a2 v17 (x4 + 1) h12)))) else none)
set_option maxHeartbeats 4000000 in
set_option maxRecDepth 100000 in
theorem oj_X5_putSum_98 {G : mm_G} {kb : Nat → Nat → Nat → Int32 → Int32 → mm_H → mm_O} (hkb : ∀ (a0 : Nat) (a1 : Nat) (a2 : Nat) (x3 : Int32) (x4 : Int32) (h : mm_H), mm_kd h a0 = 4 → mm_kd h a1 = 5 → mm_kd h a2 = 5 → mm_Ok G my_X5_putSum 9 [.ref a0, .ref a1, .ref a2, .int x3, .int x4, mm_U, mm_U, mm_U, mm_U] [] h (kb a0 a1 a2 x3 x4 h)) (a0 : Nat) (a1 : Nat) (a2 : Nat) (x3 : Int32) (x4 : Int32) (x7 : Int64) (h : mm_H) (k_a0 : mm_kd h a0 = 4) (k_a1 : mm_kd h a1 = 5) (k_a2 : mm_kd h a2 = 5) : mm_Ok G my_X5_putSum 98 [.ref a0, .ref a1, .ref a2, .int x3, .int x4, mm_U, mm_U, .long x7, mm_U] [] h (jn_X5_putSum_98 kb a0 a1 a2 x3 x4 x7 h) := by
  unfold jn_X5_putSum_98
  refine ok_iload_n (q := 99) dX5_putSum_98 rfl rfl ?_
  refine ok_lload (q := 101) dX5_putSum_99 rfl rfl ?_
  refine ok_ldc2 (q := 104) (v := 255) dX5_putSum_101 wd_722 rfl ?_
  refine ok_land (q := 105) dX5_putSum_104 rfl ?_
  refine ok_l2i (q := 106) dX5_putSum_105 rfl ?_
  refine ok_aload_n (q := 107) dX5_putSum_106 rfl rfl ?_
  refine ok_getR cl_5 (q := 110) (k := 0) dX5_putSum_107 (Nat.le_of_ble_eq_true rfl) wd_117 (fun _ _ _ => rfl) kt_5_0 k_a1 rfl (fun b8 k9 => ?_)
  refine ok_bipush (q := 112) (v := 16) dX5_putSum_110 cb_16 rfl ?_
  refine ok_iload (q := 114) dX5_putSum_112 rfl rfl ?_
  refine ok_iadd (q := 115) dX5_putSum_114 rfl ?_
  refine mm_ck (fun c10 => ?_)
  refine ok_iald (q := 116) dX5_putSum_115 k9 c10 rfl ?_
  refine ok_iadd (q := 117) dX5_putSum_116 rfl ?_
  refine ok_iadd (q := 118) dX5_putSum_117 rfl ?_
  refine bi_ok (fun v11 => ?_)
  refine ok_istore_n (q := 119) (ls' := [.ref a0, .ref a1, .ref a2, .int v11, .int x4, mm_U, mm_U, .long x7, mm_U]) dX5_putSum_118 (Nat.le_of_ble_eq_true rfl) rfl rfl ?_
  refine ok_aload_n (q := 120) dX5_putSum_119 rfl rfl ?_
  refine ok_iload_n (q := 121) dX5_putSum_120 rfl rfl ?_
  refine mm_cv (q := 124) (mt_X6_put G a2 v11 h k_a2) (mm_runV (as := [.int v11]) (st := []) cl_5 lk_X5_putSum_X6_put_61 rfl dX5_putSum_121 rfl (Nat.le_of_ble_eq_true rfl) k_a2) rfl (fun h12 p13 => ?_)
  have k14 : mm_kd h12 a0 = 4 := mm_kd_app p13 k_a0 (by decide)
  have k15 : mm_kd h12 a1 = 5 := mm_kd_app p13 k_a1 (by decide)
  have k16 : mm_kd h12 a2 = 5 := mm_kd_app p13 k_a2 (by decide)
  refine ok_iload_n (q := 125) dX5_putSum_124 rfl rfl ?_
  refine ok_bipush (q := 127) (v := 8) dX5_putSum_125 cb_8 rfl ?_
  refine ok_iushr (q := 128) dX5_putSum_127 rfl ?_
  refine bi_ok (fun v17 => ?_)
  refine ok_istore_n (q := 129) (ls' := [.ref a0, .ref a1, .ref a2, .int v17, .int x4, mm_U, mm_U, .long x7, mm_U]) dX5_putSum_128 (Nat.le_of_ble_eq_true rfl) rfl rfl ?_
  refine ok_iinc (q := 132) (v := x4 + 1) (ls' := [.ref a0, .ref a1, .ref a2, .int v17, .int (x4 + 1), mm_U, mm_U, .long x7, mm_U]) dX5_putSum_129 rfl (congrArg (x4 + ·) ci_1) (Nat.le_of_ble_eq_true rfl) rfl rfl ?_
  refine ok_goto (q := 9) dX5_putSum_132 rfl ?_
  refine mm_wk [true, true, true, true, true, false, false, false, false] (ls' := [.ref a0, .ref a1, .ref a2, .int v17, .int (x4 + 1), mm_U, mm_U, mm_U, mm_U]) rfl ?_
  exact hkb a0 a1 a2 v17 (x4 + 1) h12 k14 k15 k16
def jn_X5_putSum_68 (kb : Nat → Nat → Nat → Int32 → Int32 → mm_H → mm_O) (a0 : Nat) (a1 : Nat) (a2 : Nat) (x3 : Int32) (x4 : Int32) (x5 : Int32) (x6 : Int32) (s0 : Int64) (h : mm_H) : mm_O := if (5 : Int32) ≤ (x5 + (1 : Int32)) then
  (jn_X5_putSum_98 (kb) a0 a1 a2 x3 x4 s0 h)
  else
  (mm_gr h a0 1 (fun b18 =>
  if mm_in (x5 + (1 : Int32)) (mm_ln h b18) = true then (mm_bl (s0 ||| (mm_lshl (mm_l h b18 (mm_n (x5 + (1 : Int32)))) ((26 : Int32) - x6))) (fun v21 =>
  jn_X5_putSum_98 (kb) a0 a1 a2 x3 x4 v21 h)) else none))
set_option maxHeartbeats 4000000 in
set_option maxRecDepth 100000 in
theorem oj_X5_putSum_68 {G : mm_G} {kb : Nat → Nat → Nat → Int32 → Int32 → mm_H → mm_O} (hkb : ∀ (a0 : Nat) (a1 : Nat) (a2 : Nat) (x3 : Int32) (x4 : Int32) (h : mm_H), mm_kd h a0 = 4 → mm_kd h a1 = 5 → mm_kd h a2 = 5 → mm_Ok G my_X5_putSum 9 [.ref a0, .ref a1, .ref a2, .int x3, .int x4, mm_U, mm_U, mm_U, mm_U] [] h (kb a0 a1 a2 x3 x4 h)) (a0 : Nat) (a1 : Nat) (a2 : Nat) (x3 : Int32) (x4 : Int32) (x5 : Int32) (x6 : Int32) (s0 : Int64) (h : mm_H) (k_a0 : mm_kd h a0 = 4) (k_a1 : mm_kd h a1 = 5) (k_a2 : mm_kd h a2 = 5) : mm_Ok G my_X5_putSum 68 [.ref a0, .ref a1, .ref a2, .int x3, .int x4, .int x5, .int x6, mm_U, mm_U] [.long s0] h (jn_X5_putSum_68 kb a0 a1 a2 x3 x4 x5 x6 s0 h) := by
  unfold jn_X5_putSum_68
  refine ok_lstore (q := 70) (ls' := [.ref a0, .ref a1, .ref a2, .int x3, .int x4, .int x5, .int x6, .long s0, mm_U]) dX5_putSum_68 (Nat.le_of_ble_eq_true rfl) rfl rfl ?_
  refine ok_iload (q := 72) dX5_putSum_70 rfl rfl ?_
  refine ok_iconst (q := 73) (v := 1) dX5_putSum_72 ci_1 rfl ?_
  refine ok_iadd (q := 74) dX5_putSum_73 rfl ?_
  refine ok_iconst (q := 75) (v := 5) dX5_putSum_74 ci_5 rfl ?_
  refine ok_icmp_ge (q := 78) (t := 98) dX5_putSum_75 rfl rfl ?_ ?_
  · refine mm_wk [true, true, true, true, true, false, false, true, false] (ls' := [.ref a0, .ref a1, .ref a2, .int x3, .int x4, mm_U, mm_U, .long s0, mm_U]) rfl ?_
    exact oj_X5_putSum_98 hkb a0 a1 a2 x3 x4 s0 h k_a0 k_a1 k_a2
  · refine ok_lload (q := 80) dX5_putSum_78 rfl rfl ?_
    refine ok_aload_n (q := 81) dX5_putSum_80 rfl rfl ?_
    refine ok_getR cl_4 (q := 84) (k := 1) dX5_putSum_81 (Nat.le_of_ble_eq_true rfl) wd_207 (fun _ _ _ => rfl) kt_4_1 k_a0 rfl (fun b18 k19 => ?_)
    refine ok_iload (q := 86) dX5_putSum_84 rfl rfl ?_
    refine ok_iconst (q := 87) (v := 1) dX5_putSum_86 ci_1 rfl ?_
    refine ok_iadd (q := 88) dX5_putSum_87 rfl ?_
    refine mm_ck (fun c20 => ?_)
    refine ok_lald (q := 89) dX5_putSum_88 k19 c20 rfl ?_
    refine ok_bipush (q := 91) (v := 26) dX5_putSum_89 cb_26 rfl ?_
    refine ok_iload (q := 93) dX5_putSum_91 rfl rfl ?_
    refine ok_isub (q := 94) dX5_putSum_93 rfl ?_
    refine ok_lshl (q := 95) dX5_putSum_94 rfl ?_
    refine ok_lor (q := 96) dX5_putSum_95 rfl ?_
    refine bl_ok (fun v21 => ?_)
    refine ok_lstore (q := 98) (ls' := [.ref a0, .ref a1, .ref a2, .int x3, .int x4, .int x5, .int x6, .long v21, mm_U]) dX5_putSum_96 (Nat.le_of_ble_eq_true rfl) rfl rfl ?_
    refine mm_wk [true, true, true, true, true, false, false, true, false] (ls' := [.ref a0, .ref a1, .ref a2, .int x3, .int x4, mm_U, mm_U, .long v21, mm_U]) rfl ?_
    exact oj_X5_putSum_98 hkb a0 a1 a2 x3 x4 v21 h k_a0 k_a1 k_a2
def lp_X5_putSum_9  : Nat → Nat → Nat → Nat → Int32 → Int32 → mm_H → mm_O
  | 0, _, _, _, _, _, _ => none
  | n + 1, a0, a1, a2, x3, x4, h => if (16 : Int32) ≤ x4 then
  (some (none, h))
  else
  (if (mm_i h a1 1) ≤ ((16 : Int32) + x4) then
  (some (none, h))
  else
  (mm_bi (((8 : Int32) * x4) / (26 : Int32)) (fun v6 =>
  mm_bi (mm_rem ((8 : Int32) * x4) (26 : Int32)) (fun v7 =>
  if (5 : Int32) ≤ v6 then
  (jn_X5_putSum_68 (lp_X5_putSum_9 n) a0 a1 a2 x3 x4 v6 v7 0 h)
  else
  (mm_gr h a0 1 (fun b22 =>
  if mm_in v6 (mm_ln h b22) = true then (jn_X5_putSum_68 (lp_X5_putSum_9 n) a0 a1 a2 x3 x4 v6 v7 (mm_lush (mm_l h b22 (mm_n v6)) v7) h) else none))))))
set_option maxHeartbeats 4000000 in
set_option maxRecDepth 100000 in
theorem ol_X5_putSum_9 {G : mm_G}   : ∀ (n : Nat) (a0 : Nat) (a1 : Nat) (a2 : Nat) (x3 : Int32) (x4 : Int32) (h : mm_H), mm_kd h a0 = 4 → mm_kd h a1 = 5 → mm_kd h a2 = 5 → mm_Ok G my_X5_putSum 9 [.ref a0, .ref a1, .ref a2, .int x3, .int x4, mm_U, mm_U, mm_U, mm_U] [] h (lp_X5_putSum_9 n a0 a1 a2 x3 x4 h) := by
  intro n
  induction n with
  | zero => intro a0 a1 a2 x3 x4 h k_a0 k_a1 k_a2; exact mm_no
  | succ n ih =>
    intro a0 a1 a2 x3 x4 h k_a0 k_a1 k_a2
    rw [lp_X5_putSum_9]
    refine ok_iload (q := 11) dX5_putSum_9 rfl rfl ?_
    refine ok_bipush (q := 13) (v := 16) dX5_putSum_11 cb_16 rfl ?_
    refine ok_icmp_ge (q := 16) (t := 135) dX5_putSum_13 rfl rfl ?_ ?_
    · exact ok_ret dX5_putSum_135 rfl
    · refine ok_bipush (q := 18) (v := 16) dX5_putSum_16 cb_16 rfl ?_
      refine ok_iload (q := 20) dX5_putSum_18 rfl rfl ?_
      refine ok_iadd (q := 21) dX5_putSum_20 rfl ?_
      refine ok_aload_n (q := 22) dX5_putSum_21 rfl rfl ?_
      refine ok_getI cl_5 (q := 25) (k := 1) dX5_putSum_22 (Nat.le_of_ble_eq_true rfl) wd_127 (fun _ _ _ => rfl) k_a1 rfl ?_
      refine ok_icmp_ge (q := 28) (t := 135) dX5_putSum_25 rfl rfl ?_ ?_
      · exact ok_ret dX5_putSum_135 rfl
      · refine ok_bipush (q := 30) (v := 8) dX5_putSum_28 cb_8 rfl ?_
        refine ok_iload (q := 32) dX5_putSum_30 rfl rfl ?_
        refine ok_imul (q := 33) dX5_putSum_32 rfl ?_
        refine ok_bipush (q := 35) (v := 26) dX5_putSum_33 cb_26 rfl ?_
        refine ok_idiv (q := 36) dX5_putSum_35 (by decide) rfl ?_
        refine bi_ok (fun v6 => ?_)
        refine ok_istore (q := 38) (ls' := [.ref a0, .ref a1, .ref a2, .int x3, .int x4, .int v6, mm_U, mm_U, mm_U]) dX5_putSum_36 (Nat.le_of_ble_eq_true rfl) rfl rfl ?_
        refine ok_bipush (q := 40) (v := 8) dX5_putSum_38 cb_8 rfl ?_
        refine ok_iload (q := 42) dX5_putSum_40 rfl rfl ?_
        refine ok_imul (q := 43) dX5_putSum_42 rfl ?_
        refine ok_bipush (q := 45) (v := 26) dX5_putSum_43 cb_26 rfl ?_
        refine ok_irem (q := 46) dX5_putSum_45 (by decide) rfl ?_
        refine bi_ok (fun v7 => ?_)
        refine ok_istore (q := 48) (ls' := [.ref a0, .ref a1, .ref a2, .int x3, .int x4, .int v6, .int v7, mm_U, mm_U]) dX5_putSum_46 (Nat.le_of_ble_eq_true rfl) rfl rfl ?_
        refine ok_iload (q := 50) dX5_putSum_48 rfl rfl ?_
        refine ok_iconst (q := 51) (v := 5) dX5_putSum_50 ci_5 rfl ?_
        refine ok_icmp_ge (q := 54) (t := 67) dX5_putSum_51 rfl rfl ?_ ?_
        · refine ok_lconst (q := 68) (v := 0) dX5_putSum_67 rfl rfl ?_
          exact oj_X5_putSum_68 ih a0 a1 a2 x3 x4 v6 v7 0 h k_a0 k_a1 k_a2
        · refine ok_aload_n (q := 55) dX5_putSum_54 rfl rfl ?_
          refine ok_getR cl_4 (q := 58) (k := 1) dX5_putSum_55 (Nat.le_of_ble_eq_true rfl) wd_207 (fun _ _ _ => rfl) kt_4_1 k_a0 rfl (fun b22 k23 => ?_)
          refine ok_iload (q := 60) dX5_putSum_58 rfl rfl ?_
          refine mm_ck (fun c24 => ?_)
          refine ok_lald (q := 61) dX5_putSum_60 k23 c24 rfl ?_
          refine ok_iload (q := 63) dX5_putSum_61 rfl rfl ?_
          refine ok_lushr (q := 64) dX5_putSum_63 rfl ?_
          refine ok_goto (q := 68) dX5_putSum_64 rfl ?_
          exact oj_X5_putSum_68 ih a0 a1 a2 x3 x4 v6 v7 (mm_lush (mm_l h b22 (mm_n v6)) v7) h k_a0 k_a1 k_a2
def bd_X5_putSum (a0 : Nat) (a1 : Nat) (a2 : Nat) (h : mm_H) : mm_O := mm_qv (bd_X6_clear a2 h) (fun h1 =>
  lp_X5_putSum_9  mm_fu a0 a1 a2 0 0 h1)
set_option maxHeartbeats 4000000 in
set_option maxRecDepth 100000 in
theorem mt_X5_putSum (G : mm_G) (a0 : Nat) (a1 : Nat) (a2 : Nat) (h : mm_H) (k_a0 : mm_kd h a0 = 4) (k_a1 : mm_kd h a1 = 5) (k_a2 : mm_kd h a2 = 5) : mm_Met G my_X5_putSum [.ref a0, .ref a1, .ref a2] h (bd_X5_putSum a0 a1 a2 h) := by
  refine mm_met (ls := [.ref a0, .ref a1, .ref a2, mm_U, mm_U, mm_U, mm_U, mm_U, mm_U]) pn_RX5 (Nat.le_of_ble_eq_true rfl) rfl ?_
  unfold bd_X5_putSum
  refine ok_aload_n (q := 1) dX5_putSum_0 rfl rfl ?_
  refine mm_cv (q := 4) (mt_X6_clear G a2 h k_a2) (mm_runV (as := []) (st := []) cl_5 lk_X5_putSum_X6_clear_56 rfl dX5_putSum_1 rfl (Nat.le_of_ble_eq_true rfl) k_a2) rfl (fun h1 p2 => ?_)
  have k3 : mm_kd h1 a0 = 4 := mm_kd_app p2 k_a0 (by decide)
  have k4 : mm_kd h1 a1 = 5 := mm_kd_app p2 k_a1 (by decide)
  have k5 : mm_kd h1 a2 = 5 := mm_kd_app p2 k_a2 (by decide)
  refine ok_iconst (q := 5) (v := 0) dX5_putSum_4 ci_0 rfl ?_
  refine ok_istore_n (q := 6) (ls' := [.ref a0, .ref a1, .ref a2, .int 0, mm_U, mm_U, mm_U, mm_U, mm_U]) dX5_putSum_5 (Nat.le_of_ble_eq_true rfl) rfl rfl ?_
  refine ok_iconst (q := 7) (v := 0) dX5_putSum_6 ci_0 rfl ?_
  refine ok_istore (q := 9) (ls' := [.ref a0, .ref a1, .ref a2, .int 0, .int 0, mm_U, mm_U, mm_U, mm_U]) dX5_putSum_7 (Nat.le_of_ble_eq_true rfl) rfl rfl ?_
  refine ol_X5_putSum_9  mm_fu a0 a1 a2 0 0 h1 k3 k4 k5
def lp_X5_reduce_6 (ke_45 : Nat → Int64 → mm_H → mm_O) : Nat → Nat → Int64 → Int32 → mm_H → mm_O
  | 0, _, _, _, _ => none
  | n + 1, a0, x1, x3, h => if (5 : Int32) ≤ x3 then
  (ke_45 a0 x1 h)
  else
  (mm_gr h a0 1 (fun b1 =>
  if mm_in x3 (mm_ln h b1) = true then (mm_bl ((mm_l h b1 (mm_n x3)) + x1) (fun v4 =>
  mm_gr h a0 2 (fun b5 =>
  if mm_in x3 (mm_ln h b5) = true then (mm_bh (mm_sl h b5 (mm_n x3) (v4 &&& (67108863 : Int64))) (fun h8 =>
  mm_bl (mm_lush v4 (26 : Int32)) (fun v10 =>
  lp_X5_reduce_6 ke_45 n a0 v10 (x3 + 1) h8))) else none))) else none))
set_option maxHeartbeats 4000000 in
set_option maxRecDepth 100000 in
theorem ol_X5_reduce_6 {G : mm_G} {ke_45 : Nat → Int64 → mm_H → mm_O} (hke_45 : ∀ (a0 : Nat) (x1 : Int64) (h : mm_H), mm_kd h a0 = 4 → mm_Ok G my_X5_reduce 45 [.ref a0, .long x1, mm_U, mm_U, mm_U, mm_U] [] h (ke_45 a0 x1 h)) : ∀ (n : Nat) (a0 : Nat) (x1 : Int64) (x3 : Int32) (h : mm_H), mm_kd h a0 = 4 → mm_Ok G my_X5_reduce 6 [.ref a0, .long x1, mm_U, .int x3, mm_U, mm_U] [] h (lp_X5_reduce_6 ke_45 n a0 x1 x3 h) := by
  intro n
  induction n with
  | zero => intro a0 x1 x3 h k_a0; exact mm_no
  | succ n ih =>
    intro a0 x1 x3 h k_a0
    rw [lp_X5_reduce_6]
    refine ok_iload_n (q := 7) dX5_reduce_6 rfl rfl ?_
    refine ok_iconst (q := 8) (v := 5) dX5_reduce_7 ci_5 rfl ?_
    refine ok_icmp_ge (q := 11) (t := 45) dX5_reduce_8 rfl rfl ?_ ?_
    · refine mm_wk [true, true, false, false, false, false] (ls' := [.ref a0, .long x1, mm_U, mm_U, mm_U, mm_U]) rfl ?_
      exact hke_45 a0 x1 h k_a0
    · refine ok_aload_n (q := 12) dX5_reduce_11 rfl rfl ?_
      refine ok_getR cl_4 (q := 15) (k := 1) dX5_reduce_12 (Nat.le_of_ble_eq_true rfl) wd_207 (fun _ _ _ => rfl) kt_4_1 k_a0 rfl (fun b1 k2 => ?_)
      refine ok_iload_n (q := 16) dX5_reduce_15 rfl rfl ?_
      refine mm_ck (fun c3 => ?_)
      refine ok_lald (q := 17) dX5_reduce_16 k2 c3 rfl ?_
      refine ok_lload_n (q := 18) dX5_reduce_17 rfl rfl ?_
      refine ok_ladd (q := 19) dX5_reduce_18 rfl ?_
      refine bl_ok (fun v4 => ?_)
      refine ok_lstore (q := 21) (ls' := [.ref a0, .long x1, mm_U, .int x3, .long v4, mm_U]) dX5_reduce_19 (Nat.le_of_ble_eq_true rfl) rfl rfl ?_
      refine ok_aload_n (q := 22) dX5_reduce_21 rfl rfl ?_
      refine ok_getR cl_4 (q := 25) (k := 2) dX5_reduce_22 (Nat.le_of_ble_eq_true rfl) wd_208 (fun _ _ _ => rfl) kt_4_2 k_a0 rfl (fun b5 k6 => ?_)
      refine ok_iload_n (q := 26) dX5_reduce_25 rfl rfl ?_
      refine ok_lload (q := 28) dX5_reduce_26 rfl rfl ?_
      refine ok_ldc2 (q := 31) (v := 67108863) dX5_reduce_28 wd_703 rfl ?_
      refine ok_land (q := 32) dX5_reduce_31 rfl ?_
      refine mm_ck (fun c7 => ?_)
      refine ok_last (q := 33) dX5_reduce_32 k6 c7 rfl (bh_ok (fun h8 e9 => ?_))
      have e9 : h8.1 = h.1 := e9
      refine ok_lload (q := 35) dX5_reduce_33 rfl rfl ?_
      refine ok_bipush (q := 37) (v := 26) dX5_reduce_35 cb_26 rfl ?_
      refine ok_lushr (q := 38) dX5_reduce_37 rfl ?_
      refine bl_ok (fun v10 => ?_)
      refine ok_lstore_n (q := 39) (ls' := [.ref a0, .long v10, mm_U, .int x3, .long v4, mm_U]) dX5_reduce_38 (Nat.le_of_ble_eq_true rfl) rfl rfl ?_
      refine ok_iinc (q := 42) (v := x3 + 1) (ls' := [.ref a0, .long v10, mm_U, .int (x3 + 1), .long v4, mm_U]) dX5_reduce_39 rfl (congrArg (x3 + ·) ci_1) (Nat.le_of_ble_eq_true rfl) rfl rfl ?_
      refine ok_goto (q := 6) dX5_reduce_42 rfl ?_
      refine mm_wk [true, true, false, true, false, false] (ls' := [.ref a0, .long v10, mm_U, .int (x3 + 1), mm_U, mm_U]) rfl ?_
      exact ih a0 v10 (x3 + 1) h8 (mm_ke e9 k_a0)
def lp_X5_reduce_47  : Nat → Nat → Int64 → Int32 → mm_H → mm_O
  | 0, _, _, _, _ => none
  | n + 1, a0, x1, x3, h => if (5 : Int32) ≤ x3 then
  (some (none, h))
  else
  (if (lg_cmp x1 (0 : Int64)) ≤ 0 then
  (some (none, h))
  else
  (mm_gr h a0 1 (fun b14 =>
  mm_gr h a0 2 (fun b16 =>
  if mm_in x3 (mm_ln h b16) = true then (if mm_in x3 (mm_ln h b14) = true then (mm_bh (mm_sl h b14 (mm_n x3) (mm_l h b16 (mm_n x3))) (fun h20 =>
  lp_X5_reduce_47 n a0 x1 (x3 + 1) h20)) else none) else none))))
set_option maxHeartbeats 4000000 in
set_option maxRecDepth 100000 in
theorem ol_X5_reduce_47 {G : mm_G}   : ∀ (n : Nat) (a0 : Nat) (x1 : Int64) (x3 : Int32) (h : mm_H), mm_kd h a0 = 4 → mm_Ok G my_X5_reduce 47 [.ref a0, .long x1, mm_U, .int x3, mm_U, mm_U] [] h (lp_X5_reduce_47 n a0 x1 x3 h) := by
  intro n
  induction n with
  | zero => intro a0 x1 x3 h k_a0; exact mm_no
  | succ n ih =>
    intro a0 x1 x3 h k_a0
    rw [lp_X5_reduce_47]
    refine ok_iload_n (q := 48) dX5_reduce_47 rfl rfl ?_
    refine ok_iconst (q := 49) (v := 5) dX5_reduce_48 ci_5 rfl ?_
    refine ok_icmp_ge (q := 52) (t := 76) dX5_reduce_49 rfl rfl ?_ ?_
    · exact ok_ret dX5_reduce_76 rfl
    · refine ok_lload_n (q := 53) dX5_reduce_52 rfl rfl ?_
      refine ok_lconst (q := 54) (v := 0) dX5_reduce_53 rfl rfl ?_
      refine ok_lcmp (q := 55) dX5_reduce_54 rfl ?_
      refine ok_if_le (q := 58) (t := 76) dX5_reduce_55 rfl rfl ?_ ?_
      · exact ok_ret dX5_reduce_76 rfl
      · refine ok_aload_n (q := 59) dX5_reduce_58 rfl rfl ?_
        refine ok_getR cl_4 (q := 62) (k := 1) dX5_reduce_59 (Nat.le_of_ble_eq_true rfl) wd_207 (fun _ _ _ => rfl) kt_4_1 k_a0 rfl (fun b14 k15 => ?_)
        refine ok_iload_n (q := 63) dX5_reduce_62 rfl rfl ?_
        refine ok_aload_n (q := 64) dX5_reduce_63 rfl rfl ?_
        refine ok_getR cl_4 (q := 67) (k := 2) dX5_reduce_64 (Nat.le_of_ble_eq_true rfl) wd_208 (fun _ _ _ => rfl) kt_4_2 k_a0 rfl (fun b16 k17 => ?_)
        refine ok_iload_n (q := 68) dX5_reduce_67 rfl rfl ?_
        refine mm_ck (fun c18 => ?_)
        refine ok_lald (q := 69) dX5_reduce_68 k17 c18 rfl ?_
        refine mm_ck (fun c19 => ?_)
        refine ok_last (q := 70) dX5_reduce_69 k15 c19 rfl (bh_ok (fun h20 e21 => ?_))
        have e21 : h20.1 = h.1 := e21
        refine ok_iinc (q := 73) (v := x3 + 1) (ls' := [.ref a0, .long x1, mm_U, .int (x3 + 1), mm_U, mm_U]) dX5_reduce_70 rfl (congrArg (x3 + ·) ci_1) (Nat.le_of_ble_eq_true rfl) rfl rfl ?_
        refine ok_goto (q := 47) dX5_reduce_73 rfl ?_
        exact ih a0 x1 (x3 + 1) h20 (mm_ke e21 k_a0)
def bd_X5_reduce (a0 : Nat) (h : mm_H) : mm_O := lp_X5_reduce_6 (fun b12 v13 h11 => lp_X5_reduce_47  mm_fu b12 v13 0 h11) mm_fu a0 5 0 h
set_option maxHeartbeats 4000000 in
set_option maxRecDepth 100000 in
theorem mt_X5_reduce (G : mm_G) (a0 : Nat) (h : mm_H) (k_a0 : mm_kd h a0 = 4) : mm_Met G my_X5_reduce [.ref a0] h (bd_X5_reduce a0 h) := by
  refine mm_met (ls := [.ref a0, mm_U, mm_U, mm_U, mm_U, mm_U]) pn_RX5 (Nat.le_of_ble_eq_true rfl) rfl ?_
  unfold bd_X5_reduce
  refine ok_ldc2 (q := 3) (v := 5) dX5_reduce_0 wd_709 rfl ?_
  refine ok_lstore_n (q := 4) (ls' := [.ref a0, .long 5, mm_U, mm_U, mm_U, mm_U]) dX5_reduce_3 (Nat.le_of_ble_eq_true rfl) rfl rfl ?_
  refine ok_iconst (q := 5) (v := 0) dX5_reduce_4 ci_0 rfl ?_
  refine ok_istore_n (q := 6) (ls' := [.ref a0, .long 5, mm_U, .int 0, mm_U, mm_U]) dX5_reduce_5 (Nat.le_of_ble_eq_true rfl) rfl rfl ?_
  refine ol_X5_reduce_6 (fun b12 v13 h11 k_b12 => ?_) mm_fu a0 5 0 h k_a0
  · refine ok_iconst (q := 46) (v := 0) dX5_reduce_45 ci_0 rfl ?_
    refine ok_istore_n (q := 47) (ls' := [.ref b12, .long v13, mm_U, .int 0, mm_U, mm_U]) dX5_reduce_46 (Nat.le_of_ble_eq_true rfl) rfl rfl ?_
    refine ol_X5_reduce_47  mm_fu b12 v13 0 h11 k_b12
def lp_X5_settle_4 (ke_43 : Nat → Int64 → mm_H → mm_O) : Nat → Nat → Int64 → Int32 → mm_H → mm_O
  | 0, _, _, _, _ => none
  | n + 1, a0, x1, x3, h => if (5 : Int32) ≤ x3 then
  (ke_43 a0 x1 h)
  else
  (if (nI (mm_ln h a0)) ≤ x3 then
  (ke_43 a0 x1 h)
  else
  (if mm_in x3 (mm_ln h a0) = true then (mm_bl ((mm_l h a0 (mm_n x3)) + x1) (fun v2 =>
  if mm_in x3 (mm_ln h a0) = true then (mm_bh (mm_sl h a0 (mm_n x3) (v2 &&& (67108863 : Int64))) (fun h4 =>
  mm_bl (mm_lush v2 (26 : Int32)) (fun v6 =>
  lp_X5_settle_4 ke_43 n a0 v6 (x3 + 1) h4))) else none)) else none))
set_option maxHeartbeats 4000000 in
set_option maxRecDepth 100000 in
theorem ol_X5_settle_4 {G : mm_G} {ke_43 : Nat → Int64 → mm_H → mm_O} (hke_43 : ∀ (a0 : Nat) (x1 : Int64) (h : mm_H), mm_kd h a0 = 23 → mm_Ok G my_X5_settle 43 [.ref a0, .long x1, mm_U, mm_U, mm_U, mm_U] [] h (ke_43 a0 x1 h)) : ∀ (n : Nat) (a0 : Nat) (x1 : Int64) (x3 : Int32) (h : mm_H), mm_kd h a0 = 23 → mm_Ok G my_X5_settle 4 [.ref a0, .long x1, mm_U, .int x3, mm_U, mm_U] [] h (lp_X5_settle_4 ke_43 n a0 x1 x3 h) := by
  intro n
  induction n with
  | zero => intro a0 x1 x3 h k_a0; exact mm_no
  | succ n ih =>
    intro a0 x1 x3 h k_a0
    rw [lp_X5_settle_4]
    refine ok_iload_n (q := 5) dX5_settle_4 rfl rfl ?_
    refine ok_iconst (q := 6) (v := 5) dX5_settle_5 ci_5 rfl ?_
    refine ok_icmp_ge (q := 9) (t := 43) dX5_settle_6 rfl rfl ?_ ?_
    · refine mm_wk [true, true, false, false, false, false] (ls' := [.ref a0, .long x1, mm_U, mm_U, mm_U, mm_U]) rfl ?_
      exact hke_43 a0 x1 h k_a0
    · refine ok_iload_n (q := 10) dX5_settle_9 rfl rfl ?_
      refine ok_aload_n (q := 11) dX5_settle_10 rfl rfl ?_
      refine ok_alen (q := 12) dX5_settle_11 (by rw [k_a0]; decide) rfl ?_
      refine ok_icmp_ge (q := 15) (t := 43) dX5_settle_12 rfl rfl ?_ ?_
      · refine mm_wk [true, true, false, false, false, false] (ls' := [.ref a0, .long x1, mm_U, mm_U, mm_U, mm_U]) rfl ?_
        exact hke_43 a0 x1 h k_a0
      · refine ok_aload_n (q := 16) dX5_settle_15 rfl rfl ?_
        refine ok_iload_n (q := 17) dX5_settle_16 rfl rfl ?_
        refine mm_ck (fun c1 => ?_)
        refine ok_lald (q := 18) dX5_settle_17 k_a0 c1 rfl ?_
        refine ok_lload_n (q := 19) dX5_settle_18 rfl rfl ?_
        refine ok_ladd (q := 20) dX5_settle_19 rfl ?_
        refine bl_ok (fun v2 => ?_)
        refine ok_lstore (q := 22) (ls' := [.ref a0, .long x1, mm_U, .int x3, .long v2, mm_U]) dX5_settle_20 (Nat.le_of_ble_eq_true rfl) rfl rfl ?_
        refine ok_aload_n (q := 23) dX5_settle_22 rfl rfl ?_
        refine ok_iload_n (q := 24) dX5_settle_23 rfl rfl ?_
        refine ok_lload (q := 26) dX5_settle_24 rfl rfl ?_
        refine ok_ldc2 (q := 29) (v := 67108863) dX5_settle_26 wd_703 rfl ?_
        refine ok_land (q := 30) dX5_settle_29 rfl ?_
        refine mm_ck (fun c3 => ?_)
        refine ok_last (q := 31) dX5_settle_30 k_a0 c3 rfl (bh_ok (fun h4 e5 => ?_))
        have e5 : h4.1 = h.1 := e5
        refine ok_lload (q := 33) dX5_settle_31 rfl rfl ?_
        refine ok_bipush (q := 35) (v := 26) dX5_settle_33 cb_26 rfl ?_
        refine ok_lushr (q := 36) dX5_settle_35 rfl ?_
        refine bl_ok (fun v6 => ?_)
        refine ok_lstore_n (q := 37) (ls' := [.ref a0, .long v6, mm_U, .int x3, .long v2, mm_U]) dX5_settle_36 (Nat.le_of_ble_eq_true rfl) rfl rfl ?_
        refine ok_iinc (q := 40) (v := x3 + 1) (ls' := [.ref a0, .long v6, mm_U, .int (x3 + 1), .long v2, mm_U]) dX5_settle_37 rfl (congrArg (x3 + ·) ci_1) (Nat.le_of_ble_eq_true rfl) rfl rfl ?_
        refine ok_goto (q := 4) dX5_settle_40 rfl ?_
        refine mm_wk [true, true, false, true, false, false] (ls' := [.ref a0, .long v6, mm_U, .int (x3 + 1), mm_U, mm_U]) rfl ?_
        exact ih a0 v6 (x3 + 1) h4 (mm_ke e5 k_a0)
def bd_X5_settle (a0 : Nat) (h : mm_H) : mm_O := lp_X5_settle_4 (fun b8 v9 h7 => if (nI (mm_ln h7 b8)) ≤ (1 : Int32) then
  (some (none, h7))
  else
  (if mm_in (0 : Int32) (mm_ln h7 b8) = true then (mm_bl ((mm_l h7 b8 (mm_n (0 : Int32))) + ((5 : Int64) * v9)) (fun v11 =>
  if mm_in (0 : Int32) (mm_ln h7 b8) = true then (mm_bh (mm_sl h7 b8 (mm_n (0 : Int32)) (v11 &&& (67108863 : Int64))) (fun h13 =>
  if mm_in (1 : Int32) (mm_ln h13 b8) = true then (if mm_in (1 : Int32) (mm_ln h13 b8) = true then (mm_bh (mm_sl h13 b8 (mm_n (1 : Int32)) ((mm_l h13 b8 (mm_n (1 : Int32))) + (mm_lush v11 (26 : Int32)))) (fun h17 =>
  some (none, h17))) else none) else none)) else none)) else none)) mm_fu a0 0 0 h
set_option maxHeartbeats 4000000 in
set_option maxRecDepth 100000 in
theorem mt_X5_settle (G : mm_G) (a0 : Nat) (h : mm_H) (k_a0 : mm_kd h a0 = 23) : mm_Met G my_X5_settle [.ref a0] h (bd_X5_settle a0 h) := by
  refine mm_met (ls := [.ref a0, mm_U, mm_U, mm_U, mm_U, mm_U]) pn_RX5 (Nat.le_of_ble_eq_true rfl) rfl ?_
  unfold bd_X5_settle
  refine ok_lconst (q := 1) (v := 0) dX5_settle_0 rfl rfl ?_
  refine ok_lstore_n (q := 2) (ls' := [.ref a0, .long 0, mm_U, mm_U, mm_U, mm_U]) dX5_settle_1 (Nat.le_of_ble_eq_true rfl) rfl rfl ?_
  refine ok_iconst (q := 3) (v := 0) dX5_settle_2 ci_0 rfl ?_
  refine ok_istore_n (q := 4) (ls' := [.ref a0, .long 0, mm_U, .int 0, mm_U, mm_U]) dX5_settle_3 (Nat.le_of_ble_eq_true rfl) rfl rfl ?_
  refine ol_X5_settle_4 (fun b8 v9 h7 k_b8 => ?_) mm_fu a0 0 0 h k_a0
  · refine ok_aload_n (q := 44) dX5_settle_43 rfl rfl ?_
    refine ok_alen (q := 45) dX5_settle_44 (by rw [k_b8]; decide) rfl ?_
    refine ok_iconst (q := 46) (v := 1) dX5_settle_45 ci_1 rfl ?_
    refine ok_icmp_le (q := 49) (t := 77) dX5_settle_46 rfl rfl ?_ ?_
    · exact ok_ret dX5_settle_77 rfl
    · refine ok_aload_n (q := 50) dX5_settle_49 rfl rfl ?_
      refine ok_iconst (q := 51) (v := 0) dX5_settle_50 ci_0 rfl ?_
      refine mm_ck (fun c10 => ?_)
      refine ok_lald (q := 52) dX5_settle_51 k_b8 c10 rfl ?_
      refine ok_ldc2 (q := 55) (v := 5) dX5_settle_52 wd_709 rfl ?_
      refine ok_lload_n (q := 56) dX5_settle_55 rfl rfl ?_
      refine ok_lmul (q := 57) dX5_settle_56 rfl ?_
      refine ok_ladd (q := 58) dX5_settle_57 rfl ?_
      refine bl_ok (fun v11 => ?_)
      refine ok_lstore_n (q := 59) (ls' := [.ref b8, .long v9, mm_U, .long v11, mm_U, mm_U]) dX5_settle_58 (Nat.le_of_ble_eq_true rfl) rfl rfl ?_
      refine ok_aload_n (q := 60) dX5_settle_59 rfl rfl ?_
      refine ok_iconst (q := 61) (v := 0) dX5_settle_60 ci_0 rfl ?_
      refine ok_lload_n (q := 62) dX5_settle_61 rfl rfl ?_
      refine ok_ldc2 (q := 65) (v := 67108863) dX5_settle_62 wd_703 rfl ?_
      refine ok_land (q := 66) dX5_settle_65 rfl ?_
      refine mm_ck (fun c12 => ?_)
      refine ok_last (q := 67) dX5_settle_66 k_b8 c12 rfl (bh_ok (fun h13 e14 => ?_))
      have e14 : h13.1 = h7.1 := e14
      refine ok_aload_n (q := 68) dX5_settle_67 rfl rfl ?_
      refine ok_iconst (q := 69) (v := 1) dX5_settle_68 ci_1 rfl ?_
      refine ok_dup2 (q := 70) dX5_settle_69 rfl rfl rfl ?_
      refine mm_ck (fun c15 => ?_)
      refine ok_lald (q := 71) dX5_settle_70 (mm_ke e14 k_b8) c15 rfl ?_
      refine ok_lload_n (q := 72) dX5_settle_71 rfl rfl ?_
      refine ok_bipush (q := 74) (v := 26) dX5_settle_72 cb_26 rfl ?_
      refine ok_lushr (q := 75) dX5_settle_74 rfl ?_
      refine ok_ladd (q := 76) dX5_settle_75 rfl ?_
      refine mm_ck (fun c16 => ?_)
      refine ok_last (q := 77) dX5_settle_76 (mm_ke e14 k_b8) c16 rfl (bh_ok (fun h17 e18 => ?_))
      have e18 : h17.1 = h7.1 := e18.trans e14
      exact ok_ret dX5_settle_77 rfl
def lp_X5_tag_3 (ke_31 : Nat → Nat → Nat → Nat → mm_H → mm_O) : Nat → Nat → Nat → Nat → Nat → Int32 → mm_H → mm_O
  | 0, _, _, _, _, _, _ => none
  | n + 1, a0, a1, a2, a3, x4, h => if (5 : Int32) ≤ x4 then
  (ke_31 a0 a1 a2 a3 h)
  else
  (mm_gr h a0 0 (fun b1 =>
  if mm_in x4 (mm_ln h b1) = true then (mm_bh (mm_sl h b1 (mm_n x4) (0 : Int64)) (fun h4 =>
  mm_gr h4 a0 1 (fun b6 =>
  if mm_in x4 (mm_ln h4 b6) = true then (mm_bh (mm_sl h4 b6 (mm_n x4) (0 : Int64)) (fun h9 =>
  lp_X5_tag_3 ke_31 n a0 a1 a2 a3 (x4 + 1) h9)) else none))) else none))
set_option maxHeartbeats 4000000 in
set_option maxRecDepth 100000 in
theorem ol_X5_tag_3 {G : mm_G} {ke_31 : Nat → Nat → Nat → Nat → mm_H → mm_O} (hke_31 : ∀ (a0 : Nat) (a1 : Nat) (a2 : Nat) (a3 : Nat) (h : mm_H), mm_kd h a0 = 4 → mm_kd h a1 = 5 → mm_kd h a2 = 5 → mm_kd h a3 = 5 → mm_Ok G my_X5_tag 31 [.ref a0, .ref a1, .ref a2, .ref a3, mm_U] [] h (ke_31 a0 a1 a2 a3 h)) : ∀ (n : Nat) (a0 : Nat) (a1 : Nat) (a2 : Nat) (a3 : Nat) (x4 : Int32) (h : mm_H), mm_kd h a0 = 4 → mm_kd h a1 = 5 → mm_kd h a2 = 5 → mm_kd h a3 = 5 → mm_Ok G my_X5_tag 3 [.ref a0, .ref a1, .ref a2, .ref a3, .int x4] [] h (lp_X5_tag_3 ke_31 n a0 a1 a2 a3 x4 h) := by
  intro n
  induction n with
  | zero => intro a0 a1 a2 a3 x4 h k_a0 k_a1 k_a2 k_a3; exact mm_no
  | succ n ih =>
    intro a0 a1 a2 a3 x4 h k_a0 k_a1 k_a2 k_a3
    rw [lp_X5_tag_3]
    refine ok_iload (q := 5) dX5_tag_3 rfl rfl ?_
    refine ok_iconst (q := 6) (v := 5) dX5_tag_5 ci_5 rfl ?_
    refine ok_icmp_ge (q := 9) (t := 31) dX5_tag_6 rfl rfl ?_ ?_
    · refine mm_wk [true, true, true, true, false] (ls' := [.ref a0, .ref a1, .ref a2, .ref a3, mm_U]) rfl ?_
      exact hke_31 a0 a1 a2 a3 h k_a0 k_a1 k_a2 k_a3
    · refine ok_aload_n (q := 10) dX5_tag_9 rfl rfl ?_
      refine ok_getR cl_4 (q := 13) (k := 0) dX5_tag_10 (Nat.le_of_ble_eq_true rfl) wd_206 (fun _ _ _ => rfl) kt_4_0 k_a0 rfl (fun b1 k2 => ?_)
      refine ok_iload (q := 15) dX5_tag_13 rfl rfl ?_
      refine ok_lconst (q := 16) (v := 0) dX5_tag_15 rfl rfl ?_
      refine mm_ck (fun c3 => ?_)
      refine ok_last (q := 17) dX5_tag_16 k2 c3 rfl (bh_ok (fun h4 e5 => ?_))
      have e5 : h4.1 = h.1 := e5
      refine ok_aload_n (q := 18) dX5_tag_17 rfl rfl ?_
      refine ok_getR cl_4 (q := 21) (k := 1) dX5_tag_18 (Nat.le_of_ble_eq_true rfl) wd_207 (fun _ _ _ => rfl) kt_4_1 (mm_ke e5 k_a0) rfl (fun b6 k7 => ?_)
      refine ok_iload (q := 23) dX5_tag_21 rfl rfl ?_
      refine ok_lconst (q := 24) (v := 0) dX5_tag_23 rfl rfl ?_
      refine mm_ck (fun c8 => ?_)
      refine ok_last (q := 25) dX5_tag_24 (mm_ke e5 (mm_ke e5.symm k7)) c8 rfl (bh_ok (fun h9 e10 => ?_))
      have e10 : h9.1 = h.1 := e10.trans e5
      refine ok_iinc (q := 28) (v := x4 + 1) (ls' := [.ref a0, .ref a1, .ref a2, .ref a3, .int (x4 + 1)]) dX5_tag_25 rfl (congrArg (x4 + ·) ci_1) (Nat.le_of_ble_eq_true rfl) rfl rfl ?_
      refine ok_goto (q := 3) dX5_tag_28 rfl ?_
      exact ih a0 a1 a2 a3 (x4 + 1) h9 (mm_ke e10 k_a0) (mm_ke e10 k_a1) (mm_ke e10 k_a2) (mm_ke e10 k_a3)
def lp_X5_tag_34 (ke_72 : Nat → Nat → Nat → Nat → mm_H → mm_O) : Nat → Nat → Nat → Nat → Nat → Int32 → mm_H → mm_O
  | 0, _, _, _, _, _, _ => none
  | n + 1, a0, a1, a2, a3, x4, h => if (16 : Int32) ≤ x4 then
  (ke_72 a0 a1 a2 a3 h)
  else
  (if (mm_i h a1 1) ≤ x4 then
  (ke_72 a0 a1 a2 a3 h)
  else
  (mm_gr h a1 0 (fun b16 =>
  if mm_in x4 (mm_ln h b16) = true then (if mm_in x4 (mm_ln h 3) = true then (if 32 ≤ b16 ∧ mm_in x4 (mm_ln h b16) = true then (mm_bh (mm_si h b16 (mm_n x4) ((mm_i h b16 (mm_n x4)) &&& (mm_i h 3 (mm_n x4)))) (fun h22 =>
  lp_X5_tag_34 ke_72 n a0 a1 a2 a3 (x4 + 1) h22)) else none) else none) else none)))
set_option maxHeartbeats 4000000 in
set_option maxRecDepth 100000 in
theorem ol_X5_tag_34 {G : mm_G} {ke_72 : Nat → Nat → Nat → Nat → mm_H → mm_O} (hke_72 : ∀ (a0 : Nat) (a1 : Nat) (a2 : Nat) (a3 : Nat) (h : mm_H), mm_kd h a0 = 4 → mm_kd h a1 = 5 → mm_kd h a2 = 5 → mm_kd h a3 = 5 → mm_Ok G my_X5_tag 72 [.ref a0, .ref a1, .ref a2, .ref a3, mm_U] [] h (ke_72 a0 a1 a2 a3 h)) : ∀ (n : Nat) (a0 : Nat) (a1 : Nat) (a2 : Nat) (a3 : Nat) (x4 : Int32) (h : mm_H), mm_kd h a0 = 4 → mm_kd h a1 = 5 → mm_kd h a2 = 5 → mm_kd h a3 = 5 → mm_Ok G my_X5_tag 34 [.ref a0, .ref a1, .ref a2, .ref a3, .int x4] [] h (lp_X5_tag_34 ke_72 n a0 a1 a2 a3 x4 h) := by
  intro n
  induction n with
  | zero => intro a0 a1 a2 a3 x4 h k_a0 k_a1 k_a2 k_a3; exact mm_no
  | succ n ih =>
    intro a0 a1 a2 a3 x4 h k_a0 k_a1 k_a2 k_a3
    rw [lp_X5_tag_34]
    refine ok_iload (q := 36) dX5_tag_34 rfl rfl ?_
    refine ok_bipush (q := 38) (v := 16) dX5_tag_36 cb_16 rfl ?_
    refine ok_icmp_ge (q := 41) (t := 72) dX5_tag_38 rfl rfl ?_ ?_
    · refine mm_wk [true, true, true, true, false] (ls' := [.ref a0, .ref a1, .ref a2, .ref a3, mm_U]) rfl ?_
      exact hke_72 a0 a1 a2 a3 h k_a0 k_a1 k_a2 k_a3
    · refine ok_iload (q := 43) dX5_tag_41 rfl rfl ?_
      refine ok_aload_n (q := 44) dX5_tag_43 rfl rfl ?_
      refine ok_getI cl_5 (q := 47) (k := 1) dX5_tag_44 (Nat.le_of_ble_eq_true rfl) wd_127 (fun _ _ _ => rfl) k_a1 rfl ?_
      refine ok_icmp_ge (q := 50) (t := 72) dX5_tag_47 rfl rfl ?_ ?_
      · refine mm_wk [true, true, true, true, false] (ls' := [.ref a0, .ref a1, .ref a2, .ref a3, mm_U]) rfl ?_
        exact hke_72 a0 a1 a2 a3 h k_a0 k_a1 k_a2 k_a3
      · refine ok_aload_n (q := 51) dX5_tag_50 rfl rfl ?_
        refine ok_getR cl_5 (q := 54) (k := 0) dX5_tag_51 (Nat.le_of_ble_eq_true rfl) wd_117 (fun _ _ _ => rfl) kt_5_0 k_a1 rfl (fun b16 k17 => ?_)
        refine ok_iload (q := 56) dX5_tag_54 rfl rfl ?_
        refine ok_dup2 (q := 57) dX5_tag_56 rfl rfl rfl ?_
        refine mm_ck (fun c18 => ?_)
        refine ok_iald (q := 58) dX5_tag_57 k17 c18 rfl ?_
        refine ok_gets (q := 61) (a := 3) (by decide +kernel) dX5_tag_58 wd_698 (by decide) rfl (fun k19 => ?_)
        refine ok_iload (q := 63) dX5_tag_61 rfl rfl ?_
        refine mm_ck (fun c20 => ?_)
        refine ok_iald (q := 64) dX5_tag_63 k19 c20 rfl ?_
        refine ok_iand (q := 65) dX5_tag_64 rfl ?_
        refine mm_ck (fun c21 => ?_)
        refine ok_iast (q := 66) dX5_tag_65 k17 c21.1 c21.2 rfl (bh_ok (fun h22 e23 => ?_))
        have e23 : h22.1 = h.1 := e23
        refine ok_iinc (q := 69) (v := x4 + 1) (ls' := [.ref a0, .ref a1, .ref a2, .ref a3, .int (x4 + 1)]) dX5_tag_66 rfl (congrArg (x4 + ·) ci_1) (Nat.le_of_ble_eq_true rfl) rfl rfl ?_
        refine ok_goto (q := 34) dX5_tag_69 rfl ?_
        exact ih a0 a1 a2 a3 (x4 + 1) h22 (mm_ke e23 k_a0) (mm_ke e23 k_a1) (mm_ke e23 k_a2) (mm_ke e23 k_a3)
def lp_X5_tag_84 (ke_132 : Nat → Nat → Nat → mm_H → mm_O) : Nat → Nat → Nat → Nat → Nat → Int32 → mm_H → mm_O
  | 0, _, _, _, _, _, _ => none
  | n + 1, a0, a1, a2, a3, x4, h => if (mm_i h a2 1) ≤ x4 then
  (ke_132 a0 a1 a3 h)
  else
  (mm_gr h a0 1 (fun b37 =>
  mm_qv (bd_X5_addBytes a2 x4 b37 h) (fun h39 =>
  mm_gr h39 a0 1 (fun b45 =>
  if mm_in (4 : Int32) (mm_ln h39 b45) = true then (if mm_in (4 : Int32) (mm_ln h39 b45) = true then (mm_bh (mm_sl h39 b45 (mm_n (4 : Int32)) ((mm_l h39 b45 (mm_n (4 : Int32))) + (16777216 : Int64))) (fun h49 =>
  mm_qv (bd_X5_multiply a0 h49) (fun h51 =>
  mm_gr h51 a0 1 (fun b57 =>
  mm_qv (bd_X5_settle b57 h51) (fun h59 =>
  lp_X5_tag_84 ke_132 n a0 a1 a2 a3 (x4 + 16) h59))))) else none) else none))))
set_option maxHeartbeats 4000000 in
set_option maxRecDepth 100000 in
theorem ol_X5_tag_84 {G : mm_G} {ke_132 : Nat → Nat → Nat → mm_H → mm_O} (hke_132 : ∀ (a0 : Nat) (a1 : Nat) (a3 : Nat) (h : mm_H), mm_kd h a0 = 4 → mm_kd h a1 = 5 → mm_kd h a3 = 5 → mm_Ok G my_X5_tag 132 [.ref a0, .ref a1, mm_U, .ref a3, mm_U] [] h (ke_132 a0 a1 a3 h)) : ∀ (n : Nat) (a0 : Nat) (a1 : Nat) (a2 : Nat) (a3 : Nat) (x4 : Int32) (h : mm_H), mm_kd h a0 = 4 → mm_kd h a1 = 5 → mm_kd h a2 = 5 → mm_kd h a3 = 5 → mm_Ok G my_X5_tag 84 [.ref a0, .ref a1, .ref a2, .ref a3, .int x4] [] h (lp_X5_tag_84 ke_132 n a0 a1 a2 a3 x4 h) := by
  intro n
  induction n with
  | zero => intro a0 a1 a2 a3 x4 h k_a0 k_a1 k_a2 k_a3; exact mm_no
  | succ n ih =>
    intro a0 a1 a2 a3 x4 h k_a0 k_a1 k_a2 k_a3
    rw [lp_X5_tag_84]
    refine ok_iload (q := 86) dX5_tag_84 rfl rfl ?_
    refine ok_aload_n (q := 87) dX5_tag_86 rfl rfl ?_
    refine ok_getI cl_5 (q := 90) (k := 1) dX5_tag_87 (Nat.le_of_ble_eq_true rfl) wd_127 (fun _ _ _ => rfl) k_a2 rfl ?_
    refine ok_icmp_ge (q := 93) (t := 132) dX5_tag_90 rfl rfl ?_ ?_
    · refine mm_wk [true, true, false, true, false] (ls' := [.ref a0, .ref a1, mm_U, .ref a3, mm_U]) rfl ?_
      exact hke_132 a0 a1 a3 h k_a0 k_a1 k_a3
    · refine ok_aload_n (q := 94) dX5_tag_93 rfl rfl ?_
      refine ok_iload (q := 96) dX5_tag_94 rfl rfl ?_
      refine ok_aload_n (q := 97) dX5_tag_96 rfl rfl ?_
      refine ok_getR cl_4 (q := 100) (k := 1) dX5_tag_97 (Nat.le_of_ble_eq_true rfl) wd_207 (fun _ _ _ => rfl) kt_4_1 k_a0 rfl (fun b37 k38 => ?_)
      refine mm_cv (q := 103) (mt_X5_addBytes G a2 x4 b37 h k_a2 k38) (mm_runS (as := [.ref a2, .int x4, .ref b37]) (st := []) lk_X5_tag_X5_addBytes_32 dX5_tag_100 rfl (Nat.le_of_ble_eq_true rfl)) rfl (fun h39 p40 => ?_)
      have k41 : mm_kd h39 a0 = 4 := mm_kd_app p40 k_a0 (by decide)
      have k42 : mm_kd h39 a1 = 5 := mm_kd_app p40 k_a1 (by decide)
      have k43 : mm_kd h39 a2 = 5 := mm_kd_app p40 k_a2 (by decide)
      have k44 : mm_kd h39 a3 = 5 := mm_kd_app p40 k_a3 (by decide)
      refine ok_aload_n (q := 104) dX5_tag_103 rfl rfl ?_
      refine ok_getR cl_4 (q := 107) (k := 1) dX5_tag_104 (Nat.le_of_ble_eq_true rfl) wd_207 (fun _ _ _ => rfl) kt_4_1 k41 rfl (fun b45 k46 => ?_)
      refine ok_iconst (q := 108) (v := 4) dX5_tag_107 ci_4 rfl ?_
      refine ok_dup2 (q := 109) dX5_tag_108 rfl rfl rfl ?_
      refine mm_ck (fun c47 => ?_)
      refine ok_lald (q := 110) dX5_tag_109 k46 c47 rfl ?_
      refine ok_ldc2 (q := 113) (v := 16777216) dX5_tag_110 wd_704 rfl ?_
      refine ok_ladd (q := 114) dX5_tag_113 rfl ?_
      refine mm_ck (fun c48 => ?_)
      refine ok_last (q := 115) dX5_tag_114 k46 c48 rfl (bh_ok (fun h49 e50 => ?_))
      have e50 : h49.1 = h39.1 := e50
      refine ok_aload_n (q := 116) dX5_tag_115 rfl rfl ?_
      refine mm_cv (q := 119) (mt_X5_multiply G a0 h49 (mm_ke e50 k41)) (mm_runV (as := []) (st := []) cl_4 lk_X5_tag_X5_multiply_38 rfl dX5_tag_116 rfl (Nat.le_of_ble_eq_true rfl) (mm_ke e50 k41)) rfl (fun h51 p52 => ?_)
      have k53 : mm_kd h51 a0 = 4 := mm_kd_app p52 (mm_ke e50 k41) (by decide)
      have k54 : mm_kd h51 a1 = 5 := mm_kd_app p52 (mm_ke e50 k42) (by decide)
      have k55 : mm_kd h51 a2 = 5 := mm_kd_app p52 (mm_ke e50 k43) (by decide)
      have k56 : mm_kd h51 a3 = 5 := mm_kd_app p52 (mm_ke e50 k44) (by decide)
      refine ok_aload_n (q := 120) dX5_tag_119 rfl rfl ?_
      refine ok_getR cl_4 (q := 123) (k := 1) dX5_tag_120 (Nat.le_of_ble_eq_true rfl) wd_207 (fun _ _ _ => rfl) kt_4_1 k53 rfl (fun b57 k58 => ?_)
      refine mm_cv (q := 126) (mt_X5_settle G b57 h51 k58) (mm_runS (as := [.ref b57]) (st := []) lk_X5_tag_X5_settle_41 dX5_tag_123 rfl (Nat.le_of_ble_eq_true rfl)) rfl (fun h59 p60 => ?_)
      have k61 : mm_kd h59 a0 = 4 := mm_kd_app p60 k53 (by decide)
      have k62 : mm_kd h59 a1 = 5 := mm_kd_app p60 k54 (by decide)
      have k63 : mm_kd h59 a2 = 5 := mm_kd_app p60 k55 (by decide)
      have k64 : mm_kd h59 a3 = 5 := mm_kd_app p60 k56 (by decide)
      refine ok_iinc (q := 129) (v := x4 + 16) (ls' := [.ref a0, .ref a1, .ref a2, .ref a3, .int (x4 + 16)]) dX5_tag_126 rfl (congrArg (x4 + ·) ci_16) (Nat.le_of_ble_eq_true rfl) rfl rfl ?_
      refine ok_goto (q := 84) dX5_tag_129 rfl ?_
      exact ih a0 a1 a2 a3 (x4 + 16) h59 k61 k62 k63 k64
def bd_X5_tag (a0 : Nat) (a1 : Nat) (a2 : Nat) (a3 : Nat) (h : mm_H) : mm_O := lp_X5_tag_3 (fun b12 b13 b14 b15 h11 => lp_X5_tag_34 (fun b25 b26 b27 b28 h24 => mm_gr h24 b25 0 (fun b29 =>
  mm_qv (bd_X5_addBytes b26 0 b29 h24) (fun h31 =>
  lp_X5_tag_84 (fun b66 b67 b68 h65 => mm_gr h65 b66 1 (fun b69 =>
  mm_qv (bd_X5_settle b69 h65) (fun h71 =>
  mm_gr h71 b66 1 (fun b76 =>
  mm_qv (bd_X5_settle b76 h71) (fun h78 =>
  mm_qv (bd_X5_reduce b66 h78) (fun h83 =>
  mm_qv (bd_X5_putSum b66 b67 b68 h83) (fun h88 =>
  some (none, h88)))))))) mm_fu b25 b26 b27 b28 0 h31))) mm_fu b12 b13 b14 b15 0 h11) mm_fu a0 a1 a2 a3 0 h
set_option maxHeartbeats 4000000 in
set_option maxRecDepth 100000 in
theorem mt_X5_tag (G : mm_G) (a0 : Nat) (a1 : Nat) (a2 : Nat) (a3 : Nat) (h : mm_H) (k_a0 : mm_kd h a0 = 4) (k_a1 : mm_kd h a1 = 5) (k_a2 : mm_kd h a2 = 5) (k_a3 : mm_kd h a3 = 5) : mm_Met G my_X5_tag [.ref a0, .ref a1, .ref a2, .ref a3] h (bd_X5_tag a0 a1 a2 a3 h) := by
  refine mm_met (ls := [.ref a0, .ref a1, .ref a2, .ref a3, mm_U]) pn_RX5 (Nat.le_of_ble_eq_true rfl) rfl ?_
  unfold bd_X5_tag
  refine ok_iconst (q := 1) (v := 0) dX5_tag_0 ci_0 rfl ?_
  refine ok_istore (q := 3) (ls' := [.ref a0, .ref a1, .ref a2, .ref a3, .int 0]) dX5_tag_1 (Nat.le_of_ble_eq_true rfl) rfl rfl ?_
  refine ol_X5_tag_3 (fun b12 b13 b14 b15 h11 k_b12 k_b13 k_b14 k_b15 => ?_) mm_fu a0 a1 a2 a3 0 h k_a0 k_a1 k_a2 k_a3
  · refine ok_iconst (q := 32) (v := 0) dX5_tag_31 ci_0 rfl ?_
    refine ok_istore (q := 34) (ls' := [.ref b12, .ref b13, .ref b14, .ref b15, .int 0]) dX5_tag_32 (Nat.le_of_ble_eq_true rfl) rfl rfl ?_
    refine ol_X5_tag_34 (fun b25 b26 b27 b28 h24 k_b25 k_b26 k_b27 k_b28 => ?_) mm_fu b12 b13 b14 b15 0 h11 k_b12 k_b13 k_b14 k_b15
    · refine ok_aload_n (q := 73) dX5_tag_72 rfl rfl ?_
      refine ok_iconst (q := 74) (v := 0) dX5_tag_73 ci_0 rfl ?_
      refine ok_aload_n (q := 75) dX5_tag_74 rfl rfl ?_
      refine ok_getR cl_4 (q := 78) (k := 0) dX5_tag_75 (Nat.le_of_ble_eq_true rfl) wd_206 (fun _ _ _ => rfl) kt_4_0 k_b25 rfl (fun b29 k30 => ?_)
      refine mm_cv (q := 81) (mt_X5_addBytes G b26 0 b29 h24 k_b26 k30) (mm_runS (as := [.ref b26, .int 0, .ref b29]) (st := []) lk_X5_tag_X5_addBytes_32 dX5_tag_78 rfl (Nat.le_of_ble_eq_true rfl)) rfl (fun h31 p32 => ?_)
      have k33 : mm_kd h31 b25 = 4 := mm_kd_app p32 k_b25 (by decide)
      have k34 : mm_kd h31 b26 = 5 := mm_kd_app p32 k_b26 (by decide)
      have k35 : mm_kd h31 b27 = 5 := mm_kd_app p32 k_b27 (by decide)
      have k36 : mm_kd h31 b28 = 5 := mm_kd_app p32 k_b28 (by decide)
      refine ok_iconst (q := 82) (v := 0) dX5_tag_81 ci_0 rfl ?_
      refine ok_istore (q := 84) (ls' := [.ref b25, .ref b26, .ref b27, .ref b28, .int 0]) dX5_tag_82 (Nat.le_of_ble_eq_true rfl) rfl rfl ?_
      refine ol_X5_tag_84 (fun b66 b67 b68 h65 k_b66 k_b67 k_b68 => ?_) mm_fu b25 b26 b27 b28 0 h31 k33 k34 k35 k36
      · refine ok_aload_n (q := 133) dX5_tag_132 rfl rfl ?_
        refine ok_getR cl_4 (q := 136) (k := 1) dX5_tag_133 (Nat.le_of_ble_eq_true rfl) wd_207 (fun _ _ _ => rfl) kt_4_1 k_b66 rfl (fun b69 k70 => ?_)
        refine mm_cv (q := 139) (mt_X5_settle G b69 h65 k70) (mm_runS (as := [.ref b69]) (st := []) lk_X5_tag_X5_settle_41 dX5_tag_136 rfl (Nat.le_of_ble_eq_true rfl)) rfl (fun h71 p72 => ?_)
        have k73 : mm_kd h71 b66 = 4 := mm_kd_app p72 k_b66 (by decide)
        have k74 : mm_kd h71 b67 = 5 := mm_kd_app p72 k_b67 (by decide)
        have k75 : mm_kd h71 b68 = 5 := mm_kd_app p72 k_b68 (by decide)
        refine ok_aload_n (q := 140) dX5_tag_139 rfl rfl ?_
        refine ok_getR cl_4 (q := 143) (k := 1) dX5_tag_140 (Nat.le_of_ble_eq_true rfl) wd_207 (fun _ _ _ => rfl) kt_4_1 k73 rfl (fun b76 k77 => ?_)
        refine mm_cv (q := 146) (mt_X5_settle G b76 h71 k77) (mm_runS (as := [.ref b76]) (st := []) lk_X5_tag_X5_settle_41 dX5_tag_143 rfl (Nat.le_of_ble_eq_true rfl)) rfl (fun h78 p79 => ?_)
        have k80 : mm_kd h78 b66 = 4 := mm_kd_app p79 k73 (by decide)
        have k81 : mm_kd h78 b67 = 5 := mm_kd_app p79 k74 (by decide)
        have k82 : mm_kd h78 b68 = 5 := mm_kd_app p79 k75 (by decide)
        refine ok_aload_n (q := 147) dX5_tag_146 rfl rfl ?_
        refine mm_cv (q := 150) (mt_X5_reduce G b66 h78 k80) (mm_runV (as := []) (st := []) cl_4 lk_X5_tag_X5_reduce_45 rfl dX5_tag_147 rfl (Nat.le_of_ble_eq_true rfl) k80) rfl (fun h83 p84 => ?_)
        have k85 : mm_kd h83 b66 = 4 := mm_kd_app p84 k80 (by decide)
        have k86 : mm_kd h83 b67 = 5 := mm_kd_app p84 k81 (by decide)
        have k87 : mm_kd h83 b68 = 5 := mm_kd_app p84 k82 (by decide)
        refine ok_aload_n (q := 151) dX5_tag_150 rfl rfl ?_
        refine ok_aload_n (q := 152) dX5_tag_151 rfl rfl ?_
        refine ok_aload_n (q := 153) dX5_tag_152 rfl rfl ?_
        refine mm_cv (q := 156) (mt_X5_putSum G b66 b67 b68 h83 k85 k86 k87) (mm_runV (as := [.ref b67, .ref b68]) (st := []) cl_4 lk_X5_tag_X5_putSum_48 rfl dX5_tag_153 rfl (Nat.le_of_ble_eq_true rfl) k85) rfl (fun h88 p89 => ?_)
        have k90 : mm_kd h88 b66 = 4 := mm_kd_app p89 k85 (by decide)
        have k91 : mm_kd h88 b67 = 5 := mm_kd_app p89 k86 (by decide)
        have k92 : mm_kd h88 b68 = 5 := mm_kd_app p89 k87 (by decide)
        exact ok_ret dX5_tag_156 rfl
