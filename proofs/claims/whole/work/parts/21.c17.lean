def jn_X12_endMessage_47 (a0 : Nat) (x1 : Int32) (h : mm_H) : mm_O := mm_qv (bd_X12_writeRecord a0 x1 22 h) (fun h11 =>
  some (none, h11))
set_option maxHeartbeats 4000000 in
set_option maxRecDepth 100000 in
theorem oj_X12_endMessage_47 {G : mm_G}   (a0 : Nat) (x1 : Int32) (h : mm_H) (k_a0 : mm_kd h a0 = 11) : mm_Ok G my_X12_endMessage 47 [.ref a0, .int x1, mm_U] [] h (jn_X12_endMessage_47 a0 x1 h) := by
  unfold jn_X12_endMessage_47
  refine ok_aload_n (q := 48) dX12_endMessage_47 rfl rfl ?_
  refine ok_iload_n (q := 49) dX12_endMessage_48 rfl rfl ?_
  refine ok_bipush (q := 51) (v := 22) dX12_endMessage_49 cb_22 rfl ?_
  refine mm_cv (q := 54) (mt_X12_writeRecord G a0 x1 22 h k_a0) (mm_runV (as := [.int x1, .int 22]) (st := []) cl_11 lk_X12_endMessage_X12_writeRecord_397 rfl dX12_endMessage_51 rfl (Nat.le_of_ble_eq_true rfl) k_a0) rfl (fun h11 p12 => ?_)
  have k13 : mm_kd h11 a0 = 11 := mm_kd_app p12 k_a0 (by decide)
  exact ok_ret dX12_endMessage_54 rfl
def bd_X12_endMessage (a0 : Nat) (x1 : Int32) (x2 : Int32) (h : mm_H) : mm_O := mm_gr h a0 57 (fun b1 =>
  if 32 ≤ b1 ∧ mm_in (2 : Int32) (mm_ln h b1) = true then (mm_bh (mm_si h b1 (mm_n (2 : Int32)) (mm_b8 (mm_b8 (mm_shr ((mm_i h a0 58) - (4 : Int32)) (8 : Int32))))) (fun h4 =>
  mm_gr h4 a0 57 (fun b6 =>
  if 32 ≤ b6 ∧ mm_in (3 : Int32) (mm_ln h4 b6) = true then (mm_bh (mm_si h4 b6 (mm_n (3 : Int32)) (mm_b8 (mm_b8 ((mm_i h4 a0 58) - (4 : Int32))))) (fun h9 =>
  if x2 = 0 then
  (jn_X12_endMessage_47 a0 x1 h9)
  else
  (mm_gr h9 a0 57 (fun b14 =>
  mm_qv (bd_X12_append a0 x1 b14 0 (mm_i h9 a0 58) h9) (fun h16 =>
  jn_X12_endMessage_47 a0 x1 h16))))) else none))) else none)
set_option maxHeartbeats 4000000 in
set_option maxRecDepth 100000 in
theorem mt_X12_endMessage (G : mm_G) (a0 : Nat) (x1 : Int32) (x2 : Int32) (h : mm_H) (k_a0 : mm_kd h a0 = 11) : mm_Met G my_X12_endMessage [.ref a0, .int x1, .int x2] h (bd_X12_endMessage a0 x1 x2 h) := by
  refine mm_met (ls := [.ref a0, .int x1, .int x2]) pn_RX12 (Nat.le_of_ble_eq_true rfl) rfl ?_
  unfold bd_X12_endMessage
  refine ok_aload_n (q := 1) dX12_endMessage_0 rfl rfl ?_
  refine ok_getR cl_11 (q := 4) (k := 57) dX12_endMessage_1 (Nat.le_of_ble_eq_true rfl) wd_1089 (fun _ _ _ => rfl) kt_11_57 k_a0 rfl (fun b1 k2 => ?_)
  refine ok_iconst (q := 5) (v := 2) dX12_endMessage_4 ci_2 rfl ?_
  refine ok_aload_n (q := 6) dX12_endMessage_5 rfl rfl ?_
  refine ok_getI cl_11 (q := 9) (k := 58) dX12_endMessage_6 (Nat.le_of_ble_eq_true rfl) wd_1090 (fun _ _ _ => rfl) k_a0 rfl ?_
  refine ok_iconst (q := 10) (v := 4) dX12_endMessage_9 ci_4 rfl ?_
  refine ok_isub (q := 11) dX12_endMessage_10 rfl ?_
  refine ok_bipush (q := 13) (v := 8) dX12_endMessage_11 cb_8 rfl ?_
  refine ok_ishr (q := 14) dX12_endMessage_13 rfl ?_
  refine ok_i2b (q := 15) dX12_endMessage_14 rfl ?_
  refine mm_ck (fun c3 => ?_)
  refine ok_bast (q := 16) dX12_endMessage_15 k2 c3.1 c3.2 rfl (bh_ok (fun h4 e5 => ?_))
  have e5 : h4.1 = h.1 := e5
  refine ok_aload_n (q := 17) dX12_endMessage_16 rfl rfl ?_
  refine ok_getR cl_11 (q := 20) (k := 57) dX12_endMessage_17 (Nat.le_of_ble_eq_true rfl) wd_1089 (fun _ _ _ => rfl) kt_11_57 (mm_ke e5 k_a0) rfl (fun b6 k7 => ?_)
  refine ok_iconst (q := 21) (v := 3) dX12_endMessage_20 ci_3 rfl ?_
  refine ok_aload_n (q := 22) dX12_endMessage_21 rfl rfl ?_
  refine ok_getI cl_11 (q := 25) (k := 58) dX12_endMessage_22 (Nat.le_of_ble_eq_true rfl) wd_1090 (fun _ _ _ => rfl) (mm_ke e5 k_a0) rfl ?_
  refine ok_iconst (q := 26) (v := 4) dX12_endMessage_25 ci_4 rfl ?_
  refine ok_isub (q := 27) dX12_endMessage_26 rfl ?_
  refine ok_i2b (q := 28) dX12_endMessage_27 rfl ?_
  refine mm_ck (fun c8 => ?_)
  refine ok_bast (q := 29) dX12_endMessage_28 (mm_ke e5 (mm_ke e5.symm k7)) c8.1 c8.2 rfl (bh_ok (fun h9 e10 => ?_))
  have e10 : h9.1 = h.1 := e10.trans e5
  refine ok_iload_n (q := 30) dX12_endMessage_29 rfl rfl ?_
  refine ok_if_eq (q := 33) (t := 47) dX12_endMessage_30 rfl rfl ?_ ?_
  · refine mm_wk [true, true, false] (ls' := [.ref a0, .int x1, mm_U]) rfl ?_
    exact oj_X12_endMessage_47 a0 x1 h9 (mm_ke e10 k_a0)
  · refine ok_aload_n (q := 34) dX12_endMessage_33 rfl rfl ?_
    refine ok_iload_n (q := 35) dX12_endMessage_34 rfl rfl ?_
    refine ok_aload_n (q := 36) dX12_endMessage_35 rfl rfl ?_
    refine ok_getR cl_11 (q := 39) (k := 57) dX12_endMessage_36 (Nat.le_of_ble_eq_true rfl) wd_1089 (fun _ _ _ => rfl) kt_11_57 (mm_ke e10 k_a0) rfl (fun b14 k15 => ?_)
    refine ok_iconst (q := 40) (v := 0) dX12_endMessage_39 ci_0 rfl ?_
    refine ok_aload_n (q := 41) dX12_endMessage_40 rfl rfl ?_
    refine ok_getI cl_11 (q := 44) (k := 58) dX12_endMessage_41 (Nat.le_of_ble_eq_true rfl) wd_1090 (fun _ _ _ => rfl) (mm_ke e10 k_a0) rfl ?_
    refine mm_cv (q := 47) (mt_X12_append G a0 x1 b14 0 (mm_i h9 a0 58) h9 (mm_ke e10 k_a0) (mm_ke e10 (mm_ke e10.symm k15))) (mm_runV (as := [.int x1, .ref b14, .int 0, .int (mm_i h9 a0 58)]) (st := []) cl_11 lk_X12_endMessage_X12_append_393 rfl dX12_endMessage_44 rfl (Nat.le_of_ble_eq_true rfl) (mm_ke e10 k_a0)) rfl (fun h16 p17 => ?_)
    have k18 : mm_kd h16 a0 = 11 := mm_kd_app p17 (mm_ke e10 k_a0) (by decide)
    refine mm_wk [true, true, false] (ls' := [.ref a0, .int x1, mm_U]) rfl ?_
    exact oj_X12_endMessage_47 a0 x1 h16 k18
def lp_X12_sayRow_3  : Nat → Nat → Nat → Int32 → Int32 → Int32 → mm_H → mm_O
  | 0, _, _, _, _, _, _ => none
  | n + 1, a0, a1, x2, x3, x4, h => if x3 ≤ x4 then
  (some (none, h))
  else
  (if mm_in (x2 + x4) (mm_ln h a1) = true then (mm_qv (bd_X12_sayByte a0 (mm_i h a1 (mm_n (x2 + x4))) h) (fun h2 =>
  lp_X12_sayRow_3 n a0 a1 x2 x3 (x4 + 1) h2)) else none)
set_option maxHeartbeats 4000000 in
set_option maxRecDepth 100000 in
theorem ol_X12_sayRow_3 {G : mm_G}   : ∀ (n : Nat) (a0 : Nat) (a1 : Nat) (x2 : Int32) (x3 : Int32) (x4 : Int32) (h : mm_H), mm_kd h a0 = 11 → mm_kd h a1 = 21 → mm_Ok G my_X12_sayRow 3 [.ref a0, .ref a1, .int x2, .int x3, .int x4] [] h (lp_X12_sayRow_3 n a0 a1 x2 x3 x4 h) := by
  intro n
  induction n with
  | zero => intro a0 a1 x2 x3 x4 h k_a0 k_a1; exact mm_no
  | succ n ih =>
    intro a0 a1 x2 x3 x4 h k_a0 k_a1
    rw [lp_X12_sayRow_3]
    refine ok_iload (q := 5) dX12_sayRow_3 rfl rfl ?_
    refine ok_iload_n (q := 6) dX12_sayRow_5 rfl rfl ?_
    refine ok_icmp_ge (q := 9) (t := 25) dX12_sayRow_6 rfl rfl ?_ ?_
    · exact ok_ret dX12_sayRow_25 rfl
    · refine ok_aload_n (q := 10) dX12_sayRow_9 rfl rfl ?_
      refine ok_aload_n (q := 11) dX12_sayRow_10 rfl rfl ?_
      refine ok_iload_n (q := 12) dX12_sayRow_11 rfl rfl ?_
      refine ok_iload (q := 14) dX12_sayRow_12 rfl rfl ?_
      refine ok_iadd (q := 15) dX12_sayRow_14 rfl ?_
      refine mm_ck (fun c1 => ?_)
      refine ok_bald (q := 16) dX12_sayRow_15 k_a1 c1 rfl ?_
      refine mm_cv (q := 19) (mt_X12_sayByte G a0 (mm_i h a1 (mm_n (x2 + x4))) h k_a0) (mm_runV (as := [.int (mm_i h a1 (mm_n (x2 + x4)))]) (st := []) cl_11 lk_X12_sayRow_X12_sayByte_377 rfl dX12_sayRow_16 rfl (Nat.le_of_ble_eq_true rfl) k_a0) rfl (fun h2 p3 => ?_)
      have k4 : mm_kd h2 a0 = 11 := mm_kd_app p3 k_a0 (by decide)
      have k5 : mm_kd h2 a1 = 21 := mm_kd_app p3 k_a1 (by decide)
      refine ok_iinc (q := 22) (v := x4 + 1) (ls' := [.ref a0, .ref a1, .int x2, .int x3, .int (x4 + 1)]) dX12_sayRow_19 rfl (congrArg (x4 + ·) ci_1) (Nat.le_of_ble_eq_true rfl) rfl rfl ?_
      refine ok_goto (q := 3) dX12_sayRow_22 rfl ?_
      exact ih a0 a1 x2 x3 (x4 + 1) h2 k4 k5
def bd_X12_sayRow (a0 : Nat) (a1 : Nat) (x2 : Int32) (x3 : Int32) (h : mm_H) : mm_O := lp_X12_sayRow_3  mm_fu a0 a1 x2 x3 0 h
set_option maxHeartbeats 4000000 in
set_option maxRecDepth 100000 in
theorem mt_X12_sayRow (G : mm_G) (a0 : Nat) (a1 : Nat) (x2 : Int32) (x3 : Int32) (h : mm_H) (k_a0 : mm_kd h a0 = 11) (k_a1 : mm_kd h a1 = 21) : mm_Met G my_X12_sayRow [.ref a0, .ref a1, .int x2, .int x3] h (bd_X12_sayRow a0 a1 x2 x3 h) := by
  refine mm_met (ls := [.ref a0, .ref a1, .int x2, .int x3, mm_U]) pn_RX12 (Nat.le_of_ble_eq_true rfl) rfl ?_
  unfold bd_X12_sayRow
  refine ok_iconst (q := 1) (v := 0) dX12_sayRow_0 ci_0 rfl ?_
  refine ok_istore (q := 3) (ls' := [.ref a0, .ref a1, .int x2, .int x3, .int 0]) dX12_sayRow_1 (Nat.le_of_ble_eq_true rfl) rfl rfl ?_
  refine ol_X12_sayRow_3  mm_fu a0 a1 x2 x3 0 h k_a0 k_a1
def bd_X12_bind (a0 : Nat) (x1 : Int32) (a2 : Nat) (x3 : Int32) (x4 : Int32) (h : mm_H) : mm_O := mm_qv (bd_X12_beginSchedule a0 x1 h) (fun h1 =>
  mm_gr h1 a0 41 (fun b5 =>
  mm_gr h1 a0 40 (fun b7 =>
  mm_gr h1 a0 43 (fun b9 =>
  mm_qv (bd_X12_expand a0 b5 0 9 b7 32 b9 0 32 h1) (fun h11 =>
  mm_gr h11 a0 43 (fun b15 =>
  mm_gr h11 a0 40 (fun b17 =>
  mm_gr h11 a0 45 (fun b19 =>
  mm_qv (bd_X12_expand a0 b15 0 7 b17 0 b19 0 32 h11) (fun h21 =>
  mm_gr h21 a0 44 (fun b25 =>
  mm_qv (bd_X12_sum a0 a2 x3 x4 b25 0 h21) (fun h27 =>
  mm_gr h27 a0 45 (fun b31 =>
  mm_gr h27 a0 44 (fun b33 =>
  mm_gr h27 a0 59 (fun b35 =>
  mm_qv (bd_X12_sign a0 b31 0 32 b33 0 32 b35 0 h27) (fun h37 =>
  some (none, h37))))))))))))))))
set_option maxHeartbeats 4000000 in
set_option maxRecDepth 100000 in
theorem mt_X12_bind (G : mm_G) (a0 : Nat) (x1 : Int32) (a2 : Nat) (x3 : Int32) (x4 : Int32) (h : mm_H) (k_a0 : mm_kd h a0 = 11) (k_a2 : mm_kd h a2 = 21) : mm_Met G my_X12_bind [.ref a0, .int x1, .ref a2, .int x3, .int x4] h (bd_X12_bind a0 x1 a2 x3 x4 h) := by
  refine mm_met (ls := [.ref a0, .int x1, .ref a2, .int x3, .int x4]) pn_RX12 (Nat.le_of_ble_eq_true rfl) rfl ?_
  unfold bd_X12_bind
  refine ok_aload_n (q := 1) dX12_bind_0 rfl rfl ?_
  refine ok_iload_n (q := 2) dX12_bind_1 rfl rfl ?_
  refine mm_cv (q := 5) (mt_X12_beginSchedule G a0 x1 h k_a0) (mm_runV (as := [.int x1]) (st := []) cl_11 lk_X12_bind_X12_beginSchedule_401 rfl dX12_bind_2 rfl (Nat.le_of_ble_eq_true rfl) k_a0) rfl (fun h1 p2 => ?_)
  have k3 : mm_kd h1 a0 = 11 := mm_kd_app p2 k_a0 (by decide)
  have k4 : mm_kd h1 a2 = 21 := mm_kd_app p2 k_a2 (by decide)
  refine ok_aload_n (q := 6) dX12_bind_5 rfl rfl ?_
  refine ok_aload_n (q := 7) dX12_bind_6 rfl rfl ?_
  refine ok_getR cl_11 (q := 10) (k := 41) dX12_bind_7 (Nat.le_of_ble_eq_true rfl) wd_1073 (fun _ _ _ => rfl) kt_11_41 k3 rfl (fun b5 k6 => ?_)
  refine ok_iconst (q := 11) (v := 0) dX12_bind_10 ci_0 rfl ?_
  refine ok_bipush (q := 13) (v := 9) dX12_bind_11 cb_9 rfl ?_
  refine ok_aload_n (q := 14) dX12_bind_13 rfl rfl ?_
  refine ok_getR cl_11 (q := 17) (k := 40) dX12_bind_14 (Nat.le_of_ble_eq_true rfl) wd_1072 (fun _ _ _ => rfl) kt_11_40 k3 rfl (fun b7 k8 => ?_)
  refine ok_bipush (q := 19) (v := 32) dX12_bind_17 cb_32 rfl ?_
  refine ok_aload_n (q := 20) dX12_bind_19 rfl rfl ?_
  refine ok_getR cl_11 (q := 23) (k := 43) dX12_bind_20 (Nat.le_of_ble_eq_true rfl) wd_1075 (fun _ _ _ => rfl) kt_11_43 k3 rfl (fun b9 k10 => ?_)
  refine ok_iconst (q := 24) (v := 0) dX12_bind_23 ci_0 rfl ?_
  refine ok_bipush (q := 26) (v := 32) dX12_bind_24 cb_32 rfl ?_
  refine mm_cv (q := 29) (mt_X12_expand G a0 b5 0 9 b7 32 b9 0 32 h1 k3 k6 k8 k10) (mm_runV (as := [.ref b5, .int 0, .int 9, .ref b7, .int 32, .ref b9, .int 0, .int 32]) (st := []) cl_11 lk_X12_bind_X12_expand_330 rfl dX12_bind_26 rfl (Nat.le_of_ble_eq_true rfl) k3) rfl (fun h11 p12 => ?_)
  have k13 : mm_kd h11 a0 = 11 := mm_kd_app p12 k3 (by decide)
  have k14 : mm_kd h11 a2 = 21 := mm_kd_app p12 k4 (by decide)
  refine ok_aload_n (q := 30) dX12_bind_29 rfl rfl ?_
  refine ok_aload_n (q := 31) dX12_bind_30 rfl rfl ?_
  refine ok_getR cl_11 (q := 34) (k := 43) dX12_bind_31 (Nat.le_of_ble_eq_true rfl) wd_1075 (fun _ _ _ => rfl) kt_11_43 k13 rfl (fun b15 k16 => ?_)
  refine ok_iconst (q := 35) (v := 0) dX12_bind_34 ci_0 rfl ?_
  refine ok_bipush (q := 37) (v := 7) dX12_bind_35 cb_7 rfl ?_
  refine ok_aload_n (q := 38) dX12_bind_37 rfl rfl ?_
  refine ok_getR cl_11 (q := 41) (k := 40) dX12_bind_38 (Nat.le_of_ble_eq_true rfl) wd_1072 (fun _ _ _ => rfl) kt_11_40 k13 rfl (fun b17 k18 => ?_)
  refine ok_iconst (q := 42) (v := 0) dX12_bind_41 ci_0 rfl ?_
  refine ok_aload_n (q := 43) dX12_bind_42 rfl rfl ?_
  refine ok_getR cl_11 (q := 46) (k := 45) dX12_bind_43 (Nat.le_of_ble_eq_true rfl) wd_1077 (fun _ _ _ => rfl) kt_11_45 k13 rfl (fun b19 k20 => ?_)
  refine ok_iconst (q := 47) (v := 0) dX12_bind_46 ci_0 rfl ?_
  refine ok_bipush (q := 49) (v := 32) dX12_bind_47 cb_32 rfl ?_
  refine mm_cv (q := 52) (mt_X12_expand G a0 b15 0 7 b17 0 b19 0 32 h11 k13 k16 k18 k20) (mm_runV (as := [.ref b15, .int 0, .int 7, .ref b17, .int 0, .ref b19, .int 0, .int 32]) (st := []) cl_11 lk_X12_bind_X12_expand_330 rfl dX12_bind_49 rfl (Nat.le_of_ble_eq_true rfl) k13) rfl (fun h21 p22 => ?_)
  have k23 : mm_kd h21 a0 = 11 := mm_kd_app p22 k13 (by decide)
  have k24 : mm_kd h21 a2 = 21 := mm_kd_app p22 k14 (by decide)
  refine ok_aload_n (q := 53) dX12_bind_52 rfl rfl ?_
  refine ok_aload_n (q := 54) dX12_bind_53 rfl rfl ?_
  refine ok_iload_n (q := 55) dX12_bind_54 rfl rfl ?_
  refine ok_iload (q := 57) dX12_bind_55 rfl rfl ?_
  refine ok_aload_n (q := 58) dX12_bind_57 rfl rfl ?_
  refine ok_getR cl_11 (q := 61) (k := 44) dX12_bind_58 (Nat.le_of_ble_eq_true rfl) wd_1076 (fun _ _ _ => rfl) kt_11_44 k23 rfl (fun b25 k26 => ?_)
  refine ok_iconst (q := 62) (v := 0) dX12_bind_61 ci_0 rfl ?_
  refine mm_cv (q := 65) (mt_X12_sum G a0 a2 x3 x4 b25 0 h21 k23 k24 k26) (mm_runV (as := [.ref a2, .int x3, .int x4, .ref b25, .int 0]) (st := []) cl_11 lk_X12_bind_X12_sum_283 rfl dX12_bind_62 rfl (Nat.le_of_ble_eq_true rfl) k23) rfl (fun h27 p28 => ?_)
  have k29 : mm_kd h27 a0 = 11 := mm_kd_app p28 k23 (by decide)
  have k30 : mm_kd h27 a2 = 21 := mm_kd_app p28 k24 (by decide)
  refine ok_aload_n (q := 66) dX12_bind_65 rfl rfl ?_
  refine ok_aload_n (q := 67) dX12_bind_66 rfl rfl ?_
  refine ok_getR cl_11 (q := 70) (k := 45) dX12_bind_67 (Nat.le_of_ble_eq_true rfl) wd_1077 (fun _ _ _ => rfl) kt_11_45 k29 rfl (fun b31 k32 => ?_)
  refine ok_iconst (q := 71) (v := 0) dX12_bind_70 ci_0 rfl ?_
  refine ok_bipush (q := 73) (v := 32) dX12_bind_71 cb_32 rfl ?_
  refine ok_aload_n (q := 74) dX12_bind_73 rfl rfl ?_
  refine ok_getR cl_11 (q := 77) (k := 44) dX12_bind_74 (Nat.le_of_ble_eq_true rfl) wd_1076 (fun _ _ _ => rfl) kt_11_44 k29 rfl (fun b33 k34 => ?_)
  refine ok_iconst (q := 78) (v := 0) dX12_bind_77 ci_0 rfl ?_
  refine ok_bipush (q := 80) (v := 32) dX12_bind_78 cb_32 rfl ?_
  refine ok_aload_n (q := 81) dX12_bind_80 rfl rfl ?_
  refine ok_getR cl_11 (q := 84) (k := 59) dX12_bind_81 (Nat.le_of_ble_eq_true rfl) wd_1091 (fun _ _ _ => rfl) kt_11_59 k29 rfl (fun b35 k36 => ?_)
  refine ok_iconst (q := 85) (v := 0) dX12_bind_84 ci_0 rfl ?_
  refine mm_cv (q := 88) (mt_X12_sign G a0 b31 0 32 b33 0 32 b35 0 h27 k29 k32 k34 k36) (mm_runV (as := [.ref b31, .int 0, .int 32, .ref b33, .int 0, .int 32, .ref b35, .int 0]) (st := []) cl_11 lk_X12_bind_X12_sign_326 rfl dX12_bind_85 rfl (Nat.le_of_ble_eq_true rfl) k29) rfl (fun h37 p38 => ?_)
  have k39 : mm_kd h37 a0 = 11 := mm_kd_app p38 k29 (by decide)
  have k40 : mm_kd h37 a2 = 21 := mm_kd_app p38 k30 (by decide)
  exact ok_ret dX12_bind_88 rfl
def bd_X12_sayHello (a0 : Nat) (x1 : Int32) (h : mm_H) : mm_O := mm_gr h a0 8 (fun b1 =>
  if mm_in x1 (mm_ln h b1) = true then (mm_bi (mm_i h b1 (mm_n x1)) (fun v4 =>
  mm_qv (bd_X12_beginMessage a0 1 h) (fun h5 =>
  mm_qv (bd_X12_sayTwo a0 771 h5) (fun h8 =>
  mm_gr h8 a0 9 (fun b11 =>
  mm_qv (bd_X12_sayRow a0 b11 ((32 : Int32) * x1) 32 h8) (fun h13 =>
  mm_qv (bd_X12_sayByte a0 0 h13) (fun h16 =>
  mm_qv (bd_X12_sayTwo a0 2 h16) (fun h19 =>
  mm_qv (bd_X12_sayTwo a0 4867 h19) (fun h22 =>
  mm_qv (bd_X12_sayTwo a0 256 h22) (fun h25 =>
  mm_qv (bd_X12_sayTwo a0 ((60 : Int32) + v4) h25) (fun h28 =>
  mm_qv (bd_X12_sayTwo a0 43 h28) (fun h31 =>
  mm_qv (bd_X12_sayTwo a0 3 h31) (fun h34 =>
  mm_qv (bd_X12_sayByte a0 2 h34) (fun h37 =>
  mm_qv (bd_X12_sayTwo a0 772 h37) (fun h40 =>
  mm_qv (bd_X12_sayTwo a0 45 h40) (fun h43 =>
  mm_qv (bd_X12_sayTwo a0 2 h43) (fun h46 =>
  mm_qv (bd_X12_sayTwo a0 256 h46) (fun h49 =>
  mm_qv (bd_X12_sayTwo a0 41 h49) (fun h52 =>
  mm_qv (bd_X12_sayTwo a0 (v4 + (43 : Int32)) h52) (fun h55 =>
  mm_qv (bd_X12_sayTwo a0 (v4 + (6 : Int32)) h55) (fun h58 =>
  mm_qv (bd_X12_sayTwo a0 v4 h58) (fun h61 =>
  mm_gr h61 a0 7 (fun b64 =>
  mm_qv (bd_X12_sayRow a0 b64 ((16 : Int32) * x1) v4 h61) (fun h66 =>
  mm_qv (bd_X12_sayTwo a0 0 h66) (fun h69 =>
  mm_qv (bd_X12_sayTwo a0 0 h69) (fun h72 =>
  mm_gr h72 a0 57 (fun b75 =>
  if 32 ≤ b75 ∧ mm_in (2 : Int32) (mm_ln h72 b75) = true then (mm_bh (mm_si h72 b75 (mm_n (2 : Int32)) (mm_b8 (0 : Int32))) (fun h78 =>
  mm_gr h78 a0 57 (fun b80 =>
  if 32 ≤ b80 ∧ mm_in (3 : Int32) (mm_ln h78 b80) = true then (mm_bh (mm_si h78 b80 (mm_n (3 : Int32)) (mm_b8 (mm_b8 (((mm_i h78 a0 58) + (35 : Int32)) - (4 : Int32))))) (fun h83 =>
  mm_gr h83 a0 57 (fun b85 =>
  mm_qv (bd_X12_bind a0 x1 b85 0 (mm_i h83 a0 58) h83) (fun h87 =>
  mm_qv (bd_X12_sayTwo a0 33 h87) (fun h90 =>
  mm_qv (bd_X12_sayByte a0 32 h90) (fun h93 =>
  mm_gr h93 a0 59 (fun b96 =>
  mm_qv (bd_X12_sayRow a0 b96 0 32 h93) (fun h98 =>
  mm_qv (bd_X12_endMessage a0 x1 1 h98) (fun h101 =>
  some (none, h101)))))))))) else none))) else none))))))))))))))))))))))))))) else none)
set_option maxHeartbeats 4000000 in
set_option maxRecDepth 100000 in
theorem mt_X12_sayHello (G : mm_G) (a0 : Nat) (x1 : Int32) (h : mm_H) (k_a0 : mm_kd h a0 = 11) : mm_Met G my_X12_sayHello [.ref a0, .int x1] h (bd_X12_sayHello a0 x1 h) := by
  refine mm_met (ls := [.ref a0, .int x1, mm_U]) pn_RX12 (Nat.le_of_ble_eq_true rfl) rfl ?_
  unfold bd_X12_sayHello
  refine ok_aload_n (q := 1) dX12_sayHello_0 rfl rfl ?_
  refine ok_getR cl_11 (q := 4) (k := 8) dX12_sayHello_1 (Nat.le_of_ble_eq_true rfl) wd_1040 (fun _ _ _ => rfl) kt_11_8 k_a0 rfl (fun b1 k2 => ?_)
  refine ok_iload_n (q := 5) dX12_sayHello_4 rfl rfl ?_
  refine mm_ck (fun c3 => ?_)
  refine ok_iald (q := 6) dX12_sayHello_5 k2 c3 rfl ?_
  refine bi_ok (fun v4 => ?_)
  refine ok_istore_n (q := 7) (ls' := [.ref a0, .int x1, .int v4]) dX12_sayHello_6 (Nat.le_of_ble_eq_true rfl) rfl rfl ?_
  refine ok_aload_n (q := 8) dX12_sayHello_7 rfl rfl ?_
  refine ok_iconst (q := 9) (v := 1) dX12_sayHello_8 ci_1 rfl ?_
  refine mm_cv (q := 12) (mt_X12_beginMessage G a0 1 h k_a0) (mm_runV (as := [.int 1]) (st := []) cl_11 lk_X12_sayHello_X12_beginMessage_404 rfl dX12_sayHello_9 rfl (Nat.le_of_ble_eq_true rfl) k_a0) rfl (fun h5 p6 => ?_)
  have k7 : mm_kd h5 a0 = 11 := mm_kd_app p6 k_a0 (by decide)
  refine ok_aload_n (q := 13) dX12_sayHello_12 rfl rfl ?_
  refine ok_sipush (q := 16) (v := 771) dX12_sayHello_13 cs_771 rfl ?_
  refine mm_cv (q := 19) (mt_X12_sayTwo G a0 771 h5 k7) (mm_runV (as := [.int 771]) (st := []) cl_11 lk_X12_sayHello_X12_sayTwo_390 rfl dX12_sayHello_16 rfl (Nat.le_of_ble_eq_true rfl) k7) rfl (fun h8 p9 => ?_)
  have k10 : mm_kd h8 a0 = 11 := mm_kd_app p9 k7 (by decide)
  refine ok_aload_n (q := 20) dX12_sayHello_19 rfl rfl ?_
  refine ok_aload_n (q := 21) dX12_sayHello_20 rfl rfl ?_
  refine ok_getR cl_11 (q := 24) (k := 9) dX12_sayHello_21 (Nat.le_of_ble_eq_true rfl) wd_1041 (fun _ _ _ => rfl) kt_11_9 k10 rfl (fun b11 k12 => ?_)
  refine ok_bipush (q := 26) (v := 32) dX12_sayHello_24 cb_32 rfl ?_
  refine ok_iload_n (q := 27) dX12_sayHello_26 rfl rfl ?_
  refine ok_imul (q := 28) dX12_sayHello_27 rfl ?_
  refine ok_bipush (q := 30) (v := 32) dX12_sayHello_28 cb_32 rfl ?_
  refine mm_cv (q := 33) (mt_X12_sayRow G a0 b11 ((32 : Int32) * x1) 32 h8 k10 k12) (mm_runV (as := [.ref b11, .int ((32 : Int32) * x1), .int 32]) (st := []) cl_11 lk_X12_sayHello_X12_sayRow_407 rfl dX12_sayHello_30 rfl (Nat.le_of_ble_eq_true rfl) k10) rfl (fun h13 p14 => ?_)
  have k15 : mm_kd h13 a0 = 11 := mm_kd_app p14 k10 (by decide)
  refine ok_aload_n (q := 34) dX12_sayHello_33 rfl rfl ?_
  refine ok_iconst (q := 35) (v := 0) dX12_sayHello_34 ci_0 rfl ?_
  refine mm_cv (q := 38) (mt_X12_sayByte G a0 0 h13 k15) (mm_runV (as := [.int 0]) (st := []) cl_11 lk_X12_sayHello_X12_sayByte_377 rfl dX12_sayHello_35 rfl (Nat.le_of_ble_eq_true rfl) k15) rfl (fun h16 p17 => ?_)
  have k18 : mm_kd h16 a0 = 11 := mm_kd_app p17 k15 (by decide)
  refine ok_aload_n (q := 39) dX12_sayHello_38 rfl rfl ?_
  refine ok_iconst (q := 40) (v := 2) dX12_sayHello_39 ci_2 rfl ?_
  refine mm_cv (q := 43) (mt_X12_sayTwo G a0 2 h16 k18) (mm_runV (as := [.int 2]) (st := []) cl_11 lk_X12_sayHello_X12_sayTwo_390 rfl dX12_sayHello_40 rfl (Nat.le_of_ble_eq_true rfl) k18) rfl (fun h19 p20 => ?_)
  have k21 : mm_kd h19 a0 = 11 := mm_kd_app p20 k18 (by decide)
  refine ok_aload_n (q := 44) dX12_sayHello_43 rfl rfl ?_
  refine ok_sipush (q := 47) (v := 4867) dX12_sayHello_44 cs_4867 rfl ?_
  refine mm_cv (q := 50) (mt_X12_sayTwo G a0 4867 h19 k21) (mm_runV (as := [.int 4867]) (st := []) cl_11 lk_X12_sayHello_X12_sayTwo_390 rfl dX12_sayHello_47 rfl (Nat.le_of_ble_eq_true rfl) k21) rfl (fun h22 p23 => ?_)
  have k24 : mm_kd h22 a0 = 11 := mm_kd_app p23 k21 (by decide)
  refine ok_aload_n (q := 51) dX12_sayHello_50 rfl rfl ?_
  refine ok_sipush (q := 54) (v := 256) dX12_sayHello_51 cs_256 rfl ?_
  refine mm_cv (q := 57) (mt_X12_sayTwo G a0 256 h22 k24) (mm_runV (as := [.int 256]) (st := []) cl_11 lk_X12_sayHello_X12_sayTwo_390 rfl dX12_sayHello_54 rfl (Nat.le_of_ble_eq_true rfl) k24) rfl (fun h25 p26 => ?_)
  have k27 : mm_kd h25 a0 = 11 := mm_kd_app p26 k24 (by decide)
  refine ok_aload_n (q := 58) dX12_sayHello_57 rfl rfl ?_
  refine ok_bipush (q := 60) (v := 60) dX12_sayHello_58 cb_60 rfl ?_
  refine ok_iload_n (q := 61) dX12_sayHello_60 rfl rfl ?_
  refine ok_iadd (q := 62) dX12_sayHello_61 rfl ?_
  refine mm_cv (q := 65) (mt_X12_sayTwo G a0 ((60 : Int32) + v4) h25 k27) (mm_runV (as := [.int ((60 : Int32) + v4)]) (st := []) cl_11 lk_X12_sayHello_X12_sayTwo_390 rfl dX12_sayHello_62 rfl (Nat.le_of_ble_eq_true rfl) k27) rfl (fun h28 p29 => ?_)
  have k30 : mm_kd h28 a0 = 11 := mm_kd_app p29 k27 (by decide)
  refine ok_aload_n (q := 66) dX12_sayHello_65 rfl rfl ?_
  refine ok_bipush (q := 68) (v := 43) dX12_sayHello_66 cb_43 rfl ?_
  refine mm_cv (q := 71) (mt_X12_sayTwo G a0 43 h28 k30) (mm_runV (as := [.int 43]) (st := []) cl_11 lk_X12_sayHello_X12_sayTwo_390 rfl dX12_sayHello_68 rfl (Nat.le_of_ble_eq_true rfl) k30) rfl (fun h31 p32 => ?_)
  have k33 : mm_kd h31 a0 = 11 := mm_kd_app p32 k30 (by decide)
  refine ok_aload_n (q := 72) dX12_sayHello_71 rfl rfl ?_
  refine ok_iconst (q := 73) (v := 3) dX12_sayHello_72 ci_3 rfl ?_
  refine mm_cv (q := 76) (mt_X12_sayTwo G a0 3 h31 k33) (mm_runV (as := [.int 3]) (st := []) cl_11 lk_X12_sayHello_X12_sayTwo_390 rfl dX12_sayHello_73 rfl (Nat.le_of_ble_eq_true rfl) k33) rfl (fun h34 p35 => ?_)
  have k36 : mm_kd h34 a0 = 11 := mm_kd_app p35 k33 (by decide)
  refine ok_aload_n (q := 77) dX12_sayHello_76 rfl rfl ?_
  refine ok_iconst (q := 78) (v := 2) dX12_sayHello_77 ci_2 rfl ?_
  refine mm_cv (q := 81) (mt_X12_sayByte G a0 2 h34 k36) (mm_runV (as := [.int 2]) (st := []) cl_11 lk_X12_sayHello_X12_sayByte_377 rfl dX12_sayHello_78 rfl (Nat.le_of_ble_eq_true rfl) k36) rfl (fun h37 p38 => ?_)
  have k39 : mm_kd h37 a0 = 11 := mm_kd_app p38 k36 (by decide)
  refine ok_aload_n (q := 82) dX12_sayHello_81 rfl rfl ?_
  refine ok_sipush (q := 85) (v := 772) dX12_sayHello_82 cs_772 rfl ?_
  refine mm_cv (q := 88) (mt_X12_sayTwo G a0 772 h37 k39) (mm_runV (as := [.int 772]) (st := []) cl_11 lk_X12_sayHello_X12_sayTwo_390 rfl dX12_sayHello_85 rfl (Nat.le_of_ble_eq_true rfl) k39) rfl (fun h40 p41 => ?_)
  have k42 : mm_kd h40 a0 = 11 := mm_kd_app p41 k39 (by decide)
  refine ok_aload_n (q := 89) dX12_sayHello_88 rfl rfl ?_
  refine ok_bipush (q := 91) (v := 45) dX12_sayHello_89 cb_45 rfl ?_
  refine mm_cv (q := 94) (mt_X12_sayTwo G a0 45 h40 k42) (mm_runV (as := [.int 45]) (st := []) cl_11 lk_X12_sayHello_X12_sayTwo_390 rfl dX12_sayHello_91 rfl (Nat.le_of_ble_eq_true rfl) k42) rfl (fun h43 p44 => ?_)
  have k45 : mm_kd h43 a0 = 11 := mm_kd_app p44 k42 (by decide)
  refine ok_aload_n (q := 95) dX12_sayHello_94 rfl rfl ?_
  refine ok_iconst (q := 96) (v := 2) dX12_sayHello_95 ci_2 rfl ?_
  refine mm_cv (q := 99) (mt_X12_sayTwo G a0 2 h43 k45) (mm_runV (as := [.int 2]) (st := []) cl_11 lk_X12_sayHello_X12_sayTwo_390 rfl dX12_sayHello_96 rfl (Nat.le_of_ble_eq_true rfl) k45) rfl (fun h46 p47 => ?_)
  have k48 : mm_kd h46 a0 = 11 := mm_kd_app p47 k45 (by decide)
  refine ok_aload_n (q := 100) dX12_sayHello_99 rfl rfl ?_
  refine ok_sipush (q := 103) (v := 256) dX12_sayHello_100 cs_256 rfl ?_
  refine mm_cv (q := 106) (mt_X12_sayTwo G a0 256 h46 k48) (mm_runV (as := [.int 256]) (st := []) cl_11 lk_X12_sayHello_X12_sayTwo_390 rfl dX12_sayHello_103 rfl (Nat.le_of_ble_eq_true rfl) k48) rfl (fun h49 p50 => ?_)
  have k51 : mm_kd h49 a0 = 11 := mm_kd_app p50 k48 (by decide)
  refine ok_aload_n (q := 107) dX12_sayHello_106 rfl rfl ?_
  refine ok_bipush (q := 109) (v := 41) dX12_sayHello_107 cb_41 rfl ?_
  refine mm_cv (q := 112) (mt_X12_sayTwo G a0 41 h49 k51) (mm_runV (as := [.int 41]) (st := []) cl_11 lk_X12_sayHello_X12_sayTwo_390 rfl dX12_sayHello_109 rfl (Nat.le_of_ble_eq_true rfl) k51) rfl (fun h52 p53 => ?_)
  have k54 : mm_kd h52 a0 = 11 := mm_kd_app p53 k51 (by decide)
  refine ok_aload_n (q := 113) dX12_sayHello_112 rfl rfl ?_
  refine ok_iload_n (q := 114) dX12_sayHello_113 rfl rfl ?_
  refine ok_bipush (q := 116) (v := 43) dX12_sayHello_114 cb_43 rfl ?_
  refine ok_iadd (q := 117) dX12_sayHello_116 rfl ?_
  refine mm_cv (q := 120) (mt_X12_sayTwo G a0 (v4 + (43 : Int32)) h52 k54) (mm_runV (as := [.int (v4 + (43 : Int32))]) (st := []) cl_11 lk_X12_sayHello_X12_sayTwo_390 rfl dX12_sayHello_117 rfl (Nat.le_of_ble_eq_true rfl) k54) rfl (fun h55 p56 => ?_)
  have k57 : mm_kd h55 a0 = 11 := mm_kd_app p56 k54 (by decide)
  refine ok_aload_n (q := 121) dX12_sayHello_120 rfl rfl ?_
  refine ok_iload_n (q := 122) dX12_sayHello_121 rfl rfl ?_
  refine ok_bipush (q := 124) (v := 6) dX12_sayHello_122 cb_6 rfl ?_
  refine ok_iadd (q := 125) dX12_sayHello_124 rfl ?_
  refine mm_cv (q := 128) (mt_X12_sayTwo G a0 (v4 + (6 : Int32)) h55 k57) (mm_runV (as := [.int (v4 + (6 : Int32))]) (st := []) cl_11 lk_X12_sayHello_X12_sayTwo_390 rfl dX12_sayHello_125 rfl (Nat.le_of_ble_eq_true rfl) k57) rfl (fun h58 p59 => ?_)
  have k60 : mm_kd h58 a0 = 11 := mm_kd_app p59 k57 (by decide)
  refine ok_aload_n (q := 129) dX12_sayHello_128 rfl rfl ?_
  refine ok_iload_n (q := 130) dX12_sayHello_129 rfl rfl ?_
  refine mm_cv (q := 133) (mt_X12_sayTwo G a0 v4 h58 k60) (mm_runV (as := [.int v4]) (st := []) cl_11 lk_X12_sayHello_X12_sayTwo_390 rfl dX12_sayHello_130 rfl (Nat.le_of_ble_eq_true rfl) k60) rfl (fun h61 p62 => ?_)
  have k63 : mm_kd h61 a0 = 11 := mm_kd_app p62 k60 (by decide)
  refine ok_aload_n (q := 134) dX12_sayHello_133 rfl rfl ?_
  refine ok_aload_n (q := 135) dX12_sayHello_134 rfl rfl ?_
  refine ok_getR cl_11 (q := 138) (k := 7) dX12_sayHello_135 (Nat.le_of_ble_eq_true rfl) wd_1039 (fun _ _ _ => rfl) kt_11_7 k63 rfl (fun b64 k65 => ?_)
  refine ok_bipush (q := 140) (v := 16) dX12_sayHello_138 cb_16 rfl ?_
  refine ok_iload_n (q := 141) dX12_sayHello_140 rfl rfl ?_
  refine ok_imul (q := 142) dX12_sayHello_141 rfl ?_
  refine ok_iload_n (q := 143) dX12_sayHello_142 rfl rfl ?_
  refine mm_cv (q := 146) (mt_X12_sayRow G a0 b64 ((16 : Int32) * x1) v4 h61 k63 k65) (mm_runV (as := [.ref b64, .int ((16 : Int32) * x1), .int v4]) (st := []) cl_11 lk_X12_sayHello_X12_sayRow_407 rfl dX12_sayHello_143 rfl (Nat.le_of_ble_eq_true rfl) k63) rfl (fun h66 p67 => ?_)
  have k68 : mm_kd h66 a0 = 11 := mm_kd_app p67 k63 (by decide)
  refine ok_aload_n (q := 147) dX12_sayHello_146 rfl rfl ?_
  refine ok_iconst (q := 148) (v := 0) dX12_sayHello_147 ci_0 rfl ?_
  refine mm_cv (q := 151) (mt_X12_sayTwo G a0 0 h66 k68) (mm_runV (as := [.int 0]) (st := []) cl_11 lk_X12_sayHello_X12_sayTwo_390 rfl dX12_sayHello_148 rfl (Nat.le_of_ble_eq_true rfl) k68) rfl (fun h69 p70 => ?_)
  have k71 : mm_kd h69 a0 = 11 := mm_kd_app p70 k68 (by decide)
  refine ok_aload_n (q := 152) dX12_sayHello_151 rfl rfl ?_
  refine ok_iconst (q := 153) (v := 0) dX12_sayHello_152 ci_0 rfl ?_
  refine mm_cv (q := 156) (mt_X12_sayTwo G a0 0 h69 k71) (mm_runV (as := [.int 0]) (st := []) cl_11 lk_X12_sayHello_X12_sayTwo_390 rfl dX12_sayHello_153 rfl (Nat.le_of_ble_eq_true rfl) k71) rfl (fun h72 p73 => ?_)
  have k74 : mm_kd h72 a0 = 11 := mm_kd_app p73 k71 (by decide)
  refine ok_aload_n (q := 157) dX12_sayHello_156 rfl rfl ?_
  refine ok_getR cl_11 (q := 160) (k := 57) dX12_sayHello_157 (Nat.le_of_ble_eq_true rfl) wd_1089 (fun _ _ _ => rfl) kt_11_57 k74 rfl (fun b75 k76 => ?_)
  refine ok_iconst (q := 161) (v := 2) dX12_sayHello_160 ci_2 rfl ?_
  refine ok_iconst (q := 162) (v := 0) dX12_sayHello_161 ci_0 rfl ?_
  refine mm_ck (fun c77 => ?_)
  refine ok_bast (q := 163) dX12_sayHello_162 k76 c77.1 c77.2 rfl (bh_ok (fun h78 e79 => ?_))
  have e79 : h78.1 = h72.1 := e79
  refine ok_aload_n (q := 164) dX12_sayHello_163 rfl rfl ?_
  refine ok_getR cl_11 (q := 167) (k := 57) dX12_sayHello_164 (Nat.le_of_ble_eq_true rfl) wd_1089 (fun _ _ _ => rfl) kt_11_57 (mm_ke e79 k74) rfl (fun b80 k81 => ?_)
  refine ok_iconst (q := 168) (v := 3) dX12_sayHello_167 ci_3 rfl ?_
  refine ok_aload_n (q := 169) dX12_sayHello_168 rfl rfl ?_
  refine ok_getI cl_11 (q := 172) (k := 58) dX12_sayHello_169 (Nat.le_of_ble_eq_true rfl) wd_1090 (fun _ _ _ => rfl) (mm_ke e79 k74) rfl ?_
  refine ok_bipush (q := 174) (v := 35) dX12_sayHello_172 cb_35 rfl ?_
  refine ok_iadd (q := 175) dX12_sayHello_174 rfl ?_
  refine ok_iconst (q := 176) (v := 4) dX12_sayHello_175 ci_4 rfl ?_
  refine ok_isub (q := 177) dX12_sayHello_176 rfl ?_
  refine ok_i2b (q := 178) dX12_sayHello_177 rfl ?_
  refine mm_ck (fun c82 => ?_)
  refine ok_bast (q := 179) dX12_sayHello_178 (mm_ke e79 (mm_ke e79.symm k81)) c82.1 c82.2 rfl (bh_ok (fun h83 e84 => ?_))
  have e84 : h83.1 = h72.1 := e84.trans e79
  refine ok_aload_n (q := 180) dX12_sayHello_179 rfl rfl ?_
  refine ok_iload_n (q := 181) dX12_sayHello_180 rfl rfl ?_
  refine ok_aload_n (q := 182) dX12_sayHello_181 rfl rfl ?_
  refine ok_getR cl_11 (q := 185) (k := 57) dX12_sayHello_182 (Nat.le_of_ble_eq_true rfl) wd_1089 (fun _ _ _ => rfl) kt_11_57 (mm_ke e84 k74) rfl (fun b85 k86 => ?_)
  refine ok_iconst (q := 186) (v := 0) dX12_sayHello_185 ci_0 rfl ?_
  refine ok_aload_n (q := 187) dX12_sayHello_186 rfl rfl ?_
  refine ok_getI cl_11 (q := 190) (k := 58) dX12_sayHello_187 (Nat.le_of_ble_eq_true rfl) wd_1090 (fun _ _ _ => rfl) (mm_ke e84 k74) rfl ?_
  refine mm_cv (q := 193) (mt_X12_bind G a0 x1 b85 0 (mm_i h83 a0 58) h83 (mm_ke e84 k74) (mm_ke e84 (mm_ke e84.symm k86))) (mm_runV (as := [.int x1, .ref b85, .int 0, .int (mm_i h83 a0 58)]) (st := []) cl_11 lk_X12_sayHello_X12_bind_410 rfl dX12_sayHello_190 rfl (Nat.le_of_ble_eq_true rfl) (mm_ke e84 k74)) rfl (fun h87 p88 => ?_)
  have k89 : mm_kd h87 a0 = 11 := mm_kd_app p88 (mm_ke e84 k74) (by decide)
  refine ok_aload_n (q := 194) dX12_sayHello_193 rfl rfl ?_
  refine ok_bipush (q := 196) (v := 33) dX12_sayHello_194 cb_33 rfl ?_
  refine mm_cv (q := 199) (mt_X12_sayTwo G a0 33 h87 k89) (mm_runV (as := [.int 33]) (st := []) cl_11 lk_X12_sayHello_X12_sayTwo_390 rfl dX12_sayHello_196 rfl (Nat.le_of_ble_eq_true rfl) k89) rfl (fun h90 p91 => ?_)
  have k92 : mm_kd h90 a0 = 11 := mm_kd_app p91 k89 (by decide)
  refine ok_aload_n (q := 200) dX12_sayHello_199 rfl rfl ?_
  refine ok_bipush (q := 202) (v := 32) dX12_sayHello_200 cb_32 rfl ?_
  refine mm_cv (q := 205) (mt_X12_sayByte G a0 32 h90 k92) (mm_runV (as := [.int 32]) (st := []) cl_11 lk_X12_sayHello_X12_sayByte_377 rfl dX12_sayHello_202 rfl (Nat.le_of_ble_eq_true rfl) k92) rfl (fun h93 p94 => ?_)
  have k95 : mm_kd h93 a0 = 11 := mm_kd_app p94 k92 (by decide)
  refine ok_aload_n (q := 206) dX12_sayHello_205 rfl rfl ?_
  refine ok_aload_n (q := 207) dX12_sayHello_206 rfl rfl ?_
  refine ok_getR cl_11 (q := 210) (k := 59) dX12_sayHello_207 (Nat.le_of_ble_eq_true rfl) wd_1091 (fun _ _ _ => rfl) kt_11_59 k95 rfl (fun b96 k97 => ?_)
  refine ok_iconst (q := 211) (v := 0) dX12_sayHello_210 ci_0 rfl ?_
  refine ok_bipush (q := 213) (v := 32) dX12_sayHello_211 cb_32 rfl ?_
  refine mm_cv (q := 216) (mt_X12_sayRow G a0 b96 0 32 h93 k95 k97) (mm_runV (as := [.ref b96, .int 0, .int 32]) (st := []) cl_11 lk_X12_sayHello_X12_sayRow_407 rfl dX12_sayHello_213 rfl (Nat.le_of_ble_eq_true rfl) k95) rfl (fun h98 p99 => ?_)
  have k100 : mm_kd h98 a0 = 11 := mm_kd_app p99 k95 (by decide)
  refine ok_aload_n (q := 217) dX12_sayHello_216 rfl rfl ?_
  refine ok_iload_n (q := 218) dX12_sayHello_217 rfl rfl ?_
  refine ok_iconst (q := 219) (v := 1) dX12_sayHello_218 ci_1 rfl ?_
  refine mm_cv (q := 222) (mt_X12_endMessage G a0 x1 1 h98 k100) (mm_runV (as := [.int x1, .int 1]) (st := []) cl_11 lk_X12_sayHello_X12_endMessage_413 rfl dX12_sayHello_219 rfl (Nat.le_of_ble_eq_true rfl) k100) rfl (fun h101 p102 => ?_)
  have k103 : mm_kd h101 a0 = 11 := mm_kd_app p102 k100 (by decide)
  exact ok_ret dX12_sayHello_222 rfl
def bd_X12_sayFinished (a0 : Nat) (x1 : Int32) (h : mm_H) : mm_O := mm_qv (bd_X12_beginMessage a0 20 h) (fun h1 =>
  mm_gr h1 a0 22 (fun b4 =>
  mm_gr h1 a0 43 (fun b6 =>
  mm_qv (bd_X12_prove a0 x1 b4 b6 0 h1) (fun h8 =>
  mm_gr h8 a0 43 (fun b11 =>
  mm_qv (bd_X12_sayRow a0 b11 0 32 h8) (fun h13 =>
  mm_qv (bd_X12_endMessage a0 x1 1 h13) (fun h16 =>
  some (none, h16))))))))
set_option maxHeartbeats 4000000 in
set_option maxRecDepth 100000 in
theorem mt_X12_sayFinished (G : mm_G) (a0 : Nat) (x1 : Int32) (h : mm_H) (k_a0 : mm_kd h a0 = 11) : mm_Met G my_X12_sayFinished [.ref a0, .int x1] h (bd_X12_sayFinished a0 x1 h) := by
  refine mm_met (ls := [.ref a0, .int x1]) pn_RX12 (Nat.le_of_ble_eq_true rfl) rfl ?_
  unfold bd_X12_sayFinished
  refine ok_aload_n (q := 1) dX12_sayFinished_0 rfl rfl ?_
  refine ok_bipush (q := 3) (v := 20) dX12_sayFinished_1 cb_20 rfl ?_
  refine mm_cv (q := 6) (mt_X12_beginMessage G a0 20 h k_a0) (mm_runV (as := [.int 20]) (st := []) cl_11 lk_X12_sayFinished_X12_beginMessage_404 rfl dX12_sayFinished_3 rfl (Nat.le_of_ble_eq_true rfl) k_a0) rfl (fun h1 p2 => ?_)
  have k3 : mm_kd h1 a0 = 11 := mm_kd_app p2 k_a0 (by decide)
  refine ok_aload_n (q := 7) dX12_sayFinished_6 rfl rfl ?_
  refine ok_iload_n (q := 8) dX12_sayFinished_7 rfl rfl ?_
  refine ok_aload_n (q := 9) dX12_sayFinished_8 rfl rfl ?_
  refine ok_getR cl_11 (q := 12) (k := 22) dX12_sayFinished_9 (Nat.le_of_ble_eq_true rfl) wd_1054 (fun _ _ _ => rfl) kt_11_22 k3 rfl (fun b4 k5 => ?_)
  refine ok_aload_n (q := 13) dX12_sayFinished_12 rfl rfl ?_
  refine ok_getR cl_11 (q := 16) (k := 43) dX12_sayFinished_13 (Nat.le_of_ble_eq_true rfl) wd_1075 (fun _ _ _ => rfl) kt_11_43 k3 rfl (fun b6 k7 => ?_)
  refine ok_iconst (q := 17) (v := 0) dX12_sayFinished_16 ci_0 rfl ?_
  refine mm_cv (q := 20) (mt_X12_prove G a0 x1 b4 b6 0 h1 k3 k5 k7) (mm_runV (as := [.int x1, .ref b4, .ref b6, .int 0]) (st := []) cl_11 lk_X12_sayFinished_X12_prove_417 rfl dX12_sayFinished_17 rfl (Nat.le_of_ble_eq_true rfl) k3) rfl (fun h8 p9 => ?_)
  have k10 : mm_kd h8 a0 = 11 := mm_kd_app p9 k3 (by decide)
  refine ok_aload_n (q := 21) dX12_sayFinished_20 rfl rfl ?_
  refine ok_aload_n (q := 22) dX12_sayFinished_21 rfl rfl ?_
  refine ok_getR cl_11 (q := 25) (k := 43) dX12_sayFinished_22 (Nat.le_of_ble_eq_true rfl) wd_1075 (fun _ _ _ => rfl) kt_11_43 k10 rfl (fun b11 k12 => ?_)
  refine ok_iconst (q := 26) (v := 0) dX12_sayFinished_25 ci_0 rfl ?_
  refine ok_bipush (q := 28) (v := 32) dX12_sayFinished_26 cb_32 rfl ?_
  refine mm_cv (q := 31) (mt_X12_sayRow G a0 b11 0 32 h8 k10 k12) (mm_runV (as := [.ref b11, .int 0, .int 32]) (st := []) cl_11 lk_X12_sayFinished_X12_sayRow_407 rfl dX12_sayFinished_28 rfl (Nat.le_of_ble_eq_true rfl) k10) rfl (fun h13 p14 => ?_)
  have k15 : mm_kd h13 a0 = 11 := mm_kd_app p14 k10 (by decide)
  refine ok_aload_n (q := 32) dX12_sayFinished_31 rfl rfl ?_
  refine ok_iload_n (q := 33) dX12_sayFinished_32 rfl rfl ?_
  refine ok_iconst (q := 34) (v := 1) dX12_sayFinished_33 ci_1 rfl ?_
  refine mm_cv (q := 37) (mt_X12_endMessage G a0 x1 1 h13 k15) (mm_runV (as := [.int x1, .int 1]) (st := []) cl_11 lk_X12_sayFinished_X12_endMessage_413 rfl dX12_sayFinished_34 rfl (Nat.le_of_ble_eq_true rfl) k15) rfl (fun h16 p17 => ?_)
  have k18 : mm_kd h16 a0 = 11 := mm_kd_app p17 k15 (by decide)
  exact ok_ret dX12_sayFinished_37 rfl
def bd_X12_sayAlert (a0 : Nat) (x1 : Int32) (x2 : Int32) (x3 : Int32) (h : mm_H) : mm_O := mm_bh (mm_si h a0 58 0) (fun h1 =>
  mm_qv (bd_X12_sayByte a0 x2 h1) (fun h3 =>
  mm_qv (bd_X12_sayByte a0 x3 h3) (fun h6 =>
  mm_qv (bd_X12_writeRecord a0 x1 21 h6) (fun h9 =>
  some (none, h9)))))
set_option maxHeartbeats 4000000 in
set_option maxRecDepth 100000 in
theorem mt_X12_sayAlert (G : mm_G) (a0 : Nat) (x1 : Int32) (x2 : Int32) (x3 : Int32) (h : mm_H) (k_a0 : mm_kd h a0 = 11) : mm_Met G my_X12_sayAlert [.ref a0, .int x1, .int x2, .int x3] h (bd_X12_sayAlert a0 x1 x2 x3 h) := by
  refine mm_met (ls := [.ref a0, .int x1, .int x2, .int x3]) pn_RX12 (Nat.le_of_ble_eq_true rfl) rfl ?_
  unfold bd_X12_sayAlert
  refine ok_aload_n (q := 1) dX12_sayAlert_0 rfl rfl ?_
  refine ok_iconst (q := 2) (v := 0) dX12_sayAlert_1 ci_0 rfl ?_
  refine ok_putI cl_11 (q := 5) (k := 58) dX12_sayAlert_2 (Nat.le_of_ble_eq_true rfl) wd_1090 (Or.inl rfl) (fun _ _ _ => rfl) rfl rfl k_a0 rfl (bh_ok (fun h1 e2 => ?_))
  have e2 : h1.1 = h.1 := e2
  refine ok_aload_n (q := 6) dX12_sayAlert_5 rfl rfl ?_
  refine ok_iload_n (q := 7) dX12_sayAlert_6 rfl rfl ?_
  refine mm_cv (q := 10) (mt_X12_sayByte G a0 x2 h1 (mm_ke e2 k_a0)) (mm_runV (as := [.int x2]) (st := []) cl_11 lk_X12_sayAlert_X12_sayByte_377 rfl dX12_sayAlert_7 rfl (Nat.le_of_ble_eq_true rfl) (mm_ke e2 k_a0)) rfl (fun h3 p4 => ?_)
  have k5 : mm_kd h3 a0 = 11 := mm_kd_app p4 (mm_ke e2 k_a0) (by decide)
  refine ok_aload_n (q := 11) dX12_sayAlert_10 rfl rfl ?_
  refine ok_iload_n (q := 12) dX12_sayAlert_11 rfl rfl ?_
  refine mm_cv (q := 15) (mt_X12_sayByte G a0 x3 h3 k5) (mm_runV (as := [.int x3]) (st := []) cl_11 lk_X12_sayAlert_X12_sayByte_377 rfl dX12_sayAlert_12 rfl (Nat.le_of_ble_eq_true rfl) k5) rfl (fun h6 p7 => ?_)
  have k8 : mm_kd h6 a0 = 11 := mm_kd_app p7 k5 (by decide)
  refine ok_aload_n (q := 16) dX12_sayAlert_15 rfl rfl ?_
  refine ok_iload_n (q := 17) dX12_sayAlert_16 rfl rfl ?_
  refine ok_bipush (q := 19) (v := 21) dX12_sayAlert_17 cb_21 rfl ?_
  refine mm_cv (q := 22) (mt_X12_writeRecord G a0 x1 21 h6 k8) (mm_runV (as := [.int x1, .int 21]) (st := []) cl_11 lk_X12_sayAlert_X12_writeRecord_397 rfl dX12_sayAlert_19 rfl (Nat.le_of_ble_eq_true rfl) k8) rfl (fun h9 p10 => ?_)
  have k11 : mm_kd h9 a0 = 11 := mm_kd_app p10 k8 (by decide)
  exact ok_ret dX12_sayAlert_22 rfl
def bd_X12_follow (a0 : Nat) (a1 : Nat) (x2 : Int32) (h : mm_H) : mm_O := mm_gr h a0 40 (fun b1 =>
  mm_qv (bd_X12_expand a0 a1 ((32 : Int32) * x2) 8 b1 0 a1 ((32 : Int32) * x2) 32 h) (fun h3 =>
  some (none, h3)))
set_option maxHeartbeats 4000000 in
set_option maxRecDepth 100000 in
theorem mt_X12_follow (G : mm_G) (a0 : Nat) (a1 : Nat) (x2 : Int32) (h : mm_H) (k_a0 : mm_kd h a0 = 11) (k_a1 : mm_kd h a1 = 21) : mm_Met G my_X12_follow [.ref a0, .ref a1, .int x2] h (bd_X12_follow a0 a1 x2 h) := by
  refine mm_met (ls := [.ref a0, .ref a1, .int x2]) pn_RX12 (Nat.le_of_ble_eq_true rfl) rfl ?_
  unfold bd_X12_follow
  refine ok_aload_n (q := 1) dX12_follow_0 rfl rfl ?_
  refine ok_aload_n (q := 2) dX12_follow_1 rfl rfl ?_
  refine ok_bipush (q := 4) (v := 32) dX12_follow_2 cb_32 rfl ?_
  refine ok_iload_n (q := 5) dX12_follow_4 rfl rfl ?_
  refine ok_imul (q := 6) dX12_follow_5 rfl ?_
  refine ok_bipush (q := 8) (v := 8) dX12_follow_6 cb_8 rfl ?_
  refine ok_aload_n (q := 9) dX12_follow_8 rfl rfl ?_
  refine ok_getR cl_11 (q := 12) (k := 40) dX12_follow_9 (Nat.le_of_ble_eq_true rfl) wd_1072 (fun _ _ _ => rfl) kt_11_40 k_a0 rfl (fun b1 k2 => ?_)
  refine ok_iconst (q := 13) (v := 0) dX12_follow_12 ci_0 rfl ?_
  refine ok_aload_n (q := 14) dX12_follow_13 rfl rfl ?_
  refine ok_bipush (q := 16) (v := 32) dX12_follow_14 cb_32 rfl ?_
  refine ok_iload_n (q := 17) dX12_follow_16 rfl rfl ?_
  refine ok_imul (q := 18) dX12_follow_17 rfl ?_
  refine ok_bipush (q := 20) (v := 32) dX12_follow_18 cb_32 rfl ?_
  refine mm_cv (q := 23) (mt_X12_expand G a0 a1 ((32 : Int32) * x2) 8 b1 0 a1 ((32 : Int32) * x2) 32 h k_a0 k_a1 k2 k_a1) (mm_runV (as := [.ref a1, .int ((32 : Int32) * x2), .int 8, .ref b1, .int 0, .ref a1, .int ((32 : Int32) * x2), .int 32]) (st := []) cl_11 lk_X12_follow_X12_expand_330 rfl dX12_follow_20 rfl (Nat.le_of_ble_eq_true rfl) k_a0) rfl (fun h3 p4 => ?_)
  have k5 : mm_kd h3 a0 = 11 := mm_kd_app p4 k_a0 (by decide)
  have k6 : mm_kd h3 a1 = 21 := mm_kd_app p4 k_a1 (by decide)
  exact ok_ret dX12_follow_23 rfl
def bd_X12_sayUpdate (a0 : Nat) (x1 : Int32) (x2 : Int32) (h : mm_H) : mm_O := mm_qv (bd_X12_beginMessage a0 24 h) (fun h1 =>
  mm_qv (bd_X12_sayByte a0 x2 h1) (fun h4 =>
  mm_qv (bd_X12_endMessage a0 x1 0 h4) (fun h7 =>
  mm_gr h7 a0 22 (fun b10 =>
  mm_qv (bd_X12_follow a0 b10 x1 h7) (fun h12 =>
  mm_gr h12 a0 28 (fun b15 =>
  if 32 ≤ b15 ∧ mm_in x1 (mm_ln h12 b15) = true then (mm_bh (mm_si h12 b15 (mm_n x1) (0 : Int32)) (fun h18 =>
  some (none, h18))) else none))))))
set_option maxHeartbeats 4000000 in
set_option maxRecDepth 100000 in
theorem mt_X12_sayUpdate (G : mm_G) (a0 : Nat) (x1 : Int32) (x2 : Int32) (h : mm_H) (k_a0 : mm_kd h a0 = 11) : mm_Met G my_X12_sayUpdate [.ref a0, .int x1, .int x2] h (bd_X12_sayUpdate a0 x1 x2 h) := by
  refine mm_met (ls := [.ref a0, .int x1, .int x2]) pn_RX12 (Nat.le_of_ble_eq_true rfl) rfl ?_
  unfold bd_X12_sayUpdate
  refine ok_aload_n (q := 1) dX12_sayUpdate_0 rfl rfl ?_
  refine ok_bipush (q := 3) (v := 24) dX12_sayUpdate_1 cb_24 rfl ?_
  refine mm_cv (q := 6) (mt_X12_beginMessage G a0 24 h k_a0) (mm_runV (as := [.int 24]) (st := []) cl_11 lk_X12_sayUpdate_X12_beginMessage_404 rfl dX12_sayUpdate_3 rfl (Nat.le_of_ble_eq_true rfl) k_a0) rfl (fun h1 p2 => ?_)
  have k3 : mm_kd h1 a0 = 11 := mm_kd_app p2 k_a0 (by decide)
  refine ok_aload_n (q := 7) dX12_sayUpdate_6 rfl rfl ?_
  refine ok_iload_n (q := 8) dX12_sayUpdate_7 rfl rfl ?_
  refine mm_cv (q := 11) (mt_X12_sayByte G a0 x2 h1 k3) (mm_runV (as := [.int x2]) (st := []) cl_11 lk_X12_sayUpdate_X12_sayByte_377 rfl dX12_sayUpdate_8 rfl (Nat.le_of_ble_eq_true rfl) k3) rfl (fun h4 p5 => ?_)
  have k6 : mm_kd h4 a0 = 11 := mm_kd_app p5 k3 (by decide)
  refine ok_aload_n (q := 12) dX12_sayUpdate_11 rfl rfl ?_
  refine ok_iload_n (q := 13) dX12_sayUpdate_12 rfl rfl ?_
  refine ok_iconst (q := 14) (v := 0) dX12_sayUpdate_13 ci_0 rfl ?_
  refine mm_cv (q := 17) (mt_X12_endMessage G a0 x1 0 h4 k6) (mm_runV (as := [.int x1, .int 0]) (st := []) cl_11 lk_X12_sayUpdate_X12_endMessage_413 rfl dX12_sayUpdate_14 rfl (Nat.le_of_ble_eq_true rfl) k6) rfl (fun h7 p8 => ?_)
  have k9 : mm_kd h7 a0 = 11 := mm_kd_app p8 k6 (by decide)
  refine ok_aload_n (q := 18) dX12_sayUpdate_17 rfl rfl ?_
  refine ok_aload_n (q := 19) dX12_sayUpdate_18 rfl rfl ?_
  refine ok_getR cl_11 (q := 22) (k := 22) dX12_sayUpdate_19 (Nat.le_of_ble_eq_true rfl) wd_1054 (fun _ _ _ => rfl) kt_11_22 k9 rfl (fun b10 k11 => ?_)
  refine ok_iload_n (q := 23) dX12_sayUpdate_22 rfl rfl ?_
  refine mm_cv (q := 26) (mt_X12_follow G a0 b10 x1 h7 k9 k11) (mm_runV (as := [.ref b10, .int x1]) (st := []) cl_11 lk_X12_sayUpdate_X12_follow_421 rfl dX12_sayUpdate_23 rfl (Nat.le_of_ble_eq_true rfl) k9) rfl (fun h12 p13 => ?_)
  have k14 : mm_kd h12 a0 = 11 := mm_kd_app p13 k9 (by decide)
  refine ok_aload_n (q := 27) dX12_sayUpdate_26 rfl rfl ?_
  refine ok_getR cl_11 (q := 30) (k := 28) dX12_sayUpdate_27 (Nat.le_of_ble_eq_true rfl) wd_1060 (fun _ _ _ => rfl) kt_11_28 k14 rfl (fun b15 k16 => ?_)
  refine ok_iload_n (q := 31) dX12_sayUpdate_30 rfl rfl ?_
  refine ok_iconst (q := 32) (v := 0) dX12_sayUpdate_31 ci_0 rfl ?_
  refine mm_ck (fun c17 => ?_)
  refine ok_iast (q := 33) dX12_sayUpdate_32 k16 c17.1 c17.2 rfl (bh_ok (fun h18 e19 => ?_))
  have e19 : h18.1 = h12.1 := e19
  exact ok_ret dX12_sayUpdate_33 rfl
def jn_X12_handSecrets_69 (a0 : Nat) (x1 : Int32) (s0 : Int32) (s1 : Int32) (s2 : Nat) (s3 : Nat) (h : mm_H) : mm_O := mm_gr h a0 44 (fun b24 =>
  mm_gr h a0 23 (fun b26 =>
  mm_qv (bd_X12_expand s3 s2 s1 s0 b24 32 b26 ((32 : Int32) * x1) 32 h) (fun h28 =>
  mm_gr h28 a0 26 (fun b31 =>
  if 32 ≤ b31 ∧ mm_in x1 (mm_ln h28 b31) = true then (mm_bh (mm_si h28 b31 (mm_n x1) ((1 : Int32) &&& 1)) (fun h34 =>
  mm_gr h34 a0 27 (fun b36 =>
  if 32 ≤ b36 ∧ mm_in x1 (mm_ln h34 b36) = true then (mm_bh (mm_si h34 b36 (mm_n x1) ((1 : Int32) &&& 1)) (fun h39 =>
  mm_gr h39 a0 28 (fun b41 =>
  if 32 ≤ b41 ∧ mm_in x1 (mm_ln h39 b41) = true then (mm_bh (mm_si h39 b41 (mm_n x1) (0 : Int32)) (fun h44 =>
  mm_gr h44 a0 29 (fun b46 =>
  if 32 ≤ b46 ∧ mm_in x1 (mm_ln h44 b46) = true then (mm_bh (mm_si h44 b46 (mm_n x1) (0 : Int32)) (fun h49 =>
  some (none, h49))) else none))) else none))) else none))) else none))))
set_option maxHeartbeats 4000000 in
set_option maxRecDepth 100000 in
theorem oj_X12_handSecrets_69 {G : mm_G}   (a0 : Nat) (x1 : Int32) (s0 : Int32) (s1 : Int32) (s2 : Nat) (s3 : Nat) (h : mm_H) (k_a0 : mm_kd h a0 = 11) (k_s2 : mm_kd h s2 = 21) (k_s3 : mm_kd h s3 = 11) : mm_Ok G my_X12_handSecrets 69 [.ref a0, .int x1] [.int s0, .int s1, .ref s2, .ref s3] h (jn_X12_handSecrets_69 a0 x1 s0 s1 s2 s3 h) := by
  unfold jn_X12_handSecrets_69
  refine ok_aload_n (q := 70) dX12_handSecrets_69 rfl rfl ?_
  refine ok_getR cl_11 (q := 73) (k := 44) dX12_handSecrets_70 (Nat.le_of_ble_eq_true rfl) wd_1076 (fun _ _ _ => rfl) kt_11_44 k_a0 rfl (fun b24 k25 => ?_)
  refine ok_bipush (q := 75) (v := 32) dX12_handSecrets_73 cb_32 rfl ?_
  refine ok_aload_n (q := 76) dX12_handSecrets_75 rfl rfl ?_
  refine ok_getR cl_11 (q := 79) (k := 23) dX12_handSecrets_76 (Nat.le_of_ble_eq_true rfl) wd_1055 (fun _ _ _ => rfl) kt_11_23 k_a0 rfl (fun b26 k27 => ?_)
  refine ok_bipush (q := 81) (v := 32) dX12_handSecrets_79 cb_32 rfl ?_
  refine ok_iload_n (q := 82) dX12_handSecrets_81 rfl rfl ?_
  refine ok_imul (q := 83) dX12_handSecrets_82 rfl ?_
  refine ok_bipush (q := 85) (v := 32) dX12_handSecrets_83 cb_32 rfl ?_
  refine mm_cv (q := 88) (mt_X12_expand G s3 s2 s1 s0 b24 32 b26 ((32 : Int32) * x1) 32 h k_s3 k_s2 k25 k27) (mm_runV (as := [.ref s2, .int s1, .int s0, .ref b24, .int 32, .ref b26, .int ((32 : Int32) * x1), .int 32]) (st := []) cl_11 lk_X12_handSecrets_X12_expand_330 rfl dX12_handSecrets_85 rfl (Nat.le_of_ble_eq_true rfl) k_s3) rfl (fun h28 p29 => ?_)
  have k30 : mm_kd h28 a0 = 11 := mm_kd_app p29 k_a0 (by decide)
  refine ok_aload_n (q := 89) dX12_handSecrets_88 rfl rfl ?_
  refine ok_getR cl_11 (q := 92) (k := 26) dX12_handSecrets_89 (Nat.le_of_ble_eq_true rfl) wd_1058 (fun _ _ _ => rfl) kt_11_26 k30 rfl (fun b31 k32 => ?_)
  refine ok_iload_n (q := 93) dX12_handSecrets_92 rfl rfl ?_
  refine ok_iconst (q := 94) (v := 1) dX12_handSecrets_93 ci_1 rfl ?_
  refine mm_ck (fun c33 => ?_)
  refine ok_zast (q := 95) dX12_handSecrets_94 k32 c33.1 c33.2 rfl (bh_ok (fun h34 e35 => ?_))
  have e35 : h34.1 = h28.1 := e35
  refine ok_aload_n (q := 96) dX12_handSecrets_95 rfl rfl ?_
  refine ok_getR cl_11 (q := 99) (k := 27) dX12_handSecrets_96 (Nat.le_of_ble_eq_true rfl) wd_1059 (fun _ _ _ => rfl) kt_11_27 (mm_ke e35 k30) rfl (fun b36 k37 => ?_)
  refine ok_iload_n (q := 100) dX12_handSecrets_99 rfl rfl ?_
  refine ok_iconst (q := 101) (v := 1) dX12_handSecrets_100 ci_1 rfl ?_
  refine mm_ck (fun c38 => ?_)
  refine ok_zast (q := 102) dX12_handSecrets_101 (mm_ke e35 (mm_ke e35.symm k37)) c38.1 c38.2 rfl (bh_ok (fun h39 e40 => ?_))
  have e40 : h39.1 = h28.1 := e40.trans e35
  refine ok_aload_n (q := 103) dX12_handSecrets_102 rfl rfl ?_
  refine ok_getR cl_11 (q := 106) (k := 28) dX12_handSecrets_103 (Nat.le_of_ble_eq_true rfl) wd_1060 (fun _ _ _ => rfl) kt_11_28 (mm_ke e40 k30) rfl (fun b41 k42 => ?_)
  refine ok_iload_n (q := 107) dX12_handSecrets_106 rfl rfl ?_
  refine ok_iconst (q := 108) (v := 0) dX12_handSecrets_107 ci_0 rfl ?_
  refine mm_ck (fun c43 => ?_)
  refine ok_iast (q := 109) dX12_handSecrets_108 (mm_ke e40 (mm_ke e40.symm k42)) c43.1 c43.2 rfl (bh_ok (fun h44 e45 => ?_))
  have e45 : h44.1 = h28.1 := e45.trans e40
  refine ok_aload_n (q := 110) dX12_handSecrets_109 rfl rfl ?_
  refine ok_getR cl_11 (q := 113) (k := 29) dX12_handSecrets_110 (Nat.le_of_ble_eq_true rfl) wd_1061 (fun _ _ _ => rfl) kt_11_29 (mm_ke e45 k30) rfl (fun b46 k47 => ?_)
  refine ok_iload_n (q := 114) dX12_handSecrets_113 rfl rfl ?_
  refine ok_iconst (q := 115) (v := 0) dX12_handSecrets_114 ci_0 rfl ?_
  refine mm_ck (fun c48 => ?_)
  refine ok_iast (q := 116) dX12_handSecrets_115 (mm_ke e45 (mm_ke e45.symm k47)) c48.1 c48.2 rfl (bh_ok (fun h49 e50 => ?_))
  have e50 : h49.1 = h28.1 := e50.trans e45
  exact ok_ret dX12_handSecrets_116 rfl
def jn_X12_handSecrets_30 (a0 : Nat) (x1 : Int32) (s0 : Int32) (s1 : Int32) (s2 : Nat) (s3 : Nat) (h : mm_H) : mm_O := mm_gr h a0 44 (fun b12 =>
  mm_gr h a0 22 (fun b14 =>
  mm_qv (bd_X12_expand s3 s2 s1 s0 b12 32 b14 ((32 : Int32) * x1) 32 h) (fun h16 =>
  mm_gr h16 a0 42 (fun b19 =>
  mm_gr h16 a0 3 (fun b21 =>
  if mm_in x1 (mm_ln h16 b21) = true then (if (mm_i h16 b21 (mm_n x1)) = 0 then
  (jn_X12_handSecrets_69 a0 x1 2 0 b19 a0 h16)
  else
  (jn_X12_handSecrets_69 a0 x1 1 0 b19 a0 h16)) else none)))))
set_option maxHeartbeats 4000000 in
set_option maxRecDepth 100000 in
theorem oj_X12_handSecrets_30 {G : mm_G}   (a0 : Nat) (x1 : Int32) (s0 : Int32) (s1 : Int32) (s2 : Nat) (s3 : Nat) (h : mm_H) (k_a0 : mm_kd h a0 = 11) (k_s2 : mm_kd h s2 = 21) (k_s3 : mm_kd h s3 = 11) : mm_Ok G my_X12_handSecrets 30 [.ref a0, .int x1] [.int s0, .int s1, .ref s2, .ref s3] h (jn_X12_handSecrets_30 a0 x1 s0 s1 s2 s3 h) := by
  unfold jn_X12_handSecrets_30
  refine ok_aload_n (q := 31) dX12_handSecrets_30 rfl rfl ?_
  refine ok_getR cl_11 (q := 34) (k := 44) dX12_handSecrets_31 (Nat.le_of_ble_eq_true rfl) wd_1076 (fun _ _ _ => rfl) kt_11_44 k_a0 rfl (fun b12 k13 => ?_)
  refine ok_bipush (q := 36) (v := 32) dX12_handSecrets_34 cb_32 rfl ?_
  refine ok_aload_n (q := 37) dX12_handSecrets_36 rfl rfl ?_
  refine ok_getR cl_11 (q := 40) (k := 22) dX12_handSecrets_37 (Nat.le_of_ble_eq_true rfl) wd_1054 (fun _ _ _ => rfl) kt_11_22 k_a0 rfl (fun b14 k15 => ?_)
  refine ok_bipush (q := 42) (v := 32) dX12_handSecrets_40 cb_32 rfl ?_
  refine ok_iload_n (q := 43) dX12_handSecrets_42 rfl rfl ?_
  refine ok_imul (q := 44) dX12_handSecrets_43 rfl ?_
  refine ok_bipush (q := 46) (v := 32) dX12_handSecrets_44 cb_32 rfl ?_
  refine mm_cv (q := 49) (mt_X12_expand G s3 s2 s1 s0 b12 32 b14 ((32 : Int32) * x1) 32 h k_s3 k_s2 k13 k15) (mm_runV (as := [.ref s2, .int s1, .int s0, .ref b12, .int 32, .ref b14, .int ((32 : Int32) * x1), .int 32]) (st := []) cl_11 lk_X12_handSecrets_X12_expand_330 rfl dX12_handSecrets_46 rfl (Nat.le_of_ble_eq_true rfl) k_s3) rfl (fun h16 p17 => ?_)
  have k18 : mm_kd h16 a0 = 11 := mm_kd_app p17 k_a0 (by decide)
  refine ok_aload_n (q := 50) dX12_handSecrets_49 rfl rfl ?_
  refine ok_aload_n (q := 51) dX12_handSecrets_50 rfl rfl ?_
  refine ok_getR cl_11 (q := 54) (k := 42) dX12_handSecrets_51 (Nat.le_of_ble_eq_true rfl) wd_1074 (fun _ _ _ => rfl) kt_11_42 k18 rfl (fun b19 k20 => ?_)
  refine ok_iconst (q := 55) (v := 0) dX12_handSecrets_54 ci_0 rfl ?_
  refine ok_aload_n (q := 56) dX12_handSecrets_55 rfl rfl ?_
  refine ok_getR cl_11 (q := 59) (k := 3) dX12_handSecrets_56 (Nat.le_of_ble_eq_true rfl) wd_1035 (fun _ _ _ => rfl) kt_11_3 k18 rfl (fun b21 k22 => ?_)
  refine ok_iload_n (q := 60) dX12_handSecrets_59 rfl rfl ?_
  refine mm_ck (fun c23 => ?_)
  refine ok_zald (q := 61) dX12_handSecrets_60 k22 c23 rfl ?_
  refine ok_if_eq (q := 64) (t := 68) dX12_handSecrets_61 rfl rfl ?_ ?_
  · refine ok_iconst (q := 69) (v := 2) dX12_handSecrets_68 ci_2 rfl ?_
    exact oj_X12_handSecrets_69 a0 x1 2 0 b19 a0 h16 k18 k20 k18
  · refine ok_iconst (q := 65) (v := 1) dX12_handSecrets_64 ci_1 rfl ?_
    refine ok_goto (q := 69) dX12_handSecrets_65 rfl ?_
    exact oj_X12_handSecrets_69 a0 x1 1 0 b19 a0 h16 k18 k20 k18
def bd_X12_handSecrets (a0 : Nat) (x1 : Int32) (h : mm_H) : mm_O := mm_qv (bd_X12_hear a0 x1 h) (fun h1 =>
  mm_qv (bd_X12_beginSchedule a0 x1 h1) (fun h4 =>
  mm_gr h4 a0 42 (fun b7 =>
  mm_gr h4 a0 3 (fun b9 =>
  if mm_in x1 (mm_ln h4 b9) = true then (if (mm_i h4 b9 (mm_n x1)) = 0 then
  (jn_X12_handSecrets_30 a0 x1 1 0 b7 a0 h4)
  else
  (jn_X12_handSecrets_30 a0 x1 2 0 b7 a0 h4)) else none))))
set_option maxHeartbeats 4000000 in
set_option maxRecDepth 100000 in
theorem mt_X12_handSecrets (G : mm_G) (a0 : Nat) (x1 : Int32) (h : mm_H) (k_a0 : mm_kd h a0 = 11) : mm_Met G my_X12_handSecrets [.ref a0, .int x1] h (bd_X12_handSecrets a0 x1 h) := by
  refine mm_met (ls := [.ref a0, .int x1]) pn_RX12 (Nat.le_of_ble_eq_true rfl) rfl ?_
  unfold bd_X12_handSecrets
  refine ok_aload_n (q := 1) dX12_handSecrets_0 rfl rfl ?_
  refine ok_iload_n (q := 2) dX12_handSecrets_1 rfl rfl ?_
  refine mm_cv (q := 5) (mt_X12_hear G a0 x1 h k_a0) (mm_runV (as := [.int x1]) (st := []) cl_11 lk_X12_handSecrets_X12_hear_334 rfl dX12_handSecrets_2 rfl (Nat.le_of_ble_eq_true rfl) k_a0) rfl (fun h1 p2 => ?_)
  have k3 : mm_kd h1 a0 = 11 := mm_kd_app p2 k_a0 (by decide)
  refine ok_aload_n (q := 6) dX12_handSecrets_5 rfl rfl ?_
  refine ok_iload_n (q := 7) dX12_handSecrets_6 rfl rfl ?_
  refine mm_cv (q := 10) (mt_X12_beginSchedule G a0 x1 h1 k3) (mm_runV (as := [.int x1]) (st := []) cl_11 lk_X12_handSecrets_X12_beginSchedule_401 rfl dX12_handSecrets_7 rfl (Nat.le_of_ble_eq_true rfl) k3) rfl (fun h4 p5 => ?_)
  have k6 : mm_kd h4 a0 = 11 := mm_kd_app p5 k3 (by decide)
  refine ok_aload_n (q := 11) dX12_handSecrets_10 rfl rfl ?_
  refine ok_aload_n (q := 12) dX12_handSecrets_11 rfl rfl ?_
  refine ok_getR cl_11 (q := 15) (k := 42) dX12_handSecrets_12 (Nat.le_of_ble_eq_true rfl) wd_1074 (fun _ _ _ => rfl) kt_11_42 k6 rfl (fun b7 k8 => ?_)
  refine ok_iconst (q := 16) (v := 0) dX12_handSecrets_15 ci_0 rfl ?_
  refine ok_aload_n (q := 17) dX12_handSecrets_16 rfl rfl ?_
  refine ok_getR cl_11 (q := 20) (k := 3) dX12_handSecrets_17 (Nat.le_of_ble_eq_true rfl) wd_1035 (fun _ _ _ => rfl) kt_11_3 k6 rfl (fun b9 k10 => ?_)
  refine ok_iload_n (q := 21) dX12_handSecrets_20 rfl rfl ?_
  refine mm_ck (fun c11 => ?_)
  refine ok_zald (q := 22) dX12_handSecrets_21 k10 c11 rfl ?_
  refine ok_if_eq (q := 25) (t := 29) dX12_handSecrets_22 rfl rfl ?_ ?_
  · refine ok_iconst (q := 30) (v := 1) dX12_handSecrets_29 ci_1 rfl ?_
    exact oj_X12_handSecrets_30 a0 x1 1 0 b7 a0 h4 k6 k8 k6
  · refine ok_iconst (q := 26) (v := 2) dX12_handSecrets_25 ci_2 rfl ?_
    refine ok_goto (q := 30) dX12_handSecrets_26 rfl ?_
    exact oj_X12_handSecrets_30 a0 x1 2 0 b7 a0 h4 k6 k8 k6
def jn_X12_fail_25 (a0 : Nat) (x1 : Int32) (x2 : Int32) (h : mm_H) : mm_O := mm_gr h a0 11 (fun b9 =>
  if 32 ≤ b9 ∧ mm_in x1 (mm_ln h b9) = true then (mm_bh (mm_si h b9 (mm_n x1) x2) (fun h12 =>
  some (none, h12))) else none)
set_option maxHeartbeats 4000000 in
set_option maxRecDepth 100000 in
theorem oj_X12_fail_25 {G : mm_G}   (a0 : Nat) (x1 : Int32) (x2 : Int32) (h : mm_H) (k_a0 : mm_kd h a0 = 11) : mm_Ok G my_X12_fail 25 [.ref a0, .int x1, .int x2] [] h (jn_X12_fail_25 a0 x1 x2 h) := by
  unfold jn_X12_fail_25
  refine ok_aload_n (q := 26) dX12_fail_25 rfl rfl ?_
  refine ok_getR cl_11 (q := 29) (k := 11) dX12_fail_26 (Nat.le_of_ble_eq_true rfl) wd_1043 (fun _ _ _ => rfl) kt_11_11 k_a0 rfl (fun b9 k10 => ?_)
  refine ok_iload_n (q := 30) dX12_fail_29 rfl rfl ?_
  refine ok_iload_n (q := 31) dX12_fail_30 rfl rfl ?_
  refine mm_ck (fun c11 => ?_)
  refine ok_iast (q := 32) dX12_fail_31 k10 c11.1 c11.2 rfl (bh_ok (fun h12 e13 => ?_))
  have e13 : h12.1 = h.1 := e13
  exact ok_ret dX12_fail_32 rfl
def bd_X12_fail (a0 : Nat) (x1 : Int32) (x2 : Int32) (h : mm_H) : mm_O := mm_gr h a0 4 (fun b1 =>
  if 32 ≤ b1 ∧ mm_in x1 (mm_ln h b1) = true then (mm_bh (mm_si h b1 (mm_n x1) (7 : Int32)) (fun h4 =>
  mm_gr h4 a0 13 (fun b6 =>
  if mm_in x1 (mm_ln h4 b6) = true then (if (mm_i h4 b6 (mm_n x1)) = 0 then
  (mm_qi (bd_X12_isFull a0 x1 h4) (fun v16 h14 =>
  if v16 = 0 then
  (mm_gr h14 a0 11 (fun b18 =>
  if 32 ≤ b18 ∧ mm_in x1 (mm_ln h14 b18) = true then (mm_bh (mm_si h14 b18 (mm_n x1) x2) (fun h21 =>
  mm_qv (bd_X12_sayAlert a0 x1 2 x2 h21) (fun h23 =>
  some (none, h23)))) else none))
  else
  (jn_X12_fail_25 a0 x1 x2 h14)))
  else
  (jn_X12_fail_25 a0 x1 x2 h4)) else none))) else none)
set_option maxHeartbeats 4000000 in
set_option maxRecDepth 100000 in
theorem mt_X12_fail (G : mm_G) (a0 : Nat) (x1 : Int32) (x2 : Int32) (h : mm_H) (k_a0 : mm_kd h a0 = 11) : mm_Met G my_X12_fail [.ref a0, .int x1, .int x2] h (bd_X12_fail a0 x1 x2 h) := by
  refine mm_met (ls := [.ref a0, .int x1, .int x2]) pn_RX12 (Nat.le_of_ble_eq_true rfl) rfl ?_
  unfold bd_X12_fail
  refine ok_aload_n (q := 1) dX12_fail_0 rfl rfl ?_
  refine ok_getR cl_11 (q := 4) (k := 4) dX12_fail_1 (Nat.le_of_ble_eq_true rfl) wd_1036 (fun _ _ _ => rfl) kt_11_4 k_a0 rfl (fun b1 k2 => ?_)
  refine ok_iload_n (q := 5) dX12_fail_4 rfl rfl ?_
  refine ok_bipush (q := 7) (v := 7) dX12_fail_5 cb_7 rfl ?_
  refine mm_ck (fun c3 => ?_)
  refine ok_iast (q := 8) dX12_fail_7 k2 c3.1 c3.2 rfl (bh_ok (fun h4 e5 => ?_))
  have e5 : h4.1 = h.1 := e5
  refine ok_aload_n (q := 9) dX12_fail_8 rfl rfl ?_
  refine ok_getR cl_11 (q := 12) (k := 13) dX12_fail_9 (Nat.le_of_ble_eq_true rfl) wd_1045 (fun _ _ _ => rfl) kt_11_13 (mm_ke e5 k_a0) rfl (fun b6 k7 => ?_)
  refine ok_iload_n (q := 13) dX12_fail_12 rfl rfl ?_
  refine mm_ck (fun c8 => ?_)
  refine ok_zald (q := 14) dX12_fail_13 (mm_ke e5 (mm_ke e5.symm k7)) c8 rfl ?_
  refine ok_if_ne (q := 17) (t := 25) dX12_fail_14 rfl rfl ?_ ?_
  · exact oj_X12_fail_25 a0 x1 x2 h4 (mm_ke e5 k_a0)
  · refine ok_aload_n (q := 18) dX12_fail_17 rfl rfl ?_
    refine ok_iload_n (q := 19) dX12_fail_18 rfl rfl ?_
    refine mm_ci (q := 22) (mt_X12_isFull G a0 x1 h4 (mm_ke e5 k_a0)) (mm_runV (as := [.int x1]) (st := []) cl_11 lk_X12_fail_X12_isFull_425 rfl dX12_fail_19 rfl (Nat.le_of_ble_eq_true rfl) (mm_ke e5 k_a0)) rfl (fun v16 h14 p15 => ?_)
    have k17 : mm_kd h14 a0 = 11 := mm_kd_app p15 (mm_ke e5 k_a0) (by decide)
    refine ok_if_eq (q := 25) (t := 33) dX12_fail_22 rfl rfl ?_ ?_
    · refine ok_aload_n (q := 34) dX12_fail_33 rfl rfl ?_
      refine ok_getR cl_11 (q := 37) (k := 11) dX12_fail_34 (Nat.le_of_ble_eq_true rfl) wd_1043 (fun _ _ _ => rfl) kt_11_11 k17 rfl (fun b18 k19 => ?_)
      refine ok_iload_n (q := 38) dX12_fail_37 rfl rfl ?_
      refine ok_iload_n (q := 39) dX12_fail_38 rfl rfl ?_
      refine mm_ck (fun c20 => ?_)
      refine ok_iast (q := 40) dX12_fail_39 k19 c20.1 c20.2 rfl (bh_ok (fun h21 e22 => ?_))
      have e22 : h21.1 = h14.1 := e22
      refine ok_aload_n (q := 41) dX12_fail_40 rfl rfl ?_
      refine ok_iload_n (q := 42) dX12_fail_41 rfl rfl ?_
      refine ok_iconst (q := 43) (v := 2) dX12_fail_42 ci_2 rfl ?_
      refine ok_iload_n (q := 44) dX12_fail_43 rfl rfl ?_
      refine mm_cv (q := 47) (mt_X12_sayAlert G a0 x1 2 x2 h21 (mm_ke e22 k17)) (mm_runV (as := [.int x1, .int 2, .int x2]) (st := []) cl_11 lk_X12_fail_X12_sayAlert_429 rfl dX12_fail_44 rfl (Nat.le_of_ble_eq_true rfl) (mm_ke e22 k17)) rfl (fun h23 p24 => ?_)
      have k25 : mm_kd h23 a0 = 11 := mm_kd_app p24 (mm_ke e22 k17) (by decide)
      exact ok_ret dX12_fail_47 rfl
    · exact oj_X12_fail_25 a0 x1 x2 h14 k17
def lp_X12_isOpened_39 (ke_75 : Nat → Int32 → Int32 → mm_H → mm_O) : Nat → Nat → Int32 → Int32 → Int32 → mm_H → mm_O
  | 0, _, _, _, _, _ => none
  | n + 1, a0, x1, x2, x3, h => if (16 : Int32) ≤ x3 then
  (ke_75 a0 x1 x2 h)
  else
  (mm_gr h a0 55 (fun b14 =>
  if mm_in x3 (mm_ln h b14) = true then (mm_gr h a0 60 (fun b17 =>
  if mm_in ((((5 : Int32) + x2) - (16 : Int32)) + x3) (mm_ln h b17) = true then (if (mm_i h b14 (mm_n x3)) = (mm_i h b17 (mm_n ((((5 : Int32) + x2) - (16 : Int32)) + x3))) then
  (lp_X12_isOpened_39 ke_75 n a0 x1 x2 (x3 + 1) h)
  else
  (some (some (.int 0), h))) else none)) else none))
set_option maxHeartbeats 4000000 in
set_option maxRecDepth 100000 in
theorem ol_X12_isOpened_39 {G : mm_G} {ke_75 : Nat → Int32 → Int32 → mm_H → mm_O} (hke_75 : ∀ (a0 : Nat) (x1 : Int32) (x2 : Int32) (h : mm_H), mm_kd h a0 = 11 → mm_Ok G my_X12_isOpened 75 [.ref a0, .int x1, .int x2, mm_U] [] h (ke_75 a0 x1 x2 h)) : ∀ (n : Nat) (a0 : Nat) (x1 : Int32) (x2 : Int32) (x3 : Int32) (h : mm_H), mm_kd h a0 = 11 → mm_Ok G my_X12_isOpened 39 [.ref a0, .int x1, .int x2, .int x3] [] h (lp_X12_isOpened_39 ke_75 n a0 x1 x2 x3 h) := by
  intro n
  induction n with
  | zero => intro a0 x1 x2 x3 h k_a0; exact mm_no
  | succ n ih =>
    intro a0 x1 x2 x3 h k_a0
    rw [lp_X12_isOpened_39]
    refine ok_iload_n (q := 40) dX12_isOpened_39 rfl rfl ?_
    refine ok_bipush (q := 42) (v := 16) dX12_isOpened_40 cb_16 rfl ?_
    refine ok_icmp_ge (q := 45) (t := 75) dX12_isOpened_42 rfl rfl ?_ ?_
    · refine mm_wk [true, true, true, false] (ls' := [.ref a0, .int x1, .int x2, mm_U]) rfl ?_
      exact hke_75 a0 x1 x2 h k_a0
    · refine ok_aload_n (q := 46) dX12_isOpened_45 rfl rfl ?_
      refine ok_getR cl_11 (q := 49) (k := 55) dX12_isOpened_46 (Nat.le_of_ble_eq_true rfl) wd_1087 (fun _ _ _ => rfl) kt_11_55 k_a0 rfl (fun b14 k15 => ?_)
      refine ok_iload_n (q := 50) dX12_isOpened_49 rfl rfl ?_
      refine mm_ck (fun c16 => ?_)
      refine ok_bald (q := 51) dX12_isOpened_50 k15 c16 rfl ?_
      refine ok_aload_n (q := 52) dX12_isOpened_51 rfl rfl ?_
      refine ok_getR cl_11 (q := 55) (k := 60) dX12_isOpened_52 (Nat.le_of_ble_eq_true rfl) wd_1092 (fun _ _ _ => rfl) kt_11_60 k_a0 rfl (fun b17 k18 => ?_)
      refine ok_iconst (q := 56) (v := 5) dX12_isOpened_55 ci_5 rfl ?_
      refine ok_iload_n (q := 57) dX12_isOpened_56 rfl rfl ?_
      refine ok_iadd (q := 58) dX12_isOpened_57 rfl ?_
      refine ok_bipush (q := 60) (v := 16) dX12_isOpened_58 cb_16 rfl ?_
      refine ok_isub (q := 61) dX12_isOpened_60 rfl ?_
      refine ok_iload_n (q := 62) dX12_isOpened_61 rfl rfl ?_
      refine ok_iadd (q := 63) dX12_isOpened_62 rfl ?_
      refine mm_ck (fun c19 => ?_)
      refine ok_bald (q := 64) dX12_isOpened_63 k18 c19 rfl ?_
      refine ok_icmp_eq (q := 67) (t := 69) dX12_isOpened_64 rfl rfl ?_ ?_
      · refine ok_iinc (q := 72) (v := x3 + 1) (ls' := [.ref a0, .int x1, .int x2, .int (x3 + 1)]) dX12_isOpened_69 rfl (congrArg (x3 + ·) ci_1) (Nat.le_of_ble_eq_true rfl) rfl rfl ?_
        refine ok_goto (q := 39) dX12_isOpened_72 rfl ?_
        exact ih a0 x1 x2 (x3 + 1) h k_a0
      · refine ok_iconst (q := 68) (v := 0) dX12_isOpened_67 ci_0 rfl ?_
        exact ok_iret (t := .boolean) dX12_isOpened_68 rfl (by decide)
def bd_X12_isOpened (a0 : Nat) (x1 : Int32) (x2 : Int32) (h : mm_H) : mm_O := if (17 : Int32) ≤ x2 then
  (mm_gr h a0 23 (fun b1 =>
  mm_gr h a0 29 (fun b3 =>
  if mm_in x1 (mm_ln h b3) = true then (mm_qv (bd_X12_keysOf a0 b1 x1 (mm_i h b3 (mm_n x1)) h) (fun h6 =>
  mm_gr h6 a0 60 (fun b9 =>
  mm_qv (bd_X12_sealOf a0 b9 0 5 (x2 - (16 : Int32)) h6) (fun h11 =>
  lp_X12_isOpened_39 (fun b21 v22 v23 h20 => mm_gr h20 b21 29 (fun b24 =>
  if mm_in v22 (mm_ln h20 b24) = true then (if 32 ≤ b24 ∧ mm_in v22 (mm_ln h20 b24) = true then (mm_bh (mm_si h20 b24 (mm_n v22) ((mm_i h20 b24 (mm_n v22)) + (1 : Int32))) (fun h28 =>
  mm_gr h28 b21 60 (fun b30 =>
  mm_qv (bd_X12_cover b21 b30 5 (v23 - (16 : Int32)) h28) (fun h32 =>
  some (some (.int 1), h32))))) else none) else none)) mm_fu a0 x1 x2 0 h11)))) else none)))
  else
  (some (some (.int 0), h))
set_option maxHeartbeats 4000000 in
set_option maxRecDepth 100000 in
theorem mt_X12_isOpened (G : mm_G) (a0 : Nat) (x1 : Int32) (x2 : Int32) (h : mm_H) (k_a0 : mm_kd h a0 = 11) : mm_Met G my_X12_isOpened [.ref a0, .int x1, .int x2] h (bd_X12_isOpened a0 x1 x2 h) := by
  refine mm_met (ls := [.ref a0, .int x1, .int x2, mm_U]) pn_RX12 (Nat.le_of_ble_eq_true rfl) rfl ?_
  unfold bd_X12_isOpened
  refine ok_iload_n (q := 1) dX12_isOpened_0 rfl rfl ?_
  refine ok_bipush (q := 3) (v := 17) dX12_isOpened_1 cb_17 rfl ?_
  refine ok_icmp_ge (q := 6) (t := 8) dX12_isOpened_3 rfl rfl ?_ ?_
  · refine ok_aload_n (q := 9) dX12_isOpened_8 rfl rfl ?_
    refine ok_aload_n (q := 10) dX12_isOpened_9 rfl rfl ?_
    refine ok_getR cl_11 (q := 13) (k := 23) dX12_isOpened_10 (Nat.le_of_ble_eq_true rfl) wd_1055 (fun _ _ _ => rfl) kt_11_23 k_a0 rfl (fun b1 k2 => ?_)
    refine ok_iload_n (q := 14) dX12_isOpened_13 rfl rfl ?_
    refine ok_aload_n (q := 15) dX12_isOpened_14 rfl rfl ?_
    refine ok_getR cl_11 (q := 18) (k := 29) dX12_isOpened_15 (Nat.le_of_ble_eq_true rfl) wd_1061 (fun _ _ _ => rfl) kt_11_29 k_a0 rfl (fun b3 k4 => ?_)
    refine ok_iload_n (q := 19) dX12_isOpened_18 rfl rfl ?_
    refine mm_ck (fun c5 => ?_)
    refine ok_iald (q := 20) dX12_isOpened_19 k4 c5 rfl ?_
    refine mm_cv (q := 23) (mt_X12_keysOf G a0 b1 x1 (mm_i h b3 (mm_n x1)) h k_a0 k2) (mm_runV (as := [.ref b1, .int x1, .int (mm_i h b3 (mm_n x1))]) (st := []) cl_11 lk_X12_isOpened_X12_keysOf_380 rfl dX12_isOpened_20 rfl (Nat.le_of_ble_eq_true rfl) k_a0) rfl (fun h6 p7 => ?_)
    have k8 : mm_kd h6 a0 = 11 := mm_kd_app p7 k_a0 (by decide)
    refine ok_aload_n (q := 24) dX12_isOpened_23 rfl rfl ?_
    refine ok_aload_n (q := 25) dX12_isOpened_24 rfl rfl ?_
    refine ok_getR cl_11 (q := 28) (k := 60) dX12_isOpened_25 (Nat.le_of_ble_eq_true rfl) wd_1092 (fun _ _ _ => rfl) kt_11_60 k8 rfl (fun b9 k10 => ?_)
    refine ok_iconst (q := 29) (v := 0) dX12_isOpened_28 ci_0 rfl ?_
    refine ok_iconst (q := 30) (v := 5) dX12_isOpened_29 ci_5 rfl ?_
    refine ok_iload_n (q := 31) dX12_isOpened_30 rfl rfl ?_
    refine ok_bipush (q := 33) (v := 16) dX12_isOpened_31 cb_16 rfl ?_
    refine ok_isub (q := 34) dX12_isOpened_33 rfl ?_
    refine mm_cv (q := 37) (mt_X12_sealOf G a0 b9 0 5 (x2 - (16 : Int32)) h6 k8 k10) (mm_runV (as := [.ref b9, .int 0, .int 5, .int (x2 - (16 : Int32))]) (st := []) cl_11 lk_X12_isOpened_X12_sealOf_386 rfl dX12_isOpened_34 rfl (Nat.le_of_ble_eq_true rfl) k8) rfl (fun h11 p12 => ?_)
    have k13 : mm_kd h11 a0 = 11 := mm_kd_app p12 k8 (by decide)
    refine ok_iconst (q := 38) (v := 0) dX12_isOpened_37 ci_0 rfl ?_
    refine ok_istore_n (q := 39) (ls' := [.ref a0, .int x1, .int x2, .int 0]) dX12_isOpened_38 (Nat.le_of_ble_eq_true rfl) rfl rfl ?_
    refine ol_X12_isOpened_39 (fun b21 v22 v23 h20 k_b21 => ?_) mm_fu a0 x1 x2 0 h11 k13
    · refine ok_aload_n (q := 76) dX12_isOpened_75 rfl rfl ?_
      refine ok_getR cl_11 (q := 79) (k := 29) dX12_isOpened_76 (Nat.le_of_ble_eq_true rfl) wd_1061 (fun _ _ _ => rfl) kt_11_29 k_b21 rfl (fun b24 k25 => ?_)
      refine ok_iload_n (q := 80) dX12_isOpened_79 rfl rfl ?_
      refine ok_dup2 (q := 81) dX12_isOpened_80 rfl rfl rfl ?_
      refine mm_ck (fun c26 => ?_)
      refine ok_iald (q := 82) dX12_isOpened_81 k25 c26 rfl ?_
      refine ok_iconst (q := 83) (v := 1) dX12_isOpened_82 ci_1 rfl ?_
      refine ok_iadd (q := 84) dX12_isOpened_83 rfl ?_
      refine mm_ck (fun c27 => ?_)
      refine ok_iast (q := 85) dX12_isOpened_84 k25 c27.1 c27.2 rfl (bh_ok (fun h28 e29 => ?_))
      have e29 : h28.1 = h20.1 := e29
      refine ok_aload_n (q := 86) dX12_isOpened_85 rfl rfl ?_
      refine ok_aload_n (q := 87) dX12_isOpened_86 rfl rfl ?_
      refine ok_getR cl_11 (q := 90) (k := 60) dX12_isOpened_87 (Nat.le_of_ble_eq_true rfl) wd_1092 (fun _ _ _ => rfl) kt_11_60 (mm_ke e29 k_b21) rfl (fun b30 k31 => ?_)
      refine ok_iconst (q := 91) (v := 5) dX12_isOpened_90 ci_5 rfl ?_
      refine ok_iload_n (q := 92) dX12_isOpened_91 rfl rfl ?_
      refine ok_bipush (q := 94) (v := 16) dX12_isOpened_92 cb_16 rfl ?_
      refine ok_isub (q := 95) dX12_isOpened_94 rfl ?_
      refine mm_cv (q := 98) (mt_X12_cover G b21 b30 5 (v23 - (16 : Int32)) h28 (mm_ke e29 k_b21) (mm_ke e29 (mm_ke e29.symm k31))) (mm_runV (as := [.ref b30, .int 5, .int (v23 - (16 : Int32))]) (st := []) cl_11 lk_X12_isOpened_X12_cover_383 rfl dX12_isOpened_95 rfl (Nat.le_of_ble_eq_true rfl) (mm_ke e29 k_b21)) rfl (fun h32 p33 => ?_)
      have k34 : mm_kd h32 b21 = 11 := mm_kd_app p33 (mm_ke e29 k_b21) (by decide)
      refine ok_iconst (q := 99) (v := 1) dX12_isOpened_98 ci_1 rfl ?_
      exact ok_iret (t := .boolean) dX12_isOpened_99 rfl (by decide)
  · refine ok_iconst (q := 7) (v := 0) dX12_isOpened_6 ci_0 rfl ?_
    exact ok_iret (t := .boolean) dX12_isOpened_7 rfl (by decide)
