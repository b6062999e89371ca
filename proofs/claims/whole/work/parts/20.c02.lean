def bd_X6_fourLowFirst (a0 : Nat) (x1 : Int32) (h : mm_H) : mm_O := if x1 < 0 then
  (some (some (.int 0), h))
  else
  (if x1 < ((mm_i h a0 1) - (3 : Int32)) then
  (mm_gr h a0 0 (fun b1 =>
  if mm_in x1 (mm_ln h b1) = true then (mm_gr h a0 0 (fun b4 =>
  if mm_in (x1 + (1 : Int32)) (mm_ln h b4) = true then (mm_gr h a0 0 (fun b7 =>
  if mm_in (x1 + (2 : Int32)) (mm_ln h b7) = true then (mm_gr h a0 0 (fun b10 =>
  if mm_in (x1 + (3 : Int32)) (mm_ln h b10) = true then (some (some (.int ((((mm_i h b1 (mm_n x1)) ||| (mm_shl (mm_i h b4 (mm_n (x1 + (1 : Int32)))) (8 : Int32))) ||| (mm_shl (mm_i h b7 (mm_n (x1 + (2 : Int32)))) (16 : Int32))) ||| (mm_shl (mm_i h b10 (mm_n (x1 + (3 : Int32)))) (24 : Int32)))), h)) else none)) else none)) else none)) else none))
  else
  (some (some (.int 0), h)))
set_option maxHeartbeats 4000000 in
set_option maxRecDepth 100000 in
theorem mt_X6_fourLowFirst (G : mm_G) (a0 : Nat) (x1 : Int32) (h : mm_H) (k_a0 : mm_kd h a0 = 5) : mm_Met G my_X6_fourLowFirst [.ref a0, .int x1] h (bd_X6_fourLowFirst a0 x1 h) := by
  refine mm_met (ls := [.ref a0, .int x1]) pn_RX6 (Nat.le_of_ble_eq_true rfl) rfl ?_
  unfold bd_X6_fourLowFirst
  refine ok_iload_n (q := 1) dX6_fourLowFirst_0 rfl rfl ?_
  refine ok_if_lt (q := 4) (t := 14) dX6_fourLowFirst_1 rfl rfl ?_ ?_
  · refine ok_iconst (q := 15) (v := 0) dX6_fourLowFirst_14 ci_0 rfl ?_
    exact ok_iret (t := .int) dX6_fourLowFirst_15 rfl rfl
  · refine ok_iload_n (q := 5) dX6_fourLowFirst_4 rfl rfl ?_
    refine ok_aload_n (q := 6) dX6_fourLowFirst_5 rfl rfl ?_
    refine ok_getI cl_5 (q := 9) (k := 1) dX6_fourLowFirst_6 (Nat.le_of_ble_eq_true rfl) wd_122 (fun _ _ _ => rfl) k_a0 rfl ?_
    refine ok_iconst (q := 10) (v := 3) dX6_fourLowFirst_9 ci_3 rfl ?_
    refine ok_isub (q := 11) dX6_fourLowFirst_10 rfl ?_
    refine ok_icmp_lt (q := 14) (t := 16) dX6_fourLowFirst_11 rfl rfl ?_ ?_
    · refine ok_aload_n (q := 17) dX6_fourLowFirst_16 rfl rfl ?_
      refine ok_getR cl_5 (q := 20) (k := 0) dX6_fourLowFirst_17 (Nat.le_of_ble_eq_true rfl) wd_116 (fun _ _ _ => rfl) kt_5_0 k_a0 rfl (fun b1 k2 => ?_)
      refine ok_iload_n (q := 21) dX6_fourLowFirst_20 rfl rfl ?_
      refine mm_ck (fun c3 => ?_)
      refine ok_iald (q := 22) dX6_fourLowFirst_21 k2 c3 rfl ?_
      refine ok_aload_n (q := 23) dX6_fourLowFirst_22 rfl rfl ?_
      refine ok_getR cl_5 (q := 26) (k := 0) dX6_fourLowFirst_23 (Nat.le_of_ble_eq_true rfl) wd_116 (fun _ _ _ => rfl) kt_5_0 k_a0 rfl (fun b4 k5 => ?_)
      refine ok_iload_n (q := 27) dX6_fourLowFirst_26 rfl rfl ?_
      refine ok_iconst (q := 28) (v := 1) dX6_fourLowFirst_27 ci_1 rfl ?_
      refine ok_iadd (q := 29) dX6_fourLowFirst_28 rfl ?_
      refine mm_ck (fun c6 => ?_)
      refine ok_iald (q := 30) dX6_fourLowFirst_29 k5 c6 rfl ?_
      refine ok_bipush (q := 32) (v := 8) dX6_fourLowFirst_30 cb_8 rfl ?_
      refine ok_ishl (q := 33) dX6_fourLowFirst_32 rfl ?_
      refine ok_ior (q := 34) dX6_fourLowFirst_33 rfl ?_
      refine ok_aload_n (q := 35) dX6_fourLowFirst_34 rfl rfl ?_
      refine ok_getR cl_5 (q := 38) (k := 0) dX6_fourLowFirst_35 (Nat.le_of_ble_eq_true rfl) wd_116 (fun _ _ _ => rfl) kt_5_0 k_a0 rfl (fun b7 k8 => ?_)
      refine ok_iload_n (q := 39) dX6_fourLowFirst_38 rfl rfl ?_
      refine ok_iconst (q := 40) (v := 2) dX6_fourLowFirst_39 ci_2 rfl ?_
      refine ok_iadd (q := 41) dX6_fourLowFirst_40 rfl ?_
      refine mm_ck (fun c9 => ?_)
      refine ok_iald (q := 42) dX6_fourLowFirst_41 k8 c9 rfl ?_
      refine ok_bipush (q := 44) (v := 16) dX6_fourLowFirst_42 cb_16 rfl ?_
      refine ok_ishl (q := 45) dX6_fourLowFirst_44 rfl ?_
      refine ok_ior (q := 46) dX6_fourLowFirst_45 rfl ?_
      refine ok_aload_n (q := 47) dX6_fourLowFirst_46 rfl rfl ?_
      refine ok_getR cl_5 (q := 50) (k := 0) dX6_fourLowFirst_47 (Nat.le_of_ble_eq_true rfl) wd_116 (fun _ _ _ => rfl) kt_5_0 k_a0 rfl (fun b10 k11 => ?_)
      refine ok_iload_n (q := 51) dX6_fourLowFirst_50 rfl rfl ?_
      refine ok_iconst (q := 52) (v := 3) dX6_fourLowFirst_51 ci_3 rfl ?_
      refine ok_iadd (q := 53) dX6_fourLowFirst_52 rfl ?_
      refine mm_ck (fun c12 => ?_)
      refine ok_iald (q := 54) dX6_fourLowFirst_53 k11 c12 rfl ?_
      refine ok_bipush (q := 56) (v := 24) dX6_fourLowFirst_54 cb_24 rfl ?_
      refine ok_ishl (q := 57) dX6_fourLowFirst_56 rfl ?_
      refine ok_ior (q := 58) dX6_fourLowFirst_57 rfl ?_
      exact ok_iret (t := .int) dX6_fourLowFirst_58 rfl rfl
    · refine ok_iconst (q := 15) (v := 0) dX6_fourLowFirst_14 ci_0 rfl ?_
      exact ok_iret (t := .int) dX6_fourLowFirst_15 rfl rfl
def lp_X8_turnBlock_10 (ke_34 : Nat → mm_H → mm_O) : Nat → Nat → Int32 → mm_H → mm_O
  | 0, _, _, _ => none
  | n + 1, a0, x2, h => if (16 : Int32) ≤ x2 then
  (ke_34 a0 h)
  else
  (mm_gr h a0 2 (fun b6 =>
  mm_gr h a0 1 (fun b8 =>
  if mm_in x2 (mm_ln h b8) = true then (if 32 ≤ b6 ∧ mm_in x2 (mm_ln h b6) = true then (mm_bh (mm_si h b6 (mm_n x2) (mm_i h b8 (mm_n x2))) (fun h12 =>
  lp_X8_turnBlock_10 ke_34 n a0 (x2 + 1) h12)) else none) else none)))
set_option maxHeartbeats 4000000 in
set_option maxRecDepth 100000 in
theorem ol_X8_turnBlock_10 {G : mm_G} {ke_34 : Nat → mm_H → mm_O} (hke_34 : ∀ (a0 : Nat) (h : mm_H), mm_kd h a0 = 7 → mm_Ok G my_X8_turnBlock 34 [.ref a0, mm_U, mm_U, mm_U, mm_U, mm_U, mm_U, mm_U, mm_U, mm_U, mm_U, mm_U] [] h (ke_34 a0 h)) : ∀ (n : Nat) (a0 : Nat) (x2 : Int32) (h : mm_H), mm_kd h a0 = 7 → mm_Ok G my_X8_turnBlock 10 [.ref a0, mm_U, .int x2, mm_U, mm_U, mm_U, mm_U, mm_U, mm_U, mm_U, mm_U, mm_U] [] h (lp_X8_turnBlock_10 ke_34 n a0 x2 h) := by
  intro n
  induction n with
  | zero => intro a0 x2 h k_a0; exact mm_no
  | succ n ih =>
    intro a0 x2 h k_a0
    rw [lp_X8_turnBlock_10]
    refine ok_iload_n (q := 11) dX8_turnBlock_10 rfl rfl ?_
    refine ok_bipush (q := 13) (v := 16) dX8_turnBlock_11 cb_16 rfl ?_
    refine ok_icmp_ge (q := 16) (t := 34) dX8_turnBlock_13 rfl rfl ?_ ?_
    · refine mm_wk [true, false, false, false, false, false, false, false, false, false, false, false] (ls' := [.ref a0, mm_U, mm_U, mm_U, mm_U, mm_U, mm_U, mm_U, mm_U, mm_U, mm_U, mm_U]) rfl ?_
      exact hke_34 a0 h k_a0
    · refine ok_aload_n (q := 17) dX8_turnBlock_16 rfl rfl ?_
      refine ok_getR cl_7 (q := 20) (k := 2) dX8_turnBlock_17 (Nat.le_of_ble_eq_true rfl) wd_221 (fun _ _ _ => rfl) kt_7_2 k_a0 rfl (fun b6 k7 => ?_)
      refine ok_iload_n (q := 21) dX8_turnBlock_20 rfl rfl ?_
      refine ok_aload_n (q := 22) dX8_turnBlock_21 rfl rfl ?_
      refine ok_getR cl_7 (q := 25) (k := 1) dX8_turnBlock_22 (Nat.le_of_ble_eq_true rfl) wd_220 (fun _ _ _ => rfl) kt_7_1 k_a0 rfl (fun b8 k9 => ?_)
      refine ok_iload_n (q := 26) dX8_turnBlock_25 rfl rfl ?_
      refine mm_ck (fun c10 => ?_)
      refine ok_iald (q := 27) dX8_turnBlock_26 k9 c10 rfl ?_
      refine mm_ck (fun c11 => ?_)
      refine ok_iast (q := 28) dX8_turnBlock_27 k7 c11.1 c11.2 rfl (bh_ok (fun h12 e13 => ?_))
      have e13 : h12.1 = h.1 := e13
      refine ok_iinc (q := 31) (v := x2 + 1) (ls' := [.ref a0, mm_U, .int (x2 + 1), mm_U, mm_U, mm_U, mm_U, mm_U, mm_U, mm_U, mm_U, mm_U]) dX8_turnBlock_28 rfl (congrArg (x2 + ·) ci_1) (Nat.le_of_ble_eq_true rfl) rfl rfl ?_
      refine ok_goto (q := 10) dX8_turnBlock_31 rfl ?_
      exact ih a0 (x2 + 1) h12 (mm_ke e13 k_a0)
def lp_X8_turnBlock_36 (ke_259 : Nat → mm_H → mm_O) : Nat → Nat → Int32 → mm_H → mm_O
  | 0, _, _, _ => none
  | n + 1, a0, x2, h => if ((10 : Int32) * (nI (mm_ln h 5))) ≤ x2 then
  (ke_259 a0 h)
  else
  (if ¬ (nI (mm_ln h 5)) = 0 then (mm_bi (mm_rem x2 (nI (mm_ln h 5))) (fun v19 =>
  if mm_in v19 (mm_ln h 5) = true then (mm_bi (mm_i h 5 (mm_n v19)) (fun v22 =>
  if mm_in (v19 + (1 : Int32)) (mm_ln h 5) = true then (mm_bi (mm_i h 5 (mm_n (v19 + (1 : Int32)))) (fun v25 =>
  if mm_in (v19 + (2 : Int32)) (mm_ln h 5) = true then (mm_bi (mm_i h 5 (mm_n (v19 + (2 : Int32)))) (fun v28 =>
  if mm_in (v19 + (3 : Int32)) (mm_ln h 5) = true then (mm_bi (mm_i h 5 (mm_n (v19 + (3 : Int32)))) (fun v31 =>
  mm_gr h a0 2 (fun b32 =>
  if mm_in v22 (mm_ln h b32) = true then (mm_gr h a0 2 (fun b35 =>
  if mm_in v25 (mm_ln h b35) = true then (mm_bi ((mm_i h b32 (mm_n v22)) + (mm_i h b35 (mm_n v25))) (fun v38 =>
  mm_gr h a0 2 (fun b39 =>
  if mm_in v31 (mm_ln h b39) = true then (mm_bi ((mm_i h b39 (mm_n v31)) ^^^ v38) (fun v42 =>
  mm_bi ((mm_shl v42 (16 : Int32)) ||| (mm_ush v42 (16 : Int32))) (fun v43 =>
  mm_gr h a0 2 (fun b44 =>
  if mm_in v28 (mm_ln h b44) = true then (mm_bi ((mm_i h b44 (mm_n v28)) + v43) (fun v47 =>
  mm_gr h a0 2 (fun b48 =>
  if mm_in v25 (mm_ln h b48) = true then (mm_bi ((mm_i h b48 (mm_n v25)) ^^^ v47) (fun v51 =>
  mm_bi ((mm_shl v51 (12 : Int32)) ||| (mm_ush v51 (20 : Int32))) (fun v52 =>
  mm_bi (v38 + v52) (fun v53 =>
  mm_bi (v43 ^^^ v53) (fun v54 =>
  mm_bi ((mm_shl v54 (8 : Int32)) ||| (mm_ush v54 (24 : Int32))) (fun v55 =>
  mm_bi (v47 + v55) (fun v56 =>
  mm_bi (v52 ^^^ v56) (fun v57 =>
  mm_gr h a0 2 (fun b58 =>
  if 32 ≤ b58 ∧ mm_in v22 (mm_ln h b58) = true then (mm_bh (mm_si h b58 (mm_n v22) v53) (fun h61 =>
  mm_gr h61 a0 2 (fun b63 =>
  if 32 ≤ b63 ∧ mm_in v25 (mm_ln h61 b63) = true then (mm_bh (mm_si h61 b63 (mm_n v25) ((mm_shl v57 (7 : Int32)) ||| (mm_ush v57 (25 : Int32)))) (fun h66 =>
  mm_gr h66 a0 2 (fun b68 =>
  if 32 ≤ b68 ∧ mm_in v28 (mm_ln h66 b68) = true then (mm_bh (mm_si h66 b68 (mm_n v28) v56) (fun h71 =>
  mm_gr h71 a0 2 (fun b73 =>
  if 32 ≤ b73 ∧ mm_in v31 (mm_ln h71 b73) = true then (mm_bh (mm_si h71 b73 (mm_n v31) v55) (fun h76 =>
  lp_X8_turnBlock_36 ke_259 n a0 (x2 + 4) h76)) else none))) else none))) else none))) else none))))))))) else none))) else none)))) else none))) else none)) else none))) else none)) else none)) else none)) else none)) else none)
set_option maxHeartbeats 4000000 in
set_option maxRecDepth 100000 in
theorem ol_X8_turnBlock_36 {G : mm_G} {ke_259 : Nat → mm_H → mm_O} (hke_259 : ∀ (a0 : Nat) (h : mm_H), mm_kd h a0 = 7 → mm_Ok G my_X8_turnBlock 259 [.ref a0, mm_U, mm_U, mm_U, mm_U, mm_U, mm_U, mm_U, mm_U, mm_U, mm_U, mm_U] [] h (ke_259 a0 h)) : ∀ (n : Nat) (a0 : Nat) (x2 : Int32) (h : mm_H), mm_kd h a0 = 7 → mm_Ok G my_X8_turnBlock 36 [.ref a0, mm_U, .int x2, mm_U, mm_U, mm_U, mm_U, mm_U, mm_U, mm_U, mm_U, mm_U] [] h (lp_X8_turnBlock_36 ke_259 n a0 x2 h) := by
  intro n
  induction n with
  | zero => intro a0 x2 h k_a0; exact mm_no
  | succ n ih =>
    intro a0 x2 h k_a0
    rw [lp_X8_turnBlock_36]
    refine ok_iload_n (q := 37) dX8_turnBlock_36 rfl rfl ?_
    refine ok_bipush (q := 39) (v := 10) dX8_turnBlock_37 cb_10 rfl ?_
    refine ok_gets (q := 42) (a := 5) (by decide +kernel) dX8_turnBlock_39 wd_673 (by decide) rfl (fun k16 => ?_)
    refine ok_alen (q := 43) dX8_turnBlock_42 (by rw [k16]; decide) rfl ?_
    refine ok_imul (q := 44) dX8_turnBlock_43 rfl ?_
    refine ok_icmp_ge (q := 47) (t := 259) dX8_turnBlock_44 rfl rfl ?_ ?_
    · refine mm_wk [true, false, false, false, false, false, false, false, false, false, false, false] (ls' := [.ref a0, mm_U, mm_U, mm_U, mm_U, mm_U, mm_U, mm_U, mm_U, mm_U, mm_U, mm_U]) rfl ?_
      exact hke_259 a0 h k_a0
    · refine ok_iload_n (q := 48) dX8_turnBlock_47 rfl rfl ?_
      refine ok_gets (q := 51) (a := 5) (by decide +kernel) dX8_turnBlock_48 wd_673 (by decide) rfl (fun k17 => ?_)
      refine ok_alen (q := 52) dX8_turnBlock_51 (by rw [k17]; decide) rfl ?_
      refine mm_ck (fun c18 => ?_)
      refine ok_irem (q := 53) dX8_turnBlock_52 c18 rfl ?_
      refine bi_ok (fun v19 => ?_)
      refine ok_istore_n (q := 54) (ls' := [.ref a0, mm_U, .int x2, .int v19, mm_U, mm_U, mm_U, mm_U, mm_U, mm_U, mm_U, mm_U]) dX8_turnBlock_53 (Nat.le_of_ble_eq_true rfl) rfl rfl ?_
      refine ok_gets (q := 57) (a := 5) (by decide +kernel) dX8_turnBlock_54 wd_673 (by decide) rfl (fun k20 => ?_)
      refine ok_iload_n (q := 58) dX8_turnBlock_57 rfl rfl ?_
      refine mm_ck (fun c21 => ?_)
      refine ok_iald (q := 59) dX8_turnBlock_58 k20 c21 rfl ?_
      refine bi_ok (fun v22 => ?_)
      refine ok_istore (q := 61) (ls' := [.ref a0, mm_U, .int x2, .int v19, .int v22, mm_U, mm_U, mm_U, mm_U, mm_U, mm_U, mm_U]) dX8_turnBlock_59 (Nat.le_of_ble_eq_true rfl) rfl rfl ?_
      refine ok_gets (q := 64) (a := 5) (by decide +kernel) dX8_turnBlock_61 wd_673 (by decide) rfl (fun k23 => ?_)
      refine ok_iload_n (q := 65) dX8_turnBlock_64 rfl rfl ?_
      refine ok_iconst (q := 66) (v := 1) dX8_turnBlock_65 ci_1 rfl ?_
      refine ok_iadd (q := 67) dX8_turnBlock_66 rfl ?_
      refine mm_ck (fun c24 => ?_)
      refine ok_iald (q := 68) dX8_turnBlock_67 k23 c24 rfl ?_
      refine bi_ok (fun v25 => ?_)
      refine ok_istore (q := 70) (ls' := [.ref a0, mm_U, .int x2, .int v19, .int v22, .int v25, mm_U, mm_U, mm_U, mm_U, mm_U, mm_U]) dX8_turnBlock_68 (Nat.le_of_ble_eq_true rfl) rfl rfl ?_
      refine ok_gets (q := 73) (a := 5) (by decide +kernel) dX8_turnBlock_70 wd_673 (by decide) rfl (fun k26 => ?_)
      refine ok_iload_n (q := 74) dX8_turnBlock_73 rfl rfl ?_
      refine ok_iconst (q := 75) (v := 2) dX8_turnBlock_74 ci_2 rfl ?_
      refine ok_iadd (q := 76) dX8_turnBlock_75 rfl ?_
      refine mm_ck (fun c27 => ?_)
      refine ok_iald (q := 77) dX8_turnBlock_76 k26 c27 rfl ?_
      refine bi_ok (fun v28 => ?_)
      refine ok_istore (q := 79) (ls' := [.ref a0, mm_U, .int x2, .int v19, .int v22, .int v25, .int v28, mm_U, mm_U, mm_U, mm_U, mm_U]) dX8_turnBlock_77 (Nat.le_of_ble_eq_true rfl) rfl rfl ?_
      refine ok_gets (q := 82) (a := 5) (by decide +kernel) dX8_turnBlock_79 wd_673 (by decide) rfl (fun k29 => ?_)
      refine ok_iload_n (q := 83) dX8_turnBlock_82 rfl rfl ?_
      refine ok_iconst (q := 84) (v := 3) dX8_turnBlock_83 ci_3 rfl ?_
      refine ok_iadd (q := 85) dX8_turnBlock_84 rfl ?_
      refine mm_ck (fun c30 => ?_)
      refine ok_iald (q := 86) dX8_turnBlock_85 k29 c30 rfl ?_
      refine bi_ok (fun v31 => ?_)
      refine ok_istore (q := 88) (ls' := [.ref a0, mm_U, .int x2, .int v19, .int v22, .int v25, .int v28, .int v31, mm_U, mm_U, mm_U, mm_U]) dX8_turnBlock_86 (Nat.le_of_ble_eq_true rfl) rfl rfl ?_
      refine ok_aload_n (q := 89) dX8_turnBlock_88 rfl rfl ?_
      refine ok_getR cl_7 (q := 92) (k := 2) dX8_turnBlock_89 (Nat.le_of_ble_eq_true rfl) wd_221 (fun _ _ _ => rfl) kt_7_2 k_a0 rfl (fun b32 k33 => ?_)
      refine ok_iload (q := 94) dX8_turnBlock_92 rfl rfl ?_
      refine mm_ck (fun c34 => ?_)
      refine ok_iald (q := 95) dX8_turnBlock_94 k33 c34 rfl ?_
      refine ok_aload_n (q := 96) dX8_turnBlock_95 rfl rfl ?_
      refine ok_getR cl_7 (q := 99) (k := 2) dX8_turnBlock_96 (Nat.le_of_ble_eq_true rfl) wd_221 (fun _ _ _ => rfl) kt_7_2 k_a0 rfl (fun b35 k36 => ?_)
      refine ok_iload (q := 101) dX8_turnBlock_99 rfl rfl ?_
      refine mm_ck (fun c37 => ?_)
      refine ok_iald (q := 102) dX8_turnBlock_101 k36 c37 rfl ?_
      refine ok_iadd (q := 103) dX8_turnBlock_102 rfl ?_
      refine bi_ok (fun v38 => ?_)
      refine ok_istore (q := 105) (ls' := [.ref a0, mm_U, .int x2, .int v19, .int v22, .int v25, .int v28, .int v31, .int v38, mm_U, mm_U, mm_U]) dX8_turnBlock_103 (Nat.le_of_ble_eq_true rfl) rfl rfl ?_
      refine ok_aload_n (q := 106) dX8_turnBlock_105 rfl rfl ?_
      refine ok_getR cl_7 (q := 109) (k := 2) dX8_turnBlock_106 (Nat.le_of_ble_eq_true rfl) wd_221 (fun _ _ _ => rfl) kt_7_2 k_a0 rfl (fun b39 k40 => ?_)
      refine ok_iload (q := 111) dX8_turnBlock_109 rfl rfl ?_
      refine mm_ck (fun c41 => ?_)
      refine ok_iald (q := 112) dX8_turnBlock_111 k40 c41 rfl ?_
      refine ok_iload (q := 114) dX8_turnBlock_112 rfl rfl ?_
      refine ok_ixor (q := 115) dX8_turnBlock_114 rfl ?_
      refine bi_ok (fun v42 => ?_)
      refine ok_istore (q := 117) (ls' := [.ref a0, mm_U, .int x2, .int v19, .int v22, .int v25, .int v28, .int v31, .int v38, .int v42, mm_U, mm_U]) dX8_turnBlock_115 (Nat.le_of_ble_eq_true rfl) rfl rfl ?_
      refine ok_iload (q := 119) dX8_turnBlock_117 rfl rfl ?_
      refine ok_bipush (q := 121) (v := 16) dX8_turnBlock_119 cb_16 rfl ?_
      refine ok_ishl (q := 122) dX8_turnBlock_121 rfl ?_
      refine ok_iload (q := 124) dX8_turnBlock_122 rfl rfl ?_
      refine ok_bipush (q := 126) (v := 16) dX8_turnBlock_124 cb_16 rfl ?_
      refine ok_iushr (q := 127) dX8_turnBlock_126 rfl ?_
      refine ok_ior (q := 128) dX8_turnBlock_127 rfl ?_
      refine bi_ok (fun v43 => ?_)
      refine ok_istore (q := 130) (ls' := [.ref a0, mm_U, .int x2, .int v19, .int v22, .int v25, .int v28, .int v31, .int v38, .int v43, mm_U, mm_U]) dX8_turnBlock_128 (Nat.le_of_ble_eq_true rfl) rfl rfl ?_
      refine ok_aload_n (q := 131) dX8_turnBlock_130 rfl rfl ?_
      refine ok_getR cl_7 (q := 134) (k := 2) dX8_turnBlock_131 (Nat.le_of_ble_eq_true rfl) wd_221 (fun _ _ _ => rfl) kt_7_2 k_a0 rfl (fun b44 k45 => ?_)
      refine ok_iload (q := 136) dX8_turnBlock_134 rfl rfl ?_
      refine mm_ck (fun c46 => ?_)
      refine ok_iald (q := 137) dX8_turnBlock_136 k45 c46 rfl ?_
      refine ok_iload (q := 139) dX8_turnBlock_137 rfl rfl ?_
      refine ok_iadd (q := 140) dX8_turnBlock_139 rfl ?_
      refine bi_ok (fun v47 => ?_)
      refine ok_istore (q := 142) (ls' := [.ref a0, mm_U, .int x2, .int v19, .int v22, .int v25, .int v28, .int v31, .int v38, .int v43, .int v47, mm_U]) dX8_turnBlock_140 (Nat.le_of_ble_eq_true rfl) rfl rfl ?_
      refine ok_aload_n (q := 143) dX8_turnBlock_142 rfl rfl ?_
      refine ok_getR cl_7 (q := 146) (k := 2) dX8_turnBlock_143 (Nat.le_of_ble_eq_true rfl) wd_221 (fun _ _ _ => rfl) kt_7_2 k_a0 rfl (fun b48 k49 => ?_)
      refine ok_iload (q := 148) dX8_turnBlock_146 rfl rfl ?_
      refine mm_ck (fun c50 => ?_)
      refine ok_iald (q := 149) dX8_turnBlock_148 k49 c50 rfl ?_
      refine ok_iload (q := 151) dX8_turnBlock_149 rfl rfl ?_
      refine ok_ixor (q := 152) dX8_turnBlock_151 rfl ?_
      refine bi_ok (fun v51 => ?_)
      refine ok_istore (q := 154) (ls' := [.ref a0, mm_U, .int x2, .int v19, .int v22, .int v25, .int v28, .int v31, .int v38, .int v43, .int v47, .int v51]) dX8_turnBlock_152 (Nat.le_of_ble_eq_true rfl) rfl rfl ?_
      refine ok_iload (q := 156) dX8_turnBlock_154 rfl rfl ?_
      refine ok_bipush (q := 158) (v := 12) dX8_turnBlock_156 cb_12 rfl ?_
      refine ok_ishl (q := 159) dX8_turnBlock_158 rfl ?_
      refine ok_iload (q := 161) dX8_turnBlock_159 rfl rfl ?_
      refine ok_bipush (q := 163) (v := 20) dX8_turnBlock_161 cb_20 rfl ?_
      refine ok_iushr (q := 164) dX8_turnBlock_163 rfl ?_
      refine ok_ior (q := 165) dX8_turnBlock_164 rfl ?_
      refine bi_ok (fun v52 => ?_)
      refine ok_istore (q := 167) (ls' := [.ref a0, mm_U, .int x2, .int v19, .int v22, .int v25, .int v28, .int v31, .int v38, .int v43, .int v47, .int v52]) dX8_turnBlock_165 (Nat.le_of_ble_eq_true rfl) rfl rfl ?_
      refine ok_iload (q := 169) dX8_turnBlock_167 rfl rfl ?_
      refine ok_iload (q := 171) dX8_turnBlock_169 rfl rfl ?_
      refine ok_iadd (q := 172) dX8_turnBlock_171 rfl ?_
      refine bi_ok (fun v53 => ?_)
      refine ok_istore (q := 174) (ls' := [.ref a0, mm_U, .int x2, .int v19, .int v22, .int v25, .int v28, .int v31, .int v53, .int v43, .int v47, .int v52]) dX8_turnBlock_172 (Nat.le_of_ble_eq_true rfl) rfl rfl ?_
      refine ok_iload (q := 176) dX8_turnBlock_174 rfl rfl ?_
      refine ok_iload (q := 178) dX8_turnBlock_176 rfl rfl ?_
      refine ok_ixor (q := 179) dX8_turnBlock_178 rfl ?_
      refine bi_ok (fun v54 => ?_)
      refine ok_istore (q := 181) (ls' := [.ref a0, mm_U, .int x2, .int v19, .int v22, .int v25, .int v28, .int v31, .int v53, .int v54, .int v47, .int v52]) dX8_turnBlock_179 (Nat.le_of_ble_eq_true rfl) rfl rfl ?_
      refine ok_iload (q := 183) dX8_turnBlock_181 rfl rfl ?_
      refine ok_bipush (q := 185) (v := 8) dX8_turnBlock_183 cb_8 rfl ?_
      refine ok_ishl (q := 186) dX8_turnBlock_185 rfl ?_
      refine ok_iload (q := 188) dX8_turnBlock_186 rfl rfl ?_
      refine ok_bipush (q := 190) (v := 24) dX8_turnBlock_188 cb_24 rfl ?_
      refine ok_iushr (q := 191) dX8_turnBlock_190 rfl ?_
      refine ok_ior (q := 192) dX8_turnBlock_191 rfl ?_
      refine bi_ok (fun v55 => ?_)
      refine ok_istore (q := 194) (ls' := [.ref a0, mm_U, .int x2, .int v19, .int v22, .int v25, .int v28, .int v31, .int v53, .int v55, .int v47, .int v52]) dX8_turnBlock_192 (Nat.le_of_ble_eq_true rfl) rfl rfl ?_
      refine ok_iload (q := 196) dX8_turnBlock_194 rfl rfl ?_
      refine ok_iload (q := 198) dX8_turnBlock_196 rfl rfl ?_
      refine ok_iadd (q := 199) dX8_turnBlock_198 rfl ?_
      refine bi_ok (fun v56 => ?_)
      refine ok_istore (q := 201) (ls' := [.ref a0, mm_U, .int x2, .int v19, .int v22, .int v25, .int v28, .int v31, .int v53, .int v55, .int v56, .int v52]) dX8_turnBlock_199 (Nat.le_of_ble_eq_true rfl) rfl rfl ?_
      refine ok_iload (q := 203) dX8_turnBlock_201 rfl rfl ?_
      refine ok_iload (q := 205) dX8_turnBlock_203 rfl rfl ?_
      refine ok_ixor (q := 206) dX8_turnBlock_205 rfl ?_
      refine bi_ok (fun v57 => ?_)
      refine ok_istore (q := 208) (ls' := [.ref a0, mm_U, .int x2, .int v19, .int v22, .int v25, .int v28, .int v31, .int v53, .int v55, .int v56, .int v57]) dX8_turnBlock_206 (Nat.le_of_ble_eq_true rfl) rfl rfl ?_
      refine ok_aload_n (q := 209) dX8_turnBlock_208 rfl rfl ?_
      refine ok_getR cl_7 (q := 212) (k := 2) dX8_turnBlock_209 (Nat.le_of_ble_eq_true rfl) wd_221 (fun _ _ _ => rfl) kt_7_2 k_a0 rfl (fun b58 k59 => ?_)
      refine ok_iload (q := 214) dX8_turnBlock_212 rfl rfl ?_
      refine ok_iload (q := 216) dX8_turnBlock_214 rfl rfl ?_
      refine mm_ck (fun c60 => ?_)
      refine ok_iast (q := 217) dX8_turnBlock_216 k59 c60.1 c60.2 rfl (bh_ok (fun h61 e62 => ?_))
      have e62 : h61.1 = h.1 := e62
      refine ok_aload_n (q := 218) dX8_turnBlock_217 rfl rfl ?_
      refine ok_getR cl_7 (q := 221) (k := 2) dX8_turnBlock_218 (Nat.le_of_ble_eq_true rfl) wd_221 (fun _ _ _ => rfl) kt_7_2 (mm_ke e62 k_a0) rfl (fun b63 k64 => ?_)
      refine ok_iload (q := 223) dX8_turnBlock_221 rfl rfl ?_
      refine ok_iload (q := 225) dX8_turnBlock_223 rfl rfl ?_
      refine ok_bipush (q := 227) (v := 7) dX8_turnBlock_225 cb_7 rfl ?_
      refine ok_ishl (q := 228) dX8_turnBlock_227 rfl ?_
      refine ok_iload (q := 230) dX8_turnBlock_228 rfl rfl ?_
      refine ok_bipush (q := 232) (v := 25) dX8_turnBlock_230 cb_25 rfl ?_
      refine ok_iushr (q := 233) dX8_turnBlock_232 rfl ?_
      refine ok_ior (q := 234) dX8_turnBlock_233 rfl ?_
      refine mm_ck (fun c65 => ?_)
      refine ok_iast (q := 235) dX8_turnBlock_234 (mm_ke e62 (mm_ke e62.symm k64)) c65.1 c65.2 rfl (bh_ok (fun h66 e67 => ?_))
      have e67 : h66.1 = h.1 := e67.trans e62
      refine ok_aload_n (q := 236) dX8_turnBlock_235 rfl rfl ?_
      refine ok_getR cl_7 (q := 239) (k := 2) dX8_turnBlock_236 (Nat.le_of_ble_eq_true rfl) wd_221 (fun _ _ _ => rfl) kt_7_2 (mm_ke e67 k_a0) rfl (fun b68 k69 => ?_)
      refine ok_iload (q := 241) dX8_turnBlock_239 rfl rfl ?_
      refine ok_iload (q := 243) dX8_turnBlock_241 rfl rfl ?_
      refine mm_ck (fun c70 => ?_)
      refine ok_iast (q := 244) dX8_turnBlock_243 (mm_ke e67 (mm_ke e67.symm k69)) c70.1 c70.2 rfl (bh_ok (fun h71 e72 => ?_))
      have e72 : h71.1 = h.1 := e72.trans e67
      refine ok_aload_n (q := 245) dX8_turnBlock_244 rfl rfl ?_
      refine ok_getR cl_7 (q := 248) (k := 2) dX8_turnBlock_245 (Nat.le_of_ble_eq_true rfl) wd_221 (fun _ _ _ => rfl) kt_7_2 (mm_ke e72 k_a0) rfl (fun b73 k74 => ?_)
      refine ok_iload (q := 250) dX8_turnBlock_248 rfl rfl ?_
      refine ok_iload (q := 252) dX8_turnBlock_250 rfl rfl ?_
      refine mm_ck (fun c75 => ?_)
      refine ok_iast (q := 253) dX8_turnBlock_252 (mm_ke e72 (mm_ke e72.symm k74)) c75.1 c75.2 rfl (bh_ok (fun h76 e77 => ?_))
      have e77 : h76.1 = h.1 := e77.trans e72
      refine ok_iinc (q := 256) (v := x2 + 4) (ls' := [.ref a0, mm_U, .int (x2 + 4), .int v19, .int v22, .int v25, .int v28, .int v31, .int v53, .int v55, .int v56, .int v57]) dX8_turnBlock_253 rfl (congrArg (x2 + ·) ci_4) (Nat.le_of_ble_eq_true rfl) rfl rfl ?_
      refine ok_goto (q := 36) dX8_turnBlock_256 rfl ?_
      refine mm_wk [true, false, true, false, false, false, false, false, false, false, false, false] (ls' := [.ref a0, mm_U, .int (x2 + 4), mm_U, mm_U, mm_U, mm_U, mm_U, mm_U, mm_U, mm_U, mm_U]) rfl ?_
      exact ih a0 (x2 + 4) h76 (mm_ke e77 k_a0)
def lp_X8_turnBlock_261  : Nat → Nat → Int32 → mm_H → mm_O
  | 0, _, _, _ => none
  | n + 1, a0, x2, h => if (16 : Int32) ≤ x2 then
  (some (none, h))
  else
  (mm_gr h a0 2 (fun b80 =>
  if mm_in x2 (mm_ln h b80) = true then (mm_gr h a0 1 (fun b83 =>
  if mm_in x2 (mm_ln h b83) = true then (if 32 ≤ b80 ∧ mm_in x2 (mm_ln h b80) = true then (mm_bh (mm_si h b80 (mm_n x2) ((mm_i h b80 (mm_n x2)) + (mm_i h b83 (mm_n x2)))) (fun h87 =>
  lp_X8_turnBlock_261 n a0 (x2 + 1) h87)) else none) else none)) else none))
set_option maxHeartbeats 4000000 in
set_option maxRecDepth 100000 in
theorem ol_X8_turnBlock_261 {G : mm_G}   : ∀ (n : Nat) (a0 : Nat) (x2 : Int32) (h : mm_H), mm_kd h a0 = 7 → mm_Ok G my_X8_turnBlock 261 [.ref a0, mm_U, .int x2, mm_U, mm_U, mm_U, mm_U, mm_U, mm_U, mm_U, mm_U, mm_U] [] h (lp_X8_turnBlock_261 n a0 x2 h) := by
  intro n
  induction n with
  | zero => intro a0 x2 h k_a0; exact mm_no
  | succ n ih =>
    intro a0 x2 h k_a0
    rw [lp_X8_turnBlock_261]
    refine ok_iload_n (q := 262) dX8_turnBlock_261 rfl rfl ?_
    refine ok_bipush (q := 264) (v := 16) dX8_turnBlock_262 cb_16 rfl ?_
    refine ok_icmp_ge (q := 267) (t := 288) dX8_turnBlock_264 rfl rfl ?_ ?_
    · exact ok_ret dX8_turnBlock_288 rfl
    · refine ok_aload_n (q := 268) dX8_turnBlock_267 rfl rfl ?_
      refine ok_getR cl_7 (q := 271) (k := 2) dX8_turnBlock_268 (Nat.le_of_ble_eq_true rfl) wd_221 (fun _ _ _ => rfl) kt_7_2 k_a0 rfl (fun b80 k81 => ?_)
      refine ok_iload_n (q := 272) dX8_turnBlock_271 rfl rfl ?_
      refine ok_dup2 (q := 273) dX8_turnBlock_272 rfl rfl rfl ?_
      refine mm_ck (fun c82 => ?_)
      refine ok_iald (q := 274) dX8_turnBlock_273 k81 c82 rfl ?_
      refine ok_aload_n (q := 275) dX8_turnBlock_274 rfl rfl ?_
      refine ok_getR cl_7 (q := 278) (k := 1) dX8_turnBlock_275 (Nat.le_of_ble_eq_true rfl) wd_220 (fun _ _ _ => rfl) kt_7_1 k_a0 rfl (fun b83 k84 => ?_)
      refine ok_iload_n (q := 279) dX8_turnBlock_278 rfl rfl ?_
      refine mm_ck (fun c85 => ?_)
      refine ok_iald (q := 280) dX8_turnBlock_279 k84 c85 rfl ?_
      refine ok_iadd (q := 281) dX8_turnBlock_280 rfl ?_
      refine mm_ck (fun c86 => ?_)
      refine ok_iast (q := 282) dX8_turnBlock_281 k81 c86.1 c86.2 rfl (bh_ok (fun h87 e88 => ?_))
      have e88 : h87.1 = h.1 := e88
      refine ok_iinc (q := 285) (v := x2 + 1) (ls' := [.ref a0, mm_U, .int (x2 + 1), mm_U, mm_U, mm_U, mm_U, mm_U, mm_U, mm_U, mm_U, mm_U]) dX8_turnBlock_282 rfl (congrArg (x2 + ·) ci_1) (Nat.le_of_ble_eq_true rfl) rfl rfl ?_
      refine ok_goto (q := 261) dX8_turnBlock_285 rfl ?_
      exact ih a0 (x2 + 1) h87 (mm_ke e88 k_a0)
def bd_X8_turnBlock (a0 : Nat) (x1 : Int32) (h : mm_H) : mm_O := mm_gr h a0 1 (fun b1 =>
  if 32 ≤ b1 ∧ mm_in (12 : Int32) (mm_ln h b1) = true then (mm_bh (mm_si h b1 (mm_n (12 : Int32)) x1) (fun h4 =>
  lp_X8_turnBlock_10 (fun b15 h14 => lp_X8_turnBlock_36 (fun b79 h78 => lp_X8_turnBlock_261  mm_fu b79 0 h78) mm_fu b15 0 h14) mm_fu a0 0 h4)) else none)
set_option maxHeartbeats 4000000 in
set_option maxRecDepth 100000 in
theorem mt_X8_turnBlock (G : mm_G) (a0 : Nat) (x1 : Int32) (h : mm_H) (k_a0 : mm_kd h a0 = 7) : mm_Met G my_X8_turnBlock [.ref a0, .int x1] h (bd_X8_turnBlock a0 x1 h) := by
  refine mm_met (ls := [.ref a0, .int x1, mm_U, mm_U, mm_U, mm_U, mm_U, mm_U, mm_U, mm_U, mm_U, mm_U]) pn_RX8 (Nat.le_of_ble_eq_true rfl) rfl ?_
  unfold bd_X8_turnBlock
  refine ok_aload_n (q := 1) dX8_turnBlock_0 rfl rfl ?_
  refine ok_getR cl_7 (q := 4) (k := 1) dX8_turnBlock_1 (Nat.le_of_ble_eq_true rfl) wd_220 (fun _ _ _ => rfl) kt_7_1 k_a0 rfl (fun b1 k2 => ?_)
  refine ok_bipush (q := 6) (v := 12) dX8_turnBlock_4 cb_12 rfl ?_
  refine ok_iload_n (q := 7) dX8_turnBlock_6 rfl rfl ?_
  refine mm_ck (fun c3 => ?_)
  refine ok_iast (q := 8) dX8_turnBlock_7 k2 c3.1 c3.2 rfl (bh_ok (fun h4 e5 => ?_))
  have e5 : h4.1 = h.1 := e5
  refine ok_iconst (q := 9) (v := 0) dX8_turnBlock_8 ci_0 rfl ?_
  refine ok_istore_n (q := 10) (ls' := [.ref a0, .int x1, .int 0, mm_U, mm_U, mm_U, mm_U, mm_U, mm_U, mm_U, mm_U, mm_U]) dX8_turnBlock_9 (Nat.le_of_ble_eq_true rfl) rfl rfl ?_
  refine mm_wk [true, false, true, false, false, false, false, false, false, false, false, false] (ls' := [.ref a0, mm_U, .int 0, mm_U, mm_U, mm_U, mm_U, mm_U, mm_U, mm_U, mm_U, mm_U]) rfl ?_
  refine ol_X8_turnBlock_10 (fun b15 h14 k_b15 => ?_) mm_fu a0 0 h4 (mm_ke e5 k_a0)
  · refine ok_iconst (q := 35) (v := 0) dX8_turnBlock_34 ci_0 rfl ?_
    refine ok_istore_n (q := 36) (ls' := [.ref b15, mm_U, .int 0, mm_U, mm_U, mm_U, mm_U, mm_U, mm_U, mm_U, mm_U, mm_U]) dX8_turnBlock_35 (Nat.le_of_ble_eq_true rfl) rfl rfl ?_
    refine ol_X8_turnBlock_36 (fun b79 h78 k_b79 => ?_) mm_fu b15 0 h14 k_b15
    · refine ok_iconst (q := 260) (v := 0) dX8_turnBlock_259 ci_0 rfl ?_
      refine ok_istore_n (q := 261) (ls' := [.ref b79, mm_U, .int 0, mm_U, mm_U, mm_U, mm_U, mm_U, mm_U, mm_U, mm_U, mm_U]) dX8_turnBlock_260 (Nat.le_of_ble_eq_true rfl) rfl rfl ?_
      refine ol_X8_turnBlock_261  mm_fu b79 0 h78 k_b79
def bd_X8_turned (x0 : Int32) (h : mm_H) : mm_O := some (some (.int ((((mm_ush x0 (24 : Int32)) ||| ((mm_ush x0 (8 : Int32)) &&& (65280 : Int32))) ||| ((mm_shl x0 (8 : Int32)) &&& (16711680 : Int32))) ||| (mm_shl x0 (24 : Int32)))), h)
set_option maxHeartbeats 4000000 in
set_option maxRecDepth 100000 in
theorem mt_X8_turned (G : mm_G) (x0 : Int32) (h : mm_H)  : mm_Met G my_X8_turned [.int x0] h (bd_X8_turned x0 h) := by
  refine mm_met (ls := [.int x0]) pn_RX8 (Nat.le_of_ble_eq_true rfl) rfl ?_
  unfold bd_X8_turned
  refine ok_iload_n (q := 1) dX8_turned_0 rfl rfl ?_
  refine ok_bipush (q := 3) (v := 24) dX8_turned_1 cb_24 rfl ?_
  refine ok_iushr (q := 4) dX8_turned_3 rfl ?_
  refine ok_iload_n (q := 5) dX8_turned_4 rfl rfl ?_
  refine ok_bipush (q := 7) (v := 8) dX8_turned_5 cb_8 rfl ?_
  refine ok_iushr (q := 8) dX8_turned_7 rfl ?_
  refine ok_ldc (q := 10) (v := 65280) dX8_turned_8 wd_667 rfl ?_
  refine ok_iand (q := 11) dX8_turned_10 rfl ?_
  refine ok_ior (q := 12) dX8_turned_11 rfl ?_
  refine ok_iload_n (q := 13) dX8_turned_12 rfl rfl ?_
  refine ok_bipush (q := 15) (v := 8) dX8_turned_13 cb_8 rfl ?_
  refine ok_ishl (q := 16) dX8_turned_15 rfl ?_
  refine ok_ldc (q := 18) (v := 16711680) dX8_turned_16 wd_668 rfl ?_
  refine ok_iand (q := 19) dX8_turned_18 rfl ?_
  refine ok_ior (q := 20) dX8_turned_19 rfl ?_
  refine ok_iload_n (q := 21) dX8_turned_20 rfl rfl ?_
  refine ok_bipush (q := 23) (v := 24) dX8_turned_21 cb_24 rfl ?_
  refine ok_ishl (q := 24) dX8_turned_23 rfl ?_
  refine ok_ior (q := 25) dX8_turned_24 rfl ?_
  exact ok_iret (t := .int) dX8_turned_25 rfl rfl
def lp_X8_aim_2 (ke_27 : Nat → Nat → mm_H → mm_O) : Nat → Nat → Nat → Int32 → mm_H → mm_O
  | 0, _, _, _, _ => none
  | n + 1, a0, a1, x2, h => if (nI (mm_ln h 4)) ≤ x2 then
  (ke_27 a0 a1 h)
  else
  (mm_gr h a0 1 (fun b2 =>
  if mm_in x2 (mm_ln h 4) = true then (if 32 ≤ b2 ∧ mm_in x2 (mm_ln h b2) = true then (mm_bh (mm_si h b2 (mm_n x2) (mm_i h 4 (mm_n x2))) (fun h7 =>
  lp_X8_aim_2 ke_27 n a0 a1 (x2 + 1) h7)) else none) else none))
set_option maxHeartbeats 4000000 in
set_option maxRecDepth 100000 in
theorem ol_X8_aim_2 {G : mm_G} {ke_27 : Nat → Nat → mm_H → mm_O} (hke_27 : ∀ (a0 : Nat) (a1 : Nat) (h : mm_H), mm_kd h a0 = 7 → mm_kd h a1 = 2 → mm_Ok G my_X8_aim 27 [.ref a0, .ref a1, mm_U] [] h (ke_27 a0 a1 h)) : ∀ (n : Nat) (a0 : Nat) (a1 : Nat) (x2 : Int32) (h : mm_H), mm_kd h a0 = 7 → mm_kd h a1 = 2 → mm_Ok G my_X8_aim 2 [.ref a0, .ref a1, .int x2] [] h (lp_X8_aim_2 ke_27 n a0 a1 x2 h) := by
  intro n
  induction n with
  | zero => intro a0 a1 x2 h k_a0 k_a1; exact mm_no
  | succ n ih =>
    intro a0 a1 x2 h k_a0 k_a1
    rw [lp_X8_aim_2]
    refine ok_iload_n (q := 3) dX8_aim_2 rfl rfl ?_
    refine ok_gets (q := 6) (a := 4) (by decide +kernel) dX8_aim_3 wd_658 (by decide) rfl (fun k1 => ?_)
    refine ok_alen (q := 7) dX8_aim_6 (by rw [k1]; decide) rfl ?_
    refine ok_icmp_ge (q := 10) (t := 27) dX8_aim_7 rfl rfl ?_ ?_
    · refine mm_wk [true, true, false] (ls' := [.ref a0, .ref a1, mm_U]) rfl ?_
      exact hke_27 a0 a1 h k_a0 k_a1
    · refine ok_aload_n (q := 11) dX8_aim_10 rfl rfl ?_
      refine ok_getR cl_7 (q := 14) (k := 1) dX8_aim_11 (Nat.le_of_ble_eq_true rfl) wd_220 (fun _ _ _ => rfl) kt_7_1 k_a0 rfl (fun b2 k3 => ?_)
      refine ok_iload_n (q := 15) dX8_aim_14 rfl rfl ?_
      refine ok_gets (q := 18) (a := 4) (by decide +kernel) dX8_aim_15 wd_658 (by decide) rfl (fun k4 => ?_)
      refine ok_iload_n (q := 19) dX8_aim_18 rfl rfl ?_
      refine mm_ck (fun c5 => ?_)
      refine ok_iald (q := 20) dX8_aim_19 k4 c5 rfl ?_
      refine mm_ck (fun c6 => ?_)
      refine ok_iast (q := 21) dX8_aim_20 k3 c6.1 c6.2 rfl (bh_ok (fun h7 e8 => ?_))
      have e8 : h7.1 = h.1 := e8
      refine ok_iinc (q := 24) (v := x2 + 1) (ls' := [.ref a0, .ref a1, .int (x2 + 1)]) dX8_aim_21 rfl (congrArg (x2 + ·) ci_1) (Nat.le_of_ble_eq_true rfl) rfl rfl ?_
      refine ok_goto (q := 2) dX8_aim_24 rfl ?_
      exact ih a0 a1 (x2 + 1) h7 (mm_ke e8 k_a0) (mm_ke e8 k_a1)
def lp_X8_aim_29 (ke_59 : Nat → Nat → mm_H → mm_O) : Nat → Nat → Nat → Int32 → mm_H → mm_O
  | 0, _, _, _, _ => none
  | n + 1, a0, a1, x2, h => if (8 : Int32) ≤ x2 then
  (ke_59 a0 a1 h)
  else
  (mm_gr h a0 1 (fun b12 =>
  mm_gr h a1 1 (fun b14 =>
  mm_qi (bd_X6_fourLowFirst b14 ((4 : Int32) * x2) h) (fun v18 h16 =>
  if 32 ≤ b12 ∧ mm_in ((4 : Int32) + x2) (mm_ln h16 b12) = true then (mm_bh (mm_si h16 b12 (mm_n ((4 : Int32) + x2)) v18) (fun h23 =>
  lp_X8_aim_29 ke_59 n a0 a1 (x2 + 1) h23)) else none))))
set_option maxHeartbeats 4000000 in
set_option maxRecDepth 100000 in
theorem ol_X8_aim_29 {G : mm_G} {ke_59 : Nat → Nat → mm_H → mm_O} (hke_59 : ∀ (a0 : Nat) (a1 : Nat) (h : mm_H), mm_kd h a0 = 7 → mm_kd h a1 = 2 → mm_Ok G my_X8_aim 59 [.ref a0, .ref a1, mm_U] [] h (ke_59 a0 a1 h)) : ∀ (n : Nat) (a0 : Nat) (a1 : Nat) (x2 : Int32) (h : mm_H), mm_kd h a0 = 7 → mm_kd h a1 = 2 → mm_Ok G my_X8_aim 29 [.ref a0, .ref a1, .int x2] [] h (lp_X8_aim_29 ke_59 n a0 a1 x2 h) := by
  intro n
  induction n with
  | zero => intro a0 a1 x2 h k_a0 k_a1; exact mm_no
  | succ n ih =>
    intro a0 a1 x2 h k_a0 k_a1
    rw [lp_X8_aim_29]
    refine ok_iload_n (q := 30) dX8_aim_29 rfl rfl ?_
    refine ok_bipush (q := 32) (v := 8) dX8_aim_30 cb_8 rfl ?_
    refine ok_icmp_ge (q := 35) (t := 59) dX8_aim_32 rfl rfl ?_ ?_
    · refine mm_wk [true, true, false] (ls' := [.ref a0, .ref a1, mm_U]) rfl ?_
      exact hke_59 a0 a1 h k_a0 k_a1
    · refine ok_aload_n (q := 36) dX8_aim_35 rfl rfl ?_
      refine ok_getR cl_7 (q := 39) (k := 1) dX8_aim_36 (Nat.le_of_ble_eq_true rfl) wd_220 (fun _ _ _ => rfl) kt_7_1 k_a0 rfl (fun b12 k13 => ?_)
      refine ok_iconst (q := 40) (v := 4) dX8_aim_39 ci_4 rfl ?_
      refine ok_iload_n (q := 41) dX8_aim_40 rfl rfl ?_
      refine ok_iadd (q := 42) dX8_aim_41 rfl ?_
      refine ok_aload_n (q := 43) dX8_aim_42 rfl rfl ?_
      refine ok_getR cl_2 (q := 46) (k := 1) dX8_aim_43 (Nat.le_of_ble_eq_true rfl) wd_326 (fun _ _ _ => rfl) kt_2_1 k_a1 rfl (fun b14 k15 => ?_)
      refine ok_iconst (q := 47) (v := 4) dX8_aim_46 ci_4 rfl ?_
      refine ok_iload_n (q := 48) dX8_aim_47 rfl rfl ?_
      refine ok_imul (q := 49) dX8_aim_48 rfl ?_
      refine mm_ci (q := 52) (mt_X6_fourLowFirst G b14 ((4 : Int32) * x2) h k15) (mm_runV (as := [.int ((4 : Int32) * x2)]) (st := [.int ((4 : Int32) + x2), .ref b12]) cl_5 lk_X8_aim_X6_fourLowFirst_83 rfl dX8_aim_49 rfl (Nat.le_of_ble_eq_true rfl) k15) rfl (fun v18 h16 p17 => ?_)
      have k19 : mm_kd h16 a0 = 7 := mm_kd_app p17 k_a0 (by decide)
      have k20 : mm_kd h16 a1 = 2 := mm_kd_app p17 k_a1 (by decide)
      have k21 : mm_kd h16 b12 = 20 := mm_kd_app p17 k13 (by decide)
      refine mm_ck (fun c22 => ?_)
      refine ok_iast (q := 53) dX8_aim_52 k21 c22.1 c22.2 rfl (bh_ok (fun h23 e24 => ?_))
      have e24 : h23.1 = h16.1 := e24
      refine ok_iinc (q := 56) (v := x2 + 1) (ls' := [.ref a0, .ref a1, .int (x2 + 1)]) dX8_aim_53 rfl (congrArg (x2 + ·) ci_1) (Nat.le_of_ble_eq_true rfl) rfl rfl ?_
      refine ok_goto (q := 29) dX8_aim_56 rfl ?_
      exact ih a0 a1 (x2 + 1) h23 (mm_ke e24 k19) (mm_ke e24 k20)
def lp_X8_aim_127  : Nat → Nat → Int32 → mm_H → mm_O
  | 0, _, _, _ => none
  | n + 1, a0, x2, h => if (32 : Int32) ≤ x2 then
  (some (none, h))
  else
  (mm_gr h a0 3 (fun b83 =>
  mm_gr h a0 2 (fun b85 =>
  if mm_in (x2 / (4 : Int32)) (mm_ln h b85) = true then (mm_qv (bd_X6_put b83 (mm_ush (mm_i h b85 (mm_n (x2 / (4 : Int32)))) ((8 : Int32) * (mm_rem x2 (4 : Int32)))) h) (fun h88 =>
  lp_X8_aim_127 n a0 (x2 + 1) h88)) else none)))
set_option maxHeartbeats 4000000 in
set_option maxRecDepth 100000 in
theorem ol_X8_aim_127 {G : mm_G}   : ∀ (n : Nat) (a0 : Nat) (x2 : Int32) (h : mm_H), mm_kd h a0 = 7 → mm_Ok G my_X8_aim 127 [.ref a0, mm_U, .int x2] [] h (lp_X8_aim_127 n a0 x2 h) := by
  intro n
  induction n with
  | zero => intro a0 x2 h k_a0; exact mm_no
  | succ n ih =>
    intro a0 x2 h k_a0
    rw [lp_X8_aim_127]
    refine ok_iload_n (q := 128) dX8_aim_127 rfl rfl ?_
    refine ok_bipush (q := 130) (v := 32) dX8_aim_128 cb_32 rfl ?_
    refine ok_icmp_ge (q := 133) (t := 161) dX8_aim_130 rfl rfl ?_ ?_
    · exact ok_ret dX8_aim_161 rfl
    · refine ok_aload_n (q := 134) dX8_aim_133 rfl rfl ?_
      refine ok_getR cl_7 (q := 137) (k := 3) dX8_aim_134 (Nat.le_of_ble_eq_true rfl) wd_222 (fun _ _ _ => rfl) kt_7_3 k_a0 rfl (fun b83 k84 => ?_)
      refine ok_aload_n (q := 138) dX8_aim_137 rfl rfl ?_
      refine ok_getR cl_7 (q := 141) (k := 2) dX8_aim_138 (Nat.le_of_ble_eq_true rfl) wd_221 (fun _ _ _ => rfl) kt_7_2 k_a0 rfl (fun b85 k86 => ?_)
      refine ok_iload_n (q := 142) dX8_aim_141 rfl rfl ?_
      refine ok_iconst (q := 143) (v := 4) dX8_aim_142 ci_4 rfl ?_
      refine ok_idiv (q := 144) dX8_aim_143 (by decide) rfl ?_
      refine mm_ck (fun c87 => ?_)
      refine ok_iald (q := 145) dX8_aim_144 k86 c87 rfl ?_
      refine ok_bipush (q := 147) (v := 8) dX8_aim_145 cb_8 rfl ?_
      refine ok_iload_n (q := 148) dX8_aim_147 rfl rfl ?_
      refine ok_iconst (q := 149) (v := 4) dX8_aim_148 ci_4 rfl ?_
      refine ok_irem (q := 150) dX8_aim_149 (by decide) rfl ?_
      refine ok_imul (q := 151) dX8_aim_150 rfl ?_
      refine ok_iushr (q := 152) dX8_aim_151 rfl ?_
      refine mm_cv (q := 155) (mt_X6_put G b83 (mm_ush (mm_i h b85 (mm_n (x2 / (4 : Int32)))) ((8 : Int32) * (mm_rem x2 (4 : Int32)))) h k84) (mm_runV (as := [.int (mm_ush (mm_i h b85 (mm_n (x2 / (4 : Int32)))) ((8 : Int32) * (mm_rem x2 (4 : Int32))))]) (st := []) cl_5 lk_X8_aim_X6_put_99 rfl dX8_aim_152 rfl (Nat.le_of_ble_eq_true rfl) k84) rfl (fun h88 p89 => ?_)
      have k90 : mm_kd h88 a0 = 7 := mm_kd_app p89 k_a0 (by decide)
      refine ok_iinc (q := 158) (v := x2 + 1) (ls' := [.ref a0, mm_U, .int (x2 + 1)]) dX8_aim_155 rfl (congrArg (x2 + ·) ci_1) (Nat.le_of_ble_eq_true rfl) rfl rfl ?_
      refine ok_goto (q := 127) dX8_aim_158 rfl ?_
      exact ih a0 (x2 + 1) h88 k90
def bd_X8_aim (a0 : Nat) (a1 : Nat) (h : mm_H) : mm_O := lp_X8_aim_2 (fun b10 b11 h9 => lp_X8_aim_29 (fun b26 b27 h25 => mm_gr h25 b26 1 (fun b28 =>
  mm_gr h25 b27 2 (fun b30 =>
  mm_qi (bd_X6_fourLowFirst b30 0 h25) (fun v34 h32 =>
  if 32 ≤ b28 ∧ mm_in (13 : Int32) (mm_ln h32 b28) = true then (mm_bh (mm_si h32 b28 (mm_n (13 : Int32)) v34) (fun h39 =>
  mm_gr h39 b26 1 (fun b41 =>
  mm_gr h39 b27 2 (fun b43 =>
  mm_qi (bd_X6_fourLowFirst b43 4 h39) (fun v47 h45 =>
  if 32 ≤ b41 ∧ mm_in (14 : Int32) (mm_ln h45 b41) = true then (mm_bh (mm_si h45 b41 (mm_n (14 : Int32)) v47) (fun h52 =>
  mm_gr h52 b26 1 (fun b54 =>
  mm_gr h52 b27 2 (fun b56 =>
  mm_qi (bd_X6_fourLowFirst b56 8 h52) (fun v60 h58 =>
  mm_qi (bd_X8_turned (mm_i h58 b27 3) h58) (fun v66 h64 =>
  if 32 ≤ b54 ∧ mm_in (15 : Int32) (mm_ln h64 b54) = true then (mm_bh (mm_si h64 b54 (mm_n (15 : Int32)) (v60 ^^^ v66)) (fun h71 =>
  mm_qv (bd_X8_turnBlock b26 0 h71) (fun h73 =>
  mm_gr h73 b26 3 (fun b77 =>
  mm_qv (bd_X6_clear b77 h73) (fun h79 =>
  lp_X8_aim_127  mm_fu b26 0 h79))))) else none)))))) else none))))) else none)))) mm_fu b10 b11 0 h9) mm_fu a0 a1 0 h
set_option maxHeartbeats 4000000 in
set_option maxRecDepth 100000 in
theorem mt_X8_aim (G : mm_G) (a0 : Nat) (a1 : Nat) (h : mm_H) (k_a0 : mm_kd h a0 = 7) (k_a1 : mm_kd h a1 = 2) : mm_Met G my_X8_aim [.ref a0, .ref a1] h (bd_X8_aim a0 a1 h) := by
  refine mm_met (ls := [.ref a0, .ref a1, mm_U]) pn_RX8 (Nat.le_of_ble_eq_true rfl) rfl ?_
  unfold bd_X8_aim
  refine ok_iconst (q := 1) (v := 0) dX8_aim_0 ci_0 rfl ?_
  refine ok_istore_n (q := 2) (ls' := [.ref a0, .ref a1, .int 0]) dX8_aim_1 (Nat.le_of_ble_eq_true rfl) rfl rfl ?_
  refine ol_X8_aim_2 (fun b10 b11 h9 k_b10 k_b11 => ?_) mm_fu a0 a1 0 h k_a0 k_a1
  · refine ok_iconst (q := 28) (v := 0) dX8_aim_27 ci_0 rfl ?_
    refine ok_istore_n (q := 29) (ls' := [.ref b10, .ref b11, .int 0]) dX8_aim_28 (Nat.le_of_ble_eq_true rfl) rfl rfl ?_
    refine ol_X8_aim_29 (fun b26 b27 h25 k_b26 k_b27 => ?_) mm_fu b10 b11 0 h9 k_b10 k_b11
    · refine ok_aload_n (q := 60) dX8_aim_59 rfl rfl ?_
      refine ok_getR cl_7 (q := 63) (k := 1) dX8_aim_60 (Nat.le_of_ble_eq_true rfl) wd_220 (fun _ _ _ => rfl) kt_7_1 k_b26 rfl (fun b28 k29 => ?_)
      refine ok_bipush (q := 65) (v := 13) dX8_aim_63 cb_13 rfl ?_
      refine ok_aload_n (q := 66) dX8_aim_65 rfl rfl ?_
      refine ok_getR cl_2 (q := 69) (k := 2) dX8_aim_66 (Nat.le_of_ble_eq_true rfl) wd_328 (fun _ _ _ => rfl) kt_2_2 k_b27 rfl (fun b30 k31 => ?_)
      refine ok_iconst (q := 70) (v := 0) dX8_aim_69 ci_0 rfl ?_
      refine mm_ci (q := 73) (mt_X6_fourLowFirst G b30 0 h25 k31) (mm_runV (as := [.int 0]) (st := [.int 13, .ref b28]) cl_5 lk_X8_aim_X6_fourLowFirst_83 rfl dX8_aim_70 rfl (Nat.le_of_ble_eq_true rfl) k31) rfl (fun v34 h32 p33 => ?_)
      have k35 : mm_kd h32 b26 = 7 := mm_kd_app p33 k_b26 (by decide)
      have k36 : mm_kd h32 b27 = 2 := mm_kd_app p33 k_b27 (by decide)
      have k37 : mm_kd h32 b28 = 20 := mm_kd_app p33 k29 (by decide)
      refine mm_ck (fun c38 => ?_)
      refine ok_iast (q := 74) dX8_aim_73 k37 c38.1 c38.2 rfl (bh_ok (fun h39 e40 => ?_))
      have e40 : h39.1 = h32.1 := e40
      refine ok_aload_n (q := 75) dX8_aim_74 rfl rfl ?_
      refine ok_getR cl_7 (q := 78) (k := 1) dX8_aim_75 (Nat.le_of_ble_eq_true rfl) wd_220 (fun _ _ _ => rfl) kt_7_1 (mm_ke e40 k35) rfl (fun b41 k42 => ?_)
      refine ok_bipush (q := 80) (v := 14) dX8_aim_78 cb_14 rfl ?_
      refine ok_aload_n (q := 81) dX8_aim_80 rfl rfl ?_
      refine ok_getR cl_2 (q := 84) (k := 2) dX8_aim_81 (Nat.le_of_ble_eq_true rfl) wd_328 (fun _ _ _ => rfl) kt_2_2 (mm_ke e40 k36) rfl (fun b43 k44 => ?_)
      refine ok_iconst (q := 85) (v := 4) dX8_aim_84 ci_4 rfl ?_
      refine mm_ci (q := 88) (mt_X6_fourLowFirst G b43 4 h39 (mm_ke e40 (mm_ke e40.symm k44))) (mm_runV (as := [.int 4]) (st := [.int 14, .ref b41]) cl_5 lk_X8_aim_X6_fourLowFirst_83 rfl dX8_aim_85 rfl (Nat.le_of_ble_eq_true rfl) (mm_ke e40 (mm_ke e40.symm k44))) rfl (fun v47 h45 p46 => ?_)
      have k48 : mm_kd h45 b26 = 7 := mm_kd_app p46 (mm_ke e40 k35) (by decide)
      have k49 : mm_kd h45 b27 = 2 := mm_kd_app p46 (mm_ke e40 k36) (by decide)
      have k50 : mm_kd h45 b41 = 20 := mm_kd_app p46 (mm_ke e40 (mm_ke e40.symm k42)) (by decide)
      refine mm_ck (fun c51 => ?_)
      refine ok_iast (q := 89) dX8_aim_88 k50 c51.1 c51.2 rfl (bh_ok (fun h52 e53 => ?_))
      have e53 : h52.1 = h45.1 := e53
      refine ok_aload_n (q := 90) dX8_aim_89 rfl rfl ?_
      refine ok_getR cl_7 (q := 93) (k := 1) dX8_aim_90 (Nat.le_of_ble_eq_true rfl) wd_220 (fun _ _ _ => rfl) kt_7_1 (mm_ke e53 k48) rfl (fun b54 k55 => ?_)
      refine ok_bipush (q := 95) (v := 15) dX8_aim_93 cb_15 rfl ?_
      refine ok_aload_n (q := 96) dX8_aim_95 rfl rfl ?_
      refine ok_getR cl_2 (q := 99) (k := 2) dX8_aim_96 (Nat.le_of_ble_eq_true rfl) wd_328 (fun _ _ _ => rfl) kt_2_2 (mm_ke e53 k49) rfl (fun b56 k57 => ?_)
      refine ok_bipush (q := 101) (v := 8) dX8_aim_99 cb_8 rfl ?_
      refine mm_ci (q := 104) (mt_X6_fourLowFirst G b56 8 h52 (mm_ke e53 (mm_ke e53.symm k57))) (mm_runV (as := [.int 8]) (st := [.int 15, .ref b54]) cl_5 lk_X8_aim_X6_fourLowFirst_83 rfl dX8_aim_101 rfl (Nat.le_of_ble_eq_true rfl) (mm_ke e53 (mm_ke e53.symm k57))) rfl (fun v60 h58 p59 => ?_)
      have k61 : mm_kd h58 b26 = 7 := mm_kd_app p59 (mm_ke e53 k48) (by decide)
      have k62 : mm_kd h58 b27 = 2 := mm_kd_app p59 (mm_ke e53 k49) (by decide)
      have k63 : mm_kd h58 b54 = 20 := mm_kd_app p59 (mm_ke e53 (mm_ke e53.symm k55)) (by decide)
      refine ok_aload_n (q := 105) dX8_aim_104 rfl rfl ?_
      refine ok_getI cl_2 (q := 108) (k := 3) dX8_aim_105 (Nat.le_of_ble_eq_true rfl) wd_330 (fun _ _ _ => rfl) k62 rfl ?_
      refine mm_ci (q := 111) (mt_X8_turned G (mm_i h58 b27 3) h58 ) (mm_runS (as := [.int (mm_i h58 b27 3)]) (st := [.int v60, .int 15, .ref b54]) lk_X8_aim_X8_turned_90 dX8_aim_108 rfl (Nat.le_of_ble_eq_true rfl)) rfl (fun v66 h64 p65 => ?_)
      have k67 : mm_kd h64 b26 = 7 := mm_kd_app p65 k61 (by decide)
      have k68 : mm_kd h64 b27 = 2 := mm_kd_app p65 k62 (by decide)
      have k69 : mm_kd h64 b54 = 20 := mm_kd_app p65 k63 (by decide)
      refine ok_ixor (q := 112) dX8_aim_111 rfl ?_
      refine mm_ck (fun c70 => ?_)
      refine ok_iast (q := 113) dX8_aim_112 k69 c70.1 c70.2 rfl (bh_ok (fun h71 e72 => ?_))
      have e72 : h71.1 = h64.1 := e72
      refine ok_aload_n (q := 114) dX8_aim_113 rfl rfl ?_
      refine ok_iconst (q := 115) (v := 0) dX8_aim_114 ci_0 rfl ?_
      refine mm_cv (q := 118) (mt_X8_turnBlock G b26 0 h71 (mm_ke e72 k67)) (mm_runV (as := [.int 0]) (st := []) cl_7 lk_X8_aim_X8_turnBlock_93 rfl dX8_aim_115 rfl (Nat.le_of_ble_eq_true rfl) (mm_ke e72 k67)) rfl (fun h73 p74 => ?_)
      have k75 : mm_kd h73 b26 = 7 := mm_kd_app p74 (mm_ke e72 k67) (by decide)
      have k76 : mm_kd h73 b27 = 2 := mm_kd_app p74 (mm_ke e72 k68) (by decide)
      refine ok_aload_n (q := 119) dX8_aim_118 rfl rfl ?_
      refine ok_getR cl_7 (q := 122) (k := 3) dX8_aim_119 (Nat.le_of_ble_eq_true rfl) wd_222 (fun _ _ _ => rfl) kt_7_3 k75 rfl (fun b77 k78 => ?_)
      refine mm_cv (q := 125) (mt_X6_clear G b77 h73 k78) (mm_runV (as := []) (st := []) cl_5 lk_X8_aim_X6_clear_96 rfl dX8_aim_122 rfl (Nat.le_of_ble_eq_true rfl) k78) rfl (fun h79 p80 => ?_)
      have k81 : mm_kd h79 b26 = 7 := mm_kd_app p80 k75 (by decide)
      have k82 : mm_kd h79 b27 = 2 := mm_kd_app p80 k76 (by decide)
      refine ok_iconst (q := 126) (v := 0) dX8_aim_125 ci_0 rfl ?_
      refine ok_istore_n (q := 127) (ls' := [.ref b26, .ref b27, .int 0]) dX8_aim_126 (Nat.le_of_ble_eq_true rfl) rfl rfl ?_
      refine mm_wk [true, false, true] (ls' := [.ref b26, mm_U, .int 0]) rfl ?_
      refine ol_X8_aim_127  mm_fu b26 0 h79 k81
def lp_X6_fillUp_0  : Nat → Nat → Int32 → mm_H → mm_O
  | 0, _, _, _ => none
  | n + 1, a0, x1, h => if x1 ≤ 0 then
  (some (none, h))
  else
  (if ¬ x1 = 0 then (if (mm_rem (mm_i h a0 1) x1) = 0 then
  (some (none, h))
  else
  (mm_gr h a0 0 (fun b2 =>
  if (nI (mm_ln h b2)) ≤ (mm_i h a0 1) then
  (some (none, h))
  else
  (mm_gr h a0 0 (fun b4 =>
  if 32 ≤ b4 ∧ mm_in (mm_i h a0 1) (mm_ln h b4) = true then (mm_bh (mm_si h b4 (mm_n (mm_i h a0 1)) (0 : Int32)) (fun h7 =>
  mm_bh (mm_si h7 a0 1 ((mm_i h7 a0 1) + (1 : Int32))) (fun h9 =>
  lp_X6_fillUp_0 n a0 x1 h9))) else none))))) else none)
set_option maxHeartbeats 4000000 in
set_option maxRecDepth 100000 in
theorem ol_X6_fillUp_0 {G : mm_G}   : ∀ (n : Nat) (a0 : Nat) (x1 : Int32) (h : mm_H), mm_kd h a0 = 5 → mm_Ok G my_X6_fillUp 0 [.ref a0, .int x1] [] h (lp_X6_fillUp_0 n a0 x1 h) := by
  intro n
  induction n with
  | zero => intro a0 x1 h k_a0; exact mm_no
  | succ n ih =>
    intro a0 x1 h k_a0
    rw [lp_X6_fillUp_0]
    refine ok_iload_n (q := 1) dX6_fillUp_0 rfl rfl ?_
    refine ok_if_le (q := 4) (t := 48) dX6_fillUp_1 rfl rfl ?_ ?_
    · exact ok_ret dX6_fillUp_48 rfl
    · refine ok_aload_n (q := 5) dX6_fillUp_4 rfl rfl ?_
      refine ok_getI cl_5 (q := 8) (k := 1) dX6_fillUp_5 (Nat.le_of_ble_eq_true rfl) wd_122 (fun _ _ _ => rfl) k_a0 rfl ?_
      refine ok_iload_n (q := 9) dX6_fillUp_8 rfl rfl ?_
      refine mm_ck (fun c1 => ?_)
      refine ok_irem (q := 10) dX6_fillUp_9 c1 rfl ?_
      refine ok_if_eq (q := 13) (t := 48) dX6_fillUp_10 rfl rfl ?_ ?_
      · exact ok_ret dX6_fillUp_48 rfl
      · refine ok_aload_n (q := 14) dX6_fillUp_13 rfl rfl ?_
        refine ok_getI cl_5 (q := 17) (k := 1) dX6_fillUp_14 (Nat.le_of_ble_eq_true rfl) wd_122 (fun _ _ _ => rfl) k_a0 rfl ?_
        refine ok_aload_n (q := 18) dX6_fillUp_17 rfl rfl ?_
        refine ok_getR cl_5 (q := 21) (k := 0) dX6_fillUp_18 (Nat.le_of_ble_eq_true rfl) wd_116 (fun _ _ _ => rfl) kt_5_0 k_a0 rfl (fun b2 k3 => ?_)
        refine ok_alen (q := 22) dX6_fillUp_21 (by rw [k3]; decide) rfl ?_
        refine ok_icmp_ge (q := 25) (t := 48) dX6_fillUp_22 rfl rfl ?_ ?_
        · exact ok_ret dX6_fillUp_48 rfl
        · refine ok_aload_n (q := 26) dX6_fillUp_25 rfl rfl ?_
          refine ok_getR cl_5 (q := 29) (k := 0) dX6_fillUp_26 (Nat.le_of_ble_eq_true rfl) wd_116 (fun _ _ _ => rfl) kt_5_0 k_a0 rfl (fun b4 k5 => ?_)
          refine ok_aload_n (q := 30) dX6_fillUp_29 rfl rfl ?_
          refine ok_getI cl_5 (q := 33) (k := 1) dX6_fillUp_30 (Nat.le_of_ble_eq_true rfl) wd_122 (fun _ _ _ => rfl) k_a0 rfl ?_
          refine ok_iconst (q := 34) (v := 0) dX6_fillUp_33 ci_0 rfl ?_
          refine mm_ck (fun c6 => ?_)
          refine ok_iast (q := 35) dX6_fillUp_34 k5 c6.1 c6.2 rfl (bh_ok (fun h7 e8 => ?_))
          have e8 : h7.1 = h.1 := e8
          refine ok_aload_n (q := 36) dX6_fillUp_35 rfl rfl ?_
          refine ok_dup (q := 37) dX6_fillUp_36 rfl rfl ?_
          refine ok_getI cl_5 (q := 40) (k := 1) dX6_fillUp_37 (Nat.le_of_ble_eq_true rfl) wd_122 (fun _ _ _ => rfl) (mm_ke e8 k_a0) rfl ?_
          refine ok_iconst (q := 41) (v := 1) dX6_fillUp_40 ci_1 rfl ?_
          refine ok_iadd (q := 42) dX6_fillUp_41 rfl ?_
          refine ok_putI cl_5 (q := 45) (k := 1) dX6_fillUp_42 (Nat.le_of_ble_eq_true rfl) wd_122 (Or.inl rfl) (fun _ _ _ => rfl) rfl rfl (mm_ke e8 k_a0) rfl (bh_ok (fun h9 e10 => ?_))
          have e10 : h9.1 = h.1 := e10.trans e8
          refine ok_goto (q := 0) dX6_fillUp_45 rfl ?_
          exact ih a0 x1 h9 (mm_ke e10 k_a0)
def bd_X6_fillUp (a0 : Nat) (x1 : Int32) (h : mm_H) : mm_O := lp_X6_fillUp_0  mm_fu a0 x1 h
set_option maxHeartbeats 4000000 in
set_option maxRecDepth 100000 in
theorem mt_X6_fillUp (G : mm_G) (a0 : Nat) (x1 : Int32) (h : mm_H) (k_a0 : mm_kd h a0 = 5) : mm_Met G my_X6_fillUp [.ref a0, .int x1] h (bd_X6_fillUp a0 x1 h) := by
  refine mm_met (ls := [.ref a0, .int x1]) pn_RX6 (Nat.le_of_ble_eq_true rfl) rfl ?_
  unfold bd_X6_fillUp
  refine ol_X6_fillUp_0  mm_fu a0 x1 h k_a0
def jn_X6_putLowFirst_46 (kb : Nat → Int32 → Int32 → Int32 → mm_H → mm_O) (a0 : Nat) (x1 : Int32) (x2 : Int32) (x3 : Int32) (s0 : Int32) (s1 : Int32) (s2 : Nat) (h : mm_H) : mm_O := if 32 ≤ s2 ∧ mm_in s1 (mm_ln h s2) = true then (mm_bh (mm_si h s2 (mm_n s1) s0) (fun h6 =>
  mm_bh (mm_si h6 a0 1 ((mm_i h6 a0 1) + (1 : Int32))) (fun h8 =>
  kb a0 x1 x2 (x3 + 1) h8))) else none
set_option maxHeartbeats 4000000 in
set_option maxRecDepth 100000 in
theorem oj_X6_putLowFirst_46 {G : mm_G} {kb : Nat → Int32 → Int32 → Int32 → mm_H → mm_O} (hkb : ∀ (a0 : Nat) (x1 : Int32) (x2 : Int32) (x3 : Int32) (h : mm_H), mm_kd h a0 = 5 → mm_Ok G my_X6_putLowFirst 2 [.ref a0, .int x1, .int x2, .int x3] [] h (kb a0 x1 x2 x3 h)) (a0 : Nat) (x1 : Int32) (x2 : Int32) (x3 : Int32) (s0 : Int32) (s1 : Int32) (s2 : Nat) (h : mm_H) (k_a0 : mm_kd h a0 = 5) (k_s2 : mm_kd h s2 = 20) : mm_Ok G my_X6_putLowFirst 46 [.ref a0, .int x1, .int x2, .int x3] [.int s0, .int s1, .ref s2] h (jn_X6_putLowFirst_46 kb a0 x1 x2 x3 s0 s1 s2 h) := by
  unfold jn_X6_putLowFirst_46
  refine mm_ck (fun c5 => ?_)
  refine ok_iast (q := 47) dX6_putLowFirst_46 k_s2 c5.1 c5.2 rfl (bh_ok (fun h6 e7 => ?_))
  have e7 : h6.1 = h.1 := e7
  refine ok_aload_n (q := 48) dX6_putLowFirst_47 rfl rfl ?_
  refine ok_dup (q := 49) dX6_putLowFirst_48 rfl rfl ?_
  refine ok_getI cl_5 (q := 52) (k := 1) dX6_putLowFirst_49 (Nat.le_of_ble_eq_true rfl) wd_122 (fun _ _ _ => rfl) (mm_ke e7 k_a0) rfl ?_
  refine ok_iconst (q := 53) (v := 1) dX6_putLowFirst_52 ci_1 rfl ?_
  refine ok_iadd (q := 54) dX6_putLowFirst_53 rfl ?_
  refine ok_putI cl_5 (q := 57) (k := 1) dX6_putLowFirst_54 (Nat.le_of_ble_eq_true rfl) wd_122 (Or.inl rfl) (fun _ _ _ => rfl) rfl rfl (mm_ke e7 k_a0) rfl (bh_ok (fun h8 e9 => ?_))
  have e9 : h8.1 = h.1 := e9.trans e7
  refine ok_iinc (q := 60) (v := x3 + 1) (ls' := [.ref a0, .int x1, .int x2, .int (x3 + 1)]) dX6_putLowFirst_57 rfl (congrArg (x3 + ·) ci_1) (Nat.le_of_ble_eq_true rfl) rfl rfl ?_
  refine ok_goto (q := 2) dX6_putLowFirst_60 rfl ?_
  exact hkb a0 x1 x2 (x3 + 1) h8 (mm_ke e9 k_a0)
def lp_X6_putLowFirst_2  : Nat → Nat → Int32 → Int32 → Int32 → mm_H → mm_O
  | 0, _, _, _, _, _ => none
  | n + 1, a0, x1, x2, x3, h => if x2 ≤ x3 then
  (some (none, h))
  else
  (mm_gr h a0 0 (fun b1 =>
  if (nI (mm_ln h b1)) ≤ (mm_i h a0 1) then
  (some (none, h))
  else
  (mm_gr h a0 0 (fun b3 =>
  if (4 : Int32) ≤ x3 then
  (jn_X6_putLowFirst_46 (lp_X6_putLowFirst_2 n) a0 x1 x2 x3 0 (mm_i h a0 1) b3 h)
  else
  (jn_X6_putLowFirst_46 (lp_X6_putLowFirst_2 n) a0 x1 x2 x3 ((mm_ush x1 ((8 : Int32) * x3)) &&& (255 : Int32)) (mm_i h a0 1) b3 h)))))
set_option maxHeartbeats 4000000 in
set_option maxRecDepth 100000 in
theorem ol_X6_putLowFirst_2 {G : mm_G}   : ∀ (n : Nat) (a0 : Nat) (x1 : Int32) (x2 : Int32) (x3 : Int32) (h : mm_H), mm_kd h a0 = 5 → mm_Ok G my_X6_putLowFirst 2 [.ref a0, .int x1, .int x2, .int x3] [] h (lp_X6_putLowFirst_2 n a0 x1 x2 x3 h) := by
  intro n
  induction n with
  | zero => intro a0 x1 x2 x3 h k_a0; exact mm_no
  | succ n ih =>
    intro a0 x1 x2 x3 h k_a0
    rw [lp_X6_putLowFirst_2]
    refine ok_iload_n (q := 3) dX6_putLowFirst_2 rfl rfl ?_
    refine ok_iload_n (q := 4) dX6_putLowFirst_3 rfl rfl ?_
    refine ok_icmp_ge (q := 7) (t := 63) dX6_putLowFirst_4 rfl rfl ?_ ?_
    · exact ok_ret dX6_putLowFirst_63 rfl
    · refine ok_aload_n (q := 8) dX6_putLowFirst_7 rfl rfl ?_
      refine ok_getI cl_5 (q := 11) (k := 1) dX6_putLowFirst_8 (Nat.le_of_ble_eq_true rfl) wd_122 (fun _ _ _ => rfl) k_a0 rfl ?_
      refine ok_aload_n (q := 12) dX6_putLowFirst_11 rfl rfl ?_
      refine ok_getR cl_5 (q := 15) (k := 0) dX6_putLowFirst_12 (Nat.le_of_ble_eq_true rfl) wd_116 (fun _ _ _ => rfl) kt_5_0 k_a0 rfl (fun b1 k2 => ?_)
      refine ok_alen (q := 16) dX6_putLowFirst_15 (by rw [k2]; decide) rfl ?_
      refine ok_icmp_ge (q := 19) (t := 63) dX6_putLowFirst_16 rfl rfl ?_ ?_
      · exact ok_ret dX6_putLowFirst_63 rfl
      · refine ok_aload_n (q := 20) dX6_putLowFirst_19 rfl rfl ?_
        refine ok_getR cl_5 (q := 23) (k := 0) dX6_putLowFirst_20 (Nat.le_of_ble_eq_true rfl) wd_116 (fun _ _ _ => rfl) kt_5_0 k_a0 rfl (fun b3 k4 => ?_)
        refine ok_aload_n (q := 24) dX6_putLowFirst_23 rfl rfl ?_
        refine ok_getI cl_5 (q := 27) (k := 1) dX6_putLowFirst_24 (Nat.le_of_ble_eq_true rfl) wd_122 (fun _ _ _ => rfl) k_a0 rfl ?_
        refine ok_iload_n (q := 28) dX6_putLowFirst_27 rfl rfl ?_
        refine ok_iconst (q := 29) (v := 4) dX6_putLowFirst_28 ci_4 rfl ?_
        refine ok_icmp_ge (q := 32) (t := 45) dX6_putLowFirst_29 rfl rfl ?_ ?_
        · refine ok_iconst (q := 46) (v := 0) dX6_putLowFirst_45 ci_0 rfl ?_
          exact oj_X6_putLowFirst_46 ih a0 x1 x2 x3 0 (mm_i h a0 1) b3 h k_a0 k4
        · refine ok_iload_n (q := 33) dX6_putLowFirst_32 rfl rfl ?_
          refine ok_bipush (q := 35) (v := 8) dX6_putLowFirst_33 cb_8 rfl ?_
          refine ok_iload_n (q := 36) dX6_putLowFirst_35 rfl rfl ?_
          refine ok_imul (q := 37) dX6_putLowFirst_36 rfl ?_
          refine ok_iushr (q := 38) dX6_putLowFirst_37 rfl ?_
          refine ok_sipush (q := 41) (v := 255) dX6_putLowFirst_38 cs_255 rfl ?_
          refine ok_iand (q := 42) dX6_putLowFirst_41 rfl ?_
          refine ok_goto (q := 46) dX6_putLowFirst_42 rfl ?_
          exact oj_X6_putLowFirst_46 ih a0 x1 x2 x3 ((mm_ush x1 ((8 : Int32) * x3)) &&& (255 : Int32)) (mm_i h a0 1) b3 h k_a0 k4
def bd_X6_putLowFirst (a0 : Nat) (x1 : Int32) (x2 : Int32) (h : mm_H) : mm_O := lp_X6_putLowFirst_2  mm_fu a0 x1 x2 0 h
set_option maxHeartbeats 4000000 in
set_option maxRecDepth 100000 in
theorem mt_X6_putLowFirst (G : mm_G) (a0 : Nat) (x1 : Int32) (x2 : Int32) (h : mm_H) (k_a0 : mm_kd h a0 = 5) : mm_Met G my_X6_putLowFirst [.ref a0, .int x1, .int x2] h (bd_X6_putLowFirst a0 x1 x2 h) := by
  refine mm_met (ls := [.ref a0, .int x1, .int x2, mm_U]) pn_RX6 (Nat.le_of_ble_eq_true rfl) rfl ?_
  unfold bd_X6_putLowFirst
  refine ok_iconst (q := 1) (v := 0) dX6_putLowFirst_0 ci_0 rfl ?_
  refine ok_istore_n (q := 2) (ls' := [.ref a0, .int x1, .int x2, .int 0]) dX6_putLowFirst_1 (Nat.le_of_ble_eq_true rfl) rfl rfl ?_
  refine ol_X6_putLowFirst_2  mm_fu a0 x1 x2 0 h k_a0
def bd_X8_gather (a0 : Nat) (a1 : Nat) (x2 : Int32) (h : mm_H) : mm_O := mm_gr h a0 4 (fun b1 =>
  mm_qv (bd_X6_clear b1 h) (fun h3 =>
  mm_gr h3 a0 4 (fun b7 =>
  mm_qv (bd_X6_appendPart b7 a1 0 5 h3) (fun h9 =>
  mm_gr h9 a0 4 (fun b13 =>
  mm_qv (bd_X6_fillUp b13 16 h9) (fun h15 =>
  mm_gr h15 a0 4 (fun b19 =>
  mm_qv (bd_X6_appendPart b19 a1 5 x2 h15) (fun h21 =>
  mm_gr h21 a0 4 (fun b25 =>
  mm_qv (bd_X6_fillUp b25 16 h21) (fun h27 =>
  mm_gr h27 a0 4 (fun b31 =>
  mm_qv (bd_X6_putLowFirst b31 5 8 h27) (fun h33 =>
  mm_gr h33 a0 4 (fun b37 =>
  mm_qv (bd_X6_putLowFirst b37 (x2 - (5 : Int32)) 8 h33) (fun h39 =>
  some (none, h39)))))))))))))))
set_option maxHeartbeats 4000000 in
set_option maxRecDepth 100000 in
theorem mt_X8_gather (G : mm_G) (a0 : Nat) (a1 : Nat) (x2 : Int32) (h : mm_H) (k_a0 : mm_kd h a0 = 7) (k_a1 : mm_kd h a1 = 5) : mm_Met G my_X8_gather [.ref a0, .ref a1, .int x2] h (bd_X8_gather a0 a1 x2 h) := by
  refine mm_met (ls := [.ref a0, .ref a1, .int x2]) pn_RX8 (Nat.le_of_ble_eq_true rfl) rfl ?_
  unfold bd_X8_gather
  refine ok_aload_n (q := 1) dX8_gather_0 rfl rfl ?_
  refine ok_getR cl_7 (q := 4) (k := 4) dX8_gather_1 (Nat.le_of_ble_eq_true rfl) wd_223 (fun _ _ _ => rfl) kt_7_4 k_a0 rfl (fun b1 k2 => ?_)
  refine mm_cv (q := 7) (mt_X6_clear G b1 h k2) (mm_runV (as := []) (st := []) cl_5 lk_X8_gather_X6_clear_96 rfl dX8_gather_4 rfl (Nat.le_of_ble_eq_true rfl) k2) rfl (fun h3 p4 => ?_)
  have k5 : mm_kd h3 a0 = 7 := mm_kd_app p4 k_a0 (by decide)
  have k6 : mm_kd h3 a1 = 5 := mm_kd_app p4 k_a1 (by decide)
  refine ok_aload_n (q := 8) dX8_gather_7 rfl rfl ?_
  refine ok_getR cl_7 (q := 11) (k := 4) dX8_gather_8 (Nat.le_of_ble_eq_true rfl) wd_223 (fun _ _ _ => rfl) kt_7_4 k5 rfl (fun b7 k8 => ?_)
  refine ok_aload_n (q := 12) dX8_gather_11 rfl rfl ?_
  refine ok_iconst (q := 13) (v := 0) dX8_gather_12 ci_0 rfl ?_
  refine ok_iconst (q := 14) (v := 5) dX8_gather_13 ci_5 rfl ?_
  refine mm_cv (q := 17) (mt_X6_appendPart G b7 a1 0 5 h3 k8 k6) (mm_runV (as := [.ref a1, .int 0, .int 5]) (st := []) cl_5 lk_X8_gather_X6_appendPart_110 rfl dX8_gather_14 rfl (Nat.le_of_ble_eq_true rfl) k8) rfl (fun h9 p10 => ?_)
  have k11 : mm_kd h9 a0 = 7 := mm_kd_app p10 k5 (by decide)
  have k12 : mm_kd h9 a1 = 5 := mm_kd_app p10 k6 (by decide)
  refine ok_aload_n (q := 18) dX8_gather_17 rfl rfl ?_
  refine ok_getR cl_7 (q := 21) (k := 4) dX8_gather_18 (Nat.le_of_ble_eq_true rfl) wd_223 (fun _ _ _ => rfl) kt_7_4 k11 rfl (fun b13 k14 => ?_)
  refine ok_bipush (q := 23) (v := 16) dX8_gather_21 cb_16 rfl ?_
  refine mm_cv (q := 26) (mt_X6_fillUp G b13 16 h9 k14) (mm_runV (as := [.int 16]) (st := []) cl_5 lk_X8_gather_X6_fillUp_113 rfl dX8_gather_23 rfl (Nat.le_of_ble_eq_true rfl) k14) rfl (fun h15 p16 => ?_)
  have k17 : mm_kd h15 a0 = 7 := mm_kd_app p16 k11 (by decide)
  have k18 : mm_kd h15 a1 = 5 := mm_kd_app p16 k12 (by decide)
  refine ok_aload_n (q := 27) dX8_gather_26 rfl rfl ?_
  refine ok_getR cl_7 (q := 30) (k := 4) dX8_gather_27 (Nat.le_of_ble_eq_true rfl) wd_223 (fun _ _ _ => rfl) kt_7_4 k17 rfl (fun b19 k20 => ?_)
  refine ok_aload_n (q := 31) dX8_gather_30 rfl rfl ?_
  refine ok_iconst (q := 32) (v := 5) dX8_gather_31 ci_5 rfl ?_
  refine ok_iload_n (q := 33) dX8_gather_32 rfl rfl ?_
  refine mm_cv (q := 36) (mt_X6_appendPart G b19 a1 5 x2 h15 k20 k18) (mm_runV (as := [.ref a1, .int 5, .int x2]) (st := []) cl_5 lk_X8_gather_X6_appendPart_110 rfl dX8_gather_33 rfl (Nat.le_of_ble_eq_true rfl) k20) rfl (fun h21 p22 => ?_)
  have k23 : mm_kd h21 a0 = 7 := mm_kd_app p22 k17 (by decide)
  have k24 : mm_kd h21 a1 = 5 := mm_kd_app p22 k18 (by decide)
  refine ok_aload_n (q := 37) dX8_gather_36 rfl rfl ?_
  refine ok_getR cl_7 (q := 40) (k := 4) dX8_gather_37 (Nat.le_of_ble_eq_true rfl) wd_223 (fun _ _ _ => rfl) kt_7_4 k23 rfl (fun b25 k26 => ?_)
  refine ok_bipush (q := 42) (v := 16) dX8_gather_40 cb_16 rfl ?_
  refine mm_cv (q := 45) (mt_X6_fillUp G b25 16 h21 k26) (mm_runV (as := [.int 16]) (st := []) cl_5 lk_X8_gather_X6_fillUp_113 rfl dX8_gather_42 rfl (Nat.le_of_ble_eq_true rfl) k26) rfl (fun h27 p28 => ?_)
  have k29 : mm_kd h27 a0 = 7 := mm_kd_app p28 k23 (by decide)
  have k30 : mm_kd h27 a1 = 5 := mm_kd_app p28 k24 (by decide)
  refine ok_aload_n (q := 46) dX8_gather_45 rfl rfl ?_
  refine ok_getR cl_7 (q := 49) (k := 4) dX8_gather_46 (Nat.le_of_ble_eq_true rfl) wd_223 (fun _ _ _ => rfl) kt_7_4 k29 rfl (fun b31 k32 => ?_)
  refine ok_iconst (q := 50) (v := 5) dX8_gather_49 ci_5 rfl ?_
  refine ok_bipush (q := 52) (v := 8) dX8_gather_50 cb_8 rfl ?_
  refine mm_cv (q := 55) (mt_X6_putLowFirst G b31 5 8 h27 k32) (mm_runV (as := [.int 5, .int 8]) (st := []) cl_5 lk_X8_gather_X6_putLowFirst_116 rfl dX8_gather_52 rfl (Nat.le_of_ble_eq_true rfl) k32) rfl (fun h33 p34 => ?_)
  have k35 : mm_kd h33 a0 = 7 := mm_kd_app p34 k29 (by decide)
  have k36 : mm_kd h33 a1 = 5 := mm_kd_app p34 k30 (by decide)
  refine ok_aload_n (q := 56) dX8_gather_55 rfl rfl ?_
  refine ok_getR cl_7 (q := 59) (k := 4) dX8_gather_56 (Nat.le_of_ble_eq_true rfl) wd_223 (fun _ _ _ => rfl) kt_7_4 k35 rfl (fun b37 k38 => ?_)
  refine ok_iload_n (q := 60) dX8_gather_59 rfl rfl ?_
  refine ok_iconst (q := 61) (v := 5) dX8_gather_60 ci_5 rfl ?_
  refine ok_isub (q := 62) dX8_gather_61 rfl ?_
  refine ok_bipush (q := 64) (v := 8) dX8_gather_62 cb_8 rfl ?_
  refine mm_cv (q := 67) (mt_X6_putLowFirst G b37 (x2 - (5 : Int32)) 8 h33 k38) (mm_runV (as := [.int (x2 - (5 : Int32)), .int 8]) (st := []) cl_5 lk_X8_gather_X6_putLowFirst_116 rfl dX8_gather_64 rfl (Nat.le_of_ble_eq_true rfl) k38) rfl (fun h39 p40 => ?_)
  have k41 : mm_kd h39 a0 = 7 := mm_kd_app p40 k35 (by decide)
  have k42 : mm_kd h39 a1 = 5 := mm_kd_app p40 k36 (by decide)
  exact ok_ret dX8_gather_67 rfl
