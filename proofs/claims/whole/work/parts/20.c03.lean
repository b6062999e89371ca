def lp_X8_mix_25 (ke_84 : Nat → Nat → Int32 → Int32 → mm_H → mm_O) : Nat → Nat → Nat → Int32 → Int32 → Int32 → mm_H → mm_O
  | 0, _, _, _, _, _, _ => none
  | n + 1, a0, a1, x3, x4, x5, h => if (64 : Int32) ≤ x5 then
  (ke_84 a0 a1 x3 x4 h)
  else
  (if (mm_i h a1 1) ≤ (x4 + x5) then
  (ke_84 a0 a1 x3 x4 h)
  else
  (mm_gr h a1 0 (fun b5 =>
  if mm_in (x4 + x5) (mm_ln h b5) = true then (mm_gr h a0 2 (fun b8 =>
  if mm_in (x5 / (4 : Int32)) (mm_ln h b8) = true then (if 32 ≤ b5 ∧ mm_in (x4 + x5) (mm_ln h b5) = true then (mm_bh (mm_si h b5 (mm_n (x4 + x5)) ((mm_i h b5 (mm_n (x4 + x5))) ^^^ ((mm_ush (mm_i h b8 (mm_n (x5 / (4 : Int32)))) ((8 : Int32) * (mm_rem x5 (4 : Int32)))) &&& (255 : Int32)))) (fun h12 =>
  lp_X8_mix_25 ke_84 n a0 a1 x3 x4 (x5 + 1) h12)) else none) else none)) else none)))
set_option maxHeartbeats 4000000 in
set_option maxRecDepth 100000 in
theorem ol_X8_mix_25 {G : mm_G} {ke_84 : Nat → Nat → Int32 → Int32 → mm_H → mm_O} (hke_84 : ∀ (a0 : Nat) (a1 : Nat) (x3 : Int32) (x4 : Int32) (h : mm_H), mm_kd h a0 = 7 → mm_kd h a1 = 5 → mm_Ok G my_X8_mix 84 [.ref a0, .ref a1, mm_U, .int x3, .int x4, mm_U] [] h (ke_84 a0 a1 x3 x4 h)) : ∀ (n : Nat) (a0 : Nat) (a1 : Nat) (x3 : Int32) (x4 : Int32) (x5 : Int32) (h : mm_H), mm_kd h a0 = 7 → mm_kd h a1 = 5 → mm_Ok G my_X8_mix 25 [.ref a0, .ref a1, mm_U, .int x3, .int x4, .int x5] [] h (lp_X8_mix_25 ke_84 n a0 a1 x3 x4 x5 h) := by
  intro n
  induction n with
  | zero => intro a0 a1 x3 x4 x5 h k_a0 k_a1; exact mm_no
  | succ n ih =>
    intro a0 a1 x3 x4 x5 h k_a0 k_a1
    rw [lp_X8_mix_25]
    refine ok_iload (q := 27) dX8_mix_25 rfl rfl ?_
    refine ok_bipush (q := 29) (v := 64) dX8_mix_27 cb_64 rfl ?_
    refine ok_icmp_ge (q := 32) (t := 84) dX8_mix_29 rfl rfl ?_ ?_
    · refine mm_wk [true, true, false, true, true, false] (ls' := [.ref a0, .ref a1, mm_U, .int x3, .int x4, mm_U]) rfl ?_
      exact hke_84 a0 a1 x3 x4 h k_a0 k_a1
    · refine ok_iload (q := 34) dX8_mix_32 rfl rfl ?_
      refine ok_iload (q := 36) dX8_mix_34 rfl rfl ?_
      refine ok_iadd (q := 37) dX8_mix_36 rfl ?_
      refine ok_aload_n (q := 38) dX8_mix_37 rfl rfl ?_
      refine ok_getI cl_5 (q := 41) (k := 1) dX8_mix_38 (Nat.le_of_ble_eq_true rfl) wd_125 (fun _ _ _ => rfl) k_a1 rfl ?_
      refine ok_icmp_ge (q := 44) (t := 84) dX8_mix_41 rfl rfl ?_ ?_
      · refine mm_wk [true, true, false, true, true, false] (ls' := [.ref a0, .ref a1, mm_U, .int x3, .int x4, mm_U]) rfl ?_
        exact hke_84 a0 a1 x3 x4 h k_a0 k_a1
      · refine ok_aload_n (q := 45) dX8_mix_44 rfl rfl ?_
        refine ok_getR cl_5 (q := 48) (k := 0) dX8_mix_45 (Nat.le_of_ble_eq_true rfl) wd_121 (fun _ _ _ => rfl) kt_5_0 k_a1 rfl (fun b5 k6 => ?_)
        refine ok_iload (q := 50) dX8_mix_48 rfl rfl ?_
        refine ok_iload (q := 52) dX8_mix_50 rfl rfl ?_
        refine ok_iadd (q := 53) dX8_mix_52 rfl ?_
        refine ok_dup2 (q := 54) dX8_mix_53 rfl rfl rfl ?_
        refine mm_ck (fun c7 => ?_)
        refine ok_iald (q := 55) dX8_mix_54 k6 c7 rfl ?_
        refine ok_aload_n (q := 56) dX8_mix_55 rfl rfl ?_
        refine ok_getR cl_7 (q := 59) (k := 2) dX8_mix_56 (Nat.le_of_ble_eq_true rfl) wd_221 (fun _ _ _ => rfl) kt_7_2 k_a0 rfl (fun b8 k9 => ?_)
        refine ok_iload (q := 61) dX8_mix_59 rfl rfl ?_
        refine ok_iconst (q := 62) (v := 4) dX8_mix_61 ci_4 rfl ?_
        refine ok_idiv (q := 63) dX8_mix_62 (by decide) rfl ?_
        refine mm_ck (fun c10 => ?_)
        refine ok_iald (q := 64) dX8_mix_63 k9 c10 rfl ?_
        refine ok_bipush (q := 66) (v := 8) dX8_mix_64 cb_8 rfl ?_
        refine ok_iload (q := 68) dX8_mix_66 rfl rfl ?_
        refine ok_iconst (q := 69) (v := 4) dX8_mix_68 ci_4 rfl ?_
        refine ok_irem (q := 70) dX8_mix_69 (by decide) rfl ?_
        refine ok_imul (q := 71) dX8_mix_70 rfl ?_
        refine ok_iushr (q := 72) dX8_mix_71 rfl ?_
        refine ok_sipush (q := 75) (v := 255) dX8_mix_72 cs_255 rfl ?_
        refine ok_iand (q := 76) dX8_mix_75 rfl ?_
        refine ok_ixor (q := 77) dX8_mix_76 rfl ?_
        refine mm_ck (fun c11 => ?_)
        refine ok_iast (q := 78) dX8_mix_77 k6 c11.1 c11.2 rfl (bh_ok (fun h12 e13 => ?_))
        have e13 : h12.1 = h.1 := e13
        refine ok_iinc (q := 81) (v := x5 + 1) (ls' := [.ref a0, .ref a1, mm_U, .int x3, .int x4, .int (x5 + 1)]) dX8_mix_78 rfl (congrArg (x5 + ·) ci_1) (Nat.le_of_ble_eq_true rfl) rfl rfl ?_
        refine ok_goto (q := 25) dX8_mix_81 rfl ?_
        exact ih a0 a1 x3 x4 (x5 + 1) h12 (mm_ke e13 k_a0) (mm_ke e13 k_a1)
def lp_X8_mix_5  : Nat → Nat → Nat → Int32 → Int32 → mm_H → mm_O
  | 0, _, _, _, _, _ => none
  | n + 1, a0, a1, x3, x4, h => if (mm_i h a1 1) ≤ x4 then
  (some (none, h))
  else
  (mm_qv (bd_X8_turnBlock a0 (x3 + 1) h) (fun h1 =>
  lp_X8_mix_25 (fun b15 b16 v17 v18 h14 => lp_X8_mix_5 n b15 b16 v17 (v18 + 64) h14) mm_fu a0 a1 (x3 + 1) x4 0 h1))
set_option maxHeartbeats 4000000 in
set_option maxRecDepth 100000 in
theorem ol_X8_mix_5 {G : mm_G}   : ∀ (n : Nat) (a0 : Nat) (a1 : Nat) (x3 : Int32) (x4 : Int32) (h : mm_H), mm_kd h a0 = 7 → mm_kd h a1 = 5 → mm_Ok G my_X8_mix 5 [.ref a0, .ref a1, mm_U, .int x3, .int x4, mm_U] [] h (lp_X8_mix_5 n a0 a1 x3 x4 h) := by
  intro n
  induction n with
  | zero => intro a0 a1 x3 x4 h k_a0 k_a1; exact mm_no
  | succ n ih =>
    intro a0 a1 x3 x4 h k_a0 k_a1
    rw [lp_X8_mix_5]
    refine ok_iload (q := 7) dX8_mix_5 rfl rfl ?_
    refine ok_aload_n (q := 8) dX8_mix_7 rfl rfl ?_
    refine ok_getI cl_5 (q := 11) (k := 1) dX8_mix_8 (Nat.le_of_ble_eq_true rfl) wd_125 (fun _ _ _ => rfl) k_a1 rfl ?_
    refine ok_icmp_ge (q := 14) (t := 90) dX8_mix_11 rfl rfl ?_ ?_
    · exact ok_ret dX8_mix_90 rfl
    · refine ok_iinc (q := 17) (v := x3 + 1) (ls' := [.ref a0, .ref a1, mm_U, .int (x3 + 1), .int x4, mm_U]) dX8_mix_14 rfl (congrArg (x3 + ·) ci_1) (Nat.le_of_ble_eq_true rfl) rfl rfl ?_
      refine ok_aload_n (q := 18) dX8_mix_17 rfl rfl ?_
      refine ok_iload_n (q := 19) dX8_mix_18 rfl rfl ?_
      refine mm_cv (q := 22) (mt_X8_turnBlock G a0 (x3 + 1) h k_a0) (mm_runV (as := [.int (x3 + 1)]) (st := []) cl_7 lk_X8_mix_X8_turnBlock_93 rfl dX8_mix_19 rfl (Nat.le_of_ble_eq_true rfl) k_a0) rfl (fun h1 p2 => ?_)
      have k3 : mm_kd h1 a0 = 7 := mm_kd_app p2 k_a0 (by decide)
      have k4 : mm_kd h1 a1 = 5 := mm_kd_app p2 k_a1 (by decide)
      refine ok_iconst (q := 23) (v := 0) dX8_mix_22 ci_0 rfl ?_
      refine ok_istore (q := 25) (ls' := [.ref a0, .ref a1, mm_U, .int (x3 + 1), .int x4, .int 0]) dX8_mix_23 (Nat.le_of_ble_eq_true rfl) rfl rfl ?_
      refine ol_X8_mix_25 (fun b15 b16 v17 v18 h14 k_b15 k_b16 => ?_) mm_fu a0 a1 (x3 + 1) x4 0 h1 k3 k4
      · refine ok_iinc (q := 87) (v := v18 + 64) (ls' := [.ref b15, .ref b16, mm_U, .int v17, .int (v18 + 64), mm_U]) dX8_mix_84 rfl (congrArg (v18 + ·) ci_64) (Nat.le_of_ble_eq_true rfl) rfl rfl ?_
        refine ok_goto (q := 5) dX8_mix_87 rfl ?_
        exact ih b15 b16 v17 (v18 + 64) h14 k_b15 k_b16
def bd_X8_mix (a0 : Nat) (a1 : Nat) (x2 : Int32) (h : mm_H) : mm_O := lp_X8_mix_5  mm_fu a0 a1 0 x2 h
set_option maxHeartbeats 4000000 in
set_option maxRecDepth 100000 in
theorem mt_X8_mix (G : mm_G) (a0 : Nat) (a1 : Nat) (x2 : Int32) (h : mm_H) (k_a0 : mm_kd h a0 = 7) (k_a1 : mm_kd h a1 = 5) : mm_Met G my_X8_mix [.ref a0, .ref a1, .int x2] h (bd_X8_mix a0 a1 x2 h) := by
  refine mm_met (ls := [.ref a0, .ref a1, .int x2, mm_U, mm_U, mm_U]) pn_RX8 (Nat.le_of_ble_eq_true rfl) rfl ?_
  unfold bd_X8_mix
  refine ok_iconst (q := 1) (v := 0) dX8_mix_0 ci_0 rfl ?_
  refine ok_istore_n (q := 2) (ls' := [.ref a0, .ref a1, .int x2, .int 0, mm_U, mm_U]) dX8_mix_1 (Nat.le_of_ble_eq_true rfl) rfl rfl ?_
  refine ok_iload_n (q := 3) dX8_mix_2 rfl rfl ?_
  refine ok_istore (q := 5) (ls' := [.ref a0, .ref a1, .int x2, .int 0, .int x2, mm_U]) dX8_mix_3 (Nat.le_of_ble_eq_true rfl) rfl rfl ?_
  refine mm_wk [true, true, false, true, true, false] (ls' := [.ref a0, .ref a1, mm_U, .int 0, .int x2, mm_U]) rfl ?_
  refine ol_X8_mix_5  mm_fu a0 a1 0 x2 h k_a0 k_a1
def bd_X8_seal (a0 : Nat) (a1 : Nat) (a2 : Nat) (h : mm_H) : mm_O := mm_qv (bd_X8_aim a0 a1 h) (fun h1 =>
  mm_qv (bd_X8_mix a0 a2 5 h1) (fun h6 =>
  mm_qv (bd_X8_gather a0 a2 (mm_i h6 a2 1) h6) (fun h11 =>
  mm_gr h11 a0 0 (fun b16 =>
  mm_gr h11 a0 3 (fun b18 =>
  mm_gr h11 a0 4 (fun b20 =>
  mm_gr h11 a0 5 (fun b22 =>
  mm_qv (bd_X5_tag b16 b18 b20 b22 h11) (fun h24 =>
  mm_gr h24 a0 5 (fun b29 =>
  mm_qv (bd_X6_append a2 b29 h24) (fun h31 =>
  mm_bh (mm_si h31 a1 3 ((mm_i h31 a1 3) + (1 : Int32))) (fun h36 =>
  some (none, h36))))))))))))
set_option maxHeartbeats 4000000 in
set_option maxRecDepth 100000 in
theorem mt_X8_seal (G : mm_G) (a0 : Nat) (a1 : Nat) (a2 : Nat) (h : mm_H) (k_a0 : mm_kd h a0 = 7) (k_a1 : mm_kd h a1 = 2) (k_a2 : mm_kd h a2 = 5) : mm_Met G my_X8_seal [.ref a0, .ref a1, .ref a2] h (bd_X8_seal a0 a1 a2 h) := by
  refine mm_met (ls := [.ref a0, .ref a1, .ref a2]) pn_RX8 (Nat.le_of_ble_eq_true rfl) rfl ?_
  unfold bd_X8_seal
  refine ok_aload_n (q := 1) dX8_seal_0 rfl rfl ?_
  refine ok_aload_n (q := 2) dX8_seal_1 rfl rfl ?_
  refine mm_cv (q := 5) (mt_X8_aim G a0 a1 h k_a0 k_a1) (mm_runV (as := [.ref a1]) (st := []) cl_7 lk_X8_seal_X8_aim_40 rfl dX8_seal_2 rfl (Nat.le_of_ble_eq_true rfl) k_a0) rfl (fun h1 p2 => ?_)
  have k3 : mm_kd h1 a0 = 7 := mm_kd_app p2 k_a0 (by decide)
  have k4 : mm_kd h1 a1 = 2 := mm_kd_app p2 k_a1 (by decide)
  have k5 : mm_kd h1 a2 = 5 := mm_kd_app p2 k_a2 (by decide)
  refine ok_aload_n (q := 6) dX8_seal_5 rfl rfl ?_
  refine ok_aload_n (q := 7) dX8_seal_6 rfl rfl ?_
  refine ok_iconst (q := 8) (v := 5) dX8_seal_7 ci_5 rfl ?_
  refine mm_cv (q := 11) (mt_X8_mix G a0 a2 5 h1 k3 k5) (mm_runV (as := [.ref a2, .int 5]) (st := []) cl_7 lk_X8_seal_X8_mix_46 rfl dX8_seal_8 rfl (Nat.le_of_ble_eq_true rfl) k3) rfl (fun h6 p7 => ?_)
  have k8 : mm_kd h6 a0 = 7 := mm_kd_app p7 k3 (by decide)
  have k9 : mm_kd h6 a1 = 2 := mm_kd_app p7 k4 (by decide)
  have k10 : mm_kd h6 a2 = 5 := mm_kd_app p7 k5 (by decide)
  refine ok_aload_n (q := 12) dX8_seal_11 rfl rfl ?_
  refine ok_aload_n (q := 13) dX8_seal_12 rfl rfl ?_
  refine ok_aload_n (q := 14) dX8_seal_13 rfl rfl ?_
  refine ok_getI cl_5 (q := 17) (k := 1) dX8_seal_14 (Nat.le_of_ble_eq_true rfl) wd_125 (fun _ _ _ => rfl) k10 rfl ?_
  refine mm_cv (q := 20) (mt_X8_gather G a0 a2 (mm_i h6 a2 1) h6 k8 k10) (mm_runV (as := [.ref a2, .int (mm_i h6 a2 1)]) (st := []) cl_7 lk_X8_seal_X8_gather_54 rfl dX8_seal_17 rfl (Nat.le_of_ble_eq_true rfl) k8) rfl (fun h11 p12 => ?_)
  have k13 : mm_kd h11 a0 = 7 := mm_kd_app p12 k8 (by decide)
  have k14 : mm_kd h11 a1 = 2 := mm_kd_app p12 k9 (by decide)
  have k15 : mm_kd h11 a2 = 5 := mm_kd_app p12 k10 (by decide)
  refine ok_aload_n (q := 21) dX8_seal_20 rfl rfl ?_
  refine ok_getR cl_7 (q := 24) (k := 0) dX8_seal_21 (Nat.le_of_ble_eq_true rfl) wd_219 (fun _ _ _ => rfl) kt_7_0 k13 rfl (fun b16 k17 => ?_)
  refine ok_aload_n (q := 25) dX8_seal_24 rfl rfl ?_
  refine ok_getR cl_7 (q := 28) (k := 3) dX8_seal_25 (Nat.le_of_ble_eq_true rfl) wd_222 (fun _ _ _ => rfl) kt_7_3 k13 rfl (fun b18 k19 => ?_)
  refine ok_aload_n (q := 29) dX8_seal_28 rfl rfl ?_
  refine ok_getR cl_7 (q := 32) (k := 4) dX8_seal_29 (Nat.le_of_ble_eq_true rfl) wd_223 (fun _ _ _ => rfl) kt_7_4 k13 rfl (fun b20 k21 => ?_)
  refine ok_aload_n (q := 33) dX8_seal_32 rfl rfl ?_
  refine ok_getR cl_7 (q := 36) (k := 5) dX8_seal_33 (Nat.le_of_ble_eq_true rfl) wd_224 (fun _ _ _ => rfl) kt_7_5 k13 rfl (fun b22 k23 => ?_)
  refine mm_cv (q := 39) (mt_X5_tag G b16 b18 b20 b22 h11 k17 k19 k21 k23) (mm_runV (as := [.ref b18, .ref b20, .ref b22]) (st := []) cl_4 lk_X8_seal_X5_tag_57 rfl dX8_seal_36 rfl (Nat.le_of_ble_eq_true rfl) k17) rfl (fun h24 p25 => ?_)
  have k26 : mm_kd h24 a0 = 7 := mm_kd_app p25 k13 (by decide)
  have k27 : mm_kd h24 a1 = 2 := mm_kd_app p25 k14 (by decide)
  have k28 : mm_kd h24 a2 = 5 := mm_kd_app p25 k15 (by decide)
  refine ok_aload_n (q := 40) dX8_seal_39 rfl rfl ?_
  refine ok_aload_n (q := 41) dX8_seal_40 rfl rfl ?_
  refine ok_getR cl_7 (q := 44) (k := 5) dX8_seal_41 (Nat.le_of_ble_eq_true rfl) wd_224 (fun _ _ _ => rfl) kt_7_5 k26 rfl (fun b29 k30 => ?_)
  refine mm_cv (q := 47) (mt_X6_append G a2 b29 h24 k28 k30) (mm_runV (as := [.ref b29]) (st := []) cl_5 lk_X8_seal_X6_append_60 rfl dX8_seal_44 rfl (Nat.le_of_ble_eq_true rfl) k28) rfl (fun h31 p32 => ?_)
  have k33 : mm_kd h31 a0 = 7 := mm_kd_app p32 k26 (by decide)
  have k34 : mm_kd h31 a1 = 2 := mm_kd_app p32 k27 (by decide)
  have k35 : mm_kd h31 a2 = 5 := mm_kd_app p32 k28 (by decide)
  refine ok_aload_n (q := 48) dX8_seal_47 rfl rfl ?_
  refine ok_dup (q := 49) dX8_seal_48 rfl rfl ?_
  refine ok_getI cl_2 (q := 52) (k := 3) dX8_seal_49 (Nat.le_of_ble_eq_true rfl) wd_330 (fun _ _ _ => rfl) k34 rfl ?_
  refine ok_iconst (q := 53) (v := 1) dX8_seal_52 ci_1 rfl ?_
  refine ok_iadd (q := 54) dX8_seal_53 rfl ?_
  refine ok_putI cl_2 (q := 57) (k := 3) dX8_seal_54 (Nat.le_of_ble_eq_true rfl) wd_330 (Or.inl rfl) (fun _ _ _ => rfl) rfl rfl k34 rfl (bh_ok (fun h36 e37 => ?_))
  have e37 : h36.1 = h31.1 := e37
  exact ok_ret dX8_seal_57 rfl
def jn_X0_send_18 (a0 : Nat) (x1 : Int32) (a2 : Nat) (h : mm_H) : mm_O := some (some (.int 0), h)
set_option maxHeartbeats 4000000 in
set_option maxRecDepth 100000 in
theorem oj_X0_send_18 {G : mm_G}   (a0 : Nat) (x1 : Int32) (a2 : Nat) (h : mm_H) (k_a0 : mm_kd h a0 = 0) (k_a2 : mm_kd h a2 = 5) : mm_Ok G my_X0_send 18 [.ref a0, .int x1, .ref a2, mm_U, mm_U] [.null] h (jn_X0_send_18 a0 x1 a2 h) := by
  unfold jn_X0_send_18
  refine ok_astore_nN (q := 19) (ls' := [.ref a0, .int x1, .ref a2, .null, mm_U]) dX0_send_18 (Nat.le_of_ble_eq_true rfl) rfl rfl ?_
  refine ok_aload_nN (q := 20) dX0_send_19 rfl rfl ?_
  refine ok_ifnonnull_n (q := 23) dX0_send_20 rfl ?_
  refine ok_iconst (q := 24) (v := 0) dX0_send_23 ci_0 rfl ?_
  exact ok_iret (t := .boolean) dX0_send_24 rfl (by decide)
def jn_X0_send_81 (a0 : Nat) (x1 : Int32) (a2 : Nat) (a3 : Nat) (x4 : Int32) (s0 : Int32) (s1 : Nat) (h : mm_H) : mm_O := mm_qv (bd_X6_putNumber s1 s0 2 h) (fun h29 =>
  mm_qv (bd_X6_append a3 a2 h29) (fun h34 =>
  if x4 = 0 then
  (some (some (.int 1), h34))
  else
  (mm_qv (bd_X6_put a3 x1 h34) (fun h39 =>
  mm_gr h39 a0 6 (fun b44 =>
  mm_gr h39 b44 2 (fun b46 =>
  mm_gr h39 a0 2 (fun b48 =>
  mm_qv (bd_X8_seal b46 b48 a3 h39) (fun h50 =>
  some (some (.int 1), h50)))))))))
set_option maxHeartbeats 4000000 in
set_option maxRecDepth 100000 in
theorem oj_X0_send_81 {G : mm_G}   (a0 : Nat) (x1 : Int32) (a2 : Nat) (a3 : Nat) (x4 : Int32) (s0 : Int32) (s1 : Nat) (h : mm_H) (k_a0 : mm_kd h a0 = 0) (k_a2 : mm_kd h a2 = 5) (k_a3 : mm_kd h a3 = 5) (k_s1 : mm_kd h s1 = 5) : mm_Ok G my_X0_send 81 [.ref a0, .int x1, .ref a2, .ref a3, .int x4] [.int s0, .ref s1] h (jn_X0_send_81 a0 x1 a2 a3 x4 s0 s1 h) := by
  unfold jn_X0_send_81
  refine ok_iconst (q := 82) (v := 2) dX0_send_81 ci_2 rfl ?_
  refine mm_cv (q := 85) (mt_X6_putNumber G s1 s0 2 h k_s1) (mm_runV (as := [.int s0, .int 2]) (st := []) cl_5 lk_X0_send_X6_putNumber_328 rfl dX0_send_82 rfl (Nat.le_of_ble_eq_true rfl) k_s1) rfl (fun h29 p30 => ?_)
  have k31 : mm_kd h29 a0 = 0 := mm_kd_app p30 k_a0 (by decide)
  have k32 : mm_kd h29 a2 = 5 := mm_kd_app p30 k_a2 (by decide)
  have k33 : mm_kd h29 a3 = 5 := mm_kd_app p30 k_a3 (by decide)
  refine ok_aload_n (q := 86) dX0_send_85 rfl rfl ?_
  refine ok_aload_n (q := 87) dX0_send_86 rfl rfl ?_
  refine mm_cv (q := 90) (mt_X6_append G a3 a2 h29 k33 k32) (mm_runV (as := [.ref a2]) (st := []) cl_5 lk_X0_send_X6_append_137 rfl dX0_send_87 rfl (Nat.le_of_ble_eq_true rfl) k33) rfl (fun h34 p35 => ?_)
  have k36 : mm_kd h34 a0 = 0 := mm_kd_app p35 k31 (by decide)
  have k37 : mm_kd h34 a2 = 5 := mm_kd_app p35 k32 (by decide)
  have k38 : mm_kd h34 a3 = 5 := mm_kd_app p35 k33 (by decide)
  refine ok_iload (q := 92) dX0_send_90 rfl rfl ?_
  refine ok_if_eq (q := 95) (t := 115) dX0_send_92 rfl rfl ?_ ?_
  · refine ok_iconst (q := 116) (v := 1) dX0_send_115 ci_1 rfl ?_
    exact ok_iret (t := .boolean) dX0_send_116 rfl (by decide)
  · refine ok_aload_n (q := 96) dX0_send_95 rfl rfl ?_
    refine ok_iload_n (q := 97) dX0_send_96 rfl rfl ?_
    refine mm_cv (q := 100) (mt_X6_put G a3 x1 h34 k38) (mm_runV (as := [.int x1]) (st := []) cl_5 lk_X0_send_X6_put_325 rfl dX0_send_97 rfl (Nat.le_of_ble_eq_true rfl) k38) rfl (fun h39 p40 => ?_)
    have k41 : mm_kd h39 a0 = 0 := mm_kd_app p40 k36 (by decide)
    have k42 : mm_kd h39 a2 = 5 := mm_kd_app p40 k37 (by decide)
    have k43 : mm_kd h39 a3 = 5 := mm_kd_app p40 k38 (by decide)
    refine ok_aload_n (q := 101) dX0_send_100 rfl rfl ?_
    refine ok_getR cl_0 (q := 104) (k := 6) dX0_send_101 (Nat.le_of_ble_eq_true rfl) wd_388 (fun _ _ _ => rfl) kt_0_6 k41 rfl (fun b44 k45 => ?_)
    refine ok_getR cl_9 (q := 107) (k := 2) dX0_send_104 (Nat.le_of_ble_eq_true rfl) wd_246 (fun _ _ _ => rfl) kt_9_2 k45 rfl (fun b46 k47 => ?_)
    refine ok_aload_n (q := 108) dX0_send_107 rfl rfl ?_
    refine ok_getR cl_0 (q := 111) (k := 2) dX0_send_108 (Nat.le_of_ble_eq_true rfl) wd_380 (fun _ _ _ => rfl) kt_0_2 k41 rfl (fun b48 k49 => ?_)
    refine ok_aload_n (q := 112) dX0_send_111 rfl rfl ?_
    refine mm_cv (q := 115) (mt_X8_seal G b46 b48 a3 h39 k47 k49 k43) (mm_runV (as := [.ref b48, .ref a3]) (st := []) cl_7 lk_X0_send_X8_seal_332 rfl dX0_send_112 rfl (Nat.le_of_ble_eq_true rfl) k47) rfl (fun h50 p51 => ?_)
    have k52 : mm_kd h50 a0 = 0 := mm_kd_app p51 k41 (by decide)
    have k53 : mm_kd h50 a2 = 5 := mm_kd_app p51 k42 (by decide)
    have k54 : mm_kd h50 a3 = 5 := mm_kd_app p51 k43 (by decide)
    refine ok_iconst (q := 116) (v := 1) dX0_send_115 ci_1 rfl ?_
    exact ok_iret (t := .boolean) dX0_send_116 rfl (by decide)
def jn_X0_send_46 (a0 : Nat) (x1 : Int32) (a2 : Nat) (a3 : Nat) (x4 : Int32) (s0 : Int32) (s1 : Nat) (h : mm_H) : mm_O := mm_qv (bd_X6_put s1 s0 h) (fun h14 =>
  mm_qv (bd_X6_put a3 3 h14) (fun h19 =>
  mm_qv (bd_X6_put a3 3 h19) (fun h24 =>
  if x4 = 0 then
  (jn_X0_send_81 a0 x1 a2 a3 x4 (mm_i h24 a2 1) a3 h24)
  else
  (jn_X0_send_81 a0 x1 a2 a3 x4 (((mm_i h24 a2 1) + (1 : Int32)) + (16 : Int32)) a3 h24))))
set_option maxHeartbeats 4000000 in
set_option maxRecDepth 100000 in
theorem oj_X0_send_46 {G : mm_G}   (a0 : Nat) (x1 : Int32) (a2 : Nat) (a3 : Nat) (x4 : Int32) (s0 : Int32) (s1 : Nat) (h : mm_H) (k_a0 : mm_kd h a0 = 0) (k_a2 : mm_kd h a2 = 5) (k_a3 : mm_kd h a3 = 5) (k_s1 : mm_kd h s1 = 5) : mm_Ok G my_X0_send 46 [.ref a0, .int x1, .ref a2, .ref a3, .int x4] [.int s0, .ref s1] h (jn_X0_send_46 a0 x1 a2 a3 x4 s0 s1 h) := by
  unfold jn_X0_send_46
  refine mm_cv (q := 49) (mt_X6_put G s1 s0 h k_s1) (mm_runV (as := [.int s0]) (st := []) cl_5 lk_X0_send_X6_put_325 rfl dX0_send_46 rfl (Nat.le_of_ble_eq_true rfl) k_s1) rfl (fun h14 p15 => ?_)
  have k16 : mm_kd h14 a0 = 0 := mm_kd_app p15 k_a0 (by decide)
  have k17 : mm_kd h14 a2 = 5 := mm_kd_app p15 k_a2 (by decide)
  have k18 : mm_kd h14 a3 = 5 := mm_kd_app p15 k_a3 (by decide)
  refine ok_aload_n (q := 50) dX0_send_49 rfl rfl ?_
  refine ok_iconst (q := 51) (v := 3) dX0_send_50 ci_3 rfl ?_
  refine mm_cv (q := 54) (mt_X6_put G a3 3 h14 k18) (mm_runV (as := [.int 3]) (st := []) cl_5 lk_X0_send_X6_put_325 rfl dX0_send_51 rfl (Nat.le_of_ble_eq_true rfl) k18) rfl (fun h19 p20 => ?_)
  have k21 : mm_kd h19 a0 = 0 := mm_kd_app p20 k16 (by decide)
  have k22 : mm_kd h19 a2 = 5 := mm_kd_app p20 k17 (by decide)
  have k23 : mm_kd h19 a3 = 5 := mm_kd_app p20 k18 (by decide)
  refine ok_aload_n (q := 55) dX0_send_54 rfl rfl ?_
  refine ok_iconst (q := 56) (v := 3) dX0_send_55 ci_3 rfl ?_
  refine mm_cv (q := 59) (mt_X6_put G a3 3 h19 k23) (mm_runV (as := [.int 3]) (st := []) cl_5 lk_X0_send_X6_put_325 rfl dX0_send_56 rfl (Nat.le_of_ble_eq_true rfl) k23) rfl (fun h24 p25 => ?_)
  have k26 : mm_kd h24 a0 = 0 := mm_kd_app p25 k21 (by decide)
  have k27 : mm_kd h24 a2 = 5 := mm_kd_app p25 k22 (by decide)
  have k28 : mm_kd h24 a3 = 5 := mm_kd_app p25 k23 (by decide)
  refine ok_aload_n (q := 60) dX0_send_59 rfl rfl ?_
  refine ok_iload (q := 62) dX0_send_60 rfl rfl ?_
  refine ok_if_eq (q := 65) (t := 77) dX0_send_62 rfl rfl ?_ ?_
  · refine ok_aload_n (q := 78) dX0_send_77 rfl rfl ?_
    refine ok_getI cl_5 (q := 81) (k := 1) dX0_send_78 (Nat.le_of_ble_eq_true rfl) wd_128 (fun _ _ _ => rfl) k27 rfl ?_
    exact oj_X0_send_81 a0 x1 a2 a3 x4 (mm_i h24 a2 1) a3 h24 k26 k27 k28 k28
  · refine ok_aload_n (q := 66) dX0_send_65 rfl rfl ?_
    refine ok_getI cl_5 (q := 69) (k := 1) dX0_send_66 (Nat.le_of_ble_eq_true rfl) wd_128 (fun _ _ _ => rfl) k27 rfl ?_
    refine ok_iconst (q := 70) (v := 1) dX0_send_69 ci_1 rfl ?_
    refine ok_iadd (q := 71) dX0_send_70 rfl ?_
    refine ok_bipush (q := 73) (v := 16) dX0_send_71 cb_16 rfl ?_
    refine ok_iadd (q := 74) dX0_send_73 rfl ?_
    refine ok_goto (q := 81) dX0_send_74 rfl ?_
    exact oj_X0_send_81 a0 x1 a2 a3 x4 (((mm_i h24 a2 1) + (1 : Int32)) + (16 : Int32)) a3 h24 k26 k27 k28 k28
def jn_X0_send_18_1 (a0 : Nat) (x1 : Int32) (a2 : Nat) (s0 : Nat) (h : mm_H) : mm_O := mm_gr h a0 2 (fun b11 =>
  mm_bi (mm_i h b11 4) (fun v13 =>
  if v13 = 0 then
  (jn_X0_send_46 a0 x1 a2 s0 v13 x1 s0 h)
  else
  (jn_X0_send_46 a0 x1 a2 s0 v13 23 s0 h)))
set_option maxHeartbeats 4000000 in
set_option maxRecDepth 100000 in
theorem oj_X0_send_18_1 {G : mm_G}   (a0 : Nat) (x1 : Int32) (a2 : Nat) (s0 : Nat) (h : mm_H) (k_a0 : mm_kd h a0 = 0) (k_a2 : mm_kd h a2 = 5) (k_s0 : mm_kd h s0 = 5) : mm_Ok G my_X0_send 18 [.ref a0, .int x1, .ref a2, mm_U, mm_U] [.ref s0] h (jn_X0_send_18_1 a0 x1 a2 s0 h) := by
  unfold jn_X0_send_18_1
  refine ok_astore_n (q := 19) (ls' := [.ref a0, .int x1, .ref a2, .ref s0, mm_U]) dX0_send_18 (Nat.le_of_ble_eq_true rfl) rfl rfl ?_
  refine ok_aload_n (q := 20) dX0_send_19 rfl rfl ?_
  refine ok_ifnonnull_s (q := 25) dX0_send_20 rfl ?_
  refine ok_aload_n (q := 26) dX0_send_25 rfl rfl ?_
  refine ok_getR cl_0 (q := 29) (k := 2) dX0_send_26 (Nat.le_of_ble_eq_true rfl) wd_380 (fun _ _ _ => rfl) kt_0_2 k_a0 rfl (fun b11 k12 => ?_)
  refine ok_getI cl_2 (q := 32) (k := 4) dX0_send_29 (Nat.le_of_ble_eq_true rfl) wd_333 (fun _ _ _ => rfl) k12 rfl ?_
  refine bi_ok (fun v13 => ?_)
  refine ok_istore (q := 34) (ls' := [.ref a0, .int x1, .ref a2, .ref s0, .int v13]) dX0_send_32 (Nat.le_of_ble_eq_true rfl) rfl rfl ?_
  refine ok_aload_n (q := 35) dX0_send_34 rfl rfl ?_
  refine ok_iload (q := 37) dX0_send_35 rfl rfl ?_
  refine ok_if_eq (q := 40) (t := 45) dX0_send_37 rfl rfl ?_ ?_
  · refine ok_iload_n (q := 46) dX0_send_45 rfl rfl ?_
    exact oj_X0_send_46 a0 x1 a2 s0 v13 x1 s0 h k_a0 k_a2 k_s0 k_s0
  · refine ok_bipush (q := 42) (v := 23) dX0_send_40 cb_23 rfl ?_
    refine ok_goto (q := 46) dX0_send_42 rfl ?_
    exact oj_X0_send_46 a0 x1 a2 s0 v13 23 s0 h k_a0 k_a2 k_s0 k_s0
def bd_X0_send (a0 : Nat) (x1 : Int32) (a2 : Nat) (h : mm_H) : mm_O := if (mm_i h a0 16) = 0 then
  (mm_gr h a0 0 (fun b1 =>
  mm_qa (bd_X4_add b1 h) (fun h3 =>
  jn_X0_send_18 a0 x1 a2 h3) (fun b5 h3 =>
  jn_X0_send_18_1 a0 x1 a2 b5 h3)))
  else
  (jn_X0_send_18 a0 x1 a2 h)
set_option maxHeartbeats 4000000 in
set_option maxRecDepth 100000 in
theorem mt_X0_send (G : mm_G) (a0 : Nat) (x1 : Int32) (a2 : Nat) (h : mm_H) (k_a0 : mm_kd h a0 = 0) (k_a2 : mm_kd h a2 = 5) : mm_Met G my_X0_send [.ref a0, .int x1, .ref a2] h (bd_X0_send a0 x1 a2 h) := by
  refine mm_met (ls := [.ref a0, .int x1, .ref a2, mm_U, mm_U]) pn_RX0 (Nat.le_of_ble_eq_true rfl) rfl ?_
  unfold bd_X0_send
  refine ok_aload_n (q := 1) dX0_send_0 rfl rfl ?_
  refine ok_getI cl_0 (q := 4) (k := 16) dX0_send_1 (Nat.le_of_ble_eq_true rfl) wd_398 (fun _ _ _ => rfl) k_a0 rfl ?_
  refine ok_if_eq (q := 7) (t := 11) dX0_send_4 rfl rfl ?_ ?_
  · refine ok_aload_n (q := 12) dX0_send_11 rfl rfl ?_
    refine ok_getR cl_0 (q := 15) (k := 0) dX0_send_12 (Nat.le_of_ble_eq_true rfl) wd_376 (fun _ _ _ => rfl) kt_0_0 k_a0 rfl (fun b1 k2 => ?_)
    refine mm_ca (q := 18) (mt_X4_add G b1 h k2) rfl kr_5 (mm_runV (as := []) (st := []) cl_3 lk_X0_send_X4_add_321 rfl dX0_send_15 rfl (Nat.le_of_ble_eq_true rfl) k2) rfl (fun h3 p4 => ?_) (fun b5 h3 p4 k6 => ?_)
    · have k7 : mm_kd h3 a0 = 0 := mm_kd_app p4 k_a0 (by decide)
      have k8 : mm_kd h3 a2 = 5 := mm_kd_app p4 k_a2 (by decide)
      exact oj_X0_send_18 a0 x1 a2 h3 k7 k8
    · have k9 : mm_kd h3 a0 = 0 := mm_kd_app p4 k_a0 (by decide)
      have k10 : mm_kd h3 a2 = 5 := mm_kd_app p4 k_a2 (by decide)
      exact oj_X0_send_18_1 a0 x1 a2 b5 h3 k9 k10 k6
  · refine ok_null (q := 8) dX0_send_7 rfl ?_
    refine ok_goto (q := 18) dX0_send_8 rfl ?_
    exact oj_X0_send_18 a0 x1 a2 h k_a0 k_a2
def bd_X3_putHead (a0 : Nat) (x1 : Int32) (x2 : Int32) (h : mm_H) : mm_O := mm_qv (bd_X6_clear a0 h) (fun h1 =>
  mm_qv (bd_X6_put a0 x1 h1) (fun h4 =>
  mm_qv (bd_X6_putNumber a0 x2 3 h4) (fun h7 =>
  some (none, h7))))
set_option maxHeartbeats 4000000 in
set_option maxRecDepth 100000 in
theorem mt_X3_putHead (G : mm_G) (a0 : Nat) (x1 : Int32) (x2 : Int32) (h : mm_H) (k_a0 : mm_kd h a0 = 5) : mm_Met G my_X3_putHead [.ref a0, .int x1, .int x2] h (bd_X3_putHead a0 x1 x2 h) := by
  refine mm_met (ls := [.ref a0, .int x1, .int x2]) pn_RX3 (Nat.le_of_ble_eq_true rfl) rfl ?_
  unfold bd_X3_putHead
  refine ok_aload_n (q := 1) dX3_putHead_0 rfl rfl ?_
  refine mm_cv (q := 4) (mt_X6_clear G a0 h k_a0) (mm_runV (as := []) (st := []) cl_5 lk_X3_putHead_X6_clear_11 rfl dX3_putHead_1 rfl (Nat.le_of_ble_eq_true rfl) k_a0) rfl (fun h1 p2 => ?_)
  have k3 : mm_kd h1 a0 = 5 := mm_kd_app p2 k_a0 (by decide)
  refine ok_aload_n (q := 5) dX3_putHead_4 rfl rfl ?_
  refine ok_iload_n (q := 6) dX3_putHead_5 rfl rfl ?_
  refine mm_cv (q := 9) (mt_X6_put G a0 x1 h1 k3) (mm_runV (as := [.int x1]) (st := []) cl_5 lk_X3_putHead_X6_put_16 rfl dX3_putHead_6 rfl (Nat.le_of_ble_eq_true rfl) k3) rfl (fun h4 p5 => ?_)
  have k6 : mm_kd h4 a0 = 5 := mm_kd_app p5 k3 (by decide)
  refine ok_aload_n (q := 10) dX3_putHead_9 rfl rfl ?_
  refine ok_iload_n (q := 11) dX3_putHead_10 rfl rfl ?_
  refine ok_iconst (q := 12) (v := 3) dX3_putHead_11 ci_3 rfl ?_
  refine mm_cv (q := 15) (mt_X6_putNumber G a0 x2 3 h4 k6) (mm_runV (as := [.int x2, .int 3]) (st := []) cl_5 lk_X3_putHead_X6_putNumber_20 rfl dX3_putHead_12 rfl (Nat.le_of_ble_eq_true rfl) k6) rfl (fun h7 p8 => ?_)
  have k9 : mm_kd h7 a0 = 5 := mm_kd_app p8 k6 (by decide)
  exact ok_ret dX3_putHead_15 rfl
def lp_X6_putAll_2  : Nat → Nat → Nat → Int32 → mm_H → mm_O
  | 0, _, _, _, _ => none
  | n + 1, a0, a1, x2, h => if (nI (mm_ln h a1)) ≤ x2 then
  (some (none, h))
  else
  (if mm_in x2 (mm_ln h a1) = true then (mm_qv (bd_X6_put a0 (mm_i h a1 (mm_n x2)) h) (fun h2 =>
  lp_X6_putAll_2 n a0 a1 (x2 + 1) h2)) else none)
set_option maxHeartbeats 4000000 in
set_option maxRecDepth 100000 in
theorem ol_X6_putAll_2 {G : mm_G}   : ∀ (n : Nat) (a0 : Nat) (a1 : Nat) (x2 : Int32) (h : mm_H), mm_kd h a0 = 5 → mm_kd h a1 = 20 → mm_Ok G my_X6_putAll 2 [.ref a0, .ref a1, .int x2] [] h (lp_X6_putAll_2 n a0 a1 x2 h) := by
  intro n
  induction n with
  | zero => intro a0 a1 x2 h k_a0 k_a1; exact mm_no
  | succ n ih =>
    intro a0 a1 x2 h k_a0 k_a1
    rw [lp_X6_putAll_2]
    refine ok_iload_n (q := 3) dX6_putAll_2 rfl rfl ?_
    refine ok_aload_n (q := 4) dX6_putAll_3 rfl rfl ?_
    refine ok_alen (q := 5) dX6_putAll_4 (by rw [k_a1]; decide) rfl ?_
    refine ok_icmp_ge (q := 8) (t := 21) dX6_putAll_5 rfl rfl ?_ ?_
    · exact ok_ret dX6_putAll_21 rfl
    · refine ok_aload_n (q := 9) dX6_putAll_8 rfl rfl ?_
      refine ok_aload_n (q := 10) dX6_putAll_9 rfl rfl ?_
      refine ok_iload_n (q := 11) dX6_putAll_10 rfl rfl ?_
      refine mm_ck (fun c1 => ?_)
      refine ok_iald (q := 12) dX6_putAll_11 k_a1 c1 rfl ?_
      refine mm_cv (q := 15) (mt_X6_put G a0 (mm_i h a1 (mm_n x2)) h k_a0) (mm_runV (as := [.int (mm_i h a1 (mm_n x2))]) (st := []) cl_5 lk_X6_putAll_X6_put_25 rfl dX6_putAll_12 rfl (Nat.le_of_ble_eq_true rfl) k_a0) rfl (fun h2 p3 => ?_)
      have k4 : mm_kd h2 a0 = 5 := mm_kd_app p3 k_a0 (by decide)
      have k5 : mm_kd h2 a1 = 20 := mm_kd_app p3 k_a1 (by decide)
      refine ok_iinc (q := 18) (v := x2 + 1) (ls' := [.ref a0, .ref a1, .int (x2 + 1)]) dX6_putAll_15 rfl (congrArg (x2 + ·) ci_1) (Nat.le_of_ble_eq_true rfl) rfl rfl ?_
      refine ok_goto (q := 2) dX6_putAll_18 rfl ?_
      exact ih a0 a1 (x2 + 1) h2 k4 k5
def bd_X6_putAll (a0 : Nat) (a1 : Nat) (h : mm_H) : mm_O := lp_X6_putAll_2  mm_fu a0 a1 0 h
set_option maxHeartbeats 4000000 in
set_option maxRecDepth 100000 in
theorem mt_X6_putAll (G : mm_G) (a0 : Nat) (a1 : Nat) (h : mm_H) (k_a0 : mm_kd h a0 = 5) (k_a1 : mm_kd h a1 = 20) : mm_Met G my_X6_putAll [.ref a0, .ref a1] h (bd_X6_putAll a0 a1 h) := by
  refine mm_met (ls := [.ref a0, .ref a1, mm_U]) pn_RX6 (Nat.le_of_ble_eq_true rfl) rfl ?_
  unfold bd_X6_putAll
  refine ok_iconst (q := 1) (v := 0) dX6_putAll_0 ci_0 rfl ?_
  refine ok_istore_n (q := 2) (ls' := [.ref a0, .ref a1, .int 0]) dX6_putAll_1 (Nat.le_of_ble_eq_true rfl) rfl rfl ?_
  refine ol_X6_putAll_2  mm_fu a0 a1 0 h k_a0 k_a1
def bd_X3_putClientHello (a0 : Nat) (a1 : Nat) (a2 : Nat) (h : mm_H) : mm_O := mm_bi (mm_i h a2 1) (fun v1 =>
  mm_qv (bd_X3_putHead a0 1 ((103 : Int32) + v1) h) (fun h2 =>
  mm_qv (bd_X6_put a0 3 h2) (fun h7 =>
  mm_qv (bd_X6_put a0 3 h7) (fun h12 =>
  mm_qv (bd_X6_append a0 a1 h12) (fun h17 =>
  mm_qv (bd_X6_putAll a0 7 h17) (fun h23 =>
  mm_qv (bd_X6_putNumber a0 ((60 : Int32) + v1) 2 h23) (fun h28 =>
  mm_qv (bd_X6_putAll a0 8 h28) (fun h34 =>
  mm_qv (bd_X6_putNumber a0 ((43 : Int32) + v1) 2 h34) (fun h39 =>
  mm_qv (bd_X6_putNumber a0 ((6 : Int32) + v1) 2 h39) (fun h44 =>
  mm_qv (bd_X6_putNumber a0 v1 2 h44) (fun h49 =>
  mm_qv (bd_X6_append a0 a2 h49) (fun h54 =>
  mm_qv (bd_X6_putNumber a0 0 4 h54) (fun h59 =>
  some (none, h59))))))))))))))
set_option maxHeartbeats 4000000 in
set_option maxRecDepth 100000 in
theorem mt_X3_putClientHello (G : mm_G) (a0 : Nat) (a1 : Nat) (a2 : Nat) (h : mm_H) (k_a0 : mm_kd h a0 = 5) (k_a1 : mm_kd h a1 = 5) (k_a2 : mm_kd h a2 = 5) : mm_Met G my_X3_putClientHello [.ref a0, .ref a1, .ref a2] h (bd_X3_putClientHello a0 a1 a2 h) := by
  refine mm_met (ls := [.ref a0, .ref a1, .ref a2, mm_U]) pn_RX3 (Nat.le_of_ble_eq_true rfl) rfl ?_
  unfold bd_X3_putClientHello
  refine ok_aload_n (q := 1) dX3_putClientHello_0 rfl rfl ?_
  refine ok_getI cl_5 (q := 4) (k := 1) dX3_putClientHello_1 (Nat.le_of_ble_eq_true rfl) wd_129 (fun _ _ _ => rfl) k_a2 rfl ?_
  refine bi_ok (fun v1 => ?_)
  refine ok_istore_n (q := 5) (ls' := [.ref a0, .ref a1, .ref a2, .int v1]) dX3_putClientHello_4 (Nat.le_of_ble_eq_true rfl) rfl rfl ?_
  refine ok_aload_n (q := 6) dX3_putClientHello_5 rfl rfl ?_
  refine ok_iconst (q := 7) (v := 1) dX3_putClientHello_6 ci_1 rfl ?_
  refine ok_bipush (q := 9) (v := 103) dX3_putClientHello_7 cb_103 rfl ?_
  refine ok_iload_n (q := 10) dX3_putClientHello_9 rfl rfl ?_
  refine ok_iadd (q := 11) dX3_putClientHello_10 rfl ?_
  refine mm_cv (q := 14) (mt_X3_putHead G a0 1 ((103 : Int32) + v1) h k_a0) (mm_runS (as := [.ref a0, .int 1, .int ((103 : Int32) + v1)]) (st := []) lk_X3_putClientHello_X3_putHead_28 dX3_putClientHello_11 rfl (Nat.le_of_ble_eq_true rfl)) rfl (fun h2 p3 => ?_)
  have k4 : mm_kd h2 a0 = 5 := mm_kd_app p3 k_a0 (by decide)
  have k5 : mm_kd h2 a1 = 5 := mm_kd_app p3 k_a1 (by decide)
  have k6 : mm_kd h2 a2 = 5 := mm_kd_app p3 k_a2 (by decide)
  refine ok_aload_n (q := 15) dX3_putClientHello_14 rfl rfl ?_
  refine ok_iconst (q := 16) (v := 3) dX3_putClientHello_15 ci_3 rfl ?_
  refine mm_cv (q := 19) (mt_X6_put G a0 3 h2 k4) (mm_runV (as := [.int 3]) (st := []) cl_5 lk_X3_putClientHello_X6_put_16 rfl dX3_putClientHello_16 rfl (Nat.le_of_ble_eq_true rfl) k4) rfl (fun h7 p8 => ?_)
  have k9 : mm_kd h7 a0 = 5 := mm_kd_app p8 k4 (by decide)
  have k10 : mm_kd h7 a1 = 5 := mm_kd_app p8 k5 (by decide)
  have k11 : mm_kd h7 a2 = 5 := mm_kd_app p8 k6 (by decide)
  refine ok_aload_n (q := 20) dX3_putClientHello_19 rfl rfl ?_
  refine ok_iconst (q := 21) (v := 3) dX3_putClientHello_20 ci_3 rfl ?_
  refine mm_cv (q := 24) (mt_X6_put G a0 3 h7 k9) (mm_runV (as := [.int 3]) (st := []) cl_5 lk_X3_putClientHello_X6_put_16 rfl dX3_putClientHello_21 rfl (Nat.le_of_ble_eq_true rfl) k9) rfl (fun h12 p13 => ?_)
  have k14 : mm_kd h12 a0 = 5 := mm_kd_app p13 k9 (by decide)
  have k15 : mm_kd h12 a1 = 5 := mm_kd_app p13 k10 (by decide)
  have k16 : mm_kd h12 a2 = 5 := mm_kd_app p13 k11 (by decide)
  refine ok_aload_n (q := 25) dX3_putClientHello_24 rfl rfl ?_
  refine ok_aload_n (q := 26) dX3_putClientHello_25 rfl rfl ?_
  refine mm_cv (q := 29) (mt_X6_append G a0 a1 h12 k14 k15) (mm_runV (as := [.ref a1]) (st := []) cl_5 lk_X3_putClientHello_X6_append_32 rfl dX3_putClientHello_26 rfl (Nat.le_of_ble_eq_true rfl) k14) rfl (fun h17 p18 => ?_)
  have k19 : mm_kd h17 a0 = 5 := mm_kd_app p18 k14 (by decide)
  have k20 : mm_kd h17 a1 = 5 := mm_kd_app p18 k15 (by decide)
  have k21 : mm_kd h17 a2 = 5 := mm_kd_app p18 k16 (by decide)
  refine ok_aload_n (q := 30) dX3_putClientHello_29 rfl rfl ?_
  refine ok_gets (q := 33) (a := 7) (by decide +kernel) dX3_putClientHello_30 wd_618 (by decide) rfl (fun k22 => ?_)
  refine mm_cv (q := 36) (mt_X6_putAll G a0 7 h17 k19 k22) (mm_runV (as := [.ref 7]) (st := []) cl_5 lk_X3_putClientHello_X6_putAll_40 rfl dX3_putClientHello_33 rfl (Nat.le_of_ble_eq_true rfl) k19) rfl (fun h23 p24 => ?_)
  have k25 : mm_kd h23 a0 = 5 := mm_kd_app p24 k19 (by decide)
  have k26 : mm_kd h23 a1 = 5 := mm_kd_app p24 k20 (by decide)
  have k27 : mm_kd h23 a2 = 5 := mm_kd_app p24 k21 (by decide)
  refine ok_aload_n (q := 37) dX3_putClientHello_36 rfl rfl ?_
  refine ok_bipush (q := 39) (v := 60) dX3_putClientHello_37 cb_60 rfl ?_
  refine ok_iload_n (q := 40) dX3_putClientHello_39 rfl rfl ?_
  refine ok_iadd (q := 41) dX3_putClientHello_40 rfl ?_
  refine ok_iconst (q := 42) (v := 2) dX3_putClientHello_41 ci_2 rfl ?_
  refine mm_cv (q := 45) (mt_X6_putNumber G a0 ((60 : Int32) + v1) 2 h23 k25) (mm_runV (as := [.int ((60 : Int32) + v1), .int 2]) (st := []) cl_5 lk_X3_putClientHello_X6_putNumber_20 rfl dX3_putClientHello_42 rfl (Nat.le_of_ble_eq_true rfl) k25) rfl (fun h28 p29 => ?_)
  have k30 : mm_kd h28 a0 = 5 := mm_kd_app p29 k25 (by decide)
  have k31 : mm_kd h28 a1 = 5 := mm_kd_app p29 k26 (by decide)
  have k32 : mm_kd h28 a2 = 5 := mm_kd_app p29 k27 (by decide)
  refine ok_aload_n (q := 46) dX3_putClientHello_45 rfl rfl ?_
  refine ok_gets (q := 49) (a := 8) (by decide +kernel) dX3_putClientHello_46 wd_624 (by decide) rfl (fun k33 => ?_)
  refine mm_cv (q := 52) (mt_X6_putAll G a0 8 h28 k30 k33) (mm_runV (as := [.ref 8]) (st := []) cl_5 lk_X3_putClientHello_X6_putAll_40 rfl dX3_putClientHello_49 rfl (Nat.le_of_ble_eq_true rfl) k30) rfl (fun h34 p35 => ?_)
  have k36 : mm_kd h34 a0 = 5 := mm_kd_app p35 k30 (by decide)
  have k37 : mm_kd h34 a1 = 5 := mm_kd_app p35 k31 (by decide)
  have k38 : mm_kd h34 a2 = 5 := mm_kd_app p35 k32 (by decide)
  refine ok_aload_n (q := 53) dX3_putClientHello_52 rfl rfl ?_
  refine ok_bipush (q := 55) (v := 43) dX3_putClientHello_53 cb_43 rfl ?_
  refine ok_iload_n (q := 56) dX3_putClientHello_55 rfl rfl ?_
  refine ok_iadd (q := 57) dX3_putClientHello_56 rfl ?_
  refine ok_iconst (q := 58) (v := 2) dX3_putClientHello_57 ci_2 rfl ?_
  refine mm_cv (q := 61) (mt_X6_putNumber G a0 ((43 : Int32) + v1) 2 h34 k36) (mm_runV (as := [.int ((43 : Int32) + v1), .int 2]) (st := []) cl_5 lk_X3_putClientHello_X6_putNumber_20 rfl dX3_putClientHello_58 rfl (Nat.le_of_ble_eq_true rfl) k36) rfl (fun h39 p40 => ?_)
  have k41 : mm_kd h39 a0 = 5 := mm_kd_app p40 k36 (by decide)
  have k42 : mm_kd h39 a1 = 5 := mm_kd_app p40 k37 (by decide)
  have k43 : mm_kd h39 a2 = 5 := mm_kd_app p40 k38 (by decide)
  refine ok_aload_n (q := 62) dX3_putClientHello_61 rfl rfl ?_
  refine ok_bipush (q := 64) (v := 6) dX3_putClientHello_62 cb_6 rfl ?_
  refine ok_iload_n (q := 65) dX3_putClientHello_64 rfl rfl ?_
  refine ok_iadd (q := 66) dX3_putClientHello_65 rfl ?_
  refine ok_iconst (q := 67) (v := 2) dX3_putClientHello_66 ci_2 rfl ?_
  refine mm_cv (q := 70) (mt_X6_putNumber G a0 ((6 : Int32) + v1) 2 h39 k41) (mm_runV (as := [.int ((6 : Int32) + v1), .int 2]) (st := []) cl_5 lk_X3_putClientHello_X6_putNumber_20 rfl dX3_putClientHello_67 rfl (Nat.le_of_ble_eq_true rfl) k41) rfl (fun h44 p45 => ?_)
  have k46 : mm_kd h44 a0 = 5 := mm_kd_app p45 k41 (by decide)
  have k47 : mm_kd h44 a1 = 5 := mm_kd_app p45 k42 (by decide)
  have k48 : mm_kd h44 a2 = 5 := mm_kd_app p45 k43 (by decide)
  refine ok_aload_n (q := 71) dX3_putClientHello_70 rfl rfl ?_
  refine ok_iload_n (q := 72) dX3_putClientHello_71 rfl rfl ?_
  refine ok_iconst (q := 73) (v := 2) dX3_putClientHello_72 ci_2 rfl ?_
  refine mm_cv (q := 76) (mt_X6_putNumber G a0 v1 2 h44 k46) (mm_runV (as := [.int v1, .int 2]) (st := []) cl_5 lk_X3_putClientHello_X6_putNumber_20 rfl dX3_putClientHello_73 rfl (Nat.le_of_ble_eq_true rfl) k46) rfl (fun h49 p50 => ?_)
  have k51 : mm_kd h49 a0 = 5 := mm_kd_app p50 k46 (by decide)
  have k52 : mm_kd h49 a1 = 5 := mm_kd_app p50 k47 (by decide)
  have k53 : mm_kd h49 a2 = 5 := mm_kd_app p50 k48 (by decide)
  refine ok_aload_n (q := 77) dX3_putClientHello_76 rfl rfl ?_
  refine ok_aload_n (q := 78) dX3_putClientHello_77 rfl rfl ?_
  refine mm_cv (q := 81) (mt_X6_append G a0 a2 h49 k51 k53) (mm_runV (as := [.ref a2]) (st := []) cl_5 lk_X3_putClientHello_X6_append_32 rfl dX3_putClientHello_78 rfl (Nat.le_of_ble_eq_true rfl) k51) rfl (fun h54 p55 => ?_)
  have k56 : mm_kd h54 a0 = 5 := mm_kd_app p55 k51 (by decide)
  have k57 : mm_kd h54 a1 = 5 := mm_kd_app p55 k52 (by decide)
  have k58 : mm_kd h54 a2 = 5 := mm_kd_app p55 k53 (by decide)
  refine ok_aload_n (q := 82) dX3_putClientHello_81 rfl rfl ?_
  refine ok_iconst (q := 83) (v := 0) dX3_putClientHello_82 ci_0 rfl ?_
  refine ok_iconst (q := 84) (v := 4) dX3_putClientHello_83 ci_4 rfl ?_
  refine mm_cv (q := 87) (mt_X6_putNumber G a0 0 4 h54 k56) (mm_runV (as := [.int 0, .int 4]) (st := []) cl_5 lk_X3_putClientHello_X6_putNumber_20 rfl dX3_putClientHello_84 rfl (Nat.le_of_ble_eq_true rfl) k56) rfl (fun h59 p60 => ?_)
  have k61 : mm_kd h59 a0 = 5 := mm_kd_app p60 k56 (by decide)
  have k62 : mm_kd h59 a1 = 5 := mm_kd_app p60 k57 (by decide)
  have k63 : mm_kd h59 a2 = 5 := mm_kd_app p60 k58 (by decide)
  exact ok_ret dX3_putClientHello_87 rfl
def bd_J0_coder_7d493 (a0 : Nat) (h : mm_H) : mm_O := if (1 : Int32) = 0 then
  (some (some (.int 1), h))
  else
  (if a0 < 32 then (some (some (.int 0), h)) else none)
set_option maxHeartbeats 4000000 in
set_option maxRecDepth 100000 in
theorem mt_J0_coder_7d493 (G : mm_G) (a0 : Nat) (h : mm_H) (k_a0 : mm_kd h a0 = 26) : mm_Met G my_J0_coder_7d493 [.ref a0] h (bd_J0_coder_7d493 a0 h) := by
  refine mm_met (ls := [.ref a0]) pn_RJ0 (Nat.le_of_ble_eq_true rfl) rfl ?_
  unfold bd_J0_coder_7d493
  refine ok_getsC (q := 3) dJ0_coder_7d493_0 wd_556 rfl ?_
  refine ok_if_eq (q := 6) (t := 13) dJ0_coder_7d493_3 rfl rfl ?_ ?_
  · refine ok_iconst (q := 14) (v := 1) dJ0_coder_7d493_13 ci_1 rfl ?_
    exact ok_iret (t := .byte) dJ0_coder_7d493_14 rfl (by decide)
  · refine ok_aload_n (q := 7) dJ0_coder_7d493_6 rfl rfl ?_
    refine mm_ck (fun c1 => ?_)
    refine ok_getSc (q := 10) dJ0_coder_7d493_7 wd_1567 k_a0 c1 rfl ?_
    refine ok_goto (q := 14) dJ0_coder_7d493_10 rfl ?_
    exact ok_iret (t := .byte) dJ0_coder_7d493_14 rfl (by decide)
def bd_J0_length_8abf5 (a0 : Nat) (h : mm_H) : mm_O := if a0 < 32 then (if a0 < 32 then (mm_qi (bd_J0_coder_7d493 a0 h) (fun v6 h4 =>
  some (some (.int (mm_shr (nI (mm_ln h ((a0 + 11)))) v6)), h4))) else none) else none
set_option maxHeartbeats 4000000 in
set_option maxRecDepth 100000 in
theorem mt_J0_length_8abf5 (G : mm_G) (a0 : Nat) (h : mm_H) (k_a0 : mm_kd h a0 = 26) : mm_Met G my_J0_length_8abf5 [.ref a0] h (bd_J0_length_8abf5 a0 h) := by
  refine mm_met (ls := [.ref a0]) pn_RJ0 (Nat.le_of_ble_eq_true rfl) rfl ?_
  unfold bd_J0_length_8abf5
  refine ok_aload_n (q := 1) dJ0_length_8abf5_0 rfl rfl ?_
  refine mm_ck (fun c1 => ?_)
  refine ok_getSv (q := 4) dJ0_length_8abf5_1 wd_1566 k_a0 c1 rfl (fun k2 => ?_)
  refine ok_alen (q := 5) dJ0_length_8abf5_4 (by rw [k2]; decide) rfl ?_
  refine ok_aload_n (q := 6) dJ0_length_8abf5_5 rfl rfl ?_
  refine mm_ck (fun c3 => ?_)
  refine mm_ci (q := 9) (mt_J0_coder_7d493 G a0 h k_a0) (mm_runVS (as := []) (st := [.int (nI (mm_ln h ((a0 + 11))))]) lk_J0_length_8abf5_J0_coder_7d493_335 rfl dJ0_length_8abf5_6 rfl (Nat.le_of_ble_eq_true rfl) k_a0 c3) rfl (fun v6 h4 p5 => ?_)
  have k7 : mm_kd h4 a0 = 26 := mm_kd_app p5 k_a0 (by decide)
  refine ok_ishr (q := 10) dJ0_length_8abf5_9 rfl ?_
  exact ok_iret (t := .int) dJ0_length_8abf5_10 rfl rfl
def jn_X1_putKey_37 (kb : Nat → Nat → Int32 → Int32 → mm_H → mm_O) (a0 : Nat) (a1 : Nat) (x2 : Int32) (x3 : Int32) (s0 : Int32) (s1 : Nat) (h : mm_H) : mm_O := mm_qv (bd_X6_put s1 (s0 ^^^ x2) h) (fun h9 =>
  kb a0 a1 x2 (x3 + 1) h9)
set_option maxHeartbeats 4000000 in
set_option maxRecDepth 100000 in
theorem oj_X1_putKey_37 {G : mm_G} {kb : Nat → Nat → Int32 → Int32 → mm_H → mm_O} (hkb : ∀ (a0 : Nat) (a1 : Nat) (x2 : Int32) (x3 : Int32) (h : mm_H), mm_kd h a0 = 1 → mm_kd h a1 = 5 → mm_Ok G my_X1_putKey 9 [.ref a0, .ref a1, .int x2, .int x3] [] h (kb a0 a1 x2 x3 h)) (a0 : Nat) (a1 : Nat) (x2 : Int32) (x3 : Int32) (s0 : Int32) (s1 : Nat) (h : mm_H) (k_a0 : mm_kd h a0 = 1) (k_a1 : mm_kd h a1 = 5) (k_s1 : mm_kd h s1 = 5) : mm_Ok G my_X1_putKey 37 [.ref a0, .ref a1, .int x2, .int x3] [.int s0, .ref s1] h (jn_X1_putKey_37 kb a0 a1 x2 x3 s0 s1 h) := by
  unfold jn_X1_putKey_37
  refine ok_iload_n (q := 38) dX1_putKey_37 rfl rfl ?_
  refine ok_ixor (q := 39) dX1_putKey_38 rfl ?_
  refine mm_cv (q := 42) (mt_X6_put G s1 (s0 ^^^ x2) h k_s1) (mm_runV (as := [.int (s0 ^^^ x2)]) (st := []) cl_5 lk_X1_putKey_X6_put_64 rfl dX1_putKey_39 rfl (Nat.le_of_ble_eq_true rfl) k_s1) rfl (fun h9 p10 => ?_)
  have k11 : mm_kd h9 a0 = 1 := mm_kd_app p10 k_a0 (by decide)
  have k12 : mm_kd h9 a1 = 5 := mm_kd_app p10 k_a1 (by decide)
  refine ok_iinc (q := 45) (v := x3 + 1) (ls' := [.ref a0, .ref a1, .int x2, .int (x3 + 1)]) dX1_putKey_42 rfl (congrArg (x3 + ·) ci_1) (Nat.le_of_ble_eq_true rfl) rfl rfl ?_
  refine ok_goto (q := 9) dX1_putKey_45 rfl ?_
  exact hkb a0 a1 x2 (x3 + 1) h9 k11 k12
def lp_X1_putKey_9  : Nat → Nat → Nat → Int32 → Int32 → mm_H → mm_O
  | 0, _, _, _, _, _ => none
  | n + 1, a0, a1, x2, x3, h => if (64 : Int32) ≤ x3 then
  (some (none, h))
  else
  (mm_gr h a0 3 (fun b7 =>
  if (mm_i h a1 1) ≤ x3 then
  (jn_X1_putKey_37 (lp_X1_putKey_9 n) a0 a1 x2 x3 0 b7 h)
  else
  (mm_gr h a1 0 (fun b13 =>
  if mm_in x3 (mm_ln h b13) = true then (jn_X1_putKey_37 (lp_X1_putKey_9 n) a0 a1 x2 x3 (mm_i h b13 (mm_n x3)) b7 h) else none))))
set_option maxHeartbeats 4000000 in
set_option maxRecDepth 100000 in
theorem ol_X1_putKey_9 {G : mm_G}   : ∀ (n : Nat) (a0 : Nat) (a1 : Nat) (x2 : Int32) (x3 : Int32) (h : mm_H), mm_kd h a0 = 1 → mm_kd h a1 = 5 → mm_Ok G my_X1_putKey 9 [.ref a0, .ref a1, .int x2, .int x3] [] h (lp_X1_putKey_9 n a0 a1 x2 x3 h) := by
  intro n
  induction n with
  | zero => intro a0 a1 x2 x3 h k_a0 k_a1; exact mm_no
  | succ n ih =>
    intro a0 a1 x2 x3 h k_a0 k_a1
    rw [lp_X1_putKey_9]
    refine ok_iload_n (q := 10) dX1_putKey_9 rfl rfl ?_
    refine ok_bipush (q := 12) (v := 64) dX1_putKey_10 cb_64 rfl ?_
    refine ok_icmp_ge (q := 15) (t := 48) dX1_putKey_12 rfl rfl ?_ ?_
    · exact ok_ret dX1_putKey_48 rfl
    · refine ok_aload_n (q := 16) dX1_putKey_15 rfl rfl ?_
      refine ok_getR cl_1 (q := 19) (k := 3) dX1_putKey_16 (Nat.le_of_ble_eq_true rfl) wd_175 (fun _ _ _ => rfl) kt_1_3 k_a0 rfl (fun b7 k8 => ?_)
      refine ok_iload_n (q := 20) dX1_putKey_19 rfl rfl ?_
      refine ok_aload_n (q := 21) dX1_putKey_20 rfl rfl ?_
      refine ok_getI cl_5 (q := 24) (k := 1) dX1_putKey_21 (Nat.le_of_ble_eq_true rfl) wd_123 (fun _ _ _ => rfl) k_a1 rfl ?_
      refine ok_icmp_ge (q := 27) (t := 36) dX1_putKey_24 rfl rfl ?_ ?_
      · refine ok_iconst (q := 37) (v := 0) dX1_putKey_36 ci_0 rfl ?_
        exact oj_X1_putKey_37 ih a0 a1 x2 x3 0 b7 h k_a0 k_a1 k8
      · refine ok_aload_n (q := 28) dX1_putKey_27 rfl rfl ?_
        refine ok_getR cl_5 (q := 31) (k := 0) dX1_putKey_28 (Nat.le_of_ble_eq_true rfl) wd_119 (fun _ _ _ => rfl) kt_5_0 k_a1 rfl (fun b13 k14 => ?_)
        refine ok_iload_n (q := 32) dX1_putKey_31 rfl rfl ?_
        refine mm_ck (fun c15 => ?_)
        refine ok_iald (q := 33) dX1_putKey_32 k14 c15 rfl ?_
        refine ok_goto (q := 37) dX1_putKey_33 rfl ?_
        exact oj_X1_putKey_37 ih a0 a1 x2 x3 (mm_i h b13 (mm_n x3)) b7 h k_a0 k_a1 k8
def bd_X1_putKey (a0 : Nat) (a1 : Nat) (x2 : Int32) (h : mm_H) : mm_O := mm_gr h a0 3 (fun b1 =>
  mm_qv (bd_X6_clear b1 h) (fun h3 =>
  lp_X1_putKey_9  mm_fu a0 a1 x2 0 h3))
set_option maxHeartbeats 4000000 in
set_option maxRecDepth 100000 in
theorem mt_X1_putKey (G : mm_G) (a0 : Nat) (a1 : Nat) (x2 : Int32) (h : mm_H) (k_a0 : mm_kd h a0 = 1) (k_a1 : mm_kd h a1 = 5) : mm_Met G my_X1_putKey [.ref a0, .ref a1, .int x2] h (bd_X1_putKey a0 a1 x2 h) := by
  refine mm_met (ls := [.ref a0, .ref a1, .int x2, mm_U]) pn_RX1 (Nat.le_of_ble_eq_true rfl) rfl ?_
  unfold bd_X1_putKey
  refine ok_aload_n (q := 1) dX1_putKey_0 rfl rfl ?_
  refine ok_getR cl_1 (q := 4) (k := 3) dX1_putKey_1 (Nat.le_of_ble_eq_true rfl) wd_175 (fun _ _ _ => rfl) kt_1_3 k_a0 rfl (fun b1 k2 => ?_)
  refine mm_cv (q := 7) (mt_X6_clear G b1 h k2) (mm_runV (as := []) (st := []) cl_5 lk_X1_putKey_X6_clear_57 rfl dX1_putKey_4 rfl (Nat.le_of_ble_eq_true rfl) k2) rfl (fun h3 p4 => ?_)
  have k5 : mm_kd h3 a0 = 1 := mm_kd_app p4 k_a0 (by decide)
  have k6 : mm_kd h3 a1 = 5 := mm_kd_app p4 k_a1 (by decide)
  refine ok_iconst (q := 8) (v := 0) dX1_putKey_7 ci_0 rfl ?_
  refine ok_istore_n (q := 9) (ls' := [.ref a0, .ref a1, .int x2, .int 0]) dX1_putKey_8 (Nat.le_of_ble_eq_true rfl) rfl rfl ?_
  refine ol_X1_putKey_9  mm_fu a0 a1 x2 0 h3 k5 k6
