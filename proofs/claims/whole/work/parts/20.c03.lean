def lp_X8_mix_25 (ke_84 : Nat → Nat → Int32 → Int32 → mm_H → mm_O) : Nat → Nat → Nat → Int32 → Int32 → Int32 → mm_H → mm_O
  | 0, _, _, _, _, _, _ => none
  | n + 1, a0, a1, x3, x4, x5, h => if (64 : Int32) ≤ x5 then
  (ke_84 a0 a1 x3 x4 h)
  else
  (if (mm_i h a1 1) ≤ (x4 + x5) then
  (ke_84 a0 a1 x3 x4 h)
  else
  (mm_gr h a1 0 (fun b5 =>
  if mm_in (x4 + x5) (mm_ln h b5) = true then (mm_gr h a0 2 (fun b8 =>
  if mm_in (x5 / (4 : Int32)) (mm_ln h b8) = true then (if 32 ≤ b5 ∧ mm_in (x4 + x5) (mm_ln h b5) = true then (mm_bh (mm_si h b5 (mm_n (x4 + x5)) ((mm_i h b5 (mm_n (x4 + x5))) ^^^ ((mm_ush (mm_i h b8 (mm_n (x5 / (4 : Int32)))) ((8 : Int32) * (mm_rem x5 (4 : Int32)))) &&& (255 : Int32)))) (fun h12 =>
  lp_X8_mix_25 ke_84 n a0 a1 x3 x4 (x5 + 1) h12)) else none) else none)) else none)))
set_option maxHeartbeats 4000000 in
set_option maxRecDepth 100000 in
theorem ol_X8_mix_25 {G : mm_G} {ke_84 : Nat → Nat → Int32 → Int32 → mm_H → mm_O} (hke_84 : ∀ (a0 : Nat) (a1 : Nat) (x3 : Int32) (x4 : Int32) (h : mm_H), mm_kd h a0 = 7 → mm_kd h a1 = 5 → mm_Ok G my_X8_mix 84 [.ref a0, .ref a1, mm_U, .int x3, .int x4, mm_U] [] h (ke_84 a0 a1 x3 x4 h)) : ∀ (n : Nat) (a0 : Nat) (a1 : Nat) (x3 : Int32) (x4 : Int32) (x5 : Int32) (h : mm_H), mm_kd h a0 = 7 → mm_kd h a1 = 5 → mm_Ok G my_X8_mix 25 [.ref a0, .ref a1, mm_U, .int x3, .int x4, .int x5] [] h (lp_X8_mix_25 ke_84 n a0 a1 x3 x4 x5 h) := by
  intro n
  induction n with
  | zero => intro a0 a1 x3 x4 x5 h k_a0 k_a1; exact mm_no
  | succ n ih =>
    intro a0 a1 x3 x4 x5 h k_a0 k_a1
    rw [lp_X8_mix_25]
    refine ok_iload (q := 27) dX8_mix_25 rfl rfl ?_
    refine ok_bipush (q := 29) (v := 64) dX8_mix_27 cb_64 rfl ?_
    refine ok_icmp_ge (q := 32) (t := 84) dX8_mix_29 rfl rfl ?_ ?_
    · refine mm_wk [true, true, false, true, true, false] (ls' := [.ref a0, .ref a1, mm_U, .int x3, .int x4, mm_U]) rfl ?_
      exact hke_84 a0 a1 x3 x4 h k_a0 k_a1
    · refine ok_iload (q := 34) dX8_mix_32 rfl rfl ?_
      refine ok_iload (q := 36) dX8_mix_34 rfl rfl ?_
      refine ok_iadd (q := 37) dX8_mix_36 rfl ?_
      refine ok_aload_n (q := 38) dX8_mix_37 rfl rfl ?_
      refine ok_getI cl_5 (q := 41) (k := 1) dX8_mix_38 (Nat.le_of_ble_eq_true rfl) wd_125 (fun _ _ _ => rfl) k_a1 rfl ?_
      refine ok_icmp_ge (q := 44) (t := 84) dX8_mix_41 rfl rfl ?_ ?_
      · refine mm_wk [true, true, false, true, true, false] (ls' := [.ref a0, .ref a1, mm_U, .int x3, .int x4, mm_U]) rfl ?_
        exact hke_84 a0 a1 x3 x4 h k_a0 k_a1
      · refine ok_aload_n (q := 45) dX8_mix_44 rfl rfl ?_
        refine ok_getR cl_5 (q := 48) (k := 0) dX8_mix_45 (Nat.le_of_ble_eq_true rfl) wd_121 (fun _ _ _ => rfl) kt_5_0 k_a1 rfl (fun b5 k6 => ?_)
        refine ok_iload (q := 50) dX8_mix_48 rfl rfl ?_
        refine ok_iload (q := 52) dX8_mix_50 rfl rfl ?_
        refine ok_iadd (q := 53) dX8_mix_52 rfl ?_
        refine ok_dup2 (q := 54) dX8_mix_53 rfl rfl rfl ?_
        refine mm_ck (fun c7 => ?_)
        refine ok_iald (q := 55) dX8_mix_54 k6 c7 rfl ?_
        refine ok_aload_n (q := 56) dX8_mix_55 rfl rfl ?_
        refine ok_getR cl_7 (q := 59) (k := 2) dX8_mix_56 (Nat.le_of_ble_eq_true rfl) wd_221 (fun _ _ _ => rfl) kt_7_2 k_a0 rfl (fun b8 k9 => ?_)
        refine ok_iload (q := 61) dX8_mix_59 rfl rfl ?_
        refine ok_iconst (q := 62) (v := 4) dX8_mix_61 ci_4 rfl ?_
        refine ok_idiv (q := 63) dX8_mix_62 (by decide) rfl ?_
        refine mm_ck (fun c10 => ?_)
        refine ok_iald (q := 64) dX8_mix_63 k9 c10 rfl ?_
        refine ok_bipush (q := 66) (v := 8) dX8_mix_64 cb_8 rfl ?_
        refine ok_iload (q := 68) dX8_mix_66 rfl rfl ?_
        refine ok_iconst (q := 69) (v := 4) dX8_mix_68 ci_4 rfl ?_
        refine ok_irem (q := 70) dX8_mix_69 (by decide) rfl ?_
        refine ok_imul (q := 71) dX8_mix_70 rfl ?_
        refine ok_iushr (q := 72) dX8_mix_71 rfl ?_
        refine ok_sipush (q := 75) (v := 255) dX8_mix_72 cs_255 rfl ?_
        refine ok_iand (q := 76) dX8_mix_75 rfl ?_
        refine ok_ixor (q := 77) dX8_mix_76 rfl ?_
        refine mm_ck (fun c11 => ?_)
        refine ok_iast (q := 78) dX8_mix_77 k6 c11.1 c11.2 rfl (bh_ok (fun h12 e13 => ?_))
        have e13 : h12.1 = h.1 := e13
        refine ok_iinc (q := 81) (v := x5 + 1) (ls' := [.ref a0, .ref a1, mm_U, .int x3, .int x4, .int (x5 + 1)]) dX8_mix_78 rfl (congrArg (x5 + ·) ci_1) (Nat.le_of_ble_eq_true rfl) rfl rfl ?_
        refine ok_goto (q := 25) dX8_mix_81 rfl ?_
        exact ih a0 a1 x3 x4 (x5 + 1) h12 (mm_ke e13 k_a0) (mm_ke e13 k_a1)
def lp_X8_mix_5  : Nat → Nat → Nat → Int32 → Int32 → mm_H → mm_O
  | 0, _, _, _, _, _ => none
  | n + 1, a0, a1, x3, x4, h => if (mm_i h a1 1) ≤ x4 then
  (some (none, h))
  else
  (mm_qv (bd_X8_turnBlock a0 (x3 + 1) h) (fun h1 =>
  lp_X8_mix_25 (fun b15 b16 v17 v18 h14 => lp_X8_mix_5 n b15 b16 v17 (v18 + 64) h14) mm_fu a0 a1 (x3 + 1) x4 0 h1))
set_option maxHeartbeats 4000000 in
set_option maxRecDepth 100000 in
theorem ol_X8_mix_5 {G : mm_G}   : ∀ (n : Nat) (a0 : Nat) (a1 : Nat) (x3 : Int32) (x4 : Int32) (h : mm_H), mm_kd h a0 = 7 → mm_kd h a1 = 5 → mm_Ok G my_X8_mix 5 [.ref a0, .ref a1, mm_U, .int x3, .int x4, mm_U] [] h (lp_X8_mix_5 n a0 a1 x3 x4 h) := by
  intro n
  induction n with
  | zero => intro a0 a1 x3 x4 h k_a0 k_a1; exact mm_no
  | succ n ih =>
    intro a0 a1 x3 x4 h k_a0 k_a1
    rw [lp_X8_mix_5]
    refine ok_iload (q := 7) dX8_mix_5 rfl rfl ?_
    refine ok_aload_n (q := 8) dX8_mix_7 rfl rfl ?_
    refine ok_getI cl_5 (q := 11) (k := 1) dX8_mix_8 (Nat.le_of_ble_eq_true rfl) wd_125 (fun _ _ _ => rfl) k_a1 rfl ?_
    refine ok_icmp_ge (q := 14) (t := 90) dX8_mix_11 rfl rfl ?_ ?_
    · exact ok_ret dX8_mix_90 rfl
    · refine ok_iinc (q := 17) (v := x3 + 1) (ls' := [.ref a0, .ref a1, mm_U, .int (x3 + 1), .int x4, mm_U]) dX8_mix_14 rfl (congrArg (x3 + ·) ci_1) (Nat.le_of_ble_eq_true rfl) rfl rfl ?_
      refine ok_aload_n (q := 18) dX8_mix_17 rfl rfl ?_
      refine ok_iload_n (q := 19) dX8_mix_18 rfl rfl ?_
      refine mm_cv (q := 22) (mt_X8_turnBlock G a0 (x3 + 1) h k_a0) (mm_runV (as := [.int (x3 + 1)]) (st := []) cl_7 lk_X8_mix_X8_turnBlock_93 rfl dX8_mix_19 rfl (Nat.le_of_ble_eq_true rfl) k_a0) rfl (fun h1 p2 => ?_)
      have k3 : mm_kd h1 a0 = 7 := mm_kd_app p2 k_a0 (by decide)
      have k4 : mm_kd h1 a1 = 5 := mm_kd_app p2 k_a1 (by decide)
      refine ok_iconst (q := 23) (v := 0) dX8_mix_22 ci_0 rfl ?_
      refine ok_istore (q := 25) (ls' := [.ref a0, .ref a1, mm_U, .int (x3 + 1), .int x4, .int 0]) dX8_mix_23 (Nat.le_of_ble_eq_true rfl) rfl rfl ?_
      refine ol_X8_mix_25 (fun b15 b16 v17 v18 h14 k_b15 k_b16 => ?_) mm_fu a0 a1 (x3 + 1) x4 0 h1 k3 k4
      · refine ok_iinc (q := 87) (v := v18 + 64) (ls' := [.ref b15, .ref b16, mm_U, .int v17, .int (v18 + 64), mm_U]) dX8_mix_84 rfl (congrArg (v18 + ·) ci_64) (Nat.le_of_ble_eq_true rfl) rfl rfl ?_
        refine ok_goto (q := 5) dX8_mix_87 rfl ?_
        exact ih b15 b16 v17 (v18 + 64) h14 k_b15 k_b16
def bd_X8_mix (a0 : Nat) (a1 : Nat) (x2 : Int32) (h : mm_H) : mm_O := lp_X8_mix_5  mm_fu a0 a1 0 x2 h
set_option maxHeartbeats 4000000 in
set_option maxRecDepth 100000 in
theorem mt_X8_mix (G : mm_G) (a0 : Nat) (a1 : Nat) (x2 : Int32) (h : mm_H) (k_a0 : mm_kd h a0 = 7) (k_a1 : mm_kd h a1 = 5) : mm_Met G my_X8_mix [.ref a0, .ref a1, .int x2] h (bd_X8_mix a0 a1 x2 h) := by
  refine mm_met (ls := [.ref a0, .ref a1, .int x2, mm_U, mm_U, mm_U]) pn_RX8 (Nat.le_of_ble_eq_true rfl) rfl ?_
  unfold bd_X8_mix
  refine ok_iconst (q := 1) (v := 0) dX8_mix_0 ci_0 rfl ?_
  refine ok_istore_n (q := 2) (ls' := [.ref a0, .ref a1, .int x2, .int 0, mm_U, mm_U]) dX8_mix_1 (Nat.le_of_ble_eq_true rfl) rfl rfl ?_
  refine ok_iload_n (q := 3) dX8_mix_2 rfl rfl ?_
  refine ok_istore (q := 5) (ls' := [.ref a0, .ref a1, .int x2, .int 0, .int x2, mm_U]) dX8_mix_3 (Nat.le_of_ble_eq_true rfl) rfl rfl ?_
  refine mm_wk [true, true, false, true, true, false] (ls' := [.ref a0, .ref a1, mm_U, .int 0, .int x2, mm_U]) rfl ?_
  refine ol_X8_mix_5  mm_fu a0 a1 0 x2 h k_a0 k_a1
def bd_X8_seal (a0 : Nat) (a1 : Nat) (a2 : Nat) (h : mm_H) : mm_O := mm_qv (bd_X8_aim a0 a1 h) (fun h1 =>
  mm_qv (bd_X8_mix a0 a2 5 h1) (fun h6 =>
  mm_qv (bd_X8_gather a0 a2 (mm_i h6 a2 1) h6) (fun h11 =>
  mm_gr h11 a0 0 (fun b16 =>
  mm_gr h11 a0 3 (fun b18 =>
  mm_gr h11 a0 4 (fun b20 =>
  mm_gr h11 a0 5 (fun b22 =>
  mm_qv (bd_X5_tag b16 b18 b20 b22 h11) (fun h24 =>
  mm_gr h24 a0 5 (fun b29 =>
  mm_qv (bd_X6_append a2 b29 h24) (fun h31 =>
  mm_bh (mm_si h31 a1 3 ((mm_i h31 a1 3) + (1 : Int32))) (fun h36 =>
  some (none, h36))))))))))))
set_option maxHeartbeats 4000000 in
set_option maxRecDepth 100000 in
theorem mt_X8_seal (G : mm_G) (a0 : Nat) (a1 : Nat) (a2 : Nat) (h : mm_H) (k_a0 : mm_kd h a0 = 7) (k_a1 : mm_kd h a1 = 2) (k_a2 : mm_kd h a2 = 5) : mm_Met G my_X8_seal [.ref a0, .ref a1, .ref a2] h (bd_X8_seal a0 a1 a2 h) := by
  refine mm_met (ls := [.ref a0, .ref a1, .ref a2]) pn_RX8 (Nat.le_of_ble_eq_true rfl) rfl ?_
  unfold bd_X8_seal
  refine ok_aload_n (q := 1) dX8_seal_0 rfl rfl ?_
  refine ok_aload_n (q := 2) dX8_seal_1 rfl rfl ?_
  refine mm_cv (q := 5) (mt_X8_aim G a0 a1 h k_a0 k_a1) (mm_runV (as := [.ref a1]) (st := []) cl_7 lk_X8_seal_X8_aim_40 rfl dX8_seal_2 rfl (Nat.le_of_ble_eq_true rfl) k_a0) rfl (fun h1 p2 => ?_)
  have k3 : mm_kd h1 a0 = 7 := mm_kd_app p2 k_a0 (by decide)
  have k4 : mm_kd h1 a1 = 2 := mm_kd_app p2 k_a1 (by decide)
  have k5 : mm_kd h1 a2 = 5 := mm_kd_app p2 k_a2 (by decide)
  refine ok_aload_n (q := 6) dX8_seal_5 rfl rfl ?_
  refine ok_aload_n (q := 7) dX8_seal_6 rfl rfl ?_
  refine ok_iconst (q := 8) (v := 5) dX8_seal_7 ci_5 rfl ?_
  refine mm_cv (q := 11) (mt_X8_mix G a0 a2 5 h1 k3 k5) (mm_runV (as := [.ref a2, .int 5]) (st := []) cl_7 lk_X8_seal_X8_mix_46 rfl dX8_seal_8 rfl (Nat.le_of_ble_eq_true rfl) k3) rfl (fun h6 p7 => ?_)
  have k8 : mm_kd h6 a0 = 7 := mm_kd_app p7 k3 (by decide)
  have k9 : mm_kd h6 a1 = 2 := mm_kd_app p7 k4 (by decide)
  have k10 : mm_kd h6 a2 = 5 := mm_kd_app p7 k5 (by decide)
  refine ok_aload_n (q := 12) dX8_seal_11 rfl rfl ?_
  refine ok_aload_n (q := 13) dX8_seal_12 rfl rfl ?_
  refine ok_aload_n (q := 14) dX8_seal_13 rfl rfl ?_
  refine ok_getI cl_5 (q := 17) (k := 1) dX8_seal_14 (Nat.le_of_ble_eq_true rfl) wd_125 (fun _ _ _ => rfl) k10 rfl ?_
  refine mm_cv (q := 20) (mt_X8_gather G a0 a2 (mm_i h6 a2 1) h6 k8 k10) (mm_runV (as := [.ref a2, .int (mm_i h6 a2 1)]) (st := []) cl_7 lk_X8_seal_X8_gather_54 rfl dX8_seal_17 rfl (Nat.le_of_ble_eq_true rfl) k8) rfl (fun h11 p12 => ?_)
  have k13 : mm_kd h11 a0 = 7 := mm_kd_app p12 k8 (by decide)
  have k14 : mm_kd h11 a1 = 2 := mm_kd_app p12 k9 (by decide)
  have k15 : mm_kd h11 a2 = 5 := mm_kd_app p12 k10 (by decide)
  refine ok_aload_n (q := 21) dX8_seal_20 rfl rfl ?_
  refine ok_getR cl_7 (q := 24) (k := 0) dX8_seal_21 (Nat.le_of_ble_eq_true rfl) wd_219 (fun _ _ _ => rfl) kt_7_0 k13 rfl (fun b16 k17 => ?_)
  refine ok_aload_n (q := 25) dX8_seal_24 rfl rfl ?_
  refine ok_getR cl_7 (q := 28) (k := 3) dX8_seal_25 (Nat.le_of_ble_eq_true rfl) wd_222 (fun _ _ _ => rfl) kt_7_3 k13 rfl (fun b18 k19 => ?_)
  refine ok_aload_n (q := 29) dX8_seal_28 rfl rfl ?_
  refine ok_getR cl_7 (q := 32) (k := 4) dX8_seal_29 (Nat.le_of_ble_eq_true rfl) wd_223 (fun _ _ _ => rfl) kt_7_4 k13 rfl (fun b20 k21 => ?_)
  refine ok_aload_n (q := 33) dX8_seal_32 rfl rfl ?_
  refine ok_getR cl_7 (q := 36) (k := 5) dX8_seal_33 (Nat.le_of_ble_eq_true rfl) wd_224 (fun _ _ _ => rfl) kt_7_5 k13 rfl (fun b22 k23 => ?_)
  refine mm_cv (q := 39) (mt_X5_tag G b16 b18 b20 b22 h11 k17 k19 k21 k23) (mm_runV (as := [.ref b18, .ref b20, .ref b22]) (st := []) cl_4 lk_X8_seal_X5_tag_57 rfl dX8_seal_36 rfl (Nat.le_of_ble_eq_true rfl) k17) rfl (fun h24 p25 => ?_)
  have k26 : mm_kd h24 a0 = 7 := mm_kd_app p25 k13 (by decide)
  have k27 : mm_kd h24 a1 = 2 := mm_kd_app p25 k14 (by decide)
  have k28 : mm_kd h24 a2 = 5 := mm_kd_app p25 k15 (by decide)
  refine ok_aload_n (q := 40) dX8_seal_39 rfl rfl ?_
  refine ok_aload_n (q := 41) dX8_seal_40 rfl rfl ?_
  refine ok_getR cl_7 (q := 44) (k := 5) dX8_seal_41 (Nat.le_of_ble_eq_true rfl) wd_224 (fun _ _ _ => rfl) kt_7_5 k26 rfl (fun b29 k30 => ?_)
  refine mm_cv (q := 47) (mt_X6_append G a2 b29 h24 k28 k30) (mm_runV (as := [.ref b29]) (st := []) cl_5 lk_X8_seal_X6_append_60 rfl dX8_seal_44 rfl (Nat.le_of_ble_eq_true rfl) k28) rfl (fun h31 p32 => ?_)
  have k33 : mm_kd h31 a0 = 7 := mm_kd_app p32 k26 (by decide)
  have k34 : mm_kd h31 a1 = 2 := mm_kd_app p32 k27 (by decide)
  have k35 : mm_kd h31 a2 = 5 := mm_kd_app p32 k28 (by decide)
  refine ok_aload_n (q := 48) dX8_seal_47 rfl rfl ?_
  refine ok_dup (q := 49) dX8_seal_48 rfl rfl ?_
  refine ok_getI cl_2 (q := 52) (k := 3) dX8_seal_49 (Nat.le_of_ble_eq_true rfl) wd_330 (fun _ _ _ => rfl) k34 rfl ?_
  refine ok_iconst (q := 53) (v := 1) dX8_seal_52 ci_1 rfl ?_
  refine ok_iadd (q := 54) dX8_seal_53 rfl ?_
  refine ok_putI cl_2 (q := 57) (k := 3) dX8_seal_54 (Nat.le_of_ble_eq_true rfl) wd_330 (Or.inl rfl) (fun _ _ _ => rfl) rfl rfl k34 rfl (bh_ok (fun h36 e37 => ?_))
  have e37 : h36.1 = h31.1 := e37
  exact ok_ret dX8_seal_57 rfl
