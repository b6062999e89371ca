def bd_J0_isLatin1_aae02 (a0 : Nat) (h : mm_H) : mm_O := if (1 : Int32) = 0 then
  (some (some (.int 0), h))
  else
  (if a0 < 32 then (if (0 : Int32) = 0 then
  (some (some (.int 1), h))
  else
  (some (some (.int 0), h))) else none)
set_option maxHeartbeats 4000000 in
set_option maxRecDepth 100000 in
theorem mt_J0_isLatin1_aae02 (G : mm_G) (a0 : Nat) (h : mm_H) (k_a0 : mm_kd h a0 = 26) : mm_Met G my_J0_isLatin1_aae02 [.ref a0] h (bd_J0_isLatin1_aae02 a0 h) := by
  refine mm_met (ls := [.ref a0]) pn_RJ0 (Nat.le_of_ble_eq_true rfl) rfl ?_
  unfold bd_J0_isLatin1_aae02
  refine ok_getsC (q := 3) dJ0_isLatin1_aae02_0 wd_556 rfl ?_
  refine ok_if_eq (q := 6) (t := 17) dJ0_isLatin1_aae02_3 rfl rfl ?_ ?_
  · refine ok_iconst (q := 18) (v := 0) dJ0_isLatin1_aae02_17 ci_0 rfl ?_
    exact ok_iret (t := .boolean) dJ0_isLatin1_aae02_18 rfl (by decide)
  · refine ok_aload_n (q := 7) dJ0_isLatin1_aae02_6 rfl rfl ?_
    refine mm_ck (fun c1 => ?_)
    refine ok_getSc (q := 10) dJ0_isLatin1_aae02_7 wd_1567 k_a0 c1 rfl ?_
    refine ok_if_ne (q := 13) (t := 17) dJ0_isLatin1_aae02_10 rfl rfl ?_ ?_
    · refine ok_iconst (q := 18) (v := 0) dJ0_isLatin1_aae02_17 ci_0 rfl ?_
      exact ok_iret (t := .boolean) dJ0_isLatin1_aae02_18 rfl (by decide)
    · refine ok_iconst (q := 14) (v := 1) dJ0_isLatin1_aae02_13 ci_1 rfl ?_
      refine ok_goto (q := 18) dJ0_isLatin1_aae02_14 rfl ?_
      exact ok_iret (t := .boolean) dJ0_isLatin1_aae02_18 rfl (by decide)
def bd_J1_charAt_3b067 (a0 : Nat) (x1 : Int32) (h : mm_H) : mm_O := mm_qv (bd_J0_checkIndex_df160 x1 (nI (mm_ln h a0)) h) (fun h1 =>
  if mm_in x1 (mm_ln h1 a0) = true then (some (some (.int (mm_c16 ((mm_i h1 a0 (mm_n x1)) &&& (255 : Int32)))), h1)) else none)
set_option maxHeartbeats 4000000 in
set_option maxRecDepth 100000 in
theorem mt_J1_charAt_3b067 (G : mm_G) (a0 : Nat) (x1 : Int32) (h : mm_H) (k_a0 : mm_kd h a0 = 21) : mm_Met G my_J1_charAt_3b067 [.ref a0, .int x1] h (bd_J1_charAt_3b067 a0 x1 h) := by
  refine mm_met (ls := [.ref a0, .int x1]) pn_RJ1 (Nat.le_of_ble_eq_true rfl) rfl ?_
  unfold bd_J1_charAt_3b067
  refine ok_iload_n (q := 1) dJ1_charAt_3b067_0 rfl rfl ?_
  refine ok_aload_n (q := 2) dJ1_charAt_3b067_1 rfl rfl ?_
  refine ok_alen (q := 3) dJ1_charAt_3b067_2 (by rw [k_a0]; decide) rfl ?_
  refine mm_cv (q := 6) (mt_J0_checkIndex_df160 G x1 (nI (mm_ln h a0)) h ) (mm_runS (as := [.int x1, .int (nI (mm_ln h a0))]) (st := []) lk_J1_charAt_3b067_J0_checkIndex_df160_9 dJ1_charAt_3b067_3 rfl (Nat.le_of_ble_eq_true rfl)) rfl (fun h1 p2 => ?_)
  have k3 : mm_kd h1 a0 = 21 := mm_kd_app p2 k_a0 (by decide)
  refine ok_aload_n (q := 7) dJ1_charAt_3b067_6 rfl rfl ?_
  refine ok_iload_n (q := 8) dJ1_charAt_3b067_7 rfl rfl ?_
  refine mm_ck (fun c4 => ?_)
  refine ok_bald (q := 9) dJ1_charAt_3b067_8 k3 c4 rfl ?_
  refine ok_sipush (q := 12) (v := 255) dJ1_charAt_3b067_9 cs_255 rfl ?_
  refine ok_iand (q := 13) dJ1_charAt_3b067_12 rfl ?_
  refine ok_i2c (q := 14) dJ1_charAt_3b067_13 rfl ?_
  exact ok_iret (t := .char) dJ1_charAt_3b067_14 rfl (pk_nc _)
def bd_J0_charAt_5068e (a0 : Nat) (x1 : Int32) (h : mm_H) : mm_O := if a0 < 32 then (mm_qi (bd_J0_isLatin1_aae02 a0 h) (fun v4 h2 =>
  if v4 = 0 then
  (if a0 < 32 then (none) else none)
  else
  (if a0 < 32 then (mm_qi (bd_J1_charAt_3b067 ((a0 + 11)) x1 h2) (fun v12 h10 =>
  if narrow .char (.int v12) = .int v12 then some (some (.int v12), h10) else none)) else none))) else none
set_option maxHeartbeats 4000000 in
set_option maxRecDepth 100000 in
theorem mt_J0_charAt_5068e (G : mm_G) (a0 : Nat) (x1 : Int32) (h : mm_H) (k_a0 : mm_kd h a0 = 26) : mm_Met G my_J0_charAt_5068e [.ref a0, .int x1] h (bd_J0_charAt_5068e a0 x1 h) := by
  refine mm_met (ls := [.ref a0, .int x1]) pn_RJ0 (Nat.le_of_ble_eq_true rfl) rfl ?_
  unfold bd_J0_charAt_5068e
  refine ok_aload_n (q := 1) dJ0_charAt_5068e_0 rfl rfl ?_
  refine mm_ck (fun c1 => ?_)
  refine mm_ci (q := 4) (mt_J0_isLatin1_aae02 G a0 h k_a0) (mm_runVS (as := []) (st := []) lk_J0_charAt_5068e_J0_isLatin1_aae02_492 rfl dJ0_charAt_5068e_1 rfl (Nat.le_of_ble_eq_true rfl) k_a0 c1) rfl (fun v4 h2 p3 => ?_)
  have k5 : mm_kd h2 a0 = 26 := mm_kd_app p3 k_a0 (by decide)
  refine ok_if_eq (q := 7) (t := 16) dJ0_charAt_5068e_4 rfl rfl ?_ ?_
  · refine ok_aload_n (q := 17) dJ0_charAt_5068e_16 rfl rfl ?_
    refine mm_ck (fun c6 => ?_)
    refine ok_getSv (q := 20) dJ0_charAt_5068e_17 wd_1566 k5 c6 rfl (fun k7 => ?_)
    refine ok_iload_n (q := 21) dJ0_charAt_5068e_20 rfl rfl ?_
    exact mm_no
  · refine ok_aload_n (q := 8) dJ0_charAt_5068e_7 rfl rfl ?_
    refine mm_ck (fun c8 => ?_)
    refine ok_getSv (q := 11) dJ0_charAt_5068e_8 wd_1566 k5 c8 rfl (fun k9 => ?_)
    refine ok_iload_n (q := 12) dJ0_charAt_5068e_11 rfl rfl ?_
    refine mm_ci (q := 15) (mt_J1_charAt_3b067 G ((a0 + 11)) x1 h2 k9) (mm_runS (as := [.ref ((a0 + 11)), .int x1]) (st := []) lk_J0_charAt_5068e_J1_charAt_3b067_495 dJ0_charAt_5068e_12 rfl (Nat.le_of_ble_eq_true rfl)) rfl (fun v12 h10 p11 => ?_)
    have k13 : mm_kd h10 a0 = 26 := mm_kd_app p11 k5 (by decide)
    refine mm_ck (fun c14 => ?_)
    exact ok_iret (t := .char) dJ0_charAt_5068e_15 rfl c14
def lp_X6_putText_2  : Nat → Nat → Nat → Int32 → mm_H → mm_O
  | 0, _, _, _, _ => none
  | n + 1, a0, a1, x2, h => if a1 < 32 then (mm_qi (bd_J0_length_8abf5 a1 h) (fun v4 h2 =>
  if v4 ≤ x2 then
  (some (none, h2))
  else
  (if a1 < 32 then (mm_qi (bd_J0_charAt_5068e a1 x2 h2) (fun v10 h8 =>
  mm_qv (bd_X6_put a0 v10 h8) (fun h13 =>
  lp_X6_putText_2 n a0 a1 (x2 + 1) h13))) else none))) else none
set_option maxHeartbeats 4000000 in
set_option maxRecDepth 100000 in
theorem ol_X6_putText_2 {G : mm_G}   : ∀ (n : Nat) (a0 : Nat) (a1 : Nat) (x2 : Int32) (h : mm_H), mm_kd h a0 = 5 → mm_kd h a1 = 26 → mm_Ok G my_X6_putText 2 [.ref a0, .ref a1, .int x2] [] h (lp_X6_putText_2 n a0 a1 x2 h) := by
  intro n
  induction n with
  | zero => intro a0 a1 x2 h k_a0 k_a1; exact mm_no
  | succ n ih =>
    intro a0 a1 x2 h k_a0 k_a1
    rw [lp_X6_putText_2]
    refine ok_iload_n (q := 3) dX6_putText_2 rfl rfl ?_
    refine ok_aload_n (q := 4) dX6_putText_3 rfl rfl ?_
    refine mm_ck (fun c1 => ?_)
    refine mm_ci (q := 7) (mt_J0_length_8abf5 G a1 h k_a1) (mm_runVS (as := []) (st := [.int x2]) lk_X6_putText_J0_length_8abf5_29 rfl dX6_putText_4 rfl (Nat.le_of_ble_eq_true rfl) k_a1 c1) rfl (fun v4 h2 p3 => ?_)
    have k5 : mm_kd h2 a0 = 5 := mm_kd_app p3 k_a0 (by decide)
    have k6 : mm_kd h2 a1 = 26 := mm_kd_app p3 k_a1 (by decide)
    refine ok_icmp_ge (q := 10) (t := 25) dX6_putText_7 rfl rfl ?_ ?_
    · exact ok_ret dX6_putText_25 rfl
    · refine ok_aload_n (q := 11) dX6_putText_10 rfl rfl ?_
      refine ok_aload_n (q := 12) dX6_putText_11 rfl rfl ?_
      refine ok_iload_n (q := 13) dX6_putText_12 rfl rfl ?_
      refine mm_ck (fun c7 => ?_)
      refine mm_ci (q := 16) (mt_J0_charAt_5068e G a1 x2 h2 k6) (mm_runVS (as := [.int x2]) (st := [.ref a0]) lk_X6_putText_J0_charAt_5068e_35 rfl dX6_putText_13 rfl (Nat.le_of_ble_eq_true rfl) k6 c7) rfl (fun v10 h8 p9 => ?_)
      have k11 : mm_kd h8 a0 = 5 := mm_kd_app p9 k5 (by decide)
      have k12 : mm_kd h8 a1 = 26 := mm_kd_app p9 k6 (by decide)
      refine mm_cv (q := 19) (mt_X6_put G a0 v10 h8 k11) (mm_runV (as := [.int v10]) (st := []) cl_5 lk_X6_putText_X6_put_25 rfl dX6_putText_16 rfl (Nat.le_of_ble_eq_true rfl) k11) rfl (fun h13 p14 => ?_)
      have k15 : mm_kd h13 a0 = 5 := mm_kd_app p14 k11 (by decide)
      have k16 : mm_kd h13 a1 = 26 := mm_kd_app p14 k12 (by decide)
      refine ok_iinc (q := 22) (v := x2 + 1) (ls' := [.ref a0, .ref a1, .int (x2 + 1)]) dX6_putText_19 rfl (congrArg (x2 + ·) ci_1) (Nat.le_of_ble_eq_true rfl) rfl rfl ?_
      refine ok_goto (q := 2) dX6_putText_22 rfl ?_
      exact ih a0 a1 (x2 + 1) h13 k15 k16
def bd_X6_putText (a0 : Nat) (a1 : Nat) (h : mm_H) : mm_O := lp_X6_putText_2  mm_fu a0 a1 0 h
set_option maxHeartbeats 4000000 in
set_option maxRecDepth 100000 in
theorem mt_X6_putText (G : mm_G) (a0 : Nat) (a1 : Nat) (h : mm_H) (k_a0 : mm_kd h a0 = 5) (k_a1 : mm_kd h a1 = 26) : mm_Met G my_X6_putText [.ref a0, .ref a1] h (bd_X6_putText a0 a1 h) := by
  refine mm_met (ls := [.ref a0, .ref a1, mm_U]) pn_RX6 (Nat.le_of_ble_eq_true rfl) rfl ?_
  unfold bd_X6_putText
  refine ok_iconst (q := 1) (v := 0) dX6_putText_0 ci_0 rfl ?_
  refine ok_istore_n (q := 2) (ls' := [.ref a0, .ref a1, .int 0]) dX6_putText_1 (Nat.le_of_ble_eq_true rfl) rfl rfl ?_
  refine ol_X6_putText_2  mm_fu a0 a1 0 h k_a0 k_a1
def bd_X1_expand (a0 : Nat) (a1 : Nat) (a2 : Nat) (a3 : Nat) (x4 : Int32) (a5 : Nat) (h : mm_H) : mm_O := mm_gr h a0 5 (fun b1 =>
  mm_qv (bd_X6_clear b1 h) (fun h3 =>
  mm_gr h3 a0 5 (fun b10 =>
  mm_qv (bd_X6_putNumber b10 x4 2 h3) (fun h12 =>
  mm_gr h12 a0 5 (fun b19 =>
  if 11 < 32 then (mm_qi (bd_J0_length_8abf5 11 h12) (fun v25 h23 =>
  if a2 < 32 then (mm_qi (bd_J0_length_8abf5 a2 h23) (fun v35 h33 =>
  mm_qv (bd_X6_put b19 (v25 + v35) h33) (fun h42 =>
  mm_gr h42 a0 5 (fun b49 =>
  mm_qv (bd_X6_putText b49 11 h42) (fun h52 =>
  mm_gr h52 a0 5 (fun b59 =>
  mm_qv (bd_X6_putText b59 a2 h52) (fun h61 =>
  mm_gr h61 a0 5 (fun b68 =>
  mm_qv (bd_X6_put b68 (mm_i h61 a3 1) h61) (fun h70 =>
  mm_gr h70 a0 5 (fun b77 =>
  mm_qv (bd_X6_append b77 a3 h70) (fun h79 =>
  mm_gr h79 a0 5 (fun b86 =>
  mm_qv (bd_X6_put b86 1 h79) (fun h88 =>
  mm_gr h88 a0 5 (fun b95 =>
  mm_gr h88 a0 6 (fun b97 =>
  mm_qv (bd_X1_mac a0 a1 b95 b97 h88) (fun h99 =>
  mm_gr h99 a0 6 (fun b106 =>
  mm_qv (bd_X6_copyPart a5 b106 0 x4 h99) (fun h108 =>
  some (none, h108))))))))))))))))))) else none)) else none)))))
set_option maxHeartbeats 4000000 in
set_option maxRecDepth 100000 in
theorem mt_X1_expand (G : mm_G) (a0 : Nat) (a1 : Nat) (a2 : Nat) (a3 : Nat) (x4 : Int32) (a5 : Nat) (h : mm_H) (k_a0 : mm_kd h a0 = 1) (k_a1 : mm_kd h a1 = 5) (k_a2 : mm_kd h a2 = 26) (k_a3 : mm_kd h a3 = 5) (k_a5 : mm_kd h a5 = 5) : mm_Met G my_X1_expand [.ref a0, .ref a1, .ref a2, .ref a3, .int x4, .ref a5] h (bd_X1_expand a0 a1 a2 a3 x4 a5 h) := by
  refine mm_met (ls := [.ref a0, .ref a1, .ref a2, .ref a3, .int x4, .ref a5]) pn_RX1 (Nat.le_of_ble_eq_true rfl) rfl ?_
  unfold bd_X1_expand
  refine ok_aload_n (q := 1) dX1_expand_0 rfl rfl ?_
  refine ok_getR cl_1 (q := 4) (k := 5) dX1_expand_1 (Nat.le_of_ble_eq_true rfl) wd_177 (fun _ _ _ => rfl) kt_1_5 k_a0 rfl (fun b1 k2 => ?_)
  refine mm_cv (q := 7) (mt_X6_clear G b1 h k2) (mm_runV (as := []) (st := []) cl_5 lk_X1_expand_X6_clear_57 rfl dX1_expand_4 rfl (Nat.le_of_ble_eq_true rfl) k2) rfl (fun h3 p4 => ?_)
  have k5 : mm_kd h3 a0 = 1 := mm_kd_app p4 k_a0 (by decide)
  have k6 : mm_kd h3 a1 = 5 := mm_kd_app p4 k_a1 (by decide)
  have k7 : mm_kd h3 a2 = 26 := mm_kd_app p4 k_a2 (by decide)
  have k8 : mm_kd h3 a3 = 5 := mm_kd_app p4 k_a3 (by decide)
  have k9 : mm_kd h3 a5 = 5 := mm_kd_app p4 k_a5 (by decide)
  refine ok_aload_n (q := 8) dX1_expand_7 rfl rfl ?_
  refine ok_getR cl_1 (q := 11) (k := 5) dX1_expand_8 (Nat.le_of_ble_eq_true rfl) wd_177 (fun _ _ _ => rfl) kt_1_5 k5 rfl (fun b10 k11 => ?_)
  refine ok_iload (q := 13) dX1_expand_11 rfl rfl ?_
  refine ok_iconst (q := 14) (v := 2) dX1_expand_13 ci_2 rfl ?_
  refine mm_cv (q := 17) (mt_X6_putNumber G b10 x4 2 h3 k11) (mm_runV (as := [.int x4, .int 2]) (st := []) cl_5 lk_X1_expand_X6_putNumber_67 rfl dX1_expand_14 rfl (Nat.le_of_ble_eq_true rfl) k11) rfl (fun h12 p13 => ?_)
  have k14 : mm_kd h12 a0 = 1 := mm_kd_app p13 k5 (by decide)
  have k15 : mm_kd h12 a1 = 5 := mm_kd_app p13 k6 (by decide)
  have k16 : mm_kd h12 a2 = 26 := mm_kd_app p13 k7 (by decide)
  have k17 : mm_kd h12 a3 = 5 := mm_kd_app p13 k8 (by decide)
  have k18 : mm_kd h12 a5 = 5 := mm_kd_app p13 k9 (by decide)
  refine ok_aload_n (q := 18) dX1_expand_17 rfl rfl ?_
  refine ok_getR cl_1 (q := 21) (k := 5) dX1_expand_18 (Nat.le_of_ble_eq_true rfl) wd_177 (fun _ _ _ => rfl) kt_1_5 k14 rfl (fun b19 k20 => ?_)
  refine ok_ldcS (q := 23) (a := 11) (tx := "tls13 ") (by decide +kernel) dX1_expand_21 (by decide) rfl (fun k21 => ?_)
  refine mm_ck (fun c22 => ?_)
  refine mm_ci (q := 26) (mt_J0_length_8abf5 G 11 h12 k21) (mm_runVS (as := []) (st := [.ref b19]) lk_X1_expand_J0_length_8abf5_73 rfl dX1_expand_23 rfl (Nat.le_of_ble_eq_true rfl) k21 c22) rfl (fun v25 h23 p24 => ?_)
  have k26 : mm_kd h23 a0 = 1 := mm_kd_app p24 k14 (by decide)
  have k27 : mm_kd h23 a1 = 5 := mm_kd_app p24 k15 (by decide)
  have k28 : mm_kd h23 a2 = 26 := mm_kd_app p24 k16 (by decide)
  have k29 : mm_kd h23 a3 = 5 := mm_kd_app p24 k17 (by decide)
  have k30 : mm_kd h23 a5 = 5 := mm_kd_app p24 k18 (by decide)
  have k31 : mm_kd h23 b19 = 5 := mm_kd_app p24 k20 (by decide)
  refine ok_aload_n (q := 27) dX1_expand_26 rfl rfl ?_
  refine mm_ck (fun c32 => ?_)
  refine mm_ci (q := 30) (mt_J0_length_8abf5 G a2 h23 k28) (mm_runVS (as := []) (st := [.int v25, .ref b19]) lk_X1_expand_J0_length_8abf5_73 rfl dX1_expand_27 rfl (Nat.le_of_ble_eq_true rfl) k28 c32) rfl (fun v35 h33 p34 => ?_)
  have k36 : mm_kd h33 a0 = 1 := mm_kd_app p34 k26 (by decide)
  have k37 : mm_kd h33 a1 = 5 := mm_kd_app p34 k27 (by decide)
  have k38 : mm_kd h33 a2 = 26 := mm_kd_app p34 k28 (by decide)
  have k39 : mm_kd h33 a3 = 5 := mm_kd_app p34 k29 (by decide)
  have k40 : mm_kd h33 a5 = 5 := mm_kd_app p34 k30 (by decide)
  have k41 : mm_kd h33 b19 = 5 := mm_kd_app p34 k31 (by decide)
  refine ok_iadd (q := 31) dX1_expand_30 rfl ?_
  refine mm_cv (q := 34) (mt_X6_put G b19 (v25 + v35) h33 k41) (mm_runV (as := [.int (v25 + v35)]) (st := []) cl_5 lk_X1_expand_X6_put_64 rfl dX1_expand_31 rfl (Nat.le_of_ble_eq_true rfl) k41) rfl (fun h42 p43 => ?_)
  have k44 : mm_kd h42 a0 = 1 := mm_kd_app p43 k36 (by decide)
  have k45 : mm_kd h42 a1 = 5 := mm_kd_app p43 k37 (by decide)
  have k46 : mm_kd h42 a2 = 26 := mm_kd_app p43 k38 (by decide)
  have k47 : mm_kd h42 a3 = 5 := mm_kd_app p43 k39 (by decide)
  have k48 : mm_kd h42 a5 = 5 := mm_kd_app p43 k40 (by decide)
  refine ok_aload_n (q := 35) dX1_expand_34 rfl rfl ?_
  refine ok_getR cl_1 (q := 38) (k := 5) dX1_expand_35 (Nat.le_of_ble_eq_true rfl) wd_177 (fun _ _ _ => rfl) kt_1_5 k44 rfl (fun b49 k50 => ?_)
  refine ok_ldcS (q := 40) (a := 11) (tx := "tls13 ") (by decide +kernel) dX1_expand_38 (by decide) rfl (fun k51 => ?_)
  refine mm_cv (q := 43) (mt_X6_putText G b49 11 h42 k50 k51) (mm_runV (as := [.ref 11]) (st := []) cl_5 lk_X1_expand_X6_putText_79 rfl dX1_expand_40 rfl (Nat.le_of_ble_eq_true rfl) k50) rfl (fun h52 p53 => ?_)
  have k54 : mm_kd h52 a0 = 1 := mm_kd_app p53 k44 (by decide)
  have k55 : mm_kd h52 a1 = 5 := mm_kd_app p53 k45 (by decide)
  have k56 : mm_kd h52 a2 = 26 := mm_kd_app p53 k46 (by decide)
  have k57 : mm_kd h52 a3 = 5 := mm_kd_app p53 k47 (by decide)
  have k58 : mm_kd h52 a5 = 5 := mm_kd_app p53 k48 (by decide)
  refine ok_aload_n (q := 44) dX1_expand_43 rfl rfl ?_
  refine ok_getR cl_1 (q := 47) (k := 5) dX1_expand_44 (Nat.le_of_ble_eq_true rfl) wd_177 (fun _ _ _ => rfl) kt_1_5 k54 rfl (fun b59 k60 => ?_)
  refine ok_aload_n (q := 48) dX1_expand_47 rfl rfl ?_
  refine mm_cv (q := 51) (mt_X6_putText G b59 a2 h52 k60 k56) (mm_runV (as := [.ref a2]) (st := []) cl_5 lk_X1_expand_X6_putText_79 rfl dX1_expand_48 rfl (Nat.le_of_ble_eq_true rfl) k60) rfl (fun h61 p62 => ?_)
  have k63 : mm_kd h61 a0 = 1 := mm_kd_app p62 k54 (by decide)
  have k64 : mm_kd h61 a1 = 5 := mm_kd_app p62 k55 (by decide)
  have k65 : mm_kd h61 a2 = 26 := mm_kd_app p62 k56 (by decide)
  have k66 : mm_kd h61 a3 = 5 := mm_kd_app p62 k57 (by decide)
  have k67 : mm_kd h61 a5 = 5 := mm_kd_app p62 k58 (by decide)
  refine ok_aload_n (q := 52) dX1_expand_51 rfl rfl ?_
  refine ok_getR cl_1 (q := 55) (k := 5) dX1_expand_52 (Nat.le_of_ble_eq_true rfl) wd_177 (fun _ _ _ => rfl) kt_1_5 k63 rfl (fun b68 k69 => ?_)
  refine ok_aload_n (q := 56) dX1_expand_55 rfl rfl ?_
  refine ok_getI cl_5 (q := 59) (k := 1) dX1_expand_56 (Nat.le_of_ble_eq_true rfl) wd_123 (fun _ _ _ => rfl) k66 rfl ?_
  refine mm_cv (q := 62) (mt_X6_put G b68 (mm_i h61 a3 1) h61 k69) (mm_runV (as := [.int (mm_i h61 a3 1)]) (st := []) cl_5 lk_X1_expand_X6_put_64 rfl dX1_expand_59 rfl (Nat.le_of_ble_eq_true rfl) k69) rfl (fun h70 p71 => ?_)
  have k72 : mm_kd h70 a0 = 1 := mm_kd_app p71 k63 (by decide)
  have k73 : mm_kd h70 a1 = 5 := mm_kd_app p71 k64 (by decide)
  have k74 : mm_kd h70 a2 = 26 := mm_kd_app p71 k65 (by decide)
  have k75 : mm_kd h70 a3 = 5 := mm_kd_app p71 k66 (by decide)
  have k76 : mm_kd h70 a5 = 5 := mm_kd_app p71 k67 (by decide)
  refine ok_aload_n (q := 63) dX1_expand_62 rfl rfl ?_
  refine ok_getR cl_1 (q := 66) (k := 5) dX1_expand_63 (Nat.le_of_ble_eq_true rfl) wd_177 (fun _ _ _ => rfl) kt_1_5 k72 rfl (fun b77 k78 => ?_)
  refine ok_aload_n (q := 67) dX1_expand_66 rfl rfl ?_
  refine mm_cv (q := 70) (mt_X6_append G b77 a3 h70 k78 k75) (mm_runV (as := [.ref a3]) (st := []) cl_5 lk_X1_expand_X6_append_49 rfl dX1_expand_67 rfl (Nat.le_of_ble_eq_true rfl) k78) rfl (fun h79 p80 => ?_)
  have k81 : mm_kd h79 a0 = 1 := mm_kd_app p80 k72 (by decide)
  have k82 : mm_kd h79 a1 = 5 := mm_kd_app p80 k73 (by decide)
  have k83 : mm_kd h79 a2 = 26 := mm_kd_app p80 k74 (by decide)
  have k84 : mm_kd h79 a3 = 5 := mm_kd_app p80 k75 (by decide)
  have k85 : mm_kd h79 a5 = 5 := mm_kd_app p80 k76 (by decide)
  refine ok_aload_n (q := 71) dX1_expand_70 rfl rfl ?_
  refine ok_getR cl_1 (q := 74) (k := 5) dX1_expand_71 (Nat.le_of_ble_eq_true rfl) wd_177 (fun _ _ _ => rfl) kt_1_5 k81 rfl (fun b86 k87 => ?_)
  refine ok_iconst (q := 75) (v := 1) dX1_expand_74 ci_1 rfl ?_
  refine mm_cv (q := 78) (mt_X6_put G b86 1 h79 k87) (mm_runV (as := [.int 1]) (st := []) cl_5 lk_X1_expand_X6_put_64 rfl dX1_expand_75 rfl (Nat.le_of_ble_eq_true rfl) k87) rfl (fun h88 p89 => ?_)
  have k90 : mm_kd h88 a0 = 1 := mm_kd_app p89 k81 (by decide)
  have k91 : mm_kd h88 a1 = 5 := mm_kd_app p89 k82 (by decide)
  have k92 : mm_kd h88 a2 = 26 := mm_kd_app p89 k83 (by decide)
  have k93 : mm_kd h88 a3 = 5 := mm_kd_app p89 k84 (by decide)
  have k94 : mm_kd h88 a5 = 5 := mm_kd_app p89 k85 (by decide)
  refine ok_aload_n (q := 79) dX1_expand_78 rfl rfl ?_
  refine ok_aload_n (q := 80) dX1_expand_79 rfl rfl ?_
  refine ok_aload_n (q := 81) dX1_expand_80 rfl rfl ?_
  refine ok_getR cl_1 (q := 84) (k := 5) dX1_expand_81 (Nat.le_of_ble_eq_true rfl) wd_177 (fun _ _ _ => rfl) kt_1_5 k90 rfl (fun b95 k96 => ?_)
  refine ok_aload_n (q := 85) dX1_expand_84 rfl rfl ?_
  refine ok_getR cl_1 (q := 88) (k := 6) dX1_expand_85 (Nat.le_of_ble_eq_true rfl) wd_178 (fun _ _ _ => rfl) kt_1_6 k90 rfl (fun b97 k98 => ?_)
  refine mm_cv (q := 91) (mt_X1_mac G a0 a1 b95 b97 h88 k90 k91 k96 k98) (mm_runV (as := [.ref a1, .ref b95, .ref b97]) (st := []) cl_1 lk_X1_expand_X1_mac_83 rfl dX1_expand_88 rfl (Nat.le_of_ble_eq_true rfl) k90) rfl (fun h99 p100 => ?_)
  have k101 : mm_kd h99 a0 = 1 := mm_kd_app p100 k90 (by decide)
  have k102 : mm_kd h99 a1 = 5 := mm_kd_app p100 k91 (by decide)
  have k103 : mm_kd h99 a2 = 26 := mm_kd_app p100 k92 (by decide)
  have k104 : mm_kd h99 a3 = 5 := mm_kd_app p100 k93 (by decide)
  have k105 : mm_kd h99 a5 = 5 := mm_kd_app p100 k94 (by decide)
  refine ok_aload (q := 93) dX1_expand_91 rfl rfl ?_
  refine ok_aload_n (q := 94) dX1_expand_93 rfl rfl ?_
  refine ok_getR cl_1 (q := 97) (k := 6) dX1_expand_94 (Nat.le_of_ble_eq_true rfl) wd_178 (fun _ _ _ => rfl) kt_1_6 k101 rfl (fun b106 k107 => ?_)
  refine ok_iconst (q := 98) (v := 0) dX1_expand_97 ci_0 rfl ?_
  refine ok_iload (q := 100) dX1_expand_98 rfl rfl ?_
  refine mm_cv (q := 103) (mt_X6_copyPart G a5 b106 0 x4 h99 k105 k107) (mm_runV (as := [.ref b106, .int 0, .int x4]) (st := []) cl_5 lk_X1_expand_X6_copyPart_87 rfl dX1_expand_100 rfl (Nat.le_of_ble_eq_true rfl) k105) rfl (fun h108 p109 => ?_)
  have k110 : mm_kd h108 a0 = 1 := mm_kd_app p109 k101 (by decide)
  have k111 : mm_kd h108 a1 = 5 := mm_kd_app p109 k102 (by decide)
  have k112 : mm_kd h108 a2 = 26 := mm_kd_app p109 k103 (by decide)
  have k113 : mm_kd h108 a3 = 5 := mm_kd_app p109 k104 (by decide)
  have k114 : mm_kd h108 a5 = 5 := mm_kd_app p109 k105 (by decide)
  exact ok_ret dX1_expand_103 rfl
def bd_X7_prepare (a0 : Nat) (a1 : Nat) (h : mm_H) : mm_O := mm_gr h a0 4 (fun b1 =>
  mm_gr h a0 3 (fun b3 =>
  mm_gr h b3 0 (fun b5 =>
  mm_gr h a0 3 (fun b7 =>
  mm_gr h b7 1 (fun b9 =>
  mm_gr h a0 5 (fun b11 =>
  mm_qv (bd_X9_digest b5 b9 b11 h) (fun h13 =>
  mm_gr h13 a0 3 (fun b18 =>
  mm_gr h13 a0 3 (fun b20 =>
  mm_gr h13 b20 2 (fun b22 =>
  mm_qv (bd_X1_mac b18 b22 a1 b1 h13) (fun h24 =>
  mm_gr h24 a0 3 (fun b29 =>
  mm_gr h24 a0 5 (fun b32 =>
  mm_gr h24 a0 0 (fun b34 =>
  mm_qv (bd_X1_expand b29 b1 10 b32 32 b34 h24) (fun h36 =>
  mm_gr h36 a0 3 (fun b41 =>
  mm_gr h36 a0 5 (fun b44 =>
  mm_gr h36 a0 1 (fun b46 =>
  mm_qv (bd_X1_expand b41 b1 12 b44 32 b46 h36) (fun h48 =>
  mm_gr h48 a0 3 (fun b53 =>
  mm_gr h48 a0 1 (fun b55 =>
  mm_gr h48 a0 3 (fun b57 =>
  mm_gr h48 b57 2 (fun b59 =>
  mm_gr h48 a0 1 (fun b61 =>
  mm_qv (bd_X1_mac b53 b55 b59 b61 h48) (fun h63 =>
  mm_gr h63 a0 3 (fun b68 =>
  mm_gr h63 a0 1 (fun b70 =>
  mm_gr h63 a0 5 (fun b73 =>
  mm_gr h63 a0 2 (fun b75 =>
  mm_qv (bd_X1_expand b68 b70 12 b73 32 b75 h63) (fun h77 =>
  mm_gr h77 a0 3 (fun b82 =>
  mm_gr h77 a0 2 (fun b84 =>
  mm_gr h77 a0 3 (fun b86 =>
  mm_gr h77 b86 2 (fun b88 =>
  mm_gr h77 a0 2 (fun b90 =>
  mm_qv (bd_X1_mac b82 b84 b88 b90 h77) (fun h92 =>
  some (none, h92)))))))))))))))))))))))))))))))))))))
set_option maxHeartbeats 4000000 in
set_option maxRecDepth 100000 in
theorem mt_X7_prepare (G : mm_G) (a0 : Nat) (a1 : Nat) (h : mm_H) (k_a0 : mm_kd h a0 = 6) (k_a1 : mm_kd h a1 = 5) : mm_Met G my_X7_prepare [.ref a0, .ref a1] h (bd_X7_prepare a0 a1 h) := by
  refine mm_met (ls := [.ref a0, .ref a1, mm_U]) pn_RX7 (Nat.le_of_ble_eq_true rfl) rfl ?_
  unfold bd_X7_prepare
  refine ok_aload_n (q := 1) dX7_prepare_0 rfl rfl ?_
  refine ok_getR cl_6 (q := 4) (k := 4) dX7_prepare_1 (Nat.le_of_ble_eq_true rfl) wd_361 (fun _ _ _ => rfl) kt_6_4 k_a0 rfl (fun b1 k2 => ?_)
  refine ok_astore_n (q := 5) (ls' := [.ref a0, .ref a1, .ref b1]) dX7_prepare_4 (Nat.le_of_ble_eq_true rfl) rfl rfl ?_
  refine ok_aload_n (q := 6) dX7_prepare_5 rfl rfl ?_
  refine ok_getR cl_6 (q := 9) (k := 3) dX7_prepare_6 (Nat.le_of_ble_eq_true rfl) wd_360 (fun _ _ _ => rfl) kt_6_3 k_a0 rfl (fun b3 k4 => ?_)
  refine ok_getR cl_1 (q := 12) (k := 0) dX7_prepare_9 (Nat.le_of_ble_eq_true rfl) wd_168 (fun _ _ _ => rfl) kt_1_0 k4 rfl (fun b5 k6 => ?_)
  refine ok_aload_n (q := 13) dX7_prepare_12 rfl rfl ?_
  refine ok_getR cl_6 (q := 16) (k := 3) dX7_prepare_13 (Nat.le_of_ble_eq_true rfl) wd_360 (fun _ _ _ => rfl) kt_6_3 k_a0 rfl (fun b7 k8 => ?_)
  refine ok_getR cl_1 (q := 19) (k := 1) dX7_prepare_16 (Nat.le_of_ble_eq_true rfl) wd_170 (fun _ _ _ => rfl) kt_1_1 k8 rfl (fun b9 k10 => ?_)
  refine ok_aload_n (q := 20) dX7_prepare_19 rfl rfl ?_
  refine ok_getR cl_6 (q := 23) (k := 5) dX7_prepare_20 (Nat.le_of_ble_eq_true rfl) wd_362 (fun _ _ _ => rfl) kt_6_5 k_a0 rfl (fun b11 k12 => ?_)
  refine mm_cv (q := 26) (mt_X9_digest G b5 b9 b11 h k6 k10 k12) (mm_runV (as := [.ref b9, .ref b11]) (st := []) cl_8 lk_X7_prepare_X9_digest_45 rfl dX7_prepare_23 rfl (Nat.le_of_ble_eq_true rfl) k6) rfl (fun h13 p14 => ?_)
  have k15 : mm_kd h13 a0 = 6 := mm_kd_app p14 k_a0 (by decide)
  have k16 : mm_kd h13 a1 = 5 := mm_kd_app p14 k_a1 (by decide)
  have k17 : mm_kd h13 b1 = 5 := mm_kd_app p14 k2 (by decide)
  refine ok_aload_n (q := 27) dX7_prepare_26 rfl rfl ?_
  refine ok_getR cl_6 (q := 30) (k := 3) dX7_prepare_27 (Nat.le_of_ble_eq_true rfl) wd_360 (fun _ _ _ => rfl) kt_6_3 k15 rfl (fun b18 k19 => ?_)
  refine ok_aload_n (q := 31) dX7_prepare_30 rfl rfl ?_
  refine ok_getR cl_6 (q := 34) (k := 3) dX7_prepare_31 (Nat.le_of_ble_eq_true rfl) wd_360 (fun _ _ _ => rfl) kt_6_3 k15 rfl (fun b20 k21 => ?_)
  refine ok_getR cl_1 (q := 37) (k := 2) dX7_prepare_34 (Nat.le_of_ble_eq_true rfl) wd_174 (fun _ _ _ => rfl) kt_1_2 k21 rfl (fun b22 k23 => ?_)
  refine ok_aload_n (q := 38) dX7_prepare_37 rfl rfl ?_
  refine ok_aload_n (q := 39) dX7_prepare_38 rfl rfl ?_
  refine mm_cv (q := 42) (mt_X1_mac G b18 b22 a1 b1 h13 k19 k23 k16 k17) (mm_runV (as := [.ref b22, .ref a1, .ref b1]) (st := []) cl_1 lk_X7_prepare_X1_mac_54 rfl dX7_prepare_39 rfl (Nat.le_of_ble_eq_true rfl) k19) rfl (fun h24 p25 => ?_)
  have k26 : mm_kd h24 a0 = 6 := mm_kd_app p25 k15 (by decide)
  have k27 : mm_kd h24 a1 = 5 := mm_kd_app p25 k16 (by decide)
  have k28 : mm_kd h24 b1 = 5 := mm_kd_app p25 k17 (by decide)
  refine ok_aload_n (q := 43) dX7_prepare_42 rfl rfl ?_
  refine ok_getR cl_6 (q := 46) (k := 3) dX7_prepare_43 (Nat.le_of_ble_eq_true rfl) wd_360 (fun _ _ _ => rfl) kt_6_3 k26 rfl (fun b29 k30 => ?_)
  refine ok_aload_n (q := 47) dX7_prepare_46 rfl rfl ?_
  refine ok_ldcS (q := 49) (a := 10) (tx := "ext binder") (by decide +kernel) dX7_prepare_47 (by decide) rfl (fun k31 => ?_)
  refine ok_aload_n (q := 50) dX7_prepare_49 rfl rfl ?_
  refine ok_getR cl_6 (q := 53) (k := 5) dX7_prepare_50 (Nat.le_of_ble_eq_true rfl) wd_362 (fun _ _ _ => rfl) kt_6_5 k26 rfl (fun b32 k33 => ?_)
  refine ok_bipush (q := 55) (v := 32) dX7_prepare_53 cb_32 rfl ?_
  refine ok_aload_n (q := 56) dX7_prepare_55 rfl rfl ?_
  refine ok_getR cl_6 (q := 59) (k := 0) dX7_prepare_56 (Nat.le_of_ble_eq_true rfl) wd_354 (fun _ _ _ => rfl) kt_6_0 k26 rfl (fun b34 k35 => ?_)
  refine mm_cv (q := 62) (mt_X1_expand G b29 b1 10 b32 32 b34 h24 k30 k28 k31 k33 k35) (mm_runV (as := [.ref b1, .ref 10, .ref b32, .int 32, .ref b34]) (st := []) cl_1 lk_X7_prepare_X1_expand_60 rfl dX7_prepare_59 rfl (Nat.le_of_ble_eq_true rfl) k30) rfl (fun h36 p37 => ?_)
  have k38 : mm_kd h36 a0 = 6 := mm_kd_app p37 k26 (by decide)
  have k39 : mm_kd h36 a1 = 5 := mm_kd_app p37 k27 (by decide)
  have k40 : mm_kd h36 b1 = 5 := mm_kd_app p37 k28 (by decide)
  refine ok_aload_n (q := 63) dX7_prepare_62 rfl rfl ?_
  refine ok_getR cl_6 (q := 66) (k := 3) dX7_prepare_63 (Nat.le_of_ble_eq_true rfl) wd_360 (fun _ _ _ => rfl) kt_6_3 k38 rfl (fun b41 k42 => ?_)
  refine ok_aload_n (q := 67) dX7_prepare_66 rfl rfl ?_
  refine ok_ldcS (q := 69) (a := 12) (tx := "derived") (by decide +kernel) dX7_prepare_67 (by decide) rfl (fun k43 => ?_)
  refine ok_aload_n (q := 70) dX7_prepare_69 rfl rfl ?_
  refine ok_getR cl_6 (q := 73) (k := 5) dX7_prepare_70 (Nat.le_of_ble_eq_true rfl) wd_362 (fun _ _ _ => rfl) kt_6_5 k38 rfl (fun b44 k45 => ?_)
  refine ok_bipush (q := 75) (v := 32) dX7_prepare_73 cb_32 rfl ?_
  refine ok_aload_n (q := 76) dX7_prepare_75 rfl rfl ?_
  refine ok_getR cl_6 (q := 79) (k := 1) dX7_prepare_76 (Nat.le_of_ble_eq_true rfl) wd_356 (fun _ _ _ => rfl) kt_6_1 k38 rfl (fun b46 k47 => ?_)
  refine mm_cv (q := 82) (mt_X1_expand G b41 b1 12 b44 32 b46 h36 k42 k40 k43 k45 k47) (mm_runV (as := [.ref b1, .ref 12, .ref b44, .int 32, .ref b46]) (st := []) cl_1 lk_X7_prepare_X1_expand_60 rfl dX7_prepare_79 rfl (Nat.le_of_ble_eq_true rfl) k42) rfl (fun h48 p49 => ?_)
  have k50 : mm_kd h48 a0 = 6 := mm_kd_app p49 k38 (by decide)
  have k51 : mm_kd h48 a1 = 5 := mm_kd_app p49 k39 (by decide)
  have k52 : mm_kd h48 b1 = 5 := mm_kd_app p49 k40 (by decide)
  refine ok_aload_n (q := 83) dX7_prepare_82 rfl rfl ?_
  refine ok_getR cl_6 (q := 86) (k := 3) dX7_prepare_83 (Nat.le_of_ble_eq_true rfl) wd_360 (fun _ _ _ => rfl) kt_6_3 k50 rfl (fun b53 k54 => ?_)
  refine ok_aload_n (q := 87) dX7_prepare_86 rfl rfl ?_
  refine ok_getR cl_6 (q := 90) (k := 1) dX7_prepare_87 (Nat.le_of_ble_eq_true rfl) wd_356 (fun _ _ _ => rfl) kt_6_1 k50 rfl (fun b55 k56 => ?_)
  refine ok_aload_n (q := 91) dX7_prepare_90 rfl rfl ?_
  refine ok_getR cl_6 (q := 94) (k := 3) dX7_prepare_91 (Nat.le_of_ble_eq_true rfl) wd_360 (fun _ _ _ => rfl) kt_6_3 k50 rfl (fun b57 k58 => ?_)
  refine ok_getR cl_1 (q := 97) (k := 2) dX7_prepare_94 (Nat.le_of_ble_eq_true rfl) wd_174 (fun _ _ _ => rfl) kt_1_2 k58 rfl (fun b59 k60 => ?_)
  refine ok_aload_n (q := 98) dX7_prepare_97 rfl rfl ?_
  refine ok_getR cl_6 (q := 101) (k := 1) dX7_prepare_98 (Nat.le_of_ble_eq_true rfl) wd_356 (fun _ _ _ => rfl) kt_6_1 k50 rfl (fun b61 k62 => ?_)
  refine mm_cv (q := 104) (mt_X1_mac G b53 b55 b59 b61 h48 k54 k56 k60 k62) (mm_runV (as := [.ref b55, .ref b59, .ref b61]) (st := []) cl_1 lk_X7_prepare_X1_mac_54 rfl dX7_prepare_101 rfl (Nat.le_of_ble_eq_true rfl) k54) rfl (fun h63 p64 => ?_)
  have k65 : mm_kd h63 a0 = 6 := mm_kd_app p64 k50 (by decide)
  have k66 : mm_kd h63 a1 = 5 := mm_kd_app p64 k51 (by decide)
  have k67 : mm_kd h63 b1 = 5 := mm_kd_app p64 k52 (by decide)
  refine ok_aload_n (q := 105) dX7_prepare_104 rfl rfl ?_
  refine ok_getR cl_6 (q := 108) (k := 3) dX7_prepare_105 (Nat.le_of_ble_eq_true rfl) wd_360 (fun _ _ _ => rfl) kt_6_3 k65 rfl (fun b68 k69 => ?_)
  refine ok_aload_n (q := 109) dX7_prepare_108 rfl rfl ?_
  refine ok_getR cl_6 (q := 112) (k := 1) dX7_prepare_109 (Nat.le_of_ble_eq_true rfl) wd_356 (fun _ _ _ => rfl) kt_6_1 k65 rfl (fun b70 k71 => ?_)
  refine ok_ldcS (q := 114) (a := 12) (tx := "derived") (by decide +kernel) dX7_prepare_112 (by decide) rfl (fun k72 => ?_)
  refine ok_aload_n (q := 115) dX7_prepare_114 rfl rfl ?_
  refine ok_getR cl_6 (q := 118) (k := 5) dX7_prepare_115 (Nat.le_of_ble_eq_true rfl) wd_362 (fun _ _ _ => rfl) kt_6_5 k65 rfl (fun b73 k74 => ?_)
  refine ok_bipush (q := 120) (v := 32) dX7_prepare_118 cb_32 rfl ?_
  refine ok_aload_n (q := 121) dX7_prepare_120 rfl rfl ?_
  refine ok_getR cl_6 (q := 124) (k := 2) dX7_prepare_121 (Nat.le_of_ble_eq_true rfl) wd_358 (fun _ _ _ => rfl) kt_6_2 k65 rfl (fun b75 k76 => ?_)
  refine mm_cv (q := 127) (mt_X1_expand G b68 b70 12 b73 32 b75 h63 k69 k71 k72 k74 k76) (mm_runV (as := [.ref b70, .ref 12, .ref b73, .int 32, .ref b75]) (st := []) cl_1 lk_X7_prepare_X1_expand_60 rfl dX7_prepare_124 rfl (Nat.le_of_ble_eq_true rfl) k69) rfl (fun h77 p78 => ?_)
  have k79 : mm_kd h77 a0 = 6 := mm_kd_app p78 k65 (by decide)
  have k80 : mm_kd h77 a1 = 5 := mm_kd_app p78 k66 (by decide)
  have k81 : mm_kd h77 b1 = 5 := mm_kd_app p78 k67 (by decide)
  refine ok_aload_n (q := 128) dX7_prepare_127 rfl rfl ?_
  refine ok_getR cl_6 (q := 131) (k := 3) dX7_prepare_128 (Nat.le_of_ble_eq_true rfl) wd_360 (fun _ _ _ => rfl) kt_6_3 k79 rfl (fun b82 k83 => ?_)
  refine ok_aload_n (q := 132) dX7_prepare_131 rfl rfl ?_
  refine ok_getR cl_6 (q := 135) (k := 2) dX7_prepare_132 (Nat.le_of_ble_eq_true rfl) wd_358 (fun _ _ _ => rfl) kt_6_2 k79 rfl (fun b84 k85 => ?_)
  refine ok_aload_n (q := 136) dX7_prepare_135 rfl rfl ?_
  refine ok_getR cl_6 (q := 139) (k := 3) dX7_prepare_136 (Nat.le_of_ble_eq_true rfl) wd_360 (fun _ _ _ => rfl) kt_6_3 k79 rfl (fun b86 k87 => ?_)
  refine ok_getR cl_1 (q := 142) (k := 2) dX7_prepare_139 (Nat.le_of_ble_eq_true rfl) wd_174 (fun _ _ _ => rfl) kt_1_2 k87 rfl (fun b88 k89 => ?_)
  refine ok_aload_n (q := 143) dX7_prepare_142 rfl rfl ?_
  refine ok_getR cl_6 (q := 146) (k := 2) dX7_prepare_143 (Nat.le_of_ble_eq_true rfl) wd_358 (fun _ _ _ => rfl) kt_6_2 k79 rfl (fun b90 k91 => ?_)
  refine mm_cv (q := 149) (mt_X1_mac G b82 b84 b88 b90 h77 k83 k85 k89 k91) (mm_runV (as := [.ref b84, .ref b88, .ref b90]) (st := []) cl_1 lk_X7_prepare_X1_mac_54 rfl dX7_prepare_146 rfl (Nat.le_of_ble_eq_true rfl) k83) rfl (fun h92 p93 => ?_)
  have k94 : mm_kd h92 a0 = 6 := mm_kd_app p93 k79 (by decide)
  have k95 : mm_kd h92 a1 = 5 := mm_kd_app p93 k80 (by decide)
  have k96 : mm_kd h92 b1 = 5 := mm_kd_app p93 k81 (by decide)
  exact ok_ret dX7_prepare_149 rfl
def bd_X7_prove (a0 : Nat) (a1 : Nat) (a2 : Nat) (a3 : Nat) (h : mm_H) : mm_O := mm_gr h a0 3 (fun b1 =>
  mm_gr h a0 3 (fun b4 =>
  mm_gr h b4 1 (fun b6 =>
  mm_gr h a0 4 (fun b8 =>
  mm_qv (bd_X1_expand b1 a1 13 b6 32 b8 h) (fun h10 =>
  mm_gr h10 a0 3 (fun b16 =>
  mm_gr h10 b16 0 (fun b18 =>
  mm_gr h10 a0 5 (fun b20 =>
  mm_qv (bd_X9_digest b18 a2 b20 h10) (fun h22 =>
  mm_gr h22 a0 3 (fun b28 =>
  mm_gr h22 a0 4 (fun b30 =>
  mm_gr h22 a0 5 (fun b32 =>
  mm_qv (bd_X1_mac b28 b30 b32 a3 h22) (fun h34 =>
  some (none, h34))))))))))))))
set_option maxHeartbeats 4000000 in
set_option maxRecDepth 100000 in
theorem mt_X7_prove (G : mm_G) (a0 : Nat) (a1 : Nat) (a2 : Nat) (a3 : Nat) (h : mm_H) (k_a0 : mm_kd h a0 = 6) (k_a1 : mm_kd h a1 = 5) (k_a2 : mm_kd h a2 = 5) (k_a3 : mm_kd h a3 = 5) : mm_Met G my_X7_prove [.ref a0, .ref a1, .ref a2, .ref a3] h (bd_X7_prove a0 a1 a2 a3 h) := by
  refine mm_met (ls := [.ref a0, .ref a1, .ref a2, .ref a3]) pn_RX7 (Nat.le_of_ble_eq_true rfl) rfl ?_
  unfold bd_X7_prove
  refine ok_aload_n (q := 1) dX7_prove_0 rfl rfl ?_
  refine ok_getR cl_6 (q := 4) (k := 3) dX7_prove_1 (Nat.le_of_ble_eq_true rfl) wd_360 (fun _ _ _ => rfl) kt_6_3 k_a0 rfl (fun b1 k2 => ?_)
  refine ok_aload_n (q := 5) dX7_prove_4 rfl rfl ?_
  refine ok_ldcS (q := 7) (a := 13) (tx := "finished") (by decide +kernel) dX7_prove_5 (by decide) rfl (fun k3 => ?_)
  refine ok_aload_n (q := 8) dX7_prove_7 rfl rfl ?_
  refine ok_getR cl_6 (q := 11) (k := 3) dX7_prove_8 (Nat.le_of_ble_eq_true rfl) wd_360 (fun _ _ _ => rfl) kt_6_3 k_a0 rfl (fun b4 k5 => ?_)
  refine ok_getR cl_1 (q := 14) (k := 1) dX7_prove_11 (Nat.le_of_ble_eq_true rfl) wd_170 (fun _ _ _ => rfl) kt_1_1 k5 rfl (fun b6 k7 => ?_)
  refine ok_bipush (q := 16) (v := 32) dX7_prove_14 cb_32 rfl ?_
  refine ok_aload_n (q := 17) dX7_prove_16 rfl rfl ?_
  refine ok_getR cl_6 (q := 20) (k := 4) dX7_prove_17 (Nat.le_of_ble_eq_true rfl) wd_361 (fun _ _ _ => rfl) kt_6_4 k_a0 rfl (fun b8 k9 => ?_)
  refine mm_cv (q := 23) (mt_X1_expand G b1 a1 13 b6 32 b8 h k2 k_a1 k3 k7 k9) (mm_runV (as := [.ref a1, .ref 13, .ref b6, .int 32, .ref b8]) (st := []) cl_1 lk_X7_prove_X1_expand_60 rfl dX7_prove_20 rfl (Nat.le_of_ble_eq_true rfl) k2) rfl (fun h10 p11 => ?_)
  have k12 : mm_kd h10 a0 = 6 := mm_kd_app p11 k_a0 (by decide)
  have k13 : mm_kd h10 a1 = 5 := mm_kd_app p11 k_a1 (by decide)
  have k14 : mm_kd h10 a2 = 5 := mm_kd_app p11 k_a2 (by decide)
  have k15 : mm_kd h10 a3 = 5 := mm_kd_app p11 k_a3 (by decide)
  refine ok_aload_n (q := 24) dX7_prove_23 rfl rfl ?_
  refine ok_getR cl_6 (q := 27) (k := 3) dX7_prove_24 (Nat.le_of_ble_eq_true rfl) wd_360 (fun _ _ _ => rfl) kt_6_3 k12 rfl (fun b16 k17 => ?_)
  refine ok_getR cl_1 (q := 30) (k := 0) dX7_prove_27 (Nat.le_of_ble_eq_true rfl) wd_168 (fun _ _ _ => rfl) kt_1_0 k17 rfl (fun b18 k19 => ?_)
  refine ok_aload_n (q := 31) dX7_prove_30 rfl rfl ?_
  refine ok_aload_n (q := 32) dX7_prove_31 rfl rfl ?_
  refine ok_getR cl_6 (q := 35) (k := 5) dX7_prove_32 (Nat.le_of_ble_eq_true rfl) wd_362 (fun _ _ _ => rfl) kt_6_5 k12 rfl (fun b20 k21 => ?_)
  refine mm_cv (q := 38) (mt_X9_digest G b18 a2 b20 h10 k19 k14 k21) (mm_runV (as := [.ref a2, .ref b20]) (st := []) cl_8 lk_X7_prove_X9_digest_45 rfl dX7_prove_35 rfl (Nat.le_of_ble_eq_true rfl) k19) rfl (fun h22 p23 => ?_)
  have k24 : mm_kd h22 a0 = 6 := mm_kd_app p23 k12 (by decide)
  have k25 : mm_kd h22 a1 = 5 := mm_kd_app p23 k13 (by decide)
  have k26 : mm_kd h22 a2 = 5 := mm_kd_app p23 k14 (by decide)
  have k27 : mm_kd h22 a3 = 5 := mm_kd_app p23 k15 (by decide)
  refine ok_aload_n (q := 39) dX7_prove_38 rfl rfl ?_
  refine ok_getR cl_6 (q := 42) (k := 3) dX7_prove_39 (Nat.le_of_ble_eq_true rfl) wd_360 (fun _ _ _ => rfl) kt_6_3 k24 rfl (fun b28 k29 => ?_)
  refine ok_aload_n (q := 43) dX7_prove_42 rfl rfl ?_
  refine ok_getR cl_6 (q := 46) (k := 4) dX7_prove_43 (Nat.le_of_ble_eq_true rfl) wd_361 (fun _ _ _ => rfl) kt_6_4 k24 rfl (fun b30 k31 => ?_)
  refine ok_aload_n (q := 47) dX7_prove_46 rfl rfl ?_
  refine ok_getR cl_6 (q := 50) (k := 5) dX7_prove_47 (Nat.le_of_ble_eq_true rfl) wd_362 (fun _ _ _ => rfl) kt_6_5 k24 rfl (fun b32 k33 => ?_)
  refine ok_aload_n (q := 51) dX7_prove_50 rfl rfl ?_
  refine mm_cv (q := 54) (mt_X1_mac G b28 b30 b32 a3 h22 k29 k31 k33 k27) (mm_runV (as := [.ref b30, .ref b32, .ref a3]) (st := []) cl_1 lk_X7_prove_X1_mac_54 rfl dX7_prove_51 rfl (Nat.le_of_ble_eq_true rfl) k29) rfl (fun h34 p35 => ?_)
  have k36 : mm_kd h34 a0 = 6 := mm_kd_app p35 k24 (by decide)
  have k37 : mm_kd h34 a1 = 5 := mm_kd_app p35 k25 (by decide)
  have k38 : mm_kd h34 a2 = 5 := mm_kd_app p35 k26 (by decide)
  have k39 : mm_kd h34 a3 = 5 := mm_kd_app p35 k27 (by decide)
  exact ok_ret dX7_prove_54 rfl
def bd_X0_begin (a0 : Nat) (h : mm_H) : mm_O := if (mm_i h a0 5) = 0 then
  (mm_gr h a0 8 (fun b1 =>
  if (mm_i h b1 1) = 0 then
  (some (some (.int 0), h))
  else
  (mm_gr h a0 9 (fun b3 =>
  if (mm_i h b3 1) = 0 then
  (some (some (.int 0), h))
  else
  (mm_gr h a0 10 (fun b5 =>
  if (mm_i h b5 1) = 0 then
  (some (some (.int 0), h))
  else
  (mm_gr h a0 7 (fun b7 =>
  mm_gr h a0 8 (fun b9 =>
  mm_qv (bd_X7_prepare b7 b9 h) (fun h11 =>
  if (mm_i h11 a0 4) = 0 then
  (mm_gr h11 a0 6 (fun b14 =>
  mm_gr h11 b14 5 (fun b16 =>
  mm_gr h11 a0 10 (fun b18 =>
  mm_gr h11 a0 9 (fun b20 =>
  mm_qv (bd_X3_putClientHello b16 b18 b20 h11) (fun h22 =>
  mm_gr h22 a0 7 (fun b26 =>
  mm_gr h22 a0 7 (fun b28 =>
  mm_gr h22 b28 0 (fun b30 =>
  mm_gr h22 a0 6 (fun b32 =>
  mm_gr h22 b32 8 (fun b34 =>
  mm_qv (bd_X7_prove b26 b30 b16 b34 h22) (fun h36 =>
  mm_qv (bd_X6_putAll b16 6 h36) (fun h41 =>
  mm_gr h41 a0 6 (fun b45 =>
  mm_gr h41 b45 8 (fun b47 =>
  mm_qv (bd_X6_append b16 b47 h41) (fun h49 =>
  mm_gr h49 a0 11 (fun b53 =>
  mm_qv (bd_X6_copy b53 b16 h49) (fun h55 =>
  mm_qi (bd_X0_send a0 22 b16 h55) (fun v61 h59 =>
  mm_bh (mm_si h59 a0 5 1) (fun h64 =>
  some (some (.int 1), h64)))))))))))))))))))))
  else
  (mm_bh (mm_si h11 a0 5 4) (fun h66 =>
  some (some (.int 1), h66)))))))))))))
  else
  (some (some (.int 0), h))
set_option maxHeartbeats 4000000 in
set_option maxRecDepth 100000 in
theorem mt_X0_begin (G : mm_G) (a0 : Nat) (h : mm_H) (k_a0 : mm_kd h a0 = 0) : mm_Met G my_X0_begin [.ref a0] h (bd_X0_begin a0 h) := by
  refine mm_met (ls := [.ref a0, mm_U]) pn_RX0 (Nat.le_of_ble_eq_true rfl) rfl ?_
  unfold bd_X0_begin
  refine ok_aload_n (q := 1) dX0_begin_0 rfl rfl ?_
  refine ok_getI cl_0 (q := 4) (k := 5) dX0_begin_1 (Nat.le_of_ble_eq_true rfl) wd_386 (fun _ _ _ => rfl) k_a0 rfl ?_
  refine ok_if_ne (q := 7) (t := 37) dX0_begin_4 rfl rfl ?_ ?_
  · refine ok_iconst (q := 38) (v := 0) dX0_begin_37 ci_0 rfl ?_
    exact ok_iret (t := .boolean) dX0_begin_38 rfl (by decide)
  · refine ok_aload_n (q := 8) dX0_begin_7 rfl rfl ?_
    refine ok_getR cl_0 (q := 11) (k := 8) dX0_begin_8 (Nat.le_of_ble_eq_true rfl) wd_390 (fun _ _ _ => rfl) kt_0_8 k_a0 rfl (fun b1 k2 => ?_)
    refine ok_getI cl_5 (q := 14) (k := 1) dX0_begin_11 (Nat.le_of_ble_eq_true rfl) wd_128 (fun _ _ _ => rfl) k2 rfl ?_
    refine ok_if_eq (q := 17) (t := 37) dX0_begin_14 rfl rfl ?_ ?_
    · refine ok_iconst (q := 38) (v := 0) dX0_begin_37 ci_0 rfl ?_
      exact ok_iret (t := .boolean) dX0_begin_38 rfl (by decide)
    · refine ok_aload_n (q := 18) dX0_begin_17 rfl rfl ?_
      refine ok_getR cl_0 (q := 21) (k := 9) dX0_begin_18 (Nat.le_of_ble_eq_true rfl) wd_391 (fun _ _ _ => rfl) kt_0_9 k_a0 rfl (fun b3 k4 => ?_)
      refine ok_getI cl_5 (q := 24) (k := 1) dX0_begin_21 (Nat.le_of_ble_eq_true rfl) wd_128 (fun _ _ _ => rfl) k4 rfl ?_
      refine ok_if_eq (q := 27) (t := 37) dX0_begin_24 rfl rfl ?_ ?_
      · refine ok_iconst (q := 38) (v := 0) dX0_begin_37 ci_0 rfl ?_
        exact ok_iret (t := .boolean) dX0_begin_38 rfl (by decide)
      · refine ok_aload_n (q := 28) dX0_begin_27 rfl rfl ?_
        refine ok_getR cl_0 (q := 31) (k := 10) dX0_begin_28 (Nat.le_of_ble_eq_true rfl) wd_392 (fun _ _ _ => rfl) kt_0_10 k_a0 rfl (fun b5 k6 => ?_)
        refine ok_getI cl_5 (q := 34) (k := 1) dX0_begin_31 (Nat.le_of_ble_eq_true rfl) wd_128 (fun _ _ _ => rfl) k6 rfl ?_
        refine ok_if_ne (q := 37) (t := 39) dX0_begin_34 rfl rfl ?_ ?_
        · refine ok_aload_n (q := 40) dX0_begin_39 rfl rfl ?_
          refine ok_getR cl_0 (q := 43) (k := 7) dX0_begin_40 (Nat.le_of_ble_eq_true rfl) wd_389 (fun _ _ _ => rfl) kt_0_7 k_a0 rfl (fun b7 k8 => ?_)
          refine ok_aload_n (q := 44) dX0_begin_43 rfl rfl ?_
          refine ok_getR cl_0 (q := 47) (k := 8) dX0_begin_44 (Nat.le_of_ble_eq_true rfl) wd_390 (fun _ _ _ => rfl) kt_0_8 k_a0 rfl (fun b9 k10 => ?_)
          refine mm_cv (q := 50) (mt_X7_prepare G b7 b9 h k8 k10) (mm_runV (as := [.ref b9]) (st := []) cl_6 lk_X0_begin_X7_prepare_111 rfl dX0_begin_47 rfl (Nat.le_of_ble_eq_true rfl) k8) rfl (fun h11 p12 => ?_)
          have k13 : mm_kd h11 a0 = 0 := mm_kd_app p12 k_a0 (by decide)
          refine ok_aload_n (q := 51) dX0_begin_50 rfl rfl ?_
          refine ok_getI cl_0 (q := 54) (k := 4) dX0_begin_51 (Nat.le_of_ble_eq_true rfl) wd_384 (fun _ _ _ => rfl) k13 rfl ?_
          refine ok_if_eq (q := 57) (t := 64) dX0_begin_54 rfl rfl ?_ ?_
          · refine ok_aload_n (q := 65) dX0_begin_64 rfl rfl ?_
            refine ok_getR cl_0 (q := 68) (k := 6) dX0_begin_65 (Nat.le_of_ble_eq_true rfl) wd_388 (fun _ _ _ => rfl) kt_0_6 k13 rfl (fun b14 k15 => ?_)
            refine ok_getR cl_9 (q := 71) (k := 5) dX0_begin_68 (Nat.le_of_ble_eq_true rfl) wd_252 (fun _ _ _ => rfl) kt_9_5 k15 rfl (fun b16 k17 => ?_)
            refine ok_astore_n (q := 72) (ls' := [.ref a0, .ref b16]) dX0_begin_71 (Nat.le_of_ble_eq_true rfl) rfl rfl ?_
            refine ok_aload_n (q := 73) dX0_begin_72 rfl rfl ?_
            refine ok_aload_n (q := 74) dX0_begin_73 rfl rfl ?_
            refine ok_getR cl_0 (q := 77) (k := 10) dX0_begin_74 (Nat.le_of_ble_eq_true rfl) wd_392 (fun _ _ _ => rfl) kt_0_10 k13 rfl (fun b18 k19 => ?_)
            refine ok_aload_n (q := 78) dX0_begin_77 rfl rfl ?_
            refine ok_getR cl_0 (q := 81) (k := 9) dX0_begin_78 (Nat.le_of_ble_eq_true rfl) wd_391 (fun _ _ _ => rfl) kt_0_9 k13 rfl (fun b20 k21 => ?_)
            refine mm_cv (q := 84) (mt_X3_putClientHello G b16 b18 b20 h11 k17 k19 k21) (mm_runS (as := [.ref b16, .ref b18, .ref b20]) (st := []) lk_X0_begin_X3_putClientHello_117 dX0_begin_81 rfl (Nat.le_of_ble_eq_true rfl)) rfl (fun h22 p23 => ?_)
            have k24 : mm_kd h22 a0 = 0 := mm_kd_app p23 k13 (by decide)
            have k25 : mm_kd h22 b16 = 5 := mm_kd_app p23 k17 (by decide)
            refine ok_aload_n (q := 85) dX0_begin_84 rfl rfl ?_
            refine ok_getR cl_0 (q := 88) (k := 7) dX0_begin_85 (Nat.le_of_ble_eq_true rfl) wd_389 (fun _ _ _ => rfl) kt_0_7 k24 rfl (fun b26 k27 => ?_)
            refine ok_aload_n (q := 89) dX0_begin_88 rfl rfl ?_
            refine ok_getR cl_0 (q := 92) (k := 7) dX0_begin_89 (Nat.le_of_ble_eq_true rfl) wd_389 (fun _ _ _ => rfl) kt_0_7 k24 rfl (fun b28 k29 => ?_)
            refine ok_getR cl_6 (q := 95) (k := 0) dX0_begin_92 (Nat.le_of_ble_eq_true rfl) wd_355 (fun _ _ _ => rfl) kt_6_0 k29 rfl (fun b30 k31 => ?_)
            refine ok_aload_n (q := 96) dX0_begin_95 rfl rfl ?_
            refine ok_aload_n (q := 97) dX0_begin_96 rfl rfl ?_
            refine ok_getR cl_0 (q := 100) (k := 6) dX0_begin_97 (Nat.le_of_ble_eq_true rfl) wd_388 (fun _ _ _ => rfl) kt_0_6 k24 rfl (fun b32 k33 => ?_)
            refine ok_getR cl_9 (q := 103) (k := 8) dX0_begin_100 (Nat.le_of_ble_eq_true rfl) wd_259 (fun _ _ _ => rfl) kt_9_8 k33 rfl (fun b34 k35 => ?_)
            refine mm_cv (q := 106) (mt_X7_prove G b26 b30 b16 b34 h22 k27 k31 k25 k35) (mm_runV (as := [.ref b30, .ref b16, .ref b34]) (st := []) cl_6 lk_X0_begin_X7_prove_127 rfl dX0_begin_103 rfl (Nat.le_of_ble_eq_true rfl) k27) rfl (fun h36 p37 => ?_)
            have k38 : mm_kd h36 a0 = 0 := mm_kd_app p37 k24 (by decide)
            have k39 : mm_kd h36 b16 = 5 := mm_kd_app p37 k25 (by decide)
            refine ok_aload_n (q := 107) dX0_begin_106 rfl rfl ?_
            refine ok_gets (q := 110) (a := 6) (by decide +kernel) dX0_begin_107 wd_631 (by decide) rfl (fun k40 => ?_)
            refine mm_cv (q := 113) (mt_X6_putAll G b16 6 h36 k39 k40) (mm_runV (as := [.ref 6]) (st := []) cl_5 lk_X0_begin_X6_putAll_133 rfl dX0_begin_110 rfl (Nat.le_of_ble_eq_true rfl) k39) rfl (fun h41 p42 => ?_)
            have k43 : mm_kd h41 a0 = 0 := mm_kd_app p42 k38 (by decide)
            have k44 : mm_kd h41 b16 = 5 := mm_kd_app p42 k39 (by decide)
            refine ok_aload_n (q := 114) dX0_begin_113 rfl rfl ?_
            refine ok_aload_n (q := 115) dX0_begin_114 rfl rfl ?_
            refine ok_getR cl_0 (q := 118) (k := 6) dX0_begin_115 (Nat.le_of_ble_eq_true rfl) wd_388 (fun _ _ _ => rfl) kt_0_6 k43 rfl (fun b45 k46 => ?_)
            refine ok_getR cl_9 (q := 121) (k := 8) dX0_begin_118 (Nat.le_of_ble_eq_true rfl) wd_259 (fun _ _ _ => rfl) kt_9_8 k46 rfl (fun b47 k48 => ?_)
            refine mm_cv (q := 124) (mt_X6_append G b16 b47 h41 k44 k48) (mm_runV (as := [.ref b47]) (st := []) cl_5 lk_X0_begin_X6_append_137 rfl dX0_begin_121 rfl (Nat.le_of_ble_eq_true rfl) k44) rfl (fun h49 p50 => ?_)
            have k51 : mm_kd h49 a0 = 0 := mm_kd_app p50 k43 (by decide)
            have k52 : mm_kd h49 b16 = 5 := mm_kd_app p50 k44 (by decide)
            refine ok_aload_n (q := 125) dX0_begin_124 rfl rfl ?_
            refine ok_getR cl_0 (q := 128) (k := 11) dX0_begin_125 (Nat.le_of_ble_eq_true rfl) wd_393 (fun _ _ _ => rfl) kt_0_11 k51 rfl (fun b53 k54 => ?_)
            refine ok_aload_n (q := 129) dX0_begin_128 rfl rfl ?_
            refine mm_cv (q := 132) (mt_X6_copy G b53 b16 h49 k54 k52) (mm_runV (as := [.ref b16]) (st := []) cl_5 lk_X0_begin_X6_copy_107 rfl dX0_begin_129 rfl (Nat.le_of_ble_eq_true rfl) k54) rfl (fun h55 p56 => ?_)
            have k57 : mm_kd h55 a0 = 0 := mm_kd_app p56 k51 (by decide)
            have k58 : mm_kd h55 b16 = 5 := mm_kd_app p56 k52 (by decide)
            refine ok_aload_n (q := 133) dX0_begin_132 rfl rfl ?_
            refine ok_bipush (q := 135) (v := 22) dX0_begin_133 cb_22 rfl ?_
            refine ok_aload_n (q := 136) dX0_begin_135 rfl rfl ?_
            refine mm_ci (q := 139) (mt_X0_send G a0 22 b16 h55 k57 k58) (mm_runV (as := [.int 22, .ref b16]) (st := []) cl_0 lk_X0_begin_X0_send_140 rfl dX0_begin_136 rfl (Nat.le_of_ble_eq_true rfl) k57) rfl (fun v61 h59 p60 => ?_)
            have k62 : mm_kd h59 a0 = 0 := mm_kd_app p60 k57 (by decide)
            have k63 : mm_kd h59 b16 = 5 := mm_kd_app p60 k58 (by decide)
            refine ok_pop (q := 140) dX0_begin_139 rfl rfl ?_
            refine ok_aload_n (q := 141) dX0_begin_140 rfl rfl ?_
            refine ok_iconst (q := 142) (v := 1) dX0_begin_141 ci_1 rfl ?_
            refine ok_putI cl_0 (q := 145) (k := 5) dX0_begin_142 (Nat.le_of_ble_eq_true rfl) wd_386 (Or.inl rfl) (fun _ _ _ => rfl) rfl rfl k62 rfl (bh_ok (fun h64 e65 => ?_))
            have e65 : h64.1 = h59.1 := e65
            refine ok_iconst (q := 146) (v := 1) dX0_begin_145 ci_1 rfl ?_
            exact ok_iret (t := .boolean) dX0_begin_146 rfl (by decide)
          · refine ok_aload_n (q := 58) dX0_begin_57 rfl rfl ?_
            refine ok_iconst (q := 59) (v := 4) dX0_begin_58 ci_4 rfl ?_
            refine ok_putI cl_0 (q := 62) (k := 5) dX0_begin_59 (Nat.le_of_ble_eq_true rfl) wd_386 (Or.inl rfl) (fun _ _ _ => rfl) rfl rfl k13 rfl (bh_ok (fun h66 e67 => ?_))
            have e67 : h66.1 = h11.1 := e67
            refine ok_iconst (q := 63) (v := 1) dX0_begin_62 ci_1 rfl ?_
            exact ok_iret (t := .boolean) dX0_begin_63 rfl (by decide)
        · refine ok_iconst (q := 38) (v := 0) dX0_begin_37 ci_0 rfl ?_
          exact ok_iret (t := .boolean) dX0_begin_38 rfl (by decide)
def bd_X0_speak (a0 : Nat) (a1 : Nat) (h : mm_H) : mm_O := if (mm_i h a0 5) = (6 : Int32) then
  (mm_qi (bd_X0_send a0 23 a1 h) (fun v3 h1 =>
  if v3 = 0 then
  (some (some (.int 0), h1))
  else
  (some (some (.int 1), h1))))
  else
  (some (some (.int 0), h))
set_option maxHeartbeats 4000000 in
set_option maxRecDepth 100000 in
theorem mt_X0_speak (G : mm_G) (a0 : Nat) (a1 : Nat) (h : mm_H) (k_a0 : mm_kd h a0 = 0) (k_a1 : mm_kd h a1 = 5) : mm_Met G my_X0_speak [.ref a0, .ref a1] h (bd_X0_speak a0 a1 h) := by
  refine mm_met (ls := [.ref a0, .ref a1]) pn_RX0 (Nat.le_of_ble_eq_true rfl) rfl ?_
  unfold bd_X0_speak
  refine ok_aload_n (q := 1) dX0_speak_0 rfl rfl ?_
  refine ok_getI cl_0 (q := 4) (k := 5) dX0_speak_1 (Nat.le_of_ble_eq_true rfl) wd_386 (fun _ _ _ => rfl) k_a0 rfl ?_
  refine ok_bipush (q := 6) (v := 6) dX0_speak_4 cb_6 rfl ?_
  refine ok_icmp_ne (q := 9) (t := 23) dX0_speak_6 rfl rfl ?_ ?_
  · refine ok_iconst (q := 24) (v := 0) dX0_speak_23 ci_0 rfl ?_
    exact ok_iret (t := .boolean) dX0_speak_24 rfl (by decide)
  · refine ok_aload_n (q := 10) dX0_speak_9 rfl rfl ?_
    refine ok_bipush (q := 12) (v := 23) dX0_speak_10 cb_23 rfl ?_
    refine ok_aload_n (q := 13) dX0_speak_12 rfl rfl ?_
    refine mm_ci (q := 16) (mt_X0_send G a0 23 a1 h k_a0 k_a1) (mm_runV (as := [.int 23, .ref a1]) (st := []) cl_0 lk_X0_speak_X0_send_140 rfl dX0_speak_13 rfl (Nat.le_of_ble_eq_true rfl) k_a0) rfl (fun v3 h1 p2 => ?_)
    have k4 : mm_kd h1 a0 = 0 := mm_kd_app p2 k_a0 (by decide)
    have k5 : mm_kd h1 a1 = 5 := mm_kd_app p2 k_a1 (by decide)
    refine ok_if_eq (q := 19) (t := 23) dX0_speak_16 rfl rfl ?_ ?_
    · refine ok_iconst (q := 24) (v := 0) dX0_speak_23 ci_0 rfl ?_
      exact ok_iret (t := .boolean) dX0_speak_24 rfl (by decide)
    · refine ok_iconst (q := 20) (v := 1) dX0_speak_19 ci_1 rfl ?_
      refine ok_goto (q := 24) dX0_speak_20 rfl ?_
      exact ok_iret (t := .boolean) dX0_speak_24 rfl (by decide)
def bd_X2_load (a0 : Nat) (a1 : Nat) (a2 : Nat) (a3 : Nat) (a4 : Nat) (h : mm_H) : mm_O := mm_gr h a0 0 (fun b1 =>
  mm_qv (bd_X1_expand a1 a2 a3 a4 32 b1 h) (fun h3 =>
  mm_gr h3 a0 0 (fun b10 =>
  mm_gr h3 a1 1 (fun b13 =>
  mm_gr h3 a0 1 (fun b15 =>
  mm_qv (bd_X1_expand a1 b10 15 b13 32 b15 h3) (fun h17 =>
  mm_gr h17 a0 0 (fun b24 =>
  mm_gr h17 a1 1 (fun b27 =>
  mm_gr h17 a0 2 (fun b29 =>
  mm_qv (bd_X1_expand a1 b24 16 b27 12 b29 h17) (fun h31 =>
  mm_bh (mm_si h31 a0 3 0) (fun h38 =>
  mm_bh (mm_si h38 a0 4 1) (fun h40 =>
  some (none, h40)))))))))))))
set_option maxHeartbeats 4000000 in
set_option maxRecDepth 100000 in
theorem mt_X2_load (G : mm_G) (a0 : Nat) (a1 : Nat) (a2 : Nat) (a3 : Nat) (a4 : Nat) (h : mm_H) (k_a0 : mm_kd h a0 = 2) (k_a1 : mm_kd h a1 = 1) (k_a2 : mm_kd h a2 = 5) (k_a3 : mm_kd h a3 = 26) (k_a4 : mm_kd h a4 = 5) : mm_Met G my_X2_load [.ref a0, .ref a1, .ref a2, .ref a3, .ref a4] h (bd_X2_load a0 a1 a2 a3 a4 h) := by
  refine mm_met (ls := [.ref a0, .ref a1, .ref a2, .ref a3, .ref a4]) pn_RX2 (Nat.le_of_ble_eq_true rfl) rfl ?_
  unfold bd_X2_load
  refine ok_aload_n (q := 1) dX2_load_0 rfl rfl ?_
  refine ok_aload_n (q := 2) dX2_load_1 rfl rfl ?_
  refine ok_aload_n (q := 3) dX2_load_2 rfl rfl ?_
  refine ok_aload (q := 5) dX2_load_3 rfl rfl ?_
  refine ok_bipush (q := 7) (v := 32) dX2_load_5 cb_32 rfl ?_
  refine ok_aload_n (q := 8) dX2_load_7 rfl rfl ?_
  refine ok_getR cl_2 (q := 11) (k := 0) dX2_load_8 (Nat.le_of_ble_eq_true rfl) wd_322 (fun _ _ _ => rfl) kt_2_0 k_a0 rfl (fun b1 k2 => ?_)
  refine mm_cv (q := 14) (mt_X1_expand G a1 a2 a3 a4 32 b1 h k_a1 k_a2 k_a3 k_a4 k2) (mm_runV (as := [.ref a2, .ref a3, .ref a4, .int 32, .ref b1]) (st := []) cl_1 lk_X2_load_X1_expand_34 rfl dX2_load_11 rfl (Nat.le_of_ble_eq_true rfl) k_a1) rfl (fun h3 p4 => ?_)
  have k5 : mm_kd h3 a0 = 2 := mm_kd_app p4 k_a0 (by decide)
  have k6 : mm_kd h3 a1 = 1 := mm_kd_app p4 k_a1 (by decide)
  have k7 : mm_kd h3 a2 = 5 := mm_kd_app p4 k_a2 (by decide)
  have k8 : mm_kd h3 a3 = 26 := mm_kd_app p4 k_a3 (by decide)
  have k9 : mm_kd h3 a4 = 5 := mm_kd_app p4 k_a4 (by decide)
  refine ok_aload_n (q := 15) dX2_load_14 rfl rfl ?_
  refine ok_aload_n (q := 16) dX2_load_15 rfl rfl ?_
  refine ok_getR cl_2 (q := 19) (k := 0) dX2_load_16 (Nat.le_of_ble_eq_true rfl) wd_322 (fun _ _ _ => rfl) kt_2_0 k5 rfl (fun b10 k11 => ?_)
  refine ok_ldcS (q := 21) (a := 15) (tx := "key") (by decide +kernel) dX2_load_19 (by decide) rfl (fun k12 => ?_)
  refine ok_aload_n (q := 22) dX2_load_21 rfl rfl ?_
  refine ok_getR cl_1 (q := 25) (k := 1) dX2_load_22 (Nat.le_of_ble_eq_true rfl) wd_171 (fun _ _ _ => rfl) kt_1_1 k6 rfl (fun b13 k14 => ?_)
  refine ok_bipush (q := 27) (v := 32) dX2_load_25 cb_32 rfl ?_
  refine ok_aload_n (q := 28) dX2_load_27 rfl rfl ?_
  refine ok_getR cl_2 (q := 31) (k := 1) dX2_load_28 (Nat.le_of_ble_eq_true rfl) wd_325 (fun _ _ _ => rfl) kt_2_1 k5 rfl (fun b15 k16 => ?_)
  refine mm_cv (q := 34) (mt_X1_expand G a1 b10 15 b13 32 b15 h3 k6 k11 k12 k14 k16) (mm_runV (as := [.ref b10, .ref 15, .ref b13, .int 32, .ref b15]) (st := []) cl_1 lk_X2_load_X1_expand_34 rfl dX2_load_31 rfl (Nat.le_of_ble_eq_true rfl) k6) rfl (fun h17 p18 => ?_)
  have k19 : mm_kd h17 a0 = 2 := mm_kd_app p18 k5 (by decide)
  have k20 : mm_kd h17 a1 = 1 := mm_kd_app p18 k6 (by decide)
  have k21 : mm_kd h17 a2 = 5 := mm_kd_app p18 k7 (by decide)
  have k22 : mm_kd h17 a3 = 26 := mm_kd_app p18 k8 (by decide)
  have k23 : mm_kd h17 a4 = 5 := mm_kd_app p18 k9 (by decide)
  refine ok_aload_n (q := 35) dX2_load_34 rfl rfl ?_
  refine ok_aload_n (q := 36) dX2_load_35 rfl rfl ?_
  refine ok_getR cl_2 (q := 39) (k := 0) dX2_load_36 (Nat.le_of_ble_eq_true rfl) wd_322 (fun _ _ _ => rfl) kt_2_0 k19 rfl (fun b24 k25 => ?_)
  refine ok_ldcS (q := 41) (a := 16) (tx := "iv") (by decide +kernel) dX2_load_39 (by decide) rfl (fun k26 => ?_)
  refine ok_aload_n (q := 42) dX2_load_41 rfl rfl ?_
  refine ok_getR cl_1 (q := 45) (k := 1) dX2_load_42 (Nat.le_of_ble_eq_true rfl) wd_171 (fun _ _ _ => rfl) kt_1_1 k20 rfl (fun b27 k28 => ?_)
  refine ok_bipush (q := 47) (v := 12) dX2_load_45 cb_12 rfl ?_
  refine ok_aload_n (q := 48) dX2_load_47 rfl rfl ?_
  refine ok_getR cl_2 (q := 51) (k := 2) dX2_load_48 (Nat.le_of_ble_eq_true rfl) wd_327 (fun _ _ _ => rfl) kt_2_2 k19 rfl (fun b29 k30 => ?_)
  refine mm_cv (q := 54) (mt_X1_expand G a1 b24 16 b27 12 b29 h17 k20 k25 k26 k28 k30) (mm_runV (as := [.ref b24, .ref 16, .ref b27, .int 12, .ref b29]) (st := []) cl_1 lk_X2_load_X1_expand_34 rfl dX2_load_51 rfl (Nat.le_of_ble_eq_true rfl) k20) rfl (fun h31 p32 => ?_)
  have k33 : mm_kd h31 a0 = 2 := mm_kd_app p32 k19 (by decide)
  have k34 : mm_kd h31 a1 = 1 := mm_kd_app p32 k20 (by decide)
  have k35 : mm_kd h31 a2 = 5 := mm_kd_app p32 k21 (by decide)
  have k36 : mm_kd h31 a3 = 26 := mm_kd_app p32 k22 (by decide)
  have k37 : mm_kd h31 a4 = 5 := mm_kd_app p32 k23 (by decide)
  refine ok_aload_n (q := 55) dX2_load_54 rfl rfl ?_
  refine ok_iconst (q := 56) (v := 0) dX2_load_55 ci_0 rfl ?_
  refine ok_putI cl_2 (q := 59) (k := 3) dX2_load_56 (Nat.le_of_ble_eq_true rfl) wd_329 (Or.inl rfl) (fun _ _ _ => rfl) rfl rfl k33 rfl (bh_ok (fun h38 e39 => ?_))
  have e39 : h38.1 = h31.1 := e39
  refine ok_aload_n (q := 60) dX2_load_59 rfl rfl ?_
  refine ok_iconst (q := 61) (v := 1) dX2_load_60 ci_1 rfl ?_
  refine ok_putI cl_2 (q := 64) (k := 4) dX2_load_61 (Nat.le_of_ble_eq_true rfl) wd_332 (Or.inl rfl) (fun _ _ _ => rfl) (by decide) (by decide) (mm_ke e39 k33) rfl (bh_ok (fun h40 e41 => ?_))
  have e41 : h40.1 = h31.1 := e41.trans e39
  exact ok_ret dX2_load_64 rfl
def bd_X3_putUpdate (a0 : Nat) (x1 : Int32) (h : mm_H) : mm_O := mm_qv (bd_X3_putHead a0 24 1 h) (fun h1 =>
  mm_qv (bd_X6_put a0 x1 h1) (fun h4 =>
  some (none, h4)))
set_option maxHeartbeats 4000000 in
set_option maxRecDepth 100000 in
theorem mt_X3_putUpdate (G : mm_G) (a0 : Nat) (x1 : Int32) (h : mm_H) (k_a0 : mm_kd h a0 = 5) : mm_Met G my_X3_putUpdate [.ref a0, .int x1] h (bd_X3_putUpdate a0 x1 h) := by
  refine mm_met (ls := [.ref a0, .int x1]) pn_RX3 (Nat.le_of_ble_eq_true rfl) rfl ?_
  unfold bd_X3_putUpdate
  refine ok_aload_n (q := 1) dX3_putUpdate_0 rfl rfl ?_
  refine ok_bipush (q := 3) (v := 24) dX3_putUpdate_1 cb_24 rfl ?_
  refine ok_iconst (q := 4) (v := 1) dX3_putUpdate_3 ci_1 rfl ?_
  refine mm_cv (q := 7) (mt_X3_putHead G a0 24 1 h k_a0) (mm_runS (as := [.ref a0, .int 24, .int 1]) (st := []) lk_X3_putUpdate_X3_putHead_28 dX3_putUpdate_4 rfl (Nat.le_of_ble_eq_true rfl)) rfl (fun h1 p2 => ?_)
  have k3 : mm_kd h1 a0 = 5 := mm_kd_app p2 k_a0 (by decide)
  refine ok_aload_n (q := 8) dX3_putUpdate_7 rfl rfl ?_
  refine ok_iload_n (q := 9) dX3_putUpdate_8 rfl rfl ?_
  refine mm_cv (q := 12) (mt_X6_put G a0 x1 h1 k3) (mm_runV (as := [.int x1]) (st := []) cl_5 lk_X3_putUpdate_X6_put_16 rfl dX3_putUpdate_9 rfl (Nat.le_of_ble_eq_true rfl) k3) rfl (fun h4 p5 => ?_)
  have k6 : mm_kd h4 a0 = 5 := mm_kd_app p5 k3 (by decide)
  exact ok_ret dX3_putUpdate_12 rfl
def bd_X0_renew (a0 : Nat) (x1 : Int32) (h : mm_H) : mm_O := if (mm_i h a0 5) = (6 : Int32) then
  (mm_gr h a0 6 (fun b1 =>
  mm_gr h b1 5 (fun b3 =>
  mm_qv (bd_X3_putUpdate b3 x1 h) (fun h5 =>
  mm_gr h5 a0 6 (fun b8 =>
  mm_gr h5 b8 5 (fun b10 =>
  mm_qi (bd_X0_send a0 22 b10 h5) (fun v14 h12 =>
  if v14 = 0 then
  (some (some (.int 0), h12))
  else
  (mm_gr h12 a0 2 (fun b16 =>
  mm_gr h12 a0 6 (fun b18 =>
  mm_gr h12 b18 1 (fun b20 =>
  mm_gr h12 a0 2 (fun b22 =>
  mm_gr h12 b22 0 (fun b24 =>
  mm_gr h12 a0 6 (fun b27 =>
  mm_gr h12 b27 1 (fun b29 =>
  mm_gr h12 b29 1 (fun b31 =>
  mm_qv (bd_X2_load b16 b20 b24 14 b31 h12) (fun h33 =>
  some (some (.int 1), h33))))))))))))))))))
  else
  (some (some (.int 0), h))
set_option maxHeartbeats 4000000 in
set_option maxRecDepth 100000 in
theorem mt_X0_renew (G : mm_G) (a0 : Nat) (x1 : Int32) (h : mm_H) (k_a0 : mm_kd h a0 = 0) : mm_Met G my_X0_renew [.ref a0, .int x1] h (bd_X0_renew a0 x1 h) := by
  refine mm_met (ls := [.ref a0, .int x1]) pn_RX0 (Nat.le_of_ble_eq_true rfl) rfl ?_
  unfold bd_X0_renew
  refine ok_aload_n (q := 1) dX0_renew_0 rfl rfl ?_
  refine ok_getI cl_0 (q := 4) (k := 5) dX0_renew_1 (Nat.le_of_ble_eq_true rfl) wd_386 (fun _ _ _ => rfl) k_a0 rfl ?_
  refine ok_bipush (q := 6) (v := 6) dX0_renew_4 cb_6 rfl ?_
  refine ok_icmp_eq (q := 9) (t := 11) dX0_renew_6 rfl rfl ?_ ?_
  · refine ok_aload_n (q := 12) dX0_renew_11 rfl rfl ?_
    refine ok_getR cl_0 (q := 15) (k := 6) dX0_renew_12 (Nat.le_of_ble_eq_true rfl) wd_388 (fun _ _ _ => rfl) kt_0_6 k_a0 rfl (fun b1 k2 => ?_)
    refine ok_getR cl_9 (q := 18) (k := 5) dX0_renew_15 (Nat.le_of_ble_eq_true rfl) wd_252 (fun _ _ _ => rfl) kt_9_5 k2 rfl (fun b3 k4 => ?_)
    refine ok_iload_n (q := 19) dX0_renew_18 rfl rfl ?_
    refine mm_cv (q := 22) (mt_X3_putUpdate G b3 x1 h k4) (mm_runS (as := [.ref b3, .int x1]) (st := []) lk_X0_renew_X3_putUpdate_144 dX0_renew_19 rfl (Nat.le_of_ble_eq_true rfl)) rfl (fun h5 p6 => ?_)
    have k7 : mm_kd h5 a0 = 0 := mm_kd_app p6 k_a0 (by decide)
    refine ok_aload_n (q := 23) dX0_renew_22 rfl rfl ?_
    refine ok_bipush (q := 25) (v := 22) dX0_renew_23 cb_22 rfl ?_
    refine ok_aload_n (q := 26) dX0_renew_25 rfl rfl ?_
    refine ok_getR cl_0 (q := 29) (k := 6) dX0_renew_26 (Nat.le_of_ble_eq_true rfl) wd_388 (fun _ _ _ => rfl) kt_0_6 k7 rfl (fun b8 k9 => ?_)
    refine ok_getR cl_9 (q := 32) (k := 5) dX0_renew_29 (Nat.le_of_ble_eq_true rfl) wd_252 (fun _ _ _ => rfl) kt_9_5 k9 rfl (fun b10 k11 => ?_)
    refine mm_ci (q := 35) (mt_X0_send G a0 22 b10 h5 k7 k11) (mm_runV (as := [.int 22, .ref b10]) (st := []) cl_0 lk_X0_renew_X0_send_140 rfl dX0_renew_32 rfl (Nat.le_of_ble_eq_true rfl) k7) rfl (fun v14 h12 p13 => ?_)
    have k15 : mm_kd h12 a0 = 0 := mm_kd_app p13 k7 (by decide)
    refine ok_if_ne (q := 38) (t := 40) dX0_renew_35 rfl rfl ?_ ?_
    · refine ok_aload_n (q := 41) dX0_renew_40 rfl rfl ?_
      refine ok_getR cl_0 (q := 44) (k := 2) dX0_renew_41 (Nat.le_of_ble_eq_true rfl) wd_380 (fun _ _ _ => rfl) kt_0_2 k15 rfl (fun b16 k17 => ?_)
      refine ok_aload_n (q := 45) dX0_renew_44 rfl rfl ?_
      refine ok_getR cl_0 (q := 48) (k := 6) dX0_renew_45 (Nat.le_of_ble_eq_true rfl) wd_388 (fun _ _ _ => rfl) kt_0_6 k15 rfl (fun b18 k19 => ?_)
      refine ok_getR cl_9 (q := 51) (k := 1) dX0_renew_48 (Nat.le_of_ble_eq_true rfl) wd_244 (fun _ _ _ => rfl) kt_9_1 k19 rfl (fun b20 k21 => ?_)
      refine ok_aload_n (q := 52) dX0_renew_51 rfl rfl ?_
      refine ok_getR cl_0 (q := 55) (k := 2) dX0_renew_52 (Nat.le_of_ble_eq_true rfl) wd_380 (fun _ _ _ => rfl) kt_0_2 k15 rfl (fun b22 k23 => ?_)
      refine ok_getR cl_2 (q := 58) (k := 0) dX0_renew_55 (Nat.le_of_ble_eq_true rfl) wd_323 (fun _ _ _ => rfl) kt_2_0 k23 rfl (fun b24 k25 => ?_)
      refine ok_ldcS (q := 60) (a := 14) (tx := "traffic upd") (by decide +kernel) dX0_renew_58 (by decide) rfl (fun k26 => ?_)
      refine ok_aload_n (q := 61) dX0_renew_60 rfl rfl ?_
      refine ok_getR cl_0 (q := 64) (k := 6) dX0_renew_61 (Nat.le_of_ble_eq_true rfl) wd_388 (fun _ _ _ => rfl) kt_0_6 k15 rfl (fun b27 k28 => ?_)
      refine ok_getR cl_9 (q := 67) (k := 1) dX0_renew_64 (Nat.le_of_ble_eq_true rfl) wd_244 (fun _ _ _ => rfl) kt_9_1 k28 rfl (fun b29 k30 => ?_)
      refine ok_getR cl_1 (q := 70) (k := 1) dX0_renew_67 (Nat.le_of_ble_eq_true rfl) wd_172 (fun _ _ _ => rfl) kt_1_1 k30 rfl (fun b31 k32 => ?_)
      refine mm_cv (q := 73) (mt_X2_load G b16 b20 b24 14 b31 h12 k17 k21 k25 k26 k32) (mm_runV (as := [.ref b20, .ref b24, .ref 14, .ref b31]) (st := []) cl_2 lk_X0_renew_X2_load_158 rfl dX0_renew_70 rfl (Nat.le_of_ble_eq_true rfl) k17) rfl (fun h33 p34 => ?_)
      have k35 : mm_kd h33 a0 = 0 := mm_kd_app p34 k15 (by decide)
      refine ok_iconst (q := 74) (v := 1) dX0_renew_73 ci_1 rfl ?_
      exact ok_iret (t := .boolean) dX0_renew_74 rfl (by decide)
    · refine ok_iconst (q := 39) (v := 0) dX0_renew_38 ci_0 rfl ?_
      exact ok_iret (t := .boolean) dX0_renew_39 rfl (by decide)
  · refine ok_iconst (q := 10) (v := 0) dX0_renew_9 ci_0 rfl ?_
    exact ok_iret (t := .boolean) dX0_renew_10 rfl (by decide)
def bd_X3_putAlert (a0 : Nat) (x1 : Int32) (x2 : Int32) (h : mm_H) : mm_O := mm_qv (bd_X6_clear a0 h) (fun h1 =>
  mm_qv (bd_X6_put a0 x1 h1) (fun h4 =>
  mm_qv (bd_X6_put a0 x2 h4) (fun h7 =>
  some (none, h7))))
set_option maxHeartbeats 4000000 in
set_option maxRecDepth 100000 in
theorem mt_X3_putAlert (G : mm_G) (a0 : Nat) (x1 : Int32) (x2 : Int32) (h : mm_H) (k_a0 : mm_kd h a0 = 5) : mm_Met G my_X3_putAlert [.ref a0, .int x1, .int x2] h (bd_X3_putAlert a0 x1 x2 h) := by
  refine mm_met (ls := [.ref a0, .int x1, .int x2]) pn_RX3 (Nat.le_of_ble_eq_true rfl) rfl ?_
  unfold bd_X3_putAlert
  refine ok_aload_n (q := 1) dX3_putAlert_0 rfl rfl ?_
  refine mm_cv (q := 4) (mt_X6_clear G a0 h k_a0) (mm_runV (as := []) (st := []) cl_5 lk_X3_putAlert_X6_clear_11 rfl dX3_putAlert_1 rfl (Nat.le_of_ble_eq_true rfl) k_a0) rfl (fun h1 p2 => ?_)
  have k3 : mm_kd h1 a0 = 5 := mm_kd_app p2 k_a0 (by decide)
  refine ok_aload_n (q := 5) dX3_putAlert_4 rfl rfl ?_
  refine ok_iload_n (q := 6) dX3_putAlert_5 rfl rfl ?_
  refine mm_cv (q := 9) (mt_X6_put G a0 x1 h1 k3) (mm_runV (as := [.int x1]) (st := []) cl_5 lk_X3_putAlert_X6_put_16 rfl dX3_putAlert_6 rfl (Nat.le_of_ble_eq_true rfl) k3) rfl (fun h4 p5 => ?_)
  have k6 : mm_kd h4 a0 = 5 := mm_kd_app p5 k3 (by decide)
  refine ok_aload_n (q := 10) dX3_putAlert_9 rfl rfl ?_
  refine ok_iload_n (q := 11) dX3_putAlert_10 rfl rfl ?_
  refine mm_cv (q := 14) (mt_X6_put G a0 x2 h4 k6) (mm_runV (as := [.int x2]) (st := []) cl_5 lk_X3_putAlert_X6_put_16 rfl dX3_putAlert_11 rfl (Nat.le_of_ble_eq_true rfl) k6) rfl (fun h7 p8 => ?_)
  have k9 : mm_kd h7 a0 = 5 := mm_kd_app p8 k6 (by decide)
  exact ok_ret dX3_putAlert_14 rfl
def bd_X0_shut (a0 : Nat) (h : mm_H) : mm_O := if (mm_i h a0 5) = (6 : Int32) then
  (mm_gr h a0 6 (fun b1 =>
  mm_gr h b1 5 (fun b3 =>
  mm_qv (bd_X3_putAlert b3 1 0 h) (fun h5 =>
  mm_gr h5 a0 6 (fun b8 =>
  mm_gr h5 b8 5 (fun b10 =>
  mm_qi (bd_X0_send a0 21 b10 h5) (fun v14 h12 =>
  if v14 = 0 then
  (some (some (.int 0), h12))
  else
  (mm_bh (mm_si h12 a0 16 1) (fun h16 =>
  some (some (.int 1), h16))))))))))
  else
  (some (some (.int 0), h))
set_option maxHeartbeats 4000000 in
set_option maxRecDepth 100000 in
theorem mt_X0_shut (G : mm_G) (a0 : Nat) (h : mm_H) (k_a0 : mm_kd h a0 = 0) : mm_Met G my_X0_shut [.ref a0] h (bd_X0_shut a0 h) := by
  refine mm_met (ls := [.ref a0]) pn_RX0 (Nat.le_of_ble_eq_true rfl) rfl ?_
  unfold bd_X0_shut
  refine ok_aload_n (q := 1) dX0_shut_0 rfl rfl ?_
  refine ok_getI cl_0 (q := 4) (k := 5) dX0_shut_1 (Nat.le_of_ble_eq_true rfl) wd_386 (fun _ _ _ => rfl) k_a0 rfl ?_
  refine ok_bipush (q := 6) (v := 6) dX0_shut_4 cb_6 rfl ?_
  refine ok_icmp_eq (q := 9) (t := 11) dX0_shut_6 rfl rfl ?_ ?_
  · refine ok_aload_n (q := 12) dX0_shut_11 rfl rfl ?_
    refine ok_getR cl_0 (q := 15) (k := 6) dX0_shut_12 (Nat.le_of_ble_eq_true rfl) wd_388 (fun _ _ _ => rfl) kt_0_6 k_a0 rfl (fun b1 k2 => ?_)
    refine ok_getR cl_9 (q := 18) (k := 5) dX0_shut_15 (Nat.le_of_ble_eq_true rfl) wd_252 (fun _ _ _ => rfl) kt_9_5 k2 rfl (fun b3 k4 => ?_)
    refine ok_iconst (q := 19) (v := 1) dX0_shut_18 ci_1 rfl ?_
    refine ok_iconst (q := 20) (v := 0) dX0_shut_19 ci_0 rfl ?_
    refine mm_cv (q := 23) (mt_X3_putAlert G b3 1 0 h k4) (mm_runS (as := [.ref b3, .int 1, .int 0]) (st := []) lk_X0_shut_X3_putAlert_162 dX0_shut_20 rfl (Nat.le_of_ble_eq_true rfl)) rfl (fun h5 p6 => ?_)
    have k7 : mm_kd h5 a0 = 0 := mm_kd_app p6 k_a0 (by decide)
    refine ok_aload_n (q := 24) dX0_shut_23 rfl rfl ?_
    refine ok_bipush (q := 26) (v := 21) dX0_shut_24 cb_21 rfl ?_
    refine ok_aload_n (q := 27) dX0_shut_26 rfl rfl ?_
    refine ok_getR cl_0 (q := 30) (k := 6) dX0_shut_27 (Nat.le_of_ble_eq_true rfl) wd_388 (fun _ _ _ => rfl) kt_0_6 k7 rfl (fun b8 k9 => ?_)
    refine ok_getR cl_9 (q := 33) (k := 5) dX0_shut_30 (Nat.le_of_ble_eq_true rfl) wd_252 (fun _ _ _ => rfl) kt_9_5 k9 rfl (fun b10 k11 => ?_)
    refine mm_ci (q := 36) (mt_X0_send G a0 21 b10 h5 k7 k11) (mm_runV (as := [.int 21, .ref b10]) (st := []) cl_0 lk_X0_shut_X0_send_140 rfl dX0_shut_33 rfl (Nat.le_of_ble_eq_true rfl) k7) rfl (fun v14 h12 p13 => ?_)
    have k15 : mm_kd h12 a0 = 0 := mm_kd_app p13 k7 (by decide)
    refine ok_if_ne (q := 39) (t := 41) dX0_shut_36 rfl rfl ?_ ?_
    · refine ok_aload_n (q := 42) dX0_shut_41 rfl rfl ?_
      refine ok_iconst (q := 43) (v := 1) dX0_shut_42 ci_1 rfl ?_
      refine ok_putI cl_0 (q := 46) (k := 16) dX0_shut_43 (Nat.le_of_ble_eq_true rfl) wd_398 (Or.inl rfl) (fun _ _ _ => rfl) (by decide) (by decide) k15 rfl (bh_ok (fun h16 e17 => ?_))
      have e17 : h16.1 = h12.1 := e17
      refine ok_iconst (q := 47) (v := 1) dX0_shut_46 ci_1 rfl ?_
      exact ok_iret (t := .boolean) dX0_shut_47 rfl (by decide)
    · refine ok_iconst (q := 40) (v := 0) dX0_shut_39 ci_0 rfl ?_
      exact ok_iret (t := .boolean) dX0_shut_40 rfl (by decide)
  · refine ok_iconst (q := 10) (v := 0) dX0_shut_9 ci_0 rfl ?_
    exact ok_iret (t := .boolean) dX0_shut_10 rfl (by decide)
