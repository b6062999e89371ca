def lp_X4_twice_31 (ke_56 : Nat → Nat → mm_H → mm_O) : Nat → Nat → Nat → Int32 → mm_H → mm_O
  | 0, _, _, _, _ => none
  | n + 1, a0, a1, x2, h => if x2 ≤ (1 : Int32) then
  (ke_56 a0 a1 h)
  else
  (mm_gr h a0 0 (fun b11 =>
  mm_gr h a0 0 (fun b13 =>
  if mm_in (x2 - (1 : Int32)) (mm_ln h b13) = true then (mm_gr h b13 (mm_n (x2 - (1 : Int32))) (fun b16 =>
  if mm_in x2 (mm_ln h b11) = true then (mm_bh (mm_sr h b11 (mm_n x2) (some b16)) (fun h19 =>
  lp_X4_twice_31 ke_56 n a0 a1 (x2 + (-1)) h19)) else none)) else none)))
set_option maxHeartbeats 4000000 in
set_option maxRecDepth 100000 in
theorem ol_X4_twice_31 {G : mm_G} {ke_56 : Nat → Nat → mm_H → mm_O} (hke_56 : ∀ (a0 : Nat) (a1 : Nat) (h : mm_H), mm_kd h a0 = 3 → mm_kd h a1 = 5 → mm_Ok G my_X4_twice 56 [.ref a0, .ref a1, mm_U] [] h (ke_56 a0 a1 h)) : ∀ (n : Nat) (a0 : Nat) (a1 : Nat) (x2 : Int32) (h : mm_H), mm_kd h a0 = 3 → mm_kd h a1 = 5 → mm_Ok G my_X4_twice 31 [.ref a0, .ref a1, .int x2] [] h (lp_X4_twice_31 ke_56 n a0 a1 x2 h) := by
  intro n
  induction n with
  | zero => intro a0 a1 x2 h k_a0 k_a1; exact mm_no
  | succ n ih =>
    intro a0 a1 x2 h k_a0 k_a1
    rw [lp_X4_twice_31]
    refine ok_iload_n (q := 32) dX4_twice_31 rfl rfl ?_
    refine ok_iconst (q := 33) (v := 1) dX4_twice_32 ci_1 rfl ?_
    refine ok_icmp_le (q := 36) (t := 56) dX4_twice_33 rfl rfl ?_ ?_
    · refine mm_wk [true, true, false] (ls' := [.ref a0, .ref a1, mm_U]) rfl ?_
      exact hke_56 a0 a1 h k_a0 k_a1
    · refine ok_aload_n (q := 37) dX4_twice_36 rfl rfl ?_
      refine ok_getR cl_3 (q := 40) (k := 0) dX4_twice_37 (Nat.le_of_ble_eq_true rfl) wd_303 (fun _ _ _ => rfl) kt_3_0 k_a0 rfl (fun b11 k12 => ?_)
      refine ok_iload_n (q := 41) dX4_twice_40 rfl rfl ?_
      refine ok_aload_n (q := 42) dX4_twice_41 rfl rfl ?_
      refine ok_getR cl_3 (q := 45) (k := 0) dX4_twice_42 (Nat.le_of_ble_eq_true rfl) wd_303 (fun _ _ _ => rfl) kt_3_0 k_a0 rfl (fun b13 k14 => ?_)
      refine ok_iload_n (q := 46) dX4_twice_45 rfl rfl ?_
      refine ok_iconst (q := 47) (v := 1) dX4_twice_46 ci_1 rfl ?_
      refine ok_isub (q := 48) dX4_twice_47 rfl ?_
      refine mm_ck (fun c15 => ?_)
      refine ok_aald (kb := 5) (q := 49) dX4_twice_48 k14 (by decide) c15 rfl (fun b16 k17 => ?_)
      refine mm_ck (fun c18 => ?_)
      refine ok_aast (kb := 5) (q := 50) dX4_twice_49 k12 (by decide) k17 c18 rfl (bh_ok (fun h19 e20 => ?_))
      have e20 : h19.1 = h.1 := e20
      refine ok_iinc (q := 53) (v := x2 + (-1)) (ls' := [.ref a0, .ref a1, .int (x2 + (-1))]) dX4_twice_50 rfl (congrArg (x2 + ·) ci_m1) (Nat.le_of_ble_eq_true rfl) rfl rfl ?_
      refine ok_goto (q := 31) dX4_twice_53 rfl ?_
      exact ih a0 a1 (x2 + (-1)) h19 (mm_ke e20 k_a0) (mm_ke e20 k_a1)
def bd_X4_twice (a0 : Nat) (h : mm_H) : mm_O := if (mm_i h a0 1) = 0 then
  (some (some (.int 0), h))
  else
  (mm_qi (bd_X4_isFull a0 h) (fun v3 h1 =>
  if v3 = 0 then
  (mm_gr h1 a0 0 (fun b5 =>
  if mm_in (mm_i h1 a0 1) (mm_ln h1 b5) = true then (mm_gr h1 b5 (mm_n (mm_i h1 a0 1)) (fun b8 =>
  mm_bi (mm_i h1 a0 1) (fun v10 =>
  lp_X4_twice_31 (fun b22 b23 h21 => mm_gr h21 b22 0 (fun b24 =>
  if mm_in (1 : Int32) (mm_ln h21 b24) = true then (mm_bh (mm_sr h21 b24 (mm_n (1 : Int32)) (some b23)) (fun h27 =>
  mm_gr h27 b22 0 (fun b29 =>
  if mm_in (0 : Int32) (mm_ln h27 b29) = true then (mm_gr h27 b29 (mm_n (0 : Int32)) (fun b32 =>
  mm_qv (bd_X6_copy b23 b32 h27) (fun h34 =>
  mm_bh (mm_si h34 b22 1 ((mm_i h34 b22 1) + (1 : Int32))) (fun h38 =>
  some (some (.int 1), h38))))) else none))) else none)) mm_fu a0 b8 v10 h1))) else none))
  else
  (some (some (.int 0), h1))))
set_option maxHeartbeats 4000000 in
set_option maxRecDepth 100000 in
theorem mt_X4_twice (G : mm_G) (a0 : Nat) (h : mm_H) (k_a0 : mm_kd h a0 = 3) : mm_Met G my_X4_twice [.ref a0] h (bd_X4_twice a0 h) := by
  refine mm_met (ls := [.ref a0, mm_U, mm_U]) pn_RX4 (Nat.le_of_ble_eq_true rfl) rfl ?_
  unfold bd_X4_twice
  refine ok_aload_n (q := 1) dX4_twice_0 rfl rfl ?_
  refine ok_getI cl_3 (q := 4) (k := 1) dX4_twice_1 (Nat.le_of_ble_eq_true rfl) wd_304 (fun _ _ _ => rfl) k_a0 rfl ?_
  refine ok_if_eq (q := 7) (t := 14) dX4_twice_4 rfl rfl ?_ ?_
  · refine ok_iconst (q := 15) (v := 0) dX4_twice_14 ci_0 rfl ?_
    exact ok_iret (t := .boolean) dX4_twice_15 rfl (by decide)
  · refine ok_aload_n (q := 8) dX4_twice_7 rfl rfl ?_
    refine mm_ci (q := 11) (mt_X4_isFull G a0 h k_a0) (mm_runV (as := []) (st := []) cl_3 lk_X4_twice_X4_isFull_28 rfl dX4_twice_8 rfl (Nat.le_of_ble_eq_true rfl) k_a0) rfl (fun v3 h1 p2 => ?_)
    have k4 : mm_kd h1 a0 = 3 := mm_kd_app p2 k_a0 (by decide)
    refine ok_if_eq (q := 14) (t := 16) dX4_twice_11 rfl rfl ?_ ?_
    · refine ok_aload_n (q := 17) dX4_twice_16 rfl rfl ?_
      refine ok_getR cl_3 (q := 20) (k := 0) dX4_twice_17 (Nat.le_of_ble_eq_true rfl) wd_303 (fun _ _ _ => rfl) kt_3_0 k4 rfl (fun b5 k6 => ?_)
      refine ok_aload_n (q := 21) dX4_twice_20 rfl rfl ?_
      refine ok_getI cl_3 (q := 24) (k := 1) dX4_twice_21 (Nat.le_of_ble_eq_true rfl) wd_304 (fun _ _ _ => rfl) k4 rfl ?_
      refine mm_ck (fun c7 => ?_)
      refine ok_aald (kb := 5) (q := 25) dX4_twice_24 k6 (by decide) c7 rfl (fun b8 k9 => ?_)
      refine ok_astore_n (q := 26) (ls' := [.ref a0, .ref b8, mm_U]) dX4_twice_25 (Nat.le_of_ble_eq_true rfl) rfl rfl ?_
      refine ok_aload_n (q := 27) dX4_twice_26 rfl rfl ?_
      refine ok_getI cl_3 (q := 30) (k := 1) dX4_twice_27 (Nat.le_of_ble_eq_true rfl) wd_304 (fun _ _ _ => rfl) k4 rfl ?_
      refine bi_ok (fun v10 => ?_)
      refine ok_istore_n (q := 31) (ls' := [.ref a0, .ref b8, .int v10]) dX4_twice_30 (Nat.le_of_ble_eq_true rfl) rfl rfl ?_
      refine ol_X4_twice_31 (fun b22 b23 h21 k_b22 k_b23 => ?_) mm_fu a0 b8 v10 h1 k4 k9
      · refine ok_aload_n (q := 57) dX4_twice_56 rfl rfl ?_
        refine ok_getR cl_3 (q := 60) (k := 0) dX4_twice_57 (Nat.le_of_ble_eq_true rfl) wd_303 (fun _ _ _ => rfl) kt_3_0 k_b22 rfl (fun b24 k25 => ?_)
        refine ok_iconst (q := 61) (v := 1) dX4_twice_60 ci_1 rfl ?_
        refine ok_aload_n (q := 62) dX4_twice_61 rfl rfl ?_
        refine mm_ck (fun c26 => ?_)
        refine ok_aast (kb := 5) (q := 63) dX4_twice_62 k25 (by decide) k_b23 c26 rfl (bh_ok (fun h27 e28 => ?_))
        have e28 : h27.1 = h21.1 := e28
        refine ok_aload_n (q := 64) dX4_twice_63 rfl rfl ?_
        refine ok_aload_n (q := 65) dX4_twice_64 rfl rfl ?_
        refine ok_getR cl_3 (q := 68) (k := 0) dX4_twice_65 (Nat.le_of_ble_eq_true rfl) wd_303 (fun _ _ _ => rfl) kt_3_0 (mm_ke e28 k_b22) rfl (fun b29 k30 => ?_)
        refine ok_iconst (q := 69) (v := 0) dX4_twice_68 ci_0 rfl ?_
        refine mm_ck (fun c31 => ?_)
        refine ok_aald (kb := 5) (q := 70) dX4_twice_69 (mm_ke e28 (mm_ke e28.symm k30)) (by decide) c31 rfl (fun b32 k33 => ?_)
        refine mm_cv (q := 73) (mt_X6_copy G b23 b32 h27 (mm_ke e28 k_b23) (mm_ke e28 (mm_ke e28.symm k33))) (mm_runV (as := [.ref b32]) (st := []) cl_5 lk_X4_twice_X6_copy_35 rfl dX4_twice_70 rfl (Nat.le_of_ble_eq_true rfl) (mm_ke e28 k_b23)) rfl (fun h34 p35 => ?_)
        have k36 : mm_kd h34 b22 = 3 := mm_kd_app p35 (mm_ke e28 k_b22) (by decide)
        have k37 : mm_kd h34 b23 = 5 := mm_kd_app p35 (mm_ke e28 k_b23) (by decide)
        refine ok_aload_n (q := 74) dX4_twice_73 rfl rfl ?_
        refine ok_dup (q := 75) dX4_twice_74 rfl rfl ?_
        refine ok_getI cl_3 (q := 78) (k := 1) dX4_twice_75 (Nat.le_of_ble_eq_true rfl) wd_304 (fun _ _ _ => rfl) k36 rfl ?_
        refine ok_iconst (q := 79) (v := 1) dX4_twice_78 ci_1 rfl ?_
        refine ok_iadd (q := 80) dX4_twice_79 rfl ?_
        refine ok_putI cl_3 (q := 83) (k := 1) dX4_twice_80 (Nat.le_of_ble_eq_true rfl) wd_304 (Or.inl rfl) (fun _ _ _ => rfl) rfl rfl k36 rfl (bh_ok (fun h38 e39 => ?_))
        have e39 : h38.1 = h34.1 := e39
        refine ok_iconst (q := 84) (v := 1) dX4_twice_83 ci_1 rfl ?_
        exact ok_iret (t := .boolean) dX4_twice_84 rfl (by decide)
    · refine ok_iconst (q := 15) (v := 0) dX4_twice_14 ci_0 rfl ?_
      exact ok_iret (t := .boolean) dX4_twice_15 rfl (by decide)
def bd_X4_swap (a0 : Nat) (h : mm_H) : mm_O := if (2 : Int32) ≤ (mm_i h a0 1) then
  (mm_gr h a0 0 (fun b1 =>
  if mm_in (0 : Int32) (mm_ln h b1) = true then (mm_gr h b1 (mm_n (0 : Int32)) (fun b4 =>
  mm_gr h a0 0 (fun b6 =>
  mm_gr h a0 0 (fun b8 =>
  if mm_in (1 : Int32) (mm_ln h b8) = true then (mm_gr h b8 (mm_n (1 : Int32)) (fun b11 =>
  if mm_in (0 : Int32) (mm_ln h b6) = true then (mm_bh (mm_sr h b6 (mm_n (0 : Int32)) (some b11)) (fun h14 =>
  mm_gr h14 a0 0 (fun b16 =>
  if mm_in (1 : Int32) (mm_ln h14 b16) = true then (mm_bh (mm_sr h14 b16 (mm_n (1 : Int32)) (some b4)) (fun h19 =>
  some (some (.int 1), h19))) else none))) else none)) else none)))) else none))
  else
  (some (some (.int 0), h))
set_option maxHeartbeats 4000000 in
set_option maxRecDepth 100000 in
theorem mt_X4_swap (G : mm_G) (a0 : Nat) (h : mm_H) (k_a0 : mm_kd h a0 = 3) : mm_Met G my_X4_swap [.ref a0] h (bd_X4_swap a0 h) := by
  refine mm_met (ls := [.ref a0, mm_U]) pn_RX4 (Nat.le_of_ble_eq_true rfl) rfl ?_
  unfold bd_X4_swap
  refine ok_aload_n (q := 1) dX4_swap_0 rfl rfl ?_
  refine ok_getI cl_3 (q := 4) (k := 1) dX4_swap_1 (Nat.le_of_ble_eq_true rfl) wd_304 (fun _ _ _ => rfl) k_a0 rfl ?_
  refine ok_iconst (q := 5) (v := 2) dX4_swap_4 ci_2 rfl ?_
  refine ok_icmp_ge (q := 8) (t := 10) dX4_swap_5 rfl rfl ?_ ?_
  · refine ok_aload_n (q := 11) dX4_swap_10 rfl rfl ?_
    refine ok_getR cl_3 (q := 14) (k := 0) dX4_swap_11 (Nat.le_of_ble_eq_true rfl) wd_303 (fun _ _ _ => rfl) kt_3_0 k_a0 rfl (fun b1 k2 => ?_)
    refine ok_iconst (q := 15) (v := 0) dX4_swap_14 ci_0 rfl ?_
    refine mm_ck (fun c3 => ?_)
    refine ok_aald (kb := 5) (q := 16) dX4_swap_15 k2 (by decide) c3 rfl (fun b4 k5 => ?_)
    refine ok_astore_n (q := 17) (ls' := [.ref a0, .ref b4]) dX4_swap_16 (Nat.le_of_ble_eq_true rfl) rfl rfl ?_
    refine ok_aload_n (q := 18) dX4_swap_17 rfl rfl ?_
    refine ok_getR cl_3 (q := 21) (k := 0) dX4_swap_18 (Nat.le_of_ble_eq_true rfl) wd_303 (fun _ _ _ => rfl) kt_3_0 k_a0 rfl (fun b6 k7 => ?_)
    refine ok_iconst (q := 22) (v := 0) dX4_swap_21 ci_0 rfl ?_
    refine ok_aload_n (q := 23) dX4_swap_22 rfl rfl ?_
    refine ok_getR cl_3 (q := 26) (k := 0) dX4_swap_23 (Nat.le_of_ble_eq_true rfl) wd_303 (fun _ _ _ => rfl) kt_3_0 k_a0 rfl (fun b8 k9 => ?_)
    refine ok_iconst (q := 27) (v := 1) dX4_swap_26 ci_1 rfl ?_
    refine mm_ck (fun c10 => ?_)
    refine ok_aald (kb := 5) (q := 28) dX4_swap_27 k9 (by decide) c10 rfl (fun b11 k12 => ?_)
    refine mm_ck (fun c13 => ?_)
    refine ok_aast (kb := 5) (q := 29) dX4_swap_28 k7 (by decide) k12 c13 rfl (bh_ok (fun h14 e15 => ?_))
    have e15 : h14.1 = h.1 := e15
    refine ok_aload_n (q := 30) dX4_swap_29 rfl rfl ?_
    refine ok_getR cl_3 (q := 33) (k := 0) dX4_swap_30 (Nat.le_of_ble_eq_true rfl) wd_303 (fun _ _ _ => rfl) kt_3_0 (mm_ke e15 k_a0) rfl (fun b16 k17 => ?_)
    refine ok_iconst (q := 34) (v := 1) dX4_swap_33 ci_1 rfl ?_
    refine ok_aload_n (q := 35) dX4_swap_34 rfl rfl ?_
    refine mm_ck (fun c18 => ?_)
    refine ok_aast (kb := 5) (q := 36) dX4_swap_35 (mm_ke e15 (mm_ke e15.symm k17)) (by decide) (mm_ke e15 k5) c18 rfl (bh_ok (fun h19 e20 => ?_))
    have e20 : h19.1 = h.1 := e20.trans e15
    refine ok_iconst (q := 37) (v := 1) dX4_swap_36 ci_1 rfl ?_
    exact ok_iret (t := .boolean) dX4_swap_37 rfl (by decide)
  · refine ok_iconst (q := 9) (v := 0) dX4_swap_8 ci_0 rfl ?_
    exact ok_iret (t := .boolean) dX4_swap_9 rfl (by decide)
def bd_X5_init (a0 : Nat) (h : mm_H) : mm_O := mm_nw h 23 (mm_n (5 : Int32)) (fun b1 h2 =>
  mm_bh (mm_sr h2 a0 0 (some b1)) (fun h6 =>
  mm_nw h6 23 (mm_n (5 : Int32)) (fun b8 h9 =>
  mm_bh (mm_sr h9 a0 1 (some b8)) (fun h13 =>
  mm_nw h13 23 (mm_n (5 : Int32)) (fun b15 h16 =>
  mm_bh (mm_sr h16 a0 2 (some b15)) (fun h20 =>
  some (none, h20)))))))
set_option maxHeartbeats 4000000 in
set_option maxRecDepth 100000 in
theorem mt_X5_init (G : mm_G) (a0 : Nat) (h : mm_H) (k_a0 : mm_kd h a0 = 4) : mm_Met G my_X5_init [.ref a0] h (bd_X5_init a0 h) := by
  refine mm_met (ls := [.ref a0]) pn_RX5 (Nat.le_of_ble_eq_true rfl) rfl ?_
  unfold bd_X5_init
  refine ok_aload_n (q := 1) dX5_init_0 rfl rfl ?_
  refine ok_objInit (q := 4) dX5_init_1 wd_205 wd_105 wd_106 ⟨Nat.le_of_ble_eq_true rfl, Nat.le_of_ble_eq_true rfl⟩ rfl ?_
  refine ok_aload_n (q := 5) dX5_init_4 rfl rfl ?_
  refine ok_iconst (q := 6) (v := 5) dX5_init_5 ci_5 rfl ?_
  refine ok_new_l (q := 8) dX5_init_6 wd_216 (by decide) (by decide) rfl (fun hk => nw_ok hk (fun b1 h2 p3 k4 => ?_))
  have k5 : mm_kd h2 a0 = 4 := mm_kd_app p3 k_a0 (by decide)
  refine ok_putR cl_4 (q := 11) (k := 0) dX5_init_8 (Nat.le_of_ble_eq_true rfl) wd_206 (Or.inr ⟨rfl, rfl, rfl⟩) (fun _ _ _ => rfl) (fun _ => rfl) (fun _ => rfl) kt_4_0 (by decide) k5 k4 rfl (bh_ok (fun h6 e7 => ?_))
  have e7 : h6.1 = h2.1 := e7
  refine ok_aload_n (q := 12) dX5_init_11 rfl rfl ?_
  refine ok_iconst (q := 13) (v := 5) dX5_init_12 ci_5 rfl ?_
  refine ok_new_l (q := 15) dX5_init_13 wd_216 (by decide) (by decide) rfl (fun hk => nw_ok hk (fun b8 h9 p10 k11 => ?_))
  have k12 : mm_kd h9 a0 = 4 := mm_kd_app p10 (mm_ke e7 k5) (by decide)
  refine ok_putR cl_4 (q := 18) (k := 1) dX5_init_15 (Nat.le_of_ble_eq_true rfl) wd_207 (Or.inr ⟨rfl, rfl, rfl⟩) (fun _ _ _ => rfl) (fun _ => rfl) (fun _ => rfl) kt_4_1 (by decide) k12 k11 rfl (bh_ok (fun h13 e14 => ?_))
  have e14 : h13.1 = h9.1 := e14
  refine ok_aload_n (q := 19) dX5_init_18 rfl rfl ?_
  refine ok_iconst (q := 20) (v := 5) dX5_init_19 ci_5 rfl ?_
  refine ok_new_l (q := 22) dX5_init_20 wd_216 (by decide) (by decide) rfl (fun hk => nw_ok hk (fun b15 h16 p17 k18 => ?_))
  have k19 : mm_kd h16 a0 = 4 := mm_kd_app p17 (mm_ke e14 k12) (by decide)
  refine ok_putR cl_4 (q := 25) (k := 2) dX5_init_22 (Nat.le_of_ble_eq_true rfl) wd_208 (Or.inr ⟨rfl, rfl, rfl⟩) (fun _ _ _ => rfl) (fun _ => rfl) (fun _ => rfl) kt_4_2 (by decide) k19 k18 rfl (bh_ok (fun h20 e21 => ?_))
  have e21 : h20.1 = h16.1 := e21
  exact ok_ret dX5_init_25 rfl
def bd_X6_flip (a0 : Nat) (x1 : Int32) (x2 : Int32) (h : mm_H) : mm_O := if x1 < 0 then
  (some (some (.int 0), h))
  else
  (if x1 < (mm_i h a0 1) then
  (mm_gr h a0 0 (fun b1 =>
  if mm_in x1 (mm_ln h b1) = true then (if 32 ≤ b1 ∧ mm_in x1 (mm_ln h b1) = true then (mm_bh (mm_si h b1 (mm_n x1) ((mm_i h b1 (mm_n x1)) ^^^ x2)) (fun h5 =>
  some (some (.int 1), h5))) else none) else none))
  else
  (some (some (.int 0), h)))
set_option maxHeartbeats 4000000 in
set_option maxRecDepth 100000 in
theorem mt_X6_flip (G : mm_G) (a0 : Nat) (x1 : Int32) (x2 : Int32) (h : mm_H) (k_a0 : mm_kd h a0 = 5) : mm_Met G my_X6_flip [.ref a0, .int x1, .int x2] h (bd_X6_flip a0 x1 x2 h) := by
  refine mm_met (ls := [.ref a0, .int x1, .int x2]) pn_RX6 (Nat.le_of_ble_eq_true rfl) rfl ?_
  unfold bd_X6_flip
  refine ok_iload_n (q := 1) dX6_flip_0 rfl rfl ?_
  refine ok_if_lt (q := 4) (t := 12) dX6_flip_1 rfl rfl ?_ ?_
  · refine ok_iconst (q := 13) (v := 0) dX6_flip_12 ci_0 rfl ?_
    exact ok_iret (t := .boolean) dX6_flip_13 rfl (by decide)
  · refine ok_iload_n (q := 5) dX6_flip_4 rfl rfl ?_
    refine ok_aload_n (q := 6) dX6_flip_5 rfl rfl ?_
    refine ok_getI cl_5 (q := 9) (k := 1) dX6_flip_6 (Nat.le_of_ble_eq_true rfl) wd_122 (fun _ _ _ => rfl) k_a0 rfl ?_
    refine ok_icmp_lt (q := 12) (t := 14) dX6_flip_9 rfl rfl ?_ ?_
    · refine ok_aload_n (q := 15) dX6_flip_14 rfl rfl ?_
      refine ok_getR cl_5 (q := 18) (k := 0) dX6_flip_15 (Nat.le_of_ble_eq_true rfl) wd_116 (fun _ _ _ => rfl) kt_5_0 k_a0 rfl (fun b1 k2 => ?_)
      refine ok_iload_n (q := 19) dX6_flip_18 rfl rfl ?_
      refine ok_dup2 (q := 20) dX6_flip_19 rfl rfl rfl ?_
      refine mm_ck (fun c3 => ?_)
      refine ok_iald (q := 21) dX6_flip_20 k2 c3 rfl ?_
      refine ok_iload_n (q := 22) dX6_flip_21 rfl rfl ?_
      refine ok_ixor (q := 23) dX6_flip_22 rfl ?_
      refine mm_ck (fun c4 => ?_)
      refine ok_iast (q := 24) dX6_flip_23 k2 c4.1 c4.2 rfl (bh_ok (fun h5 e6 => ?_))
      have e6 : h5.1 = h.1 := e6
      refine ok_iconst (q := 25) (v := 1) dX6_flip_24 ci_1 rfl ?_
      exact ok_iret (t := .boolean) dX6_flip_25 rfl (by decide)
    · refine ok_iconst (q := 13) (v := 0) dX6_flip_12 ci_0 rfl ?_
      exact ok_iret (t := .boolean) dX6_flip_13 rfl (by decide)
def bd_X8_init (a0 : Nat) (h : mm_H) : mm_O := mm_nw h 4 3 (fun b1 h2 =>
  mm_qv (bd_X5_init b1 h2) (fun h6 =>
  mm_bh (mm_sr h6 a0 0 (some b1)) (fun h10 =>
  mm_nw h10 20 (mm_n (16 : Int32)) (fun b12 h13 =>
  mm_bh (mm_sr h13 a0 1 (some b12)) (fun h17 =>
  mm_nw h17 20 (mm_n (16 : Int32)) (fun b19 h20 =>
  mm_bh (mm_sr h20 a0 2 (some b19)) (fun h24 =>
  mm_nw h24 5 2 (fun b26 h27 =>
  mm_qv (bd_X6_init b26 32 h27) (fun h31 =>
  mm_bh (mm_sr h31 a0 3 (some b26)) (fun h35 =>
  mm_nw h35 5 2 (fun b37 h38 =>
  mm_qv (bd_X6_init b37 664 h38) (fun h42 =>
  mm_bh (mm_sr h42 a0 4 (some b37)) (fun h46 =>
  mm_nw h46 5 2 (fun b48 h49 =>
  mm_qv (bd_X6_init b48 16 h49) (fun h53 =>
  mm_bh (mm_sr h53 a0 5 (some b48)) (fun h57 =>
  some (none, h57)))))))))))))))))
set_option maxHeartbeats 4000000 in
set_option maxRecDepth 100000 in
theorem mt_X8_init (G : mm_G) (a0 : Nat) (h : mm_H) (k_a0 : mm_kd h a0 = 7) : mm_Met G my_X8_init [.ref a0] h (bd_X8_init a0 h) := by
  refine mm_met (ls := [.ref a0]) pn_RX8 (Nat.le_of_ble_eq_true rfl) rfl ?_
  unfold bd_X8_init
  refine ok_aload_n (q := 1) dX8_init_0 rfl rfl ?_
  refine ok_objInit (q := 4) dX8_init_1 wd_199 wd_105 wd_106 ⟨Nat.le_of_ble_eq_true rfl, Nat.le_of_ble_eq_true rfl⟩ rfl ?_
  refine ok_aload_n (q := 5) dX8_init_4 rfl rfl ?_
  refine ok_new cl_4 (q := 8) dX8_init_5 wd_200 wd_201 wd_88 tf_4 rfl (fun hk => nw_ok hk (fun b1 h2 p3 k4 => ?_))
  have k5 : mm_kd h2 a0 = 7 := mm_kd_app p3 k_a0 (by decide)
  refine ok_dup (q := 9) dX8_init_8 rfl rfl ?_
  refine mm_cv (q := 12) (mt_X5_init G b1 h2 k4) (mm_runI (as := []) (st := [.ref b1, .ref a0]) (a := b1) lk_X8_init_X5_init_13 dX8_init_9 rfl (Nat.le_of_ble_eq_true rfl)) rfl (fun h6 p7 => ?_)
  have k8 : mm_kd h6 a0 = 7 := mm_kd_app p7 k5 (by decide)
  have k9 : mm_kd h6 b1 = 4 := mm_kd_app p7 k4 (by decide)
  refine ok_putR cl_7 (q := 15) (k := 0) dX8_init_12 (Nat.le_of_ble_eq_true rfl) wd_219 (Or.inr ⟨rfl, rfl, rfl⟩) (fun _ _ _ => rfl) (fun _ => rfl) (fun _ => rfl) kt_7_0 (by decide) k8 k9 rfl (bh_ok (fun h10 e11 => ?_))
  have e11 : h10.1 = h6.1 := e11
  refine ok_aload_n (q := 16) dX8_init_15 rfl rfl ?_
  refine ok_bipush (q := 18) (v := 16) dX8_init_16 cb_16 rfl ?_
  refine ok_new_i (q := 20) dX8_init_18 wd_135 (by decide) (by decide) rfl (fun hk => nw_ok hk (fun b12 h13 p14 k15 => ?_))
  have k16 : mm_kd h13 a0 = 7 := mm_kd_app p14 (mm_ke e11 k8) (by decide)
  refine ok_putR cl_7 (q := 23) (k := 1) dX8_init_20 (Nat.le_of_ble_eq_true rfl) wd_220 (Or.inr ⟨rfl, rfl, rfl⟩) (fun _ _ _ => rfl) (fun _ => rfl) (fun _ => rfl) kt_7_1 (by decide) k16 k15 rfl (bh_ok (fun h17 e18 => ?_))
  have e18 : h17.1 = h13.1 := e18
  refine ok_aload_n (q := 24) dX8_init_23 rfl rfl ?_
  refine ok_bipush (q := 26) (v := 16) dX8_init_24 cb_16 rfl ?_
  refine ok_new_i (q := 28) dX8_init_26 wd_135 (by decide) (by decide) rfl (fun hk => nw_ok hk (fun b19 h20 p21 k22 => ?_))
  have k23 : mm_kd h20 a0 = 7 := mm_kd_app p21 (mm_ke e18 k16) (by decide)
  refine ok_putR cl_7 (q := 31) (k := 2) dX8_init_28 (Nat.le_of_ble_eq_true rfl) wd_221 (Or.inr ⟨rfl, rfl, rfl⟩) (fun _ _ _ => rfl) (fun _ => rfl) (fun _ => rfl) kt_7_2 (by decide) k23 k22 rfl (bh_ok (fun h24 e25 => ?_))
  have e25 : h24.1 = h20.1 := e25
  refine ok_aload_n (q := 32) dX8_init_31 rfl rfl ?_
  refine ok_new cl_5 (q := 35) dX8_init_32 wd_217 wd_108 wd_82 tf_5 rfl (fun hk => nw_ok hk (fun b26 h27 p28 k29 => ?_))
  have k30 : mm_kd h27 a0 = 7 := mm_kd_app p28 (mm_ke e25 k23) (by decide)
  refine ok_dup (q := 36) dX8_init_35 rfl rfl ?_
  refine ok_bipush (q := 38) (v := 32) dX8_init_36 cb_32 rfl ?_
  refine mm_cv (q := 41) (mt_X6_init G b26 32 h27 k29) (mm_runI (as := [.int 32]) (st := [.ref b26, .ref a0]) (a := b26) lk_X8_init_X6_init_27 dX8_init_38 rfl (Nat.le_of_ble_eq_true rfl)) rfl (fun h31 p32 => ?_)
  have k33 : mm_kd h31 a0 = 7 := mm_kd_app p32 k30 (by decide)
  have k34 : mm_kd h31 b26 = 5 := mm_kd_app p32 k29 (by decide)
  refine ok_putR cl_7 (q := 44) (k := 3) dX8_init_41 (Nat.le_of_ble_eq_true rfl) wd_222 (Or.inr ⟨rfl, rfl, rfl⟩) (fun _ _ _ => rfl) (fun _ => rfl) (fun _ => rfl) kt_7_3 (by decide) k33 k34 rfl (bh_ok (fun h35 e36 => ?_))
  have e36 : h35.1 = h31.1 := e36
  refine ok_aload_n (q := 45) dX8_init_44 rfl rfl ?_
  refine ok_new cl_5 (q := 48) dX8_init_45 wd_217 wd_108 wd_82 tf_5 rfl (fun hk => nw_ok hk (fun b37 h38 p39 k40 => ?_))
  have k41 : mm_kd h38 a0 = 7 := mm_kd_app p39 (mm_ke e36 k33) (by decide)
  refine ok_dup (q := 49) dX8_init_48 rfl rfl ?_
  refine ok_sipush (q := 52) (v := 664) dX8_init_49 cs_664 rfl ?_
  refine mm_cv (q := 55) (mt_X6_init G b37 664 h38 k40) (mm_runI (as := [.int 664]) (st := [.ref b37, .ref a0]) (a := b37) lk_X8_init_X6_init_27 dX8_init_52 rfl (Nat.le_of_ble_eq_true rfl)) rfl (fun h42 p43 => ?_)
  have k44 : mm_kd h42 a0 = 7 := mm_kd_app p43 k41 (by decide)
  have k45 : mm_kd h42 b37 = 5 := mm_kd_app p43 k40 (by decide)
  refine ok_putR cl_7 (q := 58) (k := 4) dX8_init_55 (Nat.le_of_ble_eq_true rfl) wd_223 (Or.inr ⟨rfl, rfl, rfl⟩) (fun _ _ _ => rfl) (fun _ => rfl) (fun _ => rfl) kt_7_4 (by decide) k44 k45 rfl (bh_ok (fun h46 e47 => ?_))
  have e47 : h46.1 = h42.1 := e47
  refine ok_aload_n (q := 59) dX8_init_58 rfl rfl ?_
  refine ok_new cl_5 (q := 62) dX8_init_59 wd_217 wd_108 wd_82 tf_5 rfl (fun hk => nw_ok hk (fun b48 h49 p50 k51 => ?_))
  have k52 : mm_kd h49 a0 = 7 := mm_kd_app p50 (mm_ke e47 k44) (by decide)
  refine ok_dup (q := 63) dX8_init_62 rfl rfl ?_
  refine ok_bipush (q := 65) (v := 16) dX8_init_63 cb_16 rfl ?_
  refine mm_cv (q := 68) (mt_X6_init G b48 16 h49 k51) (mm_runI (as := [.int 16]) (st := [.ref b48, .ref a0]) (a := b48) lk_X8_init_X6_init_27 dX8_init_65 rfl (Nat.le_of_ble_eq_true rfl)) rfl (fun h53 p54 => ?_)
  have k55 : mm_kd h53 a0 = 7 := mm_kd_app p54 k52 (by decide)
  have k56 : mm_kd h53 b48 = 5 := mm_kd_app p54 k51 (by decide)
  refine ok_putR cl_7 (q := 71) (k := 5) dX8_init_68 (Nat.le_of_ble_eq_true rfl) wd_224 (Or.inr ⟨rfl, rfl, rfl⟩) (fun _ _ _ => rfl) (fun _ => rfl) (fun _ => rfl) kt_7_5 (by decide) k55 k56 rfl (bh_ok (fun h57 e58 => ?_))
  have e58 : h57.1 = h53.1 := e58
  exact ok_ret dX8_init_71 rfl
def bd_X9_init (a0 : Nat) (h : mm_H) : mm_O := if ¬ (nI (mm_ln h 1)) < 0 ∧ mm_n (nI (mm_ln h 1)) ≤ 100000 then (mm_nw h 20 (mm_n (nI (mm_ln h 1))) (fun b3 h4 =>
  mm_bh (mm_sr h4 a0 0 (some b3)) (fun h8 =>
  if ¬ (nI (mm_ln h8 2)) < 0 ∧ mm_n (nI (mm_ln h8 2)) ≤ 100000 then (mm_nw h8 20 (mm_n (nI (mm_ln h8 2))) (fun b12 h13 =>
  mm_bh (mm_sr h13 a0 1 (some b12)) (fun h17 =>
  some (none, h17)))) else none))) else none
set_option maxHeartbeats 4000000 in
set_option maxRecDepth 100000 in
theorem mt_X9_init (G : mm_G) (a0 : Nat) (h : mm_H) (k_a0 : mm_kd h a0 = 8) : mm_Met G my_X9_init [.ref a0] h (bd_X9_init a0 h) := by
  refine mm_met (ls := [.ref a0]) pn_RX9 (Nat.le_of_ble_eq_true rfl) rfl ?_
  unfold bd_X9_init
  refine ok_aload_n (q := 1) dX9_init_0 rfl rfl ?_
  refine ok_objInit (q := 4) dX9_init_1 wd_147 wd_105 wd_106 ⟨Nat.le_of_ble_eq_true rfl, Nat.le_of_ble_eq_true rfl⟩ rfl ?_
  refine ok_aload_n (q := 5) dX9_init_4 rfl rfl ?_
  refine ok_gets (q := 8) (a := 1) (by decide +kernel) dX9_init_5 wd_148 (by decide) rfl (fun k1 => ?_)
  refine ok_alen (q := 9) dX9_init_8 (by rw [k1]; decide) rfl ?_
  refine mm_ck (fun c2 => ?_)
  refine ok_new_i (q := 11) dX9_init_9 wd_135 c2.1 c2.2 rfl (fun hk => nw_ok hk (fun b3 h4 p5 k6 => ?_))
  have k7 : mm_kd h4 a0 = 8 := mm_kd_app p5 k_a0 (by decide)
  refine ok_putR cl_8 (q := 14) (k := 0) dX9_init_11 (Nat.le_of_ble_eq_true rfl) wd_152 (Or.inr ⟨rfl, rfl, rfl⟩) (fun _ _ _ => rfl) (fun _ => rfl) (fun _ => rfl) kt_8_0 (by decide) k7 k6 rfl (bh_ok (fun h8 e9 => ?_))
  have e9 : h8.1 = h4.1 := e9
  refine ok_aload_n (q := 15) dX9_init_14 rfl rfl ?_
  refine ok_gets (q := 18) (a := 2) (by decide +kernel) dX9_init_15 wd_150 (by decide) rfl (fun k10 => ?_)
  refine ok_alen (q := 19) dX9_init_18 (by rw [(mm_ke e9 (mm_ke e9.symm k10))]; decide) rfl ?_
  refine mm_ck (fun c11 => ?_)
  refine ok_new_i (q := 21) dX9_init_19 wd_135 c11.1 c11.2 rfl (fun hk => nw_ok hk (fun b12 h13 p14 k15 => ?_))
  have k16 : mm_kd h13 a0 = 8 := mm_kd_app p14 (mm_ke e9 k7) (by decide)
  refine ok_putR cl_8 (q := 24) (k := 1) dX9_init_21 (Nat.le_of_ble_eq_true rfl) wd_153 (Or.inr ⟨rfl, rfl, rfl⟩) (fun _ _ _ => rfl) (fun _ => rfl) (fun _ => rfl) kt_8_1 (by decide) k16 k15 rfl (bh_ok (fun h17 e18 => ?_))
  have e18 : h17.1 = h13.1 := e18
  exact ok_ret dX9_init_24 rfl
def bd_X10_init (a0 : Nat) (h : mm_H) : mm_O := mm_nw h 8 2 (fun b1 h2 =>
  mm_qv (bd_X9_init b1 h2) (fun h6 =>
  mm_bh (mm_sr h6 a0 0 (some b1)) (fun h10 =>
  mm_nw h10 1 7 (fun b12 h13 =>
  mm_gr h13 a0 0 (fun b17 =>
  mm_qv (bd_X1_init b12 b17 h13) (fun h19 =>
  mm_bh (mm_sr h19 a0 1 (some b12)) (fun h23 =>
  mm_nw h23 7 6 (fun b25 h26 =>
  mm_qv (bd_X8_init b25 h26) (fun h30 =>
  mm_bh (mm_sr h30 a0 2 (some b25)) (fun h34 =>
  mm_nw h34 5 2 (fun b36 h37 =>
  mm_qv (bd_X6_init b36 600 h37) (fun h41 =>
  mm_bh (mm_sr h41 a0 3 (some b36)) (fun h45 =>
  mm_nw h45 5 2 (fun b47 h48 =>
  mm_qv (bd_X6_init b47 600 h48) (fun h52 =>
  mm_bh (mm_sr h52 a0 4 (some b47)) (fun h56 =>
  mm_nw h56 5 2 (fun b58 h59 =>
  mm_qv (bd_X6_init b58 123 h59) (fun h63 =>
  mm_bh (mm_sr h63 a0 5 (some b58)) (fun h67 =>
  mm_nw h67 5 2 (fun b69 h70 =>
  mm_qv (bd_X6_init b69 123 h70) (fun h74 =>
  mm_bh (mm_sr h74 a0 6 (some b69)) (fun h78 =>
  mm_nw h78 5 2 (fun b80 h81 =>
  mm_qv (bd_X6_init b80 32 h81) (fun h85 =>
  mm_bh (mm_sr h85 a0 7 (some b80)) (fun h89 =>
  mm_nw h89 5 2 (fun b91 h92 =>
  mm_qv (bd_X6_init b91 32 h92) (fun h96 =>
  mm_bh (mm_sr h96 a0 8 (some b91)) (fun h100 =>
  mm_nw h100 5 2 (fun b102 h103 =>
  mm_qv (bd_X6_init b102 32 h103) (fun h107 =>
  mm_bh (mm_sr h107 a0 9 (some b102)) (fun h111 =>
  mm_nw h111 5 2 (fun b113 h114 =>
  mm_qv (bd_X6_init b113 16 h114) (fun h118 =>
  mm_bh (mm_sr h118 a0 10 (some b113)) (fun h122 =>
  some (none, h122)))))))))))))))))))))))))))))))))))
set_option maxHeartbeats 4000000 in
set_option maxRecDepth 100000 in
theorem mt_X10_init (G : mm_G) (a0 : Nat) (h : mm_H) (k_a0 : mm_kd h a0 = 9) : mm_Met G my_X10_init [.ref a0] h (bd_X10_init a0 h) := by
  refine mm_met (ls := [.ref a0]) pn_RX10 (Nat.le_of_ble_eq_true rfl) rfl ?_
  unfold bd_X10_init
  refine ok_aload_n (q := 1) dX10_init_0 rfl rfl ?_
  refine ok_objInit (q := 4) dX10_init_1 wd_141 wd_105 wd_106 ⟨Nat.le_of_ble_eq_true rfl, Nat.le_of_ble_eq_true rfl⟩ rfl ?_
  refine ok_aload_n (q := 5) dX10_init_4 rfl rfl ?_
  refine ok_new cl_8 (q := 8) dX10_init_5 wd_142 wd_143 wd_85 tf_8 rfl (fun hk => nw_ok hk (fun b1 h2 p3 k4 => ?_))
  have k5 : mm_kd h2 a0 = 9 := mm_kd_app p3 k_a0 (by decide)
  refine ok_dup (q := 9) dX10_init_8 rfl rfl ?_
  refine mm_cv (q := 12) (mt_X9_init G b1 h2 k4) (mm_runI (as := []) (st := [.ref b1, .ref a0]) (a := b1) lk_X10_init_X9_init_11 dX10_init_9 rfl (Nat.le_of_ble_eq_true rfl)) rfl (fun h6 p7 => ?_)
  have k8 : mm_kd h6 a0 = 9 := mm_kd_app p7 k5 (by decide)
  have k9 : mm_kd h6 b1 = 8 := mm_kd_app p7 k4 (by decide)
  refine ok_putR cl_9 (q := 15) (k := 0) dX10_init_12 (Nat.le_of_ble_eq_true rfl) wd_240 (Or.inr ⟨rfl, rfl, rfl⟩) (fun _ _ _ => rfl) (fun _ => rfl) (fun _ => rfl) kt_9_0 (by decide) k8 k9 rfl (bh_ok (fun h10 e11 => ?_))
  have e11 : h10.1 = h6.1 := e11
  refine ok_aload_n (q := 16) dX10_init_15 rfl rfl ?_
  refine ok_new cl_1 (q := 19) dX10_init_16 wd_159 wd_160 wd_86 tf_1 rfl (fun hk => nw_ok hk (fun b12 h13 p14 k15 => ?_))
  have k16 : mm_kd h13 a0 = 9 := mm_kd_app p14 (mm_ke e11 k8) (by decide)
  refine ok_dup (q := 20) dX10_init_19 rfl rfl ?_
  refine ok_aload_n (q := 21) dX10_init_20 rfl rfl ?_
  refine ok_getR cl_9 (q := 24) (k := 0) dX10_init_21 (Nat.le_of_ble_eq_true rfl) wd_240 (fun _ _ _ => rfl) kt_9_0 k16 rfl (fun b17 k18 => ?_)
  refine mm_cv (q := 27) (mt_X1_init G b12 b17 h13 k15 k18) (mm_runI (as := [.ref b17]) (st := [.ref b12, .ref a0]) (a := b12) lk_X10_init_X1_init_20 dX10_init_24 rfl (Nat.le_of_ble_eq_true rfl)) rfl (fun h19 p20 => ?_)
  have k21 : mm_kd h19 a0 = 9 := mm_kd_app p20 k16 (by decide)
  have k22 : mm_kd h19 b12 = 1 := mm_kd_app p20 k15 (by decide)
  refine ok_putR cl_9 (q := 30) (k := 1) dX10_init_27 (Nat.le_of_ble_eq_true rfl) wd_243 (Or.inr ⟨rfl, rfl, rfl⟩) (fun _ _ _ => rfl) (fun _ => rfl) (fun _ => rfl) kt_9_1 (by decide) k21 k22 rfl (bh_ok (fun h23 e24 => ?_))
  have e24 : h23.1 = h19.1 := e24
  refine ok_aload_n (q := 31) dX10_init_30 rfl rfl ?_
  refine ok_new cl_7 (q := 34) dX10_init_31 wd_194 wd_195 wd_87 tf_7 rfl (fun hk => nw_ok hk (fun b25 h26 p27 k28 => ?_))
  have k29 : mm_kd h26 a0 = 9 := mm_kd_app p27 (mm_ke e24 k21) (by decide)
  refine ok_dup (q := 35) dX10_init_34 rfl rfl ?_
  refine mm_cv (q := 38) (mt_X8_init G b25 h26 k28) (mm_runI (as := []) (st := [.ref b25, .ref a0]) (a := b25) lk_X10_init_X8_init_29 dX10_init_35 rfl (Nat.le_of_ble_eq_true rfl)) rfl (fun h30 p31 => ?_)
  have k32 : mm_kd h30 a0 = 9 := mm_kd_app p31 k29 (by decide)
  have k33 : mm_kd h30 b25 = 7 := mm_kd_app p31 k28 (by decide)
  refine ok_putR cl_9 (q := 41) (k := 2) dX10_init_38 (Nat.le_of_ble_eq_true rfl) wd_245 (Or.inr ⟨rfl, rfl, rfl⟩) (fun _ _ _ => rfl) (fun _ => rfl) (fun _ => rfl) kt_9_2 (by decide) k32 k33 rfl (bh_ok (fun h34 e35 => ?_))
  have e35 : h34.1 = h30.1 := e35
  refine ok_aload_n (q := 42) dX10_init_41 rfl rfl ?_
  refine ok_new cl_5 (q := 45) dX10_init_42 wd_238 wd_108 wd_82 tf_5 rfl (fun hk => nw_ok hk (fun b36 h37 p38 k39 => ?_))
  have k40 : mm_kd h37 a0 = 9 := mm_kd_app p38 (mm_ke e35 k32) (by decide)
  refine ok_dup (q := 46) dX10_init_45 rfl rfl ?_
  refine ok_sipush (q := 49) (v := 600) dX10_init_46 cs_600 rfl ?_
  refine mm_cv (q := 52) (mt_X6_init G b36 600 h37 k39) (mm_runI (as := [.int 600]) (st := [.ref b36, .ref a0]) (a := b36) lk_X10_init_X6_init_36 dX10_init_49 rfl (Nat.le_of_ble_eq_true rfl)) rfl (fun h41 p42 => ?_)
  have k43 : mm_kd h41 a0 = 9 := mm_kd_app p42 k40 (by decide)
  have k44 : mm_kd h41 b36 = 5 := mm_kd_app p42 k39 (by decide)
  refine ok_putR cl_9 (q := 55) (k := 3) dX10_init_52 (Nat.le_of_ble_eq_true rfl) wd_247 (Or.inr ⟨rfl, rfl, rfl⟩) (fun _ _ _ => rfl) (fun _ => rfl) (fun _ => rfl) kt_9_3 (by decide) k43 k44 rfl (bh_ok (fun h45 e46 => ?_))
  have e46 : h45.1 = h41.1 := e46
  refine ok_aload_n (q := 56) dX10_init_55 rfl rfl ?_
  refine ok_new cl_5 (q := 59) dX10_init_56 wd_238 wd_108 wd_82 tf_5 rfl (fun hk => nw_ok hk (fun b47 h48 p49 k50 => ?_))
  have k51 : mm_kd h48 a0 = 9 := mm_kd_app p49 (mm_ke e46 k43) (by decide)
  refine ok_dup (q := 60) dX10_init_59 rfl rfl ?_
  refine ok_sipush (q := 63) (v := 600) dX10_init_60 cs_600 rfl ?_
  refine mm_cv (q := 66) (mt_X6_init G b47 600 h48 k50) (mm_runI (as := [.int 600]) (st := [.ref b47, .ref a0]) (a := b47) lk_X10_init_X6_init_36 dX10_init_63 rfl (Nat.le_of_ble_eq_true rfl)) rfl (fun h52 p53 => ?_)
  have k54 : mm_kd h52 a0 = 9 := mm_kd_app p53 k51 (by decide)
  have k55 : mm_kd h52 b47 = 5 := mm_kd_app p53 k50 (by decide)
  refine ok_putR cl_9 (q := 69) (k := 4) dX10_init_66 (Nat.le_of_ble_eq_true rfl) wd_249 (Or.inr ⟨rfl, rfl, rfl⟩) (fun _ _ _ => rfl) (fun _ => rfl) (fun _ => rfl) kt_9_4 (by decide) k54 k55 rfl (bh_ok (fun h56 e57 => ?_))
  have e57 : h56.1 = h52.1 := e57
  refine ok_aload_n (q := 70) dX10_init_69 rfl rfl ?_
  refine ok_new cl_5 (q := 73) dX10_init_70 wd_238 wd_108 wd_82 tf_5 rfl (fun hk => nw_ok hk (fun b58 h59 p60 k61 => ?_))
  have k62 : mm_kd h59 a0 = 9 := mm_kd_app p60 (mm_ke e57 k54) (by decide)
  refine ok_dup (q := 74) dX10_init_73 rfl rfl ?_
  refine ok_bipush (q := 76) (v := 123) dX10_init_74 cb_123 rfl ?_
  refine mm_cv (q := 79) (mt_X6_init G b58 123 h59 k61) (mm_runI (as := [.int 123]) (st := [.ref b58, .ref a0]) (a := b58) lk_X10_init_X6_init_36 dX10_init_76 rfl (Nat.le_of_ble_eq_true rfl)) rfl (fun h63 p64 => ?_)
  have k65 : mm_kd h63 a0 = 9 := mm_kd_app p64 k62 (by decide)
  have k66 : mm_kd h63 b58 = 5 := mm_kd_app p64 k61 (by decide)
  refine ok_putR cl_9 (q := 82) (k := 5) dX10_init_79 (Nat.le_of_ble_eq_true rfl) wd_251 (Or.inr ⟨rfl, rfl, rfl⟩) (fun _ _ _ => rfl) (fun _ => rfl) (fun _ => rfl) kt_9_5 (by decide) k65 k66 rfl (bh_ok (fun h67 e68 => ?_))
  have e68 : h67.1 = h63.1 := e68
  refine ok_aload_n (q := 83) dX10_init_82 rfl rfl ?_
  refine ok_new cl_5 (q := 86) dX10_init_83 wd_238 wd_108 wd_82 tf_5 rfl (fun hk => nw_ok hk (fun b69 h70 p71 k72 => ?_))
  have k73 : mm_kd h70 a0 = 9 := mm_kd_app p71 (mm_ke e68 k65) (by decide)
  refine ok_dup (q := 87) dX10_init_86 rfl rfl ?_
  refine ok_bipush (q := 89) (v := 123) dX10_init_87 cb_123 rfl ?_
  refine mm_cv (q := 92) (mt_X6_init G b69 123 h70 k72) (mm_runI (as := [.int 123]) (st := [.ref b69, .ref a0]) (a := b69) lk_X10_init_X6_init_36 dX10_init_89 rfl (Nat.le_of_ble_eq_true rfl)) rfl (fun h74 p75 => ?_)
  have k76 : mm_kd h74 a0 = 9 := mm_kd_app p75 k73 (by decide)
  have k77 : mm_kd h74 b69 = 5 := mm_kd_app p75 k72 (by decide)
  refine ok_putR cl_9 (q := 95) (k := 6) dX10_init_92 (Nat.le_of_ble_eq_true rfl) wd_253 (Or.inr ⟨rfl, rfl, rfl⟩) (fun _ _ _ => rfl) (fun _ => rfl) (fun _ => rfl) kt_9_6 (by decide) k76 k77 rfl (bh_ok (fun h78 e79 => ?_))
  have e79 : h78.1 = h74.1 := e79
  refine ok_aload_n (q := 96) dX10_init_95 rfl rfl ?_
  refine ok_new cl_5 (q := 99) dX10_init_96 wd_238 wd_108 wd_82 tf_5 rfl (fun hk => nw_ok hk (fun b80 h81 p82 k83 => ?_))
  have k84 : mm_kd h81 a0 = 9 := mm_kd_app p82 (mm_ke e79 k76) (by decide)
  refine ok_dup (q := 100) dX10_init_99 rfl rfl ?_
  refine ok_bipush (q := 102) (v := 32) dX10_init_100 cb_32 rfl ?_
  refine mm_cv (q := 105) (mt_X6_init G b80 32 h81 k83) (mm_runI (as := [.int 32]) (st := [.ref b80, .ref a0]) (a := b80) lk_X10_init_X6_init_36 dX10_init_102 rfl (Nat.le_of_ble_eq_true rfl)) rfl (fun h85 p86 => ?_)
  have k87 : mm_kd h85 a0 = 9 := mm_kd_app p86 k84 (by decide)
  have k88 : mm_kd h85 b80 = 5 := mm_kd_app p86 k83 (by decide)
  refine ok_putR cl_9 (q := 108) (k := 7) dX10_init_105 (Nat.le_of_ble_eq_true rfl) wd_255 (Or.inr ⟨rfl, rfl, rfl⟩) (fun _ _ _ => rfl) (fun _ => rfl) (fun _ => rfl) kt_9_7 (by decide) k87 k88 rfl (bh_ok (fun h89 e90 => ?_))
  have e90 : h89.1 = h85.1 := e90
  refine ok_aload_n (q := 109) dX10_init_108 rfl rfl ?_
  refine ok_new cl_5 (q := 112) dX10_init_109 wd_238 wd_108 wd_82 tf_5 rfl (fun hk => nw_ok hk (fun b91 h92 p93 k94 => ?_))
  have k95 : mm_kd h92 a0 = 9 := mm_kd_app p93 (mm_ke e90 k87) (by decide)
  refine ok_dup (q := 113) dX10_init_112 rfl rfl ?_
  refine ok_bipush (q := 115) (v := 32) dX10_init_113 cb_32 rfl ?_
  refine mm_cv (q := 118) (mt_X6_init G b91 32 h92 k94) (mm_runI (as := [.int 32]) (st := [.ref b91, .ref a0]) (a := b91) lk_X10_init_X6_init_36 dX10_init_115 rfl (Nat.le_of_ble_eq_true rfl)) rfl (fun h96 p97 => ?_)
  have k98 : mm_kd h96 a0 = 9 := mm_kd_app p97 k95 (by decide)
  have k99 : mm_kd h96 b91 = 5 := mm_kd_app p97 k94 (by decide)
  refine ok_putR cl_9 (q := 121) (k := 8) dX10_init_118 (Nat.le_of_ble_eq_true rfl) wd_258 (Or.inr ⟨rfl, rfl, rfl⟩) (fun _ _ _ => rfl) (fun _ => rfl) (fun _ => rfl) kt_9_8 (by decide) k98 k99 rfl (bh_ok (fun h100 e101 => ?_))
  have e101 : h100.1 = h96.1 := e101
  refine ok_aload_n (q := 122) dX10_init_121 rfl rfl ?_
  refine ok_new cl_5 (q := 125) dX10_init_122 wd_238 wd_108 wd_82 tf_5 rfl (fun hk => nw_ok hk (fun b102 h103 p104 k105 => ?_))
  have k106 : mm_kd h103 a0 = 9 := mm_kd_app p104 (mm_ke e101 k98) (by decide)
  refine ok_dup (q := 126) dX10_init_125 rfl rfl ?_
  refine ok_bipush (q := 128) (v := 32) dX10_init_126 cb_32 rfl ?_
  refine mm_cv (q := 131) (mt_X6_init G b102 32 h103 k105) (mm_runI (as := [.int 32]) (st := [.ref b102, .ref a0]) (a := b102) lk_X10_init_X6_init_36 dX10_init_128 rfl (Nat.le_of_ble_eq_true rfl)) rfl (fun h107 p108 => ?_)
  have k109 : mm_kd h107 a0 = 9 := mm_kd_app p108 k106 (by decide)
  have k110 : mm_kd h107 b102 = 5 := mm_kd_app p108 k105 (by decide)
  refine ok_putR cl_9 (q := 134) (k := 9) dX10_init_131 (Nat.le_of_ble_eq_true rfl) wd_260 (Or.inr ⟨rfl, rfl, rfl⟩) (fun _ _ _ => rfl) (fun _ => rfl) (fun _ => rfl) kt_9_9 (by decide) k109 k110 rfl (bh_ok (fun h111 e112 => ?_))
  have e112 : h111.1 = h107.1 := e112
  refine ok_aload_n (q := 135) dX10_init_134 rfl rfl ?_
  refine ok_new cl_5 (q := 138) dX10_init_135 wd_238 wd_108 wd_82 tf_5 rfl (fun hk => nw_ok hk (fun b113 h114 p115 k116 => ?_))
  have k117 : mm_kd h114 a0 = 9 := mm_kd_app p115 (mm_ke e112 k109) (by decide)
  refine ok_dup (q := 139) dX10_init_138 rfl rfl ?_
  refine ok_bipush (q := 141) (v := 16) dX10_init_139 cb_16 rfl ?_
  refine mm_cv (q := 144) (mt_X6_init G b113 16 h114 k116) (mm_runI (as := [.int 16]) (st := [.ref b113, .ref a0]) (a := b113) lk_X10_init_X6_init_36 dX10_init_141 rfl (Nat.le_of_ble_eq_true rfl)) rfl (fun h118 p119 => ?_)
  have k120 : mm_kd h118 a0 = 9 := mm_kd_app p119 k117 (by decide)
  have k121 : mm_kd h118 b113 = 5 := mm_kd_app p119 k116 (by decide)
  refine ok_putR cl_9 (q := 147) (k := 10) dX10_init_144 (Nat.le_of_ble_eq_true rfl) wd_262 (Or.inr ⟨rfl, rfl, rfl⟩) (fun _ _ _ => rfl) (fun _ => rfl) (fun _ => rfl) kt_9_10 (by decide) k120 k121 rfl (bh_ok (fun h122 e123 => ?_))
  have e123 : h122.1 = h118.1 := e123
  exact ok_ret dX10_init_147 rfl
def lp_X11_init_39 (ke_67 : Nat → mm_H → mm_O) : Nat → Nat → Int32 → mm_H → mm_O
  | 0, _, _, _ => none
  | n + 1, a0, x1, h => if (4 : Int32) ≤ x1 then
  (ke_67 a0 h)
  else
  (mm_gr h a0 1 (fun b30 =>
  mm_nw h 0 18 (fun b32 h33 =>
  mm_gr h33 a0 2 (fun b38 =>
  mm_qv (bd_X0_init b32 b38 h33) (fun h40 =>
  if mm_in x1 (mm_ln h40 b30) = true then (mm_bh (mm_sr h40 b30 (mm_n x1) (some b32)) (fun h46 =>
  lp_X11_init_39 ke_67 n a0 (x1 + 1) h46)) else none)))))
set_option maxHeartbeats 4000000 in
set_option maxRecDepth 100000 in
theorem ol_X11_init_39 {G : mm_G} {ke_67 : Nat → mm_H → mm_O} (hke_67 : ∀ (a0 : Nat) (h : mm_H), mm_kd h a0 = 10 → mm_Ok G my_X11_init 67 [.ref a0, mm_U] [] h (ke_67 a0 h)) : ∀ (n : Nat) (a0 : Nat) (x1 : Int32) (h : mm_H), mm_kd h a0 = 10 → mm_Ok G my_X11_init 39 [.ref a0, .int x1] [] h (lp_X11_init_39 ke_67 n a0 x1 h) := by
  intro n
  induction n with
  | zero => intro a0 x1 h k_a0; exact mm_no
  | succ n ih =>
    intro a0 x1 h k_a0
    rw [lp_X11_init_39]
    refine ok_iload_n (q := 40) dX11_init_39 rfl rfl ?_
    refine ok_iconst (q := 41) (v := 4) dX11_init_40 ci_4 rfl ?_
    refine ok_icmp_ge (q := 44) (t := 67) dX11_init_41 rfl rfl ?_ ?_
    · refine mm_wk [true, false] (ls' := [.ref a0, mm_U]) rfl ?_
      exact hke_67 a0 h k_a0
    · refine ok_aload_n (q := 45) dX11_init_44 rfl rfl ?_
      refine ok_getR cl_10 (q := 48) (k := 1) dX11_init_45 (Nat.le_of_ble_eq_true rfl) wd_438 (fun _ _ _ => rfl) kt_10_1 k_a0 rfl (fun b30 k31 => ?_)
      refine ok_iload_n (q := 49) dX11_init_48 rfl rfl ?_
      refine ok_new cl_0 (q := 52) dX11_init_49 wd_287 wd_289 wd_89 tf_0 rfl (fun hk => nw_ok hk (fun b32 h33 p34 k35 => ?_))
      have k36 : mm_kd h33 a0 = 10 := mm_kd_app p34 k_a0 (by decide)
      have k37 : mm_kd h33 b30 = 25 := mm_kd_app p34 k31 (by decide)
      refine ok_dup (q := 53) dX11_init_52 rfl rfl ?_
      refine ok_aload_n (q := 54) dX11_init_53 rfl rfl ?_
      refine ok_getR cl_10 (q := 57) (k := 2) dX11_init_54 (Nat.le_of_ble_eq_true rfl) wd_439 (fun _ _ _ => rfl) kt_10_2 k36 rfl (fun b38 k39 => ?_)
      refine mm_cv (q := 60) (mt_X0_init G b32 b38 h33 k35 k39) (mm_runI (as := [.ref b38]) (st := [.ref b32, .int x1, .ref b30]) (a := b32) lk_X11_init_X0_init_31 dX11_init_57 rfl (Nat.le_of_ble_eq_true rfl)) rfl (fun h40 p41 => ?_)
      have k42 : mm_kd h40 a0 = 10 := mm_kd_app p41 k36 (by decide)
      have k43 : mm_kd h40 b32 = 0 := mm_kd_app p41 k35 (by decide)
      have k44 : mm_kd h40 b30 = 25 := mm_kd_app p41 k37 (by decide)
      refine mm_ck (fun c45 => ?_)
      refine ok_aast (kb := 0) (q := 61) dX11_init_60 k44 (by decide) k43 c45 rfl (bh_ok (fun h46 e47 => ?_))
      have e47 : h46.1 = h40.1 := e47
      refine ok_iinc (q := 64) (v := x1 + 1) (ls' := [.ref a0, .int (x1 + 1)]) dX11_init_61 rfl (congrArg (x1 + ·) ci_1) (Nat.le_of_ble_eq_true rfl) rfl rfl ?_
      refine ok_goto (q := 39) dX11_init_64 rfl ?_
      exact ih a0 (x1 + 1) h46 (mm_ke e47 k42)
def bd_X11_init (a0 : Nat) (h : mm_H) : mm_O := mm_nw h 5 2 (fun b1 h2 =>
  mm_qv (bd_X6_init b1 600 h2) (fun h6 =>
  mm_bh (mm_sr h6 a0 0 (some b1)) (fun h10 =>
  mm_nw h10 9 11 (fun b12 h13 =>
  mm_qv (bd_X10_init b12 h13) (fun h17 =>
  mm_bh (mm_sr h17 a0 2 (some b12)) (fun h21 =>
  mm_nw h21 25 (mm_n (4 : Int32)) (fun b23 h24 =>
  mm_bh (mm_sr h24 a0 1 (some b23)) (fun h28 =>
  lp_X11_init_39 (fun b49 h48 => mm_bh (mm_si h48 b49 3 0) (fun h50 =>
  some (none, h50))) mm_fu a0 0 h28))))))))
set_option maxHeartbeats 4000000 in
set_option maxRecDepth 100000 in
theorem mt_X11_init (G : mm_G) (a0 : Nat) (h : mm_H) (k_a0 : mm_kd h a0 = 10) : mm_Met G my_X11_init [.ref a0] h (bd_X11_init a0 h) := by
  refine mm_met (ls := [.ref a0, mm_U]) pn_RX11 (Nat.le_of_ble_eq_true rfl) rfl ?_
  unfold bd_X11_init
  refine ok_aload_n (q := 1) dX11_init_0 rfl rfl ?_
  refine ok_objInit (q := 4) dX11_init_1 wd_104 wd_105 wd_106 ⟨Nat.le_of_ble_eq_true rfl, Nat.le_of_ble_eq_true rfl⟩ rfl ?_
  refine ok_aload_n (q := 5) dX11_init_4 rfl rfl ?_
  refine ok_new cl_5 (q := 8) dX11_init_5 wd_107 wd_108 wd_82 tf_5 rfl (fun hk => nw_ok hk (fun b1 h2 p3 k4 => ?_))
  have k5 : mm_kd h2 a0 = 10 := mm_kd_app p3 k_a0 (by decide)
  refine ok_dup (q := 9) dX11_init_8 rfl rfl ?_
  refine ok_sipush (q := 12) (v := 600) dX11_init_9 cs_600 rfl ?_
  refine mm_cv (q := 15) (mt_X6_init G b1 600 h2 k4) (mm_runI (as := [.int 600]) (st := [.ref b1, .ref a0]) (a := b1) lk_X11_init_X6_init_11 dX11_init_12 rfl (Nat.le_of_ble_eq_true rfl)) rfl (fun h6 p7 => ?_)
  have k8 : mm_kd h6 a0 = 10 := mm_kd_app p7 k5 (by decide)
  have k9 : mm_kd h6 b1 = 5 := mm_kd_app p7 k4 (by decide)
  refine ok_putR cl_10 (q := 18) (k := 0) dX11_init_15 (Nat.le_of_ble_eq_true rfl) wd_437 (Or.inr ⟨rfl, rfl, rfl⟩) (fun _ _ _ => rfl) (fun _ => rfl) (fun _ => rfl) kt_10_0 (by decide) k8 k9 rfl (bh_ok (fun h10 e11 => ?_))
  have e11 : h10.1 = h6.1 := e11
  refine ok_aload_n (q := 19) dX11_init_18 rfl rfl ?_
  refine ok_new cl_9 (q := 22) dX11_init_19 wd_136 wd_137 wd_84 tf_9 rfl (fun hk => nw_ok hk (fun b12 h13 p14 k15 => ?_))
  have k16 : mm_kd h13 a0 = 10 := mm_kd_app p14 (mm_ke e11 k8) (by decide)
  refine ok_dup (q := 23) dX11_init_22 rfl rfl ?_
  refine mm_cv (q := 26) (mt_X10_init G b12 h13 k15) (mm_runI (as := []) (st := [.ref b12, .ref a0]) (a := b12) lk_X11_init_X10_init_20 dX11_init_23 rfl (Nat.le_of_ble_eq_true rfl)) rfl (fun h17 p18 => ?_)
  have k19 : mm_kd h17 a0 = 10 := mm_kd_app p18 k16 (by decide)
  have k20 : mm_kd h17 b12 = 9 := mm_kd_app p18 k15 (by decide)
  refine ok_putR cl_10 (q := 29) (k := 2) dX11_init_26 (Nat.le_of_ble_eq_true rfl) wd_439 (Or.inr ⟨rfl, rfl, rfl⟩) (fun _ _ _ => rfl) (fun _ => rfl) (fun _ => rfl) kt_10_2 (by decide) k19 k20 rfl (bh_ok (fun h21 e22 => ?_))
  have e22 : h21.1 = h17.1 := e22
  refine ok_aload_n (q := 30) dX11_init_29 rfl rfl ?_
  refine ok_iconst (q := 31) (v := 4) dX11_init_30 ci_4 rfl ?_
  refine ok_new_e (q := 34) dX11_init_31 wd_287 (by decide) (by decide) rfl (fun hk => nw_ok hk (fun b23 h24 p25 k26 => ?_))
  have k27 : mm_kd h24 a0 = 10 := mm_kd_app p25 (mm_ke e22 k19) (by decide)
  refine ok_putR cl_10 (q := 37) (k := 1) dX11_init_34 (Nat.le_of_ble_eq_true rfl) wd_438 (Or.inr ⟨rfl, rfl, rfl⟩) (fun _ _ _ => rfl) (fun _ => rfl) (fun _ => rfl) kt_10_1 (by decide) k27 k26 rfl (bh_ok (fun h28 e29 => ?_))
  have e29 : h28.1 = h24.1 := e29
  refine ok_iconst (q := 38) (v := 0) dX11_init_37 ci_0 rfl ?_
  refine ok_istore_n (q := 39) (ls' := [.ref a0, .int 0]) dX11_init_38 (Nat.le_of_ble_eq_true rfl) rfl rfl ?_
  refine ol_X11_init_39 (fun b49 h48 k_b49 => ?_) mm_fu a0 0 h28 (mm_ke e29 k27)
  · refine ok_aload_n (q := 68) dX11_init_67 rfl rfl ?_
    refine ok_iconst (q := 69) (v := 0) dX11_init_68 ci_0 rfl ?_
    refine ok_putI cl_10 (q := 72) (k := 3) dX11_init_69 (Nat.le_of_ble_eq_true rfl) wd_440 (Or.inl rfl) (fun _ _ _ => rfl) rfl rfl k_b49 rfl (bh_ok (fun h50 e51 => ?_))
    have e51 : h50.1 = h48.1 := e51
    exact ok_ret dX11_init_72 rfl
def bd_X11_feed (a0 : Nat) (x1 : Int32) (x2 : Int32) (x3 : Int32) (x4 : Int32) (x5 : Int32) (h : mm_H) : mm_O := mm_gr h a0 0 (fun b1 =>
  if ((mm_i h b1 1) + (20 : Int32)) ≤ (600 : Int32) then
  (mm_gr h a0 0 (fun b3 =>
  mm_qv (bd_X6_putNumber b3 x1 4 h) (fun h5 =>
  mm_gr h5 a0 0 (fun b8 =>
  mm_qv (bd_X6_putNumber b8 x2 4 h5) (fun h10 =>
  mm_gr h10 a0 0 (fun b13 =>
  mm_qv (bd_X6_putNumber b13 x3 4 h10) (fun h15 =>
  mm_gr h15 a0 0 (fun b18 =>
  mm_qv (bd_X6_putNumber b18 x4 4 h15) (fun h20 =>
  mm_gr h20 a0 0 (fun b23 =>
  mm_qv (bd_X6_putNumber b23 x5 4 h20) (fun h25 =>
  mm_gr h25 a0 0 (fun b28 =>
  some (some (.int (mm_i h25 b28 1)), h25)))))))))))))
  else
  (some (some (.int (-1)), h)))
set_option maxHeartbeats 4000000 in
set_option maxRecDepth 100000 in
theorem mt_X11_feed (G : mm_G) (a0 : Nat) (x1 : Int32) (x2 : Int32) (x3 : Int32) (x4 : Int32) (x5 : Int32) (h : mm_H) (k_a0 : mm_kd h a0 = 10) : mm_Met G my_X11_feed [.ref a0, .int x1, .int x2, .int x3, .int x4, .int x5] h (bd_X11_feed a0 x1 x2 x3 x4 x5 h) := by
  refine mm_met (ls := [.ref a0, .int x1, .int x2, .int x3, .int x4, .int x5]) pn_RX11 (Nat.le_of_ble_eq_true rfl) rfl ?_
  unfold bd_X11_feed
  refine ok_aload_n (q := 1) dX11_feed_0 rfl rfl ?_
  refine ok_getR cl_10 (q := 4) (k := 0) dX11_feed_1 (Nat.le_of_ble_eq_true rfl) wd_437 (fun _ _ _ => rfl) kt_10_0 k_a0 rfl (fun b1 k2 => ?_)
  refine ok_getI cl_5 (q := 7) (k := 1) dX11_feed_4 (Nat.le_of_ble_eq_true rfl) wd_124 (fun _ _ _ => rfl) k2 rfl ?_
  refine ok_bipush (q := 9) (v := 20) dX11_feed_7 cb_20 rfl ?_
  refine ok_iadd (q := 10) dX11_feed_9 rfl ?_
  refine ok_sipush (q := 13) (v := 600) dX11_feed_10 cs_600 rfl ?_
  refine ok_icmp_le (q := 16) (t := 18) dX11_feed_13 rfl rfl ?_ ?_
  · refine ok_aload_n (q := 19) dX11_feed_18 rfl rfl ?_
    refine ok_getR cl_10 (q := 22) (k := 0) dX11_feed_19 (Nat.le_of_ble_eq_true rfl) wd_437 (fun _ _ _ => rfl) kt_10_0 k_a0 rfl (fun b3 k4 => ?_)
    refine ok_iload_n (q := 23) dX11_feed_22 rfl rfl ?_
    refine ok_iconst (q := 24) (v := 4) dX11_feed_23 ci_4 rfl ?_
    refine mm_cv (q := 27) (mt_X6_putNumber G b3 x1 4 h k4) (mm_runV (as := [.int x1, .int 4]) (st := []) cl_5 lk_X11_feed_X6_putNumber_41 rfl dX11_feed_24 rfl (Nat.le_of_ble_eq_true rfl) k4) rfl (fun h5 p6 => ?_)
    have k7 : mm_kd h5 a0 = 10 := mm_kd_app p6 k_a0 (by decide)
    refine ok_aload_n (q := 28) dX11_feed_27 rfl rfl ?_
    refine ok_getR cl_10 (q := 31) (k := 0) dX11_feed_28 (Nat.le_of_ble_eq_true rfl) wd_437 (fun _ _ _ => rfl) kt_10_0 k7 rfl (fun b8 k9 => ?_)
    refine ok_iload_n (q := 32) dX11_feed_31 rfl rfl ?_
    refine ok_iconst (q := 33) (v := 4) dX11_feed_32 ci_4 rfl ?_
    refine mm_cv (q := 36) (mt_X6_putNumber G b8 x2 4 h5 k9) (mm_runV (as := [.int x2, .int 4]) (st := []) cl_5 lk_X11_feed_X6_putNumber_41 rfl dX11_feed_33 rfl (Nat.le_of_ble_eq_true rfl) k9) rfl (fun h10 p11 => ?_)
    have k12 : mm_kd h10 a0 = 10 := mm_kd_app p11 k7 (by decide)
    refine ok_aload_n (q := 37) dX11_feed_36 rfl rfl ?_
    refine ok_getR cl_10 (q := 40) (k := 0) dX11_feed_37 (Nat.le_of_ble_eq_true rfl) wd_437 (fun _ _ _ => rfl) kt_10_0 k12 rfl (fun b13 k14 => ?_)
    refine ok_iload_n (q := 41) dX11_feed_40 rfl rfl ?_
    refine ok_iconst (q := 42) (v := 4) dX11_feed_41 ci_4 rfl ?_
    refine mm_cv (q := 45) (mt_X6_putNumber G b13 x3 4 h10 k14) (mm_runV (as := [.int x3, .int 4]) (st := []) cl_5 lk_X11_feed_X6_putNumber_41 rfl dX11_feed_42 rfl (Nat.le_of_ble_eq_true rfl) k14) rfl (fun h15 p16 => ?_)
    have k17 : mm_kd h15 a0 = 10 := mm_kd_app p16 k12 (by decide)
    refine ok_aload_n (q := 46) dX11_feed_45 rfl rfl ?_
    refine ok_getR cl_10 (q := 49) (k := 0) dX11_feed_46 (Nat.le_of_ble_eq_true rfl) wd_437 (fun _ _ _ => rfl) kt_10_0 k17 rfl (fun b18 k19 => ?_)
    refine ok_iload (q := 51) dX11_feed_49 rfl rfl ?_
    refine ok_iconst (q := 52) (v := 4) dX11_feed_51 ci_4 rfl ?_
    refine mm_cv (q := 55) (mt_X6_putNumber G b18 x4 4 h15 k19) (mm_runV (as := [.int x4, .int 4]) (st := []) cl_5 lk_X11_feed_X6_putNumber_41 rfl dX11_feed_52 rfl (Nat.le_of_ble_eq_true rfl) k19) rfl (fun h20 p21 => ?_)
    have k22 : mm_kd h20 a0 = 10 := mm_kd_app p21 k17 (by decide)
    refine ok_aload_n (q := 56) dX11_feed_55 rfl rfl ?_
    refine ok_getR cl_10 (q := 59) (k := 0) dX11_feed_56 (Nat.le_of_ble_eq_true rfl) wd_437 (fun _ _ _ => rfl) kt_10_0 k22 rfl (fun b23 k24 => ?_)
    refine ok_iload (q := 61) dX11_feed_59 rfl rfl ?_
    refine ok_iconst (q := 62) (v := 4) dX11_feed_61 ci_4 rfl ?_
    refine mm_cv (q := 65) (mt_X6_putNumber G b23 x5 4 h20 k24) (mm_runV (as := [.int x5, .int 4]) (st := []) cl_5 lk_X11_feed_X6_putNumber_41 rfl dX11_feed_62 rfl (Nat.le_of_ble_eq_true rfl) k24) rfl (fun h25 p26 => ?_)
    have k27 : mm_kd h25 a0 = 10 := mm_kd_app p26 k22 (by decide)
    refine ok_aload_n (q := 66) dX11_feed_65 rfl rfl ?_
    refine ok_getR cl_10 (q := 69) (k := 0) dX11_feed_66 (Nat.le_of_ble_eq_true rfl) wd_437 (fun _ _ _ => rfl) kt_10_0 k27 rfl (fun b28 k29 => ?_)
    refine ok_getI cl_5 (q := 72) (k := 1) dX11_feed_69 (Nat.le_of_ble_eq_true rfl) wd_124 (fun _ _ _ => rfl) k29 rfl ?_
    exact ok_iret (t := .int) dX11_feed_72 rfl rfl
  · refine ok_iconst (q := 17) (v := -1) dX11_feed_16 ci_m1 rfl ?_
    exact ok_iret (t := .int) dX11_feed_17 rfl rfl
def bd_X11_end (a0 : Nat) (x1 : Int32) (h : mm_H) : mm_O := if x1 < 0 then
  (some (some (.int (-1)), h))
  else
  (mm_gr h a0 0 (fun b1 =>
  if x1 ≤ (mm_i h b1 1) then
  (mm_gr h a0 0 (fun b3 =>
  mm_qv (bd_X6_cut b3 x1 h) (fun h5 =>
  some (some (.int x1), h5))))
  else
  (some (some (.int (-1)), h))))
set_option maxHeartbeats 4000000 in
set_option maxRecDepth 100000 in
theorem mt_X11_end (G : mm_G) (a0 : Nat) (x1 : Int32) (h : mm_H) (k_a0 : mm_kd h a0 = 10) : mm_Met G my_X11_end [.ref a0, .int x1] h (bd_X11_end a0 x1 h) := by
  refine mm_met (ls := [.ref a0, .int x1]) pn_RX11 (Nat.le_of_ble_eq_true rfl) rfl ?_
  unfold bd_X11_end
  refine ok_iload_n (q := 1) dX11_end_0 rfl rfl ?_
  refine ok_if_lt (q := 4) (t := 15) dX11_end_1 rfl rfl ?_ ?_
  · refine ok_iconst (q := 16) (v := -1) dX11_end_15 ci_m1 rfl ?_
    exact ok_iret (t := .int) dX11_end_16 rfl rfl
  · refine ok_iload_n (q := 5) dX11_end_4 rfl rfl ?_
    refine ok_aload_n (q := 6) dX11_end_5 rfl rfl ?_
    refine ok_getR cl_10 (q := 9) (k := 0) dX11_end_6 (Nat.le_of_ble_eq_true rfl) wd_437 (fun _ _ _ => rfl) kt_10_0 k_a0 rfl (fun b1 k2 => ?_)
    refine ok_getI cl_5 (q := 12) (k := 1) dX11_end_9 (Nat.le_of_ble_eq_true rfl) wd_124 (fun _ _ _ => rfl) k2 rfl ?_
    refine ok_icmp_le (q := 15) (t := 17) dX11_end_12 rfl rfl ?_ ?_
    · refine ok_aload_n (q := 18) dX11_end_17 rfl rfl ?_
      refine ok_getR cl_10 (q := 21) (k := 0) dX11_end_18 (Nat.le_of_ble_eq_true rfl) wd_437 (fun _ _ _ => rfl) kt_10_0 k_a0 rfl (fun b3 k4 => ?_)
      refine ok_iload_n (q := 22) dX11_end_21 rfl rfl ?_
      refine mm_cv (q := 25) (mt_X6_cut G b3 x1 h k4) (mm_runV (as := [.int x1]) (st := []) cl_5 lk_X11_end_X6_cut_45 rfl dX11_end_22 rfl (Nat.le_of_ble_eq_true rfl) k4) rfl (fun h5 p6 => ?_)
      have k7 : mm_kd h5 a0 = 10 := mm_kd_app p6 k_a0 (by decide)
      refine ok_iload_n (q := 26) dX11_end_25 rfl rfl ?_
      exact ok_iret (t := .int) dX11_end_26 rfl rfl
    · refine ok_iconst (q := 16) (v := -1) dX11_end_15 ci_m1 rfl ?_
      exact ok_iret (t := .int) dX11_end_16 rfl rfl
def bd_X11_make (a0 : Nat) (x1 : Int32) (h : mm_H) : mm_O := if (mm_i h a0 3) < (4 : Int32) then
  (mm_gr h a0 1 (fun b1 =>
  if mm_in (mm_i h a0 3) (mm_ln h b1) = true then (mm_gr h b1 (mm_n (mm_i h a0 3)) (fun b4 =>
  if x1 = 0 ∨ x1 = 1 then (mm_bh (mm_si h b4 4 x1) (fun h6 =>
  mm_bh (mm_si h6 a0 3 ((mm_i h6 a0 3) + (1 : Int32))) (fun h9 =>
  some (some (.int ((mm_i h9 a0 3) - (1 : Int32))), h9)))) else none)) else none))
  else
  (some (some (.int (-1)), h))
set_option maxHeartbeats 4000000 in
set_option maxRecDepth 100000 in
theorem mt_X11_make (G : mm_G) (a0 : Nat) (x1 : Int32) (h : mm_H) (k_a0 : mm_kd h a0 = 10) : mm_Met G my_X11_make [.ref a0, .int x1] h (bd_X11_make a0 x1 h) := by
  refine mm_met (ls := [.ref a0, .int x1]) pn_RX11 (Nat.le_of_ble_eq_true rfl) rfl ?_
  unfold bd_X11_make
  refine ok_aload_n (q := 1) dX11_make_0 rfl rfl ?_
  refine ok_getI cl_10 (q := 4) (k := 3) dX11_make_1 (Nat.le_of_ble_eq_true rfl) wd_440 (fun _ _ _ => rfl) k_a0 rfl ?_
  refine ok_iconst (q := 5) (v := 4) dX11_make_4 ci_4 rfl ?_
  refine ok_icmp_lt (q := 8) (t := 10) dX11_make_5 rfl rfl ?_ ?_
  · refine ok_aload_n (q := 11) dX11_make_10 rfl rfl ?_
    refine ok_getR cl_10 (q := 14) (k := 1) dX11_make_11 (Nat.le_of_ble_eq_true rfl) wd_438 (fun _ _ _ => rfl) kt_10_1 k_a0 rfl (fun b1 k2 => ?_)
    refine ok_aload_n (q := 15) dX11_make_14 rfl rfl ?_
    refine ok_getI cl_10 (q := 18) (k := 3) dX11_make_15 (Nat.le_of_ble_eq_true rfl) wd_440 (fun _ _ _ => rfl) k_a0 rfl ?_
    refine mm_ck (fun c3 => ?_)
    refine ok_aald (kb := 0) (q := 19) dX11_make_18 k2 (by decide) c3 rfl (fun b4 k5 => ?_)
    refine ok_iload_n (q := 20) dX11_make_19 rfl rfl ?_
    refine mm_ck (fun c8 => ?_)
    refine ok_putI cl_0 (q := 23) (k := 4) dX11_make_20 (Nat.le_of_ble_eq_true rfl) wd_385 (Or.inl rfl) (fun _ _ _ => rfl) (mm_isb c8).1 (mm_isb c8).2 k5 rfl (bh_ok (fun h6 e7 => ?_))
    have e7 : h6.1 = h.1 := e7
    refine ok_aload_n (q := 24) dX11_make_23 rfl rfl ?_
    refine ok_dup (q := 25) dX11_make_24 rfl rfl ?_
    refine ok_getI cl_10 (q := 28) (k := 3) dX11_make_25 (Nat.le_of_ble_eq_true rfl) wd_440 (fun _ _ _ => rfl) (mm_ke e7 k_a0) rfl ?_
    refine ok_iconst (q := 29) (v := 1) dX11_make_28 ci_1 rfl ?_
    refine ok_iadd (q := 30) dX11_make_29 rfl ?_
    refine ok_putI cl_10 (q := 33) (k := 3) dX11_make_30 (Nat.le_of_ble_eq_true rfl) wd_440 (Or.inl rfl) (fun _ _ _ => rfl) rfl rfl (mm_ke e7 k_a0) rfl (bh_ok (fun h9 e10 => ?_))
    have e10 : h9.1 = h.1 := e10.trans e7
    refine ok_aload_n (q := 34) dX11_make_33 rfl rfl ?_
    refine ok_getI cl_10 (q := 37) (k := 3) dX11_make_34 (Nat.le_of_ble_eq_true rfl) wd_440 (fun _ _ _ => rfl) (mm_ke e10 k_a0) rfl ?_
    refine ok_iconst (q := 38) (v := 1) dX11_make_37 ci_1 rfl ?_
    refine ok_isub (q := 39) dX11_make_38 rfl ?_
    exact ok_iret (t := .int) dX11_make_39 rfl rfl
  · refine ok_iconst (q := 9) (v := -1) dX11_make_8 ci_m1 rfl ?_
    exact ok_iret (t := .int) dX11_make_9 rfl rfl
def jn_X11_find_30  (h : mm_H) : mm_O := some (some .null, h)
set_option maxHeartbeats 4000000 in
set_option maxRecDepth 100000 in
theorem oj_X11_find_30 {G : mm_G}    (h : mm_H)  : mm_Ok G my_X11_find 30 [mm_U, mm_U] [] h (jn_X11_find_30 h) := by
  unfold jn_X11_find_30
  refine ok_null (q := 31) dX11_find_30 rfl ?_
  exact ok_nret dX11_find_31 rfl (Or.inl ⟨_, rfl⟩)
def bd_X11_find (a0 : Nat) (x1 : Int32) (h : mm_H) : mm_O := if x1 < 0 then
  (jn_X11_find_30 h)
  else
  (if (mm_i h a0 3) ≤ x1 then
  (jn_X11_find_30 h)
  else
  (mm_gr h a0 1 (fun b1 =>
  if (nI (mm_ln h b1)) ≤ x1 then
  (jn_X11_find_30 h)
  else
  (mm_gr h a0 1 (fun b3 =>
  if mm_in x1 (mm_ln h b3) = true then (mm_gr h b3 (mm_n x1) (fun b6 =>
  some (some (.ref b6), h))) else none)))))
set_option maxHeartbeats 4000000 in
set_option maxRecDepth 100000 in
theorem mt_X11_find (G : mm_G) (a0 : Nat) (x1 : Int32) (h : mm_H) (k_a0 : mm_kd h a0 = 10) : mm_Met G my_X11_find [.ref a0, .int x1] h (bd_X11_find a0 x1 h) := by
  refine mm_met (ls := [.ref a0, .int x1]) pn_RX11 (Nat.le_of_ble_eq_true rfl) rfl ?_
  unfold bd_X11_find
  refine ok_iload_n (q := 1) dX11_find_0 rfl rfl ?_
  refine ok_if_lt (q := 4) (t := 30) dX11_find_1 rfl rfl ?_ ?_
  · refine mm_wk [false, false] (ls' := [mm_U, mm_U]) rfl ?_
    exact oj_X11_find_30 h
  · refine ok_iload_n (q := 5) dX11_find_4 rfl rfl ?_
    refine ok_aload_n (q := 6) dX11_find_5 rfl rfl ?_
    refine ok_getI cl_10 (q := 9) (k := 3) dX11_find_6 (Nat.le_of_ble_eq_true rfl) wd_440 (fun _ _ _ => rfl) k_a0 rfl ?_
    refine ok_icmp_ge (q := 12) (t := 30) dX11_find_9 rfl rfl ?_ ?_
    · refine mm_wk [false, false] (ls' := [mm_U, mm_U]) rfl ?_
      exact oj_X11_find_30 h
    · refine ok_iload_n (q := 13) dX11_find_12 rfl rfl ?_
      refine ok_aload_n (q := 14) dX11_find_13 rfl rfl ?_
      refine ok_getR cl_10 (q := 17) (k := 1) dX11_find_14 (Nat.le_of_ble_eq_true rfl) wd_438 (fun _ _ _ => rfl) kt_10_1 k_a0 rfl (fun b1 k2 => ?_)
      refine ok_alen (q := 18) dX11_find_17 (by rw [k2]; decide) rfl ?_
      refine ok_icmp_ge (q := 21) (t := 30) dX11_find_18 rfl rfl ?_ ?_
      · refine mm_wk [false, false] (ls' := [mm_U, mm_U]) rfl ?_
        exact oj_X11_find_30 h
      · refine ok_aload_n (q := 22) dX11_find_21 rfl rfl ?_
        refine ok_getR cl_10 (q := 25) (k := 1) dX11_find_22 (Nat.le_of_ble_eq_true rfl) wd_438 (fun _ _ _ => rfl) kt_10_1 k_a0 rfl (fun b3 k4 => ?_)
        refine ok_iload_n (q := 26) dX11_find_25 rfl rfl ?_
        refine mm_ck (fun c5 => ?_)
        refine ok_aald (kb := 0) (q := 27) dX11_find_26 k4 (by decide) c5 rfl (fun b6 k7 => ?_)
        refine ok_goto (q := 31) dX11_find_27 rfl ?_
        exact ok_aret dX11_find_31 rfl (Or.inl ⟨_, rfl⟩) kr_0 k7
def bd_X11_tell (a0 : Nat) (x1 : Int32) (x2 : Int32) (h : mm_H) : mm_O := mm_qa (bd_X11_find a0 x1 h) (fun h1 =>
  some (some (.int 0), h1)) (fun b3 h1 =>
  mm_gr h1 a0 0 (fun b7 =>
  mm_qi (bd_X0_learn b3 x2 b7 h1) (fun v11 h9 =>
  if v11 = 0 then
  (some (some (.int 0), h9))
  else
  (mm_gr h9 a0 0 (fun b14 =>
  mm_qv (bd_X6_clear b14 h9) (fun h16 =>
  some (some (.int 1), h16)))))))
set_option maxHeartbeats 4000000 in
set_option maxRecDepth 100000 in
theorem mt_X11_tell (G : mm_G) (a0 : Nat) (x1 : Int32) (x2 : Int32) (h : mm_H) (k_a0 : mm_kd h a0 = 10) : mm_Met G my_X11_tell [.ref a0, .int x1, .int x2] h (bd_X11_tell a0 x1 x2 h) := by
  refine mm_met (ls := [.ref a0, .int x1, .int x2, mm_U]) pn_RX11 (Nat.le_of_ble_eq_true rfl) rfl ?_
  unfold bd_X11_tell
  refine ok_aload_n (q := 1) dX11_tell_0 rfl rfl ?_
  refine ok_iload_n (q := 2) dX11_tell_1 rfl rfl ?_
  refine mm_ca (q := 5) (mt_X11_find G a0 x1 h k_a0) rfl kr_0 (mm_runV (as := [.int x1]) (st := []) cl_10 lk_X11_tell_X11_find_52 rfl dX11_tell_2 rfl (Nat.le_of_ble_eq_true rfl) k_a0) rfl (fun h1 p2 => ?_) (fun b3 h1 p2 k4 => ?_)
  · have k5 : mm_kd h1 a0 = 10 := mm_kd_app p2 k_a0 (by decide)
    refine ok_astore_nN (q := 6) (ls' := [.ref a0, .int x1, .int x2, .null]) dX11_tell_5 (Nat.le_of_ble_eq_true rfl) rfl rfl ?_
    refine ok_aload_nN (q := 7) dX11_tell_6 rfl rfl ?_
    refine ok_ifnull_n (q := 22) dX11_tell_7 rfl ?_
    refine ok_iconst (q := 23) (v := 0) dX11_tell_22 ci_0 rfl ?_
    exact ok_iret (t := .boolean) dX11_tell_23 rfl (by decide)
  · have k6 : mm_kd h1 a0 = 10 := mm_kd_app p2 k_a0 (by decide)
    refine ok_astore_n (q := 6) (ls' := [.ref a0, .int x1, .int x2, .ref b3]) dX11_tell_5 (Nat.le_of_ble_eq_true rfl) rfl rfl ?_
    refine ok_aload_n (q := 7) dX11_tell_6 rfl rfl ?_
    refine ok_ifnull_s (q := 10) dX11_tell_7 rfl ?_
    refine ok_aload_n (q := 11) dX11_tell_10 rfl rfl ?_
    refine ok_iload_n (q := 12) dX11_tell_11 rfl rfl ?_
    refine ok_aload_n (q := 13) dX11_tell_12 rfl rfl ?_
    refine ok_getR cl_10 (q := 16) (k := 0) dX11_tell_13 (Nat.le_of_ble_eq_true rfl) wd_437 (fun _ _ _ => rfl) kt_10_0 k6 rfl (fun b7 k8 => ?_)
    refine mm_ci (q := 19) (mt_X0_learn G b3 x2 b7 h1 k4 k8) (mm_runV (as := [.int x2, .ref b7]) (st := []) cl_0 lk_X11_tell_X0_learn_56 rfl dX11_tell_16 rfl (Nat.le_of_ble_eq_true rfl) k4) rfl (fun v11 h9 p10 => ?_)
    have k12 : mm_kd h9 a0 = 10 := mm_kd_app p10 k6 (by decide)
    have k13 : mm_kd h9 b3 = 0 := mm_kd_app p10 k4 (by decide)
    refine ok_if_ne (q := 22) (t := 24) dX11_tell_19 rfl rfl ?_ ?_
    · refine ok_aload_n (q := 25) dX11_tell_24 rfl rfl ?_
      refine ok_getR cl_10 (q := 28) (k := 0) dX11_tell_25 (Nat.le_of_ble_eq_true rfl) wd_437 (fun _ _ _ => rfl) kt_10_0 k12 rfl (fun b14 k15 => ?_)
      refine mm_cv (q := 31) (mt_X6_clear G b14 h9 k15) (mm_runV (as := []) (st := []) cl_5 lk_X11_tell_X6_clear_60 rfl dX11_tell_28 rfl (Nat.le_of_ble_eq_true rfl) k15) rfl (fun h16 p17 => ?_)
      have k18 : mm_kd h16 a0 = 10 := mm_kd_app p17 k12 (by decide)
      have k19 : mm_kd h16 b3 = 0 := mm_kd_app p17 k13 (by decide)
      refine ok_iconst (q := 32) (v := 1) dX11_tell_31 ci_1 rfl ?_
      exact ok_iret (t := .boolean) dX11_tell_32 rfl (by decide)
    · refine ok_iconst (q := 23) (v := 0) dX11_tell_22 ci_0 rfl ?_
      exact ok_iret (t := .boolean) dX11_tell_23 rfl (by decide)
def bd_X11_start (a0 : Nat) (x1 : Int32) (h : mm_H) : mm_O := mm_qa (bd_X11_find a0 x1 h) (fun h1 =>
  some (some (.int 0), h1)) (fun b3 h1 =>
  mm_qi (bd_X0_begin b3 h1) (fun v9 h7 =>
  if v9 = 0 then
  (some (some (.int 0), h7))
  else
  (some (some (.int 1), h7))))
set_option maxHeartbeats 4000000 in
set_option maxRecDepth 100000 in
theorem mt_X11_start (G : mm_G) (a0 : Nat) (x1 : Int32) (h : mm_H) (k_a0 : mm_kd h a0 = 10) : mm_Met G my_X11_start [.ref a0, .int x1] h (bd_X11_start a0 x1 h) := by
  refine mm_met (ls := [.ref a0, .int x1, mm_U]) pn_RX11 (Nat.le_of_ble_eq_true rfl) rfl ?_
  unfold bd_X11_start
  refine ok_aload_n (q := 1) dX11_start_0 rfl rfl ?_
  refine ok_iload_n (q := 2) dX11_start_1 rfl rfl ?_
  refine mm_ca (q := 5) (mt_X11_find G a0 x1 h k_a0) rfl kr_0 (mm_runV (as := [.int x1]) (st := []) cl_10 lk_X11_start_X11_find_52 rfl dX11_start_2 rfl (Nat.le_of_ble_eq_true rfl) k_a0) rfl (fun h1 p2 => ?_) (fun b3 h1 p2 k4 => ?_)
  · have k5 : mm_kd h1 a0 = 10 := mm_kd_app p2 k_a0 (by decide)
    refine ok_astore_nN (q := 6) (ls' := [.ref a0, .int x1, .null]) dX11_start_5 (Nat.le_of_ble_eq_true rfl) rfl rfl ?_
    refine ok_aload_nN (q := 7) dX11_start_6 rfl rfl ?_
    refine ok_ifnull_n (q := 21) dX11_start_7 rfl ?_
    refine ok_iconst (q := 22) (v := 0) dX11_start_21 ci_0 rfl ?_
    exact ok_iret (t := .boolean) dX11_start_22 rfl (by decide)
  · have k6 : mm_kd h1 a0 = 10 := mm_kd_app p2 k_a0 (by decide)
    refine ok_astore_n (q := 6) (ls' := [.ref a0, .int x1, .ref b3]) dX11_start_5 (Nat.le_of_ble_eq_true rfl) rfl rfl ?_
    refine ok_aload_n (q := 7) dX11_start_6 rfl rfl ?_
    refine ok_ifnull_s (q := 10) dX11_start_7 rfl ?_
    refine ok_aload_n (q := 11) dX11_start_10 rfl rfl ?_
    refine mm_ci (q := 14) (mt_X0_begin G b3 h1 k4) (mm_runV (as := []) (st := []) cl_0 lk_X11_start_X0_begin_63 rfl dX11_start_11 rfl (Nat.le_of_ble_eq_true rfl) k4) rfl (fun v9 h7 p8 => ?_)
    have k10 : mm_kd h7 a0 = 10 := mm_kd_app p8 k6 (by decide)
    have k11 : mm_kd h7 b3 = 0 := mm_kd_app p8 k4 (by decide)
    refine ok_if_eq (q := 17) (t := 21) dX11_start_14 rfl rfl ?_ ?_
    · refine ok_iconst (q := 22) (v := 0) dX11_start_21 ci_0 rfl ?_
      exact ok_iret (t := .boolean) dX11_start_22 rfl (by decide)
    · refine ok_iconst (q := 18) (v := 1) dX11_start_17 ci_1 rfl ?_
      refine ok_goto (q := 22) dX11_start_18 rfl ?_
      exact ok_iret (t := .boolean) dX11_start_22 rfl (by decide)
def bd_X11_say (a0 : Nat) (x1 : Int32) (h : mm_H) : mm_O := mm_qa (bd_X11_find a0 x1 h) (fun h1 =>
  some (some (.int (-1)), h1)) (fun b3 h1 =>
  mm_gr h1 a0 0 (fun b7 =>
  if (mm_i h1 b7 1) < (1 : Int32) then
  (some (some (.int (-1)), h1))
  else
  (mm_gr h1 a0 0 (fun b9 =>
  if (400 : Int32) < (mm_i h1 b9 1) then
  (some (some (.int (-1)), h1))
  else
  (mm_gr h1 a0 0 (fun b11 =>
  mm_qi (bd_X0_speak b3 b11 h1) (fun v15 h13 =>
  if v15 = 0 then
  (some (some (.int (-1)), h13))
  else
  (mm_gr h13 a0 0 (fun b18 =>
  mm_qv (bd_X6_clear b18 h13) (fun h20 =>
  mm_gr h20 b3 0 (fun b24 =>
  some (some (.int (mm_i h20 b24 1)), h20))))))))))))
set_option maxHeartbeats 4000000 in
set_option maxRecDepth 100000 in
theorem mt_X11_say (G : mm_G) (a0 : Nat) (x1 : Int32) (h : mm_H) (k_a0 : mm_kd h a0 = 10) : mm_Met G my_X11_say [.ref a0, .int x1] h (bd_X11_say a0 x1 h) := by
  refine mm_met (ls := [.ref a0, .int x1, mm_U]) pn_RX11 (Nat.le_of_ble_eq_true rfl) rfl ?_
  unfold bd_X11_say
  refine ok_aload_n (q := 1) dX11_say_0 rfl rfl ?_
  refine ok_iload_n (q := 2) dX11_say_1 rfl rfl ?_
  refine mm_ca (q := 5) (mt_X11_find G a0 x1 h k_a0) rfl kr_0 (mm_runV (as := [.int x1]) (st := []) cl_10 lk_X11_say_X11_find_52 rfl dX11_say_2 rfl (Nat.le_of_ble_eq_true rfl) k_a0) rfl (fun h1 p2 => ?_) (fun b3 h1 p2 k4 => ?_)
  · have k5 : mm_kd h1 a0 = 10 := mm_kd_app p2 k_a0 (by decide)
    refine ok_astore_nN (q := 6) (ls' := [.ref a0, .int x1, .null]) dX11_say_5 (Nat.le_of_ble_eq_true rfl) rfl rfl ?_
    refine ok_aload_nN (q := 7) dX11_say_6 rfl rfl ?_
    refine ok_ifnull_n (q := 45) dX11_say_7 rfl ?_
    refine ok_iconst (q := 46) (v := -1) dX11_say_45 ci_m1 rfl ?_
    exact ok_iret (t := .int) dX11_say_46 rfl rfl
  · have k6 : mm_kd h1 a0 = 10 := mm_kd_app p2 k_a0 (by decide)
    refine ok_astore_n (q := 6) (ls' := [.ref a0, .int x1, .ref b3]) dX11_say_5 (Nat.le_of_ble_eq_true rfl) rfl rfl ?_
    refine ok_aload_n (q := 7) dX11_say_6 rfl rfl ?_
    refine ok_ifnull_s (q := 10) dX11_say_7 rfl ?_
    refine ok_aload_n (q := 11) dX11_say_10 rfl rfl ?_
    refine ok_getR cl_10 (q := 14) (k := 0) dX11_say_11 (Nat.le_of_ble_eq_true rfl) wd_437 (fun _ _ _ => rfl) kt_10_0 k6 rfl (fun b7 k8 => ?_)
    refine ok_getI cl_5 (q := 17) (k := 1) dX11_say_14 (Nat.le_of_ble_eq_true rfl) wd_124 (fun _ _ _ => rfl) k8 rfl ?_
    refine ok_iconst (q := 18) (v := 1) dX11_say_17 ci_1 rfl ?_
    refine ok_icmp_lt (q := 21) (t := 45) dX11_say_18 rfl rfl ?_ ?_
    · refine ok_iconst (q := 46) (v := -1) dX11_say_45 ci_m1 rfl ?_
      exact ok_iret (t := .int) dX11_say_46 rfl rfl
    · refine ok_aload_n (q := 22) dX11_say_21 rfl rfl ?_
      refine ok_getR cl_10 (q := 25) (k := 0) dX11_say_22 (Nat.le_of_ble_eq_true rfl) wd_437 (fun _ _ _ => rfl) kt_10_0 k6 rfl (fun b9 k10 => ?_)
      refine ok_getI cl_5 (q := 28) (k := 1) dX11_say_25 (Nat.le_of_ble_eq_true rfl) wd_124 (fun _ _ _ => rfl) k10 rfl ?_
      refine ok_sipush (q := 31) (v := 400) dX11_say_28 cs_400 rfl ?_
      refine ok_icmp_gt (q := 34) (t := 45) dX11_say_31 rfl rfl ?_ ?_
      · refine ok_iconst (q := 46) (v := -1) dX11_say_45 ci_m1 rfl ?_
        exact ok_iret (t := .int) dX11_say_46 rfl rfl
      · refine ok_aload_n (q := 35) dX11_say_34 rfl rfl ?_
        refine ok_aload_n (q := 36) dX11_say_35 rfl rfl ?_
        refine ok_getR cl_10 (q := 39) (k := 0) dX11_say_36 (Nat.le_of_ble_eq_true rfl) wd_437 (fun _ _ _ => rfl) kt_10_0 k6 rfl (fun b11 k12 => ?_)
        refine mm_ci (q := 42) (mt_X0_speak G b3 b11 h1 k4 k12) (mm_runV (as := [.ref b11]) (st := []) cl_0 lk_X11_say_X0_speak_67 rfl dX11_say_39 rfl (Nat.le_of_ble_eq_true rfl) k4) rfl (fun v15 h13 p14 => ?_)
        have k16 : mm_kd h13 a0 = 10 := mm_kd_app p14 k6 (by decide)
        have k17 : mm_kd h13 b3 = 0 := mm_kd_app p14 k4 (by decide)
        refine ok_if_ne (q := 45) (t := 47) dX11_say_42 rfl rfl ?_ ?_
        · refine ok_aload_n (q := 48) dX11_say_47 rfl rfl ?_
          refine ok_getR cl_10 (q := 51) (k := 0) dX11_say_48 (Nat.le_of_ble_eq_true rfl) wd_437 (fun _ _ _ => rfl) kt_10_0 k16 rfl (fun b18 k19 => ?_)
          refine mm_cv (q := 54) (mt_X6_clear G b18 h13 k19) (mm_runV (as := []) (st := []) cl_5 lk_X11_say_X6_clear_60 rfl dX11_say_51 rfl (Nat.le_of_ble_eq_true rfl) k19) rfl (fun h20 p21 => ?_)
          have k22 : mm_kd h20 a0 = 10 := mm_kd_app p21 k16 (by decide)
          have k23 : mm_kd h20 b3 = 0 := mm_kd_app p21 k17 (by decide)
          refine ok_aload_n (q := 55) dX11_say_54 rfl rfl ?_
          refine ok_getR cl_0 (q := 58) (k := 0) dX11_say_55 (Nat.le_of_ble_eq_true rfl) wd_377 (fun _ _ _ => rfl) kt_0_0 k23 rfl (fun b24 k25 => ?_)
          refine ok_getI cl_3 (q := 61) (k := 1) dX11_say_58 (Nat.le_of_ble_eq_true rfl) wd_305 (fun _ _ _ => rfl) k25 rfl ?_
          exact ok_iret (t := .int) dX11_say_61 rfl rfl
        · refine ok_iconst (q := 46) (v := -1) dX11_say_45 ci_m1 rfl ?_
          exact ok_iret (t := .int) dX11_say_46 rfl rfl
