def bd_X12_canSay (a0 : Nat) (x1 : Int32) (h : mm_H) : mm_O := mm_qi (bd_X12_isEnd a0 x1 h) (fun v3 h1 =>
  if v3 = 0 then
  (some (some (.int 0), h1))
  else
  (mm_gr h1 a0 4 (fun b5 =>
  if mm_in x1 (mm_ln h1 b5) = true then (if (mm_i h1 b5 (mm_n x1)) = (6 : Int32) then
  (mm_gr h1 a0 13 (fun b8 =>
  if mm_in x1 (mm_ln h1 b8) = true then (if (mm_i h1 b8 (mm_n x1)) = 0 then
  (mm_qi (bd_X12_isFull a0 x1 h1) (fun v13 h11 =>
  if v13 = 0 then
  (some (some (.int 1), h11))
  else
  (some (some (.int 0), h11))))
  else
  (some (some (.int 0), h1))) else none))
  else
  (some (some (.int 0), h1))) else none)))
set_option maxHeartbeats 4000000 in
set_option maxRecDepth 100000 in
theorem mt_X12_canSay (G : mm_G) (a0 : Nat) (x1 : Int32) (h : mm_H) (k_a0 : mm_kd h a0 = 11) : mm_Met G my_X12_canSay [.ref a0, .int x1] h (bd_X12_canSay a0 x1 h) := by
  refine mm_met (ls := [.ref a0, .int x1]) pn_RX12 (Nat.le_of_ble_eq_true rfl) rfl ?_
  unfold bd_X12_canSay
  refine ok_aload_n (q := 1) dX12_canSay_0 rfl rfl ?_
  refine ok_iload_n (q := 2) dX12_canSay_1 rfl rfl ?_
  refine mm_ci (q := 5) (mt_X12_isEnd G a0 x1 h k_a0) (mm_runV (as := [.int x1]) (st := []) cl_11 lk_X12_canSay_X12_isEnd_511 rfl dX12_canSay_2 rfl (Nat.le_of_ble_eq_true rfl) k_a0) rfl (fun v3 h1 p2 => ?_)
  have k4 : mm_kd h1 a0 = 11 := mm_kd_app p2 k_a0 (by decide)
  refine ok_if_eq (q := 8) (t := 40) dX12_canSay_5 rfl rfl ?_ ?_
  · refine ok_iconst (q := 41) (v := 0) dX12_canSay_40 ci_0 rfl ?_
    exact ok_iret (t := .boolean) dX12_canSay_41 rfl (by decide)
  · refine ok_aload_n (q := 9) dX12_canSay_8 rfl rfl ?_
    refine ok_getR cl_11 (q := 12) (k := 4) dX12_canSay_9 (Nat.le_of_ble_eq_true rfl) wd_1036 (fun _ _ _ => rfl) kt_11_4 k4 rfl (fun b5 k6 => ?_)
    refine ok_iload_n (q := 13) dX12_canSay_12 rfl rfl ?_
    refine mm_ck (fun c7 => ?_)
    refine ok_iald (q := 14) dX12_canSay_13 k6 c7 rfl ?_
    refine ok_bipush (q := 16) (v := 6) dX12_canSay_14 cb_6 rfl ?_
    refine ok_icmp_ne (q := 19) (t := 40) dX12_canSay_16 rfl rfl ?_ ?_
    · refine ok_iconst (q := 41) (v := 0) dX12_canSay_40 ci_0 rfl ?_
      exact ok_iret (t := .boolean) dX12_canSay_41 rfl (by decide)
    · refine ok_aload_n (q := 20) dX12_canSay_19 rfl rfl ?_
      refine ok_getR cl_11 (q := 23) (k := 13) dX12_canSay_20 (Nat.le_of_ble_eq_true rfl) wd_1045 (fun _ _ _ => rfl) kt_11_13 k4 rfl (fun b8 k9 => ?_)
      refine ok_iload_n (q := 24) dX12_canSay_23 rfl rfl ?_
      refine mm_ck (fun c10 => ?_)
      refine ok_zald (q := 25) dX12_canSay_24 k9 c10 rfl ?_
      refine ok_if_ne (q := 28) (t := 40) dX12_canSay_25 rfl rfl ?_ ?_
      · refine ok_iconst (q := 41) (v := 0) dX12_canSay_40 ci_0 rfl ?_
        exact ok_iret (t := .boolean) dX12_canSay_41 rfl (by decide)
      · refine ok_aload_n (q := 29) dX12_canSay_28 rfl rfl ?_
        refine ok_iload_n (q := 30) dX12_canSay_29 rfl rfl ?_
        refine mm_ci (q := 33) (mt_X12_isFull G a0 x1 h1 k4) (mm_runV (as := [.int x1]) (st := []) cl_11 lk_X12_canSay_X12_isFull_425 rfl dX12_canSay_30 rfl (Nat.le_of_ble_eq_true rfl) k4) rfl (fun v13 h11 p12 => ?_)
        have k14 : mm_kd h11 a0 = 11 := mm_kd_app p12 k4 (by decide)
        refine ok_if_ne (q := 36) (t := 40) dX12_canSay_33 rfl rfl ?_ ?_
        · refine ok_iconst (q := 41) (v := 0) dX12_canSay_40 ci_0 rfl ?_
          exact ok_iret (t := .boolean) dX12_canSay_41 rfl (by decide)
        · refine ok_iconst (q := 37) (v := 1) dX12_canSay_36 ci_1 rfl ?_
          refine ok_goto (q := 41) dX12_canSay_37 rfl ?_
          exact ok_iret (t := .boolean) dX12_canSay_41 rfl (by decide)
def bd_X12_say (a0 : Nat) (x1 : Int32) (h : mm_H) : mm_O := mm_qi (bd_X12_canSay a0 x1 h) (fun v3 h1 =>
  if v3 = 0 then
  (some (some (.int (-1)), h1))
  else
  (mm_qi (bd_X12_isIn (mm_i h1 a0 1) 1 400 h1) (fun v7 h5 =>
  if v7 = 0 then
  (some (some (.int (-1)), h5))
  else
  (mm_bh (mm_si h5 a0 58 0) (fun h9 =>
  mm_gr h9 a0 0 (fun b11 =>
  mm_qv (bd_X12_sayRow a0 b11 0 (mm_i h9 a0 1) h9) (fun h13 =>
  mm_qv (bd_X12_writeRecord a0 x1 23 h13) (fun h16 =>
  mm_bh (mm_si h16 a0 1 0) (fun h19 =>
  mm_gr h19 a0 17 (fun b21 =>
  if mm_in x1 (mm_ln h19 b21) = true then (some (some (.int (mm_i h19 b21 (mm_n x1))), h19)) else none))))))))))
set_option maxHeartbeats 4000000 in
set_option maxRecDepth 100000 in
theorem mt_X12_say (G : mm_G) (a0 : Nat) (x1 : Int32) (h : mm_H) (k_a0 : mm_kd h a0 = 11) : mm_Met G my_X12_say [.ref a0, .int x1] h (bd_X12_say a0 x1 h) := by
  refine mm_met (ls := [.ref a0, .int x1]) pn_RX12 (Nat.le_of_ble_eq_true rfl) rfl ?_
  unfold bd_X12_say
  refine ok_aload_n (q := 1) dX12_say_0 rfl rfl ?_
  refine ok_iload_n (q := 2) dX12_say_1 rfl rfl ?_
  refine mm_ci (q := 5) (mt_X12_canSay G a0 x1 h k_a0) (mm_runV (as := [.int x1]) (st := []) cl_11 lk_X12_say_X12_canSay_517 rfl dX12_say_2 rfl (Nat.le_of_ble_eq_true rfl) k_a0) rfl (fun v3 h1 p2 => ?_)
  have k4 : mm_kd h1 a0 = 11 := mm_kd_app p2 k_a0 (by decide)
  refine ok_if_eq (q := 8) (t := 22) dX12_say_5 rfl rfl ?_ ?_
  · refine ok_iconst (q := 23) (v := -1) dX12_say_22 ci_m1 rfl ?_
    exact ok_iret (t := .int) dX12_say_23 rfl rfl
  · refine ok_aload_n (q := 9) dX12_say_8 rfl rfl ?_
    refine ok_getI cl_11 (q := 12) (k := 1) dX12_say_9 (Nat.le_of_ble_eq_true rfl) wd_1033 (fun _ _ _ => rfl) k4 rfl ?_
    refine ok_iconst (q := 13) (v := 1) dX12_say_12 ci_1 rfl ?_
    refine ok_sipush (q := 16) (v := 400) dX12_say_13 cs_400 rfl ?_
    refine mm_ci (q := 19) (mt_X12_isIn G (mm_i h1 a0 1) 1 400 h1 ) (mm_runS (as := [.int (mm_i h1 a0 1), .int 1, .int 400]) (st := []) lk_X12_say_X12_isIn_260 dX12_say_16 rfl (Nat.le_of_ble_eq_true rfl)) rfl (fun v7 h5 p6 => ?_)
    have k8 : mm_kd h5 a0 = 11 := mm_kd_app p6 k4 (by decide)
    refine ok_if_ne (q := 22) (t := 24) dX12_say_19 rfl rfl ?_ ?_
    · refine ok_aload_n (q := 25) dX12_say_24 rfl rfl ?_
      refine ok_iconst (q := 26) (v := 0) dX12_say_25 ci_0 rfl ?_
      refine ok_putI cl_11 (q := 29) (k := 58) dX12_say_26 (Nat.le_of_ble_eq_true rfl) wd_1090 (Or.inl rfl) (fun _ _ _ => rfl) rfl rfl k8 rfl (bh_ok (fun h9 e10 => ?_))
      have e10 : h9.1 = h5.1 := e10
      refine ok_aload_n (q := 30) dX12_say_29 rfl rfl ?_
      refine ok_aload_n (q := 31) dX12_say_30 rfl rfl ?_
      refine ok_getR cl_11 (q := 34) (k := 0) dX12_say_31 (Nat.le_of_ble_eq_true rfl) wd_1032 (fun _ _ _ => rfl) kt_11_0 (mm_ke e10 k8) rfl (fun b11 k12 => ?_)
      refine ok_iconst (q := 35) (v := 0) dX12_say_34 ci_0 rfl ?_
      refine ok_aload_n (q := 36) dX12_say_35 rfl rfl ?_
      refine ok_getI cl_11 (q := 39) (k := 1) dX12_say_36 (Nat.le_of_ble_eq_true rfl) wd_1033 (fun _ _ _ => rfl) (mm_ke e10 k8) rfl ?_
      refine mm_cv (q := 42) (mt_X12_sayRow G a0 b11 0 (mm_i h9 a0 1) h9 (mm_ke e10 k8) (mm_ke e10 (mm_ke e10.symm k12))) (mm_runV (as := [.ref b11, .int 0, .int (mm_i h9 a0 1)]) (st := []) cl_11 lk_X12_say_X12_sayRow_407 rfl dX12_say_39 rfl (Nat.le_of_ble_eq_true rfl) (mm_ke e10 k8)) rfl (fun h13 p14 => ?_)
      have k15 : mm_kd h13 a0 = 11 := mm_kd_app p14 (mm_ke e10 k8) (by decide)
      refine ok_aload_n (q := 43) dX12_say_42 rfl rfl ?_
      refine ok_iload_n (q := 44) dX12_say_43 rfl rfl ?_
      refine ok_bipush (q := 46) (v := 23) dX12_say_44 cb_23 rfl ?_
      refine mm_cv (q := 49) (mt_X12_writeRecord G a0 x1 23 h13 k15) (mm_runV (as := [.int x1, .int 23]) (st := []) cl_11 lk_X12_say_X12_writeRecord_397 rfl dX12_say_46 rfl (Nat.le_of_ble_eq_true rfl) k15) rfl (fun h16 p17 => ?_)
      have k18 : mm_kd h16 a0 = 11 := mm_kd_app p17 k15 (by decide)
      refine ok_aload_n (q := 50) dX12_say_49 rfl rfl ?_
      refine ok_iconst (q := 51) (v := 0) dX12_say_50 ci_0 rfl ?_
      refine ok_putI cl_11 (q := 54) (k := 1) dX12_say_51 (Nat.le_of_ble_eq_true rfl) wd_1033 (Or.inl rfl) (fun _ _ _ => rfl) rfl rfl k18 rfl (bh_ok (fun h19 e20 => ?_))
      have e20 : h19.1 = h16.1 := e20
      refine ok_aload_n (q := 55) dX12_say_54 rfl rfl ?_
      refine ok_getR cl_11 (q := 58) (k := 17) dX12_say_55 (Nat.le_of_ble_eq_true rfl) wd_1049 (fun _ _ _ => rfl) kt_11_17 (mm_ke e20 k18) rfl (fun b21 k22 => ?_)
      refine ok_iload_n (q := 59) dX12_say_58 rfl rfl ?_
      refine mm_ck (fun c23 => ?_)
      refine ok_iald (q := 60) dX12_say_59 (mm_ke e20 (mm_ke e20.symm k22)) c23 rfl ?_
      exact ok_iret (t := .int) dX12_say_60 rfl rfl
    · refine ok_iconst (q := 23) (v := -1) dX12_say_22 ci_m1 rfl ?_
      exact ok_iret (t := .int) dX12_say_23 rfl rfl
def bd_X12_update (a0 : Nat) (x1 : Int32) (x2 : Int32) (h : mm_H) : mm_O := mm_qi (bd_X12_canSay a0 x1 h) (fun v3 h1 =>
  if v3 = 0 then
  (some (some (.int (-1)), h1))
  else
  (mm_qi (bd_X12_isIn x2 0 1 h1) (fun v7 h5 =>
  if v7 = 0 then
  (some (some (.int (-1)), h5))
  else
  (mm_qv (bd_X12_sayUpdate a0 x1 x2 h5) (fun h9 =>
  mm_gr h9 a0 17 (fun b12 =>
  if mm_in x1 (mm_ln h9 b12) = true then (some (some (.int (mm_i h9 b12 (mm_n x1))), h9)) else none))))))
set_option maxHeartbeats 4000000 in
set_option maxRecDepth 100000 in
theorem mt_X12_update (G : mm_G) (a0 : Nat) (x1 : Int32) (x2 : Int32) (h : mm_H) (k_a0 : mm_kd h a0 = 11) : mm_Met G my_X12_update [.ref a0, .int x1, .int x2] h (bd_X12_update a0 x1 x2 h) := by
  refine mm_met (ls := [.ref a0, .int x1, .int x2]) pn_RX12 (Nat.le_of_ble_eq_true rfl) rfl ?_
  unfold bd_X12_update
  refine ok_aload_n (q := 1) dX12_update_0 rfl rfl ?_
  refine ok_iload_n (q := 2) dX12_update_1 rfl rfl ?_
  refine mm_ci (q := 5) (mt_X12_canSay G a0 x1 h k_a0) (mm_runV (as := [.int x1]) (st := []) cl_11 lk_X12_update_X12_canSay_517 rfl dX12_update_2 rfl (Nat.le_of_ble_eq_true rfl) k_a0) rfl (fun v3 h1 p2 => ?_)
  have k4 : mm_kd h1 a0 = 11 := mm_kd_app p2 k_a0 (by decide)
  refine ok_if_eq (q := 8) (t := 17) dX12_update_5 rfl rfl ?_ ?_
  · refine ok_iconst (q := 18) (v := -1) dX12_update_17 ci_m1 rfl ?_
    exact ok_iret (t := .int) dX12_update_18 rfl rfl
  · refine ok_iload_n (q := 9) dX12_update_8 rfl rfl ?_
    refine ok_iconst (q := 10) (v := 0) dX12_update_9 ci_0 rfl ?_
    refine ok_iconst (q := 11) (v := 1) dX12_update_10 ci_1 rfl ?_
    refine mm_ci (q := 14) (mt_X12_isIn G x2 0 1 h1 ) (mm_runS (as := [.int x2, .int 0, .int 1]) (st := []) lk_X12_update_X12_isIn_260 dX12_update_11 rfl (Nat.le_of_ble_eq_true rfl)) rfl (fun v7 h5 p6 => ?_)
    have k8 : mm_kd h5 a0 = 11 := mm_kd_app p6 k4 (by decide)
    refine ok_if_ne (q := 17) (t := 19) dX12_update_14 rfl rfl ?_ ?_
    · refine ok_aload_n (q := 20) dX12_update_19 rfl rfl ?_
      refine ok_iload_n (q := 21) dX12_update_20 rfl rfl ?_
      refine ok_iload_n (q := 22) dX12_update_21 rfl rfl ?_
      refine mm_cv (q := 25) (mt_X12_sayUpdate G a0 x1 x2 h5 k8) (mm_runV (as := [.int x1, .int x2]) (st := []) cl_11 lk_X12_update_X12_sayUpdate_502 rfl dX12_update_22 rfl (Nat.le_of_ble_eq_true rfl) k8) rfl (fun h9 p10 => ?_)
      have k11 : mm_kd h9 a0 = 11 := mm_kd_app p10 k8 (by decide)
      refine ok_aload_n (q := 26) dX12_update_25 rfl rfl ?_
      refine ok_getR cl_11 (q := 29) (k := 17) dX12_update_26 (Nat.le_of_ble_eq_true rfl) wd_1049 (fun _ _ _ => rfl) kt_11_17 k11 rfl (fun b12 k13 => ?_)
      refine ok_iload_n (q := 30) dX12_update_29 rfl rfl ?_
      refine mm_ck (fun c14 => ?_)
      refine ok_iald (q := 31) dX12_update_30 k13 c14 rfl ?_
      exact ok_iret (t := .int) dX12_update_31 rfl rfl
    · refine ok_iconst (q := 18) (v := -1) dX12_update_17 ci_m1 rfl ?_
      exact ok_iret (t := .int) dX12_update_18 rfl rfl
def bd_X12_close (a0 : Nat) (x1 : Int32) (h : mm_H) : mm_O := mm_qi (bd_X12_canSay a0 x1 h) (fun v3 h1 =>
  if v3 = 0 then
  (some (some (.int 0), h1))
  else
  (mm_qv (bd_X12_sayAlert a0 x1 1 0 h1) (fun h5 =>
  mm_gr h5 a0 13 (fun b8 =>
  if 32 ≤ b8 ∧ mm_in x1 (mm_ln h5 b8) = true then (mm_bh (mm_si h5 b8 (mm_n x1) ((1 : Int32) &&& 1)) (fun h11 =>
  some (some (.int 1), h11))) else none))))
set_option maxHeartbeats 4000000 in
set_option maxRecDepth 100000 in
theorem mt_X12_close (G : mm_G) (a0 : Nat) (x1 : Int32) (h : mm_H) (k_a0 : mm_kd h a0 = 11) : mm_Met G my_X12_close [.ref a0, .int x1] h (bd_X12_close a0 x1 h) := by
  refine mm_met (ls := [.ref a0, .int x1]) pn_RX12 (Nat.le_of_ble_eq_true rfl) rfl ?_
  unfold bd_X12_close
  refine ok_aload_n (q := 1) dX12_close_0 rfl rfl ?_
  refine ok_iload_n (q := 2) dX12_close_1 rfl rfl ?_
  refine mm_ci (q := 5) (mt_X12_canSay G a0 x1 h k_a0) (mm_runV (as := [.int x1]) (st := []) cl_11 lk_X12_close_X12_canSay_517 rfl dX12_close_2 rfl (Nat.le_of_ble_eq_true rfl) k_a0) rfl (fun v3 h1 p2 => ?_)
  have k4 : mm_kd h1 a0 = 11 := mm_kd_app p2 k_a0 (by decide)
  refine ok_if_ne (q := 8) (t := 10) dX12_close_5 rfl rfl ?_ ?_
  · refine ok_aload_n (q := 11) dX12_close_10 rfl rfl ?_
    refine ok_iload_n (q := 12) dX12_close_11 rfl rfl ?_
    refine ok_iconst (q := 13) (v := 1) dX12_close_12 ci_1 rfl ?_
    refine ok_iconst (q := 14) (v := 0) dX12_close_13 ci_0 rfl ?_
    refine mm_cv (q := 17) (mt_X12_sayAlert G a0 x1 1 0 h1 k4) (mm_runV (as := [.int x1, .int 1, .int 0]) (st := []) cl_11 lk_X12_close_X12_sayAlert_429 rfl dX12_close_14 rfl (Nat.le_of_ble_eq_true rfl) k4) rfl (fun h5 p6 => ?_)
    have k7 : mm_kd h5 a0 = 11 := mm_kd_app p6 k4 (by decide)
    refine ok_aload_n (q := 18) dX12_close_17 rfl rfl ?_
    refine ok_getR cl_11 (q := 21) (k := 13) dX12_close_18 (Nat.le_of_ble_eq_true rfl) wd_1045 (fun _ _ _ => rfl) kt_11_13 k7 rfl (fun b8 k9 => ?_)
    refine ok_iload_n (q := 22) dX12_close_21 rfl rfl ?_
    refine ok_iconst (q := 23) (v := 1) dX12_close_22 ci_1 rfl ?_
    refine mm_ck (fun c10 => ?_)
    refine ok_zast (q := 24) dX12_close_23 k9 c10.1 c10.2 rfl (bh_ok (fun h11 e12 => ?_))
    have e12 : h11.1 = h5.1 := e12
    refine ok_iconst (q := 25) (v := 1) dX12_close_24 ci_1 rfl ?_
    exact ok_iret (t := .boolean) dX12_close_25 rfl (by decide)
  · refine ok_iconst (q := 9) (v := 0) dX12_close_8 ci_0 rfl ?_
    exact ok_iret (t := .boolean) dX12_close_9 rfl (by decide)
def bd_X12_copyRecord (a0 : Nat) (x1 : Int32) (x2 : Int32) (x3 : Int32) (h : mm_H) : mm_O := mm_gr h a0 15 (fun b1 =>
  mm_gr h a0 15 (fun b3 =>
  mm_gr h a0 16 (fun b5 =>
  if mm_in (((33 : Int32) * x1) + x2) (mm_ln h b5) = true then (mm_qv (bd_X12_move b1 ((640 : Int32) * (((33 : Int32) * x1) + x2)) b3 ((640 : Int32) * (((33 : Int32) * x1) + x3)) (mm_i h b5 (mm_n (((33 : Int32) * x1) + x2))) h) (fun h8 =>
  mm_gr h8 a0 16 (fun b11 =>
  mm_gr h8 a0 16 (fun b13 =>
  if mm_in (((33 : Int32) * x1) + x2) (mm_ln h8 b13) = true then (if 32 ≤ b11 ∧ mm_in (((33 : Int32) * x1) + x3) (mm_ln h8 b11) = true then (mm_bh (mm_si h8 b11 (mm_n (((33 : Int32) * x1) + x3)) (mm_i h8 b13 (mm_n (((33 : Int32) * x1) + x2)))) (fun h17 =>
  some (none, h17))) else none) else none)))) else none)))
set_option maxHeartbeats 4000000 in
set_option maxRecDepth 100000 in
theorem mt_X12_copyRecord (G : mm_G) (a0 : Nat) (x1 : Int32) (x2 : Int32) (x3 : Int32) (h : mm_H) (k_a0 : mm_kd h a0 = 11) : mm_Met G my_X12_copyRecord [.ref a0, .int x1, .int x2, .int x3] h (bd_X12_copyRecord a0 x1 x2 x3 h) := by
  refine mm_met (ls := [.ref a0, .int x1, .int x2, .int x3]) pn_RX12 (Nat.le_of_ble_eq_true rfl) rfl ?_
  unfold bd_X12_copyRecord
  refine ok_aload_n (q := 1) dX12_copyRecord_0 rfl rfl ?_
  refine ok_getR cl_11 (q := 4) (k := 15) dX12_copyRecord_1 (Nat.le_of_ble_eq_true rfl) wd_1047 (fun _ _ _ => rfl) kt_11_15 k_a0 rfl (fun b1 k2 => ?_)
  refine ok_sipush (q := 7) (v := 640) dX12_copyRecord_4 cs_640 rfl ?_
  refine ok_bipush (q := 9) (v := 33) dX12_copyRecord_7 cb_33 rfl ?_
  refine ok_iload_n (q := 10) dX12_copyRecord_9 rfl rfl ?_
  refine ok_imul (q := 11) dX12_copyRecord_10 rfl ?_
  refine ok_iload_n (q := 12) dX12_copyRecord_11 rfl rfl ?_
  refine ok_iadd (q := 13) dX12_copyRecord_12 rfl ?_
  refine ok_imul (q := 14) dX12_copyRecord_13 rfl ?_
  refine ok_aload_n (q := 15) dX12_copyRecord_14 rfl rfl ?_
  refine ok_getR cl_11 (q := 18) (k := 15) dX12_copyRecord_15 (Nat.le_of_ble_eq_true rfl) wd_1047 (fun _ _ _ => rfl) kt_11_15 k_a0 rfl (fun b3 k4 => ?_)
  refine ok_sipush (q := 21) (v := 640) dX12_copyRecord_18 cs_640 rfl ?_
  refine ok_bipush (q := 23) (v := 33) dX12_copyRecord_21 cb_33 rfl ?_
  refine ok_iload_n (q := 24) dX12_copyRecord_23 rfl rfl ?_
  refine ok_imul (q := 25) dX12_copyRecord_24 rfl ?_
  refine ok_iload_n (q := 26) dX12_copyRecord_25 rfl rfl ?_
  refine ok_iadd (q := 27) dX12_copyRecord_26 rfl ?_
  refine ok_imul (q := 28) dX12_copyRecord_27 rfl ?_
  refine ok_aload_n (q := 29) dX12_copyRecord_28 rfl rfl ?_
  refine ok_getR cl_11 (q := 32) (k := 16) dX12_copyRecord_29 (Nat.le_of_ble_eq_true rfl) wd_1048 (fun _ _ _ => rfl) kt_11_16 k_a0 rfl (fun b5 k6 => ?_)
  refine ok_bipush (q := 34) (v := 33) dX12_copyRecord_32 cb_33 rfl ?_
  refine ok_iload_n (q := 35) dX12_copyRecord_34 rfl rfl ?_
  refine ok_imul (q := 36) dX12_copyRecord_35 rfl ?_
  refine ok_iload_n (q := 37) dX12_copyRecord_36 rfl rfl ?_
  refine ok_iadd (q := 38) dX12_copyRecord_37 rfl ?_
  refine mm_ck (fun c7 => ?_)
  refine ok_iald (q := 39) dX12_copyRecord_38 k6 c7 rfl ?_
  refine mm_cv (q := 42) (mt_X12_move G b1 ((640 : Int32) * (((33 : Int32) * x1) + x2)) b3 ((640 : Int32) * (((33 : Int32) * x1) + x3)) (mm_i h b5 (mm_n (((33 : Int32) * x1) + x2))) h k2 k4) (mm_runS (as := [.ref b1, .int ((640 : Int32) * (((33 : Int32) * x1) + x2)), .ref b3, .int ((640 : Int32) * (((33 : Int32) * x1) + x3)), .int (mm_i h b5 (mm_n (((33 : Int32) * x1) + x2)))]) (st := []) lk_X12_copyRecord_X12_move_279 dX12_copyRecord_39 rfl (Nat.le_of_ble_eq_true rfl)) rfl (fun h8 p9 => ?_)
  have k10 : mm_kd h8 a0 = 11 := mm_kd_app p9 k_a0 (by decide)
  refine ok_aload_n (q := 43) dX12_copyRecord_42 rfl rfl ?_
  refine ok_getR cl_11 (q := 46) (k := 16) dX12_copyRecord_43 (Nat.le_of_ble_eq_true rfl) wd_1048 (fun _ _ _ => rfl) kt_11_16 k10 rfl (fun b11 k12 => ?_)
  refine ok_bipush (q := 48) (v := 33) dX12_copyRecord_46 cb_33 rfl ?_
  refine ok_iload_n (q := 49) dX12_copyRecord_48 rfl rfl ?_
  refine ok_imul (q := 50) dX12_copyRecord_49 rfl ?_
  refine ok_iload_n (q := 51) dX12_copyRecord_50 rfl rfl ?_
  refine ok_iadd (q := 52) dX12_copyRecord_51 rfl ?_
  refine ok_aload_n (q := 53) dX12_copyRecord_52 rfl rfl ?_
  refine ok_getR cl_11 (q := 56) (k := 16) dX12_copyRecord_53 (Nat.le_of_ble_eq_true rfl) wd_1048 (fun _ _ _ => rfl) kt_11_16 k10 rfl (fun b13 k14 => ?_)
  refine ok_bipush (q := 58) (v := 33) dX12_copyRecord_56 cb_33 rfl ?_
  refine ok_iload_n (q := 59) dX12_copyRecord_58 rfl rfl ?_
  refine ok_imul (q := 60) dX12_copyRecord_59 rfl ?_
  refine ok_iload_n (q := 61) dX12_copyRecord_60 rfl rfl ?_
  refine ok_iadd (q := 62) dX12_copyRecord_61 rfl ?_
  refine mm_ck (fun c15 => ?_)
  refine ok_iald (q := 63) dX12_copyRecord_62 k14 c15 rfl ?_
  refine mm_ck (fun c16 => ?_)
  refine ok_iast (q := 64) dX12_copyRecord_63 k12 c16.1 c16.2 rfl (bh_ok (fun h17 e18 => ?_))
  have e18 : h17.1 = h8.1 := e18
  exact ok_ret dX12_copyRecord_64 rfl
def lp_X12_leave_2 (ke_27 : Nat → Int32 → mm_H → mm_O) : Nat → Nat → Int32 → Int32 → mm_H → mm_O
  | 0, _, _, _, _ => none
  | n + 1, a0, x1, x2, h => mm_gr h a0 17 (fun b1 =>
  if mm_in x1 (mm_ln h b1) = true then (if (mm_i h b1 (mm_n x1)) ≤ x2 then
  (ke_27 a0 x1 h)
  else
  (mm_qv (bd_X12_copyRecord a0 x1 x2 (x2 - (1 : Int32)) h) (fun h4 =>
  lp_X12_leave_2 ke_27 n a0 x1 (x2 + 1) h4))) else none)
set_option maxHeartbeats 4000000 in
set_option maxRecDepth 100000 in
theorem ol_X12_leave_2 {G : mm_G} {ke_27 : Nat → Int32 → mm_H → mm_O} (hke_27 : ∀ (a0 : Nat) (x1 : Int32) (h : mm_H), mm_kd h a0 = 11 → mm_Ok G my_X12_leave 27 [.ref a0, .int x1, mm_U] [] h (ke_27 a0 x1 h)) : ∀ (n : Nat) (a0 : Nat) (x1 : Int32) (x2 : Int32) (h : mm_H), mm_kd h a0 = 11 → mm_Ok G my_X12_leave 2 [.ref a0, .int x1, .int x2] [] h (lp_X12_leave_2 ke_27 n a0 x1 x2 h) := by
  intro n
  induction n with
  | zero => intro a0 x1 x2 h k_a0; exact mm_no
  | succ n ih =>
    intro a0 x1 x2 h k_a0
    rw [lp_X12_leave_2]
    refine ok_iload_n (q := 3) dX12_leave_2 rfl rfl ?_
    refine ok_aload_n (q := 4) dX12_leave_3 rfl rfl ?_
    refine ok_getR cl_11 (q := 7) (k := 17) dX12_leave_4 (Nat.le_of_ble_eq_true rfl) wd_1049 (fun _ _ _ => rfl) kt_11_17 k_a0 rfl (fun b1 k2 => ?_)
    refine ok_iload_n (q := 8) dX12_leave_7 rfl rfl ?_
    refine mm_ck (fun c3 => ?_)
    refine ok_iald (q := 9) dX12_leave_8 k2 c3 rfl ?_
    refine ok_icmp_ge (q := 12) (t := 27) dX12_leave_9 rfl rfl ?_ ?_
    · refine mm_wk [true, true, false] (ls' := [.ref a0, .int x1, mm_U]) rfl ?_
      exact hke_27 a0 x1 h k_a0
    · refine ok_aload_n (q := 13) dX12_leave_12 rfl rfl ?_
      refine ok_iload_n (q := 14) dX12_leave_13 rfl rfl ?_
      refine ok_iload_n (q := 15) dX12_leave_14 rfl rfl ?_
      refine ok_iload_n (q := 16) dX12_leave_15 rfl rfl ?_
      refine ok_iconst (q := 17) (v := 1) dX12_leave_16 ci_1 rfl ?_
      refine ok_isub (q := 18) dX12_leave_17 rfl ?_
      refine mm_cv (q := 21) (mt_X12_copyRecord G a0 x1 x2 (x2 - (1 : Int32)) h k_a0) (mm_runV (as := [.int x1, .int x2, .int (x2 - (1 : Int32))]) (st := []) cl_11 lk_X12_leave_X12_copyRecord_520 rfl dX12_leave_18 rfl (Nat.le_of_ble_eq_true rfl) k_a0) rfl (fun h4 p5 => ?_)
      have k6 : mm_kd h4 a0 = 11 := mm_kd_app p5 k_a0 (by decide)
      refine ok_iinc (q := 24) (v := x2 + 1) (ls' := [.ref a0, .int x1, .int (x2 + 1)]) dX12_leave_21 rfl (congrArg (x2 + ·) ci_1) (Nat.le_of_ble_eq_true rfl) rfl rfl ?_
      refine ok_goto (q := 2) dX12_leave_24 rfl ?_
      exact ih a0 x1 (x2 + 1) h4 k6
def bd_X12_leave (a0 : Nat) (x1 : Int32) (h : mm_H) : mm_O := lp_X12_leave_2 (fun b8 v9 h7 => mm_gr h7 b8 17 (fun b10 =>
  if mm_in v9 (mm_ln h7 b10) = true then (if 32 ≤ b10 ∧ mm_in v9 (mm_ln h7 b10) = true then (mm_bh (mm_si h7 b10 (mm_n v9) ((mm_i h7 b10 (mm_n v9)) - (1 : Int32))) (fun h14 =>
  some (none, h14))) else none) else none)) mm_fu a0 x1 1 h
set_option maxHeartbeats 4000000 in
set_option maxRecDepth 100000 in
theorem mt_X12_leave (G : mm_G) (a0 : Nat) (x1 : Int32) (h : mm_H) (k_a0 : mm_kd h a0 = 11) : mm_Met G my_X12_leave [.ref a0, .int x1] h (bd_X12_leave a0 x1 h) := by
  refine mm_met (ls := [.ref a0, .int x1, mm_U]) pn_RX12 (Nat.le_of_ble_eq_true rfl) rfl ?_
  unfold bd_X12_leave
  refine ok_iconst (q := 1) (v := 1) dX12_leave_0 ci_1 rfl ?_
  refine ok_istore_n (q := 2) (ls' := [.ref a0, .int x1, .int 1]) dX12_leave_1 (Nat.le_of_ble_eq_true rfl) rfl rfl ?_
  refine ol_X12_leave_2 (fun b8 v9 h7 k_b8 => ?_) mm_fu a0 x1 1 h k_a0
  · refine ok_aload_n (q := 28) dX12_leave_27 rfl rfl ?_
    refine ok_getR cl_11 (q := 31) (k := 17) dX12_leave_28 (Nat.le_of_ble_eq_true rfl) wd_1049 (fun _ _ _ => rfl) kt_11_17 k_b8 rfl (fun b10 k11 => ?_)
    refine ok_iload_n (q := 32) dX12_leave_31 rfl rfl ?_
    refine ok_dup2 (q := 33) dX12_leave_32 rfl rfl rfl ?_
    refine mm_ck (fun c12 => ?_)
    refine ok_iald (q := 34) dX12_leave_33 k11 c12 rfl ?_
    refine ok_iconst (q := 35) (v := 1) dX12_leave_34 ci_1 rfl ?_
    refine ok_isub (q := 36) dX12_leave_35 rfl ?_
    refine mm_ck (fun c13 => ?_)
    refine ok_iast (q := 37) dX12_leave_36 k11 c13.1 c13.2 rfl (bh_ok (fun h14 e15 => ?_))
    have e15 : h14.1 = h7.1 := e15
    exact ok_ret dX12_leave_37 rfl
def bd_X12_carry (a0 : Nat) (x1 : Int32) (x2 : Int32) (h : mm_H) : mm_O := mm_qi (bd_X12_isEnd a0 x1 h) (fun v3 h1 =>
  if v3 = 0 then
  (some (some (.int (-1)), h1))
  else
  (mm_qi (bd_X12_isEnd a0 x2 h1) (fun v7 h5 =>
  if v7 = 0 then
  (some (some (.int (-1)), h5))
  else
  (mm_gr h5 a0 17 (fun b9 =>
  if mm_in x1 (mm_ln h5 b9) = true then (if (mm_i h5 b9 (mm_n x1)) = 0 then
  (some (some (.int (-1)), h5))
  else
  (mm_gr h5 a0 16 (fun b12 =>
  if mm_in ((33 : Int32) * x1) (mm_ln h5 b12) = true then (mm_bi (mm_i h5 b12 (mm_n ((33 : Int32) * x1))) (fun v15 =>
  mm_gr h5 a0 15 (fun b16 =>
  mm_gr h5 a0 60 (fun b18 =>
  mm_qv (bd_X12_move b16 ((21120 : Int32) * x1) b18 0 v15 h5) (fun h20 =>
  mm_qv (bd_X12_leave a0 x1 h20) (fun h23 =>
  mm_qv (bd_X12_readRecord a0 x2 v15 h23) (fun h26 =>
  mm_gr h26 a0 4 (fun b29 =>
  if mm_in x2 (mm_ln h26 b29) = true then (some (some (.int (mm_i h26 b29 (mm_n x2))), h26)) else none)))))))) else none))) else none)))))
set_option maxHeartbeats 4000000 in
set_option maxRecDepth 100000 in
theorem mt_X12_carry (G : mm_G) (a0 : Nat) (x1 : Int32) (x2 : Int32) (h : mm_H) (k_a0 : mm_kd h a0 = 11) : mm_Met G my_X12_carry [.ref a0, .int x1, .int x2] h (bd_X12_carry a0 x1 x2 h) := by
  refine mm_met (ls := [.ref a0, .int x1, .int x2, mm_U]) pn_RX12 (Nat.le_of_ble_eq_true rfl) rfl ?_
  unfold bd_X12_carry
  refine ok_aload_n (q := 1) dX12_carry_0 rfl rfl ?_
  refine ok_iload_n (q := 2) dX12_carry_1 rfl rfl ?_
  refine mm_ci (q := 5) (mt_X12_isEnd G a0 x1 h k_a0) (mm_runV (as := [.int x1]) (st := []) cl_11 lk_X12_carry_X12_isEnd_511 rfl dX12_carry_2 rfl (Nat.le_of_ble_eq_true rfl) k_a0) rfl (fun v3 h1 p2 => ?_)
  have k4 : mm_kd h1 a0 = 11 := mm_kd_app p2 k_a0 (by decide)
  refine ok_if_eq (q := 8) (t := 25) dX12_carry_5 rfl rfl ?_ ?_
  · refine ok_iconst (q := 26) (v := -1) dX12_carry_25 ci_m1 rfl ?_
    exact ok_iret (t := .int) dX12_carry_26 rfl rfl
  · refine ok_aload_n (q := 9) dX12_carry_8 rfl rfl ?_
    refine ok_iload_n (q := 10) dX12_carry_9 rfl rfl ?_
    refine mm_ci (q := 13) (mt_X12_isEnd G a0 x2 h1 k4) (mm_runV (as := [.int x2]) (st := []) cl_11 lk_X12_carry_X12_isEnd_511 rfl dX12_carry_10 rfl (Nat.le_of_ble_eq_true rfl) k4) rfl (fun v7 h5 p6 => ?_)
    have k8 : mm_kd h5 a0 = 11 := mm_kd_app p6 k4 (by decide)
    refine ok_if_eq (q := 16) (t := 25) dX12_carry_13 rfl rfl ?_ ?_
    · refine ok_iconst (q := 26) (v := -1) dX12_carry_25 ci_m1 rfl ?_
      exact ok_iret (t := .int) dX12_carry_26 rfl rfl
    · refine ok_aload_n (q := 17) dX12_carry_16 rfl rfl ?_
      refine ok_getR cl_11 (q := 20) (k := 17) dX12_carry_17 (Nat.le_of_ble_eq_true rfl) wd_1049 (fun _ _ _ => rfl) kt_11_17 k8 rfl (fun b9 k10 => ?_)
      refine ok_iload_n (q := 21) dX12_carry_20 rfl rfl ?_
      refine mm_ck (fun c11 => ?_)
      refine ok_iald (q := 22) dX12_carry_21 k10 c11 rfl ?_
      refine ok_if_ne (q := 25) (t := 27) dX12_carry_22 rfl rfl ?_ ?_
      · refine ok_aload_n (q := 28) dX12_carry_27 rfl rfl ?_
        refine ok_getR cl_11 (q := 31) (k := 16) dX12_carry_28 (Nat.le_of_ble_eq_true rfl) wd_1048 (fun _ _ _ => rfl) kt_11_16 k8 rfl (fun b12 k13 => ?_)
        refine ok_bipush (q := 33) (v := 33) dX12_carry_31 cb_33 rfl ?_
        refine ok_iload_n (q := 34) dX12_carry_33 rfl rfl ?_
        refine ok_imul (q := 35) dX12_carry_34 rfl ?_
        refine mm_ck (fun c14 => ?_)
        refine ok_iald (q := 36) dX12_carry_35 k13 c14 rfl ?_
        refine bi_ok (fun v15 => ?_)
        refine ok_istore_n (q := 37) (ls' := [.ref a0, .int x1, .int x2, .int v15]) dX12_carry_36 (Nat.le_of_ble_eq_true rfl) rfl rfl ?_
        refine ok_aload_n (q := 38) dX12_carry_37 rfl rfl ?_
        refine ok_getR cl_11 (q := 41) (k := 15) dX12_carry_38 (Nat.le_of_ble_eq_true rfl) wd_1047 (fun _ _ _ => rfl) kt_11_15 k8 rfl (fun b16 k17 => ?_)
        refine ok_sipush (q := 44) (v := 21120) dX12_carry_41 cs_21120 rfl ?_
        refine ok_iload_n (q := 45) dX12_carry_44 rfl rfl ?_
        refine ok_imul (q := 46) dX12_carry_45 rfl ?_
        refine ok_aload_n (q := 47) dX12_carry_46 rfl rfl ?_
        refine ok_getR cl_11 (q := 50) (k := 60) dX12_carry_47 (Nat.le_of_ble_eq_true rfl) wd_1092 (fun _ _ _ => rfl) kt_11_60 k8 rfl (fun b18 k19 => ?_)
        refine ok_iconst (q := 51) (v := 0) dX12_carry_50 ci_0 rfl ?_
        refine ok_iload_n (q := 52) dX12_carry_51 rfl rfl ?_
        refine mm_cv (q := 55) (mt_X12_move G b16 ((21120 : Int32) * x1) b18 0 v15 h5 k17 k19) (mm_runS (as := [.ref b16, .int ((21120 : Int32) * x1), .ref b18, .int 0, .int v15]) (st := []) lk_X12_carry_X12_move_279 dX12_carry_52 rfl (Nat.le_of_ble_eq_true rfl)) rfl (fun h20 p21 => ?_)
        have k22 : mm_kd h20 a0 = 11 := mm_kd_app p21 k8 (by decide)
        refine ok_aload_n (q := 56) dX12_carry_55 rfl rfl ?_
        refine ok_iload_n (q := 57) dX12_carry_56 rfl rfl ?_
        refine mm_cv (q := 60) (mt_X12_leave G a0 x1 h20 k22) (mm_runV (as := [.int x1]) (st := []) cl_11 lk_X12_carry_X12_leave_523 rfl dX12_carry_57 rfl (Nat.le_of_ble_eq_true rfl) k22) rfl (fun h23 p24 => ?_)
        have k25 : mm_kd h23 a0 = 11 := mm_kd_app p24 k22 (by decide)
        refine ok_aload_n (q := 61) dX12_carry_60 rfl rfl ?_
        refine ok_iload_n (q := 62) dX12_carry_61 rfl rfl ?_
        refine ok_iload_n (q := 63) dX12_carry_62 rfl rfl ?_
        refine mm_cv (q := 66) (mt_X12_readRecord G a0 x2 v15 h23 k25) (mm_runV (as := [.int x2, .int v15]) (st := []) cl_11 lk_X12_carry_X12_readRecord_526 rfl dX12_carry_63 rfl (Nat.le_of_ble_eq_true rfl) k25) rfl (fun h26 p27 => ?_)
        have k28 : mm_kd h26 a0 = 11 := mm_kd_app p27 k25 (by decide)
        refine ok_aload_n (q := 67) dX12_carry_66 rfl rfl ?_
        refine ok_getR cl_11 (q := 70) (k := 4) dX12_carry_67 (Nat.le_of_ble_eq_true rfl) wd_1036 (fun _ _ _ => rfl) kt_11_4 k28 rfl (fun b29 k30 => ?_)
        refine ok_iload_n (q := 71) dX12_carry_70 rfl rfl ?_
        refine mm_ck (fun c31 => ?_)
        refine ok_iald (q := 72) dX12_carry_71 k30 c31 rfl ?_
        exact ok_iret (t := .int) dX12_carry_72 rfl rfl
      · refine ok_iconst (q := 26) (v := -1) dX12_carry_25 ci_m1 rfl ?_
        exact ok_iret (t := .int) dX12_carry_26 rfl rfl
def bd_X12_give (a0 : Nat) (x1 : Int32) (h : mm_H) : mm_O := mm_qi (bd_X12_isEnd a0 x1 h) (fun v3 h1 =>
  if v3 = 0 then
  (some (some (.int (-1)), h1))
  else
  (mm_bi (mm_i h1 a0 1) (fun v5 =>
  mm_gr h1 a0 0 (fun b6 =>
  mm_gr h1 a0 60 (fun b8 =>
  mm_qv (bd_X12_move b6 0 b8 0 v5 h1) (fun h10 =>
  mm_bh (mm_si h10 a0 1 0) (fun h13 =>
  mm_qv (bd_X12_readRecord a0 x1 v5 h13) (fun h15 =>
  mm_gr h15 a0 4 (fun b18 =>
  if mm_in x1 (mm_ln h15 b18) = true then (some (some (.int (mm_i h15 b18 (mm_n x1))), h15)) else none)))))))))
set_option maxHeartbeats 4000000 in
set_option maxRecDepth 100000 in
theorem mt_X12_give (G : mm_G) (a0 : Nat) (x1 : Int32) (h : mm_H) (k_a0 : mm_kd h a0 = 11) : mm_Met G my_X12_give [.ref a0, .int x1] h (bd_X12_give a0 x1 h) := by
  refine mm_met (ls := [.ref a0, .int x1, mm_U]) pn_RX12 (Nat.le_of_ble_eq_true rfl) rfl ?_
  unfold bd_X12_give
  refine ok_aload_n (q := 1) dX12_give_0 rfl rfl ?_
  refine ok_iload_n (q := 2) dX12_give_1 rfl rfl ?_
  refine mm_ci (q := 5) (mt_X12_isEnd G a0 x1 h k_a0) (mm_runV (as := [.int x1]) (st := []) cl_11 lk_X12_give_X12_isEnd_511 rfl dX12_give_2 rfl (Nat.le_of_ble_eq_true rfl) k_a0) rfl (fun v3 h1 p2 => ?_)
  have k4 : mm_kd h1 a0 = 11 := mm_kd_app p2 k_a0 (by decide)
  refine ok_if_ne (q := 8) (t := 10) dX12_give_5 rfl rfl ?_ ?_
  · refine ok_aload_n (q := 11) dX12_give_10 rfl rfl ?_
    refine ok_getI cl_11 (q := 14) (k := 1) dX12_give_11 (Nat.le_of_ble_eq_true rfl) wd_1033 (fun _ _ _ => rfl) k4 rfl ?_
    refine bi_ok (fun v5 => ?_)
    refine ok_istore_n (q := 15) (ls' := [.ref a0, .int x1, .int v5]) dX12_give_14 (Nat.le_of_ble_eq_true rfl) rfl rfl ?_
    refine ok_aload_n (q := 16) dX12_give_15 rfl rfl ?_
    refine ok_getR cl_11 (q := 19) (k := 0) dX12_give_16 (Nat.le_of_ble_eq_true rfl) wd_1032 (fun _ _ _ => rfl) kt_11_0 k4 rfl (fun b6 k7 => ?_)
    refine ok_iconst (q := 20) (v := 0) dX12_give_19 ci_0 rfl ?_
    refine ok_aload_n (q := 21) dX12_give_20 rfl rfl ?_
    refine ok_getR cl_11 (q := 24) (k := 60) dX12_give_21 (Nat.le_of_ble_eq_true rfl) wd_1092 (fun _ _ _ => rfl) kt_11_60 k4 rfl (fun b8 k9 => ?_)
    refine ok_iconst (q := 25) (v := 0) dX12_give_24 ci_0 rfl ?_
    refine ok_iload_n (q := 26) dX12_give_25 rfl rfl ?_
    refine mm_cv (q := 29) (mt_X12_move G b6 0 b8 0 v5 h1 k7 k9) (mm_runS (as := [.ref b6, .int 0, .ref b8, .int 0, .int v5]) (st := []) lk_X12_give_X12_move_279 dX12_give_26 rfl (Nat.le_of_ble_eq_true rfl)) rfl (fun h10 p11 => ?_)
    have k12 : mm_kd h10 a0 = 11 := mm_kd_app p11 k4 (by decide)
    refine ok_aload_n (q := 30) dX12_give_29 rfl rfl ?_
    refine ok_iconst (q := 31) (v := 0) dX12_give_30 ci_0 rfl ?_
    refine ok_putI cl_11 (q := 34) (k := 1) dX12_give_31 (Nat.le_of_ble_eq_true rfl) wd_1033 (Or.inl rfl) (fun _ _ _ => rfl) rfl rfl k12 rfl (bh_ok (fun h13 e14 => ?_))
    have e14 : h13.1 = h10.1 := e14
    refine ok_aload_n (q := 35) dX12_give_34 rfl rfl ?_
    refine ok_iload_n (q := 36) dX12_give_35 rfl rfl ?_
    refine ok_iload_n (q := 37) dX12_give_36 rfl rfl ?_
    refine mm_cv (q := 40) (mt_X12_readRecord G a0 x1 v5 h13 (mm_ke e14 k12)) (mm_runV (as := [.int x1, .int v5]) (st := []) cl_11 lk_X12_give_X12_readRecord_526 rfl dX12_give_37 rfl (Nat.le_of_ble_eq_true rfl) (mm_ke e14 k12)) rfl (fun h15 p16 => ?_)
    have k17 : mm_kd h15 a0 = 11 := mm_kd_app p16 (mm_ke e14 k12) (by decide)
    refine ok_aload_n (q := 41) dX12_give_40 rfl rfl ?_
    refine ok_getR cl_11 (q := 44) (k := 4) dX12_give_41 (Nat.le_of_ble_eq_true rfl) wd_1036 (fun _ _ _ => rfl) kt_11_4 k17 rfl (fun b18 k19 => ?_)
    refine ok_iload_n (q := 45) dX12_give_44 rfl rfl ?_
    refine mm_ck (fun c20 => ?_)
    refine ok_iald (q := 46) dX12_give_45 k19 c20 rfl ?_
    exact ok_iret (t := .int) dX12_give_46 rfl rfl
  · refine ok_iconst (q := 9) (v := -1) dX12_give_8 ci_m1 rfl ?_
    exact ok_iret (t := .int) dX12_give_9 rfl rfl
def lp_X12_meddle_77 (ke_96 : Nat → Int32 → mm_H → mm_O) : Nat → Nat → Int32 → Int32 → mm_H → mm_O
  | 0, _, _, _, _ => none
  | n + 1, a0, x1, x3, h => if x3 < 0 then
  (ke_96 a0 x1 h)
  else
  (mm_qv (bd_X12_copyRecord a0 x1 x3 (x3 + (1 : Int32)) h) (fun h25 =>
  lp_X12_meddle_77 ke_96 n a0 x1 (x3 + (-1)) h25))
set_option maxHeartbeats 4000000 in
set_option maxRecDepth 100000 in
theorem ol_X12_meddle_77 {G : mm_G} {ke_96 : Nat → Int32 → mm_H → mm_O} (hke_96 : ∀ (a0 : Nat) (x1 : Int32) (h : mm_H), mm_kd h a0 = 11 → mm_Ok G my_X12_meddle 96 [.ref a0, .int x1, mm_U, mm_U] [] h (ke_96 a0 x1 h)) : ∀ (n : Nat) (a0 : Nat) (x1 : Int32) (x3 : Int32) (h : mm_H), mm_kd h a0 = 11 → mm_Ok G my_X12_meddle 77 [.ref a0, .int x1, mm_U, .int x3] [] h (lp_X12_meddle_77 ke_96 n a0 x1 x3 h) := by
  intro n
  induction n with
  | zero => intro a0 x1 x3 h k_a0; exact mm_no
  | succ n ih =>
    intro a0 x1 x3 h k_a0
    rw [lp_X12_meddle_77]
    refine ok_iload_n (q := 78) dX12_meddle_77 rfl rfl ?_
    refine ok_if_lt (q := 81) (t := 96) dX12_meddle_78 rfl rfl ?_ ?_
    · refine mm_wk [true, true, false, false] (ls' := [.ref a0, .int x1, mm_U, mm_U]) rfl ?_
      exact hke_96 a0 x1 h k_a0
    · refine ok_aload_n (q := 82) dX12_meddle_81 rfl rfl ?_
      refine ok_iload_n (q := 83) dX12_meddle_82 rfl rfl ?_
      refine ok_iload_n (q := 84) dX12_meddle_83 rfl rfl ?_
      refine ok_iload_n (q := 85) dX12_meddle_84 rfl rfl ?_
      refine ok_iconst (q := 86) (v := 1) dX12_meddle_85 ci_1 rfl ?_
      refine ok_iadd (q := 87) dX12_meddle_86 rfl ?_
      refine mm_cv (q := 90) (mt_X12_copyRecord G a0 x1 x3 (x3 + (1 : Int32)) h k_a0) (mm_runV (as := [.int x1, .int x3, .int (x3 + (1 : Int32))]) (st := []) cl_11 lk_X12_meddle_X12_copyRecord_520 rfl dX12_meddle_87 rfl (Nat.le_of_ble_eq_true rfl) k_a0) rfl (fun h25 p26 => ?_)
      have k27 : mm_kd h25 a0 = 11 := mm_kd_app p26 k_a0 (by decide)
      refine ok_iinc (q := 93) (v := x3 + (-1)) (ls' := [.ref a0, .int x1, mm_U, .int (x3 + (-1))]) dX12_meddle_90 rfl (congrArg (x3 + ·) ci_m1) (Nat.le_of_ble_eq_true rfl) rfl rfl ?_
      refine ok_goto (q := 77) dX12_meddle_93 rfl ?_
      exact ih a0 x1 (x3 + (-1)) h25 k27
def jn_X12_meddle_51 (a0 : Nat) (x1 : Int32) (x2 : Int32) (h : mm_H) : mm_O := if x2 = 0 then
  (mm_qv (bd_X12_leave a0 x1 h) (fun h37 =>
  some (some (.int 1), h37)))
  else
  (if x2 = (1 : Int32) then
  (mm_gr h a0 17 (fun b21 =>
  if mm_in x1 (mm_ln h b21) = true then (mm_bi ((mm_i h b21 (mm_n x1)) - (1 : Int32)) (fun v24 =>
  lp_X12_meddle_77 (fun b29 v30 h28 => mm_gr h28 b29 17 (fun b31 =>
  if mm_in v30 (mm_ln h28 b31) = true then (if 32 ≤ b31 ∧ mm_in v30 (mm_ln h28 b31) = true then (mm_bh (mm_si h28 b31 (mm_n v30) ((mm_i h28 b31 (mm_n v30)) + (1 : Int32))) (fun h35 =>
  some (some (.int 1), h35))) else none) else none)) mm_fu a0 x1 v24 h)) else none))
  else
  (mm_qv (bd_X12_copyRecord a0 x1 0 32 h) (fun h12 =>
  mm_qv (bd_X12_copyRecord a0 x1 1 0 h12) (fun h15 =>
  mm_qv (bd_X12_copyRecord a0 x1 32 1 h15) (fun h18 =>
  some (some (.int 1), h18))))))
set_option maxHeartbeats 4000000 in
set_option maxRecDepth 100000 in
theorem oj_X12_meddle_51 {G : mm_G}   (a0 : Nat) (x1 : Int32) (x2 : Int32) (h : mm_H) (k_a0 : mm_kd h a0 = 11) : mm_Ok G my_X12_meddle 51 [.ref a0, .int x1, .int x2, mm_U] [] h (jn_X12_meddle_51 a0 x1 x2 h) := by
  unfold jn_X12_meddle_51
  refine ok_iload_n (q := 52) dX12_meddle_51 rfl rfl ?_
  refine ok_if_ne (q := 55) (t := 63) dX12_meddle_52 rfl rfl ?_ ?_
  · refine ok_iload_n (q := 64) dX12_meddle_63 rfl rfl ?_
    refine ok_iconst (q := 65) (v := 1) dX12_meddle_64 ci_1 rfl ?_
    refine ok_icmp_ne (q := 68) (t := 109) dX12_meddle_65 rfl rfl ?_ ?_
    · refine ok_aload_n (q := 110) dX12_meddle_109 rfl rfl ?_
      refine ok_iload_n (q := 111) dX12_meddle_110 rfl rfl ?_
      refine ok_iconst (q := 112) (v := 0) dX12_meddle_111 ci_0 rfl ?_
      refine ok_bipush (q := 114) (v := 32) dX12_meddle_112 cb_32 rfl ?_
      refine mm_cv (q := 117) (mt_X12_copyRecord G a0 x1 0 32 h k_a0) (mm_runV (as := [.int x1, .int 0, .int 32]) (st := []) cl_11 lk_X12_meddle_X12_copyRecord_520 rfl dX12_meddle_114 rfl (Nat.le_of_ble_eq_true rfl) k_a0) rfl (fun h12 p13 => ?_)
      have k14 : mm_kd h12 a0 = 11 := mm_kd_app p13 k_a0 (by decide)
      refine ok_aload_n (q := 118) dX12_meddle_117 rfl rfl ?_
      refine ok_iload_n (q := 119) dX12_meddle_118 rfl rfl ?_
      refine ok_iconst (q := 120) (v := 1) dX12_meddle_119 ci_1 rfl ?_
      refine ok_iconst (q := 121) (v := 0) dX12_meddle_120 ci_0 rfl ?_
      refine mm_cv (q := 124) (mt_X12_copyRecord G a0 x1 1 0 h12 k14) (mm_runV (as := [.int x1, .int 1, .int 0]) (st := []) cl_11 lk_X12_meddle_X12_copyRecord_520 rfl dX12_meddle_121 rfl (Nat.le_of_ble_eq_true rfl) k14) rfl (fun h15 p16 => ?_)
      have k17 : mm_kd h15 a0 = 11 := mm_kd_app p16 k14 (by decide)
      refine ok_aload_n (q := 125) dX12_meddle_124 rfl rfl ?_
      refine ok_iload_n (q := 126) dX12_meddle_125 rfl rfl ?_
      refine ok_bipush (q := 128) (v := 32) dX12_meddle_126 cb_32 rfl ?_
      refine ok_iconst (q := 129) (v := 1) dX12_meddle_128 ci_1 rfl ?_
      refine mm_cv (q := 132) (mt_X12_copyRecord G a0 x1 32 1 h15 k17) (mm_runV (as := [.int x1, .int 32, .int 1]) (st := []) cl_11 lk_X12_meddle_X12_copyRecord_520 rfl dX12_meddle_129 rfl (Nat.le_of_ble_eq_true rfl) k17) rfl (fun h18 p19 => ?_)
      have k20 : mm_kd h18 a0 = 11 := mm_kd_app p19 k17 (by decide)
      refine ok_iconst (q := 133) (v := 1) dX12_meddle_132 ci_1 rfl ?_
      exact ok_iret (t := .boolean) dX12_meddle_133 rfl (by decide)
    · refine ok_aload_n (q := 69) dX12_meddle_68 rfl rfl ?_
      refine ok_getR cl_11 (q := 72) (k := 17) dX12_meddle_69 (Nat.le_of_ble_eq_true rfl) wd_1049 (fun _ _ _ => rfl) kt_11_17 k_a0 rfl (fun b21 k22 => ?_)
      refine ok_iload_n (q := 73) dX12_meddle_72 rfl rfl ?_
      refine mm_ck (fun c23 => ?_)
      refine ok_iald (q := 74) dX12_meddle_73 k22 c23 rfl ?_
      refine ok_iconst (q := 75) (v := 1) dX12_meddle_74 ci_1 rfl ?_
      refine ok_isub (q := 76) dX12_meddle_75 rfl ?_
      refine bi_ok (fun v24 => ?_)
      refine ok_istore_n (q := 77) (ls' := [.ref a0, .int x1, .int x2, .int v24]) dX12_meddle_76 (Nat.le_of_ble_eq_true rfl) rfl rfl ?_
      refine mm_wk [true, true, false, true] (ls' := [.ref a0, .int x1, mm_U, .int v24]) rfl ?_
      refine ol_X12_meddle_77 (fun b29 v30 h28 k_b29 => ?_) mm_fu a0 x1 v24 h k_a0
      · refine ok_aload_n (q := 97) dX12_meddle_96 rfl rfl ?_
        refine ok_getR cl_11 (q := 100) (k := 17) dX12_meddle_97 (Nat.le_of_ble_eq_true rfl) wd_1049 (fun _ _ _ => rfl) kt_11_17 k_b29 rfl (fun b31 k32 => ?_)
        refine ok_iload_n (q := 101) dX12_meddle_100 rfl rfl ?_
        refine ok_dup2 (q := 102) dX12_meddle_101 rfl rfl rfl ?_
        refine mm_ck (fun c33 => ?_)
        refine ok_iald (q := 103) dX12_meddle_102 k32 c33 rfl ?_
        refine ok_iconst (q := 104) (v := 1) dX12_meddle_103 ci_1 rfl ?_
        refine ok_iadd (q := 105) dX12_meddle_104 rfl ?_
        refine mm_ck (fun c34 => ?_)
        refine ok_iast (q := 106) dX12_meddle_105 k32 c34.1 c34.2 rfl (bh_ok (fun h35 e36 => ?_))
        have e36 : h35.1 = h28.1 := e36
        refine ok_goto (q := 132) dX12_meddle_106 rfl ?_
        refine ok_iconst (q := 133) (v := 1) dX12_meddle_132 ci_1 rfl ?_
        exact ok_iret (t := .boolean) dX12_meddle_133 rfl (by decide)
  · refine ok_aload_n (q := 56) dX12_meddle_55 rfl rfl ?_
    refine ok_iload_n (q := 57) dX12_meddle_56 rfl rfl ?_
    refine mm_cv (q := 60) (mt_X12_leave G a0 x1 h k_a0) (mm_runV (as := [.int x1]) (st := []) cl_11 lk_X12_meddle_X12_leave_523 rfl dX12_meddle_57 rfl (Nat.le_of_ble_eq_true rfl) k_a0) rfl (fun h37 p38 => ?_)
    have k39 : mm_kd h37 a0 = 11 := mm_kd_app p38 k_a0 (by decide)
    refine ok_goto (q := 132) dX12_meddle_60 rfl ?_
    refine ok_iconst (q := 133) (v := 1) dX12_meddle_132 ci_1 rfl ?_
    exact ok_iret (t := .boolean) dX12_meddle_133 rfl (by decide)
def jn_X12_meddle_33 (a0 : Nat) (x1 : Int32) (x2 : Int32) (s0 : Int32) (s1 : Int32) (h : mm_H) : mm_O := if s1 < s0 then
  (some (some (.int 0), h))
  else
  (if x2 = (1 : Int32) then
  (mm_qi (bd_X12_isFull a0 x1 h) (fun v42 h40 =>
  if v42 = 0 then
  (jn_X12_meddle_51 a0 x1 x2 h40)
  else
  (some (some (.int 0), h40))))
  else
  (jn_X12_meddle_51 a0 x1 x2 h))
set_option maxHeartbeats 4000000 in
set_option maxRecDepth 100000 in
theorem oj_X12_meddle_33 {G : mm_G}   (a0 : Nat) (x1 : Int32) (x2 : Int32) (s0 : Int32) (s1 : Int32) (h : mm_H) (k_a0 : mm_kd h a0 = 11) : mm_Ok G my_X12_meddle 33 [.ref a0, .int x1, .int x2, mm_U] [.int s0, .int s1] h (jn_X12_meddle_33 a0 x1 x2 s0 s1 h) := by
  unfold jn_X12_meddle_33
  refine ok_icmp_lt (q := 36) (t := 49) dX12_meddle_33 rfl rfl ?_ ?_
  · refine ok_iconst (q := 50) (v := 0) dX12_meddle_49 ci_0 rfl ?_
    exact ok_iret (t := .boolean) dX12_meddle_50 rfl (by decide)
  · refine ok_iload_n (q := 37) dX12_meddle_36 rfl rfl ?_
    refine ok_iconst (q := 38) (v := 1) dX12_meddle_37 ci_1 rfl ?_
    refine ok_icmp_ne (q := 41) (t := 51) dX12_meddle_38 rfl rfl ?_ ?_
    · exact oj_X12_meddle_51 a0 x1 x2 h k_a0
    · refine ok_aload_n (q := 42) dX12_meddle_41 rfl rfl ?_
      refine ok_iload_n (q := 43) dX12_meddle_42 rfl rfl ?_
      refine mm_ci (q := 46) (mt_X12_isFull G a0 x1 h k_a0) (mm_runV (as := [.int x1]) (st := []) cl_11 lk_X12_meddle_X12_isFull_425 rfl dX12_meddle_43 rfl (Nat.le_of_ble_eq_true rfl) k_a0) rfl (fun v42 h40 p41 => ?_)
      have k43 : mm_kd h40 a0 = 11 := mm_kd_app p41 k_a0 (by decide)
      refine ok_if_eq (q := 49) (t := 51) dX12_meddle_46 rfl rfl ?_ ?_
      · exact oj_X12_meddle_51 a0 x1 x2 h40 k43
      · refine ok_iconst (q := 50) (v := 0) dX12_meddle_49 ci_0 rfl ?_
        exact ok_iret (t := .boolean) dX12_meddle_50 rfl (by decide)
def bd_X12_meddle (a0 : Nat) (x1 : Int32) (x2 : Int32) (h : mm_H) : mm_O := mm_qi (bd_X12_isEnd a0 x1 h) (fun v3 h1 =>
  if v3 = 0 then
  (some (some (.int 0), h1))
  else
  (mm_qi (bd_X12_isIn x2 0 2 h1) (fun v7 h5 =>
  if v7 = 0 then
  (some (some (.int 0), h5))
  else
  (mm_gr h5 a0 17 (fun b9 =>
  if mm_in x1 (mm_ln h5 b9) = true then (if x2 = (2 : Int32) then
  (jn_X12_meddle_33 a0 x1 x2 2 (mm_i h5 b9 (mm_n x1)) h5)
  else
  (jn_X12_meddle_33 a0 x1 x2 1 (mm_i h5 b9 (mm_n x1)) h5)) else none)))))
set_option maxHeartbeats 4000000 in
set_option maxRecDepth 100000 in
theorem mt_X12_meddle (G : mm_G) (a0 : Nat) (x1 : Int32) (x2 : Int32) (h : mm_H) (k_a0 : mm_kd h a0 = 11) : mm_Met G my_X12_meddle [.ref a0, .int x1, .int x2] h (bd_X12_meddle a0 x1 x2 h) := by
  refine mm_met (ls := [.ref a0, .int x1, .int x2, mm_U]) pn_RX12 (Nat.le_of_ble_eq_true rfl) rfl ?_
  unfold bd_X12_meddle
  refine ok_aload_n (q := 1) dX12_meddle_0 rfl rfl ?_
  refine ok_iload_n (q := 2) dX12_meddle_1 rfl rfl ?_
  refine mm_ci (q := 5) (mt_X12_isEnd G a0 x1 h k_a0) (mm_runV (as := [.int x1]) (st := []) cl_11 lk_X12_meddle_X12_isEnd_511 rfl dX12_meddle_2 rfl (Nat.le_of_ble_eq_true rfl) k_a0) rfl (fun v3 h1 p2 => ?_)
  have k4 : mm_kd h1 a0 = 11 := mm_kd_app p2 k_a0 (by decide)
  refine ok_if_eq (q := 8) (t := 49) dX12_meddle_5 rfl rfl ?_ ?_
  · refine ok_iconst (q := 50) (v := 0) dX12_meddle_49 ci_0 rfl ?_
    exact ok_iret (t := .boolean) dX12_meddle_50 rfl (by decide)
  · refine ok_iload_n (q := 9) dX12_meddle_8 rfl rfl ?_
    refine ok_iconst (q := 10) (v := 0) dX12_meddle_9 ci_0 rfl ?_
    refine ok_iconst (q := 11) (v := 2) dX12_meddle_10 ci_2 rfl ?_
    refine mm_ci (q := 14) (mt_X12_isIn G x2 0 2 h1 ) (mm_runS (as := [.int x2, .int 0, .int 2]) (st := []) lk_X12_meddle_X12_isIn_260 dX12_meddle_11 rfl (Nat.le_of_ble_eq_true rfl)) rfl (fun v7 h5 p6 => ?_)
    have k8 : mm_kd h5 a0 = 11 := mm_kd_app p6 k4 (by decide)
    refine ok_if_eq (q := 17) (t := 49) dX12_meddle_14 rfl rfl ?_ ?_
    · refine ok_iconst (q := 50) (v := 0) dX12_meddle_49 ci_0 rfl ?_
      exact ok_iret (t := .boolean) dX12_meddle_50 rfl (by decide)
    · refine ok_aload_n (q := 18) dX12_meddle_17 rfl rfl ?_
      refine ok_getR cl_11 (q := 21) (k := 17) dX12_meddle_18 (Nat.le_of_ble_eq_true rfl) wd_1049 (fun _ _ _ => rfl) kt_11_17 k8 rfl (fun b9 k10 => ?_)
      refine ok_iload_n (q := 22) dX12_meddle_21 rfl rfl ?_
      refine mm_ck (fun c11 => ?_)
      refine ok_iald (q := 23) dX12_meddle_22 k10 c11 rfl ?_
      refine ok_iload_n (q := 24) dX12_meddle_23 rfl rfl ?_
      refine ok_iconst (q := 25) (v := 2) dX12_meddle_24 ci_2 rfl ?_
      refine ok_icmp_ne (q := 28) (t := 32) dX12_meddle_25 rfl rfl ?_ ?_
      · refine ok_iconst (q := 33) (v := 1) dX12_meddle_32 ci_1 rfl ?_
        exact oj_X12_meddle_33 a0 x1 x2 1 (mm_i h5 b9 (mm_n x1)) h5 k8
      · refine ok_iconst (q := 29) (v := 2) dX12_meddle_28 ci_2 rfl ?_
        refine ok_goto (q := 33) dX12_meddle_29 rfl ?_
        exact oj_X12_meddle_33 a0 x1 x2 2 (mm_i h5 b9 (mm_n x1)) h5 k8
def bd_X12_alter (a0 : Nat) (x1 : Int32) (x2 : Int32) (x3 : Int32) (h : mm_H) : mm_O := mm_qi (bd_X12_isEnd a0 x1 h) (fun v3 h1 =>
  if v3 = 0 then
  (some (some (.int 0), h1))
  else
  (mm_gr h1 a0 17 (fun b5 =>
  if mm_in x1 (mm_ln h1 b5) = true then (if (mm_i h1 b5 (mm_n x1)) = 0 then
  (some (some (.int 0), h1))
  else
  (mm_gr h1 a0 16 (fun b8 =>
  if mm_in ((33 : Int32) * x1) (mm_ln h1 b8) = true then (mm_qi (bd_X12_isIn x2 0 ((mm_i h1 b8 (mm_n ((33 : Int32) * x1))) - (1 : Int32)) h1) (fun v13 h11 =>
  if v13 = 0 then
  (some (some (.int 0), h11))
  else
  (mm_qi (bd_X12_isIn x3 0 255 h11) (fun v17 h15 =>
  if v17 = 0 then
  (some (some (.int 0), h15))
  else
  (mm_gr h15 a0 15 (fun b19 =>
  if mm_in (((21120 : Int32) * x1) + x2) (mm_ln h15 b19) = true then (if 32 ≤ b19 ∧ mm_in (((21120 : Int32) * x1) + x2) (mm_ln h15 b19) = true then (mm_bh (mm_si h15 b19 (mm_n (((21120 : Int32) * x1) + x2)) (mm_b8 (mm_b8 ((mm_i h15 b19 (mm_n (((21120 : Int32) * x1) + x2))) ^^^ (mm_b8 x3))))) (fun h23 =>
  some (some (.int 1), h23))) else none) else none)))))) else none))) else none)))
set_option maxHeartbeats 4000000 in
set_option maxRecDepth 100000 in
theorem mt_X12_alter (G : mm_G) (a0 : Nat) (x1 : Int32) (x2 : Int32) (x3 : Int32) (h : mm_H) (k_a0 : mm_kd h a0 = 11) : mm_Met G my_X12_alter [.ref a0, .int x1, .int x2, .int x3] h (bd_X12_alter a0 x1 x2 x3 h) := by
  refine mm_met (ls := [.ref a0, .int x1, .int x2, .int x3]) pn_RX12 (Nat.le_of_ble_eq_true rfl) rfl ?_
  unfold bd_X12_alter
  refine ok_aload_n (q := 1) dX12_alter_0 rfl rfl ?_
  refine ok_iload_n (q := 2) dX12_alter_1 rfl rfl ?_
  refine mm_ci (q := 5) (mt_X12_isEnd G a0 x1 h k_a0) (mm_runV (as := [.int x1]) (st := []) cl_11 lk_X12_alter_X12_isEnd_511 rfl dX12_alter_2 rfl (Nat.le_of_ble_eq_true rfl) k_a0) rfl (fun v3 h1 p2 => ?_)
  have k4 : mm_kd h1 a0 = 11 := mm_kd_app p2 k_a0 (by decide)
  refine ok_if_eq (q := 8) (t := 47) dX12_alter_5 rfl rfl ?_ ?_
  · refine ok_iconst (q := 48) (v := 0) dX12_alter_47 ci_0 rfl ?_
    exact ok_iret (t := .boolean) dX12_alter_48 rfl (by decide)
  · refine ok_aload_n (q := 9) dX12_alter_8 rfl rfl ?_
    refine ok_getR cl_11 (q := 12) (k := 17) dX12_alter_9 (Nat.le_of_ble_eq_true rfl) wd_1049 (fun _ _ _ => rfl) kt_11_17 k4 rfl (fun b5 k6 => ?_)
    refine ok_iload_n (q := 13) dX12_alter_12 rfl rfl ?_
    refine mm_ck (fun c7 => ?_)
    refine ok_iald (q := 14) dX12_alter_13 k6 c7 rfl ?_
    refine ok_if_eq (q := 17) (t := 47) dX12_alter_14 rfl rfl ?_ ?_
    · refine ok_iconst (q := 48) (v := 0) dX12_alter_47 ci_0 rfl ?_
      exact ok_iret (t := .boolean) dX12_alter_48 rfl (by decide)
    · refine ok_iload_n (q := 18) dX12_alter_17 rfl rfl ?_
      refine ok_iconst (q := 19) (v := 0) dX12_alter_18 ci_0 rfl ?_
      refine ok_aload_n (q := 20) dX12_alter_19 rfl rfl ?_
      refine ok_getR cl_11 (q := 23) (k := 16) dX12_alter_20 (Nat.le_of_ble_eq_true rfl) wd_1048 (fun _ _ _ => rfl) kt_11_16 k4 rfl (fun b8 k9 => ?_)
      refine ok_bipush (q := 25) (v := 33) dX12_alter_23 cb_33 rfl ?_
      refine ok_iload_n (q := 26) dX12_alter_25 rfl rfl ?_
      refine ok_imul (q := 27) dX12_alter_26 rfl ?_
      refine mm_ck (fun c10 => ?_)
      refine ok_iald (q := 28) dX12_alter_27 k9 c10 rfl ?_
      refine ok_iconst (q := 29) (v := 1) dX12_alter_28 ci_1 rfl ?_
      refine ok_isub (q := 30) dX12_alter_29 rfl ?_
      refine mm_ci (q := 33) (mt_X12_isIn G x2 0 ((mm_i h1 b8 (mm_n ((33 : Int32) * x1))) - (1 : Int32)) h1 ) (mm_runS (as := [.int x2, .int 0, .int ((mm_i h1 b8 (mm_n ((33 : Int32) * x1))) - (1 : Int32))]) (st := []) lk_X12_alter_X12_isIn_260 dX12_alter_30 rfl (Nat.le_of_ble_eq_true rfl)) rfl (fun v13 h11 p12 => ?_)
      have k14 : mm_kd h11 a0 = 11 := mm_kd_app p12 k4 (by decide)
      refine ok_if_eq (q := 36) (t := 47) dX12_alter_33 rfl rfl ?_ ?_
      · refine ok_iconst (q := 48) (v := 0) dX12_alter_47 ci_0 rfl ?_
        exact ok_iret (t := .boolean) dX12_alter_48 rfl (by decide)
      · refine ok_iload_n (q := 37) dX12_alter_36 rfl rfl ?_
        refine ok_iconst (q := 38) (v := 0) dX12_alter_37 ci_0 rfl ?_
        refine ok_sipush (q := 41) (v := 255) dX12_alter_38 cs_255 rfl ?_
        refine mm_ci (q := 44) (mt_X12_isIn G x3 0 255 h11 ) (mm_runS (as := [.int x3, .int 0, .int 255]) (st := []) lk_X12_alter_X12_isIn_260 dX12_alter_41 rfl (Nat.le_of_ble_eq_true rfl)) rfl (fun v17 h15 p16 => ?_)
        have k18 : mm_kd h15 a0 = 11 := mm_kd_app p16 k14 (by decide)
        refine ok_if_ne (q := 47) (t := 49) dX12_alter_44 rfl rfl ?_ ?_
        · refine ok_aload_n (q := 50) dX12_alter_49 rfl rfl ?_
          refine ok_getR cl_11 (q := 53) (k := 15) dX12_alter_50 (Nat.le_of_ble_eq_true rfl) wd_1047 (fun _ _ _ => rfl) kt_11_15 k18 rfl (fun b19 k20 => ?_)
          refine ok_sipush (q := 56) (v := 21120) dX12_alter_53 cs_21120 rfl ?_
          refine ok_iload_n (q := 57) dX12_alter_56 rfl rfl ?_
          refine ok_imul (q := 58) dX12_alter_57 rfl ?_
          refine ok_iload_n (q := 59) dX12_alter_58 rfl rfl ?_
          refine ok_iadd (q := 60) dX12_alter_59 rfl ?_
          refine ok_dup2 (q := 61) dX12_alter_60 rfl rfl rfl ?_
          refine mm_ck (fun c21 => ?_)
          refine ok_bald (q := 62) dX12_alter_61 k20 c21 rfl ?_
          refine ok_iload_n (q := 63) dX12_alter_62 rfl rfl ?_
          refine ok_i2b (q := 64) dX12_alter_63 rfl ?_
          refine ok_ixor (q := 65) dX12_alter_64 rfl ?_
          refine ok_i2b (q := 66) dX12_alter_65 rfl ?_
          refine mm_ck (fun c22 => ?_)
          refine ok_bast (q := 67) dX12_alter_66 k20 c22.1 c22.2 rfl (bh_ok (fun h23 e24 => ?_))
          have e24 : h23.1 = h15.1 := e24
          refine ok_iconst (q := 68) (v := 1) dX12_alter_67 ci_1 rfl ?_
          exact ok_iret (t := .boolean) dX12_alter_68 rfl (by decide)
        · refine ok_iconst (q := 48) (v := 0) dX12_alter_47 ci_0 rfl ?_
          exact ok_iret (t := .boolean) dX12_alter_48 rfl (by decide)
def bd_X12_written (a0 : Nat) (x1 : Int32) (x2 : Int32) (x3 : Int32) (h : mm_H) : mm_O := mm_qi (bd_X12_isEnd a0 x1 h) (fun v3 h1 =>
  if v3 = 0 then
  (some (some (.int (-1)), h1))
  else
  (mm_gr h1 a0 17 (fun b5 =>
  if mm_in x1 (mm_ln h1 b5) = true then (mm_qi (bd_X12_isIn x2 0 ((mm_i h1 b5 (mm_n x1)) - (1 : Int32)) h1) (fun v10 h8 =>
  if v10 = 0 then
  (some (some (.int (-1)), h8))
  else
  (mm_gr h8 a0 16 (fun b12 =>
  if mm_in (((33 : Int32) * x1) + x2) (mm_ln h8 b12) = true then (mm_qi (bd_X12_isIn x3 0 ((mm_i h8 b12 (mm_n (((33 : Int32) * x1) + x2))) - (1 : Int32)) h8) (fun v17 h15 =>
  if v17 = 0 then
  (some (some (.int (-1)), h15))
  else
  (mm_gr h15 a0 15 (fun b19 =>
  if mm_in (((640 : Int32) * (((33 : Int32) * x1) + x2)) + x3) (mm_ln h15 b19) = true then (some (some (.int ((mm_i h15 b19 (mm_n (((640 : Int32) * (((33 : Int32) * x1) + x2)) + x3))) &&& (255 : Int32))), h15)) else none)))) else none)))) else none)))
set_option maxHeartbeats 4000000 in
set_option maxRecDepth 100000 in
theorem mt_X12_written (G : mm_G) (a0 : Nat) (x1 : Int32) (x2 : Int32) (x3 : Int32) (h : mm_H) (k_a0 : mm_kd h a0 = 11) : mm_Met G my_X12_written [.ref a0, .int x1, .int x2, .int x3] h (bd_X12_written a0 x1 x2 x3 h) := by
  refine mm_met (ls := [.ref a0, .int x1, .int x2, .int x3]) pn_RX12 (Nat.le_of_ble_eq_true rfl) rfl ?_
  unfold bd_X12_written
  refine ok_aload_n (q := 1) dX12_written_0 rfl rfl ?_
  refine ok_iload_n (q := 2) dX12_written_1 rfl rfl ?_
  refine mm_ci (q := 5) (mt_X12_isEnd G a0 x1 h k_a0) (mm_runV (as := [.int x1]) (st := []) cl_11 lk_X12_written_X12_isEnd_511 rfl dX12_written_2 rfl (Nat.le_of_ble_eq_true rfl) k_a0) rfl (fun v3 h1 p2 => ?_)
  have k4 : mm_kd h1 a0 = 11 := mm_kd_app p2 k_a0 (by decide)
  refine ok_if_eq (q := 8) (t := 69) dX12_written_5 rfl rfl ?_ ?_
  · refine ok_iconst (q := 70) (v := -1) dX12_written_69 ci_m1 rfl ?_
    exact ok_iret (t := .int) dX12_written_70 rfl rfl
  · refine ok_iload_n (q := 9) dX12_written_8 rfl rfl ?_
    refine ok_iconst (q := 10) (v := 0) dX12_written_9 ci_0 rfl ?_
    refine ok_aload_n (q := 11) dX12_written_10 rfl rfl ?_
    refine ok_getR cl_11 (q := 14) (k := 17) dX12_written_11 (Nat.le_of_ble_eq_true rfl) wd_1049 (fun _ _ _ => rfl) kt_11_17 k4 rfl (fun b5 k6 => ?_)
    refine ok_iload_n (q := 15) dX12_written_14 rfl rfl ?_
    refine mm_ck (fun c7 => ?_)
    refine ok_iald (q := 16) dX12_written_15 k6 c7 rfl ?_
    refine ok_iconst (q := 17) (v := 1) dX12_written_16 ci_1 rfl ?_
    refine ok_isub (q := 18) dX12_written_17 rfl ?_
    refine mm_ci (q := 21) (mt_X12_isIn G x2 0 ((mm_i h1 b5 (mm_n x1)) - (1 : Int32)) h1 ) (mm_runS (as := [.int x2, .int 0, .int ((mm_i h1 b5 (mm_n x1)) - (1 : Int32))]) (st := []) lk_X12_written_X12_isIn_260 dX12_written_18 rfl (Nat.le_of_ble_eq_true rfl)) rfl (fun v10 h8 p9 => ?_)
    have k11 : mm_kd h8 a0 = 11 := mm_kd_app p9 k4 (by decide)
    refine ok_if_eq (q := 24) (t := 69) dX12_written_21 rfl rfl ?_ ?_
    · refine ok_iconst (q := 70) (v := -1) dX12_written_69 ci_m1 rfl ?_
      exact ok_iret (t := .int) dX12_written_70 rfl rfl
    · refine ok_iload_n (q := 25) dX12_written_24 rfl rfl ?_
      refine ok_iconst (q := 26) (v := 0) dX12_written_25 ci_0 rfl ?_
      refine ok_aload_n (q := 27) dX12_written_26 rfl rfl ?_
      refine ok_getR cl_11 (q := 30) (k := 16) dX12_written_27 (Nat.le_of_ble_eq_true rfl) wd_1048 (fun _ _ _ => rfl) kt_11_16 k11 rfl (fun b12 k13 => ?_)
      refine ok_bipush (q := 32) (v := 33) dX12_written_30 cb_33 rfl ?_
      refine ok_iload_n (q := 33) dX12_written_32 rfl rfl ?_
      refine ok_imul (q := 34) dX12_written_33 rfl ?_
      refine ok_iload_n (q := 35) dX12_written_34 rfl rfl ?_
      refine ok_iadd (q := 36) dX12_written_35 rfl ?_
      refine mm_ck (fun c14 => ?_)
      refine ok_iald (q := 37) dX12_written_36 k13 c14 rfl ?_
      refine ok_iconst (q := 38) (v := 1) dX12_written_37 ci_1 rfl ?_
      refine ok_isub (q := 39) dX12_written_38 rfl ?_
      refine mm_ci (q := 42) (mt_X12_isIn G x3 0 ((mm_i h8 b12 (mm_n (((33 : Int32) * x1) + x2))) - (1 : Int32)) h8 ) (mm_runS (as := [.int x3, .int 0, .int ((mm_i h8 b12 (mm_n (((33 : Int32) * x1) + x2))) - (1 : Int32))]) (st := []) lk_X12_written_X12_isIn_260 dX12_written_39 rfl (Nat.le_of_ble_eq_true rfl)) rfl (fun v17 h15 p16 => ?_)
      have k18 : mm_kd h15 a0 = 11 := mm_kd_app p16 k11 (by decide)
      refine ok_if_eq (q := 45) (t := 69) dX12_written_42 rfl rfl ?_ ?_
      · refine ok_iconst (q := 70) (v := -1) dX12_written_69 ci_m1 rfl ?_
        exact ok_iret (t := .int) dX12_written_70 rfl rfl
      · refine ok_aload_n (q := 46) dX12_written_45 rfl rfl ?_
        refine ok_getR cl_11 (q := 49) (k := 15) dX12_written_46 (Nat.le_of_ble_eq_true rfl) wd_1047 (fun _ _ _ => rfl) kt_11_15 k18 rfl (fun b19 k20 => ?_)
        refine ok_sipush (q := 52) (v := 640) dX12_written_49 cs_640 rfl ?_
        refine ok_bipush (q := 54) (v := 33) dX12_written_52 cb_33 rfl ?_
        refine ok_iload_n (q := 55) dX12_written_54 rfl rfl ?_
        refine ok_imul (q := 56) dX12_written_55 rfl ?_
        refine ok_iload_n (q := 57) dX12_written_56 rfl rfl ?_
        refine ok_iadd (q := 58) dX12_written_57 rfl ?_
        refine ok_imul (q := 59) dX12_written_58 rfl ?_
        refine ok_iload_n (q := 60) dX12_written_59 rfl rfl ?_
        refine ok_iadd (q := 61) dX12_written_60 rfl ?_
        refine mm_ck (fun c21 => ?_)
        refine ok_bald (q := 62) dX12_written_61 k20 c21 rfl ?_
        refine ok_sipush (q := 65) (v := 255) dX12_written_62 cs_255 rfl ?_
        refine ok_iand (q := 66) dX12_written_65 rfl ?_
        refine ok_goto (q := 70) dX12_written_66 rfl ?_
        exact ok_iret (t := .int) dX12_written_70 rfl rfl
def bd_X12_given (a0 : Nat) (x1 : Int32) (x2 : Int32) (h : mm_H) : mm_O := mm_qi (bd_X12_isEnd a0 x1 h) (fun v3 h1 =>
  if v3 = 0 then
  (some (some (.int (-1)), h1))
  else
  (mm_gr h1 a0 19 (fun b5 =>
  if mm_in x1 (mm_ln h1 b5) = true then (mm_qi (bd_X12_isIn x2 0 ((mm_i h1 b5 (mm_n x1)) - (1 : Int32)) h1) (fun v10 h8 =>
  if v10 = 0 then
  (some (some (.int (-1)), h8))
  else
  (mm_gr h8 a0 18 (fun b12 =>
  if mm_in (((2000 : Int32) * x1) + x2) (mm_ln h8 b12) = true then (some (some (.int ((mm_i h8 b12 (mm_n (((2000 : Int32) * x1) + x2))) &&& (255 : Int32))), h8)) else none)))) else none)))
set_option maxHeartbeats 4000000 in
set_option maxRecDepth 100000 in
theorem mt_X12_given (G : mm_G) (a0 : Nat) (x1 : Int32) (x2 : Int32) (h : mm_H) (k_a0 : mm_kd h a0 = 11) : mm_Met G my_X12_given [.ref a0, .int x1, .int x2] h (bd_X12_given a0 x1 x2 h) := by
  refine mm_met (ls := [.ref a0, .int x1, .int x2]) pn_RX12 (Nat.le_of_ble_eq_true rfl) rfl ?_
  unfold bd_X12_given
  refine ok_aload_n (q := 1) dX12_given_0 rfl rfl ?_
  refine ok_iload_n (q := 2) dX12_given_1 rfl rfl ?_
  refine mm_ci (q := 5) (mt_X12_isEnd G a0 x1 h k_a0) (mm_runV (as := [.int x1]) (st := []) cl_11 lk_X12_given_X12_isEnd_511 rfl dX12_given_2 rfl (Nat.le_of_ble_eq_true rfl) k_a0) rfl (fun v3 h1 p2 => ?_)
  have k4 : mm_kd h1 a0 = 11 := mm_kd_app p2 k_a0 (by decide)
  refine ok_if_eq (q := 8) (t := 43) dX12_given_5 rfl rfl ?_ ?_
  · refine ok_iconst (q := 44) (v := -1) dX12_given_43 ci_m1 rfl ?_
    exact ok_iret (t := .int) dX12_given_44 rfl rfl
  · refine ok_iload_n (q := 9) dX12_given_8 rfl rfl ?_
    refine ok_iconst (q := 10) (v := 0) dX12_given_9 ci_0 rfl ?_
    refine ok_aload_n (q := 11) dX12_given_10 rfl rfl ?_
    refine ok_getR cl_11 (q := 14) (k := 19) dX12_given_11 (Nat.le_of_ble_eq_true rfl) wd_1051 (fun _ _ _ => rfl) kt_11_19 k4 rfl (fun b5 k6 => ?_)
    refine ok_iload_n (q := 15) dX12_given_14 rfl rfl ?_
    refine mm_ck (fun c7 => ?_)
    refine ok_iald (q := 16) dX12_given_15 k6 c7 rfl ?_
    refine ok_iconst (q := 17) (v := 1) dX12_given_16 ci_1 rfl ?_
    refine ok_isub (q := 18) dX12_given_17 rfl ?_
    refine mm_ci (q := 21) (mt_X12_isIn G x2 0 ((mm_i h1 b5 (mm_n x1)) - (1 : Int32)) h1 ) (mm_runS (as := [.int x2, .int 0, .int ((mm_i h1 b5 (mm_n x1)) - (1 : Int32))]) (st := []) lk_X12_given_X12_isIn_260 dX12_given_18 rfl (Nat.le_of_ble_eq_true rfl)) rfl (fun v10 h8 p9 => ?_)
    have k11 : mm_kd h8 a0 = 11 := mm_kd_app p9 k4 (by decide)
    refine ok_if_eq (q := 24) (t := 43) dX12_given_21 rfl rfl ?_ ?_
    · refine ok_iconst (q := 44) (v := -1) dX12_given_43 ci_m1 rfl ?_
      exact ok_iret (t := .int) dX12_given_44 rfl rfl
    · refine ok_aload_n (q := 25) dX12_given_24 rfl rfl ?_
      refine ok_getR cl_11 (q := 28) (k := 18) dX12_given_25 (Nat.le_of_ble_eq_true rfl) wd_1050 (fun _ _ _ => rfl) kt_11_18 k11 rfl (fun b12 k13 => ?_)
      refine ok_sipush (q := 31) (v := 2000) dX12_given_28 cs_2000 rfl ?_
      refine ok_iload_n (q := 32) dX12_given_31 rfl rfl ?_
      refine ok_imul (q := 33) dX12_given_32 rfl ?_
      refine ok_iload_n (q := 34) dX12_given_33 rfl rfl ?_
      refine ok_iadd (q := 35) dX12_given_34 rfl ?_
      refine mm_ck (fun c14 => ?_)
      refine ok_bald (q := 36) dX12_given_35 k13 c14 rfl ?_
      refine ok_sipush (q := 39) (v := 255) dX12_given_36 cs_255 rfl ?_
      refine ok_iand (q := 40) dX12_given_39 rfl ?_
      refine ok_goto (q := 44) dX12_given_40 rfl ?_
      exact ok_iret (t := .int) dX12_given_44 rfl rfl
def bd_X12_secret (a0 : Nat) (x1 : Int32) (x2 : Int32) (x3 : Int32) (h : mm_H) : mm_O := mm_qi (bd_X12_isEnd a0 x1 h) (fun v3 h1 =>
  if v3 = 0 then
  (some (some (.int (-1)), h1))
  else
  (mm_qi (bd_X12_isIn x3 0 31 h1) (fun v7 h5 =>
  if v7 = 0 then
  (some (some (.int (-1)), h5))
  else
  (if x2 = 0 then
  (mm_gr h5 a0 26 (fun b15 =>
  if mm_in x1 (mm_ln h5 b15) = true then (if (mm_i h5 b15 (mm_n x1)) = 0 then
  (some (some (.int (-1)), h5))
  else
  (mm_gr h5 a0 22 (fun b18 =>
  if mm_in (((32 : Int32) * x1) + x3) (mm_ln h5 b18) = true then (some (some (.int ((mm_i h5 b18 (mm_n (((32 : Int32) * x1) + x3))) &&& (255 : Int32))), h5)) else none))) else none))
  else
  (if x2 = (1 : Int32) then
  (mm_gr h5 a0 27 (fun b9 =>
  if mm_in x1 (mm_ln h5 b9) = true then (if (mm_i h5 b9 (mm_n x1)) = 0 then
  (some (some (.int (-1)), h5))
  else
  (mm_gr h5 a0 23 (fun b12 =>
  if mm_in (((32 : Int32) * x1) + x3) (mm_ln h5 b12) = true then (some (some (.int ((mm_i h5 b12 (mm_n (((32 : Int32) * x1) + x3))) &&& (255 : Int32))), h5)) else none))) else none))
  else
  (some (some (.int (-1)), h5)))))))
set_option maxHeartbeats 4000000 in
set_option maxRecDepth 100000 in
theorem mt_X12_secret (G : mm_G) (a0 : Nat) (x1 : Int32) (x2 : Int32) (x3 : Int32) (h : mm_H) (k_a0 : mm_kd h a0 = 11) : mm_Met G my_X12_secret [.ref a0, .int x1, .int x2, .int x3] h (bd_X12_secret a0 x1 x2 x3 h) := by
  refine mm_met (ls := [.ref a0, .int x1, .int x2, .int x3]) pn_RX12 (Nat.le_of_ble_eq_true rfl) rfl ?_
  unfold bd_X12_secret
  refine ok_aload_n (q := 1) dX12_secret_0 rfl rfl ?_
  refine ok_iload_n (q := 2) dX12_secret_1 rfl rfl ?_
  refine mm_ci (q := 5) (mt_X12_isEnd G a0 x1 h k_a0) (mm_runV (as := [.int x1]) (st := []) cl_11 lk_X12_secret_X12_isEnd_511 rfl dX12_secret_2 rfl (Nat.le_of_ble_eq_true rfl) k_a0) rfl (fun v3 h1 p2 => ?_)
  have k4 : mm_kd h1 a0 = 11 := mm_kd_app p2 k_a0 (by decide)
  refine ok_if_eq (q := 8) (t := 18) dX12_secret_5 rfl rfl ?_ ?_
  · refine ok_iconst (q := 19) (v := -1) dX12_secret_18 ci_m1 rfl ?_
    exact ok_iret (t := .int) dX12_secret_19 rfl rfl
  · refine ok_iload_n (q := 9) dX12_secret_8 rfl rfl ?_
    refine ok_iconst (q := 10) (v := 0) dX12_secret_9 ci_0 rfl ?_
    refine ok_bipush (q := 12) (v := 31) dX12_secret_10 cb_31 rfl ?_
    refine mm_ci (q := 15) (mt_X12_isIn G x3 0 31 h1 ) (mm_runS (as := [.int x3, .int 0, .int 31]) (st := []) lk_X12_secret_X12_isIn_260 dX12_secret_12 rfl (Nat.le_of_ble_eq_true rfl)) rfl (fun v7 h5 p6 => ?_)
    have k8 : mm_kd h5 a0 = 11 := mm_kd_app p6 k4 (by decide)
    refine ok_if_ne (q := 18) (t := 20) dX12_secret_15 rfl rfl ?_ ?_
    · refine ok_iload_n (q := 21) dX12_secret_20 rfl rfl ?_
      refine ok_if_ne (q := 24) (t := 53) dX12_secret_21 rfl rfl ?_ ?_
      · refine ok_iload_n (q := 54) dX12_secret_53 rfl rfl ?_
        refine ok_iconst (q := 55) (v := 1) dX12_secret_54 ci_1 rfl ?_
        refine ok_icmp_ne (q := 58) (t := 85) dX12_secret_55 rfl rfl ?_ ?_
        · refine ok_iconst (q := 86) (v := -1) dX12_secret_85 ci_m1 rfl ?_
          exact ok_iret (t := .int) dX12_secret_86 rfl rfl
        · refine ok_aload_n (q := 59) dX12_secret_58 rfl rfl ?_
          refine ok_getR cl_11 (q := 62) (k := 27) dX12_secret_59 (Nat.le_of_ble_eq_true rfl) wd_1059 (fun _ _ _ => rfl) kt_11_27 k8 rfl (fun b9 k10 => ?_)
          refine ok_iload_n (q := 63) dX12_secret_62 rfl rfl ?_
          refine mm_ck (fun c11 => ?_)
          refine ok_zald (q := 64) dX12_secret_63 k10 c11 rfl ?_
          refine ok_if_eq (q := 67) (t := 85) dX12_secret_64 rfl rfl ?_ ?_
          · refine ok_iconst (q := 86) (v := -1) dX12_secret_85 ci_m1 rfl ?_
            exact ok_iret (t := .int) dX12_secret_86 rfl rfl
          · refine ok_aload_n (q := 68) dX12_secret_67 rfl rfl ?_
            refine ok_getR cl_11 (q := 71) (k := 23) dX12_secret_68 (Nat.le_of_ble_eq_true rfl) wd_1055 (fun _ _ _ => rfl) kt_11_23 k8 rfl (fun b12 k13 => ?_)
            refine ok_bipush (q := 73) (v := 32) dX12_secret_71 cb_32 rfl ?_
            refine ok_iload_n (q := 74) dX12_secret_73 rfl rfl ?_
            refine ok_imul (q := 75) dX12_secret_74 rfl ?_
            refine ok_iload_n (q := 76) dX12_secret_75 rfl rfl ?_
            refine ok_iadd (q := 77) dX12_secret_76 rfl ?_
            refine mm_ck (fun c14 => ?_)
            refine ok_bald (q := 78) dX12_secret_77 k13 c14 rfl ?_
            refine ok_sipush (q := 81) (v := 255) dX12_secret_78 cs_255 rfl ?_
            refine ok_iand (q := 82) dX12_secret_81 rfl ?_
            refine ok_goto (q := 86) dX12_secret_82 rfl ?_
            exact ok_iret (t := .int) dX12_secret_86 rfl rfl
      · refine ok_aload_n (q := 25) dX12_secret_24 rfl rfl ?_
        refine ok_getR cl_11 (q := 28) (k := 26) dX12_secret_25 (Nat.le_of_ble_eq_true rfl) wd_1058 (fun _ _ _ => rfl) kt_11_26 k8 rfl (fun b15 k16 => ?_)
        refine ok_iload_n (q := 29) dX12_secret_28 rfl rfl ?_
        refine mm_ck (fun c17 => ?_)
        refine ok_zald (q := 30) dX12_secret_29 k16 c17 rfl ?_
        refine ok_if_eq (q := 33) (t := 51) dX12_secret_30 rfl rfl ?_ ?_
        · refine ok_iconst (q := 52) (v := -1) dX12_secret_51 ci_m1 rfl ?_
          exact ok_iret (t := .int) dX12_secret_52 rfl rfl
        · refine ok_aload_n (q := 34) dX12_secret_33 rfl rfl ?_
          refine ok_getR cl_11 (q := 37) (k := 22) dX12_secret_34 (Nat.le_of_ble_eq_true rfl) wd_1054 (fun _ _ _ => rfl) kt_11_22 k8 rfl (fun b18 k19 => ?_)
          refine ok_bipush (q := 39) (v := 32) dX12_secret_37 cb_32 rfl ?_
          refine ok_iload_n (q := 40) dX12_secret_39 rfl rfl ?_
          refine ok_imul (q := 41) dX12_secret_40 rfl ?_
          refine ok_iload_n (q := 42) dX12_secret_41 rfl rfl ?_
          refine ok_iadd (q := 43) dX12_secret_42 rfl ?_
          refine mm_ck (fun c20 => ?_)
          refine ok_bald (q := 44) dX12_secret_43 k19 c20 rfl ?_
          refine ok_sipush (q := 47) (v := 255) dX12_secret_44 cs_255 rfl ?_
          refine ok_iand (q := 48) dX12_secret_47 rfl ?_
          refine ok_goto (q := 52) dX12_secret_48 rfl ?_
          exact ok_iret (t := .int) dX12_secret_52 rfl rfl
    · refine ok_iconst (q := 19) (v := -1) dX12_secret_18 ci_m1 rfl ?_
      exact ok_iret (t := .int) dX12_secret_19 rfl rfl
