def bd_X11_update (a0 : Nat) (x1 : Int32) (x2 : Int32) (h : mm_H) : mm_O := mm_qa (bd_X11_find a0 x1 h) (fun h1 =>
  some (some (.int (-1)), h1)) (fun b3 h1 =>
  if x2 < 0 then
  (some (some (.int (-1)), h1))
  else
  (if (1 : Int32) < x2 then
  (some (some (.int (-1)), h1))
  else
  (mm_qi (bd_X0_renew b3 x2 h1) (fun v9 h7 =>
  if v9 = 0 then
  (some (some (.int (-1)), h7))
  else
  (mm_gr h7 b3 0 (fun b12 =>
  some (some (.int (mm_i h7 b12 1)), h7)))))))
set_option maxHeartbeats 4000000 in
set_option maxRecDepth 100000 in
theorem mt_X11_update (G : mm_G) (a0 : Nat) (x1 : Int32) (x2 : Int32) (h : mm_H) (k_a0 : mm_kd h a0 = 10) : mm_Met G my_X11_update [.ref a0, .int x1, .int x2] h (bd_X11_update a0 x1 x2 h) := by
  refine mm_met (ls := [.ref a0, .int x1, .int x2, mm_U]) pn_RX11 (Nat.le_of_ble_eq_true rfl) rfl ?_
  unfold bd_X11_update
  refine ok_aload_n (q := 1) dX11_update_0 rfl rfl ?_
  refine ok_iload_n (q := 2) dX11_update_1 rfl rfl ?_
  refine mm_ca (q := 5) (mt_X11_find G a0 x1 h k_a0) rfl kr_0 (mm_runV (as := [.int x1]) (st := []) cl_10 lk_X11_update_X11_find_52 rfl dX11_update_2 rfl (Nat.le_of_ble_eq_true rfl) k_a0) rfl (fun h1 p2 => ?_) (fun b3 h1 p2 k4 => ?_)
  · have k5 : mm_kd h1 a0 = 10 := mm_kd_app p2 k_a0 (by decide)
    refine ok_astore_nN (q := 6) (ls' := [.ref a0, .int x1, .int x2, .null]) dX11_update_5 (Nat.le_of_ble_eq_true rfl) rfl rfl ?_
    refine ok_aload_nN (q := 7) dX11_update_6 rfl rfl ?_
    refine ok_ifnull_n (q := 27) dX11_update_7 rfl ?_
    refine ok_iconst (q := 28) (v := -1) dX11_update_27 ci_m1 rfl ?_
    exact ok_iret (t := .int) dX11_update_28 rfl rfl
  · have k6 : mm_kd h1 a0 = 10 := mm_kd_app p2 k_a0 (by decide)
    refine ok_astore_n (q := 6) (ls' := [.ref a0, .int x1, .int x2, .ref b3]) dX11_update_5 (Nat.le_of_ble_eq_true rfl) rfl rfl ?_
    refine ok_aload_n (q := 7) dX11_update_6 rfl rfl ?_
    refine ok_ifnull_s (q := 10) dX11_update_7 rfl ?_
    refine ok_iload_n (q := 11) dX11_update_10 rfl rfl ?_
    refine ok_if_lt (q := 14) (t := 27) dX11_update_11 rfl rfl ?_ ?_
    · refine ok_iconst (q := 28) (v := -1) dX11_update_27 ci_m1 rfl ?_
      exact ok_iret (t := .int) dX11_update_28 rfl rfl
    · refine ok_iload_n (q := 15) dX11_update_14 rfl rfl ?_
      refine ok_iconst (q := 16) (v := 1) dX11_update_15 ci_1 rfl ?_
      refine ok_icmp_gt (q := 19) (t := 27) dX11_update_16 rfl rfl ?_ ?_
      · refine ok_iconst (q := 28) (v := -1) dX11_update_27 ci_m1 rfl ?_
        exact ok_iret (t := .int) dX11_update_28 rfl rfl
      · refine ok_aload_n (q := 20) dX11_update_19 rfl rfl ?_
        refine ok_iload_n (q := 21) dX11_update_20 rfl rfl ?_
        refine mm_ci (q := 24) (mt_X0_renew G b3 x2 h1 k4) (mm_runV (as := [.int x2]) (st := []) cl_0 lk_X11_update_X0_renew_78 rfl dX11_update_21 rfl (Nat.le_of_ble_eq_true rfl) k4) rfl (fun v9 h7 p8 => ?_)
        have k10 : mm_kd h7 a0 = 10 := mm_kd_app p8 k6 (by decide)
        have k11 : mm_kd h7 b3 = 0 := mm_kd_app p8 k4 (by decide)
        refine ok_if_ne (q := 27) (t := 29) dX11_update_24 rfl rfl ?_ ?_
        · refine ok_aload_n (q := 30) dX11_update_29 rfl rfl ?_
          refine ok_getR cl_0 (q := 33) (k := 0) dX11_update_30 (Nat.le_of_ble_eq_true rfl) wd_377 (fun _ _ _ => rfl) kt_0_0 k11 rfl (fun b12 k13 => ?_)
          refine ok_getI cl_3 (q := 36) (k := 1) dX11_update_33 (Nat.le_of_ble_eq_true rfl) wd_305 (fun _ _ _ => rfl) k13 rfl ?_
          exact ok_iret (t := .int) dX11_update_36 rfl rfl
        · refine ok_iconst (q := 28) (v := -1) dX11_update_27 ci_m1 rfl ?_
          exact ok_iret (t := .int) dX11_update_28 rfl rfl
def bd_X11_close (a0 : Nat) (x1 : Int32) (h : mm_H) : mm_O := mm_qa (bd_X11_find a0 x1 h) (fun h1 =>
  some (some (.int 0), h1)) (fun b3 h1 =>
  mm_qi (bd_X0_shut b3 h1) (fun v9 h7 =>
  if v9 = 0 then
  (some (some (.int 0), h7))
  else
  (some (some (.int 1), h7))))
set_option maxHeartbeats 4000000 in
set_option maxRecDepth 100000 in
theorem mt_X11_close (G : mm_G) (a0 : Nat) (x1 : Int32) (h : mm_H) (k_a0 : mm_kd h a0 = 10) : mm_Met G my_X11_close [.ref a0, .int x1] h (bd_X11_close a0 x1 h) := by
  refine mm_met (ls := [.ref a0, .int x1, mm_U]) pn_RX11 (Nat.le_of_ble_eq_true rfl) rfl ?_
  unfold bd_X11_close
  refine ok_aload_n (q := 1) dX11_close_0 rfl rfl ?_
  refine ok_iload_n (q := 2) dX11_close_1 rfl rfl ?_
  refine mm_ca (q := 5) (mt_X11_find G a0 x1 h k_a0) rfl kr_0 (mm_runV (as := [.int x1]) (st := []) cl_10 lk_X11_close_X11_find_52 rfl dX11_close_2 rfl (Nat.le_of_ble_eq_true rfl) k_a0) rfl (fun h1 p2 => ?_) (fun b3 h1 p2 k4 => ?_)
  · have k5 : mm_kd h1 a0 = 10 := mm_kd_app p2 k_a0 (by decide)
    refine ok_astore_nN (q := 6) (ls' := [.ref a0, .int x1, .null]) dX11_close_5 (Nat.le_of_ble_eq_true rfl) rfl rfl ?_
    refine ok_aload_nN (q := 7) dX11_close_6 rfl rfl ?_
    refine ok_ifnull_n (q := 21) dX11_close_7 rfl ?_
    refine ok_iconst (q := 22) (v := 0) dX11_close_21 ci_0 rfl ?_
    exact ok_iret (t := .boolean) dX11_close_22 rfl (by decide)
  · have k6 : mm_kd h1 a0 = 10 := mm_kd_app p2 k_a0 (by decide)
    refine ok_astore_n (q := 6) (ls' := [.ref a0, .int x1, .ref b3]) dX11_close_5 (Nat.le_of_ble_eq_true rfl) rfl rfl ?_
    refine ok_aload_n (q := 7) dX11_close_6 rfl rfl ?_
    refine ok_ifnull_s (q := 10) dX11_close_7 rfl ?_
    refine ok_aload_n (q := 11) dX11_close_10 rfl rfl ?_
    refine mm_ci (q := 14) (mt_X0_shut G b3 h1 k4) (mm_runV (as := []) (st := []) cl_0 lk_X11_close_X0_shut_82 rfl dX11_close_11 rfl (Nat.le_of_ble_eq_true rfl) k4) rfl (fun v9 h7 p8 => ?_)
    have k10 : mm_kd h7 a0 = 10 := mm_kd_app p8 k6 (by decide)
    have k11 : mm_kd h7 b3 = 0 := mm_kd_app p8 k4 (by decide)
    refine ok_if_eq (q := 17) (t := 21) dX11_close_14 rfl rfl ?_ ?_
    · refine ok_iconst (q := 22) (v := 0) dX11_close_21 ci_0 rfl ?_
      exact ok_iret (t := .boolean) dX11_close_22 rfl (by decide)
    · refine ok_iconst (q := 18) (v := 1) dX11_close_17 ci_1 rfl ?_
      refine ok_goto (q := 22) dX11_close_18 rfl ?_
      exact ok_iret (t := .boolean) dX11_close_22 rfl (by decide)
def bd_X11_carry (a0 : Nat) (x1 : Int32) (x2 : Int32) (h : mm_H) : mm_O := mm_qa (bd_X11_find a0 x1 h) (fun h1 =>
  mm_qa (bd_X11_find a0 x2 h1) (fun h6 =>
  some (some (.int (-1)), h6)) (fun b8 h6 =>
  some (some (.int (-1)), h6))) (fun b3 h1 =>
  mm_qa (bd_X11_find a0 x2 h1) (fun h13 =>
  some (some (.int (-1)), h13)) (fun b15 h13 =>
  mm_gr h13 b3 0 (fun b21 =>
  if (mm_i h13 b21 1) = 0 then
  (some (some (.int (-1)), h13))
  else
  (mm_gr h13 a0 2 (fun b23 =>
  mm_gr h13 b23 3 (fun b25 =>
  mm_gr h13 b3 0 (fun b27 =>
  mm_qa (bd_X4_first b27 h13) (fun h29 =>
  none) (fun b31 h29 =>
  mm_qv (bd_X6_copy b25 b31 h29) (fun h41 =>
  mm_gr h41 b3 0 (fun b46 =>
  mm_qi (bd_X4_drop b46 h41) (fun v50 h48 =>
  mm_gr h48 a0 2 (fun b54 =>
  mm_gr h48 b54 3 (fun b56 =>
  mm_qv (bd_X0_read b15 b56 h48) (fun h58 =>
  some (some (.int (mm_i h58 b15 5)), h58)))))))))))))))
set_option maxHeartbeats 4000000 in
set_option maxRecDepth 100000 in
theorem mt_X11_carry (G : mm_G) (a0 : Nat) (x1 : Int32) (x2 : Int32) (h : mm_H) (k_a0 : mm_kd h a0 = 10) : mm_Met G my_X11_carry [.ref a0, .int x1, .int x2] h (bd_X11_carry a0 x1 x2 h) := by
  refine mm_met (ls := [.ref a0, .int x1, .int x2, mm_U, mm_U]) pn_RX11 (Nat.le_of_ble_eq_true rfl) rfl ?_
  unfold bd_X11_carry
  refine ok_aload_n (q := 1) dX11_carry_0 rfl rfl ?_
  refine ok_iload_n (q := 2) dX11_carry_1 rfl rfl ?_
  refine mm_ca (q := 5) (mt_X11_find G a0 x1 h k_a0) rfl kr_0 (mm_runV (as := [.int x1]) (st := []) cl_10 lk_X11_carry_X11_find_52 rfl dX11_carry_2 rfl (Nat.le_of_ble_eq_true rfl) k_a0) rfl (fun h1 p2 => ?_) (fun b3 h1 p2 k4 => ?_)
  · have k5 : mm_kd h1 a0 = 10 := mm_kd_app p2 k_a0 (by decide)
    refine ok_astore_nN (q := 6) (ls' := [.ref a0, .int x1, .int x2, .null, mm_U]) dX11_carry_5 (Nat.le_of_ble_eq_true rfl) rfl rfl ?_
    refine ok_aload_n (q := 7) dX11_carry_6 rfl rfl ?_
    refine ok_iload_n (q := 8) dX11_carry_7 rfl rfl ?_
    refine mm_ca (q := 11) (mt_X11_find G a0 x2 h1 k5) rfl kr_0 (mm_runV (as := [.int x2]) (st := []) cl_10 lk_X11_carry_X11_find_52 rfl dX11_carry_8 rfl (Nat.le_of_ble_eq_true rfl) k5) rfl (fun h6 p7 => ?_) (fun b8 h6 p7 k9 => ?_)
    · have k10 : mm_kd h6 a0 = 10 := mm_kd_app p7 k5 (by decide)
      refine ok_astoreN (q := 13) (ls' := [.ref a0, .int x1, .int x2, .null, .null]) dX11_carry_11 (Nat.le_of_ble_eq_true rfl) rfl rfl ?_
      refine ok_aload_nN (q := 14) dX11_carry_13 rfl rfl ?_
      refine ok_ifnull_n (q := 32) dX11_carry_14 rfl ?_
      refine ok_iconst (q := 33) (v := -1) dX11_carry_32 ci_m1 rfl ?_
      exact ok_iret (t := .int) dX11_carry_33 rfl rfl
    · have k11 : mm_kd h6 a0 = 10 := mm_kd_app p7 k5 (by decide)
      refine ok_astore (q := 13) (ls' := [.ref a0, .int x1, .int x2, .null, .ref b8]) dX11_carry_11 (Nat.le_of_ble_eq_true rfl) rfl rfl ?_
      refine ok_aload_nN (q := 14) dX11_carry_13 rfl rfl ?_
      refine ok_ifnull_n (q := 32) dX11_carry_14 rfl ?_
      refine ok_iconst (q := 33) (v := -1) dX11_carry_32 ci_m1 rfl ?_
      exact ok_iret (t := .int) dX11_carry_33 rfl rfl
  · have k12 : mm_kd h1 a0 = 10 := mm_kd_app p2 k_a0 (by decide)
    refine ok_astore_n (q := 6) (ls' := [.ref a0, .int x1, .int x2, .ref b3, mm_U]) dX11_carry_5 (Nat.le_of_ble_eq_true rfl) rfl rfl ?_
    refine ok_aload_n (q := 7) dX11_carry_6 rfl rfl ?_
    refine ok_iload_n (q := 8) dX11_carry_7 rfl rfl ?_
    refine mm_ca (q := 11) (mt_X11_find G a0 x2 h1 k12) rfl kr_0 (mm_runV (as := [.int x2]) (st := []) cl_10 lk_X11_carry_X11_find_52 rfl dX11_carry_8 rfl (Nat.le_of_ble_eq_true rfl) k12) rfl (fun h13 p14 => ?_) (fun b15 h13 p14 k16 => ?_)
    · have k17 : mm_kd h13 a0 = 10 := mm_kd_app p14 k12 (by decide)
      have k18 : mm_kd h13 b3 = 0 := mm_kd_app p14 k4 (by decide)
      refine ok_astoreN (q := 13) (ls' := [.ref a0, .int x1, .int x2, .ref b3, .null]) dX11_carry_11 (Nat.le_of_ble_eq_true rfl) rfl rfl ?_
      refine ok_aload_n (q := 14) dX11_carry_13 rfl rfl ?_
      refine ok_ifnull_s (q := 17) dX11_carry_14 rfl ?_
      refine ok_aloadN (q := 19) dX11_carry_17 rfl rfl ?_
      refine ok_ifnull_n (q := 32) dX11_carry_19 rfl ?_
      refine ok_iconst (q := 33) (v := -1) dX11_carry_32 ci_m1 rfl ?_
      exact ok_iret (t := .int) dX11_carry_33 rfl rfl
    · have k19 : mm_kd h13 a0 = 10 := mm_kd_app p14 k12 (by decide)
      have k20 : mm_kd h13 b3 = 0 := mm_kd_app p14 k4 (by decide)
      refine ok_astore (q := 13) (ls' := [.ref a0, .int x1, .int x2, .ref b3, .ref b15]) dX11_carry_11 (Nat.le_of_ble_eq_true rfl) rfl rfl ?_
      refine ok_aload_n (q := 14) dX11_carry_13 rfl rfl ?_
      refine ok_ifnull_s (q := 17) dX11_carry_14 rfl ?_
      refine ok_aload (q := 19) dX11_carry_17 rfl rfl ?_
      refine ok_ifnull_s (q := 22) dX11_carry_19 rfl ?_
      refine ok_aload_n (q := 23) dX11_carry_22 rfl rfl ?_
      refine ok_getR cl_0 (q := 26) (k := 0) dX11_carry_23 (Nat.le_of_ble_eq_true rfl) wd_377 (fun _ _ _ => rfl) kt_0_0 k20 rfl (fun b21 k22 => ?_)
      refine ok_getI cl_3 (q := 29) (k := 1) dX11_carry_26 (Nat.le_of_ble_eq_true rfl) wd_305 (fun _ _ _ => rfl) k22 rfl ?_
      refine ok_if_ne (q := 32) (t := 34) dX11_carry_29 rfl rfl ?_ ?_
      · refine ok_aload_n (q := 35) dX11_carry_34 rfl rfl ?_
        refine ok_getR cl_10 (q := 38) (k := 2) dX11_carry_35 (Nat.le_of_ble_eq_true rfl) wd_439 (fun _ _ _ => rfl) kt_10_2 k19 rfl (fun b23 k24 => ?_)
        refine ok_getR cl_9 (q := 41) (k := 3) dX11_carry_38 (Nat.le_of_ble_eq_true rfl) wd_248 (fun _ _ _ => rfl) kt_9_3 k24 rfl (fun b25 k26 => ?_)
        refine ok_aload_n (q := 42) dX11_carry_41 rfl rfl ?_
        refine ok_getR cl_0 (q := 45) (k := 0) dX11_carry_42 (Nat.le_of_ble_eq_true rfl) wd_377 (fun _ _ _ => rfl) kt_0_0 k20 rfl (fun b27 k28 => ?_)
        refine mm_ca (q := 48) (mt_X4_first G b27 h13 k28) rfl kr_5 (mm_runV (as := []) (st := [.ref b25]) cl_3 lk_X11_carry_X4_first_88 rfl dX11_carry_45 rfl (Nat.le_of_ble_eq_true rfl) k28) rfl (fun h29 p30 => ?_) (fun b31 h29 p30 k32 => ?_)
        · have k33 : mm_kd h29 a0 = 10 := mm_kd_app p30 k19 (by decide)
          have k34 : mm_kd h29 b3 = 0 := mm_kd_app p30 k20 (by decide)
          have k35 : mm_kd h29 b15 = 0 := mm_kd_app p30 k16 (by decide)
          have k36 : mm_kd h29 b25 = 5 := mm_kd_app p30 k26 (by decide)
          exact mm_no
        · have k37 : mm_kd h29 a0 = 10 := mm_kd_app p30 k19 (by decide)
          have k38 : mm_kd h29 b3 = 0 := mm_kd_app p30 k20 (by decide)
          have k39 : mm_kd h29 b15 = 0 := mm_kd_app p30 k16 (by decide)
          have k40 : mm_kd h29 b25 = 5 := mm_kd_app p30 k26 (by decide)
          refine mm_cv (q := 51) (mt_X6_copy G b25 b31 h29 k40 k32) (mm_runV (as := [.ref b31]) (st := []) cl_5 lk_X11_carry_X6_copy_92 rfl dX11_carry_48 rfl (Nat.le_of_ble_eq_true rfl) k40) rfl (fun h41 p42 => ?_)
          have k43 : mm_kd h41 a0 = 10 := mm_kd_app p42 k37 (by decide)
          have k44 : mm_kd h41 b3 = 0 := mm_kd_app p42 k38 (by decide)
          have k45 : mm_kd h41 b15 = 0 := mm_kd_app p42 k39 (by decide)
          refine ok_aload_n (q := 52) dX11_carry_51 rfl rfl ?_
          refine ok_getR cl_0 (q := 55) (k := 0) dX11_carry_52 (Nat.le_of_ble_eq_true rfl) wd_377 (fun _ _ _ => rfl) kt_0_0 k44 rfl (fun b46 k47 => ?_)
          refine mm_ci (q := 58) (mt_X4_drop G b46 h41 k47) (mm_runV (as := []) (st := []) cl_3 lk_X11_carry_X4_drop_96 rfl dX11_carry_55 rfl (Nat.le_of_ble_eq_true rfl) k47) rfl (fun v50 h48 p49 => ?_)
          have k51 : mm_kd h48 a0 = 10 := mm_kd_app p49 k43 (by decide)
          have k52 : mm_kd h48 b3 = 0 := mm_kd_app p49 k44 (by decide)
          have k53 : mm_kd h48 b15 = 0 := mm_kd_app p49 k45 (by decide)
          refine ok_pop (q := 59) dX11_carry_58 rfl rfl ?_
          refine ok_aload (q := 61) dX11_carry_59 rfl rfl ?_
          refine ok_aload_n (q := 62) dX11_carry_61 rfl rfl ?_
          refine ok_getR cl_10 (q := 65) (k := 2) dX11_carry_62 (Nat.le_of_ble_eq_true rfl) wd_439 (fun _ _ _ => rfl) kt_10_2 k51 rfl (fun b54 k55 => ?_)
          refine ok_getR cl_9 (q := 68) (k := 3) dX11_carry_65 (Nat.le_of_ble_eq_true rfl) wd_248 (fun _ _ _ => rfl) kt_9_3 k55 rfl (fun b56 k57 => ?_)
          refine mm_cv (q := 71) (mt_X0_read G b15 b56 h48 k53 k57) (mm_runV (as := [.ref b56]) (st := []) cl_0 lk_X11_carry_X0_read_99 rfl dX11_carry_68 rfl (Nat.le_of_ble_eq_true rfl) k53) rfl (fun h58 p59 => ?_)
          have k60 : mm_kd h58 a0 = 10 := mm_kd_app p59 k51 (by decide)
          have k61 : mm_kd h58 b3 = 0 := mm_kd_app p59 k52 (by decide)
          have k62 : mm_kd h58 b15 = 0 := mm_kd_app p59 k53 (by decide)
          refine ok_aload (q := 73) dX11_carry_71 rfl rfl ?_
          refine ok_getI cl_0 (q := 76) (k := 5) dX11_carry_73 (Nat.le_of_ble_eq_true rfl) wd_387 (fun _ _ _ => rfl) k62 rfl ?_
          exact ok_iret (t := .int) dX11_carry_76 rfl rfl
      · refine ok_iconst (q := 33) (v := -1) dX11_carry_32 ci_m1 rfl ?_
        exact ok_iret (t := .int) dX11_carry_33 rfl rfl
def bd_X11_give (a0 : Nat) (x1 : Int32) (h : mm_H) : mm_O := mm_qa (bd_X11_find a0 x1 h) (fun h1 =>
  some (some (.int (-1)), h1)) (fun b3 h1 =>
  mm_gr h1 a0 2 (fun b7 =>
  mm_gr h1 b7 3 (fun b9 =>
  mm_gr h1 a0 0 (fun b11 =>
  mm_qv (bd_X6_copy b9 b11 h1) (fun h13 =>
  mm_gr h13 a0 0 (fun b17 =>
  mm_qv (bd_X6_clear b17 h13) (fun h19 =>
  mm_gr h19 a0 2 (fun b23 =>
  mm_gr h19 b23 3 (fun b25 =>
  mm_qv (bd_X0_read b3 b25 h19) (fun h27 =>
  some (some (.int (mm_i h27 b3 5)), h27)))))))))))
set_option maxHeartbeats 4000000 in
set_option maxRecDepth 100000 in
theorem mt_X11_give (G : mm_G) (a0 : Nat) (x1 : Int32) (h : mm_H) (k_a0 : mm_kd h a0 = 10) : mm_Met G my_X11_give [.ref a0, .int x1] h (bd_X11_give a0 x1 h) := by
  refine mm_met (ls := [.ref a0, .int x1, mm_U]) pn_RX11 (Nat.le_of_ble_eq_true rfl) rfl ?_
  unfold bd_X11_give
  refine ok_aload_n (q := 1) dX11_give_0 rfl rfl ?_
  refine ok_iload_n (q := 2) dX11_give_1 rfl rfl ?_
  refine mm_ca (q := 5) (mt_X11_find G a0 x1 h k_a0) rfl kr_0 (mm_runV (as := [.int x1]) (st := []) cl_10 lk_X11_give_X11_find_52 rfl dX11_give_2 rfl (Nat.le_of_ble_eq_true rfl) k_a0) rfl (fun h1 p2 => ?_) (fun b3 h1 p2 k4 => ?_)
  · have k5 : mm_kd h1 a0 = 10 := mm_kd_app p2 k_a0 (by decide)
    refine ok_astore_nN (q := 6) (ls' := [.ref a0, .int x1, .null]) dX11_give_5 (Nat.le_of_ble_eq_true rfl) rfl rfl ?_
    refine ok_aload_nN (q := 7) dX11_give_6 rfl rfl ?_
    refine ok_ifnonnull_n (q := 10) dX11_give_7 rfl ?_
    refine ok_iconst (q := 11) (v := -1) dX11_give_10 ci_m1 rfl ?_
    exact ok_iret (t := .int) dX11_give_11 rfl rfl
  · have k6 : mm_kd h1 a0 = 10 := mm_kd_app p2 k_a0 (by decide)
    refine ok_astore_n (q := 6) (ls' := [.ref a0, .int x1, .ref b3]) dX11_give_5 (Nat.le_of_ble_eq_true rfl) rfl rfl ?_
    refine ok_aload_n (q := 7) dX11_give_6 rfl rfl ?_
    refine ok_ifnonnull_s (q := 12) dX11_give_7 rfl ?_
    refine ok_aload_n (q := 13) dX11_give_12 rfl rfl ?_
    refine ok_getR cl_10 (q := 16) (k := 2) dX11_give_13 (Nat.le_of_ble_eq_true rfl) wd_439 (fun _ _ _ => rfl) kt_10_2 k6 rfl (fun b7 k8 => ?_)
    refine ok_getR cl_9 (q := 19) (k := 3) dX11_give_16 (Nat.le_of_ble_eq_true rfl) wd_248 (fun _ _ _ => rfl) kt_9_3 k8 rfl (fun b9 k10 => ?_)
    refine ok_aload_n (q := 20) dX11_give_19 rfl rfl ?_
    refine ok_getR cl_10 (q := 23) (k := 0) dX11_give_20 (Nat.le_of_ble_eq_true rfl) wd_437 (fun _ _ _ => rfl) kt_10_0 k6 rfl (fun b11 k12 => ?_)
    refine mm_cv (q := 26) (mt_X6_copy G b9 b11 h1 k10 k12) (mm_runV (as := [.ref b11]) (st := []) cl_5 lk_X11_give_X6_copy_92 rfl dX11_give_23 rfl (Nat.le_of_ble_eq_true rfl) k10) rfl (fun h13 p14 => ?_)
    have k15 : mm_kd h13 a0 = 10 := mm_kd_app p14 k6 (by decide)
    have k16 : mm_kd h13 b3 = 0 := mm_kd_app p14 k4 (by decide)
    refine ok_aload_n (q := 27) dX11_give_26 rfl rfl ?_
    refine ok_getR cl_10 (q := 30) (k := 0) dX11_give_27 (Nat.le_of_ble_eq_true rfl) wd_437 (fun _ _ _ => rfl) kt_10_0 k15 rfl (fun b17 k18 => ?_)
    refine mm_cv (q := 33) (mt_X6_clear G b17 h13 k18) (mm_runV (as := []) (st := []) cl_5 lk_X11_give_X6_clear_60 rfl dX11_give_30 rfl (Nat.le_of_ble_eq_true rfl) k18) rfl (fun h19 p20 => ?_)
    have k21 : mm_kd h19 a0 = 10 := mm_kd_app p20 k15 (by decide)
    have k22 : mm_kd h19 b3 = 0 := mm_kd_app p20 k16 (by decide)
    refine ok_aload_n (q := 34) dX11_give_33 rfl rfl ?_
    refine ok_aload_n (q := 35) dX11_give_34 rfl rfl ?_
    refine ok_getR cl_10 (q := 38) (k := 2) dX11_give_35 (Nat.le_of_ble_eq_true rfl) wd_439 (fun _ _ _ => rfl) kt_10_2 k21 rfl (fun b23 k24 => ?_)
    refine ok_getR cl_9 (q := 41) (k := 3) dX11_give_38 (Nat.le_of_ble_eq_true rfl) wd_248 (fun _ _ _ => rfl) kt_9_3 k24 rfl (fun b25 k26 => ?_)
    refine mm_cv (q := 44) (mt_X0_read G b3 b25 h19 k22 k26) (mm_runV (as := [.ref b25]) (st := []) cl_0 lk_X11_give_X0_read_99 rfl dX11_give_41 rfl (Nat.le_of_ble_eq_true rfl) k22) rfl (fun h27 p28 => ?_)
    have k29 : mm_kd h27 a0 = 10 := mm_kd_app p28 k21 (by decide)
    have k30 : mm_kd h27 b3 = 0 := mm_kd_app p28 k22 (by decide)
    refine ok_aload_n (q := 45) dX11_give_44 rfl rfl ?_
    refine ok_getI cl_0 (q := 48) (k := 5) dX11_give_45 (Nat.le_of_ble_eq_true rfl) wd_387 (fun _ _ _ => rfl) k30 rfl ?_
    exact ok_iret (t := .int) dX11_give_48 rfl rfl
def bd_X11_meddle (a0 : Nat) (x1 : Int32) (x2 : Int32) (h : mm_H) : mm_O := mm_qa (bd_X11_find a0 x1 h) (fun h1 =>
  some (some (.int 0), h1)) (fun b3 h1 =>
  if x2 = 0 then
  (mm_gr h1 b3 0 (fun b8 =>
  mm_qi (bd_X4_drop b8 h1) (fun v12 h10 =>
  if v12 = 0 ∨ v12 = 1 then some (some (.int v12), h10) else none)))
  else
  (if x2 = 1 then
  (mm_gr h1 b3 0 (fun b17 =>
  mm_qi (bd_X4_twice b17 h1) (fun v21 h19 =>
  if v21 = 0 ∨ v21 = 1 then some (some (.int v21), h19) else none)))
  else
  (if x2 = 2 then
  (mm_gr h1 b3 0 (fun b26 =>
  mm_qi (bd_X4_swap b26 h1) (fun v30 h28 =>
  if v30 = 0 ∨ v30 = 1 then some (some (.int v30), h28) else none)))
  else
  (some (some (.int 0), h1)))))
set_option maxHeartbeats 4000000 in
set_option maxRecDepth 100000 in
theorem mt_X11_meddle (G : mm_G) (a0 : Nat) (x1 : Int32) (x2 : Int32) (h : mm_H) (k_a0 : mm_kd h a0 = 10) : mm_Met G my_X11_meddle [.ref a0, .int x1, .int x2] h (bd_X11_meddle a0 x1 x2 h) := by
  refine mm_met (ls := [.ref a0, .int x1, .int x2, mm_U]) pn_RX11 (Nat.le_of_ble_eq_true rfl) rfl ?_
  unfold bd_X11_meddle
  refine ok_aload_n (q := 1) dX11_meddle_0 rfl rfl ?_
  refine ok_iload_n (q := 2) dX11_meddle_1 rfl rfl ?_
  refine mm_ca (q := 5) (mt_X11_find G a0 x1 h k_a0) rfl kr_0 (mm_runV (as := [.int x1]) (st := []) cl_10 lk_X11_meddle_X11_find_52 rfl dX11_meddle_2 rfl (Nat.le_of_ble_eq_true rfl) k_a0) rfl (fun h1 p2 => ?_) (fun b3 h1 p2 k4 => ?_)
  · have k5 : mm_kd h1 a0 = 10 := mm_kd_app p2 k_a0 (by decide)
    refine ok_astore_nN (q := 6) (ls' := [.ref a0, .int x1, .int x2, .null]) dX11_meddle_5 (Nat.le_of_ble_eq_true rfl) rfl rfl ?_
    refine ok_aload_nN (q := 7) dX11_meddle_6 rfl rfl ?_
    refine ok_ifnonnull_n (q := 10) dX11_meddle_7 rfl ?_
    refine ok_iconst (q := 11) (v := 0) dX11_meddle_10 ci_0 rfl ?_
    exact ok_iret (t := .boolean) dX11_meddle_11 rfl (by decide)
  · have k6 : mm_kd h1 a0 = 10 := mm_kd_app p2 k_a0 (by decide)
    refine ok_astore_n (q := 6) (ls' := [.ref a0, .int x1, .int x2, .ref b3]) dX11_meddle_5 (Nat.le_of_ble_eq_true rfl) rfl rfl ?_
    refine ok_aload_n (q := 7) dX11_meddle_6 rfl rfl ?_
    refine ok_ifnonnull_s (q := 12) dX11_meddle_7 rfl ?_
    refine ok_iload_n (q := 13) dX11_meddle_12 rfl rfl ?_
    refine mm_sp (fun c7 => ?_) (fun c7 => ?_)
    · refine ok_tableIn (q := 40) dX11_meddle_13 (by rw [c7]; decide) (by rw [c7]; decide) (by rw [c7]; rfl) rfl ?_
      refine ok_aload_n (q := 41) dX11_meddle_40 rfl rfl ?_
      refine ok_getR cl_0 (q := 44) (k := 0) dX11_meddle_41 (Nat.le_of_ble_eq_true rfl) wd_377 (fun _ _ _ => rfl) kt_0_0 k4 rfl (fun b8 k9 => ?_)
      refine mm_ci (q := 47) (mt_X4_drop G b8 h1 k9) (mm_runV (as := []) (st := []) cl_3 lk_X11_meddle_X4_drop_96 rfl dX11_meddle_44 rfl (Nat.le_of_ble_eq_true rfl) k9) rfl (fun v12 h10 p11 => ?_)
      have k13 : mm_kd h10 a0 = 10 := mm_kd_app p11 k6 (by decide)
      have k14 : mm_kd h10 b3 = 0 := mm_kd_app p11 k4 (by decide)
      refine mm_ck (fun c15 => ?_)
      exact ok_iret (t := .boolean) dX11_meddle_47 rfl (mm_isb c15).1
    · refine mm_sp (fun c16 => ?_) (fun c16 => ?_)
      · refine ok_tableIn (q := 48) dX11_meddle_13 (by rw [c16]; decide) (by rw [c16]; decide) (by rw [c16]; rfl) rfl ?_
        refine ok_aload_n (q := 49) dX11_meddle_48 rfl rfl ?_
        refine ok_getR cl_0 (q := 52) (k := 0) dX11_meddle_49 (Nat.le_of_ble_eq_true rfl) wd_377 (fun _ _ _ => rfl) kt_0_0 k4 rfl (fun b17 k18 => ?_)
        refine mm_ci (q := 55) (mt_X4_twice G b17 h1 k18) (mm_runV (as := []) (st := []) cl_3 lk_X11_meddle_X4_twice_105 rfl dX11_meddle_52 rfl (Nat.le_of_ble_eq_true rfl) k18) rfl (fun v21 h19 p20 => ?_)
        have k22 : mm_kd h19 a0 = 10 := mm_kd_app p20 k6 (by decide)
        have k23 : mm_kd h19 b3 = 0 := mm_kd_app p20 k4 (by decide)
        refine mm_ck (fun c24 => ?_)
        exact ok_iret (t := .boolean) dX11_meddle_55 rfl (mm_isb c24).1
      · refine mm_sp (fun c25 => ?_) (fun c25 => ?_)
        · refine ok_tableIn (q := 56) dX11_meddle_13 (by rw [c25]; decide) (by rw [c25]; decide) (by rw [c25]; rfl) rfl ?_
          refine ok_aload_n (q := 57) dX11_meddle_56 rfl rfl ?_
          refine ok_getR cl_0 (q := 60) (k := 0) dX11_meddle_57 (Nat.le_of_ble_eq_true rfl) wd_377 (fun _ _ _ => rfl) kt_0_0 k4 rfl (fun b26 k27 => ?_)
          refine mm_ci (q := 63) (mt_X4_swap G b26 h1 k27) (mm_runV (as := []) (st := []) cl_3 lk_X11_meddle_X4_swap_108 rfl dX11_meddle_60 rfl (Nat.le_of_ble_eq_true rfl) k27) rfl (fun v30 h28 p29 => ?_)
          have k31 : mm_kd h28 a0 = 10 := mm_kd_app p29 k6 (by decide)
          have k32 : mm_kd h28 b3 = 0 := mm_kd_app p29 k4 (by decide)
          refine mm_ck (fun c33 => ?_)
          exact ok_iret (t := .boolean) dX11_meddle_63 rfl (mm_isb c33).1
        · have tc7 := lv_neT c7 (by decide : (0 : Int32).toInt = 0)
          have tc16 := lv_neT c16 (by decide : (1 : Int32).toInt = 1)
          have tc25 := lv_neT c25 (by decide : (2 : Int32).toInt = 2)
          refine ok_tableOut (q := 64) dX11_meddle_13 (by omega) rfl ?_
          refine ok_iconst (q := 65) (v := 0) dX11_meddle_64 ci_0 rfl ?_
          exact ok_iret (t := .boolean) dX11_meddle_65 rfl (by decide)
def bd_X11_alter (a0 : Nat) (x1 : Int32) (x2 : Int32) (x3 : Int32) (h : mm_H) : mm_O := mm_qa (bd_X11_find a0 x1 h) (fun h1 =>
  some (some (.int 0), h1)) (fun b3 h1 =>
  mm_gr h1 b3 0 (fun b7 =>
  if (mm_i h1 b7 1) = 0 then
  (some (some (.int 0), h1))
  else
  (if x3 < 0 then
  (some (some (.int 0), h1))
  else
  (if x3 ≤ (255 : Int32) then
  (mm_gr h1 b3 0 (fun b9 =>
  mm_qa (bd_X4_first b9 h1) (fun h11 =>
  none) (fun b13 h11 =>
  mm_qi (bd_X6_flip b13 x2 x3 h11) (fun v21 h19 =>
  if v21 = 0 ∨ v21 = 1 then some (some (.int v21), h19) else none))))
  else
  (some (some (.int 0), h1))))))
set_option maxHeartbeats 4000000 in
set_option maxRecDepth 100000 in
theorem mt_X11_alter (G : mm_G) (a0 : Nat) (x1 : Int32) (x2 : Int32) (x3 : Int32) (h : mm_H) (k_a0 : mm_kd h a0 = 10) : mm_Met G my_X11_alter [.ref a0, .int x1, .int x2, .int x3] h (bd_X11_alter a0 x1 x2 x3 h) := by
  refine mm_met (ls := [.ref a0, .int x1, .int x2, .int x3, mm_U]) pn_RX11 (Nat.le_of_ble_eq_true rfl) rfl ?_
  unfold bd_X11_alter
  refine ok_aload_n (q := 1) dX11_alter_0 rfl rfl ?_
  refine ok_iload_n (q := 2) dX11_alter_1 rfl rfl ?_
  refine mm_ca (q := 5) (mt_X11_find G a0 x1 h k_a0) rfl kr_0 (mm_runV (as := [.int x1]) (st := []) cl_10 lk_X11_alter_X11_find_52 rfl dX11_alter_2 rfl (Nat.le_of_ble_eq_true rfl) k_a0) rfl (fun h1 p2 => ?_) (fun b3 h1 p2 k4 => ?_)
  · have k5 : mm_kd h1 a0 = 10 := mm_kd_app p2 k_a0 (by decide)
    refine ok_astoreN (q := 7) (ls' := [.ref a0, .int x1, .int x2, .int x3, .null]) dX11_alter_5 (Nat.le_of_ble_eq_true rfl) rfl rfl ?_
    refine ok_aloadN (q := 9) dX11_alter_7 rfl rfl ?_
    refine ok_ifnull_n (q := 34) dX11_alter_9 rfl ?_
    refine ok_iconst (q := 35) (v := 0) dX11_alter_34 ci_0 rfl ?_
    exact ok_iret (t := .boolean) dX11_alter_35 rfl (by decide)
  · have k6 : mm_kd h1 a0 = 10 := mm_kd_app p2 k_a0 (by decide)
    refine ok_astore (q := 7) (ls' := [.ref a0, .int x1, .int x2, .int x3, .ref b3]) dX11_alter_5 (Nat.le_of_ble_eq_true rfl) rfl rfl ?_
    refine ok_aload (q := 9) dX11_alter_7 rfl rfl ?_
    refine ok_ifnull_s (q := 12) dX11_alter_9 rfl ?_
    refine ok_aload (q := 14) dX11_alter_12 rfl rfl ?_
    refine ok_getR cl_0 (q := 17) (k := 0) dX11_alter_14 (Nat.le_of_ble_eq_true rfl) wd_377 (fun _ _ _ => rfl) kt_0_0 k4 rfl (fun b7 k8 => ?_)
    refine ok_getI cl_3 (q := 20) (k := 1) dX11_alter_17 (Nat.le_of_ble_eq_true rfl) wd_305 (fun _ _ _ => rfl) k8 rfl ?_
    refine ok_if_eq (q := 23) (t := 34) dX11_alter_20 rfl rfl ?_ ?_
    · refine ok_iconst (q := 35) (v := 0) dX11_alter_34 ci_0 rfl ?_
      exact ok_iret (t := .boolean) dX11_alter_35 rfl (by decide)
    · refine ok_iload_n (q := 24) dX11_alter_23 rfl rfl ?_
      refine ok_if_lt (q := 27) (t := 34) dX11_alter_24 rfl rfl ?_ ?_
      · refine ok_iconst (q := 35) (v := 0) dX11_alter_34 ci_0 rfl ?_
        exact ok_iret (t := .boolean) dX11_alter_35 rfl (by decide)
      · refine ok_iload_n (q := 28) dX11_alter_27 rfl rfl ?_
        refine ok_sipush (q := 31) (v := 255) dX11_alter_28 cs_255 rfl ?_
        refine ok_icmp_le (q := 34) (t := 36) dX11_alter_31 rfl rfl ?_ ?_
        · refine ok_aload (q := 38) dX11_alter_36 rfl rfl ?_
          refine ok_getR cl_0 (q := 41) (k := 0) dX11_alter_38 (Nat.le_of_ble_eq_true rfl) wd_377 (fun _ _ _ => rfl) kt_0_0 k4 rfl (fun b9 k10 => ?_)
          refine mm_ca (q := 44) (mt_X4_first G b9 h1 k10) rfl kr_5 (mm_runV (as := []) (st := []) cl_3 lk_X11_alter_X4_first_88 rfl dX11_alter_41 rfl (Nat.le_of_ble_eq_true rfl) k10) rfl (fun h11 p12 => ?_) (fun b13 h11 p12 k14 => ?_)
          · have k15 : mm_kd h11 a0 = 10 := mm_kd_app p12 k6 (by decide)
            have k16 : mm_kd h11 b3 = 0 := mm_kd_app p12 k4 (by decide)
            refine ok_iload_n (q := 45) dX11_alter_44 rfl rfl ?_
            refine ok_iload_n (q := 46) dX11_alter_45 rfl rfl ?_
            exact mm_no
          · have k17 : mm_kd h11 a0 = 10 := mm_kd_app p12 k6 (by decide)
            have k18 : mm_kd h11 b3 = 0 := mm_kd_app p12 k4 (by decide)
            refine ok_iload_n (q := 45) dX11_alter_44 rfl rfl ?_
            refine ok_iload_n (q := 46) dX11_alter_45 rfl rfl ?_
            refine mm_ci (q := 49) (mt_X6_flip G b13 x2 x3 h11 k14) (mm_runV (as := [.int x2, .int x3]) (st := []) cl_5 lk_X11_alter_X6_flip_111 rfl dX11_alter_46 rfl (Nat.le_of_ble_eq_true rfl) k14) rfl (fun v21 h19 p20 => ?_)
            have k22 : mm_kd h19 a0 = 10 := mm_kd_app p20 k17 (by decide)
            have k23 : mm_kd h19 b3 = 0 := mm_kd_app p20 k18 (by decide)
            refine mm_ck (fun c24 => ?_)
            exact ok_iret (t := .boolean) dX11_alter_49 rfl (mm_isb c24).1
        · refine ok_iconst (q := 35) (v := 0) dX11_alter_34 ci_0 rfl ?_
          exact ok_iret (t := .boolean) dX11_alter_35 rfl (by decide)
def bd_X11_written (a0 : Nat) (x1 : Int32) (x2 : Int32) (x3 : Int32) (h : mm_H) : mm_O := mm_qa (bd_X11_find a0 x1 h) (fun h1 =>
  some (some (.int (-1)), h1)) (fun b3 h1 =>
  mm_gr h1 b3 0 (fun b7 =>
  mm_qi (bd_X4_byteOf b7 x2 x3 h1) (fun v11 h9 =>
  some (some (.int v11), h9))))
set_option maxHeartbeats 4000000 in
set_option maxRecDepth 100000 in
theorem mt_X11_written (G : mm_G) (a0 : Nat) (x1 : Int32) (x2 : Int32) (x3 : Int32) (h : mm_H) (k_a0 : mm_kd h a0 = 10) : mm_Met G my_X11_written [.ref a0, .int x1, .int x2, .int x3] h (bd_X11_written a0 x1 x2 x3 h) := by
  refine mm_met (ls := [.ref a0, .int x1, .int x2, .int x3, mm_U]) pn_RX11 (Nat.le_of_ble_eq_true rfl) rfl ?_
  unfold bd_X11_written
  refine ok_aload_n (q := 1) dX11_written_0 rfl rfl ?_
  refine ok_iload_n (q := 2) dX11_written_1 rfl rfl ?_
  refine mm_ca (q := 5) (mt_X11_find G a0 x1 h k_a0) rfl kr_0 (mm_runV (as := [.int x1]) (st := []) cl_10 lk_X11_written_X11_find_52 rfl dX11_written_2 rfl (Nat.le_of_ble_eq_true rfl) k_a0) rfl (fun h1 p2 => ?_) (fun b3 h1 p2 k4 => ?_)
  · have k5 : mm_kd h1 a0 = 10 := mm_kd_app p2 k_a0 (by decide)
    refine ok_astoreN (q := 7) (ls' := [.ref a0, .int x1, .int x2, .int x3, .null]) dX11_written_5 (Nat.le_of_ble_eq_true rfl) rfl rfl ?_
    refine ok_aloadN (q := 9) dX11_written_7 rfl rfl ?_
    refine ok_ifnonnull_n (q := 12) dX11_written_9 rfl ?_
    refine ok_iconst (q := 13) (v := -1) dX11_written_12 ci_m1 rfl ?_
    refine ok_goto (q := 26) dX11_written_13 rfl ?_
    exact ok_iret (t := .int) dX11_written_26 rfl rfl
  · have k6 : mm_kd h1 a0 = 10 := mm_kd_app p2 k_a0 (by decide)
    refine ok_astore (q := 7) (ls' := [.ref a0, .int x1, .int x2, .int x3, .ref b3]) dX11_written_5 (Nat.le_of_ble_eq_true rfl) rfl rfl ?_
    refine ok_aload (q := 9) dX11_written_7 rfl rfl ?_
    refine ok_ifnonnull_s (q := 16) dX11_written_9 rfl ?_
    refine ok_aload (q := 18) dX11_written_16 rfl rfl ?_
    refine ok_getR cl_0 (q := 21) (k := 0) dX11_written_18 (Nat.le_of_ble_eq_true rfl) wd_377 (fun _ _ _ => rfl) kt_0_0 k4 rfl (fun b7 k8 => ?_)
    refine ok_iload_n (q := 22) dX11_written_21 rfl rfl ?_
    refine ok_iload_n (q := 23) dX11_written_22 rfl rfl ?_
    refine mm_ci (q := 26) (mt_X4_byteOf G b7 x2 x3 h1 k8) (mm_runV (as := [.int x2, .int x3]) (st := []) cl_3 lk_X11_written_X4_byteOf_115 rfl dX11_written_23 rfl (Nat.le_of_ble_eq_true rfl) k8) rfl (fun v11 h9 p10 => ?_)
    have k12 : mm_kd h9 a0 = 10 := mm_kd_app p10 k6 (by decide)
    have k13 : mm_kd h9 b3 = 0 := mm_kd_app p10 k4 (by decide)
    exact ok_iret (t := .int) dX11_written_26 rfl rfl
def bd_X11_given (a0 : Nat) (x1 : Int32) (x2 : Int32) (h : mm_H) : mm_O := mm_qa (bd_X11_find a0 x1 h) (fun h1 =>
  some (some (.int (-1)), h1)) (fun b3 h1 =>
  mm_gr h1 b3 1 (fun b7 =>
  mm_qi (bd_X6_at b7 x2 h1) (fun v11 h9 =>
  some (some (.int v11), h9))))
set_option maxHeartbeats 4000000 in
set_option maxRecDepth 100000 in
theorem mt_X11_given (G : mm_G) (a0 : Nat) (x1 : Int32) (x2 : Int32) (h : mm_H) (k_a0 : mm_kd h a0 = 10) : mm_Met G my_X11_given [.ref a0, .int x1, .int x2] h (bd_X11_given a0 x1 x2 h) := by
  refine mm_met (ls := [.ref a0, .int x1, .int x2, mm_U]) pn_RX11 (Nat.le_of_ble_eq_true rfl) rfl ?_
  unfold bd_X11_given
  refine ok_aload_n (q := 1) dX11_given_0 rfl rfl ?_
  refine ok_iload_n (q := 2) dX11_given_1 rfl rfl ?_
  refine mm_ca (q := 5) (mt_X11_find G a0 x1 h k_a0) rfl kr_0 (mm_runV (as := [.int x1]) (st := []) cl_10 lk_X11_given_X11_find_52 rfl dX11_given_2 rfl (Nat.le_of_ble_eq_true rfl) k_a0) rfl (fun h1 p2 => ?_) (fun b3 h1 p2 k4 => ?_)
  · have k5 : mm_kd h1 a0 = 10 := mm_kd_app p2 k_a0 (by decide)
    refine ok_astore_nN (q := 6) (ls' := [.ref a0, .int x1, .int x2, .null]) dX11_given_5 (Nat.le_of_ble_eq_true rfl) rfl rfl ?_
    refine ok_aload_nN (q := 7) dX11_given_6 rfl rfl ?_
    refine ok_ifnonnull_n (q := 10) dX11_given_7 rfl ?_
    refine ok_iconst (q := 11) (v := -1) dX11_given_10 ci_m1 rfl ?_
    refine ok_goto (q := 22) dX11_given_11 rfl ?_
    exact ok_iret (t := .int) dX11_given_22 rfl rfl
  · have k6 : mm_kd h1 a0 = 10 := mm_kd_app p2 k_a0 (by decide)
    refine ok_astore_n (q := 6) (ls' := [.ref a0, .int x1, .int x2, .ref b3]) dX11_given_5 (Nat.le_of_ble_eq_true rfl) rfl rfl ?_
    refine ok_aload_n (q := 7) dX11_given_6 rfl rfl ?_
    refine ok_ifnonnull_s (q := 14) dX11_given_7 rfl ?_
    refine ok_aload_n (q := 15) dX11_given_14 rfl rfl ?_
    refine ok_getR cl_0 (q := 18) (k := 1) dX11_given_15 (Nat.le_of_ble_eq_true rfl) wd_379 (fun _ _ _ => rfl) kt_0_1 k4 rfl (fun b7 k8 => ?_)
    refine ok_iload_n (q := 19) dX11_given_18 rfl rfl ?_
    refine mm_ci (q := 22) (mt_X6_at G b7 x2 h1 k8) (mm_runV (as := [.int x2]) (st := []) cl_5 lk_X11_given_X6_at_122 rfl dX11_given_19 rfl (Nat.le_of_ble_eq_true rfl) k8) rfl (fun v11 h9 p10 => ?_)
    have k12 : mm_kd h9 a0 = 10 := mm_kd_app p10 k6 (by decide)
    have k13 : mm_kd h9 b3 = 0 := mm_kd_app p10 k4 (by decide)
    exact ok_iret (t := .int) dX11_given_22 rfl rfl
def jn_X11_secret_40 (x3 : Int32) (s0 : Nat) (h : mm_H) : mm_O := if (mm_i h s0 4) = 0 then
  (some (some (.int (-1)), h))
  else
  (mm_gr h s0 0 (fun b9 =>
  mm_qi (bd_X6_at b9 x3 h) (fun v13 h11 =>
  some (some (.int v13), h11))))
set_option maxHeartbeats 4000000 in
set_option maxRecDepth 100000 in
theorem oj_X11_secret_40 {G : mm_G}   (x3 : Int32) (s0 : Nat) (h : mm_H) (k_s0 : mm_kd h s0 = 2) : mm_Ok G my_X11_secret 40 [mm_U, mm_U, mm_U, .int x3, mm_U, mm_U] [.ref s0] h (jn_X11_secret_40 x3 s0 h) := by
  unfold jn_X11_secret_40
  refine ok_astore (q := 42) (ls' := [mm_U, mm_U, mm_U, .int x3, mm_U, .ref s0]) dX11_secret_40 (Nat.le_of_ble_eq_true rfl) rfl rfl ?_
  refine ok_aload (q := 44) dX11_secret_42 rfl rfl ?_
  refine ok_getI cl_2 (q := 47) (k := 4) dX11_secret_44 (Nat.le_of_ble_eq_true rfl) wd_334 (fun _ _ _ => rfl) k_s0 rfl ?_
  refine ok_if_eq (q := 50) (t := 62) dX11_secret_47 rfl rfl ?_ ?_
  · refine ok_iconst (q := 63) (v := -1) dX11_secret_62 ci_m1 rfl ?_
    exact ok_iret (t := .int) dX11_secret_63 rfl rfl
  · refine ok_aload (q := 52) dX11_secret_50 rfl rfl ?_
    refine ok_getR cl_2 (q := 55) (k := 0) dX11_secret_52 (Nat.le_of_ble_eq_true rfl) wd_324 (fun _ _ _ => rfl) kt_2_0 k_s0 rfl (fun b9 k10 => ?_)
    refine ok_iload_n (q := 56) dX11_secret_55 rfl rfl ?_
    refine mm_ci (q := 59) (mt_X6_at G b9 x3 h k10) (mm_runV (as := [.int x3]) (st := []) cl_5 lk_X11_secret_X6_at_122 rfl dX11_secret_56 rfl (Nat.le_of_ble_eq_true rfl) k10) rfl (fun v13 h11 p12 => ?_)
    have k14 : mm_kd h11 s0 = 2 := mm_kd_app p12 k_s0 (by decide)
    refine ok_goto (q := 63) dX11_secret_59 rfl ?_
    exact ok_iret (t := .int) dX11_secret_63 rfl rfl
def bd_X11_secret (a0 : Nat) (x1 : Int32) (x2 : Int32) (x3 : Int32) (h : mm_H) : mm_O := mm_qa (bd_X11_find a0 x1 h) (fun h1 =>
  some (some (.int (-1)), h1)) (fun b3 h1 =>
  if x2 < 0 then
  (some (some (.int (-1)), h1))
  else
  (if x2 ≤ (1 : Int32) then
  (if x2 = 0 then
  (mm_gr h1 b3 2 (fun b15 =>
  jn_X11_secret_40 x3 b15 h1))
  else
  (mm_gr h1 b3 3 (fun b7 =>
  jn_X11_secret_40 x3 b7 h1)))
  else
  (some (some (.int (-1)), h1))))
set_option maxHeartbeats 4000000 in
set_option maxRecDepth 100000 in
theorem mt_X11_secret (G : mm_G) (a0 : Nat) (x1 : Int32) (x2 : Int32) (x3 : Int32) (h : mm_H) (k_a0 : mm_kd h a0 = 10) : mm_Met G my_X11_secret [.ref a0, .int x1, .int x2, .int x3] h (bd_X11_secret a0 x1 x2 x3 h) := by
  refine mm_met (ls := [.ref a0, .int x1, .int x2, .int x3, mm_U, mm_U]) pn_RX11 (Nat.le_of_ble_eq_true rfl) rfl ?_
  unfold bd_X11_secret
  refine ok_aload_n (q := 1) dX11_secret_0 rfl rfl ?_
  refine ok_iload_n (q := 2) dX11_secret_1 rfl rfl ?_
  refine mm_ca (q := 5) (mt_X11_find G a0 x1 h k_a0) rfl kr_0 (mm_runV (as := [.int x1]) (st := []) cl_10 lk_X11_secret_X11_find_52 rfl dX11_secret_2 rfl (Nat.le_of_ble_eq_true rfl) k_a0) rfl (fun h1 p2 => ?_) (fun b3 h1 p2 k4 => ?_)
  · have k5 : mm_kd h1 a0 = 10 := mm_kd_app p2 k_a0 (by decide)
    refine ok_astoreN (q := 7) (ls' := [.ref a0, .int x1, .int x2, .int x3, .null, mm_U]) dX11_secret_5 (Nat.le_of_ble_eq_true rfl) rfl rfl ?_
    refine ok_aloadN (q := 9) dX11_secret_7 rfl rfl ?_
    refine ok_ifnull_n (q := 21) dX11_secret_9 rfl ?_
    refine ok_iconst (q := 22) (v := -1) dX11_secret_21 ci_m1 rfl ?_
    exact ok_iret (t := .int) dX11_secret_22 rfl rfl
  · have k6 : mm_kd h1 a0 = 10 := mm_kd_app p2 k_a0 (by decide)
    refine ok_astore (q := 7) (ls' := [.ref a0, .int x1, .int x2, .int x3, .ref b3, mm_U]) dX11_secret_5 (Nat.le_of_ble_eq_true rfl) rfl rfl ?_
    refine ok_aload (q := 9) dX11_secret_7 rfl rfl ?_
    refine ok_ifnull_s (q := 12) dX11_secret_9 rfl ?_
    refine ok_iload_n (q := 13) dX11_secret_12 rfl rfl ?_
    refine ok_if_lt (q := 16) (t := 21) dX11_secret_13 rfl rfl ?_ ?_
    · refine ok_iconst (q := 22) (v := -1) dX11_secret_21 ci_m1 rfl ?_
      exact ok_iret (t := .int) dX11_secret_22 rfl rfl
    · refine ok_iload_n (q := 17) dX11_secret_16 rfl rfl ?_
      refine ok_iconst (q := 18) (v := 1) dX11_secret_17 ci_1 rfl ?_
      refine ok_icmp_le (q := 21) (t := 23) dX11_secret_18 rfl rfl ?_ ?_
      · refine ok_iload_n (q := 24) dX11_secret_23 rfl rfl ?_
        refine ok_if_ne (q := 27) (t := 35) dX11_secret_24 rfl rfl ?_ ?_
        · refine ok_aload (q := 37) dX11_secret_35 rfl rfl ?_
          refine ok_getR cl_0 (q := 40) (k := 3) dX11_secret_37 (Nat.le_of_ble_eq_true rfl) wd_383 (fun _ _ _ => rfl) kt_0_3 k4 rfl (fun b7 k8 => ?_)
          refine mm_wk [false, false, false, true, false, false] (ls' := [mm_U, mm_U, mm_U, .int x3, mm_U, mm_U]) rfl ?_
          exact oj_X11_secret_40 x3 b7 h1 k8
        · refine ok_aload (q := 29) dX11_secret_27 rfl rfl ?_
          refine ok_getR cl_0 (q := 32) (k := 2) dX11_secret_29 (Nat.le_of_ble_eq_true rfl) wd_381 (fun _ _ _ => rfl) kt_0_2 k4 rfl (fun b15 k16 => ?_)
          refine ok_goto (q := 40) dX11_secret_32 rfl ?_
          refine mm_wk [false, false, false, true, false, false] (ls' := [mm_U, mm_U, mm_U, .int x3, mm_U, mm_U]) rfl ?_
          exact oj_X11_secret_40 x3 b15 h1 k16
      · refine ok_iconst (q := 22) (v := -1) dX11_secret_21 ci_m1 rfl ?_
        exact ok_iret (t := .int) dX11_secret_22 rfl rfl
def bd_X11_state (a0 : Nat) (x1 : Int32) (x2 : Int32) (h : mm_H) : mm_O := mm_qa (bd_X11_find a0 x1 h) (fun h1 =>
  some (some (.int (-1)), h1)) (fun b3 h1 =>
  mm_qi (bd_X0_report b3 x2 h1) (fun v9 h7 =>
  some (some (.int v9), h7)))
set_option maxHeartbeats 4000000 in
set_option maxRecDepth 100000 in
theorem mt_X11_state (G : mm_G) (a0 : Nat) (x1 : Int32) (x2 : Int32) (h : mm_H) (k_a0 : mm_kd h a0 = 10) : mm_Met G my_X11_state [.ref a0, .int x1, .int x2] h (bd_X11_state a0 x1 x2 h) := by
  refine mm_met (ls := [.ref a0, .int x1, .int x2, mm_U]) pn_RX11 (Nat.le_of_ble_eq_true rfl) rfl ?_
  unfold bd_X11_state
  refine ok_aload_n (q := 1) dX11_state_0 rfl rfl ?_
  refine ok_iload_n (q := 2) dX11_state_1 rfl rfl ?_
  refine mm_ca (q := 5) (mt_X11_find G a0 x1 h k_a0) rfl kr_0 (mm_runV (as := [.int x1]) (st := []) cl_10 lk_X11_state_X11_find_52 rfl dX11_state_2 rfl (Nat.le_of_ble_eq_true rfl) k_a0) rfl (fun h1 p2 => ?_) (fun b3 h1 p2 k4 => ?_)
  · have k5 : mm_kd h1 a0 = 10 := mm_kd_app p2 k_a0 (by decide)
    refine ok_astore_nN (q := 6) (ls' := [.ref a0, .int x1, .int x2, .null]) dX11_state_5 (Nat.le_of_ble_eq_true rfl) rfl rfl ?_
    refine ok_aload_nN (q := 7) dX11_state_6 rfl rfl ?_
    refine ok_ifnonnull_n (q := 10) dX11_state_7 rfl ?_
    refine ok_iconst (q := 11) (v := -1) dX11_state_10 ci_m1 rfl ?_
    refine ok_goto (q := 19) dX11_state_11 rfl ?_
    exact ok_iret (t := .int) dX11_state_19 rfl rfl
  · have k6 : mm_kd h1 a0 = 10 := mm_kd_app p2 k_a0 (by decide)
    refine ok_astore_n (q := 6) (ls' := [.ref a0, .int x1, .int x2, .ref b3]) dX11_state_5 (Nat.le_of_ble_eq_true rfl) rfl rfl ?_
    refine ok_aload_n (q := 7) dX11_state_6 rfl rfl ?_
    refine ok_ifnonnull_s (q := 14) dX11_state_7 rfl ?_
    refine ok_aload_n (q := 15) dX11_state_14 rfl rfl ?_
    refine ok_iload_n (q := 16) dX11_state_15 rfl rfl ?_
    refine mm_ci (q := 19) (mt_X0_report G b3 x2 h1 k4) (mm_runV (as := [.int x2]) (st := []) cl_0 lk_X11_state_X0_report_141 rfl dX11_state_16 rfl (Nat.le_of_ble_eq_true rfl) k4) rfl (fun v9 h7 p8 => ?_)
    have k10 : mm_kd h7 a0 = 10 := mm_kd_app p8 k6 (by decide)
    have k11 : mm_kd h7 b3 = 0 := mm_kd_app p8 k4 (by decide)
    exact ok_iret (t := .int) dX11_state_19 rfl rfl
def bd_X11_hash (a0 : Nat) (x1 : Int32) (h : mm_H) : mm_O := if x1 < 0 then
  (some (some (.int (-1)), h))
  else
  (if x1 < (32 : Int32) then
  (mm_gr h a0 2 (fun b1 =>
  mm_gr h b1 0 (fun b3 =>
  mm_gr h a0 0 (fun b5 =>
  mm_gr h a0 2 (fun b7 =>
  mm_gr h b7 7 (fun b9 =>
  mm_qv (bd_X9_digest b3 b5 b9 h) (fun h11 =>
  mm_gr h11 a0 2 (fun b14 =>
  mm_gr h11 b14 7 (fun b16 =>
  mm_qi (bd_X6_at b16 x1 h11) (fun v20 h18 =>
  some (some (.int v20), h18)))))))))))
  else
  (some (some (.int (-1)), h)))
set_option maxHeartbeats 4000000 in
set_option maxRecDepth 100000 in
theorem mt_X11_hash (G : mm_G) (a0 : Nat) (x1 : Int32) (h : mm_H) (k_a0 : mm_kd h a0 = 10) : mm_Met G my_X11_hash [.ref a0, .int x1] h (bd_X11_hash a0 x1 h) := by
  refine mm_met (ls := [.ref a0, .int x1]) pn_RX11 (Nat.le_of_ble_eq_true rfl) rfl ?_
  unfold bd_X11_hash
  refine ok_iload_n (q := 1) dX11_hash_0 rfl rfl ?_
  refine ok_if_lt (q := 4) (t := 10) dX11_hash_1 rfl rfl ?_ ?_
  · refine ok_iconst (q := 11) (v := -1) dX11_hash_10 ci_m1 rfl ?_
    exact ok_iret (t := .int) dX11_hash_11 rfl rfl
  · refine ok_iload_n (q := 5) dX11_hash_4 rfl rfl ?_
    refine ok_bipush (q := 7) (v := 32) dX11_hash_5 cb_32 rfl ?_
    refine ok_icmp_lt (q := 10) (t := 12) dX11_hash_7 rfl rfl ?_ ?_
    · refine ok_aload_n (q := 13) dX11_hash_12 rfl rfl ?_
      refine ok_getR cl_10 (q := 16) (k := 2) dX11_hash_13 (Nat.le_of_ble_eq_true rfl) wd_439 (fun _ _ _ => rfl) kt_10_2 k_a0 rfl (fun b1 k2 => ?_)
      refine ok_getR cl_9 (q := 19) (k := 0) dX11_hash_16 (Nat.le_of_ble_eq_true rfl) wd_241 (fun _ _ _ => rfl) kt_9_0 k2 rfl (fun b3 k4 => ?_)
      refine ok_aload_n (q := 20) dX11_hash_19 rfl rfl ?_
      refine ok_getR cl_10 (q := 23) (k := 0) dX11_hash_20 (Nat.le_of_ble_eq_true rfl) wd_437 (fun _ _ _ => rfl) kt_10_0 k_a0 rfl (fun b5 k6 => ?_)
      refine ok_aload_n (q := 24) dX11_hash_23 rfl rfl ?_
      refine ok_getR cl_10 (q := 27) (k := 2) dX11_hash_24 (Nat.le_of_ble_eq_true rfl) wd_439 (fun _ _ _ => rfl) kt_10_2 k_a0 rfl (fun b7 k8 => ?_)
      refine ok_getR cl_9 (q := 30) (k := 7) dX11_hash_27 (Nat.le_of_ble_eq_true rfl) wd_256 (fun _ _ _ => rfl) kt_9_7 k8 rfl (fun b9 k10 => ?_)
      refine mm_cv (q := 33) (mt_X9_digest G b3 b5 b9 h k4 k6 k10) (mm_runV (as := [.ref b5, .ref b9]) (st := []) cl_8 lk_X11_hash_X9_digest_151 rfl dX11_hash_30 rfl (Nat.le_of_ble_eq_true rfl) k4) rfl (fun h11 p12 => ?_)
      have k13 : mm_kd h11 a0 = 10 := mm_kd_app p12 k_a0 (by decide)
      refine ok_aload_n (q := 34) dX11_hash_33 rfl rfl ?_
      refine ok_getR cl_10 (q := 37) (k := 2) dX11_hash_34 (Nat.le_of_ble_eq_true rfl) wd_439 (fun _ _ _ => rfl) kt_10_2 k13 rfl (fun b14 k15 => ?_)
      refine ok_getR cl_9 (q := 40) (k := 7) dX11_hash_37 (Nat.le_of_ble_eq_true rfl) wd_256 (fun _ _ _ => rfl) kt_9_7 k15 rfl (fun b16 k17 => ?_)
      refine ok_iload_n (q := 41) dX11_hash_40 rfl rfl ?_
      refine mm_ci (q := 44) (mt_X6_at G b16 x1 h11 k17) (mm_runV (as := [.int x1]) (st := []) cl_5 lk_X11_hash_X6_at_122 rfl dX11_hash_41 rfl (Nat.le_of_ble_eq_true rfl) k17) rfl (fun v20 h18 p19 => ?_)
      have k21 : mm_kd h18 a0 = 10 := mm_kd_app p19 k13 (by decide)
      exact ok_iret (t := .int) dX11_hash_44 rfl rfl
    · refine ok_iconst (q := 11) (v := -1) dX11_hash_10 ci_m1 rfl ?_
      exact ok_iret (t := .int) dX11_hash_11 rfl rfl
def bd_X11_about (a0 : Nat) (x1 : Int32) (h : mm_H) : mm_O := if x1 = 0 then
  (mm_gr h a0 0 (fun b2 =>
  some (some (.int (mm_i h b2 1)), h)))
  else
  (if x1 = 1 then
  (some (some (.int (mm_i h a0 3)), h))
  else
  (some (some (.int (-1)), h)))
set_option maxHeartbeats 4000000 in
set_option maxRecDepth 100000 in
theorem mt_X11_about (G : mm_G) (a0 : Nat) (x1 : Int32) (h : mm_H) (k_a0 : mm_kd h a0 = 10) : mm_Met G my_X11_about [.ref a0, .int x1] h (bd_X11_about a0 x1 h) := by
  refine mm_met (ls := [.ref a0, .int x1]) pn_RX11 (Nat.le_of_ble_eq_true rfl) rfl ?_
  unfold bd_X11_about
  refine ok_iload_n (q := 1) dX11_about_0 rfl rfl ?_
  refine mm_sp (fun c1 => ?_) (fun c1 => ?_)
  · refine ok_lookup (q := 28) dX11_about_1 (by decide) (by rw [c1]; rfl) ?_
    refine ok_aload_n (q := 29) dX11_about_28 rfl rfl ?_
    refine ok_getR cl_10 (q := 32) (k := 0) dX11_about_29 (Nat.le_of_ble_eq_true rfl) wd_437 (fun _ _ _ => rfl) kt_10_0 k_a0 rfl (fun b2 k3 => ?_)
    refine ok_getI cl_5 (q := 35) (k := 1) dX11_about_32 (Nat.le_of_ble_eq_true rfl) wd_124 (fun _ _ _ => rfl) k3 rfl ?_
    exact ok_iret (t := .int) dX11_about_35 rfl rfl
  · refine mm_sp (fun c4 => ?_) (fun c4 => ?_)
    · refine ok_lookup (q := 36) dX11_about_1 (by decide) (by rw [c4]; rfl) ?_
      refine ok_aload_n (q := 37) dX11_about_36 rfl rfl ?_
      refine ok_getI cl_10 (q := 40) (k := 3) dX11_about_37 (Nat.le_of_ble_eq_true rfl) wd_440 (fun _ _ _ => rfl) k_a0 rfl ?_
      exact ok_iret (t := .int) dX11_about_40 rfl rfl
    · refine ok_lookup (q := 41) dX11_about_1 (by decide) (by rw [lv_osw c1 (by decide : (0 : Int32).toInt = 0), lv_osw c4 (by decide : (1 : Int32).toInt = 1)]; rfl) ?_
      refine ok_iconst (q := 42) (v := -1) dX11_about_41 ci_m1 rfl ?_
      exact ok_iret (t := .int) dX11_about_42 rfl rfl
def bd_X12_put8 (a0 : Nat) (x1 : Int32) (x2 : Int32) (x3 : Int32) (x4 : Int32) (x5 : Int32) (x6 : Int32) (x7 : Int32) (x8 : Int32) (x9 : Int32) (h : mm_H) : mm_O := mm_gr h a0 30 (fun b1 =>
  if 32 ≤ b1 ∧ mm_in x1 (mm_ln h b1) = true then (mm_bh (mm_si h b1 (mm_n x1) x2) (fun h4 =>
  mm_gr h4 a0 30 (fun b6 =>
  if 32 ≤ b6 ∧ mm_in (x1 + (1 : Int32)) (mm_ln h4 b6) = true then (mm_bh (mm_si h4 b6 (mm_n (x1 + (1 : Int32))) x3) (fun h9 =>
  mm_gr h9 a0 30 (fun b11 =>
  if 32 ≤ b11 ∧ mm_in (x1 + (2 : Int32)) (mm_ln h9 b11) = true then (mm_bh (mm_si h9 b11 (mm_n (x1 + (2 : Int32))) x4) (fun h14 =>
  mm_gr h14 a0 30 (fun b16 =>
  if 32 ≤ b16 ∧ mm_in (x1 + (3 : Int32)) (mm_ln h14 b16) = true then (mm_bh (mm_si h14 b16 (mm_n (x1 + (3 : Int32))) x5) (fun h19 =>
  mm_gr h19 a0 30 (fun b21 =>
  if 32 ≤ b21 ∧ mm_in (x1 + (4 : Int32)) (mm_ln h19 b21) = true then (mm_bh (mm_si h19 b21 (mm_n (x1 + (4 : Int32))) x6) (fun h24 =>
  mm_gr h24 a0 30 (fun b26 =>
  if 32 ≤ b26 ∧ mm_in (x1 + (5 : Int32)) (mm_ln h24 b26) = true then (mm_bh (mm_si h24 b26 (mm_n (x1 + (5 : Int32))) x7) (fun h29 =>
  mm_gr h29 a0 30 (fun b31 =>
  if 32 ≤ b31 ∧ mm_in (x1 + (6 : Int32)) (mm_ln h29 b31) = true then (mm_bh (mm_si h29 b31 (mm_n (x1 + (6 : Int32))) x8) (fun h34 =>
  mm_gr h34 a0 30 (fun b36 =>
  if 32 ≤ b36 ∧ mm_in (x1 + (7 : Int32)) (mm_ln h34 b36) = true then (mm_bh (mm_si h34 b36 (mm_n (x1 + (7 : Int32))) x9) (fun h39 =>
  some (none, h39))) else none))) else none))) else none))) else none))) else none))) else none))) else none))) else none)
set_option maxHeartbeats 4000000 in
set_option maxRecDepth 100000 in
theorem mt_X12_put8 (G : mm_G) (a0 : Nat) (x1 : Int32) (x2 : Int32) (x3 : Int32) (x4 : Int32) (x5 : Int32) (x6 : Int32) (x7 : Int32) (x8 : Int32) (x9 : Int32) (h : mm_H) (k_a0 : mm_kd h a0 = 11) : mm_Met G my_X12_put8 [.ref a0, .int x1, .int x2, .int x3, .int x4, .int x5, .int x6, .int x7, .int x8, .int x9] h (bd_X12_put8 a0 x1 x2 x3 x4 x5 x6 x7 x8 x9 h) := by
  refine mm_met (ls := [.ref a0, .int x1, .int x2, .int x3, .int x4, .int x5, .int x6, .int x7, .int x8, .int x9]) pn_RX12 (Nat.le_of_ble_eq_true rfl) rfl ?_
  unfold bd_X12_put8
  refine ok_aload_n (q := 1) dX12_put8_0 rfl rfl ?_
  refine ok_getR cl_11 (q := 4) (k := 30) dX12_put8_1 (Nat.le_of_ble_eq_true rfl) wd_1062 (fun _ _ _ => rfl) kt_11_30 k_a0 rfl (fun b1 k2 => ?_)
  refine ok_iload_n (q := 5) dX12_put8_4 rfl rfl ?_
  refine ok_iload_n (q := 6) dX12_put8_5 rfl rfl ?_
  refine mm_ck (fun c3 => ?_)
  refine ok_iast (q := 7) dX12_put8_6 k2 c3.1 c3.2 rfl (bh_ok (fun h4 e5 => ?_))
  have e5 : h4.1 = h.1 := e5
  refine ok_aload_n (q := 8) dX12_put8_7 rfl rfl ?_
  refine ok_getR cl_11 (q := 11) (k := 30) dX12_put8_8 (Nat.le_of_ble_eq_true rfl) wd_1062 (fun _ _ _ => rfl) kt_11_30 (mm_ke e5 k_a0) rfl (fun b6 k7 => ?_)
  refine ok_iload_n (q := 12) dX12_put8_11 rfl rfl ?_
  refine ok_iconst (q := 13) (v := 1) dX12_put8_12 ci_1 rfl ?_
  refine ok_iadd (q := 14) dX12_put8_13 rfl ?_
  refine ok_iload_n (q := 15) dX12_put8_14 rfl rfl ?_
  refine mm_ck (fun c8 => ?_)
  refine ok_iast (q := 16) dX12_put8_15 (mm_ke e5 (mm_ke e5.symm k7)) c8.1 c8.2 rfl (bh_ok (fun h9 e10 => ?_))
  have e10 : h9.1 = h.1 := e10.trans e5
  refine ok_aload_n (q := 17) dX12_put8_16 rfl rfl ?_
  refine ok_getR cl_11 (q := 20) (k := 30) dX12_put8_17 (Nat.le_of_ble_eq_true rfl) wd_1062 (fun _ _ _ => rfl) kt_11_30 (mm_ke e10 k_a0) rfl (fun b11 k12 => ?_)
  refine ok_iload_n (q := 21) dX12_put8_20 rfl rfl ?_
  refine ok_iconst (q := 22) (v := 2) dX12_put8_21 ci_2 rfl ?_
  refine ok_iadd (q := 23) dX12_put8_22 rfl ?_
  refine ok_iload (q := 25) dX12_put8_23 rfl rfl ?_
  refine mm_ck (fun c13 => ?_)
  refine ok_iast (q := 26) dX12_put8_25 (mm_ke e10 (mm_ke e10.symm k12)) c13.1 c13.2 rfl (bh_ok (fun h14 e15 => ?_))
  have e15 : h14.1 = h.1 := e15.trans e10
  refine ok_aload_n (q := 27) dX12_put8_26 rfl rfl ?_
  refine ok_getR cl_11 (q := 30) (k := 30) dX12_put8_27 (Nat.le_of_ble_eq_true rfl) wd_1062 (fun _ _ _ => rfl) kt_11_30 (mm_ke e15 k_a0) rfl (fun b16 k17 => ?_)
  refine ok_iload_n (q := 31) dX12_put8_30 rfl rfl ?_
  refine ok_iconst (q := 32) (v := 3) dX12_put8_31 ci_3 rfl ?_
  refine ok_iadd (q := 33) dX12_put8_32 rfl ?_
  refine ok_iload (q := 35) dX12_put8_33 rfl rfl ?_
  refine mm_ck (fun c18 => ?_)
  refine ok_iast (q := 36) dX12_put8_35 (mm_ke e15 (mm_ke e15.symm k17)) c18.1 c18.2 rfl (bh_ok (fun h19 e20 => ?_))
  have e20 : h19.1 = h.1 := e20.trans e15
  refine ok_aload_n (q := 37) dX12_put8_36 rfl rfl ?_
  refine ok_getR cl_11 (q := 40) (k := 30) dX12_put8_37 (Nat.le_of_ble_eq_true rfl) wd_1062 (fun _ _ _ => rfl) kt_11_30 (mm_ke e20 k_a0) rfl (fun b21 k22 => ?_)
  refine ok_iload_n (q := 41) dX12_put8_40 rfl rfl ?_
  refine ok_iconst (q := 42) (v := 4) dX12_put8_41 ci_4 rfl ?_
  refine ok_iadd (q := 43) dX12_put8_42 rfl ?_
  refine ok_iload (q := 45) dX12_put8_43 rfl rfl ?_
  refine mm_ck (fun c23 => ?_)
  refine ok_iast (q := 46) dX12_put8_45 (mm_ke e20 (mm_ke e20.symm k22)) c23.1 c23.2 rfl (bh_ok (fun h24 e25 => ?_))
  have e25 : h24.1 = h.1 := e25.trans e20
  refine ok_aload_n (q := 47) dX12_put8_46 rfl rfl ?_
  refine ok_getR cl_11 (q := 50) (k := 30) dX12_put8_47 (Nat.le_of_ble_eq_true rfl) wd_1062 (fun _ _ _ => rfl) kt_11_30 (mm_ke e25 k_a0) rfl (fun b26 k27 => ?_)
  refine ok_iload_n (q := 51) dX12_put8_50 rfl rfl ?_
  refine ok_iconst (q := 52) (v := 5) dX12_put8_51 ci_5 rfl ?_
  refine ok_iadd (q := 53) dX12_put8_52 rfl ?_
  refine ok_iload (q := 55) dX12_put8_53 rfl rfl ?_
  refine mm_ck (fun c28 => ?_)
  refine ok_iast (q := 56) dX12_put8_55 (mm_ke e25 (mm_ke e25.symm k27)) c28.1 c28.2 rfl (bh_ok (fun h29 e30 => ?_))
  have e30 : h29.1 = h.1 := e30.trans e25
  refine ok_aload_n (q := 57) dX12_put8_56 rfl rfl ?_
  refine ok_getR cl_11 (q := 60) (k := 30) dX12_put8_57 (Nat.le_of_ble_eq_true rfl) wd_1062 (fun _ _ _ => rfl) kt_11_30 (mm_ke e30 k_a0) rfl (fun b31 k32 => ?_)
  refine ok_iload_n (q := 61) dX12_put8_60 rfl rfl ?_
  refine ok_bipush (q := 63) (v := 6) dX12_put8_61 cb_6 rfl ?_
  refine ok_iadd (q := 64) dX12_put8_63 rfl ?_
  refine ok_iload (q := 66) dX12_put8_64 rfl rfl ?_
  refine mm_ck (fun c33 => ?_)
  refine ok_iast (q := 67) dX12_put8_66 (mm_ke e30 (mm_ke e30.symm k32)) c33.1 c33.2 rfl (bh_ok (fun h34 e35 => ?_))
  have e35 : h34.1 = h.1 := e35.trans e30
  refine ok_aload_n (q := 68) dX12_put8_67 rfl rfl ?_
  refine ok_getR cl_11 (q := 71) (k := 30) dX12_put8_68 (Nat.le_of_ble_eq_true rfl) wd_1062 (fun _ _ _ => rfl) kt_11_30 (mm_ke e35 k_a0) rfl (fun b36 k37 => ?_)
  refine ok_iload_n (q := 72) dX12_put8_71 rfl rfl ?_
  refine ok_bipush (q := 74) (v := 7) dX12_put8_72 cb_7 rfl ?_
  refine ok_iadd (q := 75) dX12_put8_74 rfl ?_
  refine ok_iload (q := 77) dX12_put8_75 rfl rfl ?_
  refine mm_ck (fun c38 => ?_)
  refine ok_iast (q := 78) dX12_put8_77 (mm_ke e35 (mm_ke e35.symm k37)) c38.1 c38.2 rfl (bh_ok (fun h39 e40 => ?_))
  have e40 : h39.1 = h.1 := e40.trans e35
  exact ok_ret dX12_put8_78 rfl
