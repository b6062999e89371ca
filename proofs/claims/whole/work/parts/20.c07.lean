def bd_X6_same (a0 : Nat) (a1 : Nat) (h : mm_H) : mm_O := if (mm_i h a0 1) = (mm_i h a1 1) then
  (mm_qi (bd_X6_hasAt a0 0 a1 h) (fun v3 h1 =>
  if v3 = 0 then
  (some (some (.int 0), h1))
  else
  (some (some (.int 1), h1))))
  else
  (some (some (.int 0), h))
set_option maxHeartbeats 4000000 in
set_option maxRecDepth 100000 in
theorem mt_X6_same (G : mm_G) (a0 : Nat) (a1 : Nat) (h : mm_H) (k_a0 : mm_kd h a0 = 5) (k_a1 : mm_kd h a1 = 5) : mm_Met G my_X6_same [.ref a0, .ref a1] h (bd_X6_same a0 a1 h) := by
  refine mm_met (ls := [.ref a0, .ref a1]) pn_RX6 (Nat.le_of_ble_eq_true rfl) rfl ?_
  unfold bd_X6_same
  refine ok_aload_n (q := 1) dX6_same_0 rfl rfl ?_
  refine ok_getI cl_5 (q := 4) (k := 1) dX6_same_1 (Nat.le_of_ble_eq_true rfl) wd_122 (fun _ _ _ => rfl) k_a0 rfl ?_
  refine ok_aload_n (q := 5) dX6_same_4 rfl rfl ?_
  refine ok_getI cl_5 (q := 8) (k := 1) dX6_same_5 (Nat.le_of_ble_eq_true rfl) wd_122 (fun _ _ _ => rfl) k_a1 rfl ?_
  refine ok_icmp_ne (q := 11) (t := 24) dX6_same_8 rfl rfl ?_ ?_
  · refine ok_iconst (q := 25) (v := 0) dX6_same_24 ci_0 rfl ?_
    exact ok_iret (t := .boolean) dX6_same_25 rfl (by decide)
  · refine ok_aload_n (q := 12) dX6_same_11 rfl rfl ?_
    refine ok_iconst (q := 13) (v := 0) dX6_same_12 ci_0 rfl ?_
    refine ok_aload_n (q := 14) dX6_same_13 rfl rfl ?_
    refine mm_ci (q := 17) (mt_X6_hasAt G a0 0 a1 h k_a0 k_a1) (mm_runV (as := [.int 0, .ref a1]) (st := []) cl_5 lk_X6_same_X6_hasAt_43 rfl dX6_same_14 rfl (Nat.le_of_ble_eq_true rfl) k_a0) rfl (fun v3 h1 p2 => ?_)
    have k4 : mm_kd h1 a0 = 5 := mm_kd_app p2 k_a0 (by decide)
    have k5 : mm_kd h1 a1 = 5 := mm_kd_app p2 k_a1 (by decide)
    refine ok_if_eq (q := 20) (t := 24) dX6_same_17 rfl rfl ?_ ?_
    · refine ok_iconst (q := 25) (v := 0) dX6_same_24 ci_0 rfl ?_
      exact ok_iret (t := .boolean) dX6_same_25 rfl (by decide)
    · refine ok_iconst (q := 21) (v := 1) dX6_same_20 ci_1 rfl ?_
      refine ok_goto (q := 25) dX6_same_21 rfl ?_
      exact ok_iret (t := .boolean) dX6_same_25 rfl (by decide)
def bd_X0_lookAtClientHello (a0 : Nat) (a1 : Nat) (h : mm_H) : mm_O := mm_gr h a0 6 (fun b1 =>
  mm_gr h b1 10 (fun b3 =>
  mm_qi (bd_X3_findName a1 b3 h) (fun v7 h5 =>
  if v7 = 0 then
  (some (some (.int 47), h5))
  else
  (mm_gr h5 a0 6 (fun b10 =>
  mm_gr h5 b10 9 (fun b12 =>
  mm_qv (bd_X3_findRandom a1 b12 h5) (fun h14 =>
  mm_gr h14 a0 6 (fun b18 =>
  mm_gr h14 b18 6 (fun b20 =>
  mm_gr h14 a0 6 (fun b22 =>
  mm_gr h14 b22 9 (fun b24 =>
  mm_gr h14 a0 6 (fun b26 =>
  mm_gr h14 b26 10 (fun b28 =>
  mm_qv (bd_X3_putClientHello b20 b24 b28 h14) (fun h30 =>
  mm_gr h30 a0 6 (fun b34 =>
  mm_gr h30 b34 6 (fun b36 =>
  mm_qv (bd_X6_putAll b36 6 h30) (fun h39 =>
  mm_gr h39 a0 6 (fun b43 =>
  mm_gr h39 b43 6 (fun b45 =>
  mm_qi (bd_X6_hasAt a1 0 b45 h39) (fun v49 h47 =>
  if v49 = 0 then
  (some (some (.int 47), h47))
  else
  (mm_gr h47 a0 9 (fun b52 =>
  mm_gr h47 a0 6 (fun b54 =>
  mm_gr h47 b54 10 (fun b56 =>
  mm_qi (bd_X6_same b52 b56 h47) (fun v60 h58 =>
  if v60 = 0 then
  (some (some (.int 115), h58))
  else
  (some (some (.int 0), h58)))))))))))))))))))))))))))
set_option maxHeartbeats 4000000 in
set_option maxRecDepth 100000 in
theorem mt_X0_lookAtClientHello (G : mm_G) (a0 : Nat) (a1 : Nat) (h : mm_H) (k_a0 : mm_kd h a0 = 0) (k_a1 : mm_kd h a1 = 5) : mm_Met G my_X0_lookAtClientHello [.ref a0, .ref a1] h (bd_X0_lookAtClientHello a0 a1 h) := by
  refine mm_met (ls := [.ref a0, .ref a1]) pn_RX0 (Nat.le_of_ble_eq_true rfl) rfl ?_
  unfold bd_X0_lookAtClientHello
  refine ok_aload_n (q := 1) dX0_lookAtClientHello_0 rfl rfl ?_
  refine ok_aload_n (q := 2) dX0_lookAtClientHello_1 rfl rfl ?_
  refine ok_getR cl_0 (q := 5) (k := 6) dX0_lookAtClientHello_2 (Nat.le_of_ble_eq_true rfl) wd_388 (fun _ _ _ => rfl) kt_0_6 k_a0 rfl (fun b1 k2 => ?_)
  refine ok_getR cl_9 (q := 8) (k := 10) dX0_lookAtClientHello_5 (Nat.le_of_ble_eq_true rfl) wd_263 (fun _ _ _ => rfl) kt_9_10 k2 rfl (fun b3 k4 => ?_)
  refine mm_ci (q := 11) (mt_X3_findName G a1 b3 h k_a1 k4) (mm_runS (as := [.ref a1, .ref b3]) (st := []) lk_X0_lookAtClientHello_X3_findName_286 dX0_lookAtClientHello_8 rfl (Nat.le_of_ble_eq_true rfl)) rfl (fun v7 h5 p6 => ?_)
  have k8 : mm_kd h5 a0 = 0 := mm_kd_app p6 k_a0 (by decide)
  have k9 : mm_kd h5 a1 = 5 := mm_kd_app p6 k_a1 (by decide)
  refine ok_if_ne (q := 14) (t := 17) dX0_lookAtClientHello_11 rfl rfl ?_ ?_
  · refine ok_aload_n (q := 18) dX0_lookAtClientHello_17 rfl rfl ?_
    refine ok_aload_n (q := 19) dX0_lookAtClientHello_18 rfl rfl ?_
    refine ok_getR cl_0 (q := 22) (k := 6) dX0_lookAtClientHello_19 (Nat.le_of_ble_eq_true rfl) wd_388 (fun _ _ _ => rfl) kt_0_6 k8 rfl (fun b10 k11 => ?_)
    refine ok_getR cl_9 (q := 25) (k := 9) dX0_lookAtClientHello_22 (Nat.le_of_ble_eq_true rfl) wd_261 (fun _ _ _ => rfl) kt_9_9 k11 rfl (fun b12 k13 => ?_)
    refine mm_cv (q := 28) (mt_X3_findRandom G a1 b12 h5 k9 k13) (mm_runS (as := [.ref a1, .ref b12]) (st := []) lk_X0_lookAtClientHello_X3_findRandom_264 dX0_lookAtClientHello_25 rfl (Nat.le_of_ble_eq_true rfl)) rfl (fun h14 p15 => ?_)
    have k16 : mm_kd h14 a0 = 0 := mm_kd_app p15 k8 (by decide)
    have k17 : mm_kd h14 a1 = 5 := mm_kd_app p15 k9 (by decide)
    refine ok_aload_n (q := 29) dX0_lookAtClientHello_28 rfl rfl ?_
    refine ok_getR cl_0 (q := 32) (k := 6) dX0_lookAtClientHello_29 (Nat.le_of_ble_eq_true rfl) wd_388 (fun _ _ _ => rfl) kt_0_6 k16 rfl (fun b18 k19 => ?_)
    refine ok_getR cl_9 (q := 35) (k := 6) dX0_lookAtClientHello_32 (Nat.le_of_ble_eq_true rfl) wd_254 (fun _ _ _ => rfl) kt_9_6 k19 rfl (fun b20 k21 => ?_)
    refine ok_aload_n (q := 36) dX0_lookAtClientHello_35 rfl rfl ?_
    refine ok_getR cl_0 (q := 39) (k := 6) dX0_lookAtClientHello_36 (Nat.le_of_ble_eq_true rfl) wd_388 (fun _ _ _ => rfl) kt_0_6 k16 rfl (fun b22 k23 => ?_)
    refine ok_getR cl_9 (q := 42) (k := 9) dX0_lookAtClientHello_39 (Nat.le_of_ble_eq_true rfl) wd_261 (fun _ _ _ => rfl) kt_9_9 k23 rfl (fun b24 k25 => ?_)
    refine ok_aload_n (q := 43) dX0_lookAtClientHello_42 rfl rfl ?_
    refine ok_getR cl_0 (q := 46) (k := 6) dX0_lookAtClientHello_43 (Nat.le_of_ble_eq_true rfl) wd_388 (fun _ _ _ => rfl) kt_0_6 k16 rfl (fun b26 k27 => ?_)
    refine ok_getR cl_9 (q := 49) (k := 10) dX0_lookAtClientHello_46 (Nat.le_of_ble_eq_true rfl) wd_263 (fun _ _ _ => rfl) kt_9_10 k27 rfl (fun b28 k29 => ?_)
    refine mm_cv (q := 52) (mt_X3_putClientHello G b20 b24 b28 h14 k21 k25 k29) (mm_runS (as := [.ref b20, .ref b24, .ref b28]) (st := []) lk_X0_lookAtClientHello_X3_putClientHello_117 dX0_lookAtClientHello_49 rfl (Nat.le_of_ble_eq_true rfl)) rfl (fun h30 p31 => ?_)
    have k32 : mm_kd h30 a0 = 0 := mm_kd_app p31 k16 (by decide)
    have k33 : mm_kd h30 a1 = 5 := mm_kd_app p31 k17 (by decide)
    refine ok_aload_n (q := 53) dX0_lookAtClientHello_52 rfl rfl ?_
    refine ok_getR cl_0 (q := 56) (k := 6) dX0_lookAtClientHello_53 (Nat.le_of_ble_eq_true rfl) wd_388 (fun _ _ _ => rfl) kt_0_6 k32 rfl (fun b34 k35 => ?_)
    refine ok_getR cl_9 (q := 59) (k := 6) dX0_lookAtClientHello_56 (Nat.le_of_ble_eq_true rfl) wd_254 (fun _ _ _ => rfl) kt_9_6 k35 rfl (fun b36 k37 => ?_)
    refine ok_gets (q := 62) (a := 6) (by decide +kernel) dX0_lookAtClientHello_59 wd_631 (by decide) rfl (fun k38 => ?_)
    refine mm_cv (q := 65) (mt_X6_putAll G b36 6 h30 k37 k38) (mm_runV (as := [.ref 6]) (st := []) cl_5 lk_X0_lookAtClientHello_X6_putAll_133 rfl dX0_lookAtClientHello_62 rfl (Nat.le_of_ble_eq_true rfl) k37) rfl (fun h39 p40 => ?_)
    have k41 : mm_kd h39 a0 = 0 := mm_kd_app p40 k32 (by decide)
    have k42 : mm_kd h39 a1 = 5 := mm_kd_app p40 k33 (by decide)
    refine ok_aload_n (q := 66) dX0_lookAtClientHello_65 rfl rfl ?_
    refine ok_iconst (q := 67) (v := 0) dX0_lookAtClientHello_66 ci_0 rfl ?_
    refine ok_aload_n (q := 68) dX0_lookAtClientHello_67 rfl rfl ?_
    refine ok_getR cl_0 (q := 71) (k := 6) dX0_lookAtClientHello_68 (Nat.le_of_ble_eq_true rfl) wd_388 (fun _ _ _ => rfl) kt_0_6 k41 rfl (fun b43 k44 => ?_)
    refine ok_getR cl_9 (q := 74) (k := 6) dX0_lookAtClientHello_71 (Nat.le_of_ble_eq_true rfl) wd_254 (fun _ _ _ => rfl) kt_9_6 k44 rfl (fun b45 k46 => ?_)
    refine mm_ci (q := 77) (mt_X6_hasAt G a1 0 b45 h39 k42 k46) (mm_runV (as := [.int 0, .ref b45]) (st := []) cl_5 lk_X0_lookAtClientHello_X6_hasAt_290 rfl dX0_lookAtClientHello_74 rfl (Nat.le_of_ble_eq_true rfl) k42) rfl (fun v49 h47 p48 => ?_)
    have k50 : mm_kd h47 a0 = 0 := mm_kd_app p48 k41 (by decide)
    have k51 : mm_kd h47 a1 = 5 := mm_kd_app p48 k42 (by decide)
    refine ok_if_ne (q := 80) (t := 83) dX0_lookAtClientHello_77 rfl rfl ?_ ?_
    · refine ok_aload_n (q := 84) dX0_lookAtClientHello_83 rfl rfl ?_
      refine ok_getR cl_0 (q := 87) (k := 9) dX0_lookAtClientHello_84 (Nat.le_of_ble_eq_true rfl) wd_391 (fun _ _ _ => rfl) kt_0_9 k50 rfl (fun b52 k53 => ?_)
      refine ok_aload_n (q := 88) dX0_lookAtClientHello_87 rfl rfl ?_
      refine ok_getR cl_0 (q := 91) (k := 6) dX0_lookAtClientHello_88 (Nat.le_of_ble_eq_true rfl) wd_388 (fun _ _ _ => rfl) kt_0_6 k50 rfl (fun b54 k55 => ?_)
      refine ok_getR cl_9 (q := 94) (k := 10) dX0_lookAtClientHello_91 (Nat.le_of_ble_eq_true rfl) wd_263 (fun _ _ _ => rfl) kt_9_10 k55 rfl (fun b56 k57 => ?_)
      refine mm_ci (q := 97) (mt_X6_same G b52 b56 h47 k53 k57) (mm_runV (as := [.ref b56]) (st := []) cl_5 lk_X0_lookAtClientHello_X6_same_274 rfl dX0_lookAtClientHello_94 rfl (Nat.le_of_ble_eq_true rfl) k53) rfl (fun v60 h58 p59 => ?_)
      have k61 : mm_kd h58 a0 = 0 := mm_kd_app p59 k50 (by decide)
      have k62 : mm_kd h58 a1 = 5 := mm_kd_app p59 k51 (by decide)
      refine ok_if_eq (q := 100) (t := 104) dX0_lookAtClientHello_97 rfl rfl ?_ ?_
      · refine ok_bipush (q := 106) (v := 115) dX0_lookAtClientHello_104 cb_115 rfl ?_
        exact ok_iret (t := .int) dX0_lookAtClientHello_106 rfl rfl
      · refine ok_iconst (q := 101) (v := 0) dX0_lookAtClientHello_100 ci_0 rfl ?_
        refine ok_goto (q := 106) dX0_lookAtClientHello_101 rfl ?_
        exact ok_iret (t := .int) dX0_lookAtClientHello_106 rfl rfl
    · refine ok_bipush (q := 82) (v := 47) dX0_lookAtClientHello_80 cb_47 rfl ?_
      exact ok_iret (t := .int) dX0_lookAtClientHello_82 rfl rfl
  · refine ok_bipush (q := 16) (v := 47) dX0_lookAtClientHello_14 cb_47 rfl ?_
    exact ok_iret (t := .int) dX0_lookAtClientHello_16 rfl rfl
def bd_X0_lookAtUpdate (a0 : Nat) (h : mm_H) : mm_O := if (mm_i h a0 1) = (5 : Int32) then
  (mm_qi (bd_X6_at a0 4 h) (fun v3 h1 =>
  if v3 ≤ (1 : Int32) then
  (some (some (.int 0), h1))
  else
  (some (some (.int 47), h1))))
  else
  (some (some (.int 50), h))
set_option maxHeartbeats 4000000 in
set_option maxRecDepth 100000 in
theorem mt_X0_lookAtUpdate (G : mm_G) (a0 : Nat) (h : mm_H) (k_a0 : mm_kd h a0 = 5) : mm_Met G my_X0_lookAtUpdate [.ref a0] h (bd_X0_lookAtUpdate a0 h) := by
  refine mm_met (ls := [.ref a0]) pn_RX0 (Nat.le_of_ble_eq_true rfl) rfl ?_
  unfold bd_X0_lookAtUpdate
  refine ok_aload_n (q := 1) dX0_lookAtUpdate_0 rfl rfl ?_
  refine ok_getI cl_5 (q := 4) (k := 1) dX0_lookAtUpdate_1 (Nat.le_of_ble_eq_true rfl) wd_128 (fun _ _ _ => rfl) k_a0 rfl ?_
  refine ok_iconst (q := 5) (v := 5) dX0_lookAtUpdate_4 ci_5 rfl ?_
  refine ok_icmp_eq (q := 8) (t := 11) dX0_lookAtUpdate_5 rfl rfl ?_ ?_
  · refine ok_aload_n (q := 12) dX0_lookAtUpdate_11 rfl rfl ?_
    refine ok_iconst (q := 13) (v := 4) dX0_lookAtUpdate_12 ci_4 rfl ?_
    refine mm_ci (q := 16) (mt_X6_at G a0 4 h k_a0) (mm_runV (as := [.int 4]) (st := []) cl_5 lk_X0_lookAtUpdate_X6_at_214 rfl dX0_lookAtUpdate_13 rfl (Nat.le_of_ble_eq_true rfl) k_a0) rfl (fun v3 h1 p2 => ?_)
    have k4 : mm_kd h1 a0 = 5 := mm_kd_app p2 k_a0 (by decide)
    refine ok_iconst (q := 17) (v := 1) dX0_lookAtUpdate_16 ci_1 rfl ?_
    refine ok_icmp_le (q := 20) (t := 25) dX0_lookAtUpdate_17 rfl rfl ?_ ?_
    · refine ok_iconst (q := 26) (v := 0) dX0_lookAtUpdate_25 ci_0 rfl ?_
      exact ok_iret (t := .int) dX0_lookAtUpdate_26 rfl rfl
    · refine ok_bipush (q := 22) (v := 47) dX0_lookAtUpdate_20 cb_47 rfl ?_
      refine ok_goto (q := 26) dX0_lookAtUpdate_22 rfl ?_
      exact ok_iret (t := .int) dX0_lookAtUpdate_26 rfl rfl
  · refine ok_bipush (q := 10) (v := 50) dX0_lookAtUpdate_8 cb_50 rfl ?_
    exact ok_iret (t := .int) dX0_lookAtUpdate_10 rfl rfl
def bd_X0_waitedFor (a0 : Nat) (h : mm_H) : mm_O := if (mm_i h a0 5) = 1 then
  (some (some (.int 2), h))
  else
  (if (mm_i h a0 5) = 2 then
  (some (some (.int 8), h))
  else
  (if (mm_i h a0 5) = 3 then
  (some (some (.int 20), h))
  else
  (if (mm_i h a0 5) = 4 then
  (some (some (.int 1), h))
  else
  (if (mm_i h a0 5) = 5 then
  (some (some (.int 20), h))
  else
  (if (mm_i h a0 5) = 6 then
  (some (some (.int 24), h))
  else
  (some (some (.int 20), h)))))))
set_option maxHeartbeats 4000000 in
set_option maxRecDepth 100000 in
theorem mt_X0_waitedFor (G : mm_G) (a0 : Nat) (h : mm_H) (k_a0 : mm_kd h a0 = 0) : mm_Met G my_X0_waitedFor [.ref a0] h (bd_X0_waitedFor a0 h) := by
  refine mm_met (ls := [.ref a0]) pn_RX0 (Nat.le_of_ble_eq_true rfl) rfl ?_
  unfold bd_X0_waitedFor
  refine ok_aload_n (q := 1) dX0_waitedFor_0 rfl rfl ?_
  refine ok_getI cl_0 (q := 4) (k := 5) dX0_waitedFor_1 (Nat.le_of_ble_eq_true rfl) wd_386 (fun _ _ _ => rfl) k_a0 rfl ?_
  refine mm_sp (fun c1 => ?_) (fun c1 => ?_)
  · refine ok_tableIn (q := 44) dX0_waitedFor_4 (by rw [c1]; decide) (by rw [c1]; decide) (by rw [c1]; rfl) rfl ?_
    refine ok_iconst (q := 45) (v := 2) dX0_waitedFor_44 ci_2 rfl ?_
    exact ok_iret (t := .int) dX0_waitedFor_45 rfl rfl
  · refine mm_sp (fun c2 => ?_) (fun c2 => ?_)
    · refine ok_tableIn (q := 46) dX0_waitedFor_4 (by rw [c2]; decide) (by rw [c2]; decide) (by rw [c2]; rfl) rfl ?_
      refine ok_bipush (q := 48) (v := 8) dX0_waitedFor_46 cb_8 rfl ?_
      exact ok_iret (t := .int) dX0_waitedFor_48 rfl rfl
    · refine mm_sp (fun c3 => ?_) (fun c3 => ?_)
      · refine ok_tableIn (q := 54) dX0_waitedFor_4 (by rw [c3]; decide) (by rw [c3]; decide) (by rw [c3]; rfl) rfl ?_
        refine ok_bipush (q := 56) (v := 20) dX0_waitedFor_54 cb_20 rfl ?_
        exact ok_iret (t := .int) dX0_waitedFor_56 rfl rfl
      · refine mm_sp (fun c4 => ?_) (fun c4 => ?_)
        · refine ok_tableIn (q := 49) dX0_waitedFor_4 (by rw [c4]; decide) (by rw [c4]; decide) (by rw [c4]; rfl) rfl ?_
          refine ok_iconst (q := 50) (v := 1) dX0_waitedFor_49 ci_1 rfl ?_
          exact ok_iret (t := .int) dX0_waitedFor_50 rfl rfl
        · refine mm_sp (fun c5 => ?_) (fun c5 => ?_)
          · refine ok_tableIn (q := 54) dX0_waitedFor_4 (by rw [c5]; decide) (by rw [c5]; decide) (by rw [c5]; rfl) rfl ?_
            refine ok_bipush (q := 56) (v := 20) dX0_waitedFor_54 cb_20 rfl ?_
            exact ok_iret (t := .int) dX0_waitedFor_56 rfl rfl
          · refine mm_sp (fun c6 => ?_) (fun c6 => ?_)
            · refine ok_tableIn (q := 51) dX0_waitedFor_4 (by rw [c6]; decide) (by rw [c6]; decide) (by rw [c6]; rfl) rfl ?_
              refine ok_bipush (q := 53) (v := 24) dX0_waitedFor_51 cb_24 rfl ?_
              exact ok_iret (t := .int) dX0_waitedFor_53 rfl rfl
            · have tc1 := lv_neT c1 (by decide : (1 : Int32).toInt = 1)
              have tc2 := lv_neT c2 (by decide : (2 : Int32).toInt = 2)
              have tc3 := lv_neT c3 (by decide : (3 : Int32).toInt = 3)
              have tc4 := lv_neT c4 (by decide : (4 : Int32).toInt = 4)
              have tc5 := lv_neT c5 (by decide : (5 : Int32).toInt = 5)
              have tc6 := lv_neT c6 (by decide : (6 : Int32).toInt = 6)
              refine ok_tableOut (q := 54) dX0_waitedFor_4 (by omega) rfl ?_
              refine ok_bipush (q := 56) (v := 20) dX0_waitedFor_54 cb_20 rfl ?_
              exact ok_iret (t := .int) dX0_waitedFor_56 rfl rfl
def bd_X3_isWhole (a0 : Nat) (h : mm_H) : mm_O := if (mm_i h a0 1) < (4 : Int32) then
  (some (some (.int 0), h))
  else
  (mm_qi (bd_X6_at a0 1 h) (fun v3 h1 =>
  if v3 = 0 then
  (mm_qi (bd_X6_twoAt a0 2 h1) (fun v7 h5 =>
  if v7 = ((mm_i h5 a0 1) - (4 : Int32)) then
  (some (some (.int 1), h5))
  else
  (some (some (.int 0), h5))))
  else
  (some (some (.int 0), h1))))
set_option maxHeartbeats 4000000 in
set_option maxRecDepth 100000 in
theorem mt_X3_isWhole (G : mm_G) (a0 : Nat) (h : mm_H) (k_a0 : mm_kd h a0 = 5) : mm_Met G my_X3_isWhole [.ref a0] h (bd_X3_isWhole a0 h) := by
  refine mm_met (ls := [.ref a0]) pn_RX3 (Nat.le_of_ble_eq_true rfl) rfl ?_
  unfold bd_X3_isWhole
  refine ok_aload_n (q := 1) dX3_isWhole_0 rfl rfl ?_
  refine ok_getI cl_5 (q := 4) (k := 1) dX3_isWhole_1 (Nat.le_of_ble_eq_true rfl) wd_129 (fun _ _ _ => rfl) k_a0 rfl ?_
  refine ok_iconst (q := 5) (v := 4) dX3_isWhole_4 ci_4 rfl ?_
  refine ok_icmp_lt (q := 8) (t := 34) dX3_isWhole_5 rfl rfl ?_ ?_
  · refine ok_iconst (q := 35) (v := 0) dX3_isWhole_34 ci_0 rfl ?_
    exact ok_iret (t := .boolean) dX3_isWhole_35 rfl (by decide)
  · refine ok_aload_n (q := 9) dX3_isWhole_8 rfl rfl ?_
    refine ok_iconst (q := 10) (v := 1) dX3_isWhole_9 ci_1 rfl ?_
    refine mm_ci (q := 13) (mt_X6_at G a0 1 h k_a0) (mm_runV (as := [.int 1]) (st := []) cl_5 lk_X3_isWhole_X6_at_57 rfl dX3_isWhole_10 rfl (Nat.le_of_ble_eq_true rfl) k_a0) rfl (fun v3 h1 p2 => ?_)
    have k4 : mm_kd h1 a0 = 5 := mm_kd_app p2 k_a0 (by decide)
    refine ok_if_ne (q := 16) (t := 34) dX3_isWhole_13 rfl rfl ?_ ?_
    · refine ok_iconst (q := 35) (v := 0) dX3_isWhole_34 ci_0 rfl ?_
      exact ok_iret (t := .boolean) dX3_isWhole_35 rfl (by decide)
    · refine ok_aload_n (q := 17) dX3_isWhole_16 rfl rfl ?_
      refine ok_iconst (q := 18) (v := 2) dX3_isWhole_17 ci_2 rfl ?_
      refine mm_ci (q := 21) (mt_X6_twoAt G a0 2 h1 k4) (mm_runV (as := [.int 2]) (st := []) cl_5 lk_X3_isWhole_X6_twoAt_50 rfl dX3_isWhole_18 rfl (Nat.le_of_ble_eq_true rfl) k4) rfl (fun v7 h5 p6 => ?_)
      have k8 : mm_kd h5 a0 = 5 := mm_kd_app p6 k4 (by decide)
      refine ok_aload_n (q := 22) dX3_isWhole_21 rfl rfl ?_
      refine ok_getI cl_5 (q := 25) (k := 1) dX3_isWhole_22 (Nat.le_of_ble_eq_true rfl) wd_129 (fun _ _ _ => rfl) k8 rfl ?_
      refine ok_iconst (q := 26) (v := 4) dX3_isWhole_25 ci_4 rfl ?_
      refine ok_isub (q := 27) dX3_isWhole_26 rfl ?_
      refine ok_icmp_ne (q := 30) (t := 34) dX3_isWhole_27 rfl rfl ?_ ?_
      · refine ok_iconst (q := 35) (v := 0) dX3_isWhole_34 ci_0 rfl ?_
        exact ok_iret (t := .boolean) dX3_isWhole_35 rfl (by decide)
      · refine ok_iconst (q := 31) (v := 1) dX3_isWhole_30 ci_1 rfl ?_
        refine ok_goto (q := 35) dX3_isWhole_31 rfl ?_
        exact ok_iret (t := .boolean) dX3_isWhole_35 rfl (by decide)
def bd_X0_lookAtMessage (a0 : Nat) (a1 : Nat) (h : mm_H) : mm_O := mm_qi (bd_X3_isWhole a1 h) (fun v3 h1 =>
  if v3 = 0 then
  (some (some (.int 50), h1))
  else
  (mm_qi (bd_X6_at a1 0 h1) (fun v8 h6 =>
  mm_bh (mm_si h6 a0 13 v8) (fun h11 =>
  mm_qi (bd_X0_waitedFor a0 h11) (fun v15 h13 =>
  if (mm_i h11 a0 13) = v15 then
  (if (mm_i h13 a0 13) = 1 then
  (mm_qi (bd_X0_lookAtClientHello a0 a1 h13) (fun v21 h19 =>
  some (some (.int v21), h19)))
  else
  (if (mm_i h13 a0 13) = 2 then
  (mm_gr h13 a0 6 (fun b25 =>
  mm_gr h13 b25 9 (fun b27 =>
  mm_qv (bd_X3_findRandom a1 b27 h13) (fun h29 =>
  mm_gr h29 a0 6 (fun b33 =>
  mm_gr h29 b33 6 (fun b35 =>
  mm_gr h29 a0 6 (fun b37 =>
  mm_gr h29 b37 9 (fun b39 =>
  mm_qv (bd_X3_putServerHello b35 b39 h29) (fun h41 =>
  mm_gr h41 a0 6 (fun b45 =>
  mm_gr h41 b45 6 (fun b47 =>
  mm_qi (bd_X6_same a1 b47 h41) (fun v51 h49 =>
  if v51 = 0 then
  (some (some (.int 47), h49))
  else
  (some (some (.int 0), h49))))))))))))))
  else
  (if (mm_i h13 a0 13) = 8 then
  (mm_gr h13 a0 6 (fun b55 =>
  mm_gr h13 b55 6 (fun b57 =>
  mm_qv (bd_X3_putExtensions b57 h13) (fun h59 =>
  mm_gr h59 a0 6 (fun b63 =>
  mm_gr h59 b63 6 (fun b65 =>
  mm_qi (bd_X6_same a1 b65 h59) (fun v69 h67 =>
  if v69 = 0 then
  (some (some (.int 47), h67))
  else
  (some (some (.int 0), h67)))))))))
  else
  (if (mm_i h13 a0 13) = 20 then
  (if (mm_i h13 a1 1) = (36 : Int32) then
  (some (some (.int 0), h13))
  else
  (some (some (.int 50), h13)))
  else
  (mm_qi (bd_X0_lookAtUpdate a1 h13) (fun v75 h73 =>
  some (some (.int v75), h73)))))))
  else
  (some (some (.int 10), h13)))))))
set_option maxHeartbeats 4000000 in
set_option maxRecDepth 100000 in
theorem mt_X0_lookAtMessage (G : mm_G) (a0 : Nat) (a1 : Nat) (h : mm_H) (k_a0 : mm_kd h a0 = 0) (k_a1 : mm_kd h a1 = 5) : mm_Met G my_X0_lookAtMessage [.ref a0, .ref a1] h (bd_X0_lookAtMessage a0 a1 h) := by
  refine mm_met (ls := [.ref a0, .ref a1]) pn_RX0 (Nat.le_of_ble_eq_true rfl) rfl ?_
  unfold bd_X0_lookAtMessage
  refine ok_aload_n (q := 1) dX0_lookAtMessage_0 rfl rfl ?_
  refine mm_ci (q := 4) (mt_X3_isWhole G a1 h k_a1) (mm_runS (as := [.ref a1]) (st := []) lk_X0_lookAtMessage_X3_isWhole_252 dX0_lookAtMessage_1 rfl (Nat.le_of_ble_eq_true rfl)) rfl (fun v3 h1 p2 => ?_)
  have k4 : mm_kd h1 a0 = 0 := mm_kd_app p2 k_a0 (by decide)
  have k5 : mm_kd h1 a1 = 5 := mm_kd_app p2 k_a1 (by decide)
  refine ok_if_ne (q := 7) (t := 10) dX0_lookAtMessage_4 rfl rfl ?_ ?_
  · refine ok_aload_n (q := 11) dX0_lookAtMessage_10 rfl rfl ?_
    refine ok_aload_n (q := 12) dX0_lookAtMessage_11 rfl rfl ?_
    refine ok_iconst (q := 13) (v := 0) dX0_lookAtMessage_12 ci_0 rfl ?_
    refine mm_ci (q := 16) (mt_X6_at G a1 0 h1 k5) (mm_runV (as := [.int 0]) (st := [.ref a0]) cl_5 lk_X0_lookAtMessage_X6_at_214 rfl dX0_lookAtMessage_13 rfl (Nat.le_of_ble_eq_true rfl) k5) rfl (fun v8 h6 p7 => ?_)
    have k9 : mm_kd h6 a0 = 0 := mm_kd_app p7 k4 (by decide)
    have k10 : mm_kd h6 a1 = 5 := mm_kd_app p7 k5 (by decide)
    refine ok_putI cl_0 (q := 19) (k := 13) dX0_lookAtMessage_16 (Nat.le_of_ble_eq_true rfl) wd_395 (Or.inl rfl) (fun _ _ _ => rfl) rfl rfl k9 rfl (bh_ok (fun h11 e12 => ?_))
    have e12 : h11.1 = h6.1 := e12
    refine ok_aload_n (q := 20) dX0_lookAtMessage_19 rfl rfl ?_
    refine ok_getI cl_0 (q := 23) (k := 13) dX0_lookAtMessage_20 (Nat.le_of_ble_eq_true rfl) wd_395 (fun _ _ _ => rfl) (mm_ke e12 k9) rfl ?_
    refine ok_aload_n (q := 24) dX0_lookAtMessage_23 rfl rfl ?_
    refine mm_ci (q := 27) (mt_X0_waitedFor G a0 h11 (mm_ke e12 k9)) (mm_runV (as := []) (st := [.int (mm_i h11 a0 13)]) cl_0 lk_X0_lookAtMessage_X0_waitedFor_255 rfl dX0_lookAtMessage_24 rfl (Nat.le_of_ble_eq_true rfl) (mm_ke e12 k9)) rfl (fun v15 h13 p14 => ?_)
    have k16 : mm_kd h13 a0 = 0 := mm_kd_app p14 (mm_ke e12 k9) (by decide)
    have k17 : mm_kd h13 a1 = 5 := mm_kd_app p14 (mm_ke e12 k10) (by decide)
    refine ok_icmp_eq (q := 30) (t := 33) dX0_lookAtMessage_27 rfl rfl ?_ ?_
    · refine ok_aload_n (q := 34) dX0_lookAtMessage_33 rfl rfl ?_
      refine ok_getI cl_0 (q := 37) (k := 13) dX0_lookAtMessage_34 (Nat.le_of_ble_eq_true rfl) wd_395 (fun _ _ _ => rfl) k16 rfl ?_
      refine mm_sp (fun c18 => ?_) (fun c18 => ?_)
      · refine ok_lookup (q := 80) dX0_lookAtMessage_37 (by decide) (by rw [c18]; rfl) ?_
        refine ok_aload_n (q := 81) dX0_lookAtMessage_80 rfl rfl ?_
        refine ok_aload_n (q := 82) dX0_lookAtMessage_81 rfl rfl ?_
        refine mm_ci (q := 85) (mt_X0_lookAtClientHello G a0 a1 h13 k16 k17) (mm_runV (as := [.ref a1]) (st := []) cl_0 lk_X0_lookAtMessage_X0_lookAtClientHello_258 rfl dX0_lookAtMessage_82 rfl (Nat.le_of_ble_eq_true rfl) k16) rfl (fun v21 h19 p20 => ?_)
        have k22 : mm_kd h19 a0 = 0 := mm_kd_app p20 k16 (by decide)
        have k23 : mm_kd h19 a1 = 5 := mm_kd_app p20 k17 (by decide)
        exact ok_iret (t := .int) dX0_lookAtMessage_85 rfl rfl
      · refine mm_sp (fun c24 => ?_) (fun c24 => ?_)
        · refine ok_lookup (q := 86) dX0_lookAtMessage_37 (by decide) (by rw [c24]; rfl) ?_
          refine ok_aload_n (q := 87) dX0_lookAtMessage_86 rfl rfl ?_
          refine ok_aload_n (q := 88) dX0_lookAtMessage_87 rfl rfl ?_
          refine ok_getR cl_0 (q := 91) (k := 6) dX0_lookAtMessage_88 (Nat.le_of_ble_eq_true rfl) wd_388 (fun _ _ _ => rfl) kt_0_6 k16 rfl (fun b25 k26 => ?_)
          refine ok_getR cl_9 (q := 94) (k := 9) dX0_lookAtMessage_91 (Nat.le_of_ble_eq_true rfl) wd_261 (fun _ _ _ => rfl) kt_9_9 k26 rfl (fun b27 k28 => ?_)
          refine mm_cv (q := 97) (mt_X3_findRandom G a1 b27 h13 k17 k28) (mm_runS (as := [.ref a1, .ref b27]) (st := []) lk_X0_lookAtMessage_X3_findRandom_264 dX0_lookAtMessage_94 rfl (Nat.le_of_ble_eq_true rfl)) rfl (fun h29 p30 => ?_)
          have k31 : mm_kd h29 a0 = 0 := mm_kd_app p30 k16 (by decide)
          have k32 : mm_kd h29 a1 = 5 := mm_kd_app p30 k17 (by decide)
          refine ok_aload_n (q := 98) dX0_lookAtMessage_97 rfl rfl ?_
          refine ok_getR cl_0 (q := 101) (k := 6) dX0_lookAtMessage_98 (Nat.le_of_ble_eq_true rfl) wd_388 (fun _ _ _ => rfl) kt_0_6 k31 rfl (fun b33 k34 => ?_)
          refine ok_getR cl_9 (q := 104) (k := 6) dX0_lookAtMessage_101 (Nat.le_of_ble_eq_true rfl) wd_254 (fun _ _ _ => rfl) kt_9_6 k34 rfl (fun b35 k36 => ?_)
          refine ok_aload_n (q := 105) dX0_lookAtMessage_104 rfl rfl ?_
          refine ok_getR cl_0 (q := 108) (k := 6) dX0_lookAtMessage_105 (Nat.le_of_ble_eq_true rfl) wd_388 (fun _ _ _ => rfl) kt_0_6 k31 rfl (fun b37 k38 => ?_)
          refine ok_getR cl_9 (q := 111) (k := 9) dX0_lookAtMessage_108 (Nat.le_of_ble_eq_true rfl) wd_261 (fun _ _ _ => rfl) kt_9_9 k38 rfl (fun b39 k40 => ?_)
          refine mm_cv (q := 114) (mt_X3_putServerHello G b35 b39 h29 k36 k40) (mm_runS (as := [.ref b35, .ref b39]) (st := []) lk_X0_lookAtMessage_X3_putServerHello_271 dX0_lookAtMessage_111 rfl (Nat.le_of_ble_eq_true rfl)) rfl (fun h41 p42 => ?_)
          have k43 : mm_kd h41 a0 = 0 := mm_kd_app p42 k31 (by decide)
          have k44 : mm_kd h41 a1 = 5 := mm_kd_app p42 k32 (by decide)
          refine ok_aload_n (q := 115) dX0_lookAtMessage_114 rfl rfl ?_
          refine ok_aload_n (q := 116) dX0_lookAtMessage_115 rfl rfl ?_
          refine ok_getR cl_0 (q := 119) (k := 6) dX0_lookAtMessage_116 (Nat.le_of_ble_eq_true rfl) wd_388 (fun _ _ _ => rfl) kt_0_6 k43 rfl (fun b45 k46 => ?_)
          refine ok_getR cl_9 (q := 122) (k := 6) dX0_lookAtMessage_119 (Nat.le_of_ble_eq_true rfl) wd_254 (fun _ _ _ => rfl) kt_9_6 k46 rfl (fun b47 k48 => ?_)
          refine mm_ci (q := 125) (mt_X6_same G a1 b47 h41 k44 k48) (mm_runV (as := [.ref b47]) (st := []) cl_5 lk_X0_lookAtMessage_X6_same_274 rfl dX0_lookAtMessage_122 rfl (Nat.le_of_ble_eq_true rfl) k44) rfl (fun v51 h49 p50 => ?_)
          have k52 : mm_kd h49 a0 = 0 := mm_kd_app p50 k43 (by decide)
          have k53 : mm_kd h49 a1 = 5 := mm_kd_app p50 k44 (by decide)
          refine ok_if_eq (q := 128) (t := 132) dX0_lookAtMessage_125 rfl rfl ?_ ?_
          · refine ok_bipush (q := 134) (v := 47) dX0_lookAtMessage_132 cb_47 rfl ?_
            exact ok_iret (t := .int) dX0_lookAtMessage_134 rfl rfl
          · refine ok_iconst (q := 129) (v := 0) dX0_lookAtMessage_128 ci_0 rfl ?_
            refine ok_goto (q := 134) dX0_lookAtMessage_129 rfl ?_
            exact ok_iret (t := .int) dX0_lookAtMessage_134 rfl rfl
        · refine mm_sp (fun c54 => ?_) (fun c54 => ?_)
          · refine ok_lookup (q := 135) dX0_lookAtMessage_37 (by decide) (by rw [c54]; rfl) ?_
            refine ok_aload_n (q := 136) dX0_lookAtMessage_135 rfl rfl ?_
            refine ok_getR cl_0 (q := 139) (k := 6) dX0_lookAtMessage_136 (Nat.le_of_ble_eq_true rfl) wd_388 (fun _ _ _ => rfl) kt_0_6 k16 rfl (fun b55 k56 => ?_)
            refine ok_getR cl_9 (q := 142) (k := 6) dX0_lookAtMessage_139 (Nat.le_of_ble_eq_true rfl) wd_254 (fun _ _ _ => rfl) kt_9_6 k56 rfl (fun b57 k58 => ?_)
            refine mm_cv (q := 145) (mt_X3_putExtensions G b57 h13 k58) (mm_runS (as := [.ref b57]) (st := []) lk_X0_lookAtMessage_X3_putExtensions_277 dX0_lookAtMessage_142 rfl (Nat.le_of_ble_eq_true rfl)) rfl (fun h59 p60 => ?_)
            have k61 : mm_kd h59 a0 = 0 := mm_kd_app p60 k16 (by decide)
            have k62 : mm_kd h59 a1 = 5 := mm_kd_app p60 k17 (by decide)
            refine ok_aload_n (q := 146) dX0_lookAtMessage_145 rfl rfl ?_
            refine ok_aload_n (q := 147) dX0_lookAtMessage_146 rfl rfl ?_
            refine ok_getR cl_0 (q := 150) (k := 6) dX0_lookAtMessage_147 (Nat.le_of_ble_eq_true rfl) wd_388 (fun _ _ _ => rfl) kt_0_6 k61 rfl (fun b63 k64 => ?_)
            refine ok_getR cl_9 (q := 153) (k := 6) dX0_lookAtMessage_150 (Nat.le_of_ble_eq_true rfl) wd_254 (fun _ _ _ => rfl) kt_9_6 k64 rfl (fun b65 k66 => ?_)
            refine mm_ci (q := 156) (mt_X6_same G a1 b65 h59 k62 k66) (mm_runV (as := [.ref b65]) (st := []) cl_5 lk_X0_lookAtMessage_X6_same_274 rfl dX0_lookAtMessage_153 rfl (Nat.le_of_ble_eq_true rfl) k62) rfl (fun v69 h67 p68 => ?_)
            have k70 : mm_kd h67 a0 = 0 := mm_kd_app p68 k61 (by decide)
            have k71 : mm_kd h67 a1 = 5 := mm_kd_app p68 k62 (by decide)
            refine ok_if_eq (q := 159) (t := 163) dX0_lookAtMessage_156 rfl rfl ?_ ?_
            · refine ok_bipush (q := 165) (v := 47) dX0_lookAtMessage_163 cb_47 rfl ?_
              exact ok_iret (t := .int) dX0_lookAtMessage_165 rfl rfl
            · refine ok_iconst (q := 160) (v := 0) dX0_lookAtMessage_159 ci_0 rfl ?_
              refine ok_goto (q := 165) dX0_lookAtMessage_160 rfl ?_
              exact ok_iret (t := .int) dX0_lookAtMessage_165 rfl rfl
          · refine mm_sp (fun c72 => ?_) (fun c72 => ?_)
            · refine ok_lookup (q := 166) dX0_lookAtMessage_37 (by decide) (by rw [c72]; rfl) ?_
              refine ok_aload_n (q := 167) dX0_lookAtMessage_166 rfl rfl ?_
              refine ok_getI cl_5 (q := 170) (k := 1) dX0_lookAtMessage_167 (Nat.le_of_ble_eq_true rfl) wd_128 (fun _ _ _ => rfl) k17 rfl ?_
              refine ok_bipush (q := 172) (v := 36) dX0_lookAtMessage_170 cb_36 rfl ?_
              refine ok_icmp_ne (q := 175) (t := 179) dX0_lookAtMessage_172 rfl rfl ?_ ?_
              · refine ok_bipush (q := 181) (v := 50) dX0_lookAtMessage_179 cb_50 rfl ?_
                exact ok_iret (t := .int) dX0_lookAtMessage_181 rfl rfl
              · refine ok_iconst (q := 176) (v := 0) dX0_lookAtMessage_175 ci_0 rfl ?_
                refine ok_goto (q := 181) dX0_lookAtMessage_176 rfl ?_
                exact ok_iret (t := .int) dX0_lookAtMessage_181 rfl rfl
            · refine ok_lookup (q := 182) dX0_lookAtMessage_37 (by decide) (by rw [lv_osw c18 (by decide : (1 : Int32).toInt = 1), lv_osw c24 (by decide : (2 : Int32).toInt = 2), lv_osw c54 (by decide : (8 : Int32).toInt = 8), lv_osw c72 (by decide : (20 : Int32).toInt = 20)]; rfl) ?_
              refine ok_aload_n (q := 183) dX0_lookAtMessage_182 rfl rfl ?_
              refine mm_ci (q := 186) (mt_X0_lookAtUpdate G a1 h13 k17) (mm_runS (as := [.ref a1]) (st := []) lk_X0_lookAtMessage_X0_lookAtUpdate_280 dX0_lookAtMessage_183 rfl (Nat.le_of_ble_eq_true rfl)) rfl (fun v75 h73 p74 => ?_)
              have k76 : mm_kd h73 a0 = 0 := mm_kd_app p74 k16 (by decide)
              have k77 : mm_kd h73 a1 = 5 := mm_kd_app p74 k17 (by decide)
              exact ok_iret (t := .int) dX0_lookAtMessage_186 rfl rfl
    · refine ok_bipush (q := 32) (v := 10) dX0_lookAtMessage_30 cb_10 rfl ?_
      exact ok_iret (t := .int) dX0_lookAtMessage_32 rfl rfl
  · refine ok_bipush (q := 9) (v := 50) dX0_lookAtMessage_7 cb_50 rfl ?_
    exact ok_iret (t := .int) dX0_lookAtMessage_9 rfl rfl
def bd_X0_lookAtContent (a0 : Nat) (h : mm_H) : mm_O := mm_bh (mm_si h a0 13 0) (fun h1 =>
  if (mm_i h1 a0 12) = 21 then
  (mm_bh (mm_si h1 a0 13 256) (fun h4 =>
  mm_gr h4 a0 6 (fun b6 =>
  mm_gr h4 b6 4 (fun b8 =>
  if (mm_i h4 b8 1) = (2 : Int32) then
  (some (some (.int 0), h4))
  else
  (some (some (.int 50), h4))))))
  else
  (if (mm_i h1 a0 12) = 22 then
  (mm_gr h1 a0 6 (fun b11 =>
  mm_gr h1 b11 4 (fun b13 =>
  mm_qi (bd_X0_lookAtMessage a0 b13 h1) (fun v17 h15 =>
  some (some (.int v17), h15)))))
  else
  (if (mm_i h1 a0 12) = 23 then
  (mm_bh (mm_si h1 a0 13 257) (fun h20 =>
  if (mm_i h20 a0 5) = (6 : Int32) then
  (some (some (.int 0), h20))
  else
  (some (some (.int 10), h20))))
  else
  (if (mm_i h1 a0 12) = 256 then
  (some (some (.int 0), h1))
  else
  (some (some (.int 10), h1))))))
set_option maxHeartbeats 4000000 in
set_option maxRecDepth 100000 in
theorem mt_X0_lookAtContent (G : mm_G) (a0 : Nat) (h : mm_H) (k_a0 : mm_kd h a0 = 0) : mm_Met G my_X0_lookAtContent [.ref a0] h (bd_X0_lookAtContent a0 h) := by
  refine mm_met (ls := [.ref a0]) pn_RX0 (Nat.le_of_ble_eq_true rfl) rfl ?_
  unfold bd_X0_lookAtContent
  refine ok_aload_n (q := 1) dX0_lookAtContent_0 rfl rfl ?_
  refine ok_iconst (q := 2) (v := 0) dX0_lookAtContent_1 ci_0 rfl ?_
  refine ok_putI cl_0 (q := 5) (k := 13) dX0_lookAtContent_2 (Nat.le_of_ble_eq_true rfl) wd_395 (Or.inl rfl) (fun _ _ _ => rfl) rfl rfl k_a0 rfl (bh_ok (fun h1 e2 => ?_))
  have e2 : h1.1 = h.1 := e2
  refine ok_aload_n (q := 6) dX0_lookAtContent_5 rfl rfl ?_
  refine ok_getI cl_0 (q := 9) (k := 12) dX0_lookAtContent_6 (Nat.le_of_ble_eq_true rfl) wd_394 (fun _ _ _ => rfl) (mm_ke e2 k_a0) rfl ?_
  refine mm_sp (fun c3 => ?_) (fun c3 => ?_)
  · refine ok_lookup (q := 54) dX0_lookAtContent_9 (by decide) (by rw [c3]; rfl) ?_
    refine ok_aload_n (q := 55) dX0_lookAtContent_54 rfl rfl ?_
    refine ok_sipush (q := 58) (v := 256) dX0_lookAtContent_55 cs_256 rfl ?_
    refine ok_putI cl_0 (q := 61) (k := 13) dX0_lookAtContent_58 (Nat.le_of_ble_eq_true rfl) wd_395 (Or.inl rfl) (fun _ _ _ => rfl) rfl rfl (mm_ke e2 k_a0) rfl (bh_ok (fun h4 e5 => ?_))
    have e5 : h4.1 = h.1 := e5.trans e2
    refine ok_aload_n (q := 62) dX0_lookAtContent_61 rfl rfl ?_
    refine ok_getR cl_0 (q := 65) (k := 6) dX0_lookAtContent_62 (Nat.le_of_ble_eq_true rfl) wd_388 (fun _ _ _ => rfl) kt_0_6 (mm_ke e5 k_a0) rfl (fun b6 k7 => ?_)
    refine ok_getR cl_9 (q := 68) (k := 4) dX0_lookAtContent_65 (Nat.le_of_ble_eq_true rfl) wd_250 (fun _ _ _ => rfl) kt_9_4 (mm_ke e5 (mm_ke e5.symm k7)) rfl (fun b8 k9 => ?_)
    refine ok_getI cl_5 (q := 71) (k := 1) dX0_lookAtContent_68 (Nat.le_of_ble_eq_true rfl) wd_128 (fun _ _ _ => rfl) (mm_ke e5 (mm_ke e5.symm k9)) rfl ?_
    refine ok_iconst (q := 72) (v := 2) dX0_lookAtContent_71 ci_2 rfl ?_
    refine ok_icmp_ne (q := 75) (t := 79) dX0_lookAtContent_72 rfl rfl ?_ ?_
    · refine ok_bipush (q := 81) (v := 50) dX0_lookAtContent_79 cb_50 rfl ?_
      exact ok_iret (t := .int) dX0_lookAtContent_81 rfl rfl
    · refine ok_iconst (q := 76) (v := 0) dX0_lookAtContent_75 ci_0 rfl ?_
      refine ok_goto (q := 81) dX0_lookAtContent_76 rfl ?_
      exact ok_iret (t := .int) dX0_lookAtContent_81 rfl rfl
  · refine mm_sp (fun c10 => ?_) (fun c10 => ?_)
    · refine ok_lookup (q := 105) dX0_lookAtContent_9 (by decide) (by rw [c10]; rfl) ?_
      refine ok_aload_n (q := 106) dX0_lookAtContent_105 rfl rfl ?_
      refine ok_aload_n (q := 107) dX0_lookAtContent_106 rfl rfl ?_
      refine ok_getR cl_0 (q := 110) (k := 6) dX0_lookAtContent_107 (Nat.le_of_ble_eq_true rfl) wd_388 (fun _ _ _ => rfl) kt_0_6 (mm_ke e2 k_a0) rfl (fun b11 k12 => ?_)
      refine ok_getR cl_9 (q := 113) (k := 4) dX0_lookAtContent_110 (Nat.le_of_ble_eq_true rfl) wd_250 (fun _ _ _ => rfl) kt_9_4 (mm_ke e2 (mm_ke e2.symm k12)) rfl (fun b13 k14 => ?_)
      refine mm_ci (q := 116) (mt_X0_lookAtMessage G a0 b13 h1 (mm_ke e2 k_a0) (mm_ke e2 (mm_ke e2.symm k14))) (mm_runV (as := [.ref b13]) (st := []) cl_0 lk_X0_lookAtContent_X0_lookAtMessage_249 rfl dX0_lookAtContent_113 rfl (Nat.le_of_ble_eq_true rfl) (mm_ke e2 k_a0)) rfl (fun v17 h15 p16 => ?_)
      have k18 : mm_kd h15 a0 = 0 := mm_kd_app p16 (mm_ke e2 k_a0) (by decide)
      exact ok_iret (t := .int) dX0_lookAtContent_116 rfl rfl
    · refine mm_sp (fun c19 => ?_) (fun c19 => ?_)
      · refine ok_lookup (q := 82) dX0_lookAtContent_9 (by decide) (by rw [c19]; rfl) ?_
        refine ok_aload_n (q := 83) dX0_lookAtContent_82 rfl rfl ?_
        refine ok_sipush (q := 86) (v := 257) dX0_lookAtContent_83 cs_257 rfl ?_
        refine ok_putI cl_0 (q := 89) (k := 13) dX0_lookAtContent_86 (Nat.le_of_ble_eq_true rfl) wd_395 (Or.inl rfl) (fun _ _ _ => rfl) rfl rfl (mm_ke e2 k_a0) rfl (bh_ok (fun h20 e21 => ?_))
        have e21 : h20.1 = h.1 := e21.trans e2
        refine ok_aload_n (q := 90) dX0_lookAtContent_89 rfl rfl ?_
        refine ok_getI cl_0 (q := 93) (k := 5) dX0_lookAtContent_90 (Nat.le_of_ble_eq_true rfl) wd_386 (fun _ _ _ => rfl) (mm_ke e21 k_a0) rfl ?_
        refine ok_bipush (q := 95) (v := 6) dX0_lookAtContent_93 cb_6 rfl ?_
        refine ok_icmp_ne (q := 98) (t := 102) dX0_lookAtContent_95 rfl rfl ?_ ?_
        · refine ok_bipush (q := 104) (v := 10) dX0_lookAtContent_102 cb_10 rfl ?_
          exact ok_iret (t := .int) dX0_lookAtContent_104 rfl rfl
        · refine ok_iconst (q := 99) (v := 0) dX0_lookAtContent_98 ci_0 rfl ?_
          refine ok_goto (q := 104) dX0_lookAtContent_99 rfl ?_
          exact ok_iret (t := .int) dX0_lookAtContent_104 rfl rfl
      · refine mm_sp (fun c22 => ?_) (fun c22 => ?_)
        · refine ok_lookup (q := 52) dX0_lookAtContent_9 (by decide) (by rw [c22]; rfl) ?_
          refine ok_iconst (q := 53) (v := 0) dX0_lookAtContent_52 ci_0 rfl ?_
          exact ok_iret (t := .int) dX0_lookAtContent_53 rfl rfl
        · refine ok_lookup (q := 117) dX0_lookAtContent_9 (by decide) (by rw [lv_osw c3 (by decide : (21 : Int32).toInt = 21), lv_osw c10 (by decide : (22 : Int32).toInt = 22), lv_osw c19 (by decide : (23 : Int32).toInt = 23), lv_osw c22 (by decide : (256 : Int32).toInt = 256)]; rfl) ?_
          refine ok_bipush (q := 119) (v := 10) dX0_lookAtContent_117 cb_10 rfl ?_
          exact ok_iret (t := .int) dX0_lookAtContent_119 rfl rfl
def jn_X0_lookAtFrame_37 (a0 : Nat) (x1 : Int32) (s0 : Int32) (s1 : Int32) (h : mm_H) : mm_O := if s1 ≤ s0 then
  (if (mm_i h a0 1) = ((5 : Int32) + x1) then
  (mm_qi (bd_X6_at a0 1 h) (fun v11 h9 =>
  if v11 = (3 : Int32) then
  (mm_qi (bd_X6_at a0 2 h9) (fun v15 h13 =>
  if v15 = (3 : Int32) then
  (some (some (.int 0), h13))
  else
  (some (some (.int 70), h13))))
  else
  (some (some (.int 70), h9))))
  else
  (some (some (.int 50), h)))
  else
  (some (some (.int 22), h))
set_option maxHeartbeats 4000000 in
set_option maxRecDepth 100000 in
theorem oj_X0_lookAtFrame_37 {G : mm_G}   (a0 : Nat) (x1 : Int32) (s0 : Int32) (s1 : Int32) (h : mm_H) (k_a0 : mm_kd h a0 = 5) : mm_Ok G my_X0_lookAtFrame 37 [.ref a0, .int x1] [.int s0, .int s1] h (jn_X0_lookAtFrame_37 a0 x1 s0 s1 h) := by
  unfold jn_X0_lookAtFrame_37
  refine ok_icmp_le (q := 40) (t := 43) dX0_lookAtFrame_37 rfl rfl ?_ ?_
  · refine ok_aload_n (q := 44) dX0_lookAtFrame_43 rfl rfl ?_
    refine ok_getI cl_5 (q := 47) (k := 1) dX0_lookAtFrame_44 (Nat.le_of_ble_eq_true rfl) wd_128 (fun _ _ _ => rfl) k_a0 rfl ?_
    refine ok_iconst (q := 48) (v := 5) dX0_lookAtFrame_47 ci_5 rfl ?_
    refine ok_iload_n (q := 49) dX0_lookAtFrame_48 rfl rfl ?_
    refine ok_iadd (q := 50) dX0_lookAtFrame_49 rfl ?_
    refine ok_icmp_eq (q := 53) (t := 56) dX0_lookAtFrame_50 rfl rfl ?_ ?_
    · refine ok_aload_n (q := 57) dX0_lookAtFrame_56 rfl rfl ?_
      refine ok_iconst (q := 58) (v := 1) dX0_lookAtFrame_57 ci_1 rfl ?_
      refine mm_ci (q := 61) (mt_X6_at G a0 1 h k_a0) (mm_runV (as := [.int 1]) (st := []) cl_5 lk_X0_lookAtFrame_X6_at_214 rfl dX0_lookAtFrame_58 rfl (Nat.le_of_ble_eq_true rfl) k_a0) rfl (fun v11 h9 p10 => ?_)
      have k12 : mm_kd h9 a0 = 5 := mm_kd_app p10 k_a0 (by decide)
      refine ok_iconst (q := 62) (v := 3) dX0_lookAtFrame_61 ci_3 rfl ?_
      refine ok_icmp_ne (q := 65) (t := 78) dX0_lookAtFrame_62 rfl rfl ?_ ?_
      · refine ok_bipush (q := 80) (v := 70) dX0_lookAtFrame_78 cb_70 rfl ?_
        exact ok_iret (t := .int) dX0_lookAtFrame_80 rfl rfl
      · refine ok_aload_n (q := 66) dX0_lookAtFrame_65 rfl rfl ?_
        refine ok_iconst (q := 67) (v := 2) dX0_lookAtFrame_66 ci_2 rfl ?_
        refine mm_ci (q := 70) (mt_X6_at G a0 2 h9 k12) (mm_runV (as := [.int 2]) (st := []) cl_5 lk_X0_lookAtFrame_X6_at_214 rfl dX0_lookAtFrame_67 rfl (Nat.le_of_ble_eq_true rfl) k12) rfl (fun v15 h13 p14 => ?_)
        have k16 : mm_kd h13 a0 = 5 := mm_kd_app p14 k12 (by decide)
        refine ok_iconst (q := 71) (v := 3) dX0_lookAtFrame_70 ci_3 rfl ?_
        refine ok_icmp_ne (q := 74) (t := 78) dX0_lookAtFrame_71 rfl rfl ?_ ?_
        · refine ok_bipush (q := 80) (v := 70) dX0_lookAtFrame_78 cb_70 rfl ?_
          exact ok_iret (t := .int) dX0_lookAtFrame_80 rfl rfl
        · refine ok_iconst (q := 75) (v := 0) dX0_lookAtFrame_74 ci_0 rfl ?_
          refine ok_goto (q := 80) dX0_lookAtFrame_75 rfl ?_
          exact ok_iret (t := .int) dX0_lookAtFrame_80 rfl rfl
    · refine ok_bipush (q := 55) (v := 50) dX0_lookAtFrame_53 cb_50 rfl ?_
      exact ok_iret (t := .int) dX0_lookAtFrame_55 rfl rfl
  · refine ok_bipush (q := 42) (v := 22) dX0_lookAtFrame_40 cb_22 rfl ?_
    exact ok_iret (t := .int) dX0_lookAtFrame_42 rfl rfl
def bd_X0_lookAtFrame (a0 : Nat) (h : mm_H) : mm_O := if (5 : Int32) ≤ (mm_i h a0 1) then
  (mm_qi (bd_X6_twoAt a0 3 h) (fun v3 h1 =>
  mm_qi (bd_X6_at a0 0 h1) (fun v7 h5 =>
  if v7 = (23 : Int32) then
  (jn_X0_lookAtFrame_37 a0 v3 16640 v3 h5)
  else
  (jn_X0_lookAtFrame_37 a0 v3 16384 v3 h5))))
  else
  (some (some (.int 50), h))
set_option maxHeartbeats 4000000 in
set_option maxRecDepth 100000 in
theorem mt_X0_lookAtFrame (G : mm_G) (a0 : Nat) (h : mm_H) (k_a0 : mm_kd h a0 = 5) : mm_Met G my_X0_lookAtFrame [.ref a0] h (bd_X0_lookAtFrame a0 h) := by
  refine mm_met (ls := [.ref a0, mm_U]) pn_RX0 (Nat.le_of_ble_eq_true rfl) rfl ?_
  unfold bd_X0_lookAtFrame
  refine ok_aload_n (q := 1) dX0_lookAtFrame_0 rfl rfl ?_
  refine ok_getI cl_5 (q := 4) (k := 1) dX0_lookAtFrame_1 (Nat.le_of_ble_eq_true rfl) wd_128 (fun _ _ _ => rfl) k_a0 rfl ?_
  refine ok_iconst (q := 5) (v := 5) dX0_lookAtFrame_4 ci_5 rfl ?_
  refine ok_icmp_ge (q := 8) (t := 11) dX0_lookAtFrame_5 rfl rfl ?_ ?_
  · refine ok_aload_n (q := 12) dX0_lookAtFrame_11 rfl rfl ?_
    refine ok_iconst (q := 13) (v := 3) dX0_lookAtFrame_12 ci_3 rfl ?_
    refine mm_ci (q := 16) (mt_X6_twoAt G a0 3 h k_a0) (mm_runV (as := [.int 3]) (st := []) cl_5 lk_X0_lookAtFrame_X6_twoAt_210 rfl dX0_lookAtFrame_13 rfl (Nat.le_of_ble_eq_true rfl) k_a0) rfl (fun v3 h1 p2 => ?_)
    have k4 : mm_kd h1 a0 = 5 := mm_kd_app p2 k_a0 (by decide)
    refine ok_istore_n (q := 17) (ls' := [.ref a0, .int v3]) dX0_lookAtFrame_16 (Nat.le_of_ble_eq_true rfl) rfl rfl ?_
    refine ok_iload_n (q := 18) dX0_lookAtFrame_17 rfl rfl ?_
    refine ok_aload_n (q := 19) dX0_lookAtFrame_18 rfl rfl ?_
    refine ok_iconst (q := 20) (v := 0) dX0_lookAtFrame_19 ci_0 rfl ?_
    refine mm_ci (q := 23) (mt_X6_at G a0 0 h1 k4) (mm_runV (as := [.int 0]) (st := [.int v3]) cl_5 lk_X0_lookAtFrame_X6_at_214 rfl dX0_lookAtFrame_20 rfl (Nat.le_of_ble_eq_true rfl) k4) rfl (fun v7 h5 p6 => ?_)
    have k8 : mm_kd h5 a0 = 5 := mm_kd_app p6 k4 (by decide)
    refine ok_bipush (q := 25) (v := 23) dX0_lookAtFrame_23 cb_23 rfl ?_
    refine ok_icmp_ne (q := 28) (t := 34) dX0_lookAtFrame_25 rfl rfl ?_ ?_
    · refine ok_sipush (q := 37) (v := 16384) dX0_lookAtFrame_34 cs_16384 rfl ?_
      exact oj_X0_lookAtFrame_37 a0 v3 16384 v3 h5 k8
    · refine ok_sipush (q := 31) (v := 16640) dX0_lookAtFrame_28 cs_16640 rfl ?_
      refine ok_goto (q := 37) dX0_lookAtFrame_31 rfl ?_
      exact oj_X0_lookAtFrame_37 a0 v3 16640 v3 h5 k8
  · refine ok_bipush (q := 10) (v := 50) dX0_lookAtFrame_8 cb_50 rfl ?_
    exact ok_iret (t := .int) dX0_lookAtFrame_10 rfl rfl
def bd_X0_takeFinished (a0 : Nat) (h : mm_H) : mm_O := if (mm_i h a0 4) = 0 then
  (mm_gr h a0 11 (fun b1 =>
  mm_gr h a0 6 (fun b3 =>
  mm_gr h b3 4 (fun b5 =>
  mm_qv (bd_X6_append b1 b5 h) (fun h7 =>
  mm_gr h7 a0 7 (fun b10 =>
  mm_gr h7 a0 2 (fun b12 =>
  mm_gr h7 b12 0 (fun b14 =>
  mm_gr h7 a0 11 (fun b16 =>
  mm_gr h7 a0 6 (fun b18 =>
  mm_gr h7 b18 8 (fun b20 =>
  mm_qv (bd_X7_prove b10 b14 b16 b20 h7) (fun h22 =>
  mm_gr h22 a0 6 (fun b25 =>
  mm_gr h22 b25 5 (fun b27 =>
  mm_gr h22 a0 6 (fun b29 =>
  mm_gr h22 b29 8 (fun b31 =>
  mm_qv (bd_X3_putFinished b27 b31 h22) (fun h33 =>
  mm_gr h33 a0 6 (fun b36 =>
  mm_gr h33 b36 5 (fun b38 =>
  mm_qi (bd_X0_send a0 22 b38 h33) (fun v42 h40 =>
  if v42 = 0 then
  (mm_bh (mm_si h40 a0 5 7) (fun h95 =>
  some (none, h95)))
  else
  (mm_gr h40 a0 6 (fun b44 =>
  mm_gr h40 b44 0 (fun b46 =>
  mm_gr h40 a0 11 (fun b48 =>
  mm_gr h40 a0 6 (fun b50 =>
  mm_gr h40 b50 7 (fun b52 =>
  mm_qv (bd_X9_digest b46 b48 b52 h40) (fun h54 =>
  mm_gr h54 a0 3 (fun b57 =>
  mm_gr h54 a0 6 (fun b59 =>
  mm_gr h54 b59 1 (fun b61 =>
  mm_gr h54 a0 7 (fun b63 =>
  mm_gr h54 b63 2 (fun b65 =>
  mm_gr h54 a0 6 (fun b68 =>
  mm_gr h54 b68 7 (fun b70 =>
  mm_qv (bd_X2_load b57 b61 b65 19 b70 h54) (fun h72 =>
  mm_gr h72 a0 2 (fun b75 =>
  mm_gr h72 a0 6 (fun b77 =>
  mm_gr h72 b77 1 (fun b79 =>
  mm_gr h72 a0 7 (fun b81 =>
  mm_gr h72 b81 2 (fun b83 =>
  mm_gr h72 a0 6 (fun b86 =>
  mm_gr h72 b86 7 (fun b88 =>
  mm_qv (bd_X2_load b75 b79 b83 20 b88 h72) (fun h90 =>
  mm_bh (mm_si h90 a0 5 6) (fun h93 =>
  some (none, h93)))))))))))))))))))))))))))))))))))))))))))))
  else
  (mm_gr h a0 6 (fun b97 =>
  mm_gr h b97 0 (fun b99 =>
  mm_gr h a0 11 (fun b101 =>
  mm_gr h a0 6 (fun b103 =>
  mm_gr h b103 7 (fun b105 =>
  mm_qv (bd_X9_digest b99 b101 b105 h) (fun h107 =>
  mm_gr h107 a0 3 (fun b110 =>
  mm_gr h107 a0 6 (fun b112 =>
  mm_gr h107 b112 1 (fun b114 =>
  mm_gr h107 a0 7 (fun b116 =>
  mm_gr h107 b116 2 (fun b118 =>
  mm_gr h107 a0 6 (fun b121 =>
  mm_gr h107 b121 7 (fun b123 =>
  mm_qv (bd_X2_load b110 b114 b118 20 b123 h107) (fun h125 =>
  mm_bh (mm_si h125 a0 5 6) (fun h128 =>
  some (none, h128)))))))))))))))))
set_option maxHeartbeats 4000000 in
set_option maxRecDepth 100000 in
theorem mt_X0_takeFinished (G : mm_G) (a0 : Nat) (h : mm_H) (k_a0 : mm_kd h a0 = 0) : mm_Met G my_X0_takeFinished [.ref a0] h (bd_X0_takeFinished a0 h) := by
  refine mm_met (ls := [.ref a0]) pn_RX0 (Nat.le_of_ble_eq_true rfl) rfl ?_
  unfold bd_X0_takeFinished
  refine ok_aload_n (q := 1) dX0_takeFinished_0 rfl rfl ?_
  refine ok_getI cl_0 (q := 4) (k := 4) dX0_takeFinished_1 (Nat.le_of_ble_eq_true rfl) wd_384 (fun _ _ _ => rfl) k_a0 rfl ?_
  refine ok_if_eq (q := 7) (t := 66) dX0_takeFinished_4 rfl rfl ?_ ?_
  · refine ok_aload_n (q := 67) dX0_takeFinished_66 rfl rfl ?_
    refine ok_getR cl_0 (q := 70) (k := 11) dX0_takeFinished_67 (Nat.le_of_ble_eq_true rfl) wd_393 (fun _ _ _ => rfl) kt_0_11 k_a0 rfl (fun b1 k2 => ?_)
    refine ok_aload_n (q := 71) dX0_takeFinished_70 rfl rfl ?_
    refine ok_getR cl_0 (q := 74) (k := 6) dX0_takeFinished_71 (Nat.le_of_ble_eq_true rfl) wd_388 (fun _ _ _ => rfl) kt_0_6 k_a0 rfl (fun b3 k4 => ?_)
    refine ok_getR cl_9 (q := 77) (k := 4) dX0_takeFinished_74 (Nat.le_of_ble_eq_true rfl) wd_250 (fun _ _ _ => rfl) kt_9_4 k4 rfl (fun b5 k6 => ?_)
    refine mm_cv (q := 80) (mt_X6_append G b1 b5 h k2 k6) (mm_runV (as := [.ref b5]) (st := []) cl_5 lk_X0_takeFinished_X6_append_137 rfl dX0_takeFinished_77 rfl (Nat.le_of_ble_eq_true rfl) k2) rfl (fun h7 p8 => ?_)
    have k9 : mm_kd h7 a0 = 0 := mm_kd_app p8 k_a0 (by decide)
    refine ok_aload_n (q := 81) dX0_takeFinished_80 rfl rfl ?_
    refine ok_getR cl_0 (q := 84) (k := 7) dX0_takeFinished_81 (Nat.le_of_ble_eq_true rfl) wd_389 (fun _ _ _ => rfl) kt_0_7 k9 rfl (fun b10 k11 => ?_)
    refine ok_aload_n (q := 85) dX0_takeFinished_84 rfl rfl ?_
    refine ok_getR cl_0 (q := 88) (k := 2) dX0_takeFinished_85 (Nat.le_of_ble_eq_true rfl) wd_380 (fun _ _ _ => rfl) kt_0_2 k9 rfl (fun b12 k13 => ?_)
    refine ok_getR cl_2 (q := 91) (k := 0) dX0_takeFinished_88 (Nat.le_of_ble_eq_true rfl) wd_323 (fun _ _ _ => rfl) kt_2_0 k13 rfl (fun b14 k15 => ?_)
    refine ok_aload_n (q := 92) dX0_takeFinished_91 rfl rfl ?_
    refine ok_getR cl_0 (q := 95) (k := 11) dX0_takeFinished_92 (Nat.le_of_ble_eq_true rfl) wd_393 (fun _ _ _ => rfl) kt_0_11 k9 rfl (fun b16 k17 => ?_)
    refine ok_aload_n (q := 96) dX0_takeFinished_95 rfl rfl ?_
    refine ok_getR cl_0 (q := 99) (k := 6) dX0_takeFinished_96 (Nat.le_of_ble_eq_true rfl) wd_388 (fun _ _ _ => rfl) kt_0_6 k9 rfl (fun b18 k19 => ?_)
    refine ok_getR cl_9 (q := 102) (k := 8) dX0_takeFinished_99 (Nat.le_of_ble_eq_true rfl) wd_259 (fun _ _ _ => rfl) kt_9_8 k19 rfl (fun b20 k21 => ?_)
    refine mm_cv (q := 105) (mt_X7_prove G b10 b14 b16 b20 h7 k11 k15 k17 k21) (mm_runV (as := [.ref b14, .ref b16, .ref b20]) (st := []) cl_6 lk_X0_takeFinished_X7_prove_127 rfl dX0_takeFinished_102 rfl (Nat.le_of_ble_eq_true rfl) k11) rfl (fun h22 p23 => ?_)
    have k24 : mm_kd h22 a0 = 0 := mm_kd_app p23 k9 (by decide)
    refine ok_aload_n (q := 106) dX0_takeFinished_105 rfl rfl ?_
    refine ok_getR cl_0 (q := 109) (k := 6) dX0_takeFinished_106 (Nat.le_of_ble_eq_true rfl) wd_388 (fun _ _ _ => rfl) kt_0_6 k24 rfl (fun b25 k26 => ?_)
    refine ok_getR cl_9 (q := 112) (k := 5) dX0_takeFinished_109 (Nat.le_of_ble_eq_true rfl) wd_252 (fun _ _ _ => rfl) kt_9_5 k26 rfl (fun b27 k28 => ?_)
    refine ok_aload_n (q := 113) dX0_takeFinished_112 rfl rfl ?_
    refine ok_getR cl_0 (q := 116) (k := 6) dX0_takeFinished_113 (Nat.le_of_ble_eq_true rfl) wd_388 (fun _ _ _ => rfl) kt_0_6 k24 rfl (fun b29 k30 => ?_)
    refine ok_getR cl_9 (q := 119) (k := 8) dX0_takeFinished_116 (Nat.le_of_ble_eq_true rfl) wd_259 (fun _ _ _ => rfl) kt_9_8 k30 rfl (fun b31 k32 => ?_)
    refine mm_cv (q := 122) (mt_X3_putFinished G b27 b31 h22 k28 k32) (mm_runS (as := [.ref b27, .ref b31]) (st := []) lk_X0_takeFinished_X3_putFinished_311 dX0_takeFinished_119 rfl (Nat.le_of_ble_eq_true rfl)) rfl (fun h33 p34 => ?_)
    have k35 : mm_kd h33 a0 = 0 := mm_kd_app p34 k24 (by decide)
    refine ok_aload_n (q := 123) dX0_takeFinished_122 rfl rfl ?_
    refine ok_bipush (q := 125) (v := 22) dX0_takeFinished_123 cb_22 rfl ?_
    refine ok_aload_n (q := 126) dX0_takeFinished_125 rfl rfl ?_
    refine ok_getR cl_0 (q := 129) (k := 6) dX0_takeFinished_126 (Nat.le_of_ble_eq_true rfl) wd_388 (fun _ _ _ => rfl) kt_0_6 k35 rfl (fun b36 k37 => ?_)
    refine ok_getR cl_9 (q := 132) (k := 5) dX0_takeFinished_129 (Nat.le_of_ble_eq_true rfl) wd_252 (fun _ _ _ => rfl) kt_9_5 k37 rfl (fun b38 k39 => ?_)
    refine mm_ci (q := 135) (mt_X0_send G a0 22 b38 h33 k35 k39) (mm_runV (as := [.int 22, .ref b38]) (st := []) cl_0 lk_X0_takeFinished_X0_send_140 rfl dX0_takeFinished_132 rfl (Nat.le_of_ble_eq_true rfl) k35) rfl (fun v42 h40 p41 => ?_)
    have k43 : mm_kd h40 a0 = 0 := mm_kd_app p41 k35 (by decide)
    refine ok_if_ne (q := 138) (t := 145) dX0_takeFinished_135 rfl rfl ?_ ?_
    · refine ok_aload_n (q := 146) dX0_takeFinished_145 rfl rfl ?_
      refine ok_getR cl_0 (q := 149) (k := 6) dX0_takeFinished_146 (Nat.le_of_ble_eq_true rfl) wd_388 (fun _ _ _ => rfl) kt_0_6 k43 rfl (fun b44 k45 => ?_)
      refine ok_getR cl_9 (q := 152) (k := 0) dX0_takeFinished_149 (Nat.le_of_ble_eq_true rfl) wd_242 (fun _ _ _ => rfl) kt_9_0 k45 rfl (fun b46 k47 => ?_)
      refine ok_aload_n (q := 153) dX0_takeFinished_152 rfl rfl ?_
      refine ok_getR cl_0 (q := 156) (k := 11) dX0_takeFinished_153 (Nat.le_of_ble_eq_true rfl) wd_393 (fun _ _ _ => rfl) kt_0_11 k43 rfl (fun b48 k49 => ?_)
      refine ok_aload_n (q := 157) dX0_takeFinished_156 rfl rfl ?_
      refine ok_getR cl_0 (q := 160) (k := 6) dX0_takeFinished_157 (Nat.le_of_ble_eq_true rfl) wd_388 (fun _ _ _ => rfl) kt_0_6 k43 rfl (fun b50 k51 => ?_)
      refine ok_getR cl_9 (q := 163) (k := 7) dX0_takeFinished_160 (Nat.le_of_ble_eq_true rfl) wd_257 (fun _ _ _ => rfl) kt_9_7 k51 rfl (fun b52 k53 => ?_)
      refine mm_cv (q := 166) (mt_X9_digest G b46 b48 b52 h40 k47 k49 k53) (mm_runV (as := [.ref b48, .ref b52]) (st := []) cl_8 lk_X0_takeFinished_X9_digest_300 rfl dX0_takeFinished_163 rfl (Nat.le_of_ble_eq_true rfl) k47) rfl (fun h54 p55 => ?_)
      have k56 : mm_kd h54 a0 = 0 := mm_kd_app p55 k43 (by decide)
      refine ok_aload_n (q := 167) dX0_takeFinished_166 rfl rfl ?_
      refine ok_getR cl_0 (q := 170) (k := 3) dX0_takeFinished_167 (Nat.le_of_ble_eq_true rfl) wd_382 (fun _ _ _ => rfl) kt_0_3 k56 rfl (fun b57 k58 => ?_)
      refine ok_aload_n (q := 171) dX0_takeFinished_170 rfl rfl ?_
      refine ok_getR cl_0 (q := 174) (k := 6) dX0_takeFinished_171 (Nat.le_of_ble_eq_true rfl) wd_388 (fun _ _ _ => rfl) kt_0_6 k56 rfl (fun b59 k60 => ?_)
      refine ok_getR cl_9 (q := 177) (k := 1) dX0_takeFinished_174 (Nat.le_of_ble_eq_true rfl) wd_244 (fun _ _ _ => rfl) kt_9_1 k60 rfl (fun b61 k62 => ?_)
      refine ok_aload_n (q := 178) dX0_takeFinished_177 rfl rfl ?_
      refine ok_getR cl_0 (q := 181) (k := 7) dX0_takeFinished_178 (Nat.le_of_ble_eq_true rfl) wd_389 (fun _ _ _ => rfl) kt_0_7 k56 rfl (fun b63 k64 => ?_)
      refine ok_getR cl_6 (q := 184) (k := 2) dX0_takeFinished_181 (Nat.le_of_ble_eq_true rfl) wd_359 (fun _ _ _ => rfl) kt_6_2 k64 rfl (fun b65 k66 => ?_)
      refine ok_ldcSw (q := 187) (a := 19) (tx := "s ap traffic") (by decide +kernel) dX0_takeFinished_184 (by decide) rfl (fun k67 => ?_)
      refine ok_aload_n (q := 188) dX0_takeFinished_187 rfl rfl ?_
      refine ok_getR cl_0 (q := 191) (k := 6) dX0_takeFinished_188 (Nat.le_of_ble_eq_true rfl) wd_388 (fun _ _ _ => rfl) kt_0_6 k56 rfl (fun b68 k69 => ?_)
      refine ok_getR cl_9 (q := 194) (k := 7) dX0_takeFinished_191 (Nat.le_of_ble_eq_true rfl) wd_257 (fun _ _ _ => rfl) kt_9_7 k69 rfl (fun b70 k71 => ?_)
      refine mm_cv (q := 197) (mt_X2_load G b57 b61 b65 19 b70 h54 k58 k62 k66 k67 k71) (mm_runV (as := [.ref b61, .ref b65, .ref 19, .ref b70]) (st := []) cl_2 lk_X0_takeFinished_X2_load_158 rfl dX0_takeFinished_194 rfl (Nat.le_of_ble_eq_true rfl) k58) rfl (fun h72 p73 => ?_)
      have k74 : mm_kd h72 a0 = 0 := mm_kd_app p73 k56 (by decide)
      refine ok_aload_n (q := 198) dX0_takeFinished_197 rfl rfl ?_
      refine ok_getR cl_0 (q := 201) (k := 2) dX0_takeFinished_198 (Nat.le_of_ble_eq_true rfl) wd_380 (fun _ _ _ => rfl) kt_0_2 k74 rfl (fun b75 k76 => ?_)
      refine ok_aload_n (q := 202) dX0_takeFinished_201 rfl rfl ?_
      refine ok_getR cl_0 (q := 205) (k := 6) dX0_takeFinished_202 (Nat.le_of_ble_eq_true rfl) wd_388 (fun _ _ _ => rfl) kt_0_6 k74 rfl (fun b77 k78 => ?_)
      refine ok_getR cl_9 (q := 208) (k := 1) dX0_takeFinished_205 (Nat.le_of_ble_eq_true rfl) wd_244 (fun _ _ _ => rfl) kt_9_1 k78 rfl (fun b79 k80 => ?_)
      refine ok_aload_n (q := 209) dX0_takeFinished_208 rfl rfl ?_
      refine ok_getR cl_0 (q := 212) (k := 7) dX0_takeFinished_209 (Nat.le_of_ble_eq_true rfl) wd_389 (fun _ _ _ => rfl) kt_0_7 k74 rfl (fun b81 k82 => ?_)
      refine ok_getR cl_6 (q := 215) (k := 2) dX0_takeFinished_212 (Nat.le_of_ble_eq_true rfl) wd_359 (fun _ _ _ => rfl) kt_6_2 k82 rfl (fun b83 k84 => ?_)
      refine ok_ldcSw (q := 218) (a := 20) (tx := "c ap traffic") (by decide +kernel) dX0_takeFinished_215 (by decide) rfl (fun k85 => ?_)
      refine ok_aload_n (q := 219) dX0_takeFinished_218 rfl rfl ?_
      refine ok_getR cl_0 (q := 222) (k := 6) dX0_takeFinished_219 (Nat.le_of_ble_eq_true rfl) wd_388 (fun _ _ _ => rfl) kt_0_6 k74 rfl (fun b86 k87 => ?_)
      refine ok_getR cl_9 (q := 225) (k := 7) dX0_takeFinished_222 (Nat.le_of_ble_eq_true rfl) wd_257 (fun _ _ _ => rfl) kt_9_7 k87 rfl (fun b88 k89 => ?_)
      refine mm_cv (q := 228) (mt_X2_load G b75 b79 b83 20 b88 h72 k76 k80 k84 k85 k89) (mm_runV (as := [.ref b79, .ref b83, .ref 20, .ref b88]) (st := []) cl_2 lk_X0_takeFinished_X2_load_158 rfl dX0_takeFinished_225 rfl (Nat.le_of_ble_eq_true rfl) k76) rfl (fun h90 p91 => ?_)
      have k92 : mm_kd h90 a0 = 0 := mm_kd_app p91 k74 (by decide)
      refine ok_aload_n (q := 229) dX0_takeFinished_228 rfl rfl ?_
      refine ok_bipush (q := 231) (v := 6) dX0_takeFinished_229 cb_6 rfl ?_
      refine ok_putI cl_0 (q := 234) (k := 5) dX0_takeFinished_231 (Nat.le_of_ble_eq_true rfl) wd_386 (Or.inl rfl) (fun _ _ _ => rfl) rfl rfl k92 rfl (bh_ok (fun h93 e94 => ?_))
      have e94 : h93.1 = h90.1 := e94
      exact ok_ret dX0_takeFinished_234 rfl
    · refine ok_aload_n (q := 139) dX0_takeFinished_138 rfl rfl ?_
      refine ok_bipush (q := 141) (v := 7) dX0_takeFinished_139 cb_7 rfl ?_
      refine ok_putI cl_0 (q := 144) (k := 5) dX0_takeFinished_141 (Nat.le_of_ble_eq_true rfl) wd_386 (Or.inl rfl) (fun _ _ _ => rfl) rfl rfl k43 rfl (bh_ok (fun h95 e96 => ?_))
      have e96 : h95.1 = h40.1 := e96
      exact ok_ret dX0_takeFinished_144 rfl
  · refine ok_aload_n (q := 8) dX0_takeFinished_7 rfl rfl ?_
    refine ok_getR cl_0 (q := 11) (k := 6) dX0_takeFinished_8 (Nat.le_of_ble_eq_true rfl) wd_388 (fun _ _ _ => rfl) kt_0_6 k_a0 rfl (fun b97 k98 => ?_)
    refine ok_getR cl_9 (q := 14) (k := 0) dX0_takeFinished_11 (Nat.le_of_ble_eq_true rfl) wd_242 (fun _ _ _ => rfl) kt_9_0 k98 rfl (fun b99 k100 => ?_)
    refine ok_aload_n (q := 15) dX0_takeFinished_14 rfl rfl ?_
    refine ok_getR cl_0 (q := 18) (k := 11) dX0_takeFinished_15 (Nat.le_of_ble_eq_true rfl) wd_393 (fun _ _ _ => rfl) kt_0_11 k_a0 rfl (fun b101 k102 => ?_)
    refine ok_aload_n (q := 19) dX0_takeFinished_18 rfl rfl ?_
    refine ok_getR cl_0 (q := 22) (k := 6) dX0_takeFinished_19 (Nat.le_of_ble_eq_true rfl) wd_388 (fun _ _ _ => rfl) kt_0_6 k_a0 rfl (fun b103 k104 => ?_)
    refine ok_getR cl_9 (q := 25) (k := 7) dX0_takeFinished_22 (Nat.le_of_ble_eq_true rfl) wd_257 (fun _ _ _ => rfl) kt_9_7 k104 rfl (fun b105 k106 => ?_)
    refine mm_cv (q := 28) (mt_X9_digest G b99 b101 b105 h k100 k102 k106) (mm_runV (as := [.ref b101, .ref b105]) (st := []) cl_8 lk_X0_takeFinished_X9_digest_300 rfl dX0_takeFinished_25 rfl (Nat.le_of_ble_eq_true rfl) k100) rfl (fun h107 p108 => ?_)
    have k109 : mm_kd h107 a0 = 0 := mm_kd_app p108 k_a0 (by decide)
    refine ok_aload_n (q := 29) dX0_takeFinished_28 rfl rfl ?_
    refine ok_getR cl_0 (q := 32) (k := 3) dX0_takeFinished_29 (Nat.le_of_ble_eq_true rfl) wd_382 (fun _ _ _ => rfl) kt_0_3 k109 rfl (fun b110 k111 => ?_)
    refine ok_aload_n (q := 33) dX0_takeFinished_32 rfl rfl ?_
    refine ok_getR cl_0 (q := 36) (k := 6) dX0_takeFinished_33 (Nat.le_of_ble_eq_true rfl) wd_388 (fun _ _ _ => rfl) kt_0_6 k109 rfl (fun b112 k113 => ?_)
    refine ok_getR cl_9 (q := 39) (k := 1) dX0_takeFinished_36 (Nat.le_of_ble_eq_true rfl) wd_244 (fun _ _ _ => rfl) kt_9_1 k113 rfl (fun b114 k115 => ?_)
    refine ok_aload_n (q := 40) dX0_takeFinished_39 rfl rfl ?_
    refine ok_getR cl_0 (q := 43) (k := 7) dX0_takeFinished_40 (Nat.le_of_ble_eq_true rfl) wd_389 (fun _ _ _ => rfl) kt_0_7 k109 rfl (fun b116 k117 => ?_)
    refine ok_getR cl_6 (q := 46) (k := 2) dX0_takeFinished_43 (Nat.le_of_ble_eq_true rfl) wd_359 (fun _ _ _ => rfl) kt_6_2 k117 rfl (fun b118 k119 => ?_)
    refine ok_ldcSw (q := 49) (a := 20) (tx := "c ap traffic") (by decide +kernel) dX0_takeFinished_46 (by decide) rfl (fun k120 => ?_)
    refine ok_aload_n (q := 50) dX0_takeFinished_49 rfl rfl ?_
    refine ok_getR cl_0 (q := 53) (k := 6) dX0_takeFinished_50 (Nat.le_of_ble_eq_true rfl) wd_388 (fun _ _ _ => rfl) kt_0_6 k109 rfl (fun b121 k122 => ?_)
    refine ok_getR cl_9 (q := 56) (k := 7) dX0_takeFinished_53 (Nat.le_of_ble_eq_true rfl) wd_257 (fun _ _ _ => rfl) kt_9_7 k122 rfl (fun b123 k124 => ?_)
    refine mm_cv (q := 59) (mt_X2_load G b110 b114 b118 20 b123 h107 k111 k115 k119 k120 k124) (mm_runV (as := [.ref b114, .ref b118, .ref 20, .ref b123]) (st := []) cl_2 lk_X0_takeFinished_X2_load_158 rfl dX0_takeFinished_56 rfl (Nat.le_of_ble_eq_true rfl) k111) rfl (fun h125 p126 => ?_)
    have k127 : mm_kd h125 a0 = 0 := mm_kd_app p126 k109 (by decide)
    refine ok_aload_n (q := 60) dX0_takeFinished_59 rfl rfl ?_
    refine ok_bipush (q := 62) (v := 6) dX0_takeFinished_60 cb_6 rfl ?_
    refine ok_putI cl_0 (q := 65) (k := 5) dX0_takeFinished_62 (Nat.le_of_ble_eq_true rfl) wd_386 (Or.inl rfl) (fun _ _ _ => rfl) rfl rfl k127 rfl (bh_ok (fun h128 e129 => ?_))
    have e129 : h128.1 = h125.1 := e129
    exact ok_ret dX0_takeFinished_65 rfl
def bd_X0_takeServerHello (a0 : Nat) (h : mm_H) : mm_O := mm_gr h a0 11 (fun b1 =>
  mm_gr h a0 6 (fun b3 =>
  mm_gr h b3 4 (fun b5 =>
  mm_qv (bd_X6_append b1 b5 h) (fun h7 =>
  mm_gr h7 a0 6 (fun b10 =>
  mm_gr h7 b10 0 (fun b12 =>
  mm_gr h7 a0 11 (fun b14 =>
  mm_gr h7 a0 6 (fun b16 =>
  mm_gr h7 b16 7 (fun b18 =>
  mm_qv (bd_X9_digest b12 b14 b18 h7) (fun h20 =>
  mm_gr h20 a0 3 (fun b23 =>
  mm_gr h20 a0 6 (fun b25 =>
  mm_gr h20 b25 1 (fun b27 =>
  mm_gr h20 a0 7 (fun b29 =>
  mm_gr h20 b29 1 (fun b31 =>
  mm_gr h20 a0 6 (fun b34 =>
  mm_gr h20 b34 7 (fun b36 =>
  mm_qv (bd_X2_load b23 b27 b31 18 b36 h20) (fun h38 =>
  mm_gr h38 a0 2 (fun b41 =>
  mm_gr h38 a0 6 (fun b43 =>
  mm_gr h38 b43 1 (fun b45 =>
  mm_gr h38 a0 7 (fun b47 =>
  mm_gr h38 b47 1 (fun b49 =>
  mm_gr h38 a0 6 (fun b52 =>
  mm_gr h38 b52 7 (fun b54 =>
  mm_qv (bd_X2_load b41 b45 b49 17 b54 h38) (fun h56 =>
  mm_bh (mm_si h56 a0 5 2) (fun h59 =>
  some (none, h59))))))))))))))))))))))))))))
set_option maxHeartbeats 4000000 in
set_option maxRecDepth 100000 in
theorem mt_X0_takeServerHello (G : mm_G) (a0 : Nat) (h : mm_H) (k_a0 : mm_kd h a0 = 0) : mm_Met G my_X0_takeServerHello [.ref a0] h (bd_X0_takeServerHello a0 h) := by
  refine mm_met (ls := [.ref a0]) pn_RX0 (Nat.le_of_ble_eq_true rfl) rfl ?_
  unfold bd_X0_takeServerHello
  refine ok_aload_n (q := 1) dX0_takeServerHello_0 rfl rfl ?_
  refine ok_getR cl_0 (q := 4) (k := 11) dX0_takeServerHello_1 (Nat.le_of_ble_eq_true rfl) wd_393 (fun _ _ _ => rfl) kt_0_11 k_a0 rfl (fun b1 k2 => ?_)
  refine ok_aload_n (q := 5) dX0_takeServerHello_4 rfl rfl ?_
  refine ok_getR cl_0 (q := 8) (k := 6) dX0_takeServerHello_5 (Nat.le_of_ble_eq_true rfl) wd_388 (fun _ _ _ => rfl) kt_0_6 k_a0 rfl (fun b3 k4 => ?_)
  refine ok_getR cl_9 (q := 11) (k := 4) dX0_takeServerHello_8 (Nat.le_of_ble_eq_true rfl) wd_250 (fun _ _ _ => rfl) kt_9_4 k4 rfl (fun b5 k6 => ?_)
  refine mm_cv (q := 14) (mt_X6_append G b1 b5 h k2 k6) (mm_runV (as := [.ref b5]) (st := []) cl_5 lk_X0_takeServerHello_X6_append_137 rfl dX0_takeServerHello_11 rfl (Nat.le_of_ble_eq_true rfl) k2) rfl (fun h7 p8 => ?_)
  have k9 : mm_kd h7 a0 = 0 := mm_kd_app p8 k_a0 (by decide)
  refine ok_aload_n (q := 15) dX0_takeServerHello_14 rfl rfl ?_
  refine ok_getR cl_0 (q := 18) (k := 6) dX0_takeServerHello_15 (Nat.le_of_ble_eq_true rfl) wd_388 (fun _ _ _ => rfl) kt_0_6 k9 rfl (fun b10 k11 => ?_)
  refine ok_getR cl_9 (q := 21) (k := 0) dX0_takeServerHello_18 (Nat.le_of_ble_eq_true rfl) wd_242 (fun _ _ _ => rfl) kt_9_0 k11 rfl (fun b12 k13 => ?_)
  refine ok_aload_n (q := 22) dX0_takeServerHello_21 rfl rfl ?_
  refine ok_getR cl_0 (q := 25) (k := 11) dX0_takeServerHello_22 (Nat.le_of_ble_eq_true rfl) wd_393 (fun _ _ _ => rfl) kt_0_11 k9 rfl (fun b14 k15 => ?_)
  refine ok_aload_n (q := 26) dX0_takeServerHello_25 rfl rfl ?_
  refine ok_getR cl_0 (q := 29) (k := 6) dX0_takeServerHello_26 (Nat.le_of_ble_eq_true rfl) wd_388 (fun _ _ _ => rfl) kt_0_6 k9 rfl (fun b16 k17 => ?_)
  refine ok_getR cl_9 (q := 32) (k := 7) dX0_takeServerHello_29 (Nat.le_of_ble_eq_true rfl) wd_257 (fun _ _ _ => rfl) kt_9_7 k17 rfl (fun b18 k19 => ?_)
  refine mm_cv (q := 35) (mt_X9_digest G b12 b14 b18 h7 k13 k15 k19) (mm_runV (as := [.ref b14, .ref b18]) (st := []) cl_8 lk_X0_takeServerHello_X9_digest_300 rfl dX0_takeServerHello_32 rfl (Nat.le_of_ble_eq_true rfl) k13) rfl (fun h20 p21 => ?_)
  have k22 : mm_kd h20 a0 = 0 := mm_kd_app p21 k9 (by decide)
  refine ok_aload_n (q := 36) dX0_takeServerHello_35 rfl rfl ?_
  refine ok_getR cl_0 (q := 39) (k := 3) dX0_takeServerHello_36 (Nat.le_of_ble_eq_true rfl) wd_382 (fun _ _ _ => rfl) kt_0_3 k22 rfl (fun b23 k24 => ?_)
  refine ok_aload_n (q := 40) dX0_takeServerHello_39 rfl rfl ?_
  refine ok_getR cl_0 (q := 43) (k := 6) dX0_takeServerHello_40 (Nat.le_of_ble_eq_true rfl) wd_388 (fun _ _ _ => rfl) kt_0_6 k22 rfl (fun b25 k26 => ?_)
  refine ok_getR cl_9 (q := 46) (k := 1) dX0_takeServerHello_43 (Nat.le_of_ble_eq_true rfl) wd_244 (fun _ _ _ => rfl) kt_9_1 k26 rfl (fun b27 k28 => ?_)
  refine ok_aload_n (q := 47) dX0_takeServerHello_46 rfl rfl ?_
  refine ok_getR cl_0 (q := 50) (k := 7) dX0_takeServerHello_47 (Nat.le_of_ble_eq_true rfl) wd_389 (fun _ _ _ => rfl) kt_0_7 k22 rfl (fun b29 k30 => ?_)
  refine ok_getR cl_6 (q := 53) (k := 1) dX0_takeServerHello_50 (Nat.le_of_ble_eq_true rfl) wd_357 (fun _ _ _ => rfl) kt_6_1 k30 rfl (fun b31 k32 => ?_)
  refine ok_ldcSw (q := 56) (a := 18) (tx := "s hs traffic") (by decide +kernel) dX0_takeServerHello_53 (by decide) rfl (fun k33 => ?_)
  refine ok_aload_n (q := 57) dX0_takeServerHello_56 rfl rfl ?_
  refine ok_getR cl_0 (q := 60) (k := 6) dX0_takeServerHello_57 (Nat.le_of_ble_eq_true rfl) wd_388 (fun _ _ _ => rfl) kt_0_6 k22 rfl (fun b34 k35 => ?_)
  refine ok_getR cl_9 (q := 63) (k := 7) dX0_takeServerHello_60 (Nat.le_of_ble_eq_true rfl) wd_257 (fun _ _ _ => rfl) kt_9_7 k35 rfl (fun b36 k37 => ?_)
  refine mm_cv (q := 66) (mt_X2_load G b23 b27 b31 18 b36 h20 k24 k28 k32 k33 k37) (mm_runV (as := [.ref b27, .ref b31, .ref 18, .ref b36]) (st := []) cl_2 lk_X0_takeServerHello_X2_load_158 rfl dX0_takeServerHello_63 rfl (Nat.le_of_ble_eq_true rfl) k24) rfl (fun h38 p39 => ?_)
  have k40 : mm_kd h38 a0 = 0 := mm_kd_app p39 k22 (by decide)
  refine ok_aload_n (q := 67) dX0_takeServerHello_66 rfl rfl ?_
  refine ok_getR cl_0 (q := 70) (k := 2) dX0_takeServerHello_67 (Nat.le_of_ble_eq_true rfl) wd_380 (fun _ _ _ => rfl) kt_0_2 k40 rfl (fun b41 k42 => ?_)
  refine ok_aload_n (q := 71) dX0_takeServerHello_70 rfl rfl ?_
  refine ok_getR cl_0 (q := 74) (k := 6) dX0_takeServerHello_71 (Nat.le_of_ble_eq_true rfl) wd_388 (fun _ _ _ => rfl) kt_0_6 k40 rfl (fun b43 k44 => ?_)
  refine ok_getR cl_9 (q := 77) (k := 1) dX0_takeServerHello_74 (Nat.le_of_ble_eq_true rfl) wd_244 (fun _ _ _ => rfl) kt_9_1 k44 rfl (fun b45 k46 => ?_)
  refine ok_aload_n (q := 78) dX0_takeServerHello_77 rfl rfl ?_
  refine ok_getR cl_0 (q := 81) (k := 7) dX0_takeServerHello_78 (Nat.le_of_ble_eq_true rfl) wd_389 (fun _ _ _ => rfl) kt_0_7 k40 rfl (fun b47 k48 => ?_)
  refine ok_getR cl_6 (q := 84) (k := 1) dX0_takeServerHello_81 (Nat.le_of_ble_eq_true rfl) wd_357 (fun _ _ _ => rfl) kt_6_1 k48 rfl (fun b49 k50 => ?_)
  refine ok_ldcSw (q := 87) (a := 17) (tx := "c hs traffic") (by decide +kernel) dX0_takeServerHello_84 (by decide) rfl (fun k51 => ?_)
  refine ok_aload_n (q := 88) dX0_takeServerHello_87 rfl rfl ?_
  refine ok_getR cl_0 (q := 91) (k := 6) dX0_takeServerHello_88 (Nat.le_of_ble_eq_true rfl) wd_388 (fun _ _ _ => rfl) kt_0_6 k40 rfl (fun b52 k53 => ?_)
  refine ok_getR cl_9 (q := 94) (k := 7) dX0_takeServerHello_91 (Nat.le_of_ble_eq_true rfl) wd_257 (fun _ _ _ => rfl) kt_9_7 k53 rfl (fun b54 k55 => ?_)
  refine mm_cv (q := 97) (mt_X2_load G b41 b45 b49 17 b54 h38 k42 k46 k50 k51 k55) (mm_runV (as := [.ref b45, .ref b49, .ref 17, .ref b54]) (st := []) cl_2 lk_X0_takeServerHello_X2_load_158 rfl dX0_takeServerHello_94 rfl (Nat.le_of_ble_eq_true rfl) k42) rfl (fun h56 p57 => ?_)
  have k58 : mm_kd h56 a0 = 0 := mm_kd_app p57 k40 (by decide)
  refine ok_aload_n (q := 98) dX0_takeServerHello_97 rfl rfl ?_
  refine ok_iconst (q := 99) (v := 2) dX0_takeServerHello_98 ci_2 rfl ?_
  refine ok_putI cl_0 (q := 102) (k := 5) dX0_takeServerHello_99 (Nat.le_of_ble_eq_true rfl) wd_386 (Or.inl rfl) (fun _ _ _ => rfl) rfl rfl k58 rfl (bh_ok (fun h59 e60 => ?_))
  have e60 : h59.1 = h56.1 := e60
  exact ok_ret dX0_takeServerHello_102 rfl
