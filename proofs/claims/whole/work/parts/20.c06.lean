def bd_X0_report (a0 : Nat) (x1 : Int32) (h : mm_H) : mm_O := if x1 = 0 then
  (some (some (.int (mm_i h a0 5)), h))
  else
  (if x1 = 1 then
  (some (some (.int (mm_i h a0 14)), h))
  else
  (if x1 = 2 then
  (some (some (.int (mm_i h a0 15)), h))
  else
  (if x1 = 3 then
  (mm_gr h a0 0 (fun b5 =>
  some (some (.int (mm_i h b5 1)), h)))
  else
  (if x1 = 4 then
  (mm_gr h a0 1 (fun b8 =>
  some (some (.int (mm_i h b8 1)), h)))
  else
  (if x1 = 5 then
  (mm_gr h a0 2 (fun b11 =>
  some (some (.int (mm_i h b11 3)), h)))
  else
  (if x1 = 6 then
  (mm_gr h a0 3 (fun b14 =>
  some (some (.int (mm_i h b14 3)), h)))
  else
  (if x1 = 7 then
  (if (mm_i h a0 16) = 0 then
  (some (some (.int 0), h))
  else
  (some (some (.int 1), h)))
  else
  (if x1 = 8 then
  (if (mm_i h a0 17) = 0 then
  (some (some (.int 0), h))
  else
  (some (some (.int 1), h)))
  else
  (if x1 = 9 then
  (if (mm_i h a0 4) = 0 then
  (some (some (.int 0), h))
  else
  (some (some (.int 1), h)))
  else
  (some (some (.int (-1)), h)))))))))))
set_option maxHeartbeats 4000000 in
set_option maxRecDepth 100000 in
theorem mt_X0_report (G : mm_G) (a0 : Nat) (x1 : Int32) (h : mm_H) (k_a0 : mm_kd h a0 = 0) : mm_Met G my_X0_report [.ref a0, .int x1] h (bd_X0_report a0 x1 h) := by
  refine mm_met (ls := [.ref a0, .int x1]) pn_RX0 (Nat.le_of_ble_eq_true rfl) rfl ?_
  unfold bd_X0_report
  refine ok_iload_n (q := 1) dX0_report_0 rfl rfl ?_
  refine mm_sp (fun c1 => ?_) (fun c1 => ?_)
  · refine ok_tableIn (q := 56) dX0_report_1 (by rw [c1]; decide) (by rw [c1]; decide) (by rw [c1]; rfl) rfl ?_
    refine ok_aload_n (q := 57) dX0_report_56 rfl rfl ?_
    refine ok_getI cl_0 (q := 60) (k := 5) dX0_report_57 (Nat.le_of_ble_eq_true rfl) wd_386 (fun _ _ _ => rfl) k_a0 rfl ?_
    exact ok_iret (t := .int) dX0_report_60 rfl rfl
  · refine mm_sp (fun c2 => ?_) (fun c2 => ?_)
    · refine ok_tableIn (q := 61) dX0_report_1 (by rw [c2]; decide) (by rw [c2]; decide) (by rw [c2]; rfl) rfl ?_
      refine ok_aload_n (q := 62) dX0_report_61 rfl rfl ?_
      refine ok_getI cl_0 (q := 65) (k := 14) dX0_report_62 (Nat.le_of_ble_eq_true rfl) wd_396 (fun _ _ _ => rfl) k_a0 rfl ?_
      exact ok_iret (t := .int) dX0_report_65 rfl rfl
    · refine mm_sp (fun c3 => ?_) (fun c3 => ?_)
      · refine ok_tableIn (q := 66) dX0_report_1 (by rw [c3]; decide) (by rw [c3]; decide) (by rw [c3]; rfl) rfl ?_
        refine ok_aload_n (q := 67) dX0_report_66 rfl rfl ?_
        refine ok_getI cl_0 (q := 70) (k := 15) dX0_report_67 (Nat.le_of_ble_eq_true rfl) wd_397 (fun _ _ _ => rfl) k_a0 rfl ?_
        exact ok_iret (t := .int) dX0_report_70 rfl rfl
      · refine mm_sp (fun c4 => ?_) (fun c4 => ?_)
        · refine ok_tableIn (q := 71) dX0_report_1 (by rw [c4]; decide) (by rw [c4]; decide) (by rw [c4]; rfl) rfl ?_
          refine ok_aload_n (q := 72) dX0_report_71 rfl rfl ?_
          refine ok_getR cl_0 (q := 75) (k := 0) dX0_report_72 (Nat.le_of_ble_eq_true rfl) wd_376 (fun _ _ _ => rfl) kt_0_0 k_a0 rfl (fun b5 k6 => ?_)
          refine ok_getI cl_3 (q := 78) (k := 1) dX0_report_75 (Nat.le_of_ble_eq_true rfl) wd_306 (fun _ _ _ => rfl) k6 rfl ?_
          exact ok_iret (t := .int) dX0_report_78 rfl rfl
        · refine mm_sp (fun c7 => ?_) (fun c7 => ?_)
          · refine ok_tableIn (q := 79) dX0_report_1 (by rw [c7]; decide) (by rw [c7]; decide) (by rw [c7]; rfl) rfl ?_
            refine ok_aload_n (q := 80) dX0_report_79 rfl rfl ?_
            refine ok_getR cl_0 (q := 83) (k := 1) dX0_report_80 (Nat.le_of_ble_eq_true rfl) wd_378 (fun _ _ _ => rfl) kt_0_1 k_a0 rfl (fun b8 k9 => ?_)
            refine ok_getI cl_5 (q := 86) (k := 1) dX0_report_83 (Nat.le_of_ble_eq_true rfl) wd_128 (fun _ _ _ => rfl) k9 rfl ?_
            exact ok_iret (t := .int) dX0_report_86 rfl rfl
          · refine mm_sp (fun c10 => ?_) (fun c10 => ?_)
            · refine ok_tableIn (q := 87) dX0_report_1 (by rw [c10]; decide) (by rw [c10]; decide) (by rw [c10]; rfl) rfl ?_
              refine ok_aload_n (q := 88) dX0_report_87 rfl rfl ?_
              refine ok_getR cl_0 (q := 91) (k := 2) dX0_report_88 (Nat.le_of_ble_eq_true rfl) wd_380 (fun _ _ _ => rfl) kt_0_2 k_a0 rfl (fun b11 k12 => ?_)
              refine ok_getI cl_2 (q := 94) (k := 3) dX0_report_91 (Nat.le_of_ble_eq_true rfl) wd_331 (fun _ _ _ => rfl) k12 rfl ?_
              exact ok_iret (t := .int) dX0_report_94 rfl rfl
            · refine mm_sp (fun c13 => ?_) (fun c13 => ?_)
              · refine ok_tableIn (q := 95) dX0_report_1 (by rw [c13]; decide) (by rw [c13]; decide) (by rw [c13]; rfl) rfl ?_
                refine ok_aload_n (q := 96) dX0_report_95 rfl rfl ?_
                refine ok_getR cl_0 (q := 99) (k := 3) dX0_report_96 (Nat.le_of_ble_eq_true rfl) wd_382 (fun _ _ _ => rfl) kt_0_3 k_a0 rfl (fun b14 k15 => ?_)
                refine ok_getI cl_2 (q := 102) (k := 3) dX0_report_99 (Nat.le_of_ble_eq_true rfl) wd_331 (fun _ _ _ => rfl) k15 rfl ?_
                exact ok_iret (t := .int) dX0_report_102 rfl rfl
              · refine mm_sp (fun c16 => ?_) (fun c16 => ?_)
                · refine ok_tableIn (q := 103) dX0_report_1 (by rw [c16]; decide) (by rw [c16]; decide) (by rw [c16]; rfl) rfl ?_
                  refine ok_aload_n (q := 104) dX0_report_103 rfl rfl ?_
                  refine ok_getI cl_0 (q := 107) (k := 16) dX0_report_104 (Nat.le_of_ble_eq_true rfl) wd_398 (fun _ _ _ => rfl) k_a0 rfl ?_
                  refine ok_if_eq (q := 110) (t := 114) dX0_report_107 rfl rfl ?_ ?_
                  · refine ok_iconst (q := 115) (v := 0) dX0_report_114 ci_0 rfl ?_
                    exact ok_iret (t := .int) dX0_report_115 rfl rfl
                  · refine ok_iconst (q := 111) (v := 1) dX0_report_110 ci_1 rfl ?_
                    refine ok_goto (q := 115) dX0_report_111 rfl ?_
                    exact ok_iret (t := .int) dX0_report_115 rfl rfl
                · refine mm_sp (fun c17 => ?_) (fun c17 => ?_)
                  · refine ok_tableIn (q := 116) dX0_report_1 (by rw [c17]; decide) (by rw [c17]; decide) (by rw [c17]; rfl) rfl ?_
                    refine ok_aload_n (q := 117) dX0_report_116 rfl rfl ?_
                    refine ok_getI cl_0 (q := 120) (k := 17) dX0_report_117 (Nat.le_of_ble_eq_true rfl) wd_399 (fun _ _ _ => rfl) k_a0 rfl ?_
                    refine ok_if_eq (q := 123) (t := 127) dX0_report_120 rfl rfl ?_ ?_
                    · refine ok_iconst (q := 128) (v := 0) dX0_report_127 ci_0 rfl ?_
                      exact ok_iret (t := .int) dX0_report_128 rfl rfl
                    · refine ok_iconst (q := 124) (v := 1) dX0_report_123 ci_1 rfl ?_
                      refine ok_goto (q := 128) dX0_report_124 rfl ?_
                      exact ok_iret (t := .int) dX0_report_128 rfl rfl
                  · refine mm_sp (fun c18 => ?_) (fun c18 => ?_)
                    · refine ok_tableIn (q := 129) dX0_report_1 (by rw [c18]; decide) (by rw [c18]; decide) (by rw [c18]; rfl) rfl ?_
                      refine ok_aload_n (q := 130) dX0_report_129 rfl rfl ?_
                      refine ok_getI cl_0 (q := 133) (k := 4) dX0_report_130 (Nat.le_of_ble_eq_true rfl) wd_384 (fun _ _ _ => rfl) k_a0 rfl ?_
                      refine ok_if_eq (q := 136) (t := 140) dX0_report_133 rfl rfl ?_ ?_
                      · refine ok_iconst (q := 141) (v := 0) dX0_report_140 ci_0 rfl ?_
                        exact ok_iret (t := .int) dX0_report_141 rfl rfl
                      · refine ok_iconst (q := 137) (v := 1) dX0_report_136 ci_1 rfl ?_
                        refine ok_goto (q := 141) dX0_report_137 rfl ?_
                        exact ok_iret (t := .int) dX0_report_141 rfl rfl
                    · have tc1 := lv_neT c1 (by decide : (0 : Int32).toInt = 0)
                      have tc2 := lv_neT c2 (by decide : (1 : Int32).toInt = 1)
                      have tc3 := lv_neT c3 (by decide : (2 : Int32).toInt = 2)
                      have tc4 := lv_neT c4 (by decide : (3 : Int32).toInt = 3)
                      have tc7 := lv_neT c7 (by decide : (4 : Int32).toInt = 4)
                      have tc10 := lv_neT c10 (by decide : (5 : Int32).toInt = 5)
                      have tc13 := lv_neT c13 (by decide : (6 : Int32).toInt = 6)
                      have tc16 := lv_neT c16 (by decide : (7 : Int32).toInt = 7)
                      have tc17 := lv_neT c17 (by decide : (8 : Int32).toInt = 8)
                      have tc18 := lv_neT c18 (by decide : (9 : Int32).toInt = 9)
                      refine ok_tableOut (q := 142) dX0_report_1 (by omega) rfl ?_
                      refine ok_iconst (q := 143) (v := -1) dX0_report_142 ci_m1 rfl ?_
                      exact ok_iret (t := .int) dX0_report_143 rfl rfl
def bd_X3_putExtensions (a0 : Nat) (h : mm_H) : mm_O := mm_qv (bd_X3_putHead a0 8 2 h) (fun h1 =>
  mm_qv (bd_X6_putNumber a0 0 2 h1) (fun h4 =>
  some (none, h4)))
set_option maxHeartbeats 4000000 in
set_option maxRecDepth 100000 in
theorem mt_X3_putExtensions (G : mm_G) (a0 : Nat) (h : mm_H) (k_a0 : mm_kd h a0 = 5) : mm_Met G my_X3_putExtensions [.ref a0] h (bd_X3_putExtensions a0 h) := by
  refine mm_met (ls := [.ref a0]) pn_RX3 (Nat.le_of_ble_eq_true rfl) rfl ?_
  unfold bd_X3_putExtensions
  refine ok_aload_n (q := 1) dX3_putExtensions_0 rfl rfl ?_
  refine ok_bipush (q := 3) (v := 8) dX3_putExtensions_1 cb_8 rfl ?_
  refine ok_iconst (q := 4) (v := 2) dX3_putExtensions_3 ci_2 rfl ?_
  refine mm_cv (q := 7) (mt_X3_putHead G a0 8 2 h k_a0) (mm_runS (as := [.ref a0, .int 8, .int 2]) (st := []) lk_X3_putExtensions_X3_putHead_28 dX3_putExtensions_4 rfl (Nat.le_of_ble_eq_true rfl)) rfl (fun h1 p2 => ?_)
  have k3 : mm_kd h1 a0 = 5 := mm_kd_app p2 k_a0 (by decide)
  refine ok_aload_n (q := 8) dX3_putExtensions_7 rfl rfl ?_
  refine ok_iconst (q := 9) (v := 0) dX3_putExtensions_8 ci_0 rfl ?_
  refine ok_iconst (q := 10) (v := 2) dX3_putExtensions_9 ci_2 rfl ?_
  refine mm_cv (q := 13) (mt_X6_putNumber G a0 0 2 h1 k3) (mm_runV (as := [.int 0, .int 2]) (st := []) cl_5 lk_X3_putExtensions_X6_putNumber_20 rfl dX3_putExtensions_10 rfl (Nat.le_of_ble_eq_true rfl) k3) rfl (fun h4 p5 => ?_)
  have k6 : mm_kd h4 a0 = 5 := mm_kd_app p5 k3 (by decide)
  exact ok_ret dX3_putExtensions_13 rfl
def bd_X3_putFinished (a0 : Nat) (a1 : Nat) (h : mm_H) : mm_O := mm_qv (bd_X3_putHead a0 20 32 h) (fun h1 =>
  mm_qv (bd_X6_append a0 a1 h1) (fun h5 =>
  some (none, h5)))
set_option maxHeartbeats 4000000 in
set_option maxRecDepth 100000 in
theorem mt_X3_putFinished (G : mm_G) (a0 : Nat) (a1 : Nat) (h : mm_H) (k_a0 : mm_kd h a0 = 5) (k_a1 : mm_kd h a1 = 5) : mm_Met G my_X3_putFinished [.ref a0, .ref a1] h (bd_X3_putFinished a0 a1 h) := by
  refine mm_met (ls := [.ref a0, .ref a1]) pn_RX3 (Nat.le_of_ble_eq_true rfl) rfl ?_
  unfold bd_X3_putFinished
  refine ok_aload_n (q := 1) dX3_putFinished_0 rfl rfl ?_
  refine ok_bipush (q := 3) (v := 20) dX3_putFinished_1 cb_20 rfl ?_
  refine ok_bipush (q := 5) (v := 32) dX3_putFinished_3 cb_32 rfl ?_
  refine mm_cv (q := 8) (mt_X3_putHead G a0 20 32 h k_a0) (mm_runS (as := [.ref a0, .int 20, .int 32]) (st := []) lk_X3_putFinished_X3_putHead_28 dX3_putFinished_5 rfl (Nat.le_of_ble_eq_true rfl)) rfl (fun h1 p2 => ?_)
  have k3 : mm_kd h1 a0 = 5 := mm_kd_app p2 k_a0 (by decide)
  have k4 : mm_kd h1 a1 = 5 := mm_kd_app p2 k_a1 (by decide)
  refine ok_aload_n (q := 9) dX3_putFinished_8 rfl rfl ?_
  refine ok_aload_n (q := 10) dX3_putFinished_9 rfl rfl ?_
  refine mm_cv (q := 13) (mt_X6_append G a0 a1 h1 k3 k4) (mm_runV (as := [.ref a1]) (st := []) cl_5 lk_X3_putFinished_X6_append_32 rfl dX3_putFinished_10 rfl (Nat.le_of_ble_eq_true rfl) k3) rfl (fun h5 p6 => ?_)
  have k7 : mm_kd h5 a0 = 5 := mm_kd_app p6 k3 (by decide)
  have k8 : mm_kd h5 a1 = 5 := mm_kd_app p6 k4 (by decide)
  exact ok_ret dX3_putFinished_13 rfl
def bd_X3_putServerHello (a0 : Nat) (a1 : Nat) (h : mm_H) : mm_O := mm_qv (bd_X3_putHead a0 2 52 h) (fun h1 =>
  mm_qv (bd_X6_put a0 3 h1) (fun h5 =>
  mm_qv (bd_X6_put a0 3 h5) (fun h9 =>
  mm_qv (bd_X6_append a0 a1 h9) (fun h13 =>
  mm_qv (bd_X6_putAll a0 9 h13) (fun h18 =>
  some (none, h18))))))
set_option maxHeartbeats 4000000 in
set_option maxRecDepth 100000 in
theorem mt_X3_putServerHello (G : mm_G) (a0 : Nat) (a1 : Nat) (h : mm_H) (k_a0 : mm_kd h a0 = 5) (k_a1 : mm_kd h a1 = 5) : mm_Met G my_X3_putServerHello [.ref a0, .ref a1] h (bd_X3_putServerHello a0 a1 h) := by
  refine mm_met (ls := [.ref a0, .ref a1]) pn_RX3 (Nat.le_of_ble_eq_true rfl) rfl ?_
  unfold bd_X3_putServerHello
  refine ok_aload_n (q := 1) dX3_putServerHello_0 rfl rfl ?_
  refine ok_iconst (q := 2) (v := 2) dX3_putServerHello_1 ci_2 rfl ?_
  refine ok_bipush (q := 4) (v := 52) dX3_putServerHello_2 cb_52 rfl ?_
  refine mm_cv (q := 7) (mt_X3_putHead G a0 2 52 h k_a0) (mm_runS (as := [.ref a0, .int 2, .int 52]) (st := []) lk_X3_putServerHello_X3_putHead_28 dX3_putServerHello_4 rfl (Nat.le_of_ble_eq_true rfl)) rfl (fun h1 p2 => ?_)
  have k3 : mm_kd h1 a0 = 5 := mm_kd_app p2 k_a0 (by decide)
  have k4 : mm_kd h1 a1 = 5 := mm_kd_app p2 k_a1 (by decide)
  refine ok_aload_n (q := 8) dX3_putServerHello_7 rfl rfl ?_
  refine ok_iconst (q := 9) (v := 3) dX3_putServerHello_8 ci_3 rfl ?_
  refine mm_cv (q := 12) (mt_X6_put G a0 3 h1 k3) (mm_runV (as := [.int 3]) (st := []) cl_5 lk_X3_putServerHello_X6_put_16 rfl dX3_putServerHello_9 rfl (Nat.le_of_ble_eq_true rfl) k3) rfl (fun h5 p6 => ?_)
  have k7 : mm_kd h5 a0 = 5 := mm_kd_app p6 k3 (by decide)
  have k8 : mm_kd h5 a1 = 5 := mm_kd_app p6 k4 (by decide)
  refine ok_aload_n (q := 13) dX3_putServerHello_12 rfl rfl ?_
  refine ok_iconst (q := 14) (v := 3) dX3_putServerHello_13 ci_3 rfl ?_
  refine mm_cv (q := 17) (mt_X6_put G a0 3 h5 k7) (mm_runV (as := [.int 3]) (st := []) cl_5 lk_X3_putServerHello_X6_put_16 rfl dX3_putServerHello_14 rfl (Nat.le_of_ble_eq_true rfl) k7) rfl (fun h9 p10 => ?_)
  have k11 : mm_kd h9 a0 = 5 := mm_kd_app p10 k7 (by decide)
  have k12 : mm_kd h9 a1 = 5 := mm_kd_app p10 k8 (by decide)
  refine ok_aload_n (q := 18) dX3_putServerHello_17 rfl rfl ?_
  refine ok_aload_n (q := 19) dX3_putServerHello_18 rfl rfl ?_
  refine mm_cv (q := 22) (mt_X6_append G a0 a1 h9 k11 k12) (mm_runV (as := [.ref a1]) (st := []) cl_5 lk_X3_putServerHello_X6_append_32 rfl dX3_putServerHello_19 rfl (Nat.le_of_ble_eq_true rfl) k11) rfl (fun h13 p14 => ?_)
  have k15 : mm_kd h13 a0 = 5 := mm_kd_app p14 k11 (by decide)
  have k16 : mm_kd h13 a1 = 5 := mm_kd_app p14 k12 (by decide)
  refine ok_aload_n (q := 23) dX3_putServerHello_22 rfl rfl ?_
  refine ok_gets (q := 26) (a := 9) (by decide +kernel) dX3_putServerHello_23 wd_852 (by decide) rfl (fun k17 => ?_)
  refine mm_cv (q := 29) (mt_X6_putAll G a0 9 h13 k15 k17) (mm_runV (as := [.ref 9]) (st := []) cl_5 lk_X3_putServerHello_X6_putAll_40 rfl dX3_putServerHello_26 rfl (Nat.le_of_ble_eq_true rfl) k15) rfl (fun h18 p19 => ?_)
  have k20 : mm_kd h18 a0 = 5 := mm_kd_app p19 k15 (by decide)
  have k21 : mm_kd h18 a1 = 5 := mm_kd_app p19 k16 (by decide)
  exact ok_ret dX3_putServerHello_29 rfl
def bd_X0_answerHello (a0 : Nat) (h : mm_H) : mm_O := mm_gr h a0 6 (fun b1 =>
  mm_gr h b1 5 (fun b3 =>
  mm_gr h a0 11 (fun b5 =>
  mm_gr h a0 6 (fun b7 =>
  mm_gr h b7 4 (fun b9 =>
  mm_qv (bd_X6_copy b5 b9 h) (fun h11 =>
  mm_gr h11 a0 10 (fun b15 =>
  mm_qv (bd_X3_putServerHello b3 b15 h11) (fun h17 =>
  mm_gr h17 a0 11 (fun b21 =>
  mm_qv (bd_X6_append b21 b3 h17) (fun h23 =>
  mm_qi (bd_X0_send a0 22 b3 h23) (fun v29 h27 =>
  mm_gr h27 a0 6 (fun b32 =>
  mm_gr h27 b32 0 (fun b34 =>
  mm_gr h27 a0 11 (fun b36 =>
  mm_gr h27 a0 6 (fun b38 =>
  mm_gr h27 b38 7 (fun b40 =>
  mm_qv (bd_X9_digest b34 b36 b40 h27) (fun h42 =>
  mm_gr h42 a0 3 (fun b46 =>
  mm_gr h42 a0 6 (fun b48 =>
  mm_gr h42 b48 1 (fun b50 =>
  mm_gr h42 a0 7 (fun b52 =>
  mm_gr h42 b52 1 (fun b54 =>
  mm_gr h42 a0 6 (fun b57 =>
  mm_gr h42 b57 7 (fun b59 =>
  mm_qv (bd_X2_load b46 b50 b54 17 b59 h42) (fun h61 =>
  mm_gr h61 a0 2 (fun b65 =>
  mm_gr h61 a0 6 (fun b67 =>
  mm_gr h61 b67 1 (fun b69 =>
  mm_gr h61 a0 7 (fun b71 =>
  mm_gr h61 b71 1 (fun b73 =>
  mm_gr h61 a0 6 (fun b76 =>
  mm_gr h61 b76 7 (fun b78 =>
  mm_qv (bd_X2_load b65 b69 b73 18 b78 h61) (fun h80 =>
  mm_qv (bd_X3_putExtensions b3 h80) (fun h84 =>
  mm_gr h84 a0 11 (fun b88 =>
  mm_qv (bd_X6_append b88 b3 h84) (fun h90 =>
  mm_qi (bd_X0_send a0 22 b3 h90) (fun v96 h94 =>
  mm_gr h94 a0 7 (fun b99 =>
  mm_gr h94 a0 2 (fun b101 =>
  mm_gr h94 b101 0 (fun b103 =>
  mm_gr h94 a0 11 (fun b105 =>
  mm_gr h94 a0 6 (fun b107 =>
  mm_gr h94 b107 8 (fun b109 =>
  mm_qv (bd_X7_prove b99 b103 b105 b109 h94) (fun h111 =>
  mm_gr h111 a0 6 (fun b115 =>
  mm_gr h111 b115 8 (fun b117 =>
  mm_qv (bd_X3_putFinished b3 b117 h111) (fun h119 =>
  mm_gr h119 a0 11 (fun b123 =>
  mm_qv (bd_X6_append b123 b3 h119) (fun h125 =>
  mm_qi (bd_X0_send a0 22 b3 h125) (fun v131 h129 =>
  mm_gr h129 a0 6 (fun b134 =>
  mm_gr h129 b134 0 (fun b136 =>
  mm_gr h129 a0 11 (fun b138 =>
  mm_gr h129 a0 6 (fun b140 =>
  mm_gr h129 b140 7 (fun b142 =>
  mm_qv (bd_X9_digest b136 b138 b142 h129) (fun h144 =>
  mm_gr h144 a0 2 (fun b148 =>
  mm_gr h144 a0 6 (fun b150 =>
  mm_gr h144 b150 1 (fun b152 =>
  mm_gr h144 a0 7 (fun b154 =>
  mm_gr h144 b154 2 (fun b156 =>
  mm_gr h144 a0 6 (fun b159 =>
  mm_gr h144 b159 7 (fun b161 =>
  mm_qv (bd_X2_load b148 b152 b156 19 b161 h144) (fun h163 =>
  mm_bh (mm_si h163 a0 5 5) (fun h167 =>
  some (none, h167))))))))))))))))))))))))))))))))))))))))))))))))))))))))))))))))))
set_option maxHeartbeats 4000000 in
set_option maxRecDepth 100000 in
theorem mt_X0_answerHello (G : mm_G) (a0 : Nat) (h : mm_H) (k_a0 : mm_kd h a0 = 0) : mm_Met G my_X0_answerHello [.ref a0] h (bd_X0_answerHello a0 h) := by
  refine mm_met (ls := [.ref a0, mm_U]) pn_RX0 (Nat.le_of_ble_eq_true rfl) rfl ?_
  unfold bd_X0_answerHello
  refine ok_aload_n (q := 1) dX0_answerHello_0 rfl rfl ?_
  refine ok_getR cl_0 (q := 4) (k := 6) dX0_answerHello_1 (Nat.le_of_ble_eq_true rfl) wd_388 (fun _ _ _ => rfl) kt_0_6 k_a0 rfl (fun b1 k2 => ?_)
  refine ok_getR cl_9 (q := 7) (k := 5) dX0_answerHello_4 (Nat.le_of_ble_eq_true rfl) wd_252 (fun _ _ _ => rfl) kt_9_5 k2 rfl (fun b3 k4 => ?_)
  refine ok_astore_n (q := 8) (ls' := [.ref a0, .ref b3]) dX0_answerHello_7 (Nat.le_of_ble_eq_true rfl) rfl rfl ?_
  refine ok_aload_n (q := 9) dX0_answerHello_8 rfl rfl ?_
  refine ok_getR cl_0 (q := 12) (k := 11) dX0_answerHello_9 (Nat.le_of_ble_eq_true rfl) wd_393 (fun _ _ _ => rfl) kt_0_11 k_a0 rfl (fun b5 k6 => ?_)
  refine ok_aload_n (q := 13) dX0_answerHello_12 rfl rfl ?_
  refine ok_getR cl_0 (q := 16) (k := 6) dX0_answerHello_13 (Nat.le_of_ble_eq_true rfl) wd_388 (fun _ _ _ => rfl) kt_0_6 k_a0 rfl (fun b7 k8 => ?_)
  refine ok_getR cl_9 (q := 19) (k := 4) dX0_answerHello_16 (Nat.le_of_ble_eq_true rfl) wd_250 (fun _ _ _ => rfl) kt_9_4 k8 rfl (fun b9 k10 => ?_)
  refine mm_cv (q := 22) (mt_X6_copy G b5 b9 h k6 k10) (mm_runV (as := [.ref b9]) (st := []) cl_5 lk_X0_answerHello_X6_copy_107 rfl dX0_answerHello_19 rfl (Nat.le_of_ble_eq_true rfl) k6) rfl (fun h11 p12 => ?_)
  have k13 : mm_kd h11 a0 = 0 := mm_kd_app p12 k_a0 (by decide)
  have k14 : mm_kd h11 b3 = 5 := mm_kd_app p12 k4 (by decide)
  refine ok_aload_n (q := 23) dX0_answerHello_22 rfl rfl ?_
  refine ok_aload_n (q := 24) dX0_answerHello_23 rfl rfl ?_
  refine ok_getR cl_0 (q := 27) (k := 10) dX0_answerHello_24 (Nat.le_of_ble_eq_true rfl) wd_392 (fun _ _ _ => rfl) kt_0_10 k13 rfl (fun b15 k16 => ?_)
  refine mm_cv (q := 30) (mt_X3_putServerHello G b3 b15 h11 k14 k16) (mm_runS (as := [.ref b3, .ref b15]) (st := []) lk_X0_answerHello_X3_putServerHello_271 dX0_answerHello_27 rfl (Nat.le_of_ble_eq_true rfl)) rfl (fun h17 p18 => ?_)
  have k19 : mm_kd h17 a0 = 0 := mm_kd_app p18 k13 (by decide)
  have k20 : mm_kd h17 b3 = 5 := mm_kd_app p18 k14 (by decide)
  refine ok_aload_n (q := 31) dX0_answerHello_30 rfl rfl ?_
  refine ok_getR cl_0 (q := 34) (k := 11) dX0_answerHello_31 (Nat.le_of_ble_eq_true rfl) wd_393 (fun _ _ _ => rfl) kt_0_11 k19 rfl (fun b21 k22 => ?_)
  refine ok_aload_n (q := 35) dX0_answerHello_34 rfl rfl ?_
  refine mm_cv (q := 38) (mt_X6_append G b21 b3 h17 k22 k20) (mm_runV (as := [.ref b3]) (st := []) cl_5 lk_X0_answerHello_X6_append_137 rfl dX0_answerHello_35 rfl (Nat.le_of_ble_eq_true rfl) k22) rfl (fun h23 p24 => ?_)
  have k25 : mm_kd h23 a0 = 0 := mm_kd_app p24 k19 (by decide)
  have k26 : mm_kd h23 b3 = 5 := mm_kd_app p24 k20 (by decide)
  refine ok_aload_n (q := 39) dX0_answerHello_38 rfl rfl ?_
  refine ok_bipush (q := 41) (v := 22) dX0_answerHello_39 cb_22 rfl ?_
  refine ok_aload_n (q := 42) dX0_answerHello_41 rfl rfl ?_
  refine mm_ci (q := 45) (mt_X0_send G a0 22 b3 h23 k25 k26) (mm_runV (as := [.int 22, .ref b3]) (st := []) cl_0 lk_X0_answerHello_X0_send_140 rfl dX0_answerHello_42 rfl (Nat.le_of_ble_eq_true rfl) k25) rfl (fun v29 h27 p28 => ?_)
  have k30 : mm_kd h27 a0 = 0 := mm_kd_app p28 k25 (by decide)
  have k31 : mm_kd h27 b3 = 5 := mm_kd_app p28 k26 (by decide)
  refine ok_pop (q := 46) dX0_answerHello_45 rfl rfl ?_
  refine ok_aload_n (q := 47) dX0_answerHello_46 rfl rfl ?_
  refine ok_getR cl_0 (q := 50) (k := 6) dX0_answerHello_47 (Nat.le_of_ble_eq_true rfl) wd_388 (fun _ _ _ => rfl) kt_0_6 k30 rfl (fun b32 k33 => ?_)
  refine ok_getR cl_9 (q := 53) (k := 0) dX0_answerHello_50 (Nat.le_of_ble_eq_true rfl) wd_242 (fun _ _ _ => rfl) kt_9_0 k33 rfl (fun b34 k35 => ?_)
  refine ok_aload_n (q := 54) dX0_answerHello_53 rfl rfl ?_
  refine ok_getR cl_0 (q := 57) (k := 11) dX0_answerHello_54 (Nat.le_of_ble_eq_true rfl) wd_393 (fun _ _ _ => rfl) kt_0_11 k30 rfl (fun b36 k37 => ?_)
  refine ok_aload_n (q := 58) dX0_answerHello_57 rfl rfl ?_
  refine ok_getR cl_0 (q := 61) (k := 6) dX0_answerHello_58 (Nat.le_of_ble_eq_true rfl) wd_388 (fun _ _ _ => rfl) kt_0_6 k30 rfl (fun b38 k39 => ?_)
  refine ok_getR cl_9 (q := 64) (k := 7) dX0_answerHello_61 (Nat.le_of_ble_eq_true rfl) wd_257 (fun _ _ _ => rfl) kt_9_7 k39 rfl (fun b40 k41 => ?_)
  refine mm_cv (q := 67) (mt_X9_digest G b34 b36 b40 h27 k35 k37 k41) (mm_runV (as := [.ref b36, .ref b40]) (st := []) cl_8 lk_X0_answerHello_X9_digest_300 rfl dX0_answerHello_64 rfl (Nat.le_of_ble_eq_true rfl) k35) rfl (fun h42 p43 => ?_)
  have k44 : mm_kd h42 a0 = 0 := mm_kd_app p43 k30 (by decide)
  have k45 : mm_kd h42 b3 = 5 := mm_kd_app p43 k31 (by decide)
  refine ok_aload_n (q := 68) dX0_answerHello_67 rfl rfl ?_
  refine ok_getR cl_0 (q := 71) (k := 3) dX0_answerHello_68 (Nat.le_of_ble_eq_true rfl) wd_382 (fun _ _ _ => rfl) kt_0_3 k44 rfl (fun b46 k47 => ?_)
  refine ok_aload_n (q := 72) dX0_answerHello_71 rfl rfl ?_
  refine ok_getR cl_0 (q := 75) (k := 6) dX0_answerHello_72 (Nat.le_of_ble_eq_true rfl) wd_388 (fun _ _ _ => rfl) kt_0_6 k44 rfl (fun b48 k49 => ?_)
  refine ok_getR cl_9 (q := 78) (k := 1) dX0_answerHello_75 (Nat.le_of_ble_eq_true rfl) wd_244 (fun _ _ _ => rfl) kt_9_1 k49 rfl (fun b50 k51 => ?_)
  refine ok_aload_n (q := 79) dX0_answerHello_78 rfl rfl ?_
  refine ok_getR cl_0 (q := 82) (k := 7) dX0_answerHello_79 (Nat.le_of_ble_eq_true rfl) wd_389 (fun _ _ _ => rfl) kt_0_7 k44 rfl (fun b52 k53 => ?_)
  refine ok_getR cl_6 (q := 85) (k := 1) dX0_answerHello_82 (Nat.le_of_ble_eq_true rfl) wd_357 (fun _ _ _ => rfl) kt_6_1 k53 rfl (fun b54 k55 => ?_)
  refine ok_ldcSw (q := 88) (a := 17) (tx := "c hs traffic") (by decide +kernel) dX0_answerHello_85 (by decide) rfl (fun k56 => ?_)
  refine ok_aload_n (q := 89) dX0_answerHello_88 rfl rfl ?_
  refine ok_getR cl_0 (q := 92) (k := 6) dX0_answerHello_89 (Nat.le_of_ble_eq_true rfl) wd_388 (fun _ _ _ => rfl) kt_0_6 k44 rfl (fun b57 k58 => ?_)
  refine ok_getR cl_9 (q := 95) (k := 7) dX0_answerHello_92 (Nat.le_of_ble_eq_true rfl) wd_257 (fun _ _ _ => rfl) kt_9_7 k58 rfl (fun b59 k60 => ?_)
  refine mm_cv (q := 98) (mt_X2_load G b46 b50 b54 17 b59 h42 k47 k51 k55 k56 k60) (mm_runV (as := [.ref b50, .ref b54, .ref 17, .ref b59]) (st := []) cl_2 lk_X0_answerHello_X2_load_158 rfl dX0_answerHello_95 rfl (Nat.le_of_ble_eq_true rfl) k47) rfl (fun h61 p62 => ?_)
  have k63 : mm_kd h61 a0 = 0 := mm_kd_app p62 k44 (by decide)
  have k64 : mm_kd h61 b3 = 5 := mm_kd_app p62 k45 (by decide)
  refine ok_aload_n (q := 99) dX0_answerHello_98 rfl rfl ?_
  refine ok_getR cl_0 (q := 102) (k := 2) dX0_answerHello_99 (Nat.le_of_ble_eq_true rfl) wd_380 (fun _ _ _ => rfl) kt_0_2 k63 rfl (fun b65 k66 => ?_)
  refine ok_aload_n (q := 103) dX0_answerHello_102 rfl rfl ?_
  refine ok_getR cl_0 (q := 106) (k := 6) dX0_answerHello_103 (Nat.le_of_ble_eq_true rfl) wd_388 (fun _ _ _ => rfl) kt_0_6 k63 rfl (fun b67 k68 => ?_)
  refine ok_getR cl_9 (q := 109) (k := 1) dX0_answerHello_106 (Nat.le_of_ble_eq_true rfl) wd_244 (fun _ _ _ => rfl) kt_9_1 k68 rfl (fun b69 k70 => ?_)
  refine ok_aload_n (q := 110) dX0_answerHello_109 rfl rfl ?_
  refine ok_getR cl_0 (q := 113) (k := 7) dX0_answerHello_110 (Nat.le_of_ble_eq_true rfl) wd_389 (fun _ _ _ => rfl) kt_0_7 k63 rfl (fun b71 k72 => ?_)
  refine ok_getR cl_6 (q := 116) (k := 1) dX0_answerHello_113 (Nat.le_of_ble_eq_true rfl) wd_357 (fun _ _ _ => rfl) kt_6_1 k72 rfl (fun b73 k74 => ?_)
  refine ok_ldcSw (q := 119) (a := 18) (tx := "s hs traffic") (by decide +kernel) dX0_answerHello_116 (by decide) rfl (fun k75 => ?_)
  refine ok_aload_n (q := 120) dX0_answerHello_119 rfl rfl ?_
  refine ok_getR cl_0 (q := 123) (k := 6) dX0_answerHello_120 (Nat.le_of_ble_eq_true rfl) wd_388 (fun _ _ _ => rfl) kt_0_6 k63 rfl (fun b76 k77 => ?_)
  refine ok_getR cl_9 (q := 126) (k := 7) dX0_answerHello_123 (Nat.le_of_ble_eq_true rfl) wd_257 (fun _ _ _ => rfl) kt_9_7 k77 rfl (fun b78 k79 => ?_)
  refine mm_cv (q := 129) (mt_X2_load G b65 b69 b73 18 b78 h61 k66 k70 k74 k75 k79) (mm_runV (as := [.ref b69, .ref b73, .ref 18, .ref b78]) (st := []) cl_2 lk_X0_answerHello_X2_load_158 rfl dX0_answerHello_126 rfl (Nat.le_of_ble_eq_true rfl) k66) rfl (fun h80 p81 => ?_)
  have k82 : mm_kd h80 a0 = 0 := mm_kd_app p81 k63 (by decide)
  have k83 : mm_kd h80 b3 = 5 := mm_kd_app p81 k64 (by decide)
  refine ok_aload_n (q := 130) dX0_answerHello_129 rfl rfl ?_
  refine mm_cv (q := 133) (mt_X3_putExtensions G b3 h80 k83) (mm_runS (as := [.ref b3]) (st := []) lk_X0_answerHello_X3_putExtensions_277 dX0_answerHello_130 rfl (Nat.le_of_ble_eq_true rfl)) rfl (fun h84 p85 => ?_)
  have k86 : mm_kd h84 a0 = 0 := mm_kd_app p85 k82 (by decide)
  have k87 : mm_kd h84 b3 = 5 := mm_kd_app p85 k83 (by decide)
  refine ok_aload_n (q := 134) dX0_answerHello_133 rfl rfl ?_
  refine ok_getR cl_0 (q := 137) (k := 11) dX0_answerHello_134 (Nat.le_of_ble_eq_true rfl) wd_393 (fun _ _ _ => rfl) kt_0_11 k86 rfl (fun b88 k89 => ?_)
  refine ok_aload_n (q := 138) dX0_answerHello_137 rfl rfl ?_
  refine mm_cv (q := 141) (mt_X6_append G b88 b3 h84 k89 k87) (mm_runV (as := [.ref b3]) (st := []) cl_5 lk_X0_answerHello_X6_append_137 rfl dX0_answerHello_138 rfl (Nat.le_of_ble_eq_true rfl) k89) rfl (fun h90 p91 => ?_)
  have k92 : mm_kd h90 a0 = 0 := mm_kd_app p91 k86 (by decide)
  have k93 : mm_kd h90 b3 = 5 := mm_kd_app p91 k87 (by decide)
  refine ok_aload_n (q := 142) dX0_answerHello_141 rfl rfl ?_
  refine ok_bipush (q := 144) (v := 22) dX0_answerHello_142 cb_22 rfl ?_
  refine ok_aload_n (q := 145) dX0_answerHello_144 rfl rfl ?_
  refine mm_ci (q := 148) (mt_X0_send G a0 22 b3 h90 k92 k93) (mm_runV (as := [.int 22, .ref b3]) (st := []) cl_0 lk_X0_answerHello_X0_send_140 rfl dX0_answerHello_145 rfl (Nat.le_of_ble_eq_true rfl) k92) rfl (fun v96 h94 p95 => ?_)
  have k97 : mm_kd h94 a0 = 0 := mm_kd_app p95 k92 (by decide)
  have k98 : mm_kd h94 b3 = 5 := mm_kd_app p95 k93 (by decide)
  refine ok_pop (q := 149) dX0_answerHello_148 rfl rfl ?_
  refine ok_aload_n (q := 150) dX0_answerHello_149 rfl rfl ?_
  refine ok_getR cl_0 (q := 153) (k := 7) dX0_answerHello_150 (Nat.le_of_ble_eq_true rfl) wd_389 (fun _ _ _ => rfl) kt_0_7 k97 rfl (fun b99 k100 => ?_)
  refine ok_aload_n (q := 154) dX0_answerHello_153 rfl rfl ?_
  refine ok_getR cl_0 (q := 157) (k := 2) dX0_answerHello_154 (Nat.le_of_ble_eq_true rfl) wd_380 (fun _ _ _ => rfl) kt_0_2 k97 rfl (fun b101 k102 => ?_)
  refine ok_getR cl_2 (q := 160) (k := 0) dX0_answerHello_157 (Nat.le_of_ble_eq_true rfl) wd_323 (fun _ _ _ => rfl) kt_2_0 k102 rfl (fun b103 k104 => ?_)
  refine ok_aload_n (q := 161) dX0_answerHello_160 rfl rfl ?_
  refine ok_getR cl_0 (q := 164) (k := 11) dX0_answerHello_161 (Nat.le_of_ble_eq_true rfl) wd_393 (fun _ _ _ => rfl) kt_0_11 k97 rfl (fun b105 k106 => ?_)
  refine ok_aload_n (q := 165) dX0_answerHello_164 rfl rfl ?_
  refine ok_getR cl_0 (q := 168) (k := 6) dX0_answerHello_165 (Nat.le_of_ble_eq_true rfl) wd_388 (fun _ _ _ => rfl) kt_0_6 k97 rfl (fun b107 k108 => ?_)
  refine ok_getR cl_9 (q := 171) (k := 8) dX0_answerHello_168 (Nat.le_of_ble_eq_true rfl) wd_259 (fun _ _ _ => rfl) kt_9_8 k108 rfl (fun b109 k110 => ?_)
  refine mm_cv (q := 174) (mt_X7_prove G b99 b103 b105 b109 h94 k100 k104 k106 k110) (mm_runV (as := [.ref b103, .ref b105, .ref b109]) (st := []) cl_6 lk_X0_answerHello_X7_prove_127 rfl dX0_answerHello_171 rfl (Nat.le_of_ble_eq_true rfl) k100) rfl (fun h111 p112 => ?_)
  have k113 : mm_kd h111 a0 = 0 := mm_kd_app p112 k97 (by decide)
  have k114 : mm_kd h111 b3 = 5 := mm_kd_app p112 k98 (by decide)
  refine ok_aload_n (q := 175) dX0_answerHello_174 rfl rfl ?_
  refine ok_aload_n (q := 176) dX0_answerHello_175 rfl rfl ?_
  refine ok_getR cl_0 (q := 179) (k := 6) dX0_answerHello_176 (Nat.le_of_ble_eq_true rfl) wd_388 (fun _ _ _ => rfl) kt_0_6 k113 rfl (fun b115 k116 => ?_)
  refine ok_getR cl_9 (q := 182) (k := 8) dX0_answerHello_179 (Nat.le_of_ble_eq_true rfl) wd_259 (fun _ _ _ => rfl) kt_9_8 k116 rfl (fun b117 k118 => ?_)
  refine mm_cv (q := 185) (mt_X3_putFinished G b3 b117 h111 k114 k118) (mm_runS (as := [.ref b3, .ref b117]) (st := []) lk_X0_answerHello_X3_putFinished_311 dX0_answerHello_182 rfl (Nat.le_of_ble_eq_true rfl)) rfl (fun h119 p120 => ?_)
  have k121 : mm_kd h119 a0 = 0 := mm_kd_app p120 k113 (by decide)
  have k122 : mm_kd h119 b3 = 5 := mm_kd_app p120 k114 (by decide)
  refine ok_aload_n (q := 186) dX0_answerHello_185 rfl rfl ?_
  refine ok_getR cl_0 (q := 189) (k := 11) dX0_answerHello_186 (Nat.le_of_ble_eq_true rfl) wd_393 (fun _ _ _ => rfl) kt_0_11 k121 rfl (fun b123 k124 => ?_)
  refine ok_aload_n (q := 190) dX0_answerHello_189 rfl rfl ?_
  refine mm_cv (q := 193) (mt_X6_append G b123 b3 h119 k124 k122) (mm_runV (as := [.ref b3]) (st := []) cl_5 lk_X0_answerHello_X6_append_137 rfl dX0_answerHello_190 rfl (Nat.le_of_ble_eq_true rfl) k124) rfl (fun h125 p126 => ?_)
  have k127 : mm_kd h125 a0 = 0 := mm_kd_app p126 k121 (by decide)
  have k128 : mm_kd h125 b3 = 5 := mm_kd_app p126 k122 (by decide)
  refine ok_aload_n (q := 194) dX0_answerHello_193 rfl rfl ?_
  refine ok_bipush (q := 196) (v := 22) dX0_answerHello_194 cb_22 rfl ?_
  refine ok_aload_n (q := 197) dX0_answerHello_196 rfl rfl ?_
  refine mm_ci (q := 200) (mt_X0_send G a0 22 b3 h125 k127 k128) (mm_runV (as := [.int 22, .ref b3]) (st := []) cl_0 lk_X0_answerHello_X0_send_140 rfl dX0_answerHello_197 rfl (Nat.le_of_ble_eq_true rfl) k127) rfl (fun v131 h129 p130 => ?_)
  have k132 : mm_kd h129 a0 = 0 := mm_kd_app p130 k127 (by decide)
  have k133 : mm_kd h129 b3 = 5 := mm_kd_app p130 k128 (by decide)
  refine ok_pop (q := 201) dX0_answerHello_200 rfl rfl ?_
  refine ok_aload_n (q := 202) dX0_answerHello_201 rfl rfl ?_
  refine ok_getR cl_0 (q := 205) (k := 6) dX0_answerHello_202 (Nat.le_of_ble_eq_true rfl) wd_388 (fun _ _ _ => rfl) kt_0_6 k132 rfl (fun b134 k135 => ?_)
  refine ok_getR cl_9 (q := 208) (k := 0) dX0_answerHello_205 (Nat.le_of_ble_eq_true rfl) wd_242 (fun _ _ _ => rfl) kt_9_0 k135 rfl (fun b136 k137 => ?_)
  refine ok_aload_n (q := 209) dX0_answerHello_208 rfl rfl ?_
  refine ok_getR cl_0 (q := 212) (k := 11) dX0_answerHello_209 (Nat.le_of_ble_eq_true rfl) wd_393 (fun _ _ _ => rfl) kt_0_11 k132 rfl (fun b138 k139 => ?_)
  refine ok_aload_n (q := 213) dX0_answerHello_212 rfl rfl ?_
  refine ok_getR cl_0 (q := 216) (k := 6) dX0_answerHello_213 (Nat.le_of_ble_eq_true rfl) wd_388 (fun _ _ _ => rfl) kt_0_6 k132 rfl (fun b140 k141 => ?_)
  refine ok_getR cl_9 (q := 219) (k := 7) dX0_answerHello_216 (Nat.le_of_ble_eq_true rfl) wd_257 (fun _ _ _ => rfl) kt_9_7 k141 rfl (fun b142 k143 => ?_)
  refine mm_cv (q := 222) (mt_X9_digest G b136 b138 b142 h129 k137 k139 k143) (mm_runV (as := [.ref b138, .ref b142]) (st := []) cl_8 lk_X0_answerHello_X9_digest_300 rfl dX0_answerHello_219 rfl (Nat.le_of_ble_eq_true rfl) k137) rfl (fun h144 p145 => ?_)
  have k146 : mm_kd h144 a0 = 0 := mm_kd_app p145 k132 (by decide)
  have k147 : mm_kd h144 b3 = 5 := mm_kd_app p145 k133 (by decide)
  refine ok_aload_n (q := 223) dX0_answerHello_222 rfl rfl ?_
  refine ok_getR cl_0 (q := 226) (k := 2) dX0_answerHello_223 (Nat.le_of_ble_eq_true rfl) wd_380 (fun _ _ _ => rfl) kt_0_2 k146 rfl (fun b148 k149 => ?_)
  refine ok_aload_n (q := 227) dX0_answerHello_226 rfl rfl ?_
  refine ok_getR cl_0 (q := 230) (k := 6) dX0_answerHello_227 (Nat.le_of_ble_eq_true rfl) wd_388 (fun _ _ _ => rfl) kt_0_6 k146 rfl (fun b150 k151 => ?_)
  refine ok_getR cl_9 (q := 233) (k := 1) dX0_answerHello_230 (Nat.le_of_ble_eq_true rfl) wd_244 (fun _ _ _ => rfl) kt_9_1 k151 rfl (fun b152 k153 => ?_)
  refine ok_aload_n (q := 234) dX0_answerHello_233 rfl rfl ?_
  refine ok_getR cl_0 (q := 237) (k := 7) dX0_answerHello_234 (Nat.le_of_ble_eq_true rfl) wd_389 (fun _ _ _ => rfl) kt_0_7 k146 rfl (fun b154 k155 => ?_)
  refine ok_getR cl_6 (q := 240) (k := 2) dX0_answerHello_237 (Nat.le_of_ble_eq_true rfl) wd_359 (fun _ _ _ => rfl) kt_6_2 k155 rfl (fun b156 k157 => ?_)
  refine ok_ldcSw (q := 243) (a := 19) (tx := "s ap traffic") (by decide +kernel) dX0_answerHello_240 (by decide) rfl (fun k158 => ?_)
  refine ok_aload_n (q := 244) dX0_answerHello_243 rfl rfl ?_
  refine ok_getR cl_0 (q := 247) (k := 6) dX0_answerHello_244 (Nat.le_of_ble_eq_true rfl) wd_388 (fun _ _ _ => rfl) kt_0_6 k146 rfl (fun b159 k160 => ?_)
  refine ok_getR cl_9 (q := 250) (k := 7) dX0_answerHello_247 (Nat.le_of_ble_eq_true rfl) wd_257 (fun _ _ _ => rfl) kt_9_7 k160 rfl (fun b161 k162 => ?_)
  refine mm_cv (q := 253) (mt_X2_load G b148 b152 b156 19 b161 h144 k149 k153 k157 k158 k162) (mm_runV (as := [.ref b152, .ref b156, .ref 19, .ref b161]) (st := []) cl_2 lk_X0_answerHello_X2_load_158 rfl dX0_answerHello_250 rfl (Nat.le_of_ble_eq_true rfl) k149) rfl (fun h163 p164 => ?_)
  have k165 : mm_kd h163 a0 = 0 := mm_kd_app p164 k146 (by decide)
  have k166 : mm_kd h163 b3 = 5 := mm_kd_app p164 k147 (by decide)
  refine ok_aload_n (q := 254) dX0_answerHello_253 rfl rfl ?_
  refine ok_iconst (q := 255) (v := 5) dX0_answerHello_254 ci_5 rfl ?_
  refine ok_putI cl_0 (q := 258) (k := 5) dX0_answerHello_255 (Nat.le_of_ble_eq_true rfl) wd_386 (Or.inl rfl) (fun _ _ _ => rfl) rfl rfl k165 rfl (bh_ok (fun h167 e168 => ?_))
  have e168 : h167.1 = h163.1 := e168
  exact ok_ret dX0_answerHello_258 rfl
def bd_X0_fail (a0 : Nat) (x1 : Int32) (h : mm_H) : mm_O := mm_bh (mm_si h a0 14 x1) (fun h1 =>
  mm_gr h1 a0 6 (fun b3 =>
  mm_gr h1 b3 5 (fun b5 =>
  mm_qv (bd_X3_putAlert b5 2 x1 h1) (fun h7 =>
  mm_gr h7 a0 6 (fun b10 =>
  mm_gr h7 b10 5 (fun b12 =>
  mm_qi (bd_X0_send a0 21 b12 h7) (fun v16 h14 =>
  mm_bh (mm_si h14 a0 5 7) (fun h18 =>
  some (none, h18)))))))))
set_option maxHeartbeats 4000000 in
set_option maxRecDepth 100000 in
theorem mt_X0_fail (G : mm_G) (a0 : Nat) (x1 : Int32) (h : mm_H) (k_a0 : mm_kd h a0 = 0) : mm_Met G my_X0_fail [.ref a0, .int x1] h (bd_X0_fail a0 x1 h) := by
  refine mm_met (ls := [.ref a0, .int x1]) pn_RX0 (Nat.le_of_ble_eq_true rfl) rfl ?_
  unfold bd_X0_fail
  refine ok_aload_n (q := 1) dX0_fail_0 rfl rfl ?_
  refine ok_iload_n (q := 2) dX0_fail_1 rfl rfl ?_
  refine ok_putI cl_0 (q := 5) (k := 14) dX0_fail_2 (Nat.le_of_ble_eq_true rfl) wd_396 (Or.inl rfl) (fun _ _ _ => rfl) rfl rfl k_a0 rfl (bh_ok (fun h1 e2 => ?_))
  have e2 : h1.1 = h.1 := e2
  refine ok_aload_n (q := 6) dX0_fail_5 rfl rfl ?_
  refine ok_getR cl_0 (q := 9) (k := 6) dX0_fail_6 (Nat.le_of_ble_eq_true rfl) wd_388 (fun _ _ _ => rfl) kt_0_6 (mm_ke e2 k_a0) rfl (fun b3 k4 => ?_)
  refine ok_getR cl_9 (q := 12) (k := 5) dX0_fail_9 (Nat.le_of_ble_eq_true rfl) wd_252 (fun _ _ _ => rfl) kt_9_5 (mm_ke e2 (mm_ke e2.symm k4)) rfl (fun b5 k6 => ?_)
  refine ok_iconst (q := 13) (v := 2) dX0_fail_12 ci_2 rfl ?_
  refine ok_iload_n (q := 14) dX0_fail_13 rfl rfl ?_
  refine mm_cv (q := 17) (mt_X3_putAlert G b5 2 x1 h1 (mm_ke e2 (mm_ke e2.symm k6))) (mm_runS (as := [.ref b5, .int 2, .int x1]) (st := []) lk_X0_fail_X3_putAlert_162 dX0_fail_14 rfl (Nat.le_of_ble_eq_true rfl)) rfl (fun h7 p8 => ?_)
  have k9 : mm_kd h7 a0 = 0 := mm_kd_app p8 (mm_ke e2 k_a0) (by decide)
  refine ok_aload_n (q := 18) dX0_fail_17 rfl rfl ?_
  refine ok_bipush (q := 20) (v := 21) dX0_fail_18 cb_21 rfl ?_
  refine ok_aload_n (q := 21) dX0_fail_20 rfl rfl ?_
  refine ok_getR cl_0 (q := 24) (k := 6) dX0_fail_21 (Nat.le_of_ble_eq_true rfl) wd_388 (fun _ _ _ => rfl) kt_0_6 k9 rfl (fun b10 k11 => ?_)
  refine ok_getR cl_9 (q := 27) (k := 5) dX0_fail_24 (Nat.le_of_ble_eq_true rfl) wd_252 (fun _ _ _ => rfl) kt_9_5 k11 rfl (fun b12 k13 => ?_)
  refine mm_ci (q := 30) (mt_X0_send G a0 21 b12 h7 k9 k13) (mm_runV (as := [.int 21, .ref b12]) (st := []) cl_0 lk_X0_fail_X0_send_140 rfl dX0_fail_27 rfl (Nat.le_of_ble_eq_true rfl) k9) rfl (fun v16 h14 p15 => ?_)
  have k17 : mm_kd h14 a0 = 0 := mm_kd_app p15 k9 (by decide)
  refine ok_pop (q := 31) dX0_fail_30 rfl rfl ?_
  refine ok_aload_n (q := 32) dX0_fail_31 rfl rfl ?_
  refine ok_bipush (q := 34) (v := 7) dX0_fail_32 cb_7 rfl ?_
  refine ok_putI cl_0 (q := 37) (k := 5) dX0_fail_34 (Nat.le_of_ble_eq_true rfl) wd_386 (Or.inl rfl) (fun _ _ _ => rfl) rfl rfl k17 rfl (bh_ok (fun h18 e19 => ?_))
  have e19 : h18.1 = h14.1 := e19
  exact ok_ret dX0_fail_37 rfl
def bd_X6_at (a0 : Nat) (x1 : Int32) (h : mm_H) : mm_O := if x1 < 0 then
  (some (some (.int (-1)), h))
  else
  (if (mm_i h a0 1) ≤ x1 then
  (some (some (.int (-1)), h))
  else
  (mm_gr h a0 0 (fun b1 =>
  if mm_in x1 (mm_ln h b1) = true then (some (some (.int (mm_i h b1 (mm_n x1))), h)) else none)))
set_option maxHeartbeats 4000000 in
set_option maxRecDepth 100000 in
theorem mt_X6_at (G : mm_G) (a0 : Nat) (x1 : Int32) (h : mm_H) (k_a0 : mm_kd h a0 = 5) : mm_Met G my_X6_at [.ref a0, .int x1] h (bd_X6_at a0 x1 h) := by
  refine mm_met (ls := [.ref a0, .int x1]) pn_RX6 (Nat.le_of_ble_eq_true rfl) rfl ?_
  unfold bd_X6_at
  refine ok_iload_n (q := 1) dX6_at_0 rfl rfl ?_
  refine ok_if_lt (q := 4) (t := 21) dX6_at_1 rfl rfl ?_ ?_
  · refine ok_iconst (q := 22) (v := -1) dX6_at_21 ci_m1 rfl ?_
    exact ok_iret (t := .int) dX6_at_22 rfl rfl
  · refine ok_iload_n (q := 5) dX6_at_4 rfl rfl ?_
    refine ok_aload_n (q := 6) dX6_at_5 rfl rfl ?_
    refine ok_getI cl_5 (q := 9) (k := 1) dX6_at_6 (Nat.le_of_ble_eq_true rfl) wd_122 (fun _ _ _ => rfl) k_a0 rfl ?_
    refine ok_icmp_ge (q := 12) (t := 21) dX6_at_9 rfl rfl ?_ ?_
    · refine ok_iconst (q := 22) (v := -1) dX6_at_21 ci_m1 rfl ?_
      exact ok_iret (t := .int) dX6_at_22 rfl rfl
    · refine ok_aload_n (q := 13) dX6_at_12 rfl rfl ?_
      refine ok_getR cl_5 (q := 16) (k := 0) dX6_at_13 (Nat.le_of_ble_eq_true rfl) wd_116 (fun _ _ _ => rfl) kt_5_0 k_a0 rfl (fun b1 k2 => ?_)
      refine ok_iload_n (q := 17) dX6_at_16 rfl rfl ?_
      refine mm_ck (fun c3 => ?_)
      refine ok_iald (q := 18) dX6_at_17 k2 c3 rfl ?_
      refine ok_goto (q := 22) dX6_at_18 rfl ?_
      exact ok_iret (t := .int) dX6_at_22 rfl rfl
def jn_X0_heed_55 (a0 : Nat) (x1 : Int32) (h : mm_H) : mm_O := mm_bh (mm_si h a0 15 x1) (fun h20 =>
  mm_bh (mm_si h20 a0 5 7) (fun h22 =>
  some (none, h22)))
set_option maxHeartbeats 4000000 in
set_option maxRecDepth 100000 in
theorem oj_X0_heed_55 {G : mm_G}   (a0 : Nat) (x1 : Int32) (h : mm_H) (k_a0 : mm_kd h a0 = 0) : mm_Ok G my_X0_heed 55 [.ref a0, .int x1, mm_U] [] h (jn_X0_heed_55 a0 x1 h) := by
  unfold jn_X0_heed_55
  refine ok_aload_n (q := 56) dX0_heed_55 rfl rfl ?_
  refine ok_iload_n (q := 57) dX0_heed_56 rfl rfl ?_
  refine ok_putI cl_0 (q := 60) (k := 15) dX0_heed_57 (Nat.le_of_ble_eq_true rfl) wd_397 (Or.inl rfl) (fun _ _ _ => rfl) rfl rfl k_a0 rfl (bh_ok (fun h20 e21 => ?_))
  have e21 : h20.1 = h.1 := e21
  refine ok_aload_n (q := 61) dX0_heed_60 rfl rfl ?_
  refine ok_bipush (q := 63) (v := 7) dX0_heed_61 cb_7 rfl ?_
  refine ok_putI cl_0 (q := 66) (k := 5) dX0_heed_63 (Nat.le_of_ble_eq_true rfl) wd_386 (Or.inl rfl) (fun _ _ _ => rfl) rfl rfl (mm_ke e21 k_a0) rfl (bh_ok (fun h22 e23 => ?_))
  have e23 : h22.1 = h.1 := e23.trans e21
  exact ok_ret dX0_heed_66 rfl
def jn_X0_heed_36 (a0 : Nat) (x1 : Int32) (s0 : Int32) (h : mm_H) : mm_O := if s0 = 0 ∨ s0 = 1 then (mm_bh (mm_si h a0 17 s0) (fun h17 =>
  if s0 = 0 then
  (jn_X0_heed_55 a0 x1 h17)
  else
  (if (mm_i h17 a0 5) = (6 : Int32) then
  (some (none, h17))
  else
  (jn_X0_heed_55 a0 x1 h17)))) else none
set_option maxHeartbeats 4000000 in
set_option maxRecDepth 100000 in
theorem oj_X0_heed_36 {G : mm_G}   (a0 : Nat) (x1 : Int32) (s0 : Int32) (h : mm_H) (k_a0 : mm_kd h a0 = 0) : mm_Ok G my_X0_heed 36 [.ref a0, .int x1, mm_U] [.int s0] h (jn_X0_heed_36 a0 x1 s0 h) := by
  unfold jn_X0_heed_36
  refine ok_istore_n (q := 37) (ls' := [.ref a0, .int x1, .int s0]) dX0_heed_36 (Nat.le_of_ble_eq_true rfl) rfl rfl ?_
  refine ok_aload_n (q := 38) dX0_heed_37 rfl rfl ?_
  refine ok_iload_n (q := 39) dX0_heed_38 rfl rfl ?_
  refine mm_ck (fun c19 => ?_)
  refine ok_putI cl_0 (q := 42) (k := 17) dX0_heed_39 (Nat.le_of_ble_eq_true rfl) wd_399 (Or.inl rfl) (fun _ _ _ => rfl) (mm_isb c19).1 (mm_isb c19).2 k_a0 rfl (bh_ok (fun h17 e18 => ?_))
  have e18 : h17.1 = h.1 := e18
  refine ok_iload_n (q := 43) dX0_heed_42 rfl rfl ?_
  refine ok_if_eq (q := 46) (t := 55) dX0_heed_43 rfl rfl ?_ ?_
  · refine mm_wk [true, true, false] (ls' := [.ref a0, .int x1, mm_U]) rfl ?_
    exact oj_X0_heed_55 a0 x1 h17 (mm_ke e18 k_a0)
  · refine ok_aload_n (q := 47) dX0_heed_46 rfl rfl ?_
    refine ok_getI cl_0 (q := 50) (k := 5) dX0_heed_47 (Nat.le_of_ble_eq_true rfl) wd_386 (fun _ _ _ => rfl) (mm_ke e18 k_a0) rfl ?_
    refine ok_bipush (q := 52) (v := 6) dX0_heed_50 cb_6 rfl ?_
    refine ok_icmp_eq (q := 55) (t := 66) dX0_heed_52 rfl rfl ?_ ?_
    · exact ok_ret dX0_heed_66 rfl
    · refine mm_wk [true, true, false] (ls' := [.ref a0, .int x1, mm_U]) rfl ?_
      exact oj_X0_heed_55 a0 x1 h17 (mm_ke e18 k_a0)
def jn_X0_heed_35 (a0 : Nat) (x1 : Int32) (h : mm_H) : mm_O := jn_X0_heed_36 a0 x1 0 h
set_option maxHeartbeats 4000000 in
set_option maxRecDepth 100000 in
theorem oj_X0_heed_35 {G : mm_G}   (a0 : Nat) (x1 : Int32) (h : mm_H) (k_a0 : mm_kd h a0 = 0) : mm_Ok G my_X0_heed 35 [.ref a0, .int x1, mm_U] [] h (jn_X0_heed_35 a0 x1 h) := by
  unfold jn_X0_heed_35
  refine ok_iconst (q := 36) (v := 0) dX0_heed_35 ci_0 rfl ?_
  exact oj_X0_heed_36 a0 x1 0 h k_a0
def bd_X0_heed (a0 : Nat) (h : mm_H) : mm_O := mm_gr h a0 6 (fun b1 =>
  mm_gr h b1 4 (fun b3 =>
  mm_qi (bd_X6_at b3 1 h) (fun v7 h5 =>
  mm_gr h5 a0 6 (fun b9 =>
  mm_gr h5 b9 4 (fun b11 =>
  mm_qi (bd_X6_at b11 0 h5) (fun v15 h13 =>
  if v15 = (1 : Int32) then
  (if v7 = 0 then
  (jn_X0_heed_36 a0 v7 1 h13)
  else
  (jn_X0_heed_35 a0 v7 h13))
  else
  (jn_X0_heed_35 a0 v7 h13)))))))
set_option maxHeartbeats 4000000 in
set_option maxRecDepth 100000 in
theorem mt_X0_heed (G : mm_G) (a0 : Nat) (h : mm_H) (k_a0 : mm_kd h a0 = 0) : mm_Met G my_X0_heed [.ref a0] h (bd_X0_heed a0 h) := by
  refine mm_met (ls := [.ref a0, mm_U, mm_U]) pn_RX0 (Nat.le_of_ble_eq_true rfl) rfl ?_
  unfold bd_X0_heed
  refine ok_aload_n (q := 1) dX0_heed_0 rfl rfl ?_
  refine ok_getR cl_0 (q := 4) (k := 6) dX0_heed_1 (Nat.le_of_ble_eq_true rfl) wd_388 (fun _ _ _ => rfl) kt_0_6 k_a0 rfl (fun b1 k2 => ?_)
  refine ok_getR cl_9 (q := 7) (k := 4) dX0_heed_4 (Nat.le_of_ble_eq_true rfl) wd_250 (fun _ _ _ => rfl) kt_9_4 k2 rfl (fun b3 k4 => ?_)
  refine ok_iconst (q := 8) (v := 1) dX0_heed_7 ci_1 rfl ?_
  refine mm_ci (q := 11) (mt_X6_at G b3 1 h k4) (mm_runV (as := [.int 1]) (st := []) cl_5 lk_X0_heed_X6_at_214 rfl dX0_heed_8 rfl (Nat.le_of_ble_eq_true rfl) k4) rfl (fun v7 h5 p6 => ?_)
  have k8 : mm_kd h5 a0 = 0 := mm_kd_app p6 k_a0 (by decide)
  refine ok_istore_n (q := 12) (ls' := [.ref a0, .int v7, mm_U]) dX0_heed_11 (Nat.le_of_ble_eq_true rfl) rfl rfl ?_
  refine ok_aload_n (q := 13) dX0_heed_12 rfl rfl ?_
  refine ok_getR cl_0 (q := 16) (k := 6) dX0_heed_13 (Nat.le_of_ble_eq_true rfl) wd_388 (fun _ _ _ => rfl) kt_0_6 k8 rfl (fun b9 k10 => ?_)
  refine ok_getR cl_9 (q := 19) (k := 4) dX0_heed_16 (Nat.le_of_ble_eq_true rfl) wd_250 (fun _ _ _ => rfl) kt_9_4 k10 rfl (fun b11 k12 => ?_)
  refine ok_iconst (q := 20) (v := 0) dX0_heed_19 ci_0 rfl ?_
  refine mm_ci (q := 23) (mt_X6_at G b11 0 h5 k12) (mm_runV (as := [.int 0]) (st := []) cl_5 lk_X0_heed_X6_at_214 rfl dX0_heed_20 rfl (Nat.le_of_ble_eq_true rfl) k12) rfl (fun v15 h13 p14 => ?_)
  have k16 : mm_kd h13 a0 = 0 := mm_kd_app p14 k8 (by decide)
  refine ok_iconst (q := 24) (v := 1) dX0_heed_23 ci_1 rfl ?_
  refine ok_icmp_ne (q := 27) (t := 35) dX0_heed_24 rfl rfl ?_ ?_
  · exact oj_X0_heed_35 a0 v7 h13 k16
  · refine ok_iload_n (q := 28) dX0_heed_27 rfl rfl ?_
    refine ok_if_ne (q := 31) (t := 35) dX0_heed_28 rfl rfl ?_ ?_
    · exact oj_X0_heed_35 a0 v7 h13 k16
    · refine ok_iconst (q := 32) (v := 1) dX0_heed_31 ci_1 rfl ?_
      refine ok_goto (q := 36) dX0_heed_32 rfl ?_
      exact oj_X0_heed_36 a0 v7 1 h13 k16
def bd_X0_isAsked (a0 : Nat) (h : mm_H) : mm_O := mm_gr h a0 6 (fun b1 =>
  mm_gr h b1 4 (fun b3 =>
  mm_qi (bd_X6_at b3 4 h) (fun v7 h5 =>
  if v7 = (1 : Int32) then
  (if (mm_i h5 a0 16) = 0 then
  (some (some (.int 1), h5))
  else
  (some (some (.int 0), h5)))
  else
  (some (some (.int 0), h5)))))
set_option maxHeartbeats 4000000 in
set_option maxRecDepth 100000 in
theorem mt_X0_isAsked (G : mm_G) (a0 : Nat) (h : mm_H) (k_a0 : mm_kd h a0 = 0) : mm_Met G my_X0_isAsked [.ref a0] h (bd_X0_isAsked a0 h) := by
  refine mm_met (ls := [.ref a0]) pn_RX0 (Nat.le_of_ble_eq_true rfl) rfl ?_
  unfold bd_X0_isAsked
  refine ok_aload_n (q := 1) dX0_isAsked_0 rfl rfl ?_
  refine ok_getR cl_0 (q := 4) (k := 6) dX0_isAsked_1 (Nat.le_of_ble_eq_true rfl) wd_388 (fun _ _ _ => rfl) kt_0_6 k_a0 rfl (fun b1 k2 => ?_)
  refine ok_getR cl_9 (q := 7) (k := 4) dX0_isAsked_4 (Nat.le_of_ble_eq_true rfl) wd_250 (fun _ _ _ => rfl) kt_9_4 k2 rfl (fun b3 k4 => ?_)
  refine ok_iconst (q := 8) (v := 4) dX0_isAsked_7 ci_4 rfl ?_
  refine mm_ci (q := 11) (mt_X6_at G b3 4 h k4) (mm_runV (as := [.int 4]) (st := []) cl_5 lk_X0_isAsked_X6_at_214 rfl dX0_isAsked_8 rfl (Nat.le_of_ble_eq_true rfl) k4) rfl (fun v7 h5 p6 => ?_)
  have k8 : mm_kd h5 a0 = 0 := mm_kd_app p6 k_a0 (by decide)
  refine ok_iconst (q := 12) (v := 1) dX0_isAsked_11 ci_1 rfl ?_
  refine ok_icmp_ne (q := 15) (t := 26) dX0_isAsked_12 rfl rfl ?_ ?_
  · refine ok_iconst (q := 27) (v := 0) dX0_isAsked_26 ci_0 rfl ?_
    exact ok_iret (t := .boolean) dX0_isAsked_27 rfl (by decide)
  · refine ok_aload_n (q := 16) dX0_isAsked_15 rfl rfl ?_
    refine ok_getI cl_0 (q := 19) (k := 16) dX0_isAsked_16 (Nat.le_of_ble_eq_true rfl) wd_398 (fun _ _ _ => rfl) k8 rfl ?_
    refine ok_if_ne (q := 22) (t := 26) dX0_isAsked_19 rfl rfl ?_ ?_
    · refine ok_iconst (q := 27) (v := 0) dX0_isAsked_26 ci_0 rfl ?_
      exact ok_iret (t := .boolean) dX0_isAsked_27 rfl (by decide)
    · refine ok_iconst (q := 23) (v := 1) dX0_isAsked_22 ci_1 rfl ?_
      refine ok_goto (q := 27) dX0_isAsked_23 rfl ?_
      exact ok_iret (t := .boolean) dX0_isAsked_27 rfl (by decide)
def lp_X6_hasAt_21  : Nat → Nat → Int32 → Nat → Int32 → mm_H → mm_O
  | 0, _, _, _, _, _ => none
  | n + 1, a0, x1, a2, x3, h => if (mm_i h a2 1) ≤ x3 then
  (some (some (.int 1), h))
  else
  (mm_gr h a0 0 (fun b1 =>
  if mm_in (x1 + x3) (mm_ln h b1) = true then (mm_gr h a2 0 (fun b4 =>
  if mm_in x3 (mm_ln h b4) = true then (if (mm_i h b1 (mm_n (x1 + x3))) = (mm_i h b4 (mm_n x3)) then
  (lp_X6_hasAt_21 n a0 x1 a2 (x3 + 1) h)
  else
  (some (some (.int 0), h))) else none)) else none))
set_option maxHeartbeats 4000000 in
set_option maxRecDepth 100000 in
theorem ol_X6_hasAt_21 {G : mm_G}   : ∀ (n : Nat) (a0 : Nat) (x1 : Int32) (a2 : Nat) (x3 : Int32) (h : mm_H), mm_kd h a0 = 5 → mm_kd h a2 = 5 → mm_Ok G my_X6_hasAt 21 [.ref a0, .int x1, .ref a2, .int x3] [] h (lp_X6_hasAt_21 n a0 x1 a2 x3 h) := by
  intro n
  induction n with
  | zero => intro a0 x1 a2 x3 h k_a0 k_a2; exact mm_no
  | succ n ih =>
    intro a0 x1 a2 x3 h k_a0 k_a2
    rw [lp_X6_hasAt_21]
    refine ok_iload_n (q := 22) dX6_hasAt_21 rfl rfl ?_
    refine ok_aload_n (q := 23) dX6_hasAt_22 rfl rfl ?_
    refine ok_getI cl_5 (q := 26) (k := 1) dX6_hasAt_23 (Nat.le_of_ble_eq_true rfl) wd_122 (fun _ _ _ => rfl) k_a2 rfl ?_
    refine ok_icmp_ge (q := 29) (t := 54) dX6_hasAt_26 rfl rfl ?_ ?_
    · refine ok_iconst (q := 55) (v := 1) dX6_hasAt_54 ci_1 rfl ?_
      exact ok_iret (t := .boolean) dX6_hasAt_55 rfl (by decide)
    · refine ok_aload_n (q := 30) dX6_hasAt_29 rfl rfl ?_
      refine ok_getR cl_5 (q := 33) (k := 0) dX6_hasAt_30 (Nat.le_of_ble_eq_true rfl) wd_116 (fun _ _ _ => rfl) kt_5_0 k_a0 rfl (fun b1 k2 => ?_)
      refine ok_iload_n (q := 34) dX6_hasAt_33 rfl rfl ?_
      refine ok_iload_n (q := 35) dX6_hasAt_34 rfl rfl ?_
      refine ok_iadd (q := 36) dX6_hasAt_35 rfl ?_
      refine mm_ck (fun c3 => ?_)
      refine ok_iald (q := 37) dX6_hasAt_36 k2 c3 rfl ?_
      refine ok_aload_n (q := 38) dX6_hasAt_37 rfl rfl ?_
      refine ok_getR cl_5 (q := 41) (k := 0) dX6_hasAt_38 (Nat.le_of_ble_eq_true rfl) wd_116 (fun _ _ _ => rfl) kt_5_0 k_a2 rfl (fun b4 k5 => ?_)
      refine ok_iload_n (q := 42) dX6_hasAt_41 rfl rfl ?_
      refine mm_ck (fun c6 => ?_)
      refine ok_iald (q := 43) dX6_hasAt_42 k5 c6 rfl ?_
      refine ok_icmp_eq (q := 46) (t := 48) dX6_hasAt_43 rfl rfl ?_ ?_
      · refine ok_iinc (q := 51) (v := x3 + 1) (ls' := [.ref a0, .int x1, .ref a2, .int (x3 + 1)]) dX6_hasAt_48 rfl (congrArg (x3 + ·) ci_1) (Nat.le_of_ble_eq_true rfl) rfl rfl ?_
        refine ok_goto (q := 21) dX6_hasAt_51 rfl ?_
        exact ih a0 x1 a2 (x3 + 1) h k_a0 k_a2
      · refine ok_iconst (q := 47) (v := 0) dX6_hasAt_46 ci_0 rfl ?_
        exact ok_iret (t := .boolean) dX6_hasAt_47 rfl (by decide)
def bd_X6_hasAt (a0 : Nat) (x1 : Int32) (a2 : Nat) (h : mm_H) : mm_O := if x1 < 0 then
  (some (some (.int 0), h))
  else
  (if x1 ≤ ((mm_i h a0 1) - (mm_i h a2 1)) then
  (lp_X6_hasAt_21  mm_fu a0 x1 a2 0 h)
  else
  (some (some (.int 0), h)))
set_option maxHeartbeats 4000000 in
set_option maxRecDepth 100000 in
theorem mt_X6_hasAt (G : mm_G) (a0 : Nat) (x1 : Int32) (a2 : Nat) (h : mm_H) (k_a0 : mm_kd h a0 = 5) (k_a2 : mm_kd h a2 = 5) : mm_Met G my_X6_hasAt [.ref a0, .int x1, .ref a2] h (bd_X6_hasAt a0 x1 a2 h) := by
  refine mm_met (ls := [.ref a0, .int x1, .ref a2, mm_U]) pn_RX6 (Nat.le_of_ble_eq_true rfl) rfl ?_
  unfold bd_X6_hasAt
  refine ok_iload_n (q := 1) dX6_hasAt_0 rfl rfl ?_
  refine ok_if_lt (q := 4) (t := 17) dX6_hasAt_1 rfl rfl ?_ ?_
  · refine ok_iconst (q := 18) (v := 0) dX6_hasAt_17 ci_0 rfl ?_
    exact ok_iret (t := .boolean) dX6_hasAt_18 rfl (by decide)
  · refine ok_iload_n (q := 5) dX6_hasAt_4 rfl rfl ?_
    refine ok_aload_n (q := 6) dX6_hasAt_5 rfl rfl ?_
    refine ok_getI cl_5 (q := 9) (k := 1) dX6_hasAt_6 (Nat.le_of_ble_eq_true rfl) wd_122 (fun _ _ _ => rfl) k_a0 rfl ?_
    refine ok_aload_n (q := 10) dX6_hasAt_9 rfl rfl ?_
    refine ok_getI cl_5 (q := 13) (k := 1) dX6_hasAt_10 (Nat.le_of_ble_eq_true rfl) wd_122 (fun _ _ _ => rfl) k_a2 rfl ?_
    refine ok_isub (q := 14) dX6_hasAt_13 rfl ?_
    refine ok_icmp_le (q := 17) (t := 19) dX6_hasAt_14 rfl rfl ?_ ?_
    · refine ok_iconst (q := 20) (v := 0) dX6_hasAt_19 ci_0 rfl ?_
      refine ok_istore_n (q := 21) (ls' := [.ref a0, .int x1, .ref a2, .int 0]) dX6_hasAt_20 (Nat.le_of_ble_eq_true rfl) rfl rfl ?_
      refine ol_X6_hasAt_21  mm_fu a0 x1 a2 0 h k_a0 k_a2
    · refine ok_iconst (q := 18) (v := 0) dX6_hasAt_17 ci_0 rfl ?_
      exact ok_iret (t := .boolean) dX6_hasAt_18 rfl (by decide)
def jn_X0_isProven_105 (a0 : Nat) (a1 : Nat) (h : mm_H) : mm_O := mm_gr h a0 6 (fun b21 =>
  mm_gr h b21 8 (fun b23 =>
  mm_qi (bd_X6_hasAt a1 ((mm_i h a1 1) - (32 : Int32)) b23 h) (fun v27 h25 =>
  if v27 = 0 ∨ v27 = 1 then some (some (.int v27), h25) else none)))
set_option maxHeartbeats 4000000 in
set_option maxRecDepth 100000 in
theorem oj_X0_isProven_105 {G : mm_G}   (a0 : Nat) (a1 : Nat) (h : mm_H) (k_a0 : mm_kd h a0 = 0) (k_a1 : mm_kd h a1 = 5) : mm_Ok G my_X0_isProven 105 [.ref a0, .ref a1] [] h (jn_X0_isProven_105 a0 a1 h) := by
  unfold jn_X0_isProven_105
  refine ok_aload_n (q := 106) dX0_isProven_105 rfl rfl ?_
  refine ok_aload_n (q := 107) dX0_isProven_106 rfl rfl ?_
  refine ok_getI cl_5 (q := 110) (k := 1) dX0_isProven_107 (Nat.le_of_ble_eq_true rfl) wd_128 (fun _ _ _ => rfl) k_a1 rfl ?_
  refine ok_bipush (q := 112) (v := 32) dX0_isProven_110 cb_32 rfl ?_
  refine ok_isub (q := 113) dX0_isProven_112 rfl ?_
  refine ok_aload_n (q := 114) dX0_isProven_113 rfl rfl ?_
  refine ok_getR cl_0 (q := 117) (k := 6) dX0_isProven_114 (Nat.le_of_ble_eq_true rfl) wd_388 (fun _ _ _ => rfl) kt_0_6 k_a0 rfl (fun b21 k22 => ?_)
  refine ok_getR cl_9 (q := 120) (k := 8) dX0_isProven_117 (Nat.le_of_ble_eq_true rfl) wd_259 (fun _ _ _ => rfl) kt_9_8 k22 rfl (fun b23 k24 => ?_)
  refine mm_ci (q := 123) (mt_X6_hasAt G a1 ((mm_i h a1 1) - (32 : Int32)) b23 h k_a1 k24) (mm_runV (as := [.int ((mm_i h a1 1) - (32 : Int32)), .ref b23]) (st := []) cl_5 lk_X0_isProven_X6_hasAt_290 rfl dX0_isProven_120 rfl (Nat.le_of_ble_eq_true rfl) k_a1) rfl (fun v27 h25 p26 => ?_)
  have k28 : mm_kd h25 a0 = 0 := mm_kd_app p26 k_a0 (by decide)
  have k29 : mm_kd h25 a1 = 5 := mm_kd_app p26 k_a1 (by decide)
  refine mm_ck (fun c30 => ?_)
  exact ok_iret (t := .boolean) dX0_isProven_123 rfl (mm_isb c30).1
def bd_X0_isProven (a0 : Nat) (h : mm_H) : mm_O := mm_gr h a0 6 (fun b1 =>
  mm_gr h b1 4 (fun b3 =>
  if (mm_i h a0 13) = (1 : Int32) then
  (mm_gr h a0 6 (fun b31 =>
  mm_gr h b31 6 (fun b33 =>
  mm_qv (bd_X6_copyPart b33 b3 0 ((mm_i h b3 1) - (35 : Int32)) h) (fun h35 =>
  mm_gr h35 a0 7 (fun b39 =>
  mm_gr h35 a0 7 (fun b41 =>
  mm_gr h35 b41 0 (fun b43 =>
  mm_gr h35 a0 6 (fun b45 =>
  mm_gr h35 b45 6 (fun b47 =>
  mm_gr h35 a0 6 (fun b49 =>
  mm_gr h35 b49 8 (fun b51 =>
  mm_qv (bd_X7_prove b39 b43 b47 b51 h35) (fun h53 =>
  jn_X0_isProven_105 a0 b3 h53))))))))))))
  else
  (if (mm_i h a0 13) = (20 : Int32) then
  (mm_gr h a0 7 (fun b5 =>
  mm_gr h a0 3 (fun b7 =>
  mm_gr h b7 0 (fun b9 =>
  mm_gr h a0 11 (fun b11 =>
  mm_gr h a0 6 (fun b13 =>
  mm_gr h b13 8 (fun b15 =>
  mm_qv (bd_X7_prove b5 b9 b11 b15 h) (fun h17 =>
  jn_X0_isProven_105 a0 b3 h17))))))))
  else
  (some (some (.int 1), h)))))
set_option maxHeartbeats 4000000 in
set_option maxRecDepth 100000 in
theorem mt_X0_isProven (G : mm_G) (a0 : Nat) (h : mm_H) (k_a0 : mm_kd h a0 = 0) : mm_Met G my_X0_isProven [.ref a0] h (bd_X0_isProven a0 h) := by
  refine mm_met (ls := [.ref a0, mm_U]) pn_RX0 (Nat.le_of_ble_eq_true rfl) rfl ?_
  unfold bd_X0_isProven
  refine ok_aload_n (q := 1) dX0_isProven_0 rfl rfl ?_
  refine ok_getR cl_0 (q := 4) (k := 6) dX0_isProven_1 (Nat.le_of_ble_eq_true rfl) wd_388 (fun _ _ _ => rfl) kt_0_6 k_a0 rfl (fun b1 k2 => ?_)
  refine ok_getR cl_9 (q := 7) (k := 4) dX0_isProven_4 (Nat.le_of_ble_eq_true rfl) wd_250 (fun _ _ _ => rfl) kt_9_4 k2 rfl (fun b3 k4 => ?_)
  refine ok_astore_n (q := 8) (ls' := [.ref a0, .ref b3]) dX0_isProven_7 (Nat.le_of_ble_eq_true rfl) rfl rfl ?_
  refine ok_aload_n (q := 9) dX0_isProven_8 rfl rfl ?_
  refine ok_getI cl_0 (q := 12) (k := 13) dX0_isProven_9 (Nat.le_of_ble_eq_true rfl) wd_395 (fun _ _ _ => rfl) k_a0 rfl ?_
  refine ok_iconst (q := 13) (v := 1) dX0_isProven_12 ci_1 rfl ?_
  refine ok_icmp_ne (q := 16) (t := 66) dX0_isProven_13 rfl rfl ?_ ?_
  · refine ok_aload_n (q := 67) dX0_isProven_66 rfl rfl ?_
    refine ok_getI cl_0 (q := 70) (k := 13) dX0_isProven_67 (Nat.le_of_ble_eq_true rfl) wd_395 (fun _ _ _ => rfl) k_a0 rfl ?_
    refine ok_bipush (q := 72) (v := 20) dX0_isProven_70 cb_20 rfl ?_
    refine ok_icmp_ne (q := 75) (t := 103) dX0_isProven_72 rfl rfl ?_ ?_
    · refine ok_iconst (q := 104) (v := 1) dX0_isProven_103 ci_1 rfl ?_
      exact ok_iret (t := .boolean) dX0_isProven_104 rfl (by decide)
    · refine ok_aload_n (q := 76) dX0_isProven_75 rfl rfl ?_
      refine ok_getR cl_0 (q := 79) (k := 7) dX0_isProven_76 (Nat.le_of_ble_eq_true rfl) wd_389 (fun _ _ _ => rfl) kt_0_7 k_a0 rfl (fun b5 k6 => ?_)
      refine ok_aload_n (q := 80) dX0_isProven_79 rfl rfl ?_
      refine ok_getR cl_0 (q := 83) (k := 3) dX0_isProven_80 (Nat.le_of_ble_eq_true rfl) wd_382 (fun _ _ _ => rfl) kt_0_3 k_a0 rfl (fun b7 k8 => ?_)
      refine ok_getR cl_2 (q := 86) (k := 0) dX0_isProven_83 (Nat.le_of_ble_eq_true rfl) wd_323 (fun _ _ _ => rfl) kt_2_0 k8 rfl (fun b9 k10 => ?_)
      refine ok_aload_n (q := 87) dX0_isProven_86 rfl rfl ?_
      refine ok_getR cl_0 (q := 90) (k := 11) dX0_isProven_87 (Nat.le_of_ble_eq_true rfl) wd_393 (fun _ _ _ => rfl) kt_0_11 k_a0 rfl (fun b11 k12 => ?_)
      refine ok_aload_n (q := 91) dX0_isProven_90 rfl rfl ?_
      refine ok_getR cl_0 (q := 94) (k := 6) dX0_isProven_91 (Nat.le_of_ble_eq_true rfl) wd_388 (fun _ _ _ => rfl) kt_0_6 k_a0 rfl (fun b13 k14 => ?_)
      refine ok_getR cl_9 (q := 97) (k := 8) dX0_isProven_94 (Nat.le_of_ble_eq_true rfl) wd_259 (fun _ _ _ => rfl) kt_9_8 k14 rfl (fun b15 k16 => ?_)
      refine mm_cv (q := 100) (mt_X7_prove G b5 b9 b11 b15 h k6 k10 k12 k16) (mm_runV (as := [.ref b9, .ref b11, .ref b15]) (st := []) cl_6 lk_X0_isProven_X7_prove_127 rfl dX0_isProven_97 rfl (Nat.le_of_ble_eq_true rfl) k6) rfl (fun h17 p18 => ?_)
      have k19 : mm_kd h17 a0 = 0 := mm_kd_app p18 k_a0 (by decide)
      have k20 : mm_kd h17 b3 = 5 := mm_kd_app p18 k4 (by decide)
      refine ok_goto (q := 105) dX0_isProven_100 rfl ?_
      exact oj_X0_isProven_105 a0 b3 h17 k19 k20
  · refine ok_aload_n (q := 17) dX0_isProven_16 rfl rfl ?_
    refine ok_getR cl_0 (q := 20) (k := 6) dX0_isProven_17 (Nat.le_of_ble_eq_true rfl) wd_388 (fun _ _ _ => rfl) kt_0_6 k_a0 rfl (fun b31 k32 => ?_)
    refine ok_getR cl_9 (q := 23) (k := 6) dX0_isProven_20 (Nat.le_of_ble_eq_true rfl) wd_254 (fun _ _ _ => rfl) kt_9_6 k32 rfl (fun b33 k34 => ?_)
    refine ok_aload_n (q := 24) dX0_isProven_23 rfl rfl ?_
    refine ok_iconst (q := 25) (v := 0) dX0_isProven_24 ci_0 rfl ?_
    refine ok_aload_n (q := 26) dX0_isProven_25 rfl rfl ?_
    refine ok_getI cl_5 (q := 29) (k := 1) dX0_isProven_26 (Nat.le_of_ble_eq_true rfl) wd_128 (fun _ _ _ => rfl) k4 rfl ?_
    refine ok_bipush (q := 31) (v := 35) dX0_isProven_29 cb_35 rfl ?_
    refine ok_isub (q := 32) dX0_isProven_31 rfl ?_
    refine mm_cv (q := 35) (mt_X6_copyPart G b33 b3 0 ((mm_i h b3 1) - (35 : Int32)) h k34 k4) (mm_runV (as := [.ref b3, .int 0, .int ((mm_i h b3 1) - (35 : Int32))]) (st := []) cl_5 lk_X0_isProven_X6_copyPart_224 rfl dX0_isProven_32 rfl (Nat.le_of_ble_eq_true rfl) k34) rfl (fun h35 p36 => ?_)
    have k37 : mm_kd h35 a0 = 0 := mm_kd_app p36 k_a0 (by decide)
    have k38 : mm_kd h35 b3 = 5 := mm_kd_app p36 k4 (by decide)
    refine ok_aload_n (q := 36) dX0_isProven_35 rfl rfl ?_
    refine ok_getR cl_0 (q := 39) (k := 7) dX0_isProven_36 (Nat.le_of_ble_eq_true rfl) wd_389 (fun _ _ _ => rfl) kt_0_7 k37 rfl (fun b39 k40 => ?_)
    refine ok_aload_n (q := 40) dX0_isProven_39 rfl rfl ?_
    refine ok_getR cl_0 (q := 43) (k := 7) dX0_isProven_40 (Nat.le_of_ble_eq_true rfl) wd_389 (fun _ _ _ => rfl) kt_0_7 k37 rfl (fun b41 k42 => ?_)
    refine ok_getR cl_6 (q := 46) (k := 0) dX0_isProven_43 (Nat.le_of_ble_eq_true rfl) wd_355 (fun _ _ _ => rfl) kt_6_0 k42 rfl (fun b43 k44 => ?_)
    refine ok_aload_n (q := 47) dX0_isProven_46 rfl rfl ?_
    refine ok_getR cl_0 (q := 50) (k := 6) dX0_isProven_47 (Nat.le_of_ble_eq_true rfl) wd_388 (fun _ _ _ => rfl) kt_0_6 k37 rfl (fun b45 k46 => ?_)
    refine ok_getR cl_9 (q := 53) (k := 6) dX0_isProven_50 (Nat.le_of_ble_eq_true rfl) wd_254 (fun _ _ _ => rfl) kt_9_6 k46 rfl (fun b47 k48 => ?_)
    refine ok_aload_n (q := 54) dX0_isProven_53 rfl rfl ?_
    refine ok_getR cl_0 (q := 57) (k := 6) dX0_isProven_54 (Nat.le_of_ble_eq_true rfl) wd_388 (fun _ _ _ => rfl) kt_0_6 k37 rfl (fun b49 k50 => ?_)
    refine ok_getR cl_9 (q := 60) (k := 8) dX0_isProven_57 (Nat.le_of_ble_eq_true rfl) wd_259 (fun _ _ _ => rfl) kt_9_8 k50 rfl (fun b51 k52 => ?_)
    refine mm_cv (q := 63) (mt_X7_prove G b39 b43 b47 b51 h35 k40 k44 k48 k52) (mm_runV (as := [.ref b43, .ref b47, .ref b51]) (st := []) cl_6 lk_X0_isProven_X7_prove_127 rfl dX0_isProven_60 rfl (Nat.le_of_ble_eq_true rfl) k40) rfl (fun h53 p54 => ?_)
    have k55 : mm_kd h53 a0 = 0 := mm_kd_app p54 k37 (by decide)
    have k56 : mm_kd h53 b3 = 5 := mm_kd_app p54 k38 (by decide)
    refine ok_goto (q := 105) dX0_isProven_63 rfl ?_
    exact oj_X0_isProven_105 a0 b3 h53 k55 k56
def bd_X6_twoAt (a0 : Nat) (x1 : Int32) (h : mm_H) : mm_O := if x1 < 0 then
  (some (some (.int (-1)), h))
  else
  (if ((mm_i h a0 1) - (1 : Int32)) ≤ x1 then
  (some (some (.int (-1)), h))
  else
  (mm_gr h a0 0 (fun b1 =>
  if mm_in x1 (mm_ln h b1) = true then (mm_gr h a0 0 (fun b4 =>
  if mm_in (x1 + (1 : Int32)) (mm_ln h b4) = true then (some (some (.int ((mm_shl (mm_i h b1 (mm_n x1)) (8 : Int32)) ||| (mm_i h b4 (mm_n (x1 + (1 : Int32)))))), h)) else none)) else none)))
set_option maxHeartbeats 4000000 in
set_option maxRecDepth 100000 in
theorem mt_X6_twoAt (G : mm_G) (a0 : Nat) (x1 : Int32) (h : mm_H) (k_a0 : mm_kd h a0 = 5) : mm_Met G my_X6_twoAt [.ref a0, .int x1] h (bd_X6_twoAt a0 x1 h) := by
  refine mm_met (ls := [.ref a0, .int x1]) pn_RX6 (Nat.le_of_ble_eq_true rfl) rfl ?_
  unfold bd_X6_twoAt
  refine ok_iload_n (q := 1) dX6_twoAt_0 rfl rfl ?_
  refine ok_if_lt (q := 4) (t := 35) dX6_twoAt_1 rfl rfl ?_ ?_
  · refine ok_iconst (q := 36) (v := -1) dX6_twoAt_35 ci_m1 rfl ?_
    exact ok_iret (t := .int) dX6_twoAt_36 rfl rfl
  · refine ok_iload_n (q := 5) dX6_twoAt_4 rfl rfl ?_
    refine ok_aload_n (q := 6) dX6_twoAt_5 rfl rfl ?_
    refine ok_getI cl_5 (q := 9) (k := 1) dX6_twoAt_6 (Nat.le_of_ble_eq_true rfl) wd_122 (fun _ _ _ => rfl) k_a0 rfl ?_
    refine ok_iconst (q := 10) (v := 1) dX6_twoAt_9 ci_1 rfl ?_
    refine ok_isub (q := 11) dX6_twoAt_10 rfl ?_
    refine ok_icmp_ge (q := 14) (t := 35) dX6_twoAt_11 rfl rfl ?_ ?_
    · refine ok_iconst (q := 36) (v := -1) dX6_twoAt_35 ci_m1 rfl ?_
      exact ok_iret (t := .int) dX6_twoAt_36 rfl rfl
    · refine ok_aload_n (q := 15) dX6_twoAt_14 rfl rfl ?_
      refine ok_getR cl_5 (q := 18) (k := 0) dX6_twoAt_15 (Nat.le_of_ble_eq_true rfl) wd_116 (fun _ _ _ => rfl) kt_5_0 k_a0 rfl (fun b1 k2 => ?_)
      refine ok_iload_n (q := 19) dX6_twoAt_18 rfl rfl ?_
      refine mm_ck (fun c3 => ?_)
      refine ok_iald (q := 20) dX6_twoAt_19 k2 c3 rfl ?_
      refine ok_bipush (q := 22) (v := 8) dX6_twoAt_20 cb_8 rfl ?_
      refine ok_ishl (q := 23) dX6_twoAt_22 rfl ?_
      refine ok_aload_n (q := 24) dX6_twoAt_23 rfl rfl ?_
      refine ok_getR cl_5 (q := 27) (k := 0) dX6_twoAt_24 (Nat.le_of_ble_eq_true rfl) wd_116 (fun _ _ _ => rfl) kt_5_0 k_a0 rfl (fun b4 k5 => ?_)
      refine ok_iload_n (q := 28) dX6_twoAt_27 rfl rfl ?_
      refine ok_iconst (q := 29) (v := 1) dX6_twoAt_28 ci_1 rfl ?_
      refine ok_iadd (q := 30) dX6_twoAt_29 rfl ?_
      refine mm_ck (fun c6 => ?_)
      refine ok_iald (q := 31) dX6_twoAt_30 k5 c6 rfl ?_
      refine ok_ior (q := 32) dX6_twoAt_31 rfl ?_
      refine ok_goto (q := 36) dX6_twoAt_32 rfl ?_
      exact ok_iret (t := .int) dX6_twoAt_36 rfl rfl
def bd_X3_findName (a0 : Nat) (a1 : Nat) (h : mm_H) : mm_O := mm_qi (bd_X6_twoAt a0 66 h) (fun v3 h1 =>
  mm_qv (bd_X6_copyPart a1 a0 68 ((68 : Int32) + v3) h1) (fun h6 =>
  if v3 < (1 : Int32) then
  (some (some (.int 0), h6))
  else
  (if (16 : Int32) < v3 then
  (some (some (.int 0), h6))
  else
  (if (mm_i h6 a0 1) = ((107 : Int32) + v3) then
  (some (some (.int 1), h6))
  else
  (some (some (.int 0), h6))))))
set_option maxHeartbeats 4000000 in
set_option maxRecDepth 100000 in
theorem mt_X3_findName (G : mm_G) (a0 : Nat) (a1 : Nat) (h : mm_H) (k_a0 : mm_kd h a0 = 5) (k_a1 : mm_kd h a1 = 5) : mm_Met G my_X3_findName [.ref a0, .ref a1] h (bd_X3_findName a0 a1 h) := by
  refine mm_met (ls := [.ref a0, .ref a1, mm_U]) pn_RX3 (Nat.le_of_ble_eq_true rfl) rfl ?_
  unfold bd_X3_findName
  refine ok_aload_n (q := 1) dX3_findName_0 rfl rfl ?_
  refine ok_bipush (q := 3) (v := 66) dX3_findName_1 cb_66 rfl ?_
  refine mm_ci (q := 6) (mt_X6_twoAt G a0 66 h k_a0) (mm_runV (as := [.int 66]) (st := []) cl_5 lk_X3_findName_X6_twoAt_50 rfl dX3_findName_3 rfl (Nat.le_of_ble_eq_true rfl) k_a0) rfl (fun v3 h1 p2 => ?_)
  have k4 : mm_kd h1 a0 = 5 := mm_kd_app p2 k_a0 (by decide)
  have k5 : mm_kd h1 a1 = 5 := mm_kd_app p2 k_a1 (by decide)
  refine ok_istore_n (q := 7) (ls' := [.ref a0, .ref a1, .int v3]) dX3_findName_6 (Nat.le_of_ble_eq_true rfl) rfl rfl ?_
  refine ok_aload_n (q := 8) dX3_findName_7 rfl rfl ?_
  refine ok_aload_n (q := 9) dX3_findName_8 rfl rfl ?_
  refine ok_bipush (q := 11) (v := 68) dX3_findName_9 cb_68 rfl ?_
  refine ok_bipush (q := 13) (v := 68) dX3_findName_11 cb_68 rfl ?_
  refine ok_iload_n (q := 14) dX3_findName_13 rfl rfl ?_
  refine ok_iadd (q := 15) dX3_findName_14 rfl ?_
  refine mm_cv (q := 18) (mt_X6_copyPart G a1 a0 68 ((68 : Int32) + v3) h1 k5 k4) (mm_runV (as := [.ref a0, .int 68, .int ((68 : Int32) + v3)]) (st := []) cl_5 lk_X3_findName_X6_copyPart_54 rfl dX3_findName_15 rfl (Nat.le_of_ble_eq_true rfl) k5) rfl (fun h6 p7 => ?_)
  have k8 : mm_kd h6 a0 = 5 := mm_kd_app p7 k4 (by decide)
  have k9 : mm_kd h6 a1 = 5 := mm_kd_app p7 k5 (by decide)
  refine ok_iload_n (q := 19) dX3_findName_18 rfl rfl ?_
  refine ok_iconst (q := 20) (v := 1) dX3_findName_19 ci_1 rfl ?_
  refine ok_icmp_lt (q := 23) (t := 44) dX3_findName_20 rfl rfl ?_ ?_
  · refine ok_iconst (q := 45) (v := 0) dX3_findName_44 ci_0 rfl ?_
    exact ok_iret (t := .boolean) dX3_findName_45 rfl (by decide)
  · refine ok_iload_n (q := 24) dX3_findName_23 rfl rfl ?_
    refine ok_bipush (q := 26) (v := 16) dX3_findName_24 cb_16 rfl ?_
    refine ok_icmp_gt (q := 29) (t := 44) dX3_findName_26 rfl rfl ?_ ?_
    · refine ok_iconst (q := 45) (v := 0) dX3_findName_44 ci_0 rfl ?_
      exact ok_iret (t := .boolean) dX3_findName_45 rfl (by decide)
    · refine ok_aload_n (q := 30) dX3_findName_29 rfl rfl ?_
      refine ok_getI cl_5 (q := 33) (k := 1) dX3_findName_30 (Nat.le_of_ble_eq_true rfl) wd_129 (fun _ _ _ => rfl) k8 rfl ?_
      refine ok_bipush (q := 35) (v := 107) dX3_findName_33 cb_107 rfl ?_
      refine ok_iload_n (q := 36) dX3_findName_35 rfl rfl ?_
      refine ok_iadd (q := 37) dX3_findName_36 rfl ?_
      refine ok_icmp_ne (q := 40) (t := 44) dX3_findName_37 rfl rfl ?_ ?_
      · refine ok_iconst (q := 45) (v := 0) dX3_findName_44 ci_0 rfl ?_
        exact ok_iret (t := .boolean) dX3_findName_45 rfl (by decide)
      · refine ok_iconst (q := 41) (v := 1) dX3_findName_40 ci_1 rfl ?_
        refine ok_goto (q := 45) dX3_findName_41 rfl ?_
        exact ok_iret (t := .boolean) dX3_findName_45 rfl (by decide)
def bd_X3_findRandom (a0 : Nat) (a1 : Nat) (h : mm_H) : mm_O := mm_qv (bd_X6_copyPart a1 a0 6 38 h) (fun h1 =>
  some (none, h1))
set_option maxHeartbeats 4000000 in
set_option maxRecDepth 100000 in
theorem mt_X3_findRandom (G : mm_G) (a0 : Nat) (a1 : Nat) (h : mm_H) (k_a0 : mm_kd h a0 = 5) (k_a1 : mm_kd h a1 = 5) : mm_Met G my_X3_findRandom [.ref a0, .ref a1] h (bd_X3_findRandom a0 a1 h) := by
  refine mm_met (ls := [.ref a0, .ref a1]) pn_RX3 (Nat.le_of_ble_eq_true rfl) rfl ?_
  unfold bd_X3_findRandom
  refine ok_aload_n (q := 1) dX3_findRandom_0 rfl rfl ?_
  refine ok_aload_n (q := 2) dX3_findRandom_1 rfl rfl ?_
  refine ok_bipush (q := 4) (v := 6) dX3_findRandom_2 cb_6 rfl ?_
  refine ok_bipush (q := 6) (v := 38) dX3_findRandom_4 cb_38 rfl ?_
  refine mm_cv (q := 9) (mt_X6_copyPart G a1 a0 6 38 h k_a1 k_a0) (mm_runV (as := [.ref a0, .int 6, .int 38]) (st := []) cl_5 lk_X3_findRandom_X6_copyPart_54 rfl dX3_findRandom_6 rfl (Nat.le_of_ble_eq_true rfl) k_a1) rfl (fun h1 p2 => ?_)
  have k3 : mm_kd h1 a0 = 5 := mm_kd_app p2 k_a0 (by decide)
  have k4 : mm_kd h1 a1 = 5 := mm_kd_app p2 k_a1 (by decide)
  exact ok_ret dX3_findRandom_9 rfl
