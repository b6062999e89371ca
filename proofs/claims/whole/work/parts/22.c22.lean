def bd_X12_state (a0 : Nat) (x1 : Int32) (x2 : Int32) (h : mm_H) : mm_O := mm_qi (bd_X12_isEnd a0 x1 h) (fun v3 h1 =>
  if v3 = 0 then
  (some (some (.int (-1)), h1))
  else
  (if x2 = 0 then
  (mm_gr h1 a0 4 (fun b6 =>
  if mm_in x1 (mm_ln h1 b6) = true then (some (some (.int (mm_i h1 b6 (mm_n x1))), h1)) else none))
  else
  (if x2 = 1 then
  (mm_gr h1 a0 11 (fun b10 =>
  if mm_in x1 (mm_ln h1 b10) = true then (some (some (.int (mm_i h1 b10 (mm_n x1))), h1)) else none))
  else
  (if x2 = 2 then
  (mm_gr h1 a0 12 (fun b14 =>
  if mm_in x1 (mm_ln h1 b14) = true then (some (some (.int (mm_i h1 b14 (mm_n x1))), h1)) else none))
  else
  (if x2 = 3 then
  (mm_gr h1 a0 17 (fun b18 =>
  if mm_in x1 (mm_ln h1 b18) = true then (some (some (.int (mm_i h1 b18 (mm_n x1))), h1)) else none))
  else
  (if x2 = 4 then
  (mm_gr h1 a0 19 (fun b22 =>
  if mm_in x1 (mm_ln h1 b22) = true then (some (some (.int (mm_i h1 b22 (mm_n x1))), h1)) else none))
  else
  (if x2 = 5 then
  (mm_gr h1 a0 28 (fun b26 =>
  if mm_in x1 (mm_ln h1 b26) = true then (some (some (.int (mm_i h1 b26 (mm_n x1))), h1)) else none))
  else
  (if x2 = 6 then
  (mm_gr h1 a0 29 (fun b30 =>
  if mm_in x1 (mm_ln h1 b30) = true then (some (some (.int (mm_i h1 b30 (mm_n x1))), h1)) else none))
  else
  (if x2 = 7 then
  (mm_gr h1 a0 13 (fun b34 =>
  if mm_in x1 (mm_ln h1 b34) = true then (if (mm_i h1 b34 (mm_n x1)) = 0 then
  (some (some (.int 0), h1))
  else
  (some (some (.int 1), h1))) else none))
  else
  (if x2 = 8 then
  (mm_gr h1 a0 14 (fun b38 =>
  if mm_in x1 (mm_ln h1 b38) = true then (if (mm_i h1 b38 (mm_n x1)) = 0 then
  (some (some (.int 0), h1))
  else
  (some (some (.int 1), h1))) else none))
  else
  (if x2 = 9 then
  (mm_gr h1 a0 3 (fun b42 =>
  if mm_in x1 (mm_ln h1 b42) = true then (if (mm_i h1 b42 (mm_n x1)) = 0 then
  (some (some (.int 0), h1))
  else
  (some (some (.int 1), h1))) else none))
  else
  (some (some (.int (-1)), h1)))))))))))))
set_option maxHeartbeats 4000000 in
set_option maxRecDepth 100000 in
theorem mt_X12_state (G : mm_G) (a0 : Nat) (x1 : Int32) (x2 : Int32) (h : mm_H) (k_a0 : mm_kd h a0 = 11) : mm_Met G my_X12_state [.ref a0, .int x1, .int x2] h (bd_X12_state a0 x1 x2 h) := by
  refine mm_met (ls := [.ref a0, .int x1, .int x2]) pn_RX12 (Nat.le_of_ble_eq_true rfl) rfl ?_
  unfold bd_X12_state
  refine ok_aload_n (q := 1) dX12_state_0 rfl rfl ?_
  refine ok_iload_n (q := 2) dX12_state_1 rfl rfl ?_
  refine mm_ci (q := 5) (mt_X12_isEnd G a0 x1 h k_a0) (mm_runV (as := [.int x1]) (st := []) cl_11 lk_X12_state_X12_isEnd_511 rfl dX12_state_2 rfl (Nat.le_of_ble_eq_true rfl) k_a0) rfl (fun v3 h1 p2 => ?_)
  have k4 : mm_kd h1 a0 = 11 := mm_kd_app p2 k_a0 (by decide)
  refine ok_if_ne (q := 8) (t := 10) dX12_state_5 rfl rfl ?_ ?_
  · refine ok_iload_n (q := 11) dX12_state_10 rfl rfl ?_
    refine mm_sp (fun c5 => ?_) (fun c5 => ?_)
    · refine ok_tableIn (q := 64) dX12_state_11 (by rw [c5]; decide) (by rw [c5]; decide) (by rw [c5]; rfl) rfl ?_
      refine ok_aload_n (q := 65) dX12_state_64 rfl rfl ?_
      refine ok_getR cl_11 (q := 68) (k := 4) dX12_state_65 (Nat.le_of_ble_eq_true rfl) wd_1036 (fun _ _ _ => rfl) kt_11_4 k4 rfl (fun b6 k7 => ?_)
      refine ok_iload_n (q := 69) dX12_state_68 rfl rfl ?_
      refine mm_ck (fun c8 => ?_)
      refine ok_iald (q := 70) dX12_state_69 k7 c8 rfl ?_
      exact ok_iret (t := .int) dX12_state_70 rfl rfl
    · refine mm_sp (fun c9 => ?_) (fun c9 => ?_)
      · refine ok_tableIn (q := 71) dX12_state_11 (by rw [c9]; decide) (by rw [c9]; decide) (by rw [c9]; rfl) rfl ?_
        refine ok_aload_n (q := 72) dX12_state_71 rfl rfl ?_
        refine ok_getR cl_11 (q := 75) (k := 11) dX12_state_72 (Nat.le_of_ble_eq_true rfl) wd_1043 (fun _ _ _ => rfl) kt_11_11 k4 rfl (fun b10 k11 => ?_)
        refine ok_iload_n (q := 76) dX12_state_75 rfl rfl ?_
        refine mm_ck (fun c12 => ?_)
        refine ok_iald (q := 77) dX12_state_76 k11 c12 rfl ?_
        exact ok_iret (t := .int) dX12_state_77 rfl rfl
      · refine mm_sp (fun c13 => ?_) (fun c13 => ?_)
        · refine ok_tableIn (q := 78) dX12_state_11 (by rw [c13]; decide) (by rw [c13]; decide) (by rw [c13]; rfl) rfl ?_
          refine ok_aload_n (q := 79) dX12_state_78 rfl rfl ?_
          refine ok_getR cl_11 (q := 82) (k := 12) dX12_state_79 (Nat.le_of_ble_eq_true rfl) wd_1044 (fun _ _ _ => rfl) kt_11_12 k4 rfl (fun b14 k15 => ?_)
          refine ok_iload_n (q := 83) dX12_state_82 rfl rfl ?_
          refine mm_ck (fun c16 => ?_)
          refine ok_iald (q := 84) dX12_state_83 k15 c16 rfl ?_
          exact ok_iret (t := .int) dX12_state_84 rfl rfl
        · refine mm_sp (fun c17 => ?_) (fun c17 => ?_)
          · refine ok_tableIn (q := 85) dX12_state_11 (by rw [c17]; decide) (by rw [c17]; decide) (by rw [c17]; rfl) rfl ?_
            refine ok_aload_n (q := 86) dX12_state_85 rfl rfl ?_
            refine ok_getR cl_11 (q := 89) (k := 17) dX12_state_86 (Nat.le_of_ble_eq_true rfl) wd_1049 (fun _ _ _ => rfl) kt_11_17 k4 rfl (fun b18 k19 => ?_)
            refine ok_iload_n (q := 90) dX12_state_89 rfl rfl ?_
            refine mm_ck (fun c20 => ?_)
            refine ok_iald (q := 91) dX12_state_90 k19 c20 rfl ?_
            exact ok_iret (t := .int) dX12_state_91 rfl rfl
          · refine mm_sp (fun c21 => ?_) (fun c21 => ?_)
            · refine ok_tableIn (q := 92) dX12_state_11 (by rw [c21]; decide) (by rw [c21]; decide) (by rw [c21]; rfl) rfl ?_
              refine ok_aload_n (q := 93) dX12_state_92 rfl rfl ?_
              refine ok_getR cl_11 (q := 96) (k := 19) dX12_state_93 (Nat.le_of_ble_eq_true rfl) wd_1051 (fun _ _ _ => rfl) kt_11_19 k4 rfl (fun b22 k23 => ?_)
              refine ok_iload_n (q := 97) dX12_state_96 rfl rfl ?_
              refine mm_ck (fun c24 => ?_)
              refine ok_iald (q := 98) dX12_state_97 k23 c24 rfl ?_
              exact ok_iret (t := .int) dX12_state_98 rfl rfl
            · refine mm_sp (fun c25 => ?_) (fun c25 => ?_)
              · refine ok_tableIn (q := 99) dX12_state_11 (by rw [c25]; decide) (by rw [c25]; decide) (by rw [c25]; rfl) rfl ?_
                refine ok_aload_n (q := 100) dX12_state_99 rfl rfl ?_
                refine ok_getR cl_11 (q := 103) (k := 28) dX12_state_100 (Nat.le_of_ble_eq_true rfl) wd_1060 (fun _ _ _ => rfl) kt_11_28 k4 rfl (fun b26 k27 => ?_)
                refine ok_iload_n (q := 104) dX12_state_103 rfl rfl ?_
                refine mm_ck (fun c28 => ?_)
                refine ok_iald (q := 105) dX12_state_104 k27 c28 rfl ?_
                exact ok_iret (t := .int) dX12_state_105 rfl rfl
              · refine mm_sp (fun c29 => ?_) (fun c29 => ?_)
                · refine ok_tableIn (q := 106) dX12_state_11 (by rw [c29]; decide) (by rw [c29]; decide) (by rw [c29]; rfl) rfl ?_
                  refine ok_aload_n (q := 107) dX12_state_106 rfl rfl ?_
                  refine ok_getR cl_11 (q := 110) (k := 29) dX12_state_107 (Nat.le_of_ble_eq_true rfl) wd_1061 (fun _ _ _ => rfl) kt_11_29 k4 rfl (fun b30 k31 => ?_)
                  refine ok_iload_n (q := 111) dX12_state_110 rfl rfl ?_
                  refine mm_ck (fun c32 => ?_)
                  refine ok_iald (q := 112) dX12_state_111 k31 c32 rfl ?_
                  exact ok_iret (t := .int) dX12_state_112 rfl rfl
                · refine mm_sp (fun c33 => ?_) (fun c33 => ?_)
                  · refine ok_tableIn (q := 113) dX12_state_11 (by rw [c33]; decide) (by rw [c33]; decide) (by rw [c33]; rfl) rfl ?_
                    refine ok_aload_n (q := 114) dX12_state_113 rfl rfl ?_
                    refine ok_getR cl_11 (q := 117) (k := 13) dX12_state_114 (Nat.le_of_ble_eq_true rfl) wd_1045 (fun _ _ _ => rfl) kt_11_13 k4 rfl (fun b34 k35 => ?_)
                    refine ok_iload_n (q := 118) dX12_state_117 rfl rfl ?_
                    refine mm_ck (fun c36 => ?_)
                    refine ok_zald (q := 119) dX12_state_118 k35 c36 rfl ?_
                    refine ok_if_eq (q := 122) (t := 126) dX12_state_119 rfl rfl ?_ ?_
                    · refine ok_iconst (q := 127) (v := 0) dX12_state_126 ci_0 rfl ?_
                      exact ok_iret (t := .int) dX12_state_127 rfl rfl
                    · refine ok_iconst (q := 123) (v := 1) dX12_state_122 ci_1 rfl ?_
                      refine ok_goto (q := 127) dX12_state_123 rfl ?_
                      exact ok_iret (t := .int) dX12_state_127 rfl rfl
                  · refine mm_sp (fun c37 => ?_) (fun c37 => ?_)
                    · refine ok_tableIn (q := 128) dX12_state_11 (by rw [c37]; decide) (by rw [c37]; decide) (by rw [c37]; rfl) rfl ?_
                      refine ok_aload_n (q := 129) dX12_state_128 rfl rfl ?_
                      refine ok_getR cl_11 (q := 132) (k := 14) dX12_state_129 (Nat.le_of_ble_eq_true rfl) wd_1046 (fun _ _ _ => rfl) kt_11_14 k4 rfl (fun b38 k39 => ?_)
                      refine ok_iload_n (q := 133) dX12_state_132 rfl rfl ?_
                      refine mm_ck (fun c40 => ?_)
                      refine ok_zald (q := 134) dX12_state_133 k39 c40 rfl ?_
                      refine ok_if_eq (q := 137) (t := 141) dX12_state_134 rfl rfl ?_ ?_
                      · refine ok_iconst (q := 142) (v := 0) dX12_state_141 ci_0 rfl ?_
                        exact ok_iret (t := .int) dX12_state_142 rfl rfl
                      · refine ok_iconst (q := 138) (v := 1) dX12_state_137 ci_1 rfl ?_
                        refine ok_goto (q := 142) dX12_state_138 rfl ?_
                        exact ok_iret (t := .int) dX12_state_142 rfl rfl
                    · refine mm_sp (fun c41 => ?_) (fun c41 => ?_)
                      · refine ok_tableIn (q := 143) dX12_state_11 (by rw [c41]; decide) (by rw [c41]; decide) (by rw [c41]; rfl) rfl ?_
                        refine ok_aload_n (q := 144) dX12_state_143 rfl rfl ?_
                        refine ok_getR cl_11 (q := 147) (k := 3) dX12_state_144 (Nat.le_of_ble_eq_true rfl) wd_1035 (fun _ _ _ => rfl) kt_11_3 k4 rfl (fun b42 k43 => ?_)
                        refine ok_iload_n (q := 148) dX12_state_147 rfl rfl ?_
                        refine mm_ck (fun c44 => ?_)
                        refine ok_zald (q := 149) dX12_state_148 k43 c44 rfl ?_
                        refine ok_if_eq (q := 152) (t := 156) dX12_state_149 rfl rfl ?_ ?_
                        · refine ok_iconst (q := 157) (v := 0) dX12_state_156 ci_0 rfl ?_
                          exact ok_iret (t := .int) dX12_state_157 rfl rfl
                        · refine ok_iconst (q := 153) (v := 1) dX12_state_152 ci_1 rfl ?_
                          refine ok_goto (q := 157) dX12_state_153 rfl ?_
                          exact ok_iret (t := .int) dX12_state_157 rfl rfl
                      · have tc5 := lv_neT c5 (by decide : (0 : Int32).toInt = 0)
                        have tc9 := lv_neT c9 (by decide : (1 : Int32).toInt = 1)
                        have tc13 := lv_neT c13 (by decide : (2 : Int32).toInt = 2)
                        have tc17 := lv_neT c17 (by decide : (3 : Int32).toInt = 3)
                        have tc21 := lv_neT c21 (by decide : (4 : Int32).toInt = 4)
                        have tc25 := lv_neT c25 (by decide : (5 : Int32).toInt = 5)
                        have tc29 := lv_neT c29 (by decide : (6 : Int32).toInt = 6)
                        have tc33 := lv_neT c33 (by decide : (7 : Int32).toInt = 7)
                        have tc37 := lv_neT c37 (by decide : (8 : Int32).toInt = 8)
                        have tc41 := lv_neT c41 (by decide : (9 : Int32).toInt = 9)
                        refine ok_tableOut (q := 158) dX12_state_11 (by omega) rfl ?_
                        refine ok_iconst (q := 159) (v := -1) dX12_state_158 ci_m1 rfl ?_
                        exact ok_iret (t := .int) dX12_state_159 rfl rfl
  · refine ok_iconst (q := 9) (v := -1) dX12_state_8 ci_m1 rfl ?_
    exact ok_iret (t := .int) dX12_state_9 rfl rfl
def bd_X12_hash (a0 : Nat) (x1 : Int32) (h : mm_H) : mm_O := mm_qi (bd_X12_isIn x1 0 31 h) (fun v3 h1 =>
  if v3 = 0 then
  (some (some (.int (-1)), h1))
  else
  (mm_gr h1 a0 0 (fun b5 =>
  mm_gr h1 a0 65 (fun b7 =>
  mm_qv (bd_X12_sum a0 b5 0 (mm_i h1 a0 1) b7 0 h1) (fun h9 =>
  mm_gr h9 a0 65 (fun b12 =>
  if mm_in x1 (mm_ln h9 b12) = true then (some (some (.int ((mm_i h9 b12 (mm_n x1)) &&& (255 : Int32))), h9)) else none))))))
set_option maxHeartbeats 4000000 in
set_option maxRecDepth 100000 in
theorem mt_X12_hash (G : mm_G) (a0 : Nat) (x1 : Int32) (h : mm_H) (k_a0 : mm_kd h a0 = 11) : mm_Met G my_X12_hash [.ref a0, .int x1] h (bd_X12_hash a0 x1 h) := by
  refine mm_met (ls := [.ref a0, .int x1]) pn_RX12 (Nat.le_of_ble_eq_true rfl) rfl ?_
  unfold bd_X12_hash
  refine ok_iload_n (q := 1) dX12_hash_0 rfl rfl ?_
  refine ok_iconst (q := 2) (v := 0) dX12_hash_1 ci_0 rfl ?_
  refine ok_bipush (q := 4) (v := 31) dX12_hash_2 cb_31 rfl ?_
  refine mm_ci (q := 7) (mt_X12_isIn G x1 0 31 h ) (mm_runS (as := [.int x1, .int 0, .int 31]) (st := []) lk_X12_hash_X12_isIn_260 dX12_hash_4 rfl (Nat.le_of_ble_eq_true rfl)) rfl (fun v3 h1 p2 => ?_)
  have k4 : mm_kd h1 a0 = 11 := mm_kd_app p2 k_a0 (by decide)
  refine ok_if_ne (q := 10) (t := 12) dX12_hash_7 rfl rfl ?_ ?_
  · refine ok_aload_n (q := 13) dX12_hash_12 rfl rfl ?_
    refine ok_aload_n (q := 14) dX12_hash_13 rfl rfl ?_
    refine ok_getR cl_11 (q := 17) (k := 0) dX12_hash_14 (Nat.le_of_ble_eq_true rfl) wd_1032 (fun _ _ _ => rfl) kt_11_0 k4 rfl (fun b5 k6 => ?_)
    refine ok_iconst (q := 18) (v := 0) dX12_hash_17 ci_0 rfl ?_
    refine ok_aload_n (q := 19) dX12_hash_18 rfl rfl ?_
    refine ok_getI cl_11 (q := 22) (k := 1) dX12_hash_19 (Nat.le_of_ble_eq_true rfl) wd_1033 (fun _ _ _ => rfl) k4 rfl ?_
    refine ok_aload_n (q := 23) dX12_hash_22 rfl rfl ?_
    refine ok_getR cl_11 (q := 26) (k := 65) dX12_hash_23 (Nat.le_of_ble_eq_true rfl) wd_1097 (fun _ _ _ => rfl) kt_11_65 k4 rfl (fun b7 k8 => ?_)
    refine ok_iconst (q := 27) (v := 0) dX12_hash_26 ci_0 rfl ?_
    refine mm_cv (q := 30) (mt_X12_sum G a0 b5 0 (mm_i h1 a0 1) b7 0 h1 k4 k6 k8) (mm_runV (as := [.ref b5, .int 0, .int (mm_i h1 a0 1), .ref b7, .int 0]) (st := []) cl_11 lk_X12_hash_X12_sum_283 rfl dX12_hash_27 rfl (Nat.le_of_ble_eq_true rfl) k4) rfl (fun h9 p10 => ?_)
    have k11 : mm_kd h9 a0 = 11 := mm_kd_app p10 k4 (by decide)
    refine ok_aload_n (q := 31) dX12_hash_30 rfl rfl ?_
    refine ok_getR cl_11 (q := 34) (k := 65) dX12_hash_31 (Nat.le_of_ble_eq_true rfl) wd_1097 (fun _ _ _ => rfl) kt_11_65 k11 rfl (fun b12 k13 => ?_)
    refine ok_iload_n (q := 35) dX12_hash_34 rfl rfl ?_
    refine mm_ck (fun c14 => ?_)
    refine ok_bald (q := 36) dX12_hash_35 k13 c14 rfl ?_
    refine ok_sipush (q := 39) (v := 255) dX12_hash_36 cs_255 rfl ?_
    refine ok_iand (q := 40) dX12_hash_39 rfl ?_
    exact ok_iret (t := .int) dX12_hash_40 rfl rfl
  · refine ok_iconst (q := 11) (v := -1) dX12_hash_10 ci_m1 rfl ?_
    exact ok_iret (t := .int) dX12_hash_11 rfl rfl
def bd_X12_about (a0 : Nat) (x1 : Int32) (h : mm_H) : mm_O := if x1 = 0 then
  (some (some (.int (mm_i h a0 1)), h))
  else
  (if x1 = (1 : Int32) then
  (some (some (.int (mm_i h a0 2)), h))
  else
  (some (some (.int (-1)), h)))
set_option maxHeartbeats 4000000 in
set_option maxRecDepth 100000 in
theorem mt_X12_about (G : mm_G) (a0 : Nat) (x1 : Int32) (h : mm_H) (k_a0 : mm_kd h a0 = 11) : mm_Met G my_X12_about [.ref a0, .int x1] h (bd_X12_about a0 x1 h) := by
  refine mm_met (ls := [.ref a0, .int x1]) pn_RX12 (Nat.le_of_ble_eq_true rfl) rfl ?_
  unfold bd_X12_about
  refine ok_iload_n (q := 1) dX12_about_0 rfl rfl ?_
  refine ok_if_ne (q := 4) (t := 11) dX12_about_1 rfl rfl ?_ ?_
  · refine ok_iload_n (q := 12) dX12_about_11 rfl rfl ?_
    refine ok_iconst (q := 13) (v := 1) dX12_about_12 ci_1 rfl ?_
    refine ok_icmp_ne (q := 16) (t := 23) dX12_about_13 rfl rfl ?_ ?_
    · refine ok_iconst (q := 24) (v := -1) dX12_about_23 ci_m1 rfl ?_
      exact ok_iret (t := .int) dX12_about_24 rfl rfl
    · refine ok_aload_n (q := 17) dX12_about_16 rfl rfl ?_
      refine ok_getI cl_11 (q := 20) (k := 2) dX12_about_17 (Nat.le_of_ble_eq_true rfl) wd_1034 (fun _ _ _ => rfl) k_a0 rfl ?_
      refine ok_goto (q := 24) dX12_about_20 rfl ?_
      exact ok_iret (t := .int) dX12_about_24 rfl rfl
  · refine ok_aload_n (q := 5) dX12_about_4 rfl rfl ?_
    refine ok_getI cl_11 (q := 8) (k := 1) dX12_about_5 (Nat.le_of_ble_eq_true rfl) wd_1033 (fun _ _ _ => rfl) k_a0 rfl ?_
    refine ok_goto (q := 24) dX12_about_8 rfl ?_
    exact ok_iret (t := .int) dX12_about_24 rfl rfl
