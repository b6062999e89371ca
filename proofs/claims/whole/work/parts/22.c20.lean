def jn_X12_readHandshake_72 (a0 : Nat) (x1 : Int32) (h : mm_H) : mm_O := mm_qv (bd_X12_fail a0 x1 50 h) (fun h10 =>
  some (none, h10))
set_option maxHeartbeats 4000000 in
set_option maxRecDepth 100000 in
theorem oj_X12_readHandshake_72 {G : mm_G}   (a0 : Nat) (x1 : Int32) (h : mm_H) (k_a0 : mm_kd h a0 = 11) : mm_Ok G my_X12_readHandshake 72 [.ref a0, .int x1, mm_U, mm_U, mm_U] [] h (jn_X12_readHandshake_72 a0 x1 h) := by
  unfold jn_X12_readHandshake_72
  refine ok_aload_n (q := 73) dX12_readHandshake_72 rfl rfl ?_
  refine ok_iload_n (q := 74) dX12_readHandshake_73 rfl rfl ?_
  refine ok_bipush (q := 76) (v := 50) dX12_readHandshake_74 cb_50 rfl ?_
  refine mm_cv (q := 79) (mt_X12_fail G a0 x1 50 h k_a0) (mm_runV (as := [.int x1, .int 50]) (st := []) cl_11 lk_X12_readHandshake_X12_fail_436 rfl dX12_readHandshake_76 rfl (Nat.le_of_ble_eq_true rfl) k_a0) rfl (fun h10 p11 => ?_)
  have k12 : mm_kd h10 a0 = 11 := mm_kd_app p11 k_a0 (by decide)
  exact ok_ret dX12_readHandshake_79 rfl
def jn_X12_readHandshake_154 (a0 : Nat) (x1 : Int32) (x3 : Int32) (h : mm_H) : mm_O := mm_qv (bd_X12_goOn a0 x1 x3 h) (fun h28 =>
  some (none, h28))
set_option maxHeartbeats 4000000 in
set_option maxRecDepth 100000 in
theorem oj_X12_readHandshake_154 {G : mm_G}   (a0 : Nat) (x1 : Int32) (x3 : Int32) (h : mm_H) (k_a0 : mm_kd h a0 = 11) : mm_Ok G my_X12_readHandshake 154 [.ref a0, .int x1, mm_U, .int x3, mm_U] [] h (jn_X12_readHandshake_154 a0 x1 x3 h) := by
  unfold jn_X12_readHandshake_154
  refine ok_aload_n (q := 155) dX12_readHandshake_154 rfl rfl ?_
  refine ok_iload_n (q := 156) dX12_readHandshake_155 rfl rfl ?_
  refine ok_iload_n (q := 157) dX12_readHandshake_156 rfl rfl ?_
  refine mm_cv (q := 160) (mt_X12_goOn G a0 x1 x3 h k_a0) (mm_runV (as := [.int x1, .int x3]) (st := []) cl_11 lk_X12_readHandshake_X12_goOn_465 rfl dX12_readHandshake_157 rfl (Nat.le_of_ble_eq_true rfl) k_a0) rfl (fun h28 p29 => ?_)
  have k30 : mm_kd h28 a0 = 11 := mm_kd_app p29 k_a0 (by decide)
  exact ok_ret dX12_readHandshake_160 rfl
def jn_X12_readHandshake_53 (a0 : Nat) (x1 : Int32) (s0 : Int32) (h : mm_H) : mm_O := if (mm_i h a0 62) < (4 : Int32) then
  (jn_X12_readHandshake_72 a0 x1 h)
  else
  (if s0 = ((mm_i h a0 62) - (4 : Int32)) then
  (mm_gr h a0 60 (fun b13 =>
  if mm_in (5 : Int32) (mm_ln h b13) = true then (mm_bi ((mm_i h b13 (mm_n (5 : Int32))) &&& (255 : Int32)) (fun v16 =>
  mm_gr h a0 4 (fun b17 =>
  if mm_in x1 (mm_ln h b17) = true then (mm_qi (bd_X12_waited (mm_i h b17 (mm_n x1)) h) (fun v22 h20 =>
  if v16 = v22 then
  (mm_qi (bd_X12_bodyFault a0 x1 v16 s0 h20) (fun v26 h24 =>
  if v26 ≤ 0 then
  (if v16 = (24 : Int32) then
  (jn_X12_readHandshake_154 a0 x1 v16 h24)
  else
  (mm_gr h24 a0 60 (fun b31 =>
  mm_qv (bd_X12_append a0 x1 b31 5 (mm_i h24 a0 62) h24) (fun h33 =>
  jn_X12_readHandshake_154 a0 x1 v16 h33))))
  else
  (mm_qv (bd_X12_fail a0 x1 v26 h24) (fun h36 =>
  some (none, h36)))))
  else
  (mm_qv (bd_X12_fail a0 x1 10 h20) (fun h39 =>
  some (none, h39))))) else none))) else none))
  else
  (jn_X12_readHandshake_72 a0 x1 h))
set_option maxHeartbeats 4000000 in
set_option maxRecDepth 100000 in
theorem oj_X12_readHandshake_53 {G : mm_G}   (a0 : Nat) (x1 : Int32) (s0 : Int32) (h : mm_H) (k_a0 : mm_kd h a0 = 11) : mm_Ok G my_X12_readHandshake 53 [.ref a0, .int x1, mm_U, mm_U, mm_U] [.int s0] h (jn_X12_readHandshake_53 a0 x1 s0 h) := by
  unfold jn_X12_readHandshake_53
  refine ok_istore_n (q := 54) (ls' := [.ref a0, .int x1, .int s0, mm_U, mm_U]) dX12_readHandshake_53 (Nat.le_of_ble_eq_true rfl) rfl rfl ?_
  refine ok_aload_n (q := 55) dX12_readHandshake_54 rfl rfl ?_
  refine ok_getI cl_11 (q := 58) (k := 62) dX12_readHandshake_55 (Nat.le_of_ble_eq_true rfl) wd_1094 (fun _ _ _ => rfl) k_a0 rfl ?_
  refine ok_iconst (q := 59) (v := 4) dX12_readHandshake_58 ci_4 rfl ?_
  refine ok_icmp_lt (q := 62) (t := 72) dX12_readHandshake_59 rfl rfl ?_ ?_
  · refine mm_wk [true, true, false, false, false] (ls' := [.ref a0, .int x1, mm_U, mm_U, mm_U]) rfl ?_
    exact oj_X12_readHandshake_72 a0 x1 h k_a0
  · refine ok_iload_n (q := 63) dX12_readHandshake_62 rfl rfl ?_
    refine ok_aload_n (q := 64) dX12_readHandshake_63 rfl rfl ?_
    refine ok_getI cl_11 (q := 67) (k := 62) dX12_readHandshake_64 (Nat.le_of_ble_eq_true rfl) wd_1094 (fun _ _ _ => rfl) k_a0 rfl ?_
    refine ok_iconst (q := 68) (v := 4) dX12_readHandshake_67 ci_4 rfl ?_
    refine ok_isub (q := 69) dX12_readHandshake_68 rfl ?_
    refine ok_icmp_eq (q := 72) (t := 80) dX12_readHandshake_69 rfl rfl ?_ ?_
    · refine ok_aload_n (q := 81) dX12_readHandshake_80 rfl rfl ?_
      refine ok_getR cl_11 (q := 84) (k := 60) dX12_readHandshake_81 (Nat.le_of_ble_eq_true rfl) wd_1092 (fun _ _ _ => rfl) kt_11_60 k_a0 rfl (fun b13 k14 => ?_)
      refine ok_iconst (q := 85) (v := 5) dX12_readHandshake_84 ci_5 rfl ?_
      refine mm_ck (fun c15 => ?_)
      refine ok_bald (q := 86) dX12_readHandshake_85 k14 c15 rfl ?_
      refine ok_sipush (q := 89) (v := 255) dX12_readHandshake_86 cs_255 rfl ?_
      refine ok_iand (q := 90) dX12_readHandshake_89 rfl ?_
      refine bi_ok (fun v16 => ?_)
      refine ok_istore_n (q := 91) (ls' := [.ref a0, .int x1, .int s0, .int v16, mm_U]) dX12_readHandshake_90 (Nat.le_of_ble_eq_true rfl) rfl rfl ?_
      refine ok_iload_n (q := 92) dX12_readHandshake_91 rfl rfl ?_
      refine ok_aload_n (q := 93) dX12_readHandshake_92 rfl rfl ?_
      refine ok_getR cl_11 (q := 96) (k := 4) dX12_readHandshake_93 (Nat.le_of_ble_eq_true rfl) wd_1036 (fun _ _ _ => rfl) kt_11_4 k_a0 rfl (fun b17 k18 => ?_)
      refine ok_iload_n (q := 97) dX12_readHandshake_96 rfl rfl ?_
      refine mm_ck (fun c19 => ?_)
      refine ok_iald (q := 98) dX12_readHandshake_97 k18 c19 rfl ?_
      refine mm_ci (q := 101) (mt_X12_waited G (mm_i h b17 (mm_n x1)) h ) (mm_runS (as := [.int (mm_i h b17 (mm_n x1))]) (st := [.int v16]) lk_X12_readHandshake_X12_waited_458 dX12_readHandshake_98 rfl (Nat.le_of_ble_eq_true rfl)) rfl (fun v22 h20 p21 => ?_)
      have k23 : mm_kd h20 a0 = 11 := mm_kd_app p21 k_a0 (by decide)
      refine ok_icmp_eq (q := 104) (t := 112) dX12_readHandshake_101 rfl rfl ?_ ?_
      · refine ok_aload_n (q := 113) dX12_readHandshake_112 rfl rfl ?_
        refine ok_iload_n (q := 114) dX12_readHandshake_113 rfl rfl ?_
        refine ok_iload_n (q := 115) dX12_readHandshake_114 rfl rfl ?_
        refine ok_iload_n (q := 116) dX12_readHandshake_115 rfl rfl ?_
        refine mm_ci (q := 119) (mt_X12_bodyFault G a0 x1 v16 s0 h20 k23) (mm_runV (as := [.int x1, .int v16, .int s0]) (st := []) cl_11 lk_X12_readHandshake_X12_bodyFault_461 rfl dX12_readHandshake_116 rfl (Nat.le_of_ble_eq_true rfl) k23) rfl (fun v26 h24 p25 => ?_)
        have k27 : mm_kd h24 a0 = 11 := mm_kd_app p25 k23 (by decide)
        refine ok_istore (q := 121) (ls' := [.ref a0, .int x1, .int s0, .int v16, .int v26]) dX12_readHandshake_119 (Nat.le_of_ble_eq_true rfl) rfl rfl ?_
        refine ok_iload (q := 123) dX12_readHandshake_121 rfl rfl ?_
        refine ok_if_le (q := 126) (t := 134) dX12_readHandshake_123 rfl rfl ?_ ?_
        · refine ok_iload_n (q := 135) dX12_readHandshake_134 rfl rfl ?_
          refine ok_bipush (q := 137) (v := 24) dX12_readHandshake_135 cb_24 rfl ?_
          refine ok_icmp_eq (q := 140) (t := 154) dX12_readHandshake_137 rfl rfl ?_ ?_
          · refine mm_wk [true, true, false, true, false] (ls' := [.ref a0, .int x1, mm_U, .int v16, mm_U]) rfl ?_
            exact oj_X12_readHandshake_154 a0 x1 v16 h24 k27
          · refine ok_aload_n (q := 141) dX12_readHandshake_140 rfl rfl ?_
            refine ok_iload_n (q := 142) dX12_readHandshake_141 rfl rfl ?_
            refine ok_aload_n (q := 143) dX12_readHandshake_142 rfl rfl ?_
            refine ok_getR cl_11 (q := 146) (k := 60) dX12_readHandshake_143 (Nat.le_of_ble_eq_true rfl) wd_1092 (fun _ _ _ => rfl) kt_11_60 k27 rfl (fun b31 k32 => ?_)
            refine ok_iconst (q := 147) (v := 5) dX12_readHandshake_146 ci_5 rfl ?_
            refine ok_aload_n (q := 148) dX12_readHandshake_147 rfl rfl ?_
            refine ok_getI cl_11 (q := 151) (k := 62) dX12_readHandshake_148 (Nat.le_of_ble_eq_true rfl) wd_1094 (fun _ _ _ => rfl) k27 rfl ?_
            refine mm_cv (q := 154) (mt_X12_append G a0 x1 b31 5 (mm_i h24 a0 62) h24 k27 k32) (mm_runV (as := [.int x1, .ref b31, .int 5, .int (mm_i h24 a0 62)]) (st := []) cl_11 lk_X12_readHandshake_X12_append_393 rfl dX12_readHandshake_151 rfl (Nat.le_of_ble_eq_true rfl) k27) rfl (fun h33 p34 => ?_)
            have k35 : mm_kd h33 a0 = 11 := mm_kd_app p34 k27 (by decide)
            refine mm_wk [true, true, false, true, false] (ls' := [.ref a0, .int x1, mm_U, .int v16, mm_U]) rfl ?_
            exact oj_X12_readHandshake_154 a0 x1 v16 h33 k35
        · refine ok_aload_n (q := 127) dX12_readHandshake_126 rfl rfl ?_
          refine ok_iload_n (q := 128) dX12_readHandshake_127 rfl rfl ?_
          refine ok_iload (q := 130) dX12_readHandshake_128 rfl rfl ?_
          refine mm_cv (q := 133) (mt_X12_fail G a0 x1 v26 h24 k27) (mm_runV (as := [.int x1, .int v26]) (st := []) cl_11 lk_X12_readHandshake_X12_fail_436 rfl dX12_readHandshake_130 rfl (Nat.le_of_ble_eq_true rfl) k27) rfl (fun h36 p37 => ?_)
          have k38 : mm_kd h36 a0 = 11 := mm_kd_app p37 k27 (by decide)
          exact ok_ret dX12_readHandshake_133 rfl
      · refine ok_aload_n (q := 105) dX12_readHandshake_104 rfl rfl ?_
        refine ok_iload_n (q := 106) dX12_readHandshake_105 rfl rfl ?_
        refine ok_bipush (q := 108) (v := 10) dX12_readHandshake_106 cb_10 rfl ?_
        refine mm_cv (q := 111) (mt_X12_fail G a0 x1 10 h20 k23) (mm_runV (as := [.int x1, .int 10]) (st := []) cl_11 lk_X12_readHandshake_X12_fail_436 rfl dX12_readHandshake_108 rfl (Nat.le_of_ble_eq_true rfl) k23) rfl (fun h39 p40 => ?_)
        have k41 : mm_kd h39 a0 = 11 := mm_kd_app p40 k23 (by decide)
        exact ok_ret dX12_readHandshake_111 rfl
    · refine mm_wk [true, true, false, false, false] (ls' := [.ref a0, .int x1, mm_U, mm_U, mm_U]) rfl ?_
      exact oj_X12_readHandshake_72 a0 x1 h k_a0
def bd_X12_readHandshake (a0 : Nat) (x1 : Int32) (h : mm_H) : mm_O := if (4 : Int32) ≤ (mm_i h a0 62) then
  (mm_gr h a0 60 (fun b1 =>
  if mm_in (6 : Int32) (mm_ln h b1) = true then (mm_gr h a0 60 (fun b4 =>
  if mm_in (7 : Int32) (mm_ln h b4) = true then (mm_gr h a0 60 (fun b7 =>
  if mm_in (8 : Int32) (mm_ln h b7) = true then (jn_X12_readHandshake_53 a0 x1 (((mm_shl ((mm_i h b1 (mm_n (6 : Int32))) &&& (255 : Int32)) (16 : Int32)) ||| (mm_shl ((mm_i h b4 (mm_n (7 : Int32))) &&& (255 : Int32)) (8 : Int32))) ||| ((mm_i h b7 (mm_n (8 : Int32))) &&& (255 : Int32))) h) else none)) else none)) else none))
  else
  (jn_X12_readHandshake_53 a0 x1 (-1) h)
set_option maxHeartbeats 4000000 in
set_option maxRecDepth 100000 in
theorem mt_X12_readHandshake (G : mm_G) (a0 : Nat) (x1 : Int32) (h : mm_H) (k_a0 : mm_kd h a0 = 11) : mm_Met G my_X12_readHandshake [.ref a0, .int x1] h (bd_X12_readHandshake a0 x1 h) := by
  refine mm_met (ls := [.ref a0, .int x1, mm_U, mm_U, mm_U]) pn_RX12 (Nat.le_of_ble_eq_true rfl) rfl ?_
  unfold bd_X12_readHandshake
  refine ok_aload_n (q := 1) dX12_readHandshake_0 rfl rfl ?_
  refine ok_getI cl_11 (q := 4) (k := 62) dX12_readHandshake_1 (Nat.le_of_ble_eq_true rfl) wd_1094 (fun _ _ _ => rfl) k_a0 rfl ?_
  refine ok_iconst (q := 5) (v := 4) dX12_readHandshake_4 ci_4 rfl ?_
  refine ok_icmp_ge (q := 8) (t := 12) dX12_readHandshake_5 rfl rfl ?_ ?_
  · refine ok_aload_n (q := 13) dX12_readHandshake_12 rfl rfl ?_
    refine ok_getR cl_11 (q := 16) (k := 60) dX12_readHandshake_13 (Nat.le_of_ble_eq_true rfl) wd_1092 (fun _ _ _ => rfl) kt_11_60 k_a0 rfl (fun b1 k2 => ?_)
    refine ok_bipush (q := 18) (v := 6) dX12_readHandshake_16 cb_6 rfl ?_
    refine mm_ck (fun c3 => ?_)
    refine ok_bald (q := 19) dX12_readHandshake_18 k2 c3 rfl ?_
    refine ok_sipush (q := 22) (v := 255) dX12_readHandshake_19 cs_255 rfl ?_
    refine ok_iand (q := 23) dX12_readHandshake_22 rfl ?_
    refine ok_bipush (q := 25) (v := 16) dX12_readHandshake_23 cb_16 rfl ?_
    refine ok_ishl (q := 26) dX12_readHandshake_25 rfl ?_
    refine ok_aload_n (q := 27) dX12_readHandshake_26 rfl rfl ?_
    refine ok_getR cl_11 (q := 30) (k := 60) dX12_readHandshake_27 (Nat.le_of_ble_eq_true rfl) wd_1092 (fun _ _ _ => rfl) kt_11_60 k_a0 rfl (fun b4 k5 => ?_)
    refine ok_bipush (q := 32) (v := 7) dX12_readHandshake_30 cb_7 rfl ?_
    refine mm_ck (fun c6 => ?_)
    refine ok_bald (q := 33) dX12_readHandshake_32 k5 c6 rfl ?_
    refine ok_sipush (q := 36) (v := 255) dX12_readHandshake_33 cs_255 rfl ?_
    refine ok_iand (q := 37) dX12_readHandshake_36 rfl ?_
    refine ok_bipush (q := 39) (v := 8) dX12_readHandshake_37 cb_8 rfl ?_
    refine ok_ishl (q := 40) dX12_readHandshake_39 rfl ?_
    refine ok_ior (q := 41) dX12_readHandshake_40 rfl ?_
    refine ok_aload_n (q := 42) dX12_readHandshake_41 rfl rfl ?_
    refine ok_getR cl_11 (q := 45) (k := 60) dX12_readHandshake_42 (Nat.le_of_ble_eq_true rfl) wd_1092 (fun _ _ _ => rfl) kt_11_60 k_a0 rfl (fun b7 k8 => ?_)
    refine ok_bipush (q := 47) (v := 8) dX12_readHandshake_45 cb_8 rfl ?_
    refine mm_ck (fun c9 => ?_)
    refine ok_bald (q := 48) dX12_readHandshake_47 k8 c9 rfl ?_
    refine ok_sipush (q := 51) (v := 255) dX12_readHandshake_48 cs_255 rfl ?_
    refine ok_iand (q := 52) dX12_readHandshake_51 rfl ?_
    refine ok_ior (q := 53) dX12_readHandshake_52 rfl ?_
    exact oj_X12_readHandshake_53 a0 x1 (((mm_shl ((mm_i h b1 (mm_n (6 : Int32))) &&& (255 : Int32)) (16 : Int32)) ||| (mm_shl ((mm_i h b4 (mm_n (7 : Int32))) &&& (255 : Int32)) (8 : Int32))) ||| ((mm_i h b7 (mm_n (8 : Int32))) &&& (255 : Int32))) h k_a0
  · refine ok_iconst (q := 9) (v := -1) dX12_readHandshake_8 ci_m1 rfl ?_
    refine ok_goto (q := 53) dX12_readHandshake_9 rfl ?_
    exact oj_X12_readHandshake_53 a0 x1 (-1) h k_a0
def jn_X12_readRecord_240 (a0 : Nat) (x1 : Int32) (h : mm_H) : mm_O := if (mm_i h a0 61) = (22 : Int32) then
  (mm_qv (bd_X12_readHandshake a0 x1 h) (fun h27 =>
  some (none, h27)))
  else
  (mm_qv (bd_X12_fail a0 x1 10 h) (fun h24 =>
  some (none, h24)))
set_option maxHeartbeats 4000000 in
set_option maxRecDepth 100000 in
theorem oj_X12_readRecord_240 {G : mm_G}   (a0 : Nat) (x1 : Int32) (h : mm_H) (k_a0 : mm_kd h a0 = 11) : mm_Ok G my_X12_readRecord 240 [.ref a0, .int x1, mm_U, mm_U] [] h (jn_X12_readRecord_240 a0 x1 h) := by
  unfold jn_X12_readRecord_240
  refine ok_aload_n (q := 241) dX12_readRecord_240 rfl rfl ?_
  refine ok_getI cl_11 (q := 244) (k := 61) dX12_readRecord_241 (Nat.le_of_ble_eq_true rfl) wd_1093 (fun _ _ _ => rfl) k_a0 rfl ?_
  refine ok_bipush (q := 246) (v := 22) dX12_readRecord_244 cb_22 rfl ?_
  refine ok_icmp_ne (q := 249) (t := 257) dX12_readRecord_246 rfl rfl ?_ ?_
  · refine ok_aload_n (q := 258) dX12_readRecord_257 rfl rfl ?_
    refine ok_iload_n (q := 259) dX12_readRecord_258 rfl rfl ?_
    refine ok_bipush (q := 261) (v := 10) dX12_readRecord_259 cb_10 rfl ?_
    refine mm_cv (q := 264) (mt_X12_fail G a0 x1 10 h k_a0) (mm_runV (as := [.int x1, .int 10]) (st := []) cl_11 lk_X12_readRecord_X12_fail_436 rfl dX12_readRecord_261 rfl (Nat.le_of_ble_eq_true rfl) k_a0) rfl (fun h24 p25 => ?_)
    have k26 : mm_kd h24 a0 = 11 := mm_kd_app p25 k_a0 (by decide)
    exact ok_ret dX12_readRecord_264 rfl
  · refine ok_aload_n (q := 250) dX12_readRecord_249 rfl rfl ?_
    refine ok_iload_n (q := 251) dX12_readRecord_250 rfl rfl ?_
    refine mm_cv (q := 254) (mt_X12_readHandshake G a0 x1 h k_a0) (mm_runV (as := [.int x1]) (st := []) cl_11 lk_X12_readRecord_X12_readHandshake_455 rfl dX12_readRecord_251 rfl (Nat.le_of_ble_eq_true rfl) k_a0) rfl (fun h27 p28 => ?_)
    have k29 : mm_kd h27 a0 = 11 := mm_kd_app p28 k_a0 (by decide)
    refine ok_goto (q := 264) dX12_readRecord_254 rfl ?_
    exact ok_ret dX12_readRecord_264 rfl
def jn_X12_readRecord_197 (a0 : Nat) (x1 : Int32) (h : mm_H) : mm_O := if (mm_i h a0 61) = (21 : Int32) then
  (mm_qv (bd_X12_readAlert a0 x1 h) (fun h36 =>
  some (none, h36)))
  else
  (if (mm_i h a0 61) = (23 : Int32) then
  (mm_gr h a0 27 (fun b30 =>
  if mm_in x1 (mm_ln h b30) = true then (if (mm_i h b30 (mm_n x1)) = 0 then
  (jn_X12_readRecord_240 a0 x1 h)
  else
  (mm_qv (bd_X12_readData a0 x1 h) (fun h33 =>
  some (none, h33)))) else none))
  else
  (jn_X12_readRecord_240 a0 x1 h))
set_option maxHeartbeats 4000000 in
set_option maxRecDepth 100000 in
theorem oj_X12_readRecord_197 {G : mm_G}   (a0 : Nat) (x1 : Int32) (h : mm_H) (k_a0 : mm_kd h a0 = 11) : mm_Ok G my_X12_readRecord 197 [.ref a0, .int x1, mm_U, mm_U] [] h (jn_X12_readRecord_197 a0 x1 h) := by
  unfold jn_X12_readRecord_197
  refine ok_aload_n (q := 198) dX12_readRecord_197 rfl rfl ?_
  refine ok_getI cl_11 (q := 201) (k := 61) dX12_readRecord_198 (Nat.le_of_ble_eq_true rfl) wd_1093 (fun _ _ _ => rfl) k_a0 rfl ?_
  refine ok_bipush (q := 203) (v := 21) dX12_readRecord_201 cb_21 rfl ?_
  refine ok_icmp_ne (q := 206) (t := 214) dX12_readRecord_203 rfl rfl ?_ ?_
  · refine ok_aload_n (q := 215) dX12_readRecord_214 rfl rfl ?_
    refine ok_getI cl_11 (q := 218) (k := 61) dX12_readRecord_215 (Nat.le_of_ble_eq_true rfl) wd_1093 (fun _ _ _ => rfl) k_a0 rfl ?_
    refine ok_bipush (q := 220) (v := 23) dX12_readRecord_218 cb_23 rfl ?_
    refine ok_icmp_ne (q := 223) (t := 240) dX12_readRecord_220 rfl rfl ?_ ?_
    · exact oj_X12_readRecord_240 a0 x1 h k_a0
    · refine ok_aload_n (q := 224) dX12_readRecord_223 rfl rfl ?_
      refine ok_getR cl_11 (q := 227) (k := 27) dX12_readRecord_224 (Nat.le_of_ble_eq_true rfl) wd_1059 (fun _ _ _ => rfl) kt_11_27 k_a0 rfl (fun b30 k31 => ?_)
      refine ok_iload_n (q := 228) dX12_readRecord_227 rfl rfl ?_
      refine mm_ck (fun c32 => ?_)
      refine ok_zald (q := 229) dX12_readRecord_228 k31 c32 rfl ?_
      refine ok_if_eq (q := 232) (t := 240) dX12_readRecord_229 rfl rfl ?_ ?_
      · exact oj_X12_readRecord_240 a0 x1 h k_a0
      · refine ok_aload_n (q := 233) dX12_readRecord_232 rfl rfl ?_
        refine ok_iload_n (q := 234) dX12_readRecord_233 rfl rfl ?_
        refine mm_cv (q := 237) (mt_X12_readData G a0 x1 h k_a0) (mm_runV (as := [.int x1]) (st := []) cl_11 lk_X12_readRecord_X12_readData_452 rfl dX12_readRecord_234 rfl (Nat.le_of_ble_eq_true rfl) k_a0) rfl (fun h33 p34 => ?_)
        have k35 : mm_kd h33 a0 = 11 := mm_kd_app p34 k_a0 (by decide)
        refine ok_goto (q := 264) dX12_readRecord_237 rfl ?_
        exact ok_ret dX12_readRecord_264 rfl
  · refine ok_aload_n (q := 207) dX12_readRecord_206 rfl rfl ?_
    refine ok_iload_n (q := 208) dX12_readRecord_207 rfl rfl ?_
    refine mm_cv (q := 211) (mt_X12_readAlert G a0 x1 h k_a0) (mm_runV (as := [.int x1]) (st := []) cl_11 lk_X12_readRecord_X12_readAlert_449 rfl dX12_readRecord_208 rfl (Nat.le_of_ble_eq_true rfl) k_a0) rfl (fun h36 p37 => ?_)
    have k38 : mm_kd h36 a0 = 11 := mm_kd_app p37 k_a0 (by decide)
    refine ok_goto (q := 264) dX12_readRecord_211 rfl ?_
    exact ok_ret dX12_readRecord_264 rfl
def lp_X12_readRecord_119 (ke_153 : Nat → Int32 → mm_H → mm_O) : Nat → Nat → Int32 → mm_H → mm_O
  | 0, _, _, _ => none
  | n + 1, a0, x1, h => if (mm_i h a0 62) ≤ 0 then
  (ke_153 a0 x1 h)
  else
  (mm_gr h a0 60 (fun b45 =>
  if mm_in ((4 : Int32) + (mm_i h a0 62)) (mm_ln h b45) = true then (if (mm_i h b45 (mm_n ((4 : Int32) + (mm_i h a0 62)))) = 0 then
  (mm_bh (mm_si h a0 62 ((mm_i h a0 62) - (1 : Int32))) (fun h48 =>
  lp_X12_readRecord_119 ke_153 n a0 x1 h48))
  else
  (ke_153 a0 x1 h)) else none))
set_option maxHeartbeats 4000000 in
set_option maxRecDepth 100000 in
theorem ol_X12_readRecord_119 {G : mm_G} {ke_153 : Nat → Int32 → mm_H → mm_O} (hke_153 : ∀ (a0 : Nat) (x1 : Int32) (h : mm_H), mm_kd h a0 = 11 → mm_Ok G my_X12_readRecord 153 [.ref a0, .int x1, mm_U, mm_U] [] h (ke_153 a0 x1 h)) : ∀ (n : Nat) (a0 : Nat) (x1 : Int32) (h : mm_H), mm_kd h a0 = 11 → mm_Ok G my_X12_readRecord 119 [.ref a0, .int x1, mm_U, mm_U] [] h (lp_X12_readRecord_119 ke_153 n a0 x1 h) := by
  intro n
  induction n with
  | zero => intro a0 x1 h k_a0; exact mm_no
  | succ n ih =>
    intro a0 x1 h k_a0
    rw [lp_X12_readRecord_119]
    refine ok_aload_n (q := 120) dX12_readRecord_119 rfl rfl ?_
    refine ok_getI cl_11 (q := 123) (k := 62) dX12_readRecord_120 (Nat.le_of_ble_eq_true rfl) wd_1094 (fun _ _ _ => rfl) k_a0 rfl ?_
    refine ok_if_le (q := 126) (t := 153) dX12_readRecord_123 rfl rfl ?_ ?_
    · exact hke_153 a0 x1 h k_a0
    · refine ok_aload_n (q := 127) dX12_readRecord_126 rfl rfl ?_
      refine ok_getR cl_11 (q := 130) (k := 60) dX12_readRecord_127 (Nat.le_of_ble_eq_true rfl) wd_1092 (fun _ _ _ => rfl) kt_11_60 k_a0 rfl (fun b45 k46 => ?_)
      refine ok_iconst (q := 131) (v := 4) dX12_readRecord_130 ci_4 rfl ?_
      refine ok_aload_n (q := 132) dX12_readRecord_131 rfl rfl ?_
      refine ok_getI cl_11 (q := 135) (k := 62) dX12_readRecord_132 (Nat.le_of_ble_eq_true rfl) wd_1094 (fun _ _ _ => rfl) k_a0 rfl ?_
      refine ok_iadd (q := 136) dX12_readRecord_135 rfl ?_
      refine mm_ck (fun c47 => ?_)
      refine ok_bald (q := 137) dX12_readRecord_136 k46 c47 rfl ?_
      refine ok_if_ne (q := 140) (t := 153) dX12_readRecord_137 rfl rfl ?_ ?_
      · exact hke_153 a0 x1 h k_a0
      · refine ok_aload_n (q := 141) dX12_readRecord_140 rfl rfl ?_
        refine ok_dup (q := 142) dX12_readRecord_141 rfl rfl ?_
        refine ok_getI cl_11 (q := 145) (k := 62) dX12_readRecord_142 (Nat.le_of_ble_eq_true rfl) wd_1094 (fun _ _ _ => rfl) k_a0 rfl ?_
        refine ok_iconst (q := 146) (v := 1) dX12_readRecord_145 ci_1 rfl ?_
        refine ok_isub (q := 147) dX12_readRecord_146 rfl ?_
        refine ok_putI cl_11 (q := 150) (k := 62) dX12_readRecord_147 (Nat.le_of_ble_eq_true rfl) wd_1094 (Or.inl rfl) (fun _ _ _ => rfl) rfl rfl k_a0 rfl (bh_ok (fun h48 e49 => ?_))
        have e49 : h48.1 = h.1 := e49
        refine ok_goto (q := 119) dX12_readRecord_150 rfl ?_
        exact ih a0 x1 h48 (mm_ke e49 k_a0)
def bd_X12_readRecord (a0 : Nat) (x1 : Int32) (x2 : Int32) (h : mm_H) : mm_O := mm_gr h a0 4 (fun b1 =>
  if mm_in x1 (mm_ln h b1) = true then (if (mm_i h b1 (mm_n x1)) = 0 then
  (some (none, h))
  else
  (mm_gr h a0 4 (fun b4 =>
  if mm_in x1 (mm_ln h b4) = true then (if (mm_i h b4 (mm_n x1)) = (7 : Int32) then
  (some (none, h))
  else
  (mm_gr h a0 14 (fun b7 =>
  if mm_in x1 (mm_ln h b7) = true then (if (mm_i h b7 (mm_n x1)) = 0 then
  (mm_qi (bd_X12_outerFault a0 x1 x2 h) (fun v12 h10 =>
  if v12 ≤ 0 then
  (mm_gr h10 a0 60 (fun b14 =>
  if mm_in (0 : Int32) (mm_ln h10 b14) = true then (mm_bh (mm_si h10 a0 61 ((mm_i h10 b14 (mm_n (0 : Int32))) &&& (255 : Int32))) (fun h17 =>
  mm_bh (mm_si h17 a0 62 (x2 - (5 : Int32))) (fun h19 =>
  if (mm_i h19 a0 61) = (20 : Int32) then
  (some (none, h19))
  else
  (mm_gr h19 a0 27 (fun b21 =>
  if mm_in x1 (mm_ln h19 b21) = true then (if (mm_i h19 b21 (mm_n x1)) = 0 then
  (jn_X12_readRecord_197 a0 x1 h19)
  else
  (mm_qi (bd_X12_isOpened a0 x1 (mm_i h19 a0 62) h19) (fun v41 h39 =>
  if v41 = 0 then
  (mm_qv (bd_X12_fail a0 x1 20 h39) (fun h63 =>
  some (none, h63)))
  else
  (mm_bh (mm_si h39 a0 62 ((mm_i h39 a0 62) - (16 : Int32))) (fun h43 =>
  lp_X12_readRecord_119 (fun b51 v52 h50 => if (mm_i h50 b51 62) = 0 then
  (mm_qv (bd_X12_fail b51 v52 10 h50) (fun h60 =>
  some (none, h60)))
  else
  (mm_bh (mm_si h50 b51 62 ((mm_i h50 b51 62) - (1 : Int32))) (fun h53 =>
  mm_gr h53 b51 60 (fun b55 =>
  if mm_in ((5 : Int32) + (mm_i h53 b51 62)) (mm_ln h53 b55) = true then (mm_bh (mm_si h53 b51 61 ((mm_i h53 b55 (mm_n ((5 : Int32) + (mm_i h53 b51 62)))) &&& (255 : Int32))) (fun h58 =>
  jn_X12_readRecord_197 b51 v52 h58)) else none)))) mm_fu a0 x1 h43))))) else none))))) else none))
  else
  (mm_qv (bd_X12_fail a0 x1 v12 h10) (fun h66 =>
  some (none, h66)))))
  else
  (some (none, h))) else none))) else none))) else none)
set_option maxHeartbeats 4000000 in
set_option maxRecDepth 100000 in
theorem mt_X12_readRecord (G : mm_G) (a0 : Nat) (x1 : Int32) (x2 : Int32) (h : mm_H) (k_a0 : mm_kd h a0 = 11) : mm_Met G my_X12_readRecord [.ref a0, .int x1, .int x2] h (bd_X12_readRecord a0 x1 x2 h) := by
  refine mm_met (ls := [.ref a0, .int x1, .int x2, mm_U]) pn_RX12 (Nat.le_of_ble_eq_true rfl) rfl ?_
  unfold bd_X12_readRecord
  refine ok_aload_n (q := 1) dX12_readRecord_0 rfl rfl ?_
  refine ok_getR cl_11 (q := 4) (k := 4) dX12_readRecord_1 (Nat.le_of_ble_eq_true rfl) wd_1036 (fun _ _ _ => rfl) kt_11_4 k_a0 rfl (fun b1 k2 => ?_)
  refine ok_iload_n (q := 5) dX12_readRecord_4 rfl rfl ?_
  refine mm_ck (fun c3 => ?_)
  refine ok_iald (q := 6) dX12_readRecord_5 k2 c3 rfl ?_
  refine ok_if_eq (q := 9) (t := 29) dX12_readRecord_6 rfl rfl ?_ ?_
  · exact ok_ret dX12_readRecord_29 rfl
  · refine ok_aload_n (q := 10) dX12_readRecord_9 rfl rfl ?_
    refine ok_getR cl_11 (q := 13) (k := 4) dX12_readRecord_10 (Nat.le_of_ble_eq_true rfl) wd_1036 (fun _ _ _ => rfl) kt_11_4 k_a0 rfl (fun b4 k5 => ?_)
    refine ok_iload_n (q := 14) dX12_readRecord_13 rfl rfl ?_
    refine mm_ck (fun c6 => ?_)
    refine ok_iald (q := 15) dX12_readRecord_14 k5 c6 rfl ?_
    refine ok_bipush (q := 17) (v := 7) dX12_readRecord_15 cb_7 rfl ?_
    refine ok_icmp_eq (q := 20) (t := 29) dX12_readRecord_17 rfl rfl ?_ ?_
    · exact ok_ret dX12_readRecord_29 rfl
    · refine ok_aload_n (q := 21) dX12_readRecord_20 rfl rfl ?_
      refine ok_getR cl_11 (q := 24) (k := 14) dX12_readRecord_21 (Nat.le_of_ble_eq_true rfl) wd_1046 (fun _ _ _ => rfl) kt_11_14 k_a0 rfl (fun b7 k8 => ?_)
      refine ok_iload_n (q := 25) dX12_readRecord_24 rfl rfl ?_
      refine mm_ck (fun c9 => ?_)
      refine ok_zald (q := 26) dX12_readRecord_25 k8 c9 rfl ?_
      refine ok_if_eq (q := 29) (t := 30) dX12_readRecord_26 rfl rfl ?_ ?_
      · refine ok_aload_n (q := 31) dX12_readRecord_30 rfl rfl ?_
        refine ok_iload_n (q := 32) dX12_readRecord_31 rfl rfl ?_
        refine ok_iload_n (q := 33) dX12_readRecord_32 rfl rfl ?_
        refine mm_ci (q := 36) (mt_X12_outerFault G a0 x1 x2 h k_a0) (mm_runV (as := [.int x1, .int x2]) (st := []) cl_11 lk_X12_readRecord_X12_outerFault_433 rfl dX12_readRecord_33 rfl (Nat.le_of_ble_eq_true rfl) k_a0) rfl (fun v12 h10 p11 => ?_)
        have k13 : mm_kd h10 a0 = 11 := mm_kd_app p11 k_a0 (by decide)
        refine ok_istore_n (q := 37) (ls' := [.ref a0, .int x1, .int x2, .int v12]) dX12_readRecord_36 (Nat.le_of_ble_eq_true rfl) rfl rfl ?_
        refine ok_iload_n (q := 38) dX12_readRecord_37 rfl rfl ?_
        refine ok_if_le (q := 41) (t := 48) dX12_readRecord_38 rfl rfl ?_ ?_
        · refine ok_aload_n (q := 49) dX12_readRecord_48 rfl rfl ?_
          refine ok_aload_n (q := 50) dX12_readRecord_49 rfl rfl ?_
          refine ok_getR cl_11 (q := 53) (k := 60) dX12_readRecord_50 (Nat.le_of_ble_eq_true rfl) wd_1092 (fun _ _ _ => rfl) kt_11_60 k13 rfl (fun b14 k15 => ?_)
          refine ok_iconst (q := 54) (v := 0) dX12_readRecord_53 ci_0 rfl ?_
          refine mm_ck (fun c16 => ?_)
          refine ok_bald (q := 55) dX12_readRecord_54 k15 c16 rfl ?_
          refine ok_sipush (q := 58) (v := 255) dX12_readRecord_55 cs_255 rfl ?_
          refine ok_iand (q := 59) dX12_readRecord_58 rfl ?_
          refine ok_putI cl_11 (q := 62) (k := 61) dX12_readRecord_59 (Nat.le_of_ble_eq_true rfl) wd_1093 (Or.inl rfl) (fun _ _ _ => rfl) rfl rfl k13 rfl (bh_ok (fun h17 e18 => ?_))
          have e18 : h17.1 = h10.1 := e18
          refine ok_aload_n (q := 63) dX12_readRecord_62 rfl rfl ?_
          refine ok_iload_n (q := 64) dX12_readRecord_63 rfl rfl ?_
          refine ok_iconst (q := 65) (v := 5) dX12_readRecord_64 ci_5 rfl ?_
          refine ok_isub (q := 66) dX12_readRecord_65 rfl ?_
          refine ok_putI cl_11 (q := 69) (k := 62) dX12_readRecord_66 (Nat.le_of_ble_eq_true rfl) wd_1094 (Or.inl rfl) (fun _ _ _ => rfl) rfl rfl (mm_ke e18 k13) rfl (bh_ok (fun h19 e20 => ?_))
          have e20 : h19.1 = h10.1 := e20.trans e18
          refine ok_aload_n (q := 70) dX12_readRecord_69 rfl rfl ?_
          refine ok_getI cl_11 (q := 73) (k := 61) dX12_readRecord_70 (Nat.le_of_ble_eq_true rfl) wd_1093 (fun _ _ _ => rfl) (mm_ke e20 k13) rfl ?_
          refine ok_bipush (q := 75) (v := 20) dX12_readRecord_73 cb_20 rfl ?_
          refine ok_icmp_ne (q := 78) (t := 79) dX12_readRecord_75 rfl rfl ?_ ?_
          · refine ok_aload_n (q := 80) dX12_readRecord_79 rfl rfl ?_
            refine ok_getR cl_11 (q := 83) (k := 27) dX12_readRecord_80 (Nat.le_of_ble_eq_true rfl) wd_1059 (fun _ _ _ => rfl) kt_11_27 (mm_ke e20 k13) rfl (fun b21 k22 => ?_)
            refine ok_iload_n (q := 84) dX12_readRecord_83 rfl rfl ?_
            refine mm_ck (fun c23 => ?_)
            refine ok_zald (q := 85) dX12_readRecord_84 (mm_ke e20 (mm_ke e20.symm k22)) c23 rfl ?_
            refine ok_if_eq (q := 88) (t := 197) dX12_readRecord_85 rfl rfl ?_ ?_
            · refine mm_wk [true, true, false, false] (ls' := [.ref a0, .int x1, mm_U, mm_U]) rfl ?_
              exact oj_X12_readRecord_197 a0 x1 h19 (mm_ke e20 k13)
            · refine ok_aload_n (q := 89) dX12_readRecord_88 rfl rfl ?_
              refine ok_iload_n (q := 90) dX12_readRecord_89 rfl rfl ?_
              refine ok_aload_n (q := 91) dX12_readRecord_90 rfl rfl ?_
              refine ok_getI cl_11 (q := 94) (k := 62) dX12_readRecord_91 (Nat.le_of_ble_eq_true rfl) wd_1094 (fun _ _ _ => rfl) (mm_ke e20 k13) rfl ?_
              refine mm_ci (q := 97) (mt_X12_isOpened G a0 x1 (mm_i h19 a0 62) h19 (mm_ke e20 k13)) (mm_runV (as := [.int x1, .int (mm_i h19 a0 62)]) (st := []) cl_11 lk_X12_readRecord_X12_isOpened_445 rfl dX12_readRecord_94 rfl (Nat.le_of_ble_eq_true rfl) (mm_ke e20 k13)) rfl (fun v41 h39 p40 => ?_)
              have k42 : mm_kd h39 a0 = 11 := mm_kd_app p40 (mm_ke e20 k13) (by decide)
              refine ok_if_ne (q := 100) (t := 108) dX12_readRecord_97 rfl rfl ?_ ?_
              · refine ok_aload_n (q := 109) dX12_readRecord_108 rfl rfl ?_
                refine ok_dup (q := 110) dX12_readRecord_109 rfl rfl ?_
                refine ok_getI cl_11 (q := 113) (k := 62) dX12_readRecord_110 (Nat.le_of_ble_eq_true rfl) wd_1094 (fun _ _ _ => rfl) k42 rfl ?_
                refine ok_bipush (q := 115) (v := 16) dX12_readRecord_113 cb_16 rfl ?_
                refine ok_isub (q := 116) dX12_readRecord_115 rfl ?_
                refine ok_putI cl_11 (q := 119) (k := 62) dX12_readRecord_116 (Nat.le_of_ble_eq_true rfl) wd_1094 (Or.inl rfl) (fun _ _ _ => rfl) rfl rfl k42 rfl (bh_ok (fun h43 e44 => ?_))
                have e44 : h43.1 = h39.1 := e44
                refine mm_wk [true, true, false, false] (ls' := [.ref a0, .int x1, mm_U, mm_U]) rfl ?_
                refine ol_X12_readRecord_119 (fun b51 v52 h50 k_b51 => ?_) mm_fu a0 x1 h43 (mm_ke e44 k42)
                · refine ok_aload_n (q := 154) dX12_readRecord_153 rfl rfl ?_
                  refine ok_getI cl_11 (q := 157) (k := 62) dX12_readRecord_154 (Nat.le_of_ble_eq_true rfl) wd_1094 (fun _ _ _ => rfl) k_b51 rfl ?_
                  refine ok_if_ne (q := 160) (t := 168) dX12_readRecord_157 rfl rfl ?_ ?_
                  · refine ok_aload_n (q := 169) dX12_readRecord_168 rfl rfl ?_
                    refine ok_dup (q := 170) dX12_readRecord_169 rfl rfl ?_
                    refine ok_getI cl_11 (q := 173) (k := 62) dX12_readRecord_170 (Nat.le_of_ble_eq_true rfl) wd_1094 (fun _ _ _ => rfl) k_b51 rfl ?_
                    refine ok_iconst (q := 174) (v := 1) dX12_readRecord_173 ci_1 rfl ?_
                    refine ok_isub (q := 175) dX12_readRecord_174 rfl ?_
                    refine ok_putI cl_11 (q := 178) (k := 62) dX12_readRecord_175 (Nat.le_of_ble_eq_true rfl) wd_1094 (Or.inl rfl) (fun _ _ _ => rfl) rfl rfl k_b51 rfl (bh_ok (fun h53 e54 => ?_))
                    have e54 : h53.1 = h50.1 := e54
                    refine ok_aload_n (q := 179) dX12_readRecord_178 rfl rfl ?_
                    refine ok_aload_n (q := 180) dX12_readRecord_179 rfl rfl ?_
                    refine ok_getR cl_11 (q := 183) (k := 60) dX12_readRecord_180 (Nat.le_of_ble_eq_true rfl) wd_1092 (fun _ _ _ => rfl) kt_11_60 (mm_ke e54 k_b51) rfl (fun b55 k56 => ?_)
                    refine ok_iconst (q := 184) (v := 5) dX12_readRecord_183 ci_5 rfl ?_
                    refine ok_aload_n (q := 185) dX12_readRecord_184 rfl rfl ?_
                    refine ok_getI cl_11 (q := 188) (k := 62) dX12_readRecord_185 (Nat.le_of_ble_eq_true rfl) wd_1094 (fun _ _ _ => rfl) (mm_ke e54 k_b51) rfl ?_
                    refine ok_iadd (q := 189) dX12_readRecord_188 rfl ?_
                    refine mm_ck (fun c57 => ?_)
                    refine ok_bald (q := 190) dX12_readRecord_189 (mm_ke e54 (mm_ke e54.symm k56)) c57 rfl ?_
                    refine ok_sipush (q := 193) (v := 255) dX12_readRecord_190 cs_255 rfl ?_
                    refine ok_iand (q := 194) dX12_readRecord_193 rfl ?_
                    refine ok_putI cl_11 (q := 197) (k := 61) dX12_readRecord_194 (Nat.le_of_ble_eq_true rfl) wd_1093 (Or.inl rfl) (fun _ _ _ => rfl) rfl rfl (mm_ke e54 k_b51) rfl (bh_ok (fun h58 e59 => ?_))
                    have e59 : h58.1 = h50.1 := e59.trans e54
                    exact oj_X12_readRecord_197 b51 v52 h58 (mm_ke e59 k_b51)
                  · refine ok_aload_n (q := 161) dX12_readRecord_160 rfl rfl ?_
                    refine ok_iload_n (q := 162) dX12_readRecord_161 rfl rfl ?_
                    refine ok_bipush (q := 164) (v := 10) dX12_readRecord_162 cb_10 rfl ?_
                    refine mm_cv (q := 167) (mt_X12_fail G b51 v52 10 h50 k_b51) (mm_runV (as := [.int v52, .int 10]) (st := []) cl_11 lk_X12_readRecord_X12_fail_436 rfl dX12_readRecord_164 rfl (Nat.le_of_ble_eq_true rfl) k_b51) rfl (fun h60 p61 => ?_)
                    have k62 : mm_kd h60 b51 = 11 := mm_kd_app p61 k_b51 (by decide)
                    exact ok_ret dX12_readRecord_167 rfl
              · refine ok_aload_n (q := 101) dX12_readRecord_100 rfl rfl ?_
                refine ok_iload_n (q := 102) dX12_readRecord_101 rfl rfl ?_
                refine ok_bipush (q := 104) (v := 20) dX12_readRecord_102 cb_20 rfl ?_
                refine mm_cv (q := 107) (mt_X12_fail G a0 x1 20 h39 k42) (mm_runV (as := [.int x1, .int 20]) (st := []) cl_11 lk_X12_readRecord_X12_fail_436 rfl dX12_readRecord_104 rfl (Nat.le_of_ble_eq_true rfl) k42) rfl (fun h63 p64 => ?_)
                have k65 : mm_kd h63 a0 = 11 := mm_kd_app p64 k42 (by decide)
                exact ok_ret dX12_readRecord_107 rfl
          · exact ok_ret dX12_readRecord_78 rfl
        · refine ok_aload_n (q := 42) dX12_readRecord_41 rfl rfl ?_
          refine ok_iload_n (q := 43) dX12_readRecord_42 rfl rfl ?_
          refine ok_iload_n (q := 44) dX12_readRecord_43 rfl rfl ?_
          refine mm_cv (q := 47) (mt_X12_fail G a0 x1 v12 h10 k13) (mm_runV (as := [.int x1, .int v12]) (st := []) cl_11 lk_X12_readRecord_X12_fail_436 rfl dX12_readRecord_44 rfl (Nat.le_of_ble_eq_true rfl) k13) rfl (fun h66 p67 => ?_)
          have k68 : mm_kd h66 a0 = 11 := mm_kd_app p67 k13 (by decide)
          exact ok_ret dX12_readRecord_47 rfl
      · exact ok_ret dX12_readRecord_29 rfl
def lp_X12_four_3  : Nat → Nat → Int32 → Int32 → mm_H → mm_O
  | 0, _, _, _, _ => none
  | n + 1, a0, x1, x2, h => if x2 < 0 then
  (some (none, h))
  else
  (mm_gr h a0 0 (fun b1 =>
  if 32 ≤ b1 ∧ mm_in (mm_i h a0 1) (mm_ln h b1) = true then (mm_bh (mm_si h b1 (mm_n (mm_i h a0 1)) (mm_b8 (mm_b8 (mm_shr x1 x2)))) (fun h4 =>
  mm_bh (mm_si h4 a0 1 ((mm_i h4 a0 1) + (1 : Int32))) (fun h6 =>
  lp_X12_four_3 n a0 x1 (x2 + (-8)) h6))) else none))
set_option maxHeartbeats 4000000 in
set_option maxRecDepth 100000 in
theorem ol_X12_four_3 {G : mm_G}   : ∀ (n : Nat) (a0 : Nat) (x1 : Int32) (x2 : Int32) (h : mm_H), mm_kd h a0 = 11 → mm_Ok G my_X12_four 3 [.ref a0, .int x1, .int x2] [] h (lp_X12_four_3 n a0 x1 x2 h) := by
  intro n
  induction n with
  | zero => intro a0 x1 x2 h k_a0; exact mm_no
  | succ n ih =>
    intro a0 x1 x2 h k_a0
    rw [lp_X12_four_3]
    refine ok_iload_n (q := 4) dX12_four_3 rfl rfl ?_
    refine ok_if_lt (q := 7) (t := 36) dX12_four_4 rfl rfl ?_ ?_
    · exact ok_ret dX12_four_36 rfl
    · refine ok_aload_n (q := 8) dX12_four_7 rfl rfl ?_
      refine ok_getR cl_11 (q := 11) (k := 0) dX12_four_8 (Nat.le_of_ble_eq_true rfl) wd_1032 (fun _ _ _ => rfl) kt_11_0 k_a0 rfl (fun b1 k2 => ?_)
      refine ok_aload_n (q := 12) dX12_four_11 rfl rfl ?_
      refine ok_getI cl_11 (q := 15) (k := 1) dX12_four_12 (Nat.le_of_ble_eq_true rfl) wd_1033 (fun _ _ _ => rfl) k_a0 rfl ?_
      refine ok_iload_n (q := 16) dX12_four_15 rfl rfl ?_
      refine ok_iload_n (q := 17) dX12_four_16 rfl rfl ?_
      refine ok_ishr (q := 18) dX12_four_17 rfl ?_
      refine ok_i2b (q := 19) dX12_four_18 rfl ?_
      refine mm_ck (fun c3 => ?_)
      refine ok_bast (q := 20) dX12_four_19 k2 c3.1 c3.2 rfl (bh_ok (fun h4 e5 => ?_))
      have e5 : h4.1 = h.1 := e5
      refine ok_aload_n (q := 21) dX12_four_20 rfl rfl ?_
      refine ok_dup (q := 22) dX12_four_21 rfl rfl ?_
      refine ok_getI cl_11 (q := 25) (k := 1) dX12_four_22 (Nat.le_of_ble_eq_true rfl) wd_1033 (fun _ _ _ => rfl) (mm_ke e5 k_a0) rfl ?_
      refine ok_iconst (q := 26) (v := 1) dX12_four_25 ci_1 rfl ?_
      refine ok_iadd (q := 27) dX12_four_26 rfl ?_
      refine ok_putI cl_11 (q := 30) (k := 1) dX12_four_27 (Nat.le_of_ble_eq_true rfl) wd_1033 (Or.inl rfl) (fun _ _ _ => rfl) rfl rfl (mm_ke e5 k_a0) rfl (bh_ok (fun h6 e7 => ?_))
      have e7 : h6.1 = h.1 := e7.trans e5
      refine ok_iinc (q := 33) (v := x2 + (-8)) (ls' := [.ref a0, .int x1, .int (x2 + (-8))]) dX12_four_30 rfl (congrArg (x2 + ·) ci_m8) (Nat.le_of_ble_eq_true rfl) rfl rfl ?_
      refine ok_goto (q := 3) dX12_four_33 rfl ?_
      exact ih a0 x1 (x2 + (-8)) h6 (mm_ke e7 k_a0)
def bd_X12_four (a0 : Nat) (x1 : Int32) (h : mm_H) : mm_O := lp_X12_four_3  mm_fu a0 x1 24 h
set_option maxHeartbeats 4000000 in
set_option maxRecDepth 100000 in
theorem mt_X12_four (G : mm_G) (a0 : Nat) (x1 : Int32) (h : mm_H) (k_a0 : mm_kd h a0 = 11) : mm_Met G my_X12_four [.ref a0, .int x1] h (bd_X12_four a0 x1 h) := by
  refine mm_met (ls := [.ref a0, .int x1, mm_U]) pn_RX12 (Nat.le_of_ble_eq_true rfl) rfl ?_
  unfold bd_X12_four
  refine ok_bipush (q := 2) (v := 24) dX12_four_0 cb_24 rfl ?_
  refine ok_istore_n (q := 3) (ls' := [.ref a0, .int x1, .int 24]) dX12_four_2 (Nat.le_of_ble_eq_true rfl) rfl rfl ?_
  refine ol_X12_four_3  mm_fu a0 x1 24 h k_a0
def bd_X12_feed (a0 : Nat) (x1 : Int32) (x2 : Int32) (x3 : Int32) (x4 : Int32) (x5 : Int32) (h : mm_H) : mm_O := if ((mm_i h a0 1) + (20 : Int32)) ≤ (600 : Int32) then
  (mm_qv (bd_X12_four a0 x1 h) (fun h1 =>
  mm_qv (bd_X12_four a0 x2 h1) (fun h4 =>
  mm_qv (bd_X12_four a0 x3 h4) (fun h7 =>
  mm_qv (bd_X12_four a0 x4 h7) (fun h10 =>
  mm_qv (bd_X12_four a0 x5 h10) (fun h13 =>
  some (some (.int (mm_i h13 a0 1)), h13)))))))
  else
  (some (some (.int (-1)), h))
set_option maxHeartbeats 4000000 in
set_option maxRecDepth 100000 in
theorem mt_X12_feed (G : mm_G) (a0 : Nat) (x1 : Int32) (x2 : Int32) (x3 : Int32) (x4 : Int32) (x5 : Int32) (h : mm_H) (k_a0 : mm_kd h a0 = 11) : mm_Met G my_X12_feed [.ref a0, .int x1, .int x2, .int x3, .int x4, .int x5] h (bd_X12_feed a0 x1 x2 x3 x4 x5 h) := by
  refine mm_met (ls := [.ref a0, .int x1, .int x2, .int x3, .int x4, .int x5]) pn_RX12 (Nat.le_of_ble_eq_true rfl) rfl ?_
  unfold bd_X12_feed
  refine ok_aload_n (q := 1) dX12_feed_0 rfl rfl ?_
  refine ok_getI cl_11 (q := 4) (k := 1) dX12_feed_1 (Nat.le_of_ble_eq_true rfl) wd_1033 (fun _ _ _ => rfl) k_a0 rfl ?_
  refine ok_bipush (q := 6) (v := 20) dX12_feed_4 cb_20 rfl ?_
  refine ok_iadd (q := 7) dX12_feed_6 rfl ?_
  refine ok_sipush (q := 10) (v := 600) dX12_feed_7 cs_600 rfl ?_
  refine ok_icmp_le (q := 13) (t := 15) dX12_feed_10 rfl rfl ?_ ?_
  · refine ok_aload_n (q := 16) dX12_feed_15 rfl rfl ?_
    refine ok_iload_n (q := 17) dX12_feed_16 rfl rfl ?_
    refine mm_cv (q := 20) (mt_X12_four G a0 x1 h k_a0) (mm_runV (as := [.int x1]) (st := []) cl_11 lk_X12_feed_X12_four_508 rfl dX12_feed_17 rfl (Nat.le_of_ble_eq_true rfl) k_a0) rfl (fun h1 p2 => ?_)
    have k3 : mm_kd h1 a0 = 11 := mm_kd_app p2 k_a0 (by decide)
    refine ok_aload_n (q := 21) dX12_feed_20 rfl rfl ?_
    refine ok_iload_n (q := 22) dX12_feed_21 rfl rfl ?_
    refine mm_cv (q := 25) (mt_X12_four G a0 x2 h1 k3) (mm_runV (as := [.int x2]) (st := []) cl_11 lk_X12_feed_X12_four_508 rfl dX12_feed_22 rfl (Nat.le_of_ble_eq_true rfl) k3) rfl (fun h4 p5 => ?_)
    have k6 : mm_kd h4 a0 = 11 := mm_kd_app p5 k3 (by decide)
    refine ok_aload_n (q := 26) dX12_feed_25 rfl rfl ?_
    refine ok_iload_n (q := 27) dX12_feed_26 rfl rfl ?_
    refine mm_cv (q := 30) (mt_X12_four G a0 x3 h4 k6) (mm_runV (as := [.int x3]) (st := []) cl_11 lk_X12_feed_X12_four_508 rfl dX12_feed_27 rfl (Nat.le_of_ble_eq_true rfl) k6) rfl (fun h7 p8 => ?_)
    have k9 : mm_kd h7 a0 = 11 := mm_kd_app p8 k6 (by decide)
    refine ok_aload_n (q := 31) dX12_feed_30 rfl rfl ?_
    refine ok_iload (q := 33) dX12_feed_31 rfl rfl ?_
    refine mm_cv (q := 36) (mt_X12_four G a0 x4 h7 k9) (mm_runV (as := [.int x4]) (st := []) cl_11 lk_X12_feed_X12_four_508 rfl dX12_feed_33 rfl (Nat.le_of_ble_eq_true rfl) k9) rfl (fun h10 p11 => ?_)
    have k12 : mm_kd h10 a0 = 11 := mm_kd_app p11 k9 (by decide)
    refine ok_aload_n (q := 37) dX12_feed_36 rfl rfl ?_
    refine ok_iload (q := 39) dX12_feed_37 rfl rfl ?_
    refine mm_cv (q := 42) (mt_X12_four G a0 x5 h10 k12) (mm_runV (as := [.int x5]) (st := []) cl_11 lk_X12_feed_X12_four_508 rfl dX12_feed_39 rfl (Nat.le_of_ble_eq_true rfl) k12) rfl (fun h13 p14 => ?_)
    have k15 : mm_kd h13 a0 = 11 := mm_kd_app p14 k12 (by decide)
    refine ok_aload_n (q := 43) dX12_feed_42 rfl rfl ?_
    refine ok_getI cl_11 (q := 46) (k := 1) dX12_feed_43 (Nat.le_of_ble_eq_true rfl) wd_1033 (fun _ _ _ => rfl) k15 rfl ?_
    exact ok_iret (t := .int) dX12_feed_46 rfl rfl
  · refine ok_iconst (q := 14) (v := -1) dX12_feed_13 ci_m1 rfl ?_
    exact ok_iret (t := .int) dX12_feed_14 rfl rfl
def bd_X12_end (a0 : Nat) (x1 : Int32) (h : mm_H) : mm_O := mm_qi (bd_X12_isIn x1 0 (mm_i h a0 1) h) (fun v3 h1 =>
  if v3 = 0 then
  (some (some (.int (-1)), h1))
  else
  (mm_bh (mm_si h1 a0 1 x1) (fun h5 =>
  some (some (.int x1), h5))))
set_option maxHeartbeats 4000000 in
set_option maxRecDepth 100000 in
theorem mt_X12_end (G : mm_G) (a0 : Nat) (x1 : Int32) (h : mm_H) (k_a0 : mm_kd h a0 = 11) : mm_Met G my_X12_end [.ref a0, .int x1] h (bd_X12_end a0 x1 h) := by
  refine mm_met (ls := [.ref a0, .int x1]) pn_RX12 (Nat.le_of_ble_eq_true rfl) rfl ?_
  unfold bd_X12_end
  refine ok_iload_n (q := 1) dX12_end_0 rfl rfl ?_
  refine ok_iconst (q := 2) (v := 0) dX12_end_1 ci_0 rfl ?_
  refine ok_aload_n (q := 3) dX12_end_2 rfl rfl ?_
  refine ok_getI cl_11 (q := 6) (k := 1) dX12_end_3 (Nat.le_of_ble_eq_true rfl) wd_1033 (fun _ _ _ => rfl) k_a0 rfl ?_
  refine mm_ci (q := 9) (mt_X12_isIn G x1 0 (mm_i h a0 1) h ) (mm_runS (as := [.int x1, .int 0, .int (mm_i h a0 1)]) (st := []) lk_X12_end_X12_isIn_260 dX12_end_6 rfl (Nat.le_of_ble_eq_true rfl)) rfl (fun v3 h1 p2 => ?_)
  have k4 : mm_kd h1 a0 = 11 := mm_kd_app p2 k_a0 (by decide)
  refine ok_if_ne (q := 12) (t := 14) dX12_end_9 rfl rfl ?_ ?_
  · refine ok_aload_n (q := 15) dX12_end_14 rfl rfl ?_
    refine ok_iload_n (q := 16) dX12_end_15 rfl rfl ?_
    refine ok_putI cl_11 (q := 19) (k := 1) dX12_end_16 (Nat.le_of_ble_eq_true rfl) wd_1033 (Or.inl rfl) (fun _ _ _ => rfl) rfl rfl k4 rfl (bh_ok (fun h5 e6 => ?_))
    have e6 : h5.1 = h1.1 := e6
    refine ok_iload_n (q := 20) dX12_end_19 rfl rfl ?_
    exact ok_iret (t := .int) dX12_end_20 rfl rfl
  · refine ok_iconst (q := 13) (v := -1) dX12_end_12 ci_m1 rfl ?_
    exact ok_iret (t := .int) dX12_end_13 rfl rfl
def bd_X12_make (a0 : Nat) (x1 : Int32) (h : mm_H) : mm_O := if (mm_i h a0 2) = (4 : Int32) then
  (some (some (.int (-1)), h))
  else
  (mm_gr h a0 3 (fun b1 =>
  if 32 ≤ b1 ∧ mm_in (mm_i h a0 2) (mm_ln h b1) = true then (mm_bh (mm_si h b1 (mm_n (mm_i h a0 2)) (x1 &&& 1)) (fun h4 =>
  mm_bh (mm_si h4 a0 2 ((mm_i h4 a0 2) + (1 : Int32))) (fun h6 =>
  some (some (.int ((mm_i h6 a0 2) - (1 : Int32))), h6)))) else none))
set_option maxHeartbeats 4000000 in
set_option maxRecDepth 100000 in
theorem mt_X12_make (G : mm_G) (a0 : Nat) (x1 : Int32) (h : mm_H) (k_a0 : mm_kd h a0 = 11) : mm_Met G my_X12_make [.ref a0, .int x1] h (bd_X12_make a0 x1 h) := by
  refine mm_met (ls := [.ref a0, .int x1]) pn_RX12 (Nat.le_of_ble_eq_true rfl) rfl ?_
  unfold bd_X12_make
  refine ok_aload_n (q := 1) dX12_make_0 rfl rfl ?_
  refine ok_getI cl_11 (q := 4) (k := 2) dX12_make_1 (Nat.le_of_ble_eq_true rfl) wd_1034 (fun _ _ _ => rfl) k_a0 rfl ?_
  refine ok_iconst (q := 5) (v := 4) dX12_make_4 ci_4 rfl ?_
  refine ok_icmp_ne (q := 8) (t := 10) dX12_make_5 rfl rfl ?_ ?_
  · refine ok_aload_n (q := 11) dX12_make_10 rfl rfl ?_
    refine ok_getR cl_11 (q := 14) (k := 3) dX12_make_11 (Nat.le_of_ble_eq_true rfl) wd_1035 (fun _ _ _ => rfl) kt_11_3 k_a0 rfl (fun b1 k2 => ?_)
    refine ok_aload_n (q := 15) dX12_make_14 rfl rfl ?_
    refine ok_getI cl_11 (q := 18) (k := 2) dX12_make_15 (Nat.le_of_ble_eq_true rfl) wd_1034 (fun _ _ _ => rfl) k_a0 rfl ?_
    refine ok_iload_n (q := 19) dX12_make_18 rfl rfl ?_
    refine mm_ck (fun c3 => ?_)
    refine ok_zast (q := 20) dX12_make_19 k2 c3.1 c3.2 rfl (bh_ok (fun h4 e5 => ?_))
    have e5 : h4.1 = h.1 := e5
    refine ok_aload_n (q := 21) dX12_make_20 rfl rfl ?_
    refine ok_dup (q := 22) dX12_make_21 rfl rfl ?_
    refine ok_getI cl_11 (q := 25) (k := 2) dX12_make_22 (Nat.le_of_ble_eq_true rfl) wd_1034 (fun _ _ _ => rfl) (mm_ke e5 k_a0) rfl ?_
    refine ok_iconst (q := 26) (v := 1) dX12_make_25 ci_1 rfl ?_
    refine ok_iadd (q := 27) dX12_make_26 rfl ?_
    refine ok_putI cl_11 (q := 30) (k := 2) dX12_make_27 (Nat.le_of_ble_eq_true rfl) wd_1034 (Or.inl rfl) (fun _ _ _ => rfl) rfl rfl (mm_ke e5 k_a0) rfl (bh_ok (fun h6 e7 => ?_))
    have e7 : h6.1 = h.1 := e7.trans e5
    refine ok_aload_n (q := 31) dX12_make_30 rfl rfl ?_
    refine ok_getI cl_11 (q := 34) (k := 2) dX12_make_31 (Nat.le_of_ble_eq_true rfl) wd_1034 (fun _ _ _ => rfl) (mm_ke e7 k_a0) rfl ?_
    refine ok_iconst (q := 35) (v := 1) dX12_make_34 ci_1 rfl ?_
    refine ok_isub (q := 36) dX12_make_35 rfl ?_
    exact ok_iret (t := .int) dX12_make_36 rfl rfl
  · refine ok_iconst (q := 9) (v := -1) dX12_make_8 ci_m1 rfl ?_
    exact ok_iret (t := .int) dX12_make_9 rfl rfl
def jn_X12_tell_164 (a0 : Nat) (h : mm_H) : mm_O := mm_bh (mm_si h a0 1 0) (fun h20 =>
  some (some (.int 1), h20))
set_option maxHeartbeats 4000000 in
set_option maxRecDepth 100000 in
theorem oj_X12_tell_164 {G : mm_G}   (a0 : Nat) (h : mm_H) (k_a0 : mm_kd h a0 = 11) : mm_Ok G my_X12_tell 164 [.ref a0, mm_U, mm_U] [] h (jn_X12_tell_164 a0 h) := by
  unfold jn_X12_tell_164
  refine ok_aload_n (q := 165) dX12_tell_164 rfl rfl ?_
  refine ok_iconst (q := 166) (v := 0) dX12_tell_165 ci_0 rfl ?_
  refine ok_putI cl_11 (q := 169) (k := 1) dX12_tell_166 (Nat.le_of_ble_eq_true rfl) wd_1033 (Or.inl rfl) (fun _ _ _ => rfl) rfl rfl k_a0 rfl (bh_ok (fun h20 e21 => ?_))
  have e21 : h20.1 = h.1 := e21
  refine ok_iconst (q := 170) (v := 1) dX12_tell_169 ci_1 rfl ?_
  exact ok_iret (t := .boolean) dX12_tell_170 rfl (by decide)
def jn_X12_tell_120 (a0 : Nat) (x1 : Int32) (x2 : Int32) (h : mm_H) : mm_O := if x2 = (2 : Int32) then
  (if (mm_i h a0 1) = (32 : Int32) then
  (mm_gr h a0 0 (fun b8 =>
  mm_gr h a0 9 (fun b10 =>
  mm_qv (bd_X12_move b8 0 b10 ((32 : Int32) * x1) 32 h) (fun h12 =>
  mm_gr h12 a0 10 (fun b15 =>
  if 32 ≤ b15 ∧ mm_in x1 (mm_ln h12 b15) = true then (mm_bh (mm_si h12 b15 (mm_n x1) ((1 : Int32) &&& 1)) (fun h18 =>
  jn_X12_tell_164 a0 h18)) else none)))))
  else
  (some (some (.int 0), h)))
  else
  (some (some (.int 0), h))
set_option maxHeartbeats 4000000 in
set_option maxRecDepth 100000 in
theorem oj_X12_tell_120 {G : mm_G}   (a0 : Nat) (x1 : Int32) (x2 : Int32) (h : mm_H) (k_a0 : mm_kd h a0 = 11) : mm_Ok G my_X12_tell 120 [.ref a0, .int x1, .int x2] [] h (jn_X12_tell_120 a0 x1 x2 h) := by
  unfold jn_X12_tell_120
  refine ok_iload_n (q := 121) dX12_tell_120 rfl rfl ?_
  refine ok_iconst (q := 122) (v := 2) dX12_tell_121 ci_2 rfl ?_
  refine ok_icmp_ne (q := 125) (t := 162) dX12_tell_122 rfl rfl ?_ ?_
  · refine ok_iconst (q := 163) (v := 0) dX12_tell_162 ci_0 rfl ?_
    exact ok_iret (t := .boolean) dX12_tell_163 rfl (by decide)
  · refine ok_aload_n (q := 126) dX12_tell_125 rfl rfl ?_
    refine ok_getI cl_11 (q := 129) (k := 1) dX12_tell_126 (Nat.le_of_ble_eq_true rfl) wd_1033 (fun _ _ _ => rfl) k_a0 rfl ?_
    refine ok_bipush (q := 131) (v := 32) dX12_tell_129 cb_32 rfl ?_
    refine ok_icmp_ne (q := 134) (t := 162) dX12_tell_131 rfl rfl ?_ ?_
    · refine ok_iconst (q := 163) (v := 0) dX12_tell_162 ci_0 rfl ?_
      exact ok_iret (t := .boolean) dX12_tell_163 rfl (by decide)
    · refine ok_aload_n (q := 135) dX12_tell_134 rfl rfl ?_
      refine ok_getR cl_11 (q := 138) (k := 0) dX12_tell_135 (Nat.le_of_ble_eq_true rfl) wd_1032 (fun _ _ _ => rfl) kt_11_0 k_a0 rfl (fun b8 k9 => ?_)
      refine ok_iconst (q := 139) (v := 0) dX12_tell_138 ci_0 rfl ?_
      refine ok_aload_n (q := 140) dX12_tell_139 rfl rfl ?_
      refine ok_getR cl_11 (q := 143) (k := 9) dX12_tell_140 (Nat.le_of_ble_eq_true rfl) wd_1041 (fun _ _ _ => rfl) kt_11_9 k_a0 rfl (fun b10 k11 => ?_)
      refine ok_bipush (q := 145) (v := 32) dX12_tell_143 cb_32 rfl ?_
      refine ok_iload_n (q := 146) dX12_tell_145 rfl rfl ?_
      refine ok_imul (q := 147) dX12_tell_146 rfl ?_
      refine ok_bipush (q := 149) (v := 32) dX12_tell_147 cb_32 rfl ?_
      refine mm_cv (q := 152) (mt_X12_move G b8 0 b10 ((32 : Int32) * x1) 32 h k9 k11) (mm_runS (as := [.ref b8, .int 0, .ref b10, .int ((32 : Int32) * x1), .int 32]) (st := []) lk_X12_tell_X12_move_279 dX12_tell_149 rfl (Nat.le_of_ble_eq_true rfl)) rfl (fun h12 p13 => ?_)
      have k14 : mm_kd h12 a0 = 11 := mm_kd_app p13 k_a0 (by decide)
      refine ok_aload_n (q := 153) dX12_tell_152 rfl rfl ?_
      refine ok_getR cl_11 (q := 156) (k := 10) dX12_tell_153 (Nat.le_of_ble_eq_true rfl) wd_1042 (fun _ _ _ => rfl) kt_11_10 k14 rfl (fun b15 k16 => ?_)
      refine ok_iload_n (q := 157) dX12_tell_156 rfl rfl ?_
      refine ok_iconst (q := 158) (v := 1) dX12_tell_157 ci_1 rfl ?_
      refine mm_ck (fun c17 => ?_)
      refine ok_zast (q := 159) dX12_tell_158 k16 c17.1 c17.2 rfl (bh_ok (fun h18 e19 => ?_))
      have e19 : h18.1 = h12.1 := e19
      refine ok_goto (q := 164) dX12_tell_159 rfl ?_
      refine mm_wk [true, false, false] (ls' := [.ref a0, mm_U, mm_U]) rfl ?_
      exact oj_X12_tell_164 a0 h18 (mm_ke e19 k14)
def jn_X12_tell_69 (a0 : Nat) (x1 : Int32) (x2 : Int32) (h : mm_H) : mm_O := if x2 = (1 : Int32) then
  (mm_qi (bd_X12_isIn (mm_i h a0 1) 1 16 h) (fun v24 h22 =>
  if v24 = 0 then
  (jn_X12_tell_120 a0 x1 x2 h22)
  else
  (mm_gr h22 a0 0 (fun b26 =>
  mm_gr h22 a0 7 (fun b28 =>
  mm_qv (bd_X12_move b26 0 b28 ((16 : Int32) * x1) (mm_i h22 a0 1) h22) (fun h30 =>
  mm_gr h30 a0 8 (fun b33 =>
  if 32 ≤ b33 ∧ mm_in x1 (mm_ln h30 b33) = true then (mm_bh (mm_si h30 b33 (mm_n x1) (mm_i h30 a0 1)) (fun h36 =>
  jn_X12_tell_164 a0 h36)) else none)))))))
  else
  (jn_X12_tell_120 a0 x1 x2 h)
set_option maxHeartbeats 4000000 in
set_option maxRecDepth 100000 in
theorem oj_X12_tell_69 {G : mm_G}   (a0 : Nat) (x1 : Int32) (x2 : Int32) (h : mm_H) (k_a0 : mm_kd h a0 = 11) : mm_Ok G my_X12_tell 69 [.ref a0, .int x1, .int x2] [] h (jn_X12_tell_69 a0 x1 x2 h) := by
  unfold jn_X12_tell_69
  refine ok_iload_n (q := 70) dX12_tell_69 rfl rfl ?_
  refine ok_iconst (q := 71) (v := 1) dX12_tell_70 ci_1 rfl ?_
  refine ok_icmp_ne (q := 74) (t := 120) dX12_tell_71 rfl rfl ?_ ?_
  · exact oj_X12_tell_120 a0 x1 x2 h k_a0
  · refine ok_aload_n (q := 75) dX12_tell_74 rfl rfl ?_
    refine ok_getI cl_11 (q := 78) (k := 1) dX12_tell_75 (Nat.le_of_ble_eq_true rfl) wd_1033 (fun _ _ _ => rfl) k_a0 rfl ?_
    refine ok_iconst (q := 79) (v := 1) dX12_tell_78 ci_1 rfl ?_
    refine ok_bipush (q := 81) (v := 16) dX12_tell_79 cb_16 rfl ?_
    refine mm_ci (q := 84) (mt_X12_isIn G (mm_i h a0 1) 1 16 h ) (mm_runS (as := [.int (mm_i h a0 1), .int 1, .int 16]) (st := []) lk_X12_tell_X12_isIn_260 dX12_tell_81 rfl (Nat.le_of_ble_eq_true rfl)) rfl (fun v24 h22 p23 => ?_)
    have k25 : mm_kd h22 a0 = 11 := mm_kd_app p23 k_a0 (by decide)
    refine ok_if_eq (q := 87) (t := 120) dX12_tell_84 rfl rfl ?_ ?_
    · exact oj_X12_tell_120 a0 x1 x2 h22 k25
    · refine ok_aload_n (q := 88) dX12_tell_87 rfl rfl ?_
      refine ok_getR cl_11 (q := 91) (k := 0) dX12_tell_88 (Nat.le_of_ble_eq_true rfl) wd_1032 (fun _ _ _ => rfl) kt_11_0 k25 rfl (fun b26 k27 => ?_)
      refine ok_iconst (q := 92) (v := 0) dX12_tell_91 ci_0 rfl ?_
      refine ok_aload_n (q := 93) dX12_tell_92 rfl rfl ?_
      refine ok_getR cl_11 (q := 96) (k := 7) dX12_tell_93 (Nat.le_of_ble_eq_true rfl) wd_1039 (fun _ _ _ => rfl) kt_11_7 k25 rfl (fun b28 k29 => ?_)
      refine ok_bipush (q := 98) (v := 16) dX12_tell_96 cb_16 rfl ?_
      refine ok_iload_n (q := 99) dX12_tell_98 rfl rfl ?_
      refine ok_imul (q := 100) dX12_tell_99 rfl ?_
      refine ok_aload_n (q := 101) dX12_tell_100 rfl rfl ?_
      refine ok_getI cl_11 (q := 104) (k := 1) dX12_tell_101 (Nat.le_of_ble_eq_true rfl) wd_1033 (fun _ _ _ => rfl) k25 rfl ?_
      refine mm_cv (q := 107) (mt_X12_move G b26 0 b28 ((16 : Int32) * x1) (mm_i h22 a0 1) h22 k27 k29) (mm_runS (as := [.ref b26, .int 0, .ref b28, .int ((16 : Int32) * x1), .int (mm_i h22 a0 1)]) (st := []) lk_X12_tell_X12_move_279 dX12_tell_104 rfl (Nat.le_of_ble_eq_true rfl)) rfl (fun h30 p31 => ?_)
      have k32 : mm_kd h30 a0 = 11 := mm_kd_app p31 k25 (by decide)
      refine ok_aload_n (q := 108) dX12_tell_107 rfl rfl ?_
      refine ok_getR cl_11 (q := 111) (k := 8) dX12_tell_108 (Nat.le_of_ble_eq_true rfl) wd_1040 (fun _ _ _ => rfl) kt_11_8 k32 rfl (fun b33 k34 => ?_)
      refine ok_iload_n (q := 112) dX12_tell_111 rfl rfl ?_
      refine ok_aload_n (q := 113) dX12_tell_112 rfl rfl ?_
      refine ok_getI cl_11 (q := 116) (k := 1) dX12_tell_113 (Nat.le_of_ble_eq_true rfl) wd_1033 (fun _ _ _ => rfl) k32 rfl ?_
      refine mm_ck (fun c35 => ?_)
      refine ok_iast (q := 117) dX12_tell_116 k34 c35.1 c35.2 rfl (bh_ok (fun h36 e37 => ?_))
      have e37 : h36.1 = h30.1 := e37
      refine ok_goto (q := 164) dX12_tell_117 rfl ?_
      refine mm_wk [true, false, false] (ls' := [.ref a0, mm_U, mm_U]) rfl ?_
      exact oj_X12_tell_164 a0 h36 (mm_ke e37 k32)
def bd_X12_tell (a0 : Nat) (x1 : Int32) (x2 : Int32) (h : mm_H) : mm_O := mm_qi (bd_X12_isEnd a0 x1 h) (fun v3 h1 =>
  if v3 = 0 then
  (some (some (.int 0), h1))
  else
  (mm_gr h1 a0 4 (fun b5 =>
  if mm_in x1 (mm_ln h1 b5) = true then (if (mm_i h1 b5 (mm_n x1)) = 0 then
  (if x2 = 0 then
  (mm_qi (bd_X12_isIn (mm_i h1 a0 1) 1 64 h1) (fun v40 h38 =>
  if v40 = 0 then
  (jn_X12_tell_69 a0 x1 x2 h38)
  else
  (mm_gr h38 a0 0 (fun b42 =>
  mm_gr h38 a0 5 (fun b44 =>
  mm_qv (bd_X12_move b42 0 b44 ((64 : Int32) * x1) (mm_i h38 a0 1) h38) (fun h46 =>
  mm_gr h46 a0 6 (fun b49 =>
  if 32 ≤ b49 ∧ mm_in x1 (mm_ln h46 b49) = true then (mm_bh (mm_si h46 b49 (mm_n x1) (mm_i h46 a0 1)) (fun h52 =>
  jn_X12_tell_164 a0 h52)) else none)))))))
  else
  (jn_X12_tell_69 a0 x1 x2 h1))
  else
  (some (some (.int 0), h1))) else none)))
set_option maxHeartbeats 4000000 in
set_option maxRecDepth 100000 in
theorem mt_X12_tell (G : mm_G) (a0 : Nat) (x1 : Int32) (x2 : Int32) (h : mm_H) (k_a0 : mm_kd h a0 = 11) : mm_Met G my_X12_tell [.ref a0, .int x1, .int x2] h (bd_X12_tell a0 x1 x2 h) := by
  refine mm_met (ls := [.ref a0, .int x1, .int x2]) pn_RX12 (Nat.le_of_ble_eq_true rfl) rfl ?_
  unfold bd_X12_tell
  refine ok_aload_n (q := 1) dX12_tell_0 rfl rfl ?_
  refine ok_iload_n (q := 2) dX12_tell_1 rfl rfl ?_
  refine mm_ci (q := 5) (mt_X12_isEnd G a0 x1 h k_a0) (mm_runV (as := [.int x1]) (st := []) cl_11 lk_X12_tell_X12_isEnd_511 rfl dX12_tell_2 rfl (Nat.le_of_ble_eq_true rfl) k_a0) rfl (fun v3 h1 p2 => ?_)
  have k4 : mm_kd h1 a0 = 11 := mm_kd_app p2 k_a0 (by decide)
  refine ok_if_eq (q := 8) (t := 17) dX12_tell_5 rfl rfl ?_ ?_
  · refine ok_iconst (q := 18) (v := 0) dX12_tell_17 ci_0 rfl ?_
    exact ok_iret (t := .boolean) dX12_tell_18 rfl (by decide)
  · refine ok_aload_n (q := 9) dX12_tell_8 rfl rfl ?_
    refine ok_getR cl_11 (q := 12) (k := 4) dX12_tell_9 (Nat.le_of_ble_eq_true rfl) wd_1036 (fun _ _ _ => rfl) kt_11_4 k4 rfl (fun b5 k6 => ?_)
    refine ok_iload_n (q := 13) dX12_tell_12 rfl rfl ?_
    refine mm_ck (fun c7 => ?_)
    refine ok_iald (q := 14) dX12_tell_13 k6 c7 rfl ?_
    refine ok_if_eq (q := 17) (t := 19) dX12_tell_14 rfl rfl ?_ ?_
    · refine ok_iload_n (q := 20) dX12_tell_19 rfl rfl ?_
      refine ok_if_ne (q := 23) (t := 69) dX12_tell_20 rfl rfl ?_ ?_
      · exact oj_X12_tell_69 a0 x1 x2 h1 k4
      · refine ok_aload_n (q := 24) dX12_tell_23 rfl rfl ?_
        refine ok_getI cl_11 (q := 27) (k := 1) dX12_tell_24 (Nat.le_of_ble_eq_true rfl) wd_1033 (fun _ _ _ => rfl) k4 rfl ?_
        refine ok_iconst (q := 28) (v := 1) dX12_tell_27 ci_1 rfl ?_
        refine ok_bipush (q := 30) (v := 64) dX12_tell_28 cb_64 rfl ?_
        refine mm_ci (q := 33) (mt_X12_isIn G (mm_i h1 a0 1) 1 64 h1 ) (mm_runS (as := [.int (mm_i h1 a0 1), .int 1, .int 64]) (st := []) lk_X12_tell_X12_isIn_260 dX12_tell_30 rfl (Nat.le_of_ble_eq_true rfl)) rfl (fun v40 h38 p39 => ?_)
        have k41 : mm_kd h38 a0 = 11 := mm_kd_app p39 k4 (by decide)
        refine ok_if_eq (q := 36) (t := 69) dX12_tell_33 rfl rfl ?_ ?_
        · exact oj_X12_tell_69 a0 x1 x2 h38 k41
        · refine ok_aload_n (q := 37) dX12_tell_36 rfl rfl ?_
          refine ok_getR cl_11 (q := 40) (k := 0) dX12_tell_37 (Nat.le_of_ble_eq_true rfl) wd_1032 (fun _ _ _ => rfl) kt_11_0 k41 rfl (fun b42 k43 => ?_)
          refine ok_iconst (q := 41) (v := 0) dX12_tell_40 ci_0 rfl ?_
          refine ok_aload_n (q := 42) dX12_tell_41 rfl rfl ?_
          refine ok_getR cl_11 (q := 45) (k := 5) dX12_tell_42 (Nat.le_of_ble_eq_true rfl) wd_1037 (fun _ _ _ => rfl) kt_11_5 k41 rfl (fun b44 k45 => ?_)
          refine ok_bipush (q := 47) (v := 64) dX12_tell_45 cb_64 rfl ?_
          refine ok_iload_n (q := 48) dX12_tell_47 rfl rfl ?_
          refine ok_imul (q := 49) dX12_tell_48 rfl ?_
          refine ok_aload_n (q := 50) dX12_tell_49 rfl rfl ?_
          refine ok_getI cl_11 (q := 53) (k := 1) dX12_tell_50 (Nat.le_of_ble_eq_true rfl) wd_1033 (fun _ _ _ => rfl) k41 rfl ?_
          refine mm_cv (q := 56) (mt_X12_move G b42 0 b44 ((64 : Int32) * x1) (mm_i h38 a0 1) h38 k43 k45) (mm_runS (as := [.ref b42, .int 0, .ref b44, .int ((64 : Int32) * x1), .int (mm_i h38 a0 1)]) (st := []) lk_X12_tell_X12_move_279 dX12_tell_53 rfl (Nat.le_of_ble_eq_true rfl)) rfl (fun h46 p47 => ?_)
          have k48 : mm_kd h46 a0 = 11 := mm_kd_app p47 k41 (by decide)
          refine ok_aload_n (q := 57) dX12_tell_56 rfl rfl ?_
          refine ok_getR cl_11 (q := 60) (k := 6) dX12_tell_57 (Nat.le_of_ble_eq_true rfl) wd_1038 (fun _ _ _ => rfl) kt_11_6 k48 rfl (fun b49 k50 => ?_)
          refine ok_iload_n (q := 61) dX12_tell_60 rfl rfl ?_
          refine ok_aload_n (q := 62) dX12_tell_61 rfl rfl ?_
          refine ok_getI cl_11 (q := 65) (k := 1) dX12_tell_62 (Nat.le_of_ble_eq_true rfl) wd_1033 (fun _ _ _ => rfl) k48 rfl ?_
          refine mm_ck (fun c51 => ?_)
          refine ok_iast (q := 66) dX12_tell_65 k50 c51.1 c51.2 rfl (bh_ok (fun h52 e53 => ?_))
          have e53 : h52.1 = h46.1 := e53
          refine ok_goto (q := 164) dX12_tell_66 rfl ?_
          refine mm_wk [true, false, false] (ls' := [.ref a0, mm_U, mm_U]) rfl ?_
          exact oj_X12_tell_164 a0 h52 (mm_ke e53 k48)
    · refine ok_iconst (q := 18) (v := 0) dX12_tell_17 ci_0 rfl ?_
      exact ok_iret (t := .boolean) dX12_tell_18 rfl (by decide)
def jn_X12_start_65 (a0 : Nat) (x1 : Int32) (s0 : Int32) (s1 : Int32) (s2 : Nat) (h : mm_H) : mm_O := if 32 ≤ s2 ∧ mm_in s1 (mm_ln h s2) = true then (mm_bh (mm_si h s2 (mm_n s1) s0) (fun h23 =>
  mm_gr h23 a0 3 (fun b25 =>
  if mm_in x1 (mm_ln h23 b25) = true then (if (mm_i h23 b25 (mm_n x1)) = 0 then
  (mm_qv (bd_X12_sayHello a0 x1 h23) (fun h28 =>
  some (some (.int 1), h28)))
  else
  (some (some (.int 1), h23))) else none))) else none
set_option maxHeartbeats 4000000 in
set_option maxRecDepth 100000 in
theorem oj_X12_start_65 {G : mm_G}   (a0 : Nat) (x1 : Int32) (s0 : Int32) (s1 : Int32) (s2 : Nat) (h : mm_H) (k_a0 : mm_kd h a0 = 11) (k_s2 : mm_kd h s2 = 20) : mm_Ok G my_X12_start 65 [.ref a0, .int x1] [.int s0, .int s1, .ref s2] h (jn_X12_start_65 a0 x1 s0 s1 s2 h) := by
  unfold jn_X12_start_65
  refine mm_ck (fun c22 => ?_)
  refine ok_iast (q := 66) dX12_start_65 k_s2 c22.1 c22.2 rfl (bh_ok (fun h23 e24 => ?_))
  have e24 : h23.1 = h.1 := e24
  refine ok_aload_n (q := 67) dX12_start_66 rfl rfl ?_
  refine ok_getR cl_11 (q := 70) (k := 3) dX12_start_67 (Nat.le_of_ble_eq_true rfl) wd_1035 (fun _ _ _ => rfl) kt_11_3 (mm_ke e24 k_a0) rfl (fun b25 k26 => ?_)
  refine ok_iload_n (q := 71) dX12_start_70 rfl rfl ?_
  refine mm_ck (fun c27 => ?_)
  refine ok_zald (q := 72) dX12_start_71 (mm_ke e24 (mm_ke e24.symm k26)) c27 rfl ?_
  refine ok_if_ne (q := 75) (t := 80) dX12_start_72 rfl rfl ?_ ?_
  · refine ok_iconst (q := 81) (v := 1) dX12_start_80 ci_1 rfl ?_
    exact ok_iret (t := .boolean) dX12_start_81 rfl (by decide)
  · refine ok_aload_n (q := 76) dX12_start_75 rfl rfl ?_
    refine ok_iload_n (q := 77) dX12_start_76 rfl rfl ?_
    refine mm_cv (q := 80) (mt_X12_sayHello G a0 x1 h23 (mm_ke e24 k_a0)) (mm_runV (as := [.int x1]) (st := []) cl_11 lk_X12_start_X12_sayHello_514 rfl dX12_start_77 rfl (Nat.le_of_ble_eq_true rfl) (mm_ke e24 k_a0)) rfl (fun h28 p29 => ?_)
    have k30 : mm_kd h28 a0 = 11 := mm_kd_app p29 (mm_ke e24 k_a0) (by decide)
    refine ok_iconst (q := 81) (v := 1) dX12_start_80 ci_1 rfl ?_
    exact ok_iret (t := .boolean) dX12_start_81 rfl (by decide)
def bd_X12_start (a0 : Nat) (x1 : Int32) (h : mm_H) : mm_O := mm_qi (bd_X12_isEnd a0 x1 h) (fun v3 h1 =>
  if v3 = 0 then
  (some (some (.int 0), h1))
  else
  (mm_gr h1 a0 4 (fun b5 =>
  if mm_in x1 (mm_ln h1 b5) = true then (if (mm_i h1 b5 (mm_n x1)) = 0 then
  (mm_gr h1 a0 6 (fun b8 =>
  if mm_in x1 (mm_ln h1 b8) = true then (if (mm_i h1 b8 (mm_n x1)) = 0 then
  (some (some (.int 0), h1))
  else
  (mm_gr h1 a0 8 (fun b11 =>
  if mm_in x1 (mm_ln h1 b11) = true then (if (mm_i h1 b11 (mm_n x1)) = 0 then
  (some (some (.int 0), h1))
  else
  (mm_gr h1 a0 10 (fun b14 =>
  if mm_in x1 (mm_ln h1 b14) = true then (if (mm_i h1 b14 (mm_n x1)) = 0 then
  (some (some (.int 0), h1))
  else
  (mm_gr h1 a0 4 (fun b17 =>
  mm_gr h1 a0 3 (fun b19 =>
  if mm_in x1 (mm_ln h1 b19) = true then (if (mm_i h1 b19 (mm_n x1)) = 0 then
  (jn_X12_start_65 a0 x1 1 x1 b17 h1)
  else
  (jn_X12_start_65 a0 x1 4 x1 b17 h1)) else none)))) else none))) else none))) else none))
  else
  (some (some (.int 0), h1))) else none)))
set_option maxHeartbeats 4000000 in
set_option maxRecDepth 100000 in
theorem mt_X12_start (G : mm_G) (a0 : Nat) (x1 : Int32) (h : mm_H) (k_a0 : mm_kd h a0 = 11) : mm_Met G my_X12_start [.ref a0, .int x1] h (bd_X12_start a0 x1 h) := by
  refine mm_met (ls := [.ref a0, .int x1]) pn_RX12 (Nat.le_of_ble_eq_true rfl) rfl ?_
  unfold bd_X12_start
  refine ok_aload_n (q := 1) dX12_start_0 rfl rfl ?_
  refine ok_iload_n (q := 2) dX12_start_1 rfl rfl ?_
  refine mm_ci (q := 5) (mt_X12_isEnd G a0 x1 h k_a0) (mm_runV (as := [.int x1]) (st := []) cl_11 lk_X12_start_X12_isEnd_511 rfl dX12_start_2 rfl (Nat.le_of_ble_eq_true rfl) k_a0) rfl (fun v3 h1 p2 => ?_)
  have k4 : mm_kd h1 a0 = 11 := mm_kd_app p2 k_a0 (by decide)
  refine ok_if_eq (q := 8) (t := 44) dX12_start_5 rfl rfl ?_ ?_
  · refine ok_iconst (q := 45) (v := 0) dX12_start_44 ci_0 rfl ?_
    exact ok_iret (t := .boolean) dX12_start_45 rfl (by decide)
  · refine ok_aload_n (q := 9) dX12_start_8 rfl rfl ?_
    refine ok_getR cl_11 (q := 12) (k := 4) dX12_start_9 (Nat.le_of_ble_eq_true rfl) wd_1036 (fun _ _ _ => rfl) kt_11_4 k4 rfl (fun b5 k6 => ?_)
    refine ok_iload_n (q := 13) dX12_start_12 rfl rfl ?_
    refine mm_ck (fun c7 => ?_)
    refine ok_iald (q := 14) dX12_start_13 k6 c7 rfl ?_
    refine ok_if_ne (q := 17) (t := 44) dX12_start_14 rfl rfl ?_ ?_
    · refine ok_iconst (q := 45) (v := 0) dX12_start_44 ci_0 rfl ?_
      exact ok_iret (t := .boolean) dX12_start_45 rfl (by decide)
    · refine ok_aload_n (q := 18) dX12_start_17 rfl rfl ?_
      refine ok_getR cl_11 (q := 21) (k := 6) dX12_start_18 (Nat.le_of_ble_eq_true rfl) wd_1038 (fun _ _ _ => rfl) kt_11_6 k4 rfl (fun b8 k9 => ?_)
      refine ok_iload_n (q := 22) dX12_start_21 rfl rfl ?_
      refine mm_ck (fun c10 => ?_)
      refine ok_iald (q := 23) dX12_start_22 k9 c10 rfl ?_
      refine ok_if_eq (q := 26) (t := 44) dX12_start_23 rfl rfl ?_ ?_
      · refine ok_iconst (q := 45) (v := 0) dX12_start_44 ci_0 rfl ?_
        exact ok_iret (t := .boolean) dX12_start_45 rfl (by decide)
      · refine ok_aload_n (q := 27) dX12_start_26 rfl rfl ?_
        refine ok_getR cl_11 (q := 30) (k := 8) dX12_start_27 (Nat.le_of_ble_eq_true rfl) wd_1040 (fun _ _ _ => rfl) kt_11_8 k4 rfl (fun b11 k12 => ?_)
        refine ok_iload_n (q := 31) dX12_start_30 rfl rfl ?_
        refine mm_ck (fun c13 => ?_)
        refine ok_iald (q := 32) dX12_start_31 k12 c13 rfl ?_
        refine ok_if_eq (q := 35) (t := 44) dX12_start_32 rfl rfl ?_ ?_
        · refine ok_iconst (q := 45) (v := 0) dX12_start_44 ci_0 rfl ?_
          exact ok_iret (t := .boolean) dX12_start_45 rfl (by decide)
        · refine ok_aload_n (q := 36) dX12_start_35 rfl rfl ?_
          refine ok_getR cl_11 (q := 39) (k := 10) dX12_start_36 (Nat.le_of_ble_eq_true rfl) wd_1042 (fun _ _ _ => rfl) kt_11_10 k4 rfl (fun b14 k15 => ?_)
          refine ok_iload_n (q := 40) dX12_start_39 rfl rfl ?_
          refine mm_ck (fun c16 => ?_)
          refine ok_zald (q := 41) dX12_start_40 k15 c16 rfl ?_
          refine ok_if_ne (q := 44) (t := 46) dX12_start_41 rfl rfl ?_ ?_
          · refine ok_aload_n (q := 47) dX12_start_46 rfl rfl ?_
            refine ok_getR cl_11 (q := 50) (k := 4) dX12_start_47 (Nat.le_of_ble_eq_true rfl) wd_1036 (fun _ _ _ => rfl) kt_11_4 k4 rfl (fun b17 k18 => ?_)
            refine ok_iload_n (q := 51) dX12_start_50 rfl rfl ?_
            refine ok_aload_n (q := 52) dX12_start_51 rfl rfl ?_
            refine ok_getR cl_11 (q := 55) (k := 3) dX12_start_52 (Nat.le_of_ble_eq_true rfl) wd_1035 (fun _ _ _ => rfl) kt_11_3 k4 rfl (fun b19 k20 => ?_)
            refine ok_iload_n (q := 56) dX12_start_55 rfl rfl ?_
            refine mm_ck (fun c21 => ?_)
            refine ok_zald (q := 57) dX12_start_56 k20 c21 rfl ?_
            refine ok_if_eq (q := 60) (t := 64) dX12_start_57 rfl rfl ?_ ?_
            · refine ok_iconst (q := 65) (v := 1) dX12_start_64 ci_1 rfl ?_
              exact oj_X12_start_65 a0 x1 1 x1 b17 h1 k4 k18
            · refine ok_iconst (q := 61) (v := 4) dX12_start_60 ci_4 rfl ?_
              refine ok_goto (q := 65) dX12_start_61 rfl ?_
              exact oj_X12_start_65 a0 x1 4 x1 b17 h1 k4 k18
          · refine ok_iconst (q := 45) (v := 0) dX12_start_44 ci_0 rfl ?_
            exact ok_iret (t := .boolean) dX12_start_45 rfl (by decide)
