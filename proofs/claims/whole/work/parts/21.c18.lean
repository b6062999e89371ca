def jn_X12_outerFault_172 (s0 : Int32) (s1 : Int32) (h : mm_H) : mm_O := if s1 = s0 then
  (some (some (.int 0), h))
  else
  (some (some (.int 10), h))
set_option maxHeartbeats 4000000 in
set_option maxRecDepth 100000 in
theorem oj_X12_outerFault_172 {G : mm_G}   (s0 : Int32) (s1 : Int32) (h : mm_H)  : mm_Ok G my_X12_outerFault 172 [mm_U, mm_U, mm_U, mm_U, mm_U] [.int s0, .int s1] h (jn_X12_outerFault_172 s0 s1 h) := by
  unfold jn_X12_outerFault_172
  refine ok_icmp_eq (q := 175) (t := 178) dX12_outerFault_172 rfl rfl ?_ ?_
  · refine ok_iconst (q := 179) (v := 0) dX12_outerFault_178 ci_0 rfl ?_
    exact ok_iret (t := .int) dX12_outerFault_179 rfl rfl
  · refine ok_bipush (q := 177) (v := 10) dX12_outerFault_175 cb_10 rfl ?_
    exact ok_iret (t := .int) dX12_outerFault_177 rfl rfl
def jn_X12_outerFault_148  (h : mm_H) : mm_O := some (some (.int 0), h)
set_option maxHeartbeats 4000000 in
set_option maxRecDepth 100000 in
theorem oj_X12_outerFault_148 {G : mm_G}    (h : mm_H)  : mm_Ok G my_X12_outerFault 148 [mm_U, mm_U, mm_U, mm_U, mm_U] [] h (jn_X12_outerFault_148 h) := by
  unfold jn_X12_outerFault_148
  refine ok_iconst (q := 149) (v := 0) dX12_outerFault_148 ci_0 rfl ?_
  refine ok_goto (q := 154) dX12_outerFault_149 rfl ?_
  exact ok_iret (t := .int) dX12_outerFault_154 rfl rfl
def jn_X12_outerFault_62 (a0 : Nat) (x1 : Int32) (x2 : Int32) (x3 : Int32) (x4 : Int32) (s0 : Int32) (s1 : Int32) (h : mm_H) : mm_O := if s1 ≤ s0 then
  (if x4 = (x2 - (5 : Int32)) then
  (mm_gr h a0 60 (fun b12 =>
  if mm_in (1 : Int32) (mm_ln h b12) = true then (if (mm_i h b12 (mm_n (1 : Int32))) = (3 : Int32) then
  (mm_gr h a0 60 (fun b15 =>
  if mm_in (2 : Int32) (mm_ln h b15) = true then (if (mm_i h b15 (mm_n (2 : Int32))) = (3 : Int32) then
  (if x3 = (20 : Int32) then
  (if x4 = (1 : Int32) then
  (mm_gr h a0 60 (fun b21 =>
  if mm_in (5 : Int32) (mm_ln h b21) = true then (if (mm_i h b21 (mm_n (5 : Int32))) = (1 : Int32) then
  (mm_gr h a0 4 (fun b24 =>
  if mm_in x1 (mm_ln h b24) = true then (mm_qi (bd_X12_isIn (mm_i h b24 (mm_n x1)) 1 3 h) (fun v29 h27 =>
  if v29 = 0 then
  (mm_gr h27 a0 4 (fun b31 =>
  if mm_in x1 (mm_ln h27 b31) = true then (if (mm_i h27 b31 (mm_n x1)) = (5 : Int32) then
  (jn_X12_outerFault_148 h27)
  else
  (some (some (.int 10), h27))) else none))
  else
  (jn_X12_outerFault_148 h27))) else none))
  else
  (some (some (.int 10), h))) else none))
  else
  (some (some (.int 10), h)))
  else
  (mm_gr h a0 27 (fun b18 =>
  if mm_in x1 (mm_ln h b18) = true then (if x3 = (23 : Int32) then
  (jn_X12_outerFault_172 1 (mm_i h b18 (mm_n x1)) h)
  else
  (jn_X12_outerFault_172 0 (mm_i h b18 (mm_n x1)) h)) else none)))
  else
  (some (some (.int 70), h))) else none))
  else
  (some (some (.int 70), h))) else none))
  else
  (some (some (.int 50), h)))
  else
  (some (some (.int 22), h))
set_option maxHeartbeats 4000000 in
set_option maxRecDepth 100000 in
theorem oj_X12_outerFault_62 {G : mm_G}   (a0 : Nat) (x1 : Int32) (x2 : Int32) (x3 : Int32) (x4 : Int32) (s0 : Int32) (s1 : Int32) (h : mm_H) (k_a0 : mm_kd h a0 = 11) : mm_Ok G my_X12_outerFault 62 [.ref a0, .int x1, .int x2, .int x3, .int x4] [.int s0, .int s1] h (jn_X12_outerFault_62 a0 x1 x2 x3 x4 s0 s1 h) := by
  unfold jn_X12_outerFault_62
  refine ok_icmp_le (q := 65) (t := 68) dX12_outerFault_62 rfl rfl ?_ ?_
  · refine ok_iload (q := 70) dX12_outerFault_68 rfl rfl ?_
    refine ok_iload_n (q := 71) dX12_outerFault_70 rfl rfl ?_
    refine ok_iconst (q := 72) (v := 5) dX12_outerFault_71 ci_5 rfl ?_
    refine ok_isub (q := 73) dX12_outerFault_72 rfl ?_
    refine ok_icmp_eq (q := 76) (t := 79) dX12_outerFault_73 rfl rfl ?_ ?_
    · refine ok_aload_n (q := 80) dX12_outerFault_79 rfl rfl ?_
      refine ok_getR cl_11 (q := 83) (k := 60) dX12_outerFault_80 (Nat.le_of_ble_eq_true rfl) wd_1092 (fun _ _ _ => rfl) kt_11_60 k_a0 rfl (fun b12 k13 => ?_)
      refine ok_iconst (q := 84) (v := 1) dX12_outerFault_83 ci_1 rfl ?_
      refine mm_ck (fun c14 => ?_)
      refine ok_bald (q := 85) dX12_outerFault_84 k13 c14 rfl ?_
      refine ok_iconst (q := 86) (v := 3) dX12_outerFault_85 ci_3 rfl ?_
      refine ok_icmp_ne (q := 89) (t := 99) dX12_outerFault_86 rfl rfl ?_ ?_
      · refine ok_bipush (q := 101) (v := 70) dX12_outerFault_99 cb_70 rfl ?_
        exact ok_iret (t := .int) dX12_outerFault_101 rfl rfl
      · refine ok_aload_n (q := 90) dX12_outerFault_89 rfl rfl ?_
        refine ok_getR cl_11 (q := 93) (k := 60) dX12_outerFault_90 (Nat.le_of_ble_eq_true rfl) wd_1092 (fun _ _ _ => rfl) kt_11_60 k_a0 rfl (fun b15 k16 => ?_)
        refine ok_iconst (q := 94) (v := 2) dX12_outerFault_93 ci_2 rfl ?_
        refine mm_ck (fun c17 => ?_)
        refine ok_bald (q := 95) dX12_outerFault_94 k16 c17 rfl ?_
        refine ok_iconst (q := 96) (v := 3) dX12_outerFault_95 ci_3 rfl ?_
        refine ok_icmp_eq (q := 99) (t := 102) dX12_outerFault_96 rfl rfl ?_ ?_
        · refine ok_iload_n (q := 103) dX12_outerFault_102 rfl rfl ?_
          refine ok_bipush (q := 105) (v := 20) dX12_outerFault_103 cb_20 rfl ?_
          refine ok_icmp_ne (q := 108) (t := 155) dX12_outerFault_105 rfl rfl ?_ ?_
          · refine ok_aload_n (q := 156) dX12_outerFault_155 rfl rfl ?_
            refine ok_getR cl_11 (q := 159) (k := 27) dX12_outerFault_156 (Nat.le_of_ble_eq_true rfl) wd_1059 (fun _ _ _ => rfl) kt_11_27 k_a0 rfl (fun b18 k19 => ?_)
            refine ok_iload_n (q := 160) dX12_outerFault_159 rfl rfl ?_
            refine mm_ck (fun c20 => ?_)
            refine ok_zald (q := 161) dX12_outerFault_160 k19 c20 rfl ?_
            refine ok_iload_n (q := 162) dX12_outerFault_161 rfl rfl ?_
            refine ok_bipush (q := 164) (v := 23) dX12_outerFault_162 cb_23 rfl ?_
            refine ok_icmp_ne (q := 167) (t := 171) dX12_outerFault_164 rfl rfl ?_ ?_
            · refine ok_iconst (q := 172) (v := 0) dX12_outerFault_171 ci_0 rfl ?_
              refine mm_wk [false, false, false, false, false] (ls' := [mm_U, mm_U, mm_U, mm_U, mm_U]) rfl ?_
              exact oj_X12_outerFault_172 0 (mm_i h b18 (mm_n x1)) h
            · refine ok_iconst (q := 168) (v := 1) dX12_outerFault_167 ci_1 rfl ?_
              refine ok_goto (q := 172) dX12_outerFault_168 rfl ?_
              refine mm_wk [false, false, false, false, false] (ls' := [mm_U, mm_U, mm_U, mm_U, mm_U]) rfl ?_
              exact oj_X12_outerFault_172 1 (mm_i h b18 (mm_n x1)) h
          · refine ok_iload (q := 110) dX12_outerFault_108 rfl rfl ?_
            refine ok_iconst (q := 111) (v := 1) dX12_outerFault_110 ci_1 rfl ?_
            refine ok_icmp_ne (q := 114) (t := 152) dX12_outerFault_111 rfl rfl ?_ ?_
            · refine ok_bipush (q := 154) (v := 10) dX12_outerFault_152 cb_10 rfl ?_
              exact ok_iret (t := .int) dX12_outerFault_154 rfl rfl
            · refine ok_aload_n (q := 115) dX12_outerFault_114 rfl rfl ?_
              refine ok_getR cl_11 (q := 118) (k := 60) dX12_outerFault_115 (Nat.le_of_ble_eq_true rfl) wd_1092 (fun _ _ _ => rfl) kt_11_60 k_a0 rfl (fun b21 k22 => ?_)
              refine ok_iconst (q := 119) (v := 5) dX12_outerFault_118 ci_5 rfl ?_
              refine mm_ck (fun c23 => ?_)
              refine ok_bald (q := 120) dX12_outerFault_119 k22 c23 rfl ?_
              refine ok_iconst (q := 121) (v := 1) dX12_outerFault_120 ci_1 rfl ?_
              refine ok_icmp_ne (q := 124) (t := 152) dX12_outerFault_121 rfl rfl ?_ ?_
              · refine ok_bipush (q := 154) (v := 10) dX12_outerFault_152 cb_10 rfl ?_
                exact ok_iret (t := .int) dX12_outerFault_154 rfl rfl
              · refine ok_aload_n (q := 125) dX12_outerFault_124 rfl rfl ?_
                refine ok_getR cl_11 (q := 128) (k := 4) dX12_outerFault_125 (Nat.le_of_ble_eq_true rfl) wd_1036 (fun _ _ _ => rfl) kt_11_4 k_a0 rfl (fun b24 k25 => ?_)
                refine ok_iload_n (q := 129) dX12_outerFault_128 rfl rfl ?_
                refine mm_ck (fun c26 => ?_)
                refine ok_iald (q := 130) dX12_outerFault_129 k25 c26 rfl ?_
                refine ok_iconst (q := 131) (v := 1) dX12_outerFault_130 ci_1 rfl ?_
                refine ok_iconst (q := 132) (v := 3) dX12_outerFault_131 ci_3 rfl ?_
                refine mm_ci (q := 135) (mt_X12_isIn G (mm_i h b24 (mm_n x1)) 1 3 h ) (mm_runS (as := [.int (mm_i h b24 (mm_n x1)), .int 1, .int 3]) (st := []) lk_X12_outerFault_X12_isIn_260 dX12_outerFault_132 rfl (Nat.le_of_ble_eq_true rfl)) rfl (fun v29 h27 p28 => ?_)
                have k30 : mm_kd h27 a0 = 11 := mm_kd_app p28 k_a0 (by decide)
                refine ok_if_ne (q := 138) (t := 148) dX12_outerFault_135 rfl rfl ?_ ?_
                · refine mm_wk [false, false, false, false, false] (ls' := [mm_U, mm_U, mm_U, mm_U, mm_U]) rfl ?_
                  exact oj_X12_outerFault_148 h27
                · refine ok_aload_n (q := 139) dX12_outerFault_138 rfl rfl ?_
                  refine ok_getR cl_11 (q := 142) (k := 4) dX12_outerFault_139 (Nat.le_of_ble_eq_true rfl) wd_1036 (fun _ _ _ => rfl) kt_11_4 k30 rfl (fun b31 k32 => ?_)
                  refine ok_iload_n (q := 143) dX12_outerFault_142 rfl rfl ?_
                  refine mm_ck (fun c33 => ?_)
                  refine ok_iald (q := 144) dX12_outerFault_143 k32 c33 rfl ?_
                  refine ok_iconst (q := 145) (v := 5) dX12_outerFault_144 ci_5 rfl ?_
                  refine ok_icmp_ne (q := 148) (t := 152) dX12_outerFault_145 rfl rfl ?_ ?_
                  · refine ok_bipush (q := 154) (v := 10) dX12_outerFault_152 cb_10 rfl ?_
                    exact ok_iret (t := .int) dX12_outerFault_154 rfl rfl
                  · refine mm_wk [false, false, false, false, false] (ls' := [mm_U, mm_U, mm_U, mm_U, mm_U]) rfl ?_
                    exact oj_X12_outerFault_148 h27
        · refine ok_bipush (q := 101) (v := 70) dX12_outerFault_99 cb_70 rfl ?_
          exact ok_iret (t := .int) dX12_outerFault_101 rfl rfl
    · refine ok_bipush (q := 78) (v := 50) dX12_outerFault_76 cb_50 rfl ?_
      exact ok_iret (t := .int) dX12_outerFault_78 rfl rfl
  · refine ok_bipush (q := 67) (v := 22) dX12_outerFault_65 cb_22 rfl ?_
    exact ok_iret (t := .int) dX12_outerFault_67 rfl rfl
def bd_X12_outerFault (a0 : Nat) (x1 : Int32) (x2 : Int32) (h : mm_H) : mm_O := if (5 : Int32) ≤ x2 then
  (mm_gr h a0 60 (fun b1 =>
  if mm_in (0 : Int32) (mm_ln h b1) = true then (mm_bi ((mm_i h b1 (mm_n (0 : Int32))) &&& (255 : Int32)) (fun v4 =>
  mm_gr h a0 60 (fun b5 =>
  if mm_in (3 : Int32) (mm_ln h b5) = true then (mm_gr h a0 60 (fun b8 =>
  if mm_in (4 : Int32) (mm_ln h b8) = true then (mm_bi ((mm_shl ((mm_i h b5 (mm_n (3 : Int32))) &&& (255 : Int32)) (8 : Int32)) ||| ((mm_i h b8 (mm_n (4 : Int32))) &&& (255 : Int32))) (fun v11 =>
  if v4 = (23 : Int32) then
  (jn_X12_outerFault_62 a0 x1 x2 v4 v11 16640 v11 h)
  else
  (jn_X12_outerFault_62 a0 x1 x2 v4 v11 16384 v11 h))) else none)) else none))) else none))
  else
  (some (some (.int 50), h))
set_option maxHeartbeats 4000000 in
set_option maxRecDepth 100000 in
theorem mt_X12_outerFault (G : mm_G) (a0 : Nat) (x1 : Int32) (x2 : Int32) (h : mm_H) (k_a0 : mm_kd h a0 = 11) : mm_Met G my_X12_outerFault [.ref a0, .int x1, .int x2] h (bd_X12_outerFault a0 x1 x2 h) := by
  refine mm_met (ls := [.ref a0, .int x1, .int x2, mm_U, mm_U]) pn_RX12 (Nat.le_of_ble_eq_true rfl) rfl ?_
  unfold bd_X12_outerFault
  refine ok_iload_n (q := 1) dX12_outerFault_0 rfl rfl ?_
  refine ok_iconst (q := 2) (v := 5) dX12_outerFault_1 ci_5 rfl ?_
  refine ok_icmp_ge (q := 5) (t := 8) dX12_outerFault_2 rfl rfl ?_ ?_
  · refine ok_aload_n (q := 9) dX12_outerFault_8 rfl rfl ?_
    refine ok_getR cl_11 (q := 12) (k := 60) dX12_outerFault_9 (Nat.le_of_ble_eq_true rfl) wd_1092 (fun _ _ _ => rfl) kt_11_60 k_a0 rfl (fun b1 k2 => ?_)
    refine ok_iconst (q := 13) (v := 0) dX12_outerFault_12 ci_0 rfl ?_
    refine mm_ck (fun c3 => ?_)
    refine ok_bald (q := 14) dX12_outerFault_13 k2 c3 rfl ?_
    refine ok_sipush (q := 17) (v := 255) dX12_outerFault_14 cs_255 rfl ?_
    refine ok_iand (q := 18) dX12_outerFault_17 rfl ?_
    refine bi_ok (fun v4 => ?_)
    refine ok_istore_n (q := 19) (ls' := [.ref a0, .int x1, .int x2, .int v4, mm_U]) dX12_outerFault_18 (Nat.le_of_ble_eq_true rfl) rfl rfl ?_
    refine ok_aload_n (q := 20) dX12_outerFault_19 rfl rfl ?_
    refine ok_getR cl_11 (q := 23) (k := 60) dX12_outerFault_20 (Nat.le_of_ble_eq_true rfl) wd_1092 (fun _ _ _ => rfl) kt_11_60 k_a0 rfl (fun b5 k6 => ?_)
    refine ok_iconst (q := 24) (v := 3) dX12_outerFault_23 ci_3 rfl ?_
    refine mm_ck (fun c7 => ?_)
    refine ok_bald (q := 25) dX12_outerFault_24 k6 c7 rfl ?_
    refine ok_sipush (q := 28) (v := 255) dX12_outerFault_25 cs_255 rfl ?_
    refine ok_iand (q := 29) dX12_outerFault_28 rfl ?_
    refine ok_bipush (q := 31) (v := 8) dX12_outerFault_29 cb_8 rfl ?_
    refine ok_ishl (q := 32) dX12_outerFault_31 rfl ?_
    refine ok_aload_n (q := 33) dX12_outerFault_32 rfl rfl ?_
    refine ok_getR cl_11 (q := 36) (k := 60) dX12_outerFault_33 (Nat.le_of_ble_eq_true rfl) wd_1092 (fun _ _ _ => rfl) kt_11_60 k_a0 rfl (fun b8 k9 => ?_)
    refine ok_iconst (q := 37) (v := 4) dX12_outerFault_36 ci_4 rfl ?_
    refine mm_ck (fun c10 => ?_)
    refine ok_bald (q := 38) dX12_outerFault_37 k9 c10 rfl ?_
    refine ok_sipush (q := 41) (v := 255) dX12_outerFault_38 cs_255 rfl ?_
    refine ok_iand (q := 42) dX12_outerFault_41 rfl ?_
    refine ok_ior (q := 43) dX12_outerFault_42 rfl ?_
    refine bi_ok (fun v11 => ?_)
    refine ok_istore (q := 45) (ls' := [.ref a0, .int x1, .int x2, .int v4, .int v11]) dX12_outerFault_43 (Nat.le_of_ble_eq_true rfl) rfl rfl ?_
    refine ok_iload (q := 47) dX12_outerFault_45 rfl rfl ?_
    refine ok_iload_n (q := 48) dX12_outerFault_47 rfl rfl ?_
    refine ok_bipush (q := 50) (v := 23) dX12_outerFault_48 cb_23 rfl ?_
    refine ok_icmp_ne (q := 53) (t := 59) dX12_outerFault_50 rfl rfl ?_ ?_
    · refine ok_sipush (q := 62) (v := 16384) dX12_outerFault_59 cs_16384 rfl ?_
      exact oj_X12_outerFault_62 a0 x1 x2 v4 v11 16384 v11 h k_a0
    · refine ok_sipush (q := 56) (v := 16640) dX12_outerFault_53 cs_16640 rfl ?_
      refine ok_goto (q := 62) dX12_outerFault_56 rfl ?_
      exact oj_X12_outerFault_62 a0 x1 x2 v4 v11 16640 v11 h k_a0
  · refine ok_bipush (q := 7) (v := 50) dX12_outerFault_5 cb_50 rfl ?_
    exact ok_iret (t := .int) dX12_outerFault_7 rfl rfl
def jn_X12_readAlert_69 (a0 : Nat) (x1 : Int32) (h : mm_H) : mm_O := mm_gr h a0 12 (fun b4 =>
  mm_gr h a0 60 (fun b6 =>
  if mm_in (6 : Int32) (mm_ln h b6) = true then (if 32 ≤ b4 ∧ mm_in x1 (mm_ln h b4) = true then (mm_bh (mm_si h b4 (mm_n x1) ((mm_i h b6 (mm_n (6 : Int32))) &&& (255 : Int32))) (fun h10 =>
  mm_gr h10 a0 4 (fun b12 =>
  if 32 ≤ b12 ∧ mm_in x1 (mm_ln h10 b12) = true then (mm_bh (mm_si h10 b12 (mm_n x1) (7 : Int32)) (fun h15 =>
  some (none, h15))) else none))) else none) else none))
set_option maxHeartbeats 4000000 in
set_option maxRecDepth 100000 in
theorem oj_X12_readAlert_69 {G : mm_G}   (a0 : Nat) (x1 : Int32) (h : mm_H) (k_a0 : mm_kd h a0 = 11) : mm_Ok G my_X12_readAlert 69 [.ref a0, .int x1, mm_U] [] h (jn_X12_readAlert_69 a0 x1 h) := by
  unfold jn_X12_readAlert_69
  refine ok_aload_n (q := 70) dX12_readAlert_69 rfl rfl ?_
  refine ok_getR cl_11 (q := 73) (k := 12) dX12_readAlert_70 (Nat.le_of_ble_eq_true rfl) wd_1044 (fun _ _ _ => rfl) kt_11_12 k_a0 rfl (fun b4 k5 => ?_)
  refine ok_iload_n (q := 74) dX12_readAlert_73 rfl rfl ?_
  refine ok_aload_n (q := 75) dX12_readAlert_74 rfl rfl ?_
  refine ok_getR cl_11 (q := 78) (k := 60) dX12_readAlert_75 (Nat.le_of_ble_eq_true rfl) wd_1092 (fun _ _ _ => rfl) kt_11_60 k_a0 rfl (fun b6 k7 => ?_)
  refine ok_bipush (q := 80) (v := 6) dX12_readAlert_78 cb_6 rfl ?_
  refine mm_ck (fun c8 => ?_)
  refine ok_bald (q := 81) dX12_readAlert_80 k7 c8 rfl ?_
  refine ok_sipush (q := 84) (v := 255) dX12_readAlert_81 cs_255 rfl ?_
  refine ok_iand (q := 85) dX12_readAlert_84 rfl ?_
  refine mm_ck (fun c9 => ?_)
  refine ok_iast (q := 86) dX12_readAlert_85 k5 c9.1 c9.2 rfl (bh_ok (fun h10 e11 => ?_))
  have e11 : h10.1 = h.1 := e11
  refine ok_aload_n (q := 87) dX12_readAlert_86 rfl rfl ?_
  refine ok_getR cl_11 (q := 90) (k := 4) dX12_readAlert_87 (Nat.le_of_ble_eq_true rfl) wd_1036 (fun _ _ _ => rfl) kt_11_4 (mm_ke e11 k_a0) rfl (fun b12 k13 => ?_)
  refine ok_iload_n (q := 91) dX12_readAlert_90 rfl rfl ?_
  refine ok_bipush (q := 93) (v := 7) dX12_readAlert_91 cb_7 rfl ?_
  refine mm_ck (fun c14 => ?_)
  refine ok_iast (q := 94) dX12_readAlert_93 (mm_ke e11 (mm_ke e11.symm k13)) c14.1 c14.2 rfl (bh_ok (fun h15 e16 => ?_))
  have e16 : h15.1 = h.1 := e16.trans e11
  exact ok_ret dX12_readAlert_94 rfl
def jn_X12_readAlert_53 (a0 : Nat) (x1 : Int32) (x2 : Int32) (h : mm_H) : mm_O := if x2 = 0 then
  (jn_X12_readAlert_69 a0 x1 h)
  else
  (mm_gr h a0 4 (fun b17 =>
  if mm_in x1 (mm_ln h b17) = true then (if (mm_i h b17 (mm_n x1)) = (6 : Int32) then
  (some (none, h))
  else
  (jn_X12_readAlert_69 a0 x1 h)) else none))
set_option maxHeartbeats 4000000 in
set_option maxRecDepth 100000 in
theorem oj_X12_readAlert_53 {G : mm_G}   (a0 : Nat) (x1 : Int32) (x2 : Int32) (h : mm_H) (k_a0 : mm_kd h a0 = 11) : mm_Ok G my_X12_readAlert 53 [.ref a0, .int x1, .int x2] [] h (jn_X12_readAlert_53 a0 x1 x2 h) := by
  unfold jn_X12_readAlert_53
  refine ok_iload_n (q := 54) dX12_readAlert_53 rfl rfl ?_
  refine ok_if_eq (q := 57) (t := 69) dX12_readAlert_54 rfl rfl ?_ ?_
  · refine mm_wk [true, true, false] (ls' := [.ref a0, .int x1, mm_U]) rfl ?_
    exact oj_X12_readAlert_69 a0 x1 h k_a0
  · refine ok_aload_n (q := 58) dX12_readAlert_57 rfl rfl ?_
    refine ok_getR cl_11 (q := 61) (k := 4) dX12_readAlert_58 (Nat.le_of_ble_eq_true rfl) wd_1036 (fun _ _ _ => rfl) kt_11_4 k_a0 rfl (fun b17 k18 => ?_)
    refine ok_iload_n (q := 62) dX12_readAlert_61 rfl rfl ?_
    refine mm_ck (fun c19 => ?_)
    refine ok_iald (q := 63) dX12_readAlert_62 k18 c19 rfl ?_
    refine ok_bipush (q := 65) (v := 6) dX12_readAlert_63 cb_6 rfl ?_
    refine ok_icmp_ne (q := 68) (t := 69) dX12_readAlert_65 rfl rfl ?_ ?_
    · refine mm_wk [true, true, false] (ls' := [.ref a0, .int x1, mm_U]) rfl ?_
      exact oj_X12_readAlert_69 a0 x1 h k_a0
    · exact ok_ret dX12_readAlert_68 rfl
def jn_X12_readAlert_41 (a0 : Nat) (x1 : Int32) (s0 : Int32) (h : mm_H) : mm_O := if s0 = 0 then
  (jn_X12_readAlert_53 a0 x1 s0 h)
  else
  (mm_gr h a0 14 (fun b20 =>
  if 32 ≤ b20 ∧ mm_in x1 (mm_ln h b20) = true then (mm_bh (mm_si h b20 (mm_n x1) ((1 : Int32) &&& 1)) (fun h23 =>
  jn_X12_readAlert_53 a0 x1 s0 h23)) else none))
set_option maxHeartbeats 4000000 in
set_option maxRecDepth 100000 in
theorem oj_X12_readAlert_41 {G : mm_G}   (a0 : Nat) (x1 : Int32) (s0 : Int32) (h : mm_H) (k_a0 : mm_kd h a0 = 11) : mm_Ok G my_X12_readAlert 41 [.ref a0, .int x1, mm_U] [.int s0] h (jn_X12_readAlert_41 a0 x1 s0 h) := by
  unfold jn_X12_readAlert_41
  refine ok_istore_n (q := 42) (ls' := [.ref a0, .int x1, .int s0]) dX12_readAlert_41 (Nat.le_of_ble_eq_true rfl) rfl rfl ?_
  refine ok_iload_n (q := 43) dX12_readAlert_42 rfl rfl ?_
  refine ok_if_eq (q := 46) (t := 53) dX12_readAlert_43 rfl rfl ?_ ?_
  · exact oj_X12_readAlert_53 a0 x1 s0 h k_a0
  · refine ok_aload_n (q := 47) dX12_readAlert_46 rfl rfl ?_
    refine ok_getR cl_11 (q := 50) (k := 14) dX12_readAlert_47 (Nat.le_of_ble_eq_true rfl) wd_1046 (fun _ _ _ => rfl) kt_11_14 k_a0 rfl (fun b20 k21 => ?_)
    refine ok_iload_n (q := 51) dX12_readAlert_50 rfl rfl ?_
    refine ok_iconst (q := 52) (v := 1) dX12_readAlert_51 ci_1 rfl ?_
    refine mm_ck (fun c22 => ?_)
    refine ok_zast (q := 53) dX12_readAlert_52 k21 c22.1 c22.2 rfl (bh_ok (fun h23 e24 => ?_))
    have e24 : h23.1 = h.1 := e24
    exact oj_X12_readAlert_53 a0 x1 s0 h23 (mm_ke e24 k_a0)
def jn_X12_readAlert_40 (a0 : Nat) (x1 : Int32) (h : mm_H) : mm_O := jn_X12_readAlert_41 a0 x1 0 h
set_option maxHeartbeats 4000000 in
set_option maxRecDepth 100000 in
theorem oj_X12_readAlert_40 {G : mm_G}   (a0 : Nat) (x1 : Int32) (h : mm_H) (k_a0 : mm_kd h a0 = 11) : mm_Ok G my_X12_readAlert 40 [.ref a0, .int x1, mm_U] [] h (jn_X12_readAlert_40 a0 x1 h) := by
  unfold jn_X12_readAlert_40
  refine ok_iconst (q := 41) (v := 0) dX12_readAlert_40 ci_0 rfl ?_
  exact oj_X12_readAlert_41 a0 x1 0 h k_a0
def bd_X12_readAlert (a0 : Nat) (x1 : Int32) (h : mm_H) : mm_O := if (mm_i h a0 62) = (2 : Int32) then
  (mm_gr h a0 60 (fun b1 =>
  if mm_in (5 : Int32) (mm_ln h b1) = true then (if (mm_i h b1 (mm_n (5 : Int32))) = (1 : Int32) then
  (mm_gr h a0 60 (fun b25 =>
  if mm_in (6 : Int32) (mm_ln h b25) = true then (if (mm_i h b25 (mm_n (6 : Int32))) = 0 then
  (jn_X12_readAlert_41 a0 x1 1 h)
  else
  (jn_X12_readAlert_40 a0 x1 h)) else none))
  else
  (jn_X12_readAlert_40 a0 x1 h)) else none))
  else
  (mm_qv (bd_X12_fail a0 x1 50 h) (fun h28 =>
  some (none, h28)))
set_option maxHeartbeats 4000000 in
set_option maxRecDepth 100000 in
theorem mt_X12_readAlert (G : mm_G) (a0 : Nat) (x1 : Int32) (h : mm_H) (k_a0 : mm_kd h a0 = 11) : mm_Met G my_X12_readAlert [.ref a0, .int x1] h (bd_X12_readAlert a0 x1 h) := by
  refine mm_met (ls := [.ref a0, .int x1, mm_U]) pn_RX12 (Nat.le_of_ble_eq_true rfl) rfl ?_
  unfold bd_X12_readAlert
  refine ok_aload_n (q := 1) dX12_readAlert_0 rfl rfl ?_
  refine ok_getI cl_11 (q := 4) (k := 62) dX12_readAlert_1 (Nat.le_of_ble_eq_true rfl) wd_1094 (fun _ _ _ => rfl) k_a0 rfl ?_
  refine ok_iconst (q := 5) (v := 2) dX12_readAlert_4 ci_2 rfl ?_
  refine ok_icmp_eq (q := 8) (t := 16) dX12_readAlert_5 rfl rfl ?_ ?_
  · refine ok_aload_n (q := 17) dX12_readAlert_16 rfl rfl ?_
    refine ok_getR cl_11 (q := 20) (k := 60) dX12_readAlert_17 (Nat.le_of_ble_eq_true rfl) wd_1092 (fun _ _ _ => rfl) kt_11_60 k_a0 rfl (fun b1 k2 => ?_)
    refine ok_iconst (q := 21) (v := 5) dX12_readAlert_20 ci_5 rfl ?_
    refine mm_ck (fun c3 => ?_)
    refine ok_bald (q := 22) dX12_readAlert_21 k2 c3 rfl ?_
    refine ok_iconst (q := 23) (v := 1) dX12_readAlert_22 ci_1 rfl ?_
    refine ok_icmp_ne (q := 26) (t := 40) dX12_readAlert_23 rfl rfl ?_ ?_
    · exact oj_X12_readAlert_40 a0 x1 h k_a0
    · refine ok_aload_n (q := 27) dX12_readAlert_26 rfl rfl ?_
      refine ok_getR cl_11 (q := 30) (k := 60) dX12_readAlert_27 (Nat.le_of_ble_eq_true rfl) wd_1092 (fun _ _ _ => rfl) kt_11_60 k_a0 rfl (fun b25 k26 => ?_)
      refine ok_bipush (q := 32) (v := 6) dX12_readAlert_30 cb_6 rfl ?_
      refine mm_ck (fun c27 => ?_)
      refine ok_bald (q := 33) dX12_readAlert_32 k26 c27 rfl ?_
      refine ok_if_ne (q := 36) (t := 40) dX12_readAlert_33 rfl rfl ?_ ?_
      · exact oj_X12_readAlert_40 a0 x1 h k_a0
      · refine ok_iconst (q := 37) (v := 1) dX12_readAlert_36 ci_1 rfl ?_
        refine ok_goto (q := 41) dX12_readAlert_37 rfl ?_
        exact oj_X12_readAlert_41 a0 x1 1 h k_a0
  · refine ok_aload_n (q := 9) dX12_readAlert_8 rfl rfl ?_
    refine ok_iload_n (q := 10) dX12_readAlert_9 rfl rfl ?_
    refine ok_bipush (q := 12) (v := 50) dX12_readAlert_10 cb_50 rfl ?_
    refine mm_cv (q := 15) (mt_X12_fail G a0 x1 50 h k_a0) (mm_runV (as := [.int x1, .int 50]) (st := []) cl_11 lk_X12_readAlert_X12_fail_436 rfl dX12_readAlert_12 rfl (Nat.le_of_ble_eq_true rfl) k_a0) rfl (fun h28 p29 => ?_)
    have k30 : mm_kd h28 a0 = 11 := mm_kd_app p29 k_a0 (by decide)
    exact ok_ret dX12_readAlert_15 rfl
def lp_X12_readData_21  : Nat → Nat → Int32 → Int32 → mm_H → mm_O
  | 0, _, _, _, _ => none
  | n + 1, a0, x1, x2, h => if (mm_i h a0 62) ≤ x2 then
  (some (none, h))
  else
  (mm_gr h a0 19 (fun b4 =>
  if mm_in x1 (mm_ln h b4) = true then (if (2000 : Int32) ≤ (mm_i h b4 (mm_n x1)) then
  (some (none, h))
  else
  (mm_gr h a0 18 (fun b7 =>
  mm_gr h a0 19 (fun b9 =>
  if mm_in x1 (mm_ln h b9) = true then (mm_gr h a0 60 (fun b12 =>
  if mm_in ((5 : Int32) + x2) (mm_ln h b12) = true then (if 32 ≤ b7 ∧ mm_in (((2000 : Int32) * x1) + (mm_i h b9 (mm_n x1))) (mm_ln h b7) = true then (mm_bh (mm_si h b7 (mm_n (((2000 : Int32) * x1) + (mm_i h b9 (mm_n x1)))) (mm_b8 (mm_i h b12 (mm_n ((5 : Int32) + x2))))) (fun h16 =>
  mm_gr h16 a0 19 (fun b18 =>
  if mm_in x1 (mm_ln h16 b18) = true then (if 32 ≤ b18 ∧ mm_in x1 (mm_ln h16 b18) = true then (mm_bh (mm_si h16 b18 (mm_n x1) ((mm_i h16 b18 (mm_n x1)) + (1 : Int32))) (fun h22 =>
  lp_X12_readData_21 n a0 x1 (x2 + 1) h22)) else none) else none))) else none) else none)) else none)))) else none))
set_option maxHeartbeats 4000000 in
set_option maxRecDepth 100000 in
theorem ol_X12_readData_21 {G : mm_G}   : ∀ (n : Nat) (a0 : Nat) (x1 : Int32) (x2 : Int32) (h : mm_H), mm_kd h a0 = 11 → mm_Ok G my_X12_readData 21 [.ref a0, .int x1, .int x2] [] h (lp_X12_readData_21 n a0 x1 x2 h) := by
  intro n
  induction n with
  | zero => intro a0 x1 x2 h k_a0; exact mm_no
  | succ n ih =>
    intro a0 x1 x2 h k_a0
    rw [lp_X12_readData_21]
    refine ok_iload_n (q := 22) dX12_readData_21 rfl rfl ?_
    refine ok_aload_n (q := 23) dX12_readData_22 rfl rfl ?_
    refine ok_getI cl_11 (q := 26) (k := 62) dX12_readData_23 (Nat.le_of_ble_eq_true rfl) wd_1094 (fun _ _ _ => rfl) k_a0 rfl ?_
    refine ok_icmp_ge (q := 29) (t := 82) dX12_readData_26 rfl rfl ?_ ?_
    · exact ok_ret dX12_readData_82 rfl
    · refine ok_aload_n (q := 30) dX12_readData_29 rfl rfl ?_
      refine ok_getR cl_11 (q := 33) (k := 19) dX12_readData_30 (Nat.le_of_ble_eq_true rfl) wd_1051 (fun _ _ _ => rfl) kt_11_19 k_a0 rfl (fun b4 k5 => ?_)
      refine ok_iload_n (q := 34) dX12_readData_33 rfl rfl ?_
      refine mm_ck (fun c6 => ?_)
      refine ok_iald (q := 35) dX12_readData_34 k5 c6 rfl ?_
      refine ok_sipush (q := 38) (v := 2000) dX12_readData_35 cs_2000 rfl ?_
      refine ok_icmp_ge (q := 41) (t := 82) dX12_readData_38 rfl rfl ?_ ?_
      · exact ok_ret dX12_readData_82 rfl
      · refine ok_aload_n (q := 42) dX12_readData_41 rfl rfl ?_
        refine ok_getR cl_11 (q := 45) (k := 18) dX12_readData_42 (Nat.le_of_ble_eq_true rfl) wd_1050 (fun _ _ _ => rfl) kt_11_18 k_a0 rfl (fun b7 k8 => ?_)
        refine ok_sipush (q := 48) (v := 2000) dX12_readData_45 cs_2000 rfl ?_
        refine ok_iload_n (q := 49) dX12_readData_48 rfl rfl ?_
        refine ok_imul (q := 50) dX12_readData_49 rfl ?_
        refine ok_aload_n (q := 51) dX12_readData_50 rfl rfl ?_
        refine ok_getR cl_11 (q := 54) (k := 19) dX12_readData_51 (Nat.le_of_ble_eq_true rfl) wd_1051 (fun _ _ _ => rfl) kt_11_19 k_a0 rfl (fun b9 k10 => ?_)
        refine ok_iload_n (q := 55) dX12_readData_54 rfl rfl ?_
        refine mm_ck (fun c11 => ?_)
        refine ok_iald (q := 56) dX12_readData_55 k10 c11 rfl ?_
        refine ok_iadd (q := 57) dX12_readData_56 rfl ?_
        refine ok_aload_n (q := 58) dX12_readData_57 rfl rfl ?_
        refine ok_getR cl_11 (q := 61) (k := 60) dX12_readData_58 (Nat.le_of_ble_eq_true rfl) wd_1092 (fun _ _ _ => rfl) kt_11_60 k_a0 rfl (fun b12 k13 => ?_)
        refine ok_iconst (q := 62) (v := 5) dX12_readData_61 ci_5 rfl ?_
        refine ok_iload_n (q := 63) dX12_readData_62 rfl rfl ?_
        refine ok_iadd (q := 64) dX12_readData_63 rfl ?_
        refine mm_ck (fun c14 => ?_)
        refine ok_bald (q := 65) dX12_readData_64 k13 c14 rfl ?_
        refine mm_ck (fun c15 => ?_)
        refine ok_bast (q := 66) dX12_readData_65 k8 c15.1 c15.2 rfl (bh_ok (fun h16 e17 => ?_))
        have e17 : h16.1 = h.1 := e17
        refine ok_aload_n (q := 67) dX12_readData_66 rfl rfl ?_
        refine ok_getR cl_11 (q := 70) (k := 19) dX12_readData_67 (Nat.le_of_ble_eq_true rfl) wd_1051 (fun _ _ _ => rfl) kt_11_19 (mm_ke e17 k_a0) rfl (fun b18 k19 => ?_)
        refine ok_iload_n (q := 71) dX12_readData_70 rfl rfl ?_
        refine ok_dup2 (q := 72) dX12_readData_71 rfl rfl rfl ?_
        refine mm_ck (fun c20 => ?_)
        refine ok_iald (q := 73) dX12_readData_72 (mm_ke e17 (mm_ke e17.symm k19)) c20 rfl ?_
        refine ok_iconst (q := 74) (v := 1) dX12_readData_73 ci_1 rfl ?_
        refine ok_iadd (q := 75) dX12_readData_74 rfl ?_
        refine mm_ck (fun c21 => ?_)
        refine ok_iast (q := 76) dX12_readData_75 (mm_ke e17 (mm_ke e17.symm k19)) c21.1 c21.2 rfl (bh_ok (fun h22 e23 => ?_))
        have e23 : h22.1 = h.1 := e23.trans e17
        refine ok_iinc (q := 79) (v := x2 + 1) (ls' := [.ref a0, .int x1, .int (x2 + 1)]) dX12_readData_76 rfl (congrArg (x2 + ·) ci_1) (Nat.le_of_ble_eq_true rfl) rfl rfl ?_
        refine ok_goto (q := 21) dX12_readData_79 rfl ?_
        exact ih a0 x1 (x2 + 1) h22 (mm_ke e23 k_a0)
def bd_X12_readData (a0 : Nat) (x1 : Int32) (h : mm_H) : mm_O := mm_gr h a0 4 (fun b1 =>
  if mm_in x1 (mm_ln h b1) = true then (if (mm_i h b1 (mm_n x1)) = (6 : Int32) then
  (lp_X12_readData_21  mm_fu a0 x1 0 h)
  else
  (mm_qv (bd_X12_fail a0 x1 10 h) (fun h24 =>
  some (none, h24)))) else none)
set_option maxHeartbeats 4000000 in
set_option maxRecDepth 100000 in
theorem mt_X12_readData (G : mm_G) (a0 : Nat) (x1 : Int32) (h : mm_H) (k_a0 : mm_kd h a0 = 11) : mm_Met G my_X12_readData [.ref a0, .int x1] h (bd_X12_readData a0 x1 h) := by
  refine mm_met (ls := [.ref a0, .int x1, mm_U]) pn_RX12 (Nat.le_of_ble_eq_true rfl) rfl ?_
  unfold bd_X12_readData
  refine ok_aload_n (q := 1) dX12_readData_0 rfl rfl ?_
  refine ok_getR cl_11 (q := 4) (k := 4) dX12_readData_1 (Nat.le_of_ble_eq_true rfl) wd_1036 (fun _ _ _ => rfl) kt_11_4 k_a0 rfl (fun b1 k2 => ?_)
  refine ok_iload_n (q := 5) dX12_readData_4 rfl rfl ?_
  refine mm_ck (fun c3 => ?_)
  refine ok_iald (q := 6) dX12_readData_5 k2 c3 rfl ?_
  refine ok_bipush (q := 8) (v := 6) dX12_readData_6 cb_6 rfl ?_
  refine ok_icmp_eq (q := 11) (t := 19) dX12_readData_8 rfl rfl ?_ ?_
  · refine ok_iconst (q := 20) (v := 0) dX12_readData_19 ci_0 rfl ?_
    refine ok_istore_n (q := 21) (ls' := [.ref a0, .int x1, .int 0]) dX12_readData_20 (Nat.le_of_ble_eq_true rfl) rfl rfl ?_
    refine ol_X12_readData_21  mm_fu a0 x1 0 h k_a0
  · refine ok_aload_n (q := 12) dX12_readData_11 rfl rfl ?_
    refine ok_iload_n (q := 13) dX12_readData_12 rfl rfl ?_
    refine ok_bipush (q := 15) (v := 10) dX12_readData_13 cb_10 rfl ?_
    refine mm_cv (q := 18) (mt_X12_fail G a0 x1 10 h k_a0) (mm_runV (as := [.int x1, .int 10]) (st := []) cl_11 lk_X12_readData_X12_fail_436 rfl dX12_readData_15 rfl (Nat.le_of_ble_eq_true rfl) k_a0) rfl (fun h24 p25 => ?_)
    have k26 : mm_kd h24 a0 = 11 := mm_kd_app p25 k_a0 (by decide)
    exact ok_ret dX12_readData_18 rfl
def jn_X12_mustBe_46 (a0 : Nat) (s0 : Int32) (s1 : Nat) (h : mm_H) : mm_O := if s0 = 0 ∨ s0 = 1 then (mm_bh (mm_si h s1 64 s0) (fun h1 =>
  mm_bh (mm_si h1 a0 63 ((mm_i h1 a0 63) + (2 : Int32))) (fun h4 =>
  some (none, h4)))) else none
set_option maxHeartbeats 4000000 in
set_option maxRecDepth 100000 in
theorem oj_X12_mustBe_46 {G : mm_G}   (a0 : Nat) (s0 : Int32) (s1 : Nat) (h : mm_H) (k_a0 : mm_kd h a0 = 11) (k_s1 : mm_kd h s1 = 11) : mm_Ok G my_X12_mustBe 46 [.ref a0, mm_U] [.int s0, .ref s1] h (jn_X12_mustBe_46 a0 s0 s1 h) := by
  unfold jn_X12_mustBe_46
  refine mm_ck (fun c3 => ?_)
  refine ok_putI cl_11 (q := 49) (k := 64) dX12_mustBe_46 (Nat.le_of_ble_eq_true rfl) wd_1096 (Or.inl rfl) (fun _ _ _ => rfl) (mm_isb c3).1 (mm_isb c3).2 k_s1 rfl (bh_ok (fun h1 e2 => ?_))
  have e2 : h1.1 = h.1 := e2
  refine ok_aload_n (q := 50) dX12_mustBe_49 rfl rfl ?_
  refine ok_dup (q := 51) dX12_mustBe_50 rfl rfl ?_
  refine ok_getI cl_11 (q := 54) (k := 63) dX12_mustBe_51 (Nat.le_of_ble_eq_true rfl) wd_1095 (fun _ _ _ => rfl) (mm_ke e2 k_a0) rfl ?_
  refine ok_iconst (q := 55) (v := 2) dX12_mustBe_54 ci_2 rfl ?_
  refine ok_iadd (q := 56) dX12_mustBe_55 rfl ?_
  refine ok_putI cl_11 (q := 59) (k := 63) dX12_mustBe_56 (Nat.le_of_ble_eq_true rfl) wd_1095 (Or.inl rfl) (fun _ _ _ => rfl) rfl rfl (mm_ke e2 k_a0) rfl (bh_ok (fun h4 e5 => ?_))
  have e5 : h4.1 = h.1 := e5.trans e2
  exact ok_ret dX12_mustBe_59 rfl
def jn_X12_mustBe_45 (a0 : Nat) (s0 : Nat) (h : mm_H) : mm_O := jn_X12_mustBe_46 a0 0 s0 h
set_option maxHeartbeats 4000000 in
set_option maxRecDepth 100000 in
theorem oj_X12_mustBe_45 {G : mm_G}   (a0 : Nat) (s0 : Nat) (h : mm_H) (k_a0 : mm_kd h a0 = 11) (k_s0 : mm_kd h s0 = 11) : mm_Ok G my_X12_mustBe 45 [.ref a0, mm_U] [.ref s0] h (jn_X12_mustBe_45 a0 s0 h) := by
  unfold jn_X12_mustBe_45
  refine ok_iconst (q := 46) (v := 0) dX12_mustBe_45 ci_0 rfl ?_
  exact oj_X12_mustBe_46 a0 0 s0 h k_a0 k_s0
def bd_X12_mustBe (a0 : Nat) (x1 : Int32) (h : mm_H) : mm_O := if (mm_i h a0 64) = 0 then
  (jn_X12_mustBe_45 a0 a0 h)
  else
  (mm_gr h a0 60 (fun b6 =>
  if mm_in (mm_i h a0 63) (mm_ln h b6) = true then (if (mm_i h b6 (mm_n (mm_i h a0 63))) = (mm_b8 (mm_shr x1 (8 : Int32))) then
  (mm_gr h a0 60 (fun b9 =>
  if mm_in ((mm_i h a0 63) + (1 : Int32)) (mm_ln h b9) = true then (if (mm_i h b9 (mm_n ((mm_i h a0 63) + (1 : Int32)))) = (mm_b8 x1) then
  (jn_X12_mustBe_46 a0 1 a0 h)
  else
  (jn_X12_mustBe_45 a0 a0 h)) else none))
  else
  (jn_X12_mustBe_45 a0 a0 h)) else none))
set_option maxHeartbeats 4000000 in
set_option maxRecDepth 100000 in
theorem mt_X12_mustBe (G : mm_G) (a0 : Nat) (x1 : Int32) (h : mm_H) (k_a0 : mm_kd h a0 = 11) : mm_Met G my_X12_mustBe [.ref a0, .int x1] h (bd_X12_mustBe a0 x1 h) := by
  refine mm_met (ls := [.ref a0, .int x1]) pn_RX12 (Nat.le_of_ble_eq_true rfl) rfl ?_
  unfold bd_X12_mustBe
  refine ok_aload_n (q := 1) dX12_mustBe_0 rfl rfl ?_
  refine ok_aload_n (q := 2) dX12_mustBe_1 rfl rfl ?_
  refine ok_getI cl_11 (q := 5) (k := 64) dX12_mustBe_2 (Nat.le_of_ble_eq_true rfl) wd_1096 (fun _ _ _ => rfl) k_a0 rfl ?_
  refine ok_if_eq (q := 8) (t := 45) dX12_mustBe_5 rfl rfl ?_ ?_
  · refine mm_wk [true, false] (ls' := [.ref a0, mm_U]) rfl ?_
    exact oj_X12_mustBe_45 a0 a0 h k_a0 k_a0
  · refine ok_aload_n (q := 9) dX12_mustBe_8 rfl rfl ?_
    refine ok_getR cl_11 (q := 12) (k := 60) dX12_mustBe_9 (Nat.le_of_ble_eq_true rfl) wd_1092 (fun _ _ _ => rfl) kt_11_60 k_a0 rfl (fun b6 k7 => ?_)
    refine ok_aload_n (q := 13) dX12_mustBe_12 rfl rfl ?_
    refine ok_getI cl_11 (q := 16) (k := 63) dX12_mustBe_13 (Nat.le_of_ble_eq_true rfl) wd_1095 (fun _ _ _ => rfl) k_a0 rfl ?_
    refine mm_ck (fun c8 => ?_)
    refine ok_bald (q := 17) dX12_mustBe_16 k7 c8 rfl ?_
    refine ok_iload_n (q := 18) dX12_mustBe_17 rfl rfl ?_
    refine ok_bipush (q := 20) (v := 8) dX12_mustBe_18 cb_8 rfl ?_
    refine ok_ishr (q := 21) dX12_mustBe_20 rfl ?_
    refine ok_i2b (q := 22) dX12_mustBe_21 rfl ?_
    refine ok_icmp_ne (q := 25) (t := 45) dX12_mustBe_22 rfl rfl ?_ ?_
    · refine mm_wk [true, false] (ls' := [.ref a0, mm_U]) rfl ?_
      exact oj_X12_mustBe_45 a0 a0 h k_a0 k_a0
    · refine ok_aload_n (q := 26) dX12_mustBe_25 rfl rfl ?_
      refine ok_getR cl_11 (q := 29) (k := 60) dX12_mustBe_26 (Nat.le_of_ble_eq_true rfl) wd_1092 (fun _ _ _ => rfl) kt_11_60 k_a0 rfl (fun b9 k10 => ?_)
      refine ok_aload_n (q := 30) dX12_mustBe_29 rfl rfl ?_
      refine ok_getI cl_11 (q := 33) (k := 63) dX12_mustBe_30 (Nat.le_of_ble_eq_true rfl) wd_1095 (fun _ _ _ => rfl) k_a0 rfl ?_
      refine ok_iconst (q := 34) (v := 1) dX12_mustBe_33 ci_1 rfl ?_
      refine ok_iadd (q := 35) dX12_mustBe_34 rfl ?_
      refine mm_ck (fun c11 => ?_)
      refine ok_bald (q := 36) dX12_mustBe_35 k10 c11 rfl ?_
      refine ok_iload_n (q := 37) dX12_mustBe_36 rfl rfl ?_
      refine ok_i2b (q := 38) dX12_mustBe_37 rfl ?_
      refine ok_icmp_ne (q := 41) (t := 45) dX12_mustBe_38 rfl rfl ?_ ?_
      · refine mm_wk [true, false] (ls' := [.ref a0, mm_U]) rfl ?_
        exact oj_X12_mustBe_45 a0 a0 h k_a0 k_a0
      · refine ok_iconst (q := 42) (v := 1) dX12_mustBe_41 ci_1 rfl ?_
        refine ok_goto (q := 46) dX12_mustBe_42 rfl ?_
        refine mm_wk [true, false] (ls' := [.ref a0, mm_U]) rfl ?_
        exact oj_X12_mustBe_46 a0 1 a0 h k_a0 k_a0
def jn_X12_mustByte_27 (a0 : Nat) (s0 : Int32) (s1 : Nat) (h : mm_H) : mm_O := if s0 = 0 ∨ s0 = 1 then (mm_bh (mm_si h s1 64 s0) (fun h1 =>
  mm_bh (mm_si h1 a0 63 ((mm_i h1 a0 63) + (1 : Int32))) (fun h4 =>
  some (none, h4)))) else none
set_option maxHeartbeats 4000000 in
set_option maxRecDepth 100000 in
theorem oj_X12_mustByte_27 {G : mm_G}   (a0 : Nat) (s0 : Int32) (s1 : Nat) (h : mm_H) (k_a0 : mm_kd h a0 = 11) (k_s1 : mm_kd h s1 = 11) : mm_Ok G my_X12_mustByte 27 [.ref a0, mm_U] [.int s0, .ref s1] h (jn_X12_mustByte_27 a0 s0 s1 h) := by
  unfold jn_X12_mustByte_27
  refine mm_ck (fun c3 => ?_)
  refine ok_putI cl_11 (q := 30) (k := 64) dX12_mustByte_27 (Nat.le_of_ble_eq_true rfl) wd_1096 (Or.inl rfl) (fun _ _ _ => rfl) (mm_isb c3).1 (mm_isb c3).2 k_s1 rfl (bh_ok (fun h1 e2 => ?_))
  have e2 : h1.1 = h.1 := e2
  refine ok_aload_n (q := 31) dX12_mustByte_30 rfl rfl ?_
  refine ok_dup (q := 32) dX12_mustByte_31 rfl rfl ?_
  refine ok_getI cl_11 (q := 35) (k := 63) dX12_mustByte_32 (Nat.le_of_ble_eq_true rfl) wd_1095 (fun _ _ _ => rfl) (mm_ke e2 k_a0) rfl ?_
  refine ok_iconst (q := 36) (v := 1) dX12_mustByte_35 ci_1 rfl ?_
  refine ok_iadd (q := 37) dX12_mustByte_36 rfl ?_
  refine ok_putI cl_11 (q := 40) (k := 63) dX12_mustByte_37 (Nat.le_of_ble_eq_true rfl) wd_1095 (Or.inl rfl) (fun _ _ _ => rfl) rfl rfl (mm_ke e2 k_a0) rfl (bh_ok (fun h4 e5 => ?_))
  have e5 : h4.1 = h.1 := e5.trans e2
  exact ok_ret dX12_mustByte_40 rfl
def jn_X12_mustByte_26 (a0 : Nat) (s0 : Nat) (h : mm_H) : mm_O := jn_X12_mustByte_27 a0 0 s0 h
set_option maxHeartbeats 4000000 in
set_option maxRecDepth 100000 in
theorem oj_X12_mustByte_26 {G : mm_G}   (a0 : Nat) (s0 : Nat) (h : mm_H) (k_a0 : mm_kd h a0 = 11) (k_s0 : mm_kd h s0 = 11) : mm_Ok G my_X12_mustByte 26 [.ref a0, mm_U] [.ref s0] h (jn_X12_mustByte_26 a0 s0 h) := by
  unfold jn_X12_mustByte_26
  refine ok_iconst (q := 27) (v := 0) dX12_mustByte_26 ci_0 rfl ?_
  exact oj_X12_mustByte_27 a0 0 s0 h k_a0 k_s0
def bd_X12_mustByte (a0 : Nat) (x1 : Int32) (h : mm_H) : mm_O := if (mm_i h a0 64) = 0 then
  (jn_X12_mustByte_26 a0 a0 h)
  else
  (mm_gr h a0 60 (fun b6 =>
  if mm_in (mm_i h a0 63) (mm_ln h b6) = true then (if (mm_i h b6 (mm_n (mm_i h a0 63))) = (mm_b8 x1) then
  (jn_X12_mustByte_27 a0 1 a0 h)
  else
  (jn_X12_mustByte_26 a0 a0 h)) else none))
set_option maxHeartbeats 4000000 in
set_option maxRecDepth 100000 in
theorem mt_X12_mustByte (G : mm_G) (a0 : Nat) (x1 : Int32) (h : mm_H) (k_a0 : mm_kd h a0 = 11) : mm_Met G my_X12_mustByte [.ref a0, .int x1] h (bd_X12_mustByte a0 x1 h) := by
  refine mm_met (ls := [.ref a0, .int x1]) pn_RX12 (Nat.le_of_ble_eq_true rfl) rfl ?_
  unfold bd_X12_mustByte
  refine ok_aload_n (q := 1) dX12_mustByte_0 rfl rfl ?_
  refine ok_aload_n (q := 2) dX12_mustByte_1 rfl rfl ?_
  refine ok_getI cl_11 (q := 5) (k := 64) dX12_mustByte_2 (Nat.le_of_ble_eq_true rfl) wd_1096 (fun _ _ _ => rfl) k_a0 rfl ?_
  refine ok_if_eq (q := 8) (t := 26) dX12_mustByte_5 rfl rfl ?_ ?_
  · refine mm_wk [true, false] (ls' := [.ref a0, mm_U]) rfl ?_
    exact oj_X12_mustByte_26 a0 a0 h k_a0 k_a0
  · refine ok_aload_n (q := 9) dX12_mustByte_8 rfl rfl ?_
    refine ok_getR cl_11 (q := 12) (k := 60) dX12_mustByte_9 (Nat.le_of_ble_eq_true rfl) wd_1092 (fun _ _ _ => rfl) kt_11_60 k_a0 rfl (fun b6 k7 => ?_)
    refine ok_aload_n (q := 13) dX12_mustByte_12 rfl rfl ?_
    refine ok_getI cl_11 (q := 16) (k := 63) dX12_mustByte_13 (Nat.le_of_ble_eq_true rfl) wd_1095 (fun _ _ _ => rfl) k_a0 rfl ?_
    refine mm_ck (fun c8 => ?_)
    refine ok_bald (q := 17) dX12_mustByte_16 k7 c8 rfl ?_
    refine ok_iload_n (q := 18) dX12_mustByte_17 rfl rfl ?_
    refine ok_i2b (q := 19) dX12_mustByte_18 rfl ?_
    refine ok_icmp_ne (q := 22) (t := 26) dX12_mustByte_19 rfl rfl ?_ ?_
    · refine mm_wk [true, false] (ls' := [.ref a0, mm_U]) rfl ?_
      exact oj_X12_mustByte_26 a0 a0 h k_a0 k_a0
    · refine ok_iconst (q := 23) (v := 1) dX12_mustByte_22 ci_1 rfl ?_
      refine ok_goto (q := 27) dX12_mustByte_23 rfl ?_
      refine mm_wk [true, false] (ls' := [.ref a0, mm_U]) rfl ?_
      exact oj_X12_mustByte_27 a0 1 a0 h k_a0 k_a0
def jn_X12_helloFault_262 (kb : Nat → Int32 → Int32 → Int32 → Int32 → Int32 → Int32 → mm_H → mm_O) (ke_270 : Nat → Int32 → Int32 → Int32 → mm_H → mm_O) (a0 : Nat) (x1 : Int32) (x3 : Int32) (x4 : Int32) (x5 : Int32) (x7 : Int32) (s0 : Int32) (h : mm_H) : mm_O := kb a0 x1 x3 x4 x5 s0 (x7 + 1) h
set_option maxHeartbeats 4000000 in
set_option maxRecDepth 100000 in
theorem oj_X12_helloFault_262 {G : mm_G} {kb : Nat → Int32 → Int32 → Int32 → Int32 → Int32 → Int32 → mm_H → mm_O} {ke_270 : Nat → Int32 → Int32 → Int32 → mm_H → mm_O} (hkb : ∀ (a0 : Nat) (x1 : Int32) (x3 : Int32) (x4 : Int32) (x5 : Int32) (x6 : Int32) (x7 : Int32) (h : mm_H), mm_kd h a0 = 11 → mm_Ok G my_X12_helloFault 221 [.ref a0, .int x1, mm_U, .int x3, .int x4, .int x5, .int x6, .int x7] [] h (kb a0 x1 x3 x4 x5 x6 x7 h)) (hke_270 : ∀ (a0 : Nat) (x1 : Int32) (x5 : Int32) (x6 : Int32) (h : mm_H), mm_kd h a0 = 11 → mm_Ok G my_X12_helloFault 270 [.ref a0, .int x1, mm_U, mm_U, mm_U, .int x5, .int x6, mm_U] [] h (ke_270 a0 x1 x5 x6 h)) (a0 : Nat) (x1 : Int32) (x3 : Int32) (x4 : Int32) (x5 : Int32) (x7 : Int32) (s0 : Int32) (h : mm_H) (k_a0 : mm_kd h a0 = 11) : mm_Ok G my_X12_helloFault 262 [.ref a0, .int x1, mm_U, .int x3, .int x4, .int x5, mm_U, .int x7] [.int s0] h (jn_X12_helloFault_262 kb ke_270 a0 x1 x3 x4 x5 x7 s0 h) := by
  unfold jn_X12_helloFault_262
  refine ok_istore (q := 264) (ls' := [.ref a0, .int x1, mm_U, .int x3, .int x4, .int x5, .int s0, .int x7]) dX12_helloFault_262 (Nat.le_of_ble_eq_true rfl) rfl rfl ?_
  refine ok_iinc (q := 267) (v := x7 + 1) (ls' := [.ref a0, .int x1, mm_U, .int x3, .int x4, .int x5, .int s0, .int (x7 + 1)]) dX12_helloFault_264 rfl (congrArg (x7 + ·) ci_1) (Nat.le_of_ble_eq_true rfl) rfl rfl ?_
  refine ok_goto (q := 221) dX12_helloFault_267 rfl ?_
  exact hkb a0 x1 x3 x4 x5 s0 (x7 + 1) h k_a0
def lp_X12_helloFault_221 (ke_270 : Nat → Int32 → Int32 → Int32 → mm_H → mm_O) : Nat → Nat → Int32 → Int32 → Int32 → Int32 → Int32 → Int32 → mm_H → mm_O
  | 0, _, _, _, _, _, _, _, _ => none
  | n + 1, a0, x1, x3, x4, x5, x6, x7, h => if x3 ≤ x7 then
  (ke_270 a0 x1 x5 x6 h)
  else
  (if x6 = 0 then
  (ke_270 a0 x1 x5 x6 h)
  else
  (mm_gr h a0 60 (fun b82 =>
  if mm_in (x4 + x7) (mm_ln h b82) = true then (mm_gr h a0 7 (fun b85 =>
  if mm_in (((16 : Int32) * x1) + x7) (mm_ln h b85) = true then (if (mm_i h b82 (mm_n (x4 + x7))) = (mm_i h b85 (mm_n (((16 : Int32) * x1) + x7))) then
  (jn_X12_helloFault_262 (lp_X12_helloFault_221 ke_270 n) ke_270 a0 x1 x3 x4 x5 x7 1 h)
  else
  (jn_X12_helloFault_262 (lp_X12_helloFault_221 ke_270 n) ke_270 a0 x1 x3 x4 x5 x7 0 h)) else none)) else none)))
set_option maxHeartbeats 4000000 in
set_option maxRecDepth 100000 in
theorem ol_X12_helloFault_221 {G : mm_G} {ke_270 : Nat → Int32 → Int32 → Int32 → mm_H → mm_O} (hke_270 : ∀ (a0 : Nat) (x1 : Int32) (x5 : Int32) (x6 : Int32) (h : mm_H), mm_kd h a0 = 11 → mm_Ok G my_X12_helloFault 270 [.ref a0, .int x1, mm_U, mm_U, mm_U, .int x5, .int x6, mm_U] [] h (ke_270 a0 x1 x5 x6 h)) : ∀ (n : Nat) (a0 : Nat) (x1 : Int32) (x3 : Int32) (x4 : Int32) (x5 : Int32) (x6 : Int32) (x7 : Int32) (h : mm_H), mm_kd h a0 = 11 → mm_Ok G my_X12_helloFault 221 [.ref a0, .int x1, mm_U, .int x3, .int x4, .int x5, .int x6, .int x7] [] h (lp_X12_helloFault_221 ke_270 n a0 x1 x3 x4 x5 x6 x7 h) := by
  intro n
  induction n with
  | zero => intro a0 x1 x3 x4 x5 x6 x7 h k_a0; exact mm_no
  | succ n ih =>
    intro a0 x1 x3 x4 x5 x6 x7 h k_a0
    rw [lp_X12_helloFault_221]
    refine ok_iload (q := 223) dX12_helloFault_221 rfl rfl ?_
    refine ok_iload_n (q := 224) dX12_helloFault_223 rfl rfl ?_
    refine ok_icmp_ge (q := 227) (t := 270) dX12_helloFault_224 rfl rfl ?_ ?_
    · refine mm_wk [true, true, false, false, false, true, true, false] (ls' := [.ref a0, .int x1, mm_U, mm_U, mm_U, .int x5, .int x6, mm_U]) rfl ?_
      exact hke_270 a0 x1 x5 x6 h k_a0
    · refine ok_iload (q := 229) dX12_helloFault_227 rfl rfl ?_
      refine ok_if_eq (q := 232) (t := 270) dX12_helloFault_229 rfl rfl ?_ ?_
      · refine mm_wk [true, true, false, false, false, true, true, false] (ls' := [.ref a0, .int x1, mm_U, mm_U, mm_U, .int x5, .int x6, mm_U]) rfl ?_
        exact hke_270 a0 x1 x5 x6 h k_a0
      · refine ok_aload_n (q := 233) dX12_helloFault_232 rfl rfl ?_
        refine ok_getR cl_11 (q := 236) (k := 60) dX12_helloFault_233 (Nat.le_of_ble_eq_true rfl) wd_1092 (fun _ _ _ => rfl) kt_11_60 k_a0 rfl (fun b82 k83 => ?_)
        refine ok_iload (q := 238) dX12_helloFault_236 rfl rfl ?_
        refine ok_iload (q := 240) dX12_helloFault_238 rfl rfl ?_
        refine ok_iadd (q := 241) dX12_helloFault_240 rfl ?_
        refine mm_ck (fun c84 => ?_)
        refine ok_bald (q := 242) dX12_helloFault_241 k83 c84 rfl ?_
        refine ok_aload_n (q := 243) dX12_helloFault_242 rfl rfl ?_
        refine ok_getR cl_11 (q := 246) (k := 7) dX12_helloFault_243 (Nat.le_of_ble_eq_true rfl) wd_1039 (fun _ _ _ => rfl) kt_11_7 k_a0 rfl (fun b85 k86 => ?_)
        refine ok_bipush (q := 248) (v := 16) dX12_helloFault_246 cb_16 rfl ?_
        refine ok_iload_n (q := 249) dX12_helloFault_248 rfl rfl ?_
        refine ok_imul (q := 250) dX12_helloFault_249 rfl ?_
        refine ok_iload (q := 252) dX12_helloFault_250 rfl rfl ?_
        refine ok_iadd (q := 253) dX12_helloFault_252 rfl ?_
        refine mm_ck (fun c87 => ?_)
        refine ok_bald (q := 254) dX12_helloFault_253 k86 c87 rfl ?_
        refine ok_icmp_ne (q := 257) (t := 261) dX12_helloFault_254 rfl rfl ?_ ?_
        · refine ok_iconst (q := 262) (v := 0) dX12_helloFault_261 ci_0 rfl ?_
          refine mm_wk [true, true, false, true, true, true, false, true] (ls' := [.ref a0, .int x1, mm_U, .int x3, .int x4, .int x5, mm_U, .int x7]) rfl ?_
          exact oj_X12_helloFault_262 ih hke_270 a0 x1 x3 x4 x5 x7 0 h k_a0
        · refine ok_iconst (q := 258) (v := 1) dX12_helloFault_257 ci_1 rfl ?_
          refine ok_goto (q := 262) dX12_helloFault_258 rfl ?_
          refine mm_wk [true, true, false, true, true, true, false, true] (ls' := [.ref a0, .int x1, mm_U, .int x3, .int x4, .int x5, mm_U, .int x7]) rfl ?_
          exact oj_X12_helloFault_262 ih hke_270 a0 x1 x3 x4 x5 x7 1 h k_a0
def lp_X12_helloFault_295  : Nat → Nat → Int32 → mm_H → mm_O
  | 0, _, _, _ => none
  | n + 1, a0, x7, h => if (32 : Int32) ≤ x7 then
  (some (some (.int 0), h))
  else
  (mm_gr h a0 59 (fun b98 =>
  if mm_in x7 (mm_ln h b98) = true then (mm_gr h a0 60 (fun b101 =>
  if mm_in ((mm_i h a0 63) + x7) (mm_ln h b101) = true then (if (mm_i h b98 (mm_n x7)) = (mm_i h b101 (mm_n ((mm_i h a0 63) + x7))) then
  (lp_X12_helloFault_295 n a0 (x7 + 1) h)
  else
  (some (some (.int 51), h))) else none)) else none))
set_option maxHeartbeats 4000000 in
set_option maxRecDepth 100000 in
theorem ol_X12_helloFault_295 {G : mm_G}   : ∀ (n : Nat) (a0 : Nat) (x7 : Int32) (h : mm_H), mm_kd h a0 = 11 → mm_Ok G my_X12_helloFault 295 [.ref a0, mm_U, mm_U, mm_U, mm_U, mm_U, mm_U, .int x7] [] h (lp_X12_helloFault_295 n a0 x7 h) := by
  intro n
  induction n with
  | zero => intro a0 x7 h k_a0; exact mm_no
  | succ n ih =>
    intro a0 x7 h k_a0
    rw [lp_X12_helloFault_295]
    refine ok_iload (q := 297) dX12_helloFault_295 rfl rfl ?_
    refine ok_bipush (q := 299) (v := 32) dX12_helloFault_297 cb_32 rfl ?_
    refine ok_icmp_ge (q := 302) (t := 333) dX12_helloFault_299 rfl rfl ?_ ?_
    · refine ok_iconst (q := 334) (v := 0) dX12_helloFault_333 ci_0 rfl ?_
      exact ok_iret (t := .int) dX12_helloFault_334 rfl rfl
    · refine ok_aload_n (q := 303) dX12_helloFault_302 rfl rfl ?_
      refine ok_getR cl_11 (q := 306) (k := 59) dX12_helloFault_303 (Nat.le_of_ble_eq_true rfl) wd_1091 (fun _ _ _ => rfl) kt_11_59 k_a0 rfl (fun b98 k99 => ?_)
      refine ok_iload (q := 308) dX12_helloFault_306 rfl rfl ?_
      refine mm_ck (fun c100 => ?_)
      refine ok_bald (q := 309) dX12_helloFault_308 k99 c100 rfl ?_
      refine ok_aload_n (q := 310) dX12_helloFault_309 rfl rfl ?_
      refine ok_getR cl_11 (q := 313) (k := 60) dX12_helloFault_310 (Nat.le_of_ble_eq_true rfl) wd_1092 (fun _ _ _ => rfl) kt_11_60 k_a0 rfl (fun b101 k102 => ?_)
      refine ok_aload_n (q := 314) dX12_helloFault_313 rfl rfl ?_
      refine ok_getI cl_11 (q := 317) (k := 63) dX12_helloFault_314 (Nat.le_of_ble_eq_true rfl) wd_1095 (fun _ _ _ => rfl) k_a0 rfl ?_
      refine ok_iload (q := 319) dX12_helloFault_317 rfl rfl ?_
      refine ok_iadd (q := 320) dX12_helloFault_319 rfl ?_
      refine mm_ck (fun c103 => ?_)
      refine ok_bald (q := 321) dX12_helloFault_320 k102 c103 rfl ?_
      refine ok_icmp_eq (q := 324) (t := 327) dX12_helloFault_321 rfl rfl ?_ ?_
      · refine ok_iinc (q := 330) (v := x7 + 1) (ls' := [.ref a0, mm_U, mm_U, mm_U, mm_U, mm_U, mm_U, .int (x7 + 1)]) dX12_helloFault_327 rfl (congrArg (x7 + ·) ci_1) (Nat.le_of_ble_eq_true rfl) rfl rfl ?_
        refine ok_goto (q := 295) dX12_helloFault_330 rfl ?_
        exact ih a0 (x7 + 1) h k_a0
      · refine ok_bipush (q := 326) (v := 51) dX12_helloFault_324 cb_51 rfl ?_
        exact ok_iret (t := .int) dX12_helloFault_326 rfl rfl
def jn_X12_helloFault_216 (a0 : Nat) (x1 : Int32) (x3 : Int32) (x4 : Int32) (x5 : Int32) (s0 : Int32) (h : mm_H) : mm_O := lp_X12_helloFault_221 (fun b89 v90 v91 v92 h88 => if v92 = 0 then
  (some (some (.int 115), h88))
  else
  (mm_gr h88 b89 60 (fun b93 =>
  mm_qv (bd_X12_bind b89 v90 b93 5 (v91 - (5 : Int32)) h88) (fun h95 =>
  lp_X12_helloFault_295  mm_fu b89 0 h95)))) mm_fu a0 x1 x3 x4 x5 s0 0 h
set_option maxHeartbeats 4000000 in
set_option maxRecDepth 100000 in
theorem oj_X12_helloFault_216 {G : mm_G}   (a0 : Nat) (x1 : Int32) (x3 : Int32) (x4 : Int32) (x5 : Int32) (s0 : Int32) (h : mm_H) (k_a0 : mm_kd h a0 = 11) : mm_Ok G my_X12_helloFault 216 [.ref a0, .int x1, mm_U, .int x3, .int x4, .int x5, mm_U, mm_U] [.int s0] h (jn_X12_helloFault_216 a0 x1 x3 x4 x5 s0 h) := by
  unfold jn_X12_helloFault_216
  refine ok_istore (q := 218) (ls' := [.ref a0, .int x1, mm_U, .int x3, .int x4, .int x5, .int s0, mm_U]) dX12_helloFault_216 (Nat.le_of_ble_eq_true rfl) rfl rfl ?_
  refine ok_iconst (q := 219) (v := 0) dX12_helloFault_218 ci_0 rfl ?_
  refine ok_istore (q := 221) (ls' := [.ref a0, .int x1, mm_U, .int x3, .int x4, .int x5, .int s0, .int 0]) dX12_helloFault_219 (Nat.le_of_ble_eq_true rfl) rfl rfl ?_
  refine ol_X12_helloFault_221 (fun b89 v90 v91 v92 h88 k_b89 => ?_) mm_fu a0 x1 x3 x4 x5 s0 0 h k_a0
  · refine ok_iload (q := 272) dX12_helloFault_270 rfl rfl ?_
    refine ok_if_ne (q := 275) (t := 278) dX12_helloFault_272 rfl rfl ?_ ?_
    · refine ok_aload_n (q := 279) dX12_helloFault_278 rfl rfl ?_
      refine ok_iload_n (q := 280) dX12_helloFault_279 rfl rfl ?_
      refine ok_aload_n (q := 281) dX12_helloFault_280 rfl rfl ?_
      refine ok_getR cl_11 (q := 284) (k := 60) dX12_helloFault_281 (Nat.le_of_ble_eq_true rfl) wd_1092 (fun _ _ _ => rfl) kt_11_60 k_b89 rfl (fun b93 k94 => ?_)
      refine ok_iconst (q := 285) (v := 5) dX12_helloFault_284 ci_5 rfl ?_
      refine ok_iload (q := 287) dX12_helloFault_285 rfl rfl ?_
      refine ok_iconst (q := 288) (v := 5) dX12_helloFault_287 ci_5 rfl ?_
      refine ok_isub (q := 289) dX12_helloFault_288 rfl ?_
      refine mm_cv (q := 292) (mt_X12_bind G b89 v90 b93 5 (v91 - (5 : Int32)) h88 k_b89 k94) (mm_runV (as := [.int v90, .ref b93, .int 5, .int (v91 - (5 : Int32))]) (st := []) cl_11 lk_X12_helloFault_X12_bind_410 rfl dX12_helloFault_289 rfl (Nat.le_of_ble_eq_true rfl) k_b89) rfl (fun h95 p96 => ?_)
      have k97 : mm_kd h95 b89 = 11 := mm_kd_app p96 k_b89 (by decide)
      refine ok_iconst (q := 293) (v := 0) dX12_helloFault_292 ci_0 rfl ?_
      refine ok_istore (q := 295) (ls' := [.ref b89, .int v90, mm_U, mm_U, mm_U, .int v91, .int v92, .int 0]) dX12_helloFault_293 (Nat.le_of_ble_eq_true rfl) rfl rfl ?_
      refine mm_wk [true, false, false, false, false, false, false, true] (ls' := [.ref b89, mm_U, mm_U, mm_U, mm_U, mm_U, mm_U, .int 0]) rfl ?_
      refine ol_X12_helloFault_295  mm_fu b89 0 h95 k97
    · refine ok_bipush (q := 277) (v := 115) dX12_helloFault_275 cb_115 rfl ?_
      exact ok_iret (t := .int) dX12_helloFault_277 rfl rfl
def bd_X12_helloFault (a0 : Nat) (x1 : Int32) (x2 : Int32) (h : mm_H) : mm_O := mm_bi (x2 - (103 : Int32)) (fun v1 =>
  mm_qi (bd_X12_isIn v1 1 16 h) (fun v4 h2 =>
  if v4 = 0 then
  (some (some (.int 47), h2))
  else
  (mm_bh (mm_si h2 a0 63 9) (fun h6 =>
  mm_bh (mm_si h6 a0 64 1) (fun h8 =>
  mm_qv (bd_X12_mustBe a0 771 h8) (fun h10 =>
  mm_bh (mm_si h10 a0 63 ((mm_i h10 a0 63) + (32 : Int32))) (fun h13 =>
  mm_qv (bd_X12_mustByte a0 0 h13) (fun h15 =>
  mm_qv (bd_X12_mustBe a0 2 h15) (fun h18 =>
  mm_qv (bd_X12_mustBe a0 4867 h18) (fun h21 =>
  mm_qv (bd_X12_mustBe a0 256 h21) (fun h24 =>
  mm_qv (bd_X12_mustBe a0 ((60 : Int32) + v1) h24) (fun h27 =>
  mm_qv (bd_X12_mustBe a0 43 h27) (fun h30 =>
  mm_qv (bd_X12_mustBe a0 3 h30) (fun h33 =>
  mm_qv (bd_X12_mustByte a0 2 h33) (fun h36 =>
  mm_qv (bd_X12_mustBe a0 772 h36) (fun h39 =>
  mm_qv (bd_X12_mustBe a0 45 h39) (fun h42 =>
  mm_qv (bd_X12_mustBe a0 2 h42) (fun h45 =>
  mm_qv (bd_X12_mustBe a0 256 h45) (fun h48 =>
  mm_qv (bd_X12_mustBe a0 41 h48) (fun h51 =>
  mm_qv (bd_X12_mustBe a0 (v1 + (43 : Int32)) h51) (fun h54 =>
  mm_qv (bd_X12_mustBe a0 (v1 + (6 : Int32)) h54) (fun h57 =>
  mm_qv (bd_X12_mustBe a0 v1 h57) (fun h60 =>
  mm_bi (mm_i h60 a0 63) (fun v63 =>
  mm_bh (mm_si h60 a0 63 ((mm_i h60 a0 63) + v1)) (fun h64 =>
  mm_qv (bd_X12_mustBe a0 0 h64) (fun h66 =>
  mm_qv (bd_X12_mustBe a0 0 h66) (fun h69 =>
  mm_bi (mm_i h69 a0 63) (fun v72 =>
  mm_qv (bd_X12_mustBe a0 33 h69) (fun h73 =>
  mm_qv (bd_X12_mustByte a0 32 h73) (fun h76 =>
  if (mm_i h76 a0 64) = 0 then
  (some (some (.int 47), h76))
  else
  (mm_gr h76 a0 8 (fun b79 =>
  if mm_in x1 (mm_ln h76 b79) = true then (if v1 = (mm_i h76 b79 (mm_n x1)) then
  (jn_X12_helloFault_216 a0 x1 v1 v63 v72 1 h76)
  else
  (jn_X12_helloFault_216 a0 x1 v1 v63 v72 0 h76)) else none))))))))))))))))))))))))))))))))
set_option maxHeartbeats 4000000 in
set_option maxRecDepth 100000 in
theorem mt_X12_helloFault (G : mm_G) (a0 : Nat) (x1 : Int32) (x2 : Int32) (h : mm_H) (k_a0 : mm_kd h a0 = 11) : mm_Met G my_X12_helloFault [.ref a0, .int x1, .int x2] h (bd_X12_helloFault a0 x1 x2 h) := by
  refine mm_met (ls := [.ref a0, .int x1, .int x2, mm_U, mm_U, mm_U, mm_U, mm_U]) pn_RX12 (Nat.le_of_ble_eq_true rfl) rfl ?_
  unfold bd_X12_helloFault
  refine ok_iload_n (q := 1) dX12_helloFault_0 rfl rfl ?_
  refine ok_bipush (q := 3) (v := 103) dX12_helloFault_1 cb_103 rfl ?_
  refine ok_isub (q := 4) dX12_helloFault_3 rfl ?_
  refine bi_ok (fun v1 => ?_)
  refine ok_istore_n (q := 5) (ls' := [.ref a0, .int x1, .int x2, .int v1, mm_U, mm_U, mm_U, mm_U]) dX12_helloFault_4 (Nat.le_of_ble_eq_true rfl) rfl rfl ?_
  refine ok_iload_n (q := 6) dX12_helloFault_5 rfl rfl ?_
  refine ok_iconst (q := 7) (v := 1) dX12_helloFault_6 ci_1 rfl ?_
  refine ok_bipush (q := 9) (v := 16) dX12_helloFault_7 cb_16 rfl ?_
  refine mm_ci (q := 12) (mt_X12_isIn G v1 1 16 h ) (mm_runS (as := [.int v1, .int 1, .int 16]) (st := []) lk_X12_helloFault_X12_isIn_260 dX12_helloFault_9 rfl (Nat.le_of_ble_eq_true rfl)) rfl (fun v4 h2 p3 => ?_)
  have k5 : mm_kd h2 a0 = 11 := mm_kd_app p3 k_a0 (by decide)
  refine ok_if_ne (q := 15) (t := 18) dX12_helloFault_12 rfl rfl ?_ ?_
  · refine ok_aload_n (q := 19) dX12_helloFault_18 rfl rfl ?_
    refine ok_bipush (q := 21) (v := 9) dX12_helloFault_19 cb_9 rfl ?_
    refine ok_putI cl_11 (q := 24) (k := 63) dX12_helloFault_21 (Nat.le_of_ble_eq_true rfl) wd_1095 (Or.inl rfl) (fun _ _ _ => rfl) rfl rfl k5 rfl (bh_ok (fun h6 e7 => ?_))
    have e7 : h6.1 = h2.1 := e7
    refine ok_aload_n (q := 25) dX12_helloFault_24 rfl rfl ?_
    refine ok_iconst (q := 26) (v := 1) dX12_helloFault_25 ci_1 rfl ?_
    refine ok_putI cl_11 (q := 29) (k := 64) dX12_helloFault_26 (Nat.le_of_ble_eq_true rfl) wd_1096 (Or.inl rfl) (fun _ _ _ => rfl) (by decide) (by decide) (mm_ke e7 k5) rfl (bh_ok (fun h8 e9 => ?_))
    have e9 : h8.1 = h2.1 := e9.trans e7
    refine ok_aload_n (q := 30) dX12_helloFault_29 rfl rfl ?_
    refine ok_sipush (q := 33) (v := 771) dX12_helloFault_30 cs_771 rfl ?_
    refine mm_cv (q := 36) (mt_X12_mustBe G a0 771 h8 (mm_ke e9 k5)) (mm_runV (as := [.int 771]) (st := []) cl_11 lk_X12_helloFault_X12_mustBe_481 rfl dX12_helloFault_33 rfl (Nat.le_of_ble_eq_true rfl) (mm_ke e9 k5)) rfl (fun h10 p11 => ?_)
    have k12 : mm_kd h10 a0 = 11 := mm_kd_app p11 (mm_ke e9 k5) (by decide)
    refine ok_aload_n (q := 37) dX12_helloFault_36 rfl rfl ?_
    refine ok_dup (q := 38) dX12_helloFault_37 rfl rfl ?_
    refine ok_getI cl_11 (q := 41) (k := 63) dX12_helloFault_38 (Nat.le_of_ble_eq_true rfl) wd_1095 (fun _ _ _ => rfl) k12 rfl ?_
    refine ok_bipush (q := 43) (v := 32) dX12_helloFault_41 cb_32 rfl ?_
    refine ok_iadd (q := 44) dX12_helloFault_43 rfl ?_
    refine ok_putI cl_11 (q := 47) (k := 63) dX12_helloFault_44 (Nat.le_of_ble_eq_true rfl) wd_1095 (Or.inl rfl) (fun _ _ _ => rfl) rfl rfl k12 rfl (bh_ok (fun h13 e14 => ?_))
    have e14 : h13.1 = h10.1 := e14
    refine ok_aload_n (q := 48) dX12_helloFault_47 rfl rfl ?_
    refine ok_iconst (q := 49) (v := 0) dX12_helloFault_48 ci_0 rfl ?_
    refine mm_cv (q := 52) (mt_X12_mustByte G a0 0 h13 (mm_ke e14 k12)) (mm_runV (as := [.int 0]) (st := []) cl_11 lk_X12_helloFault_X12_mustByte_484 rfl dX12_helloFault_49 rfl (Nat.le_of_ble_eq_true rfl) (mm_ke e14 k12)) rfl (fun h15 p16 => ?_)
    have k17 : mm_kd h15 a0 = 11 := mm_kd_app p16 (mm_ke e14 k12) (by decide)
    refine ok_aload_n (q := 53) dX12_helloFault_52 rfl rfl ?_
    refine ok_iconst (q := 54) (v := 2) dX12_helloFault_53 ci_2 rfl ?_
    refine mm_cv (q := 57) (mt_X12_mustBe G a0 2 h15 k17) (mm_runV (as := [.int 2]) (st := []) cl_11 lk_X12_helloFault_X12_mustBe_481 rfl dX12_helloFault_54 rfl (Nat.le_of_ble_eq_true rfl) k17) rfl (fun h18 p19 => ?_)
    have k20 : mm_kd h18 a0 = 11 := mm_kd_app p19 k17 (by decide)
    refine ok_aload_n (q := 58) dX12_helloFault_57 rfl rfl ?_
    refine ok_sipush (q := 61) (v := 4867) dX12_helloFault_58 cs_4867 rfl ?_
    refine mm_cv (q := 64) (mt_X12_mustBe G a0 4867 h18 k20) (mm_runV (as := [.int 4867]) (st := []) cl_11 lk_X12_helloFault_X12_mustBe_481 rfl dX12_helloFault_61 rfl (Nat.le_of_ble_eq_true rfl) k20) rfl (fun h21 p22 => ?_)
    have k23 : mm_kd h21 a0 = 11 := mm_kd_app p22 k20 (by decide)
    refine ok_aload_n (q := 65) dX12_helloFault_64 rfl rfl ?_
    refine ok_sipush (q := 68) (v := 256) dX12_helloFault_65 cs_256 rfl ?_
    refine mm_cv (q := 71) (mt_X12_mustBe G a0 256 h21 k23) (mm_runV (as := [.int 256]) (st := []) cl_11 lk_X12_helloFault_X12_mustBe_481 rfl dX12_helloFault_68 rfl (Nat.le_of_ble_eq_true rfl) k23) rfl (fun h24 p25 => ?_)
    have k26 : mm_kd h24 a0 = 11 := mm_kd_app p25 k23 (by decide)
    refine ok_aload_n (q := 72) dX12_helloFault_71 rfl rfl ?_
    refine ok_bipush (q := 74) (v := 60) dX12_helloFault_72 cb_60 rfl ?_
    refine ok_iload_n (q := 75) dX12_helloFault_74 rfl rfl ?_
    refine ok_iadd (q := 76) dX12_helloFault_75 rfl ?_
    refine mm_cv (q := 79) (mt_X12_mustBe G a0 ((60 : Int32) + v1) h24 k26) (mm_runV (as := [.int ((60 : Int32) + v1)]) (st := []) cl_11 lk_X12_helloFault_X12_mustBe_481 rfl dX12_helloFault_76 rfl (Nat.le_of_ble_eq_true rfl) k26) rfl (fun h27 p28 => ?_)
    have k29 : mm_kd h27 a0 = 11 := mm_kd_app p28 k26 (by decide)
    refine ok_aload_n (q := 80) dX12_helloFault_79 rfl rfl ?_
    refine ok_bipush (q := 82) (v := 43) dX12_helloFault_80 cb_43 rfl ?_
    refine mm_cv (q := 85) (mt_X12_mustBe G a0 43 h27 k29) (mm_runV (as := [.int 43]) (st := []) cl_11 lk_X12_helloFault_X12_mustBe_481 rfl dX12_helloFault_82 rfl (Nat.le_of_ble_eq_true rfl) k29) rfl (fun h30 p31 => ?_)
    have k32 : mm_kd h30 a0 = 11 := mm_kd_app p31 k29 (by decide)
    refine ok_aload_n (q := 86) dX12_helloFault_85 rfl rfl ?_
    refine ok_iconst (q := 87) (v := 3) dX12_helloFault_86 ci_3 rfl ?_
    refine mm_cv (q := 90) (mt_X12_mustBe G a0 3 h30 k32) (mm_runV (as := [.int 3]) (st := []) cl_11 lk_X12_helloFault_X12_mustBe_481 rfl dX12_helloFault_87 rfl (Nat.le_of_ble_eq_true rfl) k32) rfl (fun h33 p34 => ?_)
    have k35 : mm_kd h33 a0 = 11 := mm_kd_app p34 k32 (by decide)
    refine ok_aload_n (q := 91) dX12_helloFault_90 rfl rfl ?_
    refine ok_iconst (q := 92) (v := 2) dX12_helloFault_91 ci_2 rfl ?_
    refine mm_cv (q := 95) (mt_X12_mustByte G a0 2 h33 k35) (mm_runV (as := [.int 2]) (st := []) cl_11 lk_X12_helloFault_X12_mustByte_484 rfl dX12_helloFault_92 rfl (Nat.le_of_ble_eq_true rfl) k35) rfl (fun h36 p37 => ?_)
    have k38 : mm_kd h36 a0 = 11 := mm_kd_app p37 k35 (by decide)
    refine ok_aload_n (q := 96) dX12_helloFault_95 rfl rfl ?_
    refine ok_sipush (q := 99) (v := 772) dX12_helloFault_96 cs_772 rfl ?_
    refine mm_cv (q := 102) (mt_X12_mustBe G a0 772 h36 k38) (mm_runV (as := [.int 772]) (st := []) cl_11 lk_X12_helloFault_X12_mustBe_481 rfl dX12_helloFault_99 rfl (Nat.le_of_ble_eq_true rfl) k38) rfl (fun h39 p40 => ?_)
    have k41 : mm_kd h39 a0 = 11 := mm_kd_app p40 k38 (by decide)
    refine ok_aload_n (q := 103) dX12_helloFault_102 rfl rfl ?_
    refine ok_bipush (q := 105) (v := 45) dX12_helloFault_103 cb_45 rfl ?_
    refine mm_cv (q := 108) (mt_X12_mustBe G a0 45 h39 k41) (mm_runV (as := [.int 45]) (st := []) cl_11 lk_X12_helloFault_X12_mustBe_481 rfl dX12_helloFault_105 rfl (Nat.le_of_ble_eq_true rfl) k41) rfl (fun h42 p43 => ?_)
    have k44 : mm_kd h42 a0 = 11 := mm_kd_app p43 k41 (by decide)
    refine ok_aload_n (q := 109) dX12_helloFault_108 rfl rfl ?_
    refine ok_iconst (q := 110) (v := 2) dX12_helloFault_109 ci_2 rfl ?_
    refine mm_cv (q := 113) (mt_X12_mustBe G a0 2 h42 k44) (mm_runV (as := [.int 2]) (st := []) cl_11 lk_X12_helloFault_X12_mustBe_481 rfl dX12_helloFault_110 rfl (Nat.le_of_ble_eq_true rfl) k44) rfl (fun h45 p46 => ?_)
    have k47 : mm_kd h45 a0 = 11 := mm_kd_app p46 k44 (by decide)
    refine ok_aload_n (q := 114) dX12_helloFault_113 rfl rfl ?_
    refine ok_sipush (q := 117) (v := 256) dX12_helloFault_114 cs_256 rfl ?_
    refine mm_cv (q := 120) (mt_X12_mustBe G a0 256 h45 k47) (mm_runV (as := [.int 256]) (st := []) cl_11 lk_X12_helloFault_X12_mustBe_481 rfl dX12_helloFault_117 rfl (Nat.le_of_ble_eq_true rfl) k47) rfl (fun h48 p49 => ?_)
    have k50 : mm_kd h48 a0 = 11 := mm_kd_app p49 k47 (by decide)
    refine ok_aload_n (q := 121) dX12_helloFault_120 rfl rfl ?_
    refine ok_bipush (q := 123) (v := 41) dX12_helloFault_121 cb_41 rfl ?_
    refine mm_cv (q := 126) (mt_X12_mustBe G a0 41 h48 k50) (mm_runV (as := [.int 41]) (st := []) cl_11 lk_X12_helloFault_X12_mustBe_481 rfl dX12_helloFault_123 rfl (Nat.le_of_ble_eq_true rfl) k50) rfl (fun h51 p52 => ?_)
    have k53 : mm_kd h51 a0 = 11 := mm_kd_app p52 k50 (by decide)
    refine ok_aload_n (q := 127) dX12_helloFault_126 rfl rfl ?_
    refine ok_iload_n (q := 128) dX12_helloFault_127 rfl rfl ?_
    refine ok_bipush (q := 130) (v := 43) dX12_helloFault_128 cb_43 rfl ?_
    refine ok_iadd (q := 131) dX12_helloFault_130 rfl ?_
    refine mm_cv (q := 134) (mt_X12_mustBe G a0 (v1 + (43 : Int32)) h51 k53) (mm_runV (as := [.int (v1 + (43 : Int32))]) (st := []) cl_11 lk_X12_helloFault_X12_mustBe_481 rfl dX12_helloFault_131 rfl (Nat.le_of_ble_eq_true rfl) k53) rfl (fun h54 p55 => ?_)
    have k56 : mm_kd h54 a0 = 11 := mm_kd_app p55 k53 (by decide)
    refine ok_aload_n (q := 135) dX12_helloFault_134 rfl rfl ?_
    refine ok_iload_n (q := 136) dX12_helloFault_135 rfl rfl ?_
    refine ok_bipush (q := 138) (v := 6) dX12_helloFault_136 cb_6 rfl ?_
    refine ok_iadd (q := 139) dX12_helloFault_138 rfl ?_
    refine mm_cv (q := 142) (mt_X12_mustBe G a0 (v1 + (6 : Int32)) h54 k56) (mm_runV (as := [.int (v1 + (6 : Int32))]) (st := []) cl_11 lk_X12_helloFault_X12_mustBe_481 rfl dX12_helloFault_139 rfl (Nat.le_of_ble_eq_true rfl) k56) rfl (fun h57 p58 => ?_)
    have k59 : mm_kd h57 a0 = 11 := mm_kd_app p58 k56 (by decide)
    refine ok_aload_n (q := 143) dX12_helloFault_142 rfl rfl ?_
    refine ok_iload_n (q := 144) dX12_helloFault_143 rfl rfl ?_
    refine mm_cv (q := 147) (mt_X12_mustBe G a0 v1 h57 k59) (mm_runV (as := [.int v1]) (st := []) cl_11 lk_X12_helloFault_X12_mustBe_481 rfl dX12_helloFault_144 rfl (Nat.le_of_ble_eq_true rfl) k59) rfl (fun h60 p61 => ?_)
    have k62 : mm_kd h60 a0 = 11 := mm_kd_app p61 k59 (by decide)
    refine ok_aload_n (q := 148) dX12_helloFault_147 rfl rfl ?_
    refine ok_getI cl_11 (q := 151) (k := 63) dX12_helloFault_148 (Nat.le_of_ble_eq_true rfl) wd_1095 (fun _ _ _ => rfl) k62 rfl ?_
    refine bi_ok (fun v63 => ?_)
    refine ok_istore (q := 153) (ls' := [.ref a0, .int x1, .int x2, .int v1, .int v63, mm_U, mm_U, mm_U]) dX12_helloFault_151 (Nat.le_of_ble_eq_true rfl) rfl rfl ?_
    refine ok_aload_n (q := 154) dX12_helloFault_153 rfl rfl ?_
    refine ok_dup (q := 155) dX12_helloFault_154 rfl rfl ?_
    refine ok_getI cl_11 (q := 158) (k := 63) dX12_helloFault_155 (Nat.le_of_ble_eq_true rfl) wd_1095 (fun _ _ _ => rfl) k62 rfl ?_
    refine ok_iload_n (q := 159) dX12_helloFault_158 rfl rfl ?_
    refine ok_iadd (q := 160) dX12_helloFault_159 rfl ?_
    refine ok_putI cl_11 (q := 163) (k := 63) dX12_helloFault_160 (Nat.le_of_ble_eq_true rfl) wd_1095 (Or.inl rfl) (fun _ _ _ => rfl) rfl rfl k62 rfl (bh_ok (fun h64 e65 => ?_))
    have e65 : h64.1 = h60.1 := e65
    refine ok_aload_n (q := 164) dX12_helloFault_163 rfl rfl ?_
    refine ok_iconst (q := 165) (v := 0) dX12_helloFault_164 ci_0 rfl ?_
    refine mm_cv (q := 168) (mt_X12_mustBe G a0 0 h64 (mm_ke e65 k62)) (mm_runV (as := [.int 0]) (st := []) cl_11 lk_X12_helloFault_X12_mustBe_481 rfl dX12_helloFault_165 rfl (Nat.le_of_ble_eq_true rfl) (mm_ke e65 k62)) rfl (fun h66 p67 => ?_)
    have k68 : mm_kd h66 a0 = 11 := mm_kd_app p67 (mm_ke e65 k62) (by decide)
    refine ok_aload_n (q := 169) dX12_helloFault_168 rfl rfl ?_
    refine ok_iconst (q := 170) (v := 0) dX12_helloFault_169 ci_0 rfl ?_
    refine mm_cv (q := 173) (mt_X12_mustBe G a0 0 h66 k68) (mm_runV (as := [.int 0]) (st := []) cl_11 lk_X12_helloFault_X12_mustBe_481 rfl dX12_helloFault_170 rfl (Nat.le_of_ble_eq_true rfl) k68) rfl (fun h69 p70 => ?_)
    have k71 : mm_kd h69 a0 = 11 := mm_kd_app p70 k68 (by decide)
    refine ok_aload_n (q := 174) dX12_helloFault_173 rfl rfl ?_
    refine ok_getI cl_11 (q := 177) (k := 63) dX12_helloFault_174 (Nat.le_of_ble_eq_true rfl) wd_1095 (fun _ _ _ => rfl) k71 rfl ?_
    refine bi_ok (fun v72 => ?_)
    refine ok_istore (q := 179) (ls' := [.ref a0, .int x1, .int x2, .int v1, .int v63, .int v72, mm_U, mm_U]) dX12_helloFault_177 (Nat.le_of_ble_eq_true rfl) rfl rfl ?_
    refine ok_aload_n (q := 180) dX12_helloFault_179 rfl rfl ?_
    refine ok_bipush (q := 182) (v := 33) dX12_helloFault_180 cb_33 rfl ?_
    refine mm_cv (q := 185) (mt_X12_mustBe G a0 33 h69 k71) (mm_runV (as := [.int 33]) (st := []) cl_11 lk_X12_helloFault_X12_mustBe_481 rfl dX12_helloFault_182 rfl (Nat.le_of_ble_eq_true rfl) k71) rfl (fun h73 p74 => ?_)
    have k75 : mm_kd h73 a0 = 11 := mm_kd_app p74 k71 (by decide)
    refine ok_aload_n (q := 186) dX12_helloFault_185 rfl rfl ?_
    refine ok_bipush (q := 188) (v := 32) dX12_helloFault_186 cb_32 rfl ?_
    refine mm_cv (q := 191) (mt_X12_mustByte G a0 32 h73 k75) (mm_runV (as := [.int 32]) (st := []) cl_11 lk_X12_helloFault_X12_mustByte_484 rfl dX12_helloFault_188 rfl (Nat.le_of_ble_eq_true rfl) k75) rfl (fun h76 p77 => ?_)
    have k78 : mm_kd h76 a0 = 11 := mm_kd_app p77 k75 (by decide)
    refine ok_aload_n (q := 192) dX12_helloFault_191 rfl rfl ?_
    refine ok_getI cl_11 (q := 195) (k := 64) dX12_helloFault_192 (Nat.le_of_ble_eq_true rfl) wd_1096 (fun _ _ _ => rfl) k78 rfl ?_
    refine ok_if_ne (q := 198) (t := 201) dX12_helloFault_195 rfl rfl ?_ ?_
    · refine ok_iload_n (q := 202) dX12_helloFault_201 rfl rfl ?_
      refine ok_aload_n (q := 203) dX12_helloFault_202 rfl rfl ?_
      refine ok_getR cl_11 (q := 206) (k := 8) dX12_helloFault_203 (Nat.le_of_ble_eq_true rfl) wd_1040 (fun _ _ _ => rfl) kt_11_8 k78 rfl (fun b79 k80 => ?_)
      refine ok_iload_n (q := 207) dX12_helloFault_206 rfl rfl ?_
      refine mm_ck (fun c81 => ?_)
      refine ok_iald (q := 208) dX12_helloFault_207 k80 c81 rfl ?_
      refine ok_icmp_ne (q := 211) (t := 215) dX12_helloFault_208 rfl rfl ?_ ?_
      · refine ok_iconst (q := 216) (v := 0) dX12_helloFault_215 ci_0 rfl ?_
        refine mm_wk [true, true, false, true, true, true, false, false] (ls' := [.ref a0, .int x1, mm_U, .int v1, .int v63, .int v72, mm_U, mm_U]) rfl ?_
        exact oj_X12_helloFault_216 a0 x1 v1 v63 v72 0 h76 k78
      · refine ok_iconst (q := 212) (v := 1) dX12_helloFault_211 ci_1 rfl ?_
        refine ok_goto (q := 216) dX12_helloFault_212 rfl ?_
        refine mm_wk [true, true, false, true, true, true, false, false] (ls' := [.ref a0, .int x1, mm_U, .int v1, .int v63, .int v72, mm_U, mm_U]) rfl ?_
        exact oj_X12_helloFault_216 a0 x1 v1 v63 v72 1 h76 k78
    · refine ok_bipush (q := 200) (v := 47) dX12_helloFault_198 cb_47 rfl ?_
      exact ok_iret (t := .int) dX12_helloFault_200 rfl rfl
  · refine ok_bipush (q := 17) (v := 47) dX12_helloFault_15 cb_47 rfl ?_
    exact ok_iret (t := .int) dX12_helloFault_17 rfl rfl
