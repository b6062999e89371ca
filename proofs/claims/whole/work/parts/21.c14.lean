def bd_X12_quarter (a0 : Nat) (x1 : Int32) (x2 : Int32) (x3 : Int32) (x4 : Int32) (h : mm_H) : mm_O := mm_gr h a0 46 (fun b1 =>
  if mm_in x1 (mm_ln h b1) = true then (mm_gr h a0 46 (fun b4 =>
  if mm_in x2 (mm_ln h b4) = true then (if 32 ≤ b1 ∧ mm_in x1 (mm_ln h b1) = true then (mm_bh (mm_si h b1 (mm_n x1) ((mm_i h b1 (mm_n x1)) + (mm_i h b4 (mm_n x2)))) (fun h8 =>
  mm_gr h8 a0 46 (fun b10 =>
  mm_gr h8 a0 46 (fun b12 =>
  if mm_in x4 (mm_ln h8 b12) = true then (mm_gr h8 a0 46 (fun b15 =>
  if mm_in x1 (mm_ln h8 b15) = true then (mm_qi (bd_X12_turn ((mm_i h8 b12 (mm_n x4)) ^^^ (mm_i h8 b15 (mm_n x1))) 16 h8) (fun v20 h18 =>
  if 32 ≤ b10 ∧ mm_in x4 (mm_ln h18 b10) = true then (mm_bh (mm_si h18 b10 (mm_n x4) v20) (fun h24 =>
  mm_gr h24 a0 46 (fun b26 =>
  if mm_in x3 (mm_ln h24 b26) = true then (mm_gr h24 a0 46 (fun b29 =>
  if mm_in x4 (mm_ln h24 b29) = true then (if 32 ≤ b26 ∧ mm_in x3 (mm_ln h24 b26) = true then (mm_bh (mm_si h24 b26 (mm_n x3) ((mm_i h24 b26 (mm_n x3)) + (mm_i h24 b29 (mm_n x4)))) (fun h33 =>
  mm_gr h33 a0 46 (fun b35 =>
  mm_gr h33 a0 46 (fun b37 =>
  if mm_in x2 (mm_ln h33 b37) = true then (mm_gr h33 a0 46 (fun b40 =>
  if mm_in x3 (mm_ln h33 b40) = true then (mm_qi (bd_X12_turn ((mm_i h33 b37 (mm_n x2)) ^^^ (mm_i h33 b40 (mm_n x3))) 20 h33) (fun v45 h43 =>
  if 32 ≤ b35 ∧ mm_in x2 (mm_ln h43 b35) = true then (mm_bh (mm_si h43 b35 (mm_n x2) v45) (fun h49 =>
  mm_gr h49 a0 46 (fun b51 =>
  if mm_in x1 (mm_ln h49 b51) = true then (mm_gr h49 a0 46 (fun b54 =>
  if mm_in x2 (mm_ln h49 b54) = true then (if 32 ≤ b51 ∧ mm_in x1 (mm_ln h49 b51) = true then (mm_bh (mm_si h49 b51 (mm_n x1) ((mm_i h49 b51 (mm_n x1)) + (mm_i h49 b54 (mm_n x2)))) (fun h58 =>
  mm_gr h58 a0 46 (fun b60 =>
  mm_gr h58 a0 46 (fun b62 =>
  if mm_in x4 (mm_ln h58 b62) = true then (mm_gr h58 a0 46 (fun b65 =>
  if mm_in x1 (mm_ln h58 b65) = true then (mm_qi (bd_X12_turn ((mm_i h58 b62 (mm_n x4)) ^^^ (mm_i h58 b65 (mm_n x1))) 24 h58) (fun v70 h68 =>
  if 32 ≤ b60 ∧ mm_in x4 (mm_ln h68 b60) = true then (mm_bh (mm_si h68 b60 (mm_n x4) v70) (fun h74 =>
  mm_gr h74 a0 46 (fun b76 =>
  if mm_in x3 (mm_ln h74 b76) = true then (mm_gr h74 a0 46 (fun b79 =>
  if mm_in x4 (mm_ln h74 b79) = true then (if 32 ≤ b76 ∧ mm_in x3 (mm_ln h74 b76) = true then (mm_bh (mm_si h74 b76 (mm_n x3) ((mm_i h74 b76 (mm_n x3)) + (mm_i h74 b79 (mm_n x4)))) (fun h83 =>
  mm_gr h83 a0 46 (fun b85 =>
  mm_gr h83 a0 46 (fun b87 =>
  if mm_in x2 (mm_ln h83 b87) = true then (mm_gr h83 a0 46 (fun b90 =>
  if mm_in x3 (mm_ln h83 b90) = true then (mm_qi (bd_X12_turn ((mm_i h83 b87 (mm_n x2)) ^^^ (mm_i h83 b90 (mm_n x3))) 25 h83) (fun v95 h93 =>
  if 32 ≤ b85 ∧ mm_in x2 (mm_ln h93 b85) = true then (mm_bh (mm_si h93 b85 (mm_n x2) v95) (fun h99 =>
  some (none, h99))) else none)) else none)) else none)))) else none) else none)) else none))) else none)) else none)) else none)))) else none) else none)) else none))) else none)) else none)) else none)))) else none) else none)) else none))) else none)) else none)) else none)))) else none) else none)) else none)
set_option maxHeartbeats 4000000 in
set_option maxRecDepth 100000 in
theorem mt_X12_quarter (G : mm_G) (a0 : Nat) (x1 : Int32) (x2 : Int32) (x3 : Int32) (x4 : Int32) (h : mm_H) (k_a0 : mm_kd h a0 = 11) : mm_Met G my_X12_quarter [.ref a0, .int x1, .int x2, .int x3, .int x4] h (bd_X12_quarter a0 x1 x2 x3 x4 h) := by
  refine mm_met (ls := [.ref a0, .int x1, .int x2, .int x3, .int x4]) pn_RX12 (Nat.le_of_ble_eq_true rfl) rfl ?_
  unfold bd_X12_quarter
  refine ok_aload_n (q := 1) dX12_quarter_0 rfl rfl ?_
  refine ok_getR cl_11 (q := 4) (k := 46) dX12_quarter_1 (Nat.le_of_ble_eq_true rfl) wd_1078 (fun _ _ _ => rfl) kt_11_46 k_a0 rfl (fun b1 k2 => ?_)
  refine ok_iload_n (q := 5) dX12_quarter_4 rfl rfl ?_
  refine ok_dup2 (q := 6) dX12_quarter_5 rfl rfl rfl ?_
  refine mm_ck (fun c3 => ?_)
  refine ok_iald (q := 7) dX12_quarter_6 k2 c3 rfl ?_
  refine ok_aload_n (q := 8) dX12_quarter_7 rfl rfl ?_
  refine ok_getR cl_11 (q := 11) (k := 46) dX12_quarter_8 (Nat.le_of_ble_eq_true rfl) wd_1078 (fun _ _ _ => rfl) kt_11_46 k_a0 rfl (fun b4 k5 => ?_)
  refine ok_iload_n (q := 12) dX12_quarter_11 rfl rfl ?_
  refine mm_ck (fun c6 => ?_)
  refine ok_iald (q := 13) dX12_quarter_12 k5 c6 rfl ?_
  refine ok_iadd (q := 14) dX12_quarter_13 rfl ?_
  refine mm_ck (fun c7 => ?_)
  refine ok_iast (q := 15) dX12_quarter_14 k2 c7.1 c7.2 rfl (bh_ok (fun h8 e9 => ?_))
  have e9 : h8.1 = h.1 := e9
  refine ok_aload_n (q := 16) dX12_quarter_15 rfl rfl ?_
  refine ok_getR cl_11 (q := 19) (k := 46) dX12_quarter_16 (Nat.le_of_ble_eq_true rfl) wd_1078 (fun _ _ _ => rfl) kt_11_46 (mm_ke e9 k_a0) rfl (fun b10 k11 => ?_)
  refine ok_iload (q := 21) dX12_quarter_19 rfl rfl ?_
  refine ok_aload_n (q := 22) dX12_quarter_21 rfl rfl ?_
  refine ok_getR cl_11 (q := 25) (k := 46) dX12_quarter_22 (Nat.le_of_ble_eq_true rfl) wd_1078 (fun _ _ _ => rfl) kt_11_46 (mm_ke e9 k_a0) rfl (fun b12 k13 => ?_)
  refine ok_iload (q := 27) dX12_quarter_25 rfl rfl ?_
  refine mm_ck (fun c14 => ?_)
  refine ok_iald (q := 28) dX12_quarter_27 (mm_ke e9 (mm_ke e9.symm k13)) c14 rfl ?_
  refine ok_aload_n (q := 29) dX12_quarter_28 rfl rfl ?_
  refine ok_getR cl_11 (q := 32) (k := 46) dX12_quarter_29 (Nat.le_of_ble_eq_true rfl) wd_1078 (fun _ _ _ => rfl) kt_11_46 (mm_ke e9 k_a0) rfl (fun b15 k16 => ?_)
  refine ok_iload_n (q := 33) dX12_quarter_32 rfl rfl ?_
  refine mm_ck (fun c17 => ?_)
  refine ok_iald (q := 34) dX12_quarter_33 (mm_ke e9 (mm_ke e9.symm k16)) c17 rfl ?_
  refine ok_ixor (q := 35) dX12_quarter_34 rfl ?_
  refine ok_bipush (q := 37) (v := 16) dX12_quarter_35 cb_16 rfl ?_
  refine mm_ci (q := 40) (mt_X12_turn G ((mm_i h8 b12 (mm_n x4)) ^^^ (mm_i h8 b15 (mm_n x1))) 16 h8 ) (mm_runS (as := [.int ((mm_i h8 b12 (mm_n x4)) ^^^ (mm_i h8 b15 (mm_n x1))), .int 16]) (st := [.int x4, .ref b10]) lk_X12_quarter_X12_turn_264 dX12_quarter_37 rfl (Nat.le_of_ble_eq_true rfl)) rfl (fun v20 h18 p19 => ?_)
  have k21 : mm_kd h18 a0 = 11 := mm_kd_app p19 (mm_ke e9 k_a0) (by decide)
  have k22 : mm_kd h18 b10 = 20 := mm_kd_app p19 (mm_ke e9 (mm_ke e9.symm k11)) (by decide)
  refine mm_ck (fun c23 => ?_)
  refine ok_iast (q := 41) dX12_quarter_40 k22 c23.1 c23.2 rfl (bh_ok (fun h24 e25 => ?_))
  have e25 : h24.1 = h18.1 := e25
  refine ok_aload_n (q := 42) dX12_quarter_41 rfl rfl ?_
  refine ok_getR cl_11 (q := 45) (k := 46) dX12_quarter_42 (Nat.le_of_ble_eq_true rfl) wd_1078 (fun _ _ _ => rfl) kt_11_46 (mm_ke e25 k21) rfl (fun b26 k27 => ?_)
  refine ok_iload_n (q := 46) dX12_quarter_45 rfl rfl ?_
  refine ok_dup2 (q := 47) dX12_quarter_46 rfl rfl rfl ?_
  refine mm_ck (fun c28 => ?_)
  refine ok_iald (q := 48) dX12_quarter_47 (mm_ke e25 (mm_ke e25.symm k27)) c28 rfl ?_
  refine ok_aload_n (q := 49) dX12_quarter_48 rfl rfl ?_
  refine ok_getR cl_11 (q := 52) (k := 46) dX12_quarter_49 (Nat.le_of_ble_eq_true rfl) wd_1078 (fun _ _ _ => rfl) kt_11_46 (mm_ke e25 k21) rfl (fun b29 k30 => ?_)
  refine ok_iload (q := 54) dX12_quarter_52 rfl rfl ?_
  refine mm_ck (fun c31 => ?_)
  refine ok_iald (q := 55) dX12_quarter_54 (mm_ke e25 (mm_ke e25.symm k30)) c31 rfl ?_
  refine ok_iadd (q := 56) dX12_quarter_55 rfl ?_
  refine mm_ck (fun c32 => ?_)
  refine ok_iast (q := 57) dX12_quarter_56 (mm_ke e25 (mm_ke e25.symm k27)) c32.1 c32.2 rfl (bh_ok (fun h33 e34 => ?_))
  have e34 : h33.1 = h18.1 := e34.trans e25
  refine ok_aload_n (q := 58) dX12_quarter_57 rfl rfl ?_
  refine ok_getR cl_11 (q := 61) (k := 46) dX12_quarter_58 (Nat.le_of_ble_eq_true rfl) wd_1078 (fun _ _ _ => rfl) kt_11_46 (mm_ke e34 k21) rfl (fun b35 k36 => ?_)
  refine ok_iload_n (q := 62) dX12_quarter_61 rfl rfl ?_
  refine ok_aload_n (q := 63) dX12_quarter_62 rfl rfl ?_
  refine ok_getR cl_11 (q := 66) (k := 46) dX12_quarter_63 (Nat.le_of_ble_eq_true rfl) wd_1078 (fun _ _ _ => rfl) kt_11_46 (mm_ke e34 k21) rfl (fun b37 k38 => ?_)
  refine ok_iload_n (q := 67) dX12_quarter_66 rfl rfl ?_
  refine mm_ck (fun c39 => ?_)
  refine ok_iald (q := 68) dX12_quarter_67 (mm_ke e34 (mm_ke e34.symm k38)) c39 rfl ?_
  refine ok_aload_n (q := 69) dX12_quarter_68 rfl rfl ?_
  refine ok_getR cl_11 (q := 72) (k := 46) dX12_quarter_69 (Nat.le_of_ble_eq_true rfl) wd_1078 (fun _ _ _ => rfl) kt_11_46 (mm_ke e34 k21) rfl (fun b40 k41 => ?_)
  refine ok_iload_n (q := 73) dX12_quarter_72 rfl rfl ?_
  refine mm_ck (fun c42 => ?_)
  refine ok_iald (q := 74) dX12_quarter_73 (mm_ke e34 (mm_ke e34.symm k41)) c42 rfl ?_
  refine ok_ixor (q := 75) dX12_quarter_74 rfl ?_
  refine ok_bipush (q := 77) (v := 20) dX12_quarter_75 cb_20 rfl ?_
  refine mm_ci (q := 80) (mt_X12_turn G ((mm_i h33 b37 (mm_n x2)) ^^^ (mm_i h33 b40 (mm_n x3))) 20 h33 ) (mm_runS (as := [.int ((mm_i h33 b37 (mm_n x2)) ^^^ (mm_i h33 b40 (mm_n x3))), .int 20]) (st := [.int x2, .ref b35]) lk_X12_quarter_X12_turn_264 dX12_quarter_77 rfl (Nat.le_of_ble_eq_true rfl)) rfl (fun v45 h43 p44 => ?_)
  have k46 : mm_kd h43 a0 = 11 := mm_kd_app p44 (mm_ke e34 k21) (by decide)
  have k47 : mm_kd h43 b35 = 20 := mm_kd_app p44 (mm_ke e34 (mm_ke e34.symm k36)) (by decide)
  refine mm_ck (fun c48 => ?_)
  refine ok_iast (q := 81) dX12_quarter_80 k47 c48.1 c48.2 rfl (bh_ok (fun h49 e50 => ?_))
  have e50 : h49.1 = h43.1 := e50
  refine ok_aload_n (q := 82) dX12_quarter_81 rfl rfl ?_
  refine ok_getR cl_11 (q := 85) (k := 46) dX12_quarter_82 (Nat.le_of_ble_eq_true rfl) wd_1078 (fun _ _ _ => rfl) kt_11_46 (mm_ke e50 k46) rfl (fun b51 k52 => ?_)
  refine ok_iload_n (q := 86) dX12_quarter_85 rfl rfl ?_
  refine ok_dup2 (q := 87) dX12_quarter_86 rfl rfl rfl ?_
  refine mm_ck (fun c53 => ?_)
  refine ok_iald (q := 88) dX12_quarter_87 (mm_ke e50 (mm_ke e50.symm k52)) c53 rfl ?_
  refine ok_aload_n (q := 89) dX12_quarter_88 rfl rfl ?_
  refine ok_getR cl_11 (q := 92) (k := 46) dX12_quarter_89 (Nat.le_of_ble_eq_true rfl) wd_1078 (fun _ _ _ => rfl) kt_11_46 (mm_ke e50 k46) rfl (fun b54 k55 => ?_)
  refine ok_iload_n (q := 93) dX12_quarter_92 rfl rfl ?_
  refine mm_ck (fun c56 => ?_)
  refine ok_iald (q := 94) dX12_quarter_93 (mm_ke e50 (mm_ke e50.symm k55)) c56 rfl ?_
  refine ok_iadd (q := 95) dX12_quarter_94 rfl ?_
  refine mm_ck (fun c57 => ?_)
  refine ok_iast (q := 96) dX12_quarter_95 (mm_ke e50 (mm_ke e50.symm k52)) c57.1 c57.2 rfl (bh_ok (fun h58 e59 => ?_))
  have e59 : h58.1 = h43.1 := e59.trans e50
  refine ok_aload_n (q := 97) dX12_quarter_96 rfl rfl ?_
  refine ok_getR cl_11 (q := 100) (k := 46) dX12_quarter_97 (Nat.le_of_ble_eq_true rfl) wd_1078 (fun _ _ _ => rfl) kt_11_46 (mm_ke e59 k46) rfl (fun b60 k61 => ?_)
  refine ok_iload (q := 102) dX12_quarter_100 rfl rfl ?_
  refine ok_aload_n (q := 103) dX12_quarter_102 rfl rfl ?_
  refine ok_getR cl_11 (q := 106) (k := 46) dX12_quarter_103 (Nat.le_of_ble_eq_true rfl) wd_1078 (fun _ _ _ => rfl) kt_11_46 (mm_ke e59 k46) rfl (fun b62 k63 => ?_)
  refine ok_iload (q := 108) dX12_quarter_106 rfl rfl ?_
  refine mm_ck (fun c64 => ?_)
  refine ok_iald (q := 109) dX12_quarter_108 (mm_ke e59 (mm_ke e59.symm k63)) c64 rfl ?_
  refine ok_aload_n (q := 110) dX12_quarter_109 rfl rfl ?_
  refine ok_getR cl_11 (q := 113) (k := 46) dX12_quarter_110 (Nat.le_of_ble_eq_true rfl) wd_1078 (fun _ _ _ => rfl) kt_11_46 (mm_ke e59 k46) rfl (fun b65 k66 => ?_)
  refine ok_iload_n (q := 114) dX12_quarter_113 rfl rfl ?_
  refine mm_ck (fun c67 => ?_)
  refine ok_iald (q := 115) dX12_quarter_114 (mm_ke e59 (mm_ke e59.symm k66)) c67 rfl ?_
  refine ok_ixor (q := 116) dX12_quarter_115 rfl ?_
  refine ok_bipush (q := 118) (v := 24) dX12_quarter_116 cb_24 rfl ?_
  refine mm_ci (q := 121) (mt_X12_turn G ((mm_i h58 b62 (mm_n x4)) ^^^ (mm_i h58 b65 (mm_n x1))) 24 h58 ) (mm_runS (as := [.int ((mm_i h58 b62 (mm_n x4)) ^^^ (mm_i h58 b65 (mm_n x1))), .int 24]) (st := [.int x4, .ref b60]) lk_X12_quarter_X12_turn_264 dX12_quarter_118 rfl (Nat.le_of_ble_eq_true rfl)) rfl (fun v70 h68 p69 => ?_)
  have k71 : mm_kd h68 a0 = 11 := mm_kd_app p69 (mm_ke e59 k46) (by decide)
  have k72 : mm_kd h68 b60 = 20 := mm_kd_app p69 (mm_ke e59 (mm_ke e59.symm k61)) (by decide)
  refine mm_ck (fun c73 => ?_)
  refine ok_iast (q := 122) dX12_quarter_121 k72 c73.1 c73.2 rfl (bh_ok (fun h74 e75 => ?_))
  have e75 : h74.1 = h68.1 := e75
  refine ok_aload_n (q := 123) dX12_quarter_122 rfl rfl ?_
  refine ok_getR cl_11 (q := 126) (k := 46) dX12_quarter_123 (Nat.le_of_ble_eq_true rfl) wd_1078 (fun _ _ _ => rfl) kt_11_46 (mm_ke e75 k71) rfl (fun b76 k77 => ?_)
  refine ok_iload_n (q := 127) dX12_quarter_126 rfl rfl ?_
  refine ok_dup2 (q := 128) dX12_quarter_127 rfl rfl rfl ?_
  refine mm_ck (fun c78 => ?_)
  refine ok_iald (q := 129) dX12_quarter_128 (mm_ke e75 (mm_ke e75.symm k77)) c78 rfl ?_
  refine ok_aload_n (q := 130) dX12_quarter_129 rfl rfl ?_
  refine ok_getR cl_11 (q := 133) (k := 46) dX12_quarter_130 (Nat.le_of_ble_eq_true rfl) wd_1078 (fun _ _ _ => rfl) kt_11_46 (mm_ke e75 k71) rfl (fun b79 k80 => ?_)
  refine ok_iload (q := 135) dX12_quarter_133 rfl rfl ?_
  refine mm_ck (fun c81 => ?_)
  refine ok_iald (q := 136) dX12_quarter_135 (mm_ke e75 (mm_ke e75.symm k80)) c81 rfl ?_
  refine ok_iadd (q := 137) dX12_quarter_136 rfl ?_
  refine mm_ck (fun c82 => ?_)
  refine ok_iast (q := 138) dX12_quarter_137 (mm_ke e75 (mm_ke e75.symm k77)) c82.1 c82.2 rfl (bh_ok (fun h83 e84 => ?_))
  have e84 : h83.1 = h68.1 := e84.trans e75
  refine ok_aload_n (q := 139) dX12_quarter_138 rfl rfl ?_
  refine ok_getR cl_11 (q := 142) (k := 46) dX12_quarter_139 (Nat.le_of_ble_eq_true rfl) wd_1078 (fun _ _ _ => rfl) kt_11_46 (mm_ke e84 k71) rfl (fun b85 k86 => ?_)
  refine ok_iload_n (q := 143) dX12_quarter_142 rfl rfl ?_
  refine ok_aload_n (q := 144) dX12_quarter_143 rfl rfl ?_
  refine ok_getR cl_11 (q := 147) (k := 46) dX12_quarter_144 (Nat.le_of_ble_eq_true rfl) wd_1078 (fun _ _ _ => rfl) kt_11_46 (mm_ke e84 k71) rfl (fun b87 k88 => ?_)
  refine ok_iload_n (q := 148) dX12_quarter_147 rfl rfl ?_
  refine mm_ck (fun c89 => ?_)
  refine ok_iald (q := 149) dX12_quarter_148 (mm_ke e84 (mm_ke e84.symm k88)) c89 rfl ?_
  refine ok_aload_n (q := 150) dX12_quarter_149 rfl rfl ?_
  refine ok_getR cl_11 (q := 153) (k := 46) dX12_quarter_150 (Nat.le_of_ble_eq_true rfl) wd_1078 (fun _ _ _ => rfl) kt_11_46 (mm_ke e84 k71) rfl (fun b90 k91 => ?_)
  refine ok_iload_n (q := 154) dX12_quarter_153 rfl rfl ?_
  refine mm_ck (fun c92 => ?_)
  refine ok_iald (q := 155) dX12_quarter_154 (mm_ke e84 (mm_ke e84.symm k91)) c92 rfl ?_
  refine ok_ixor (q := 156) dX12_quarter_155 rfl ?_
  refine ok_bipush (q := 158) (v := 25) dX12_quarter_156 cb_25 rfl ?_
  refine mm_ci (q := 161) (mt_X12_turn G ((mm_i h83 b87 (mm_n x2)) ^^^ (mm_i h83 b90 (mm_n x3))) 25 h83 ) (mm_runS (as := [.int ((mm_i h83 b87 (mm_n x2)) ^^^ (mm_i h83 b90 (mm_n x3))), .int 25]) (st := [.int x2, .ref b85]) lk_X12_quarter_X12_turn_264 dX12_quarter_158 rfl (Nat.le_of_ble_eq_true rfl)) rfl (fun v95 h93 p94 => ?_)
  have k96 : mm_kd h93 a0 = 11 := mm_kd_app p94 (mm_ke e84 k71) (by decide)
  have k97 : mm_kd h93 b85 = 20 := mm_kd_app p94 (mm_ke e84 (mm_ke e84.symm k86)) (by decide)
  refine mm_ck (fun c98 => ?_)
  refine ok_iast (q := 162) dX12_quarter_161 k97 c98.1 c98.2 rfl (bh_ok (fun h99 e100 => ?_))
  have e100 : h99.1 = h93.1 := e100
  exact ok_ret dX12_quarter_162 rfl
def lp_X12_streamOf_38 (ke_68 : Nat → Int32 → mm_H → mm_O) : Nat → Nat → Int32 → Int32 → mm_H → mm_O
  | 0, _, _, _, _ => none
  | n + 1, a0, x1, x2, h => if (8 : Int32) ≤ x2 then
  (ke_68 a0 x1 h)
  else
  (mm_gr h a0 47 (fun b21 =>
  mm_gr h a0 49 (fun b23 =>
  mm_qi (bd_X12_word b23 ((4 : Int32) * x2) h) (fun v27 h25 =>
  if 32 ≤ b21 ∧ mm_in ((4 : Int32) + x2) (mm_ln h25 b21) = true then (mm_bh (mm_si h25 b21 (mm_n ((4 : Int32) + x2)) v27) (fun h31 =>
  lp_X12_streamOf_38 ke_68 n a0 x1 (x2 + 1) h31)) else none))))
set_option maxHeartbeats 4000000 in
set_option maxRecDepth 100000 in
theorem ol_X12_streamOf_38 {G : mm_G} {ke_68 : Nat → Int32 → mm_H → mm_O} (hke_68 : ∀ (a0 : Nat) (x1 : Int32) (h : mm_H), mm_kd h a0 = 11 → mm_Ok G my_X12_streamOf 68 [.ref a0, .int x1, mm_U] [] h (ke_68 a0 x1 h)) : ∀ (n : Nat) (a0 : Nat) (x1 : Int32) (x2 : Int32) (h : mm_H), mm_kd h a0 = 11 → mm_Ok G my_X12_streamOf 38 [.ref a0, .int x1, .int x2] [] h (lp_X12_streamOf_38 ke_68 n a0 x1 x2 h) := by
  intro n
  induction n with
  | zero => intro a0 x1 x2 h k_a0; exact mm_no
  | succ n ih =>
    intro a0 x1 x2 h k_a0
    rw [lp_X12_streamOf_38]
    refine ok_iload_n (q := 39) dX12_streamOf_38 rfl rfl ?_
    refine ok_bipush (q := 41) (v := 8) dX12_streamOf_39 cb_8 rfl ?_
    refine ok_icmp_ge (q := 44) (t := 68) dX12_streamOf_41 rfl rfl ?_ ?_
    · refine mm_wk [true, true, false] (ls' := [.ref a0, .int x1, mm_U]) rfl ?_
      exact hke_68 a0 x1 h k_a0
    · refine ok_aload_n (q := 45) dX12_streamOf_44 rfl rfl ?_
      refine ok_getR cl_11 (q := 48) (k := 47) dX12_streamOf_45 (Nat.le_of_ble_eq_true rfl) wd_1079 (fun _ _ _ => rfl) kt_11_47 k_a0 rfl (fun b21 k22 => ?_)
      refine ok_iconst (q := 49) (v := 4) dX12_streamOf_48 ci_4 rfl ?_
      refine ok_iload_n (q := 50) dX12_streamOf_49 rfl rfl ?_
      refine ok_iadd (q := 51) dX12_streamOf_50 rfl ?_
      refine ok_aload_n (q := 52) dX12_streamOf_51 rfl rfl ?_
      refine ok_getR cl_11 (q := 55) (k := 49) dX12_streamOf_52 (Nat.le_of_ble_eq_true rfl) wd_1081 (fun _ _ _ => rfl) kt_11_49 k_a0 rfl (fun b23 k24 => ?_)
      refine ok_iconst (q := 56) (v := 4) dX12_streamOf_55 ci_4 rfl ?_
      refine ok_iload_n (q := 57) dX12_streamOf_56 rfl rfl ?_
      refine ok_imul (q := 58) dX12_streamOf_57 rfl ?_
      refine mm_ci (q := 61) (mt_X12_word G b23 ((4 : Int32) * x2) h k24) (mm_runS (as := [.ref b23, .int ((4 : Int32) * x2)]) (st := [.int ((4 : Int32) + x2), .ref b21]) lk_X12_streamOf_X12_word_341 dX12_streamOf_58 rfl (Nat.le_of_ble_eq_true rfl)) rfl (fun v27 h25 p26 => ?_)
      have k28 : mm_kd h25 a0 = 11 := mm_kd_app p26 k_a0 (by decide)
      have k29 : mm_kd h25 b21 = 20 := mm_kd_app p26 k22 (by decide)
      refine mm_ck (fun c30 => ?_)
      refine ok_iast (q := 62) dX12_streamOf_61 k29 c30.1 c30.2 rfl (bh_ok (fun h31 e32 => ?_))
      have e32 : h31.1 = h25.1 := e32
      refine ok_iinc (q := 65) (v := x2 + 1) (ls' := [.ref a0, .int x1, .int (x2 + 1)]) dX12_streamOf_62 rfl (congrArg (x2 + ·) ci_1) (Nat.le_of_ble_eq_true rfl) rfl rfl ?_
      refine ok_goto (q := 38) dX12_streamOf_65 rfl ?_
      exact ih a0 x1 (x2 + 1) h31 (mm_ke e32 k28)
def lp_X12_streamOf_78 (ke_108 : Nat → mm_H → mm_O) : Nat → Nat → Int32 → mm_H → mm_O
  | 0, _, _, _ => none
  | n + 1, a0, x2, h => if (3 : Int32) ≤ x2 then
  (ke_108 a0 h)
  else
  (mm_gr h a0 47 (fun b41 =>
  mm_gr h a0 50 (fun b43 =>
  mm_qi (bd_X12_word b43 ((4 : Int32) * x2) h) (fun v47 h45 =>
  if 32 ≤ b41 ∧ mm_in ((13 : Int32) + x2) (mm_ln h45 b41) = true then (mm_bh (mm_si h45 b41 (mm_n ((13 : Int32) + x2)) v47) (fun h51 =>
  lp_X12_streamOf_78 ke_108 n a0 (x2 + 1) h51)) else none))))
set_option maxHeartbeats 4000000 in
set_option maxRecDepth 100000 in
theorem ol_X12_streamOf_78 {G : mm_G} {ke_108 : Nat → mm_H → mm_O} (hke_108 : ∀ (a0 : Nat) (h : mm_H), mm_kd h a0 = 11 → mm_Ok G my_X12_streamOf 108 [.ref a0, mm_U, mm_U] [] h (ke_108 a0 h)) : ∀ (n : Nat) (a0 : Nat) (x2 : Int32) (h : mm_H), mm_kd h a0 = 11 → mm_Ok G my_X12_streamOf 78 [.ref a0, mm_U, .int x2] [] h (lp_X12_streamOf_78 ke_108 n a0 x2 h) := by
  intro n
  induction n with
  | zero => intro a0 x2 h k_a0; exact mm_no
  | succ n ih =>
    intro a0 x2 h k_a0
    rw [lp_X12_streamOf_78]
    refine ok_iload_n (q := 79) dX12_streamOf_78 rfl rfl ?_
    refine ok_iconst (q := 80) (v := 3) dX12_streamOf_79 ci_3 rfl ?_
    refine ok_icmp_ge (q := 83) (t := 108) dX12_streamOf_80 rfl rfl ?_ ?_
    · refine mm_wk [true, false, false] (ls' := [.ref a0, mm_U, mm_U]) rfl ?_
      exact hke_108 a0 h k_a0
    · refine ok_aload_n (q := 84) dX12_streamOf_83 rfl rfl ?_
      refine ok_getR cl_11 (q := 87) (k := 47) dX12_streamOf_84 (Nat.le_of_ble_eq_true rfl) wd_1079 (fun _ _ _ => rfl) kt_11_47 k_a0 rfl (fun b41 k42 => ?_)
      refine ok_bipush (q := 89) (v := 13) dX12_streamOf_87 cb_13 rfl ?_
      refine ok_iload_n (q := 90) dX12_streamOf_89 rfl rfl ?_
      refine ok_iadd (q := 91) dX12_streamOf_90 rfl ?_
      refine ok_aload_n (q := 92) dX12_streamOf_91 rfl rfl ?_
      refine ok_getR cl_11 (q := 95) (k := 50) dX12_streamOf_92 (Nat.le_of_ble_eq_true rfl) wd_1082 (fun _ _ _ => rfl) kt_11_50 k_a0 rfl (fun b43 k44 => ?_)
      refine ok_iconst (q := 96) (v := 4) dX12_streamOf_95 ci_4 rfl ?_
      refine ok_iload_n (q := 97) dX12_streamOf_96 rfl rfl ?_
      refine ok_imul (q := 98) dX12_streamOf_97 rfl ?_
      refine mm_ci (q := 101) (mt_X12_word G b43 ((4 : Int32) * x2) h k44) (mm_runS (as := [.ref b43, .int ((4 : Int32) * x2)]) (st := [.int ((13 : Int32) + x2), .ref b41]) lk_X12_streamOf_X12_word_341 dX12_streamOf_98 rfl (Nat.le_of_ble_eq_true rfl)) rfl (fun v47 h45 p46 => ?_)
      have k48 : mm_kd h45 a0 = 11 := mm_kd_app p46 k_a0 (by decide)
      have k49 : mm_kd h45 b41 = 20 := mm_kd_app p46 k42 (by decide)
      refine mm_ck (fun c50 => ?_)
      refine ok_iast (q := 102) dX12_streamOf_101 k49 c50.1 c50.2 rfl (bh_ok (fun h51 e52 => ?_))
      have e52 : h51.1 = h45.1 := e52
      refine ok_iinc (q := 105) (v := x2 + 1) (ls' := [.ref a0, mm_U, .int (x2 + 1)]) dX12_streamOf_102 rfl (congrArg (x2 + ·) ci_1) (Nat.le_of_ble_eq_true rfl) rfl rfl ?_
      refine ok_goto (q := 78) dX12_streamOf_105 rfl ?_
      exact ih a0 (x2 + 1) h51 (mm_ke e52 k48)
def lp_X12_streamOf_110 (ke_134 : Nat → mm_H → mm_O) : Nat → Nat → Int32 → mm_H → mm_O
  | 0, _, _, _ => none
  | n + 1, a0, x2, h => if (16 : Int32) ≤ x2 then
  (ke_134 a0 h)
  else
  (mm_gr h a0 46 (fun b55 =>
  mm_gr h a0 47 (fun b57 =>
  if mm_in x2 (mm_ln h b57) = true then (if 32 ≤ b55 ∧ mm_in x2 (mm_ln h b55) = true then (mm_bh (mm_si h b55 (mm_n x2) (mm_i h b57 (mm_n x2))) (fun h61 =>
  lp_X12_streamOf_110 ke_134 n a0 (x2 + 1) h61)) else none) else none)))
set_option maxHeartbeats 4000000 in
set_option maxRecDepth 100000 in
theorem ol_X12_streamOf_110 {G : mm_G} {ke_134 : Nat → mm_H → mm_O} (hke_134 : ∀ (a0 : Nat) (h : mm_H), mm_kd h a0 = 11 → mm_Ok G my_X12_streamOf 134 [.ref a0, mm_U, mm_U] [] h (ke_134 a0 h)) : ∀ (n : Nat) (a0 : Nat) (x2 : Int32) (h : mm_H), mm_kd h a0 = 11 → mm_Ok G my_X12_streamOf 110 [.ref a0, mm_U, .int x2] [] h (lp_X12_streamOf_110 ke_134 n a0 x2 h) := by
  intro n
  induction n with
  | zero => intro a0 x2 h k_a0; exact mm_no
  | succ n ih =>
    intro a0 x2 h k_a0
    rw [lp_X12_streamOf_110]
    refine ok_iload_n (q := 111) dX12_streamOf_110 rfl rfl ?_
    refine ok_bipush (q := 113) (v := 16) dX12_streamOf_111 cb_16 rfl ?_
    refine ok_icmp_ge (q := 116) (t := 134) dX12_streamOf_113 rfl rfl ?_ ?_
    · refine mm_wk [true, false, false] (ls' := [.ref a0, mm_U, mm_U]) rfl ?_
      exact hke_134 a0 h k_a0
    · refine ok_aload_n (q := 117) dX12_streamOf_116 rfl rfl ?_
      refine ok_getR cl_11 (q := 120) (k := 46) dX12_streamOf_117 (Nat.le_of_ble_eq_true rfl) wd_1078 (fun _ _ _ => rfl) kt_11_46 k_a0 rfl (fun b55 k56 => ?_)
      refine ok_iload_n (q := 121) dX12_streamOf_120 rfl rfl ?_
      refine ok_aload_n (q := 122) dX12_streamOf_121 rfl rfl ?_
      refine ok_getR cl_11 (q := 125) (k := 47) dX12_streamOf_122 (Nat.le_of_ble_eq_true rfl) wd_1079 (fun _ _ _ => rfl) kt_11_47 k_a0 rfl (fun b57 k58 => ?_)
      refine ok_iload_n (q := 126) dX12_streamOf_125 rfl rfl ?_
      refine mm_ck (fun c59 => ?_)
      refine ok_iald (q := 127) dX12_streamOf_126 k58 c59 rfl ?_
      refine mm_ck (fun c60 => ?_)
      refine ok_iast (q := 128) dX12_streamOf_127 k56 c60.1 c60.2 rfl (bh_ok (fun h61 e62 => ?_))
      have e62 : h61.1 = h.1 := e62
      refine ok_iinc (q := 131) (v := x2 + 1) (ls' := [.ref a0, mm_U, .int (x2 + 1)]) dX12_streamOf_128 rfl (congrArg (x2 + ·) ci_1) (Nat.le_of_ble_eq_true rfl) rfl rfl ?_
      refine ok_goto (q := 110) dX12_streamOf_131 rfl ?_
      exact ih a0 (x2 + 1) h61 (mm_ke e62 k_a0)
def lp_X12_streamOf_136 (ke_232 : Nat → mm_H → mm_O) : Nat → Nat → Int32 → mm_H → mm_O
  | 0, _, _, _ => none
  | n + 1, a0, x2, h => if (10 : Int32) ≤ x2 then
  (ke_232 a0 h)
  else
  (mm_qv (bd_X12_quarter a0 0 4 8 12 h) (fun h65 =>
  mm_qv (bd_X12_quarter a0 1 5 9 13 h65) (fun h68 =>
  mm_qv (bd_X12_quarter a0 2 6 10 14 h68) (fun h71 =>
  mm_qv (bd_X12_quarter a0 3 7 11 15 h71) (fun h74 =>
  mm_qv (bd_X12_quarter a0 0 5 10 15 h74) (fun h77 =>
  mm_qv (bd_X12_quarter a0 1 6 11 12 h77) (fun h80 =>
  mm_qv (bd_X12_quarter a0 2 7 8 13 h80) (fun h83 =>
  mm_qv (bd_X12_quarter a0 3 4 9 14 h83) (fun h86 =>
  lp_X12_streamOf_136 ke_232 n a0 (x2 + 1) h86)))))))))
set_option maxHeartbeats 4000000 in
set_option maxRecDepth 100000 in
theorem ol_X12_streamOf_136 {G : mm_G} {ke_232 : Nat → mm_H → mm_O} (hke_232 : ∀ (a0 : Nat) (h : mm_H), mm_kd h a0 = 11 → mm_Ok G my_X12_streamOf 232 [.ref a0, mm_U, mm_U] [] h (ke_232 a0 h)) : ∀ (n : Nat) (a0 : Nat) (x2 : Int32) (h : mm_H), mm_kd h a0 = 11 → mm_Ok G my_X12_streamOf 136 [.ref a0, mm_U, .int x2] [] h (lp_X12_streamOf_136 ke_232 n a0 x2 h) := by
  intro n
  induction n with
  | zero => intro a0 x2 h k_a0; exact mm_no
  | succ n ih =>
    intro a0 x2 h k_a0
    rw [lp_X12_streamOf_136]
    refine ok_iload_n (q := 137) dX12_streamOf_136 rfl rfl ?_
    refine ok_bipush (q := 139) (v := 10) dX12_streamOf_137 cb_10 rfl ?_
    refine ok_icmp_ge (q := 142) (t := 232) dX12_streamOf_139 rfl rfl ?_ ?_
    · refine mm_wk [true, false, false] (ls' := [.ref a0, mm_U, mm_U]) rfl ?_
      exact hke_232 a0 h k_a0
    · refine ok_aload_n (q := 143) dX12_streamOf_142 rfl rfl ?_
      refine ok_iconst (q := 144) (v := 0) dX12_streamOf_143 ci_0 rfl ?_
      refine ok_iconst (q := 145) (v := 4) dX12_streamOf_144 ci_4 rfl ?_
      refine ok_bipush (q := 147) (v := 8) dX12_streamOf_145 cb_8 rfl ?_
      refine ok_bipush (q := 149) (v := 12) dX12_streamOf_147 cb_12 rfl ?_
      refine mm_cv (q := 152) (mt_X12_quarter G a0 0 4 8 12 h k_a0) (mm_runV (as := [.int 0, .int 4, .int 8, .int 12]) (st := []) cl_11 lk_X12_streamOf_X12_quarter_345 rfl dX12_streamOf_149 rfl (Nat.le_of_ble_eq_true rfl) k_a0) rfl (fun h65 p66 => ?_)
      have k67 : mm_kd h65 a0 = 11 := mm_kd_app p66 k_a0 (by decide)
      refine ok_aload_n (q := 153) dX12_streamOf_152 rfl rfl ?_
      refine ok_iconst (q := 154) (v := 1) dX12_streamOf_153 ci_1 rfl ?_
      refine ok_iconst (q := 155) (v := 5) dX12_streamOf_154 ci_5 rfl ?_
      refine ok_bipush (q := 157) (v := 9) dX12_streamOf_155 cb_9 rfl ?_
      refine ok_bipush (q := 159) (v := 13) dX12_streamOf_157 cb_13 rfl ?_
      refine mm_cv (q := 162) (mt_X12_quarter G a0 1 5 9 13 h65 k67) (mm_runV (as := [.int 1, .int 5, .int 9, .int 13]) (st := []) cl_11 lk_X12_streamOf_X12_quarter_345 rfl dX12_streamOf_159 rfl (Nat.le_of_ble_eq_true rfl) k67) rfl (fun h68 p69 => ?_)
      have k70 : mm_kd h68 a0 = 11 := mm_kd_app p69 k67 (by decide)
      refine ok_aload_n (q := 163) dX12_streamOf_162 rfl rfl ?_
      refine ok_iconst (q := 164) (v := 2) dX12_streamOf_163 ci_2 rfl ?_
      refine ok_bipush (q := 166) (v := 6) dX12_streamOf_164 cb_6 rfl ?_
      refine ok_bipush (q := 168) (v := 10) dX12_streamOf_166 cb_10 rfl ?_
      refine ok_bipush (q := 170) (v := 14) dX12_streamOf_168 cb_14 rfl ?_
      refine mm_cv (q := 173) (mt_X12_quarter G a0 2 6 10 14 h68 k70) (mm_runV (as := [.int 2, .int 6, .int 10, .int 14]) (st := []) cl_11 lk_X12_streamOf_X12_quarter_345 rfl dX12_streamOf_170 rfl (Nat.le_of_ble_eq_true rfl) k70) rfl (fun h71 p72 => ?_)
      have k73 : mm_kd h71 a0 = 11 := mm_kd_app p72 k70 (by decide)
      refine ok_aload_n (q := 174) dX12_streamOf_173 rfl rfl ?_
      refine ok_iconst (q := 175) (v := 3) dX12_streamOf_174 ci_3 rfl ?_
      refine ok_bipush (q := 177) (v := 7) dX12_streamOf_175 cb_7 rfl ?_
      refine ok_bipush (q := 179) (v := 11) dX12_streamOf_177 cb_11 rfl ?_
      refine ok_bipush (q := 181) (v := 15) dX12_streamOf_179 cb_15 rfl ?_
      refine mm_cv (q := 184) (mt_X12_quarter G a0 3 7 11 15 h71 k73) (mm_runV (as := [.int 3, .int 7, .int 11, .int 15]) (st := []) cl_11 lk_X12_streamOf_X12_quarter_345 rfl dX12_streamOf_181 rfl (Nat.le_of_ble_eq_true rfl) k73) rfl (fun h74 p75 => ?_)
      have k76 : mm_kd h74 a0 = 11 := mm_kd_app p75 k73 (by decide)
      refine ok_aload_n (q := 185) dX12_streamOf_184 rfl rfl ?_
      refine ok_iconst (q := 186) (v := 0) dX12_streamOf_185 ci_0 rfl ?_
      refine ok_iconst (q := 187) (v := 5) dX12_streamOf_186 ci_5 rfl ?_
      refine ok_bipush (q := 189) (v := 10) dX12_streamOf_187 cb_10 rfl ?_
      refine ok_bipush (q := 191) (v := 15) dX12_streamOf_189 cb_15 rfl ?_
      refine mm_cv (q := 194) (mt_X12_quarter G a0 0 5 10 15 h74 k76) (mm_runV (as := [.int 0, .int 5, .int 10, .int 15]) (st := []) cl_11 lk_X12_streamOf_X12_quarter_345 rfl dX12_streamOf_191 rfl (Nat.le_of_ble_eq_true rfl) k76) rfl (fun h77 p78 => ?_)
      have k79 : mm_kd h77 a0 = 11 := mm_kd_app p78 k76 (by decide)
      refine ok_aload_n (q := 195) dX12_streamOf_194 rfl rfl ?_
      refine ok_iconst (q := 196) (v := 1) dX12_streamOf_195 ci_1 rfl ?_
      refine ok_bipush (q := 198) (v := 6) dX12_streamOf_196 cb_6 rfl ?_
      refine ok_bipush (q := 200) (v := 11) dX12_streamOf_198 cb_11 rfl ?_
      refine ok_bipush (q := 202) (v := 12) dX12_streamOf_200 cb_12 rfl ?_
      refine mm_cv (q := 205) (mt_X12_quarter G a0 1 6 11 12 h77 k79) (mm_runV (as := [.int 1, .int 6, .int 11, .int 12]) (st := []) cl_11 lk_X12_streamOf_X12_quarter_345 rfl dX12_streamOf_202 rfl (Nat.le_of_ble_eq_true rfl) k79) rfl (fun h80 p81 => ?_)
      have k82 : mm_kd h80 a0 = 11 := mm_kd_app p81 k79 (by decide)
      refine ok_aload_n (q := 206) dX12_streamOf_205 rfl rfl ?_
      refine ok_iconst (q := 207) (v := 2) dX12_streamOf_206 ci_2 rfl ?_
      refine ok_bipush (q := 209) (v := 7) dX12_streamOf_207 cb_7 rfl ?_
      refine ok_bipush (q := 211) (v := 8) dX12_streamOf_209 cb_8 rfl ?_
      refine ok_bipush (q := 213) (v := 13) dX12_streamOf_211 cb_13 rfl ?_
      refine mm_cv (q := 216) (mt_X12_quarter G a0 2 7 8 13 h80 k82) (mm_runV (as := [.int 2, .int 7, .int 8, .int 13]) (st := []) cl_11 lk_X12_streamOf_X12_quarter_345 rfl dX12_streamOf_213 rfl (Nat.le_of_ble_eq_true rfl) k82) rfl (fun h83 p84 => ?_)
      have k85 : mm_kd h83 a0 = 11 := mm_kd_app p84 k82 (by decide)
      refine ok_aload_n (q := 217) dX12_streamOf_216 rfl rfl ?_
      refine ok_iconst (q := 218) (v := 3) dX12_streamOf_217 ci_3 rfl ?_
      refine ok_iconst (q := 219) (v := 4) dX12_streamOf_218 ci_4 rfl ?_
      refine ok_bipush (q := 221) (v := 9) dX12_streamOf_219 cb_9 rfl ?_
      refine ok_bipush (q := 223) (v := 14) dX12_streamOf_221 cb_14 rfl ?_
      refine mm_cv (q := 226) (mt_X12_quarter G a0 3 4 9 14 h83 k85) (mm_runV (as := [.int 3, .int 4, .int 9, .int 14]) (st := []) cl_11 lk_X12_streamOf_X12_quarter_345 rfl dX12_streamOf_223 rfl (Nat.le_of_ble_eq_true rfl) k85) rfl (fun h86 p87 => ?_)
      have k88 : mm_kd h86 a0 = 11 := mm_kd_app p87 k85 (by decide)
      refine ok_iinc (q := 229) (v := x2 + 1) (ls' := [.ref a0, mm_U, .int (x2 + 1)]) dX12_streamOf_226 rfl (congrArg (x2 + ·) ci_1) (Nat.le_of_ble_eq_true rfl) rfl rfl ?_
      refine ok_goto (q := 136) dX12_streamOf_229 rfl ?_
      exact ih a0 (x2 + 1) h86 k88
def lp_X12_streamOf_234  : Nat → Nat → Int32 → mm_H → mm_O
  | 0, _, _, _ => none
  | n + 1, a0, x2, h => if (64 : Int32) ≤ x2 then
  (some (none, h))
  else
  (mm_gr h a0 48 (fun b91 =>
  mm_gr h a0 46 (fun b93 =>
  if mm_in (x2 / (4 : Int32)) (mm_ln h b93) = true then (mm_gr h a0 47 (fun b96 =>
  if mm_in (x2 / (4 : Int32)) (mm_ln h b96) = true then (if 32 ≤ b91 ∧ mm_in x2 (mm_ln h b91) = true then (mm_bh (mm_si h b91 (mm_n x2) (mm_b8 (mm_b8 (mm_shr ((mm_i h b93 (mm_n (x2 / (4 : Int32)))) + (mm_i h b96 (mm_n (x2 / (4 : Int32))))) ((8 : Int32) * (mm_rem x2 (4 : Int32))))))) (fun h100 =>
  lp_X12_streamOf_234 n a0 (x2 + 1) h100)) else none) else none)) else none)))
set_option maxHeartbeats 4000000 in
set_option maxRecDepth 100000 in
theorem ol_X12_streamOf_234 {G : mm_G}   : ∀ (n : Nat) (a0 : Nat) (x2 : Int32) (h : mm_H), mm_kd h a0 = 11 → mm_Ok G my_X12_streamOf 234 [.ref a0, mm_U, .int x2] [] h (lp_X12_streamOf_234 n a0 x2 h) := by
  intro n
  induction n with
  | zero => intro a0 x2 h k_a0; exact mm_no
  | succ n ih =>
    intro a0 x2 h k_a0
    rw [lp_X12_streamOf_234]
    refine ok_iload_n (q := 235) dX12_streamOf_234 rfl rfl ?_
    refine ok_bipush (q := 237) (v := 64) dX12_streamOf_235 cb_64 rfl ?_
    refine ok_icmp_ge (q := 240) (t := 277) dX12_streamOf_237 rfl rfl ?_ ?_
    · exact ok_ret dX12_streamOf_277 rfl
    · refine ok_aload_n (q := 241) dX12_streamOf_240 rfl rfl ?_
      refine ok_getR cl_11 (q := 244) (k := 48) dX12_streamOf_241 (Nat.le_of_ble_eq_true rfl) wd_1080 (fun _ _ _ => rfl) kt_11_48 k_a0 rfl (fun b91 k92 => ?_)
      refine ok_iload_n (q := 245) dX12_streamOf_244 rfl rfl ?_
      refine ok_aload_n (q := 246) dX12_streamOf_245 rfl rfl ?_
      refine ok_getR cl_11 (q := 249) (k := 46) dX12_streamOf_246 (Nat.le_of_ble_eq_true rfl) wd_1078 (fun _ _ _ => rfl) kt_11_46 k_a0 rfl (fun b93 k94 => ?_)
      refine ok_iload_n (q := 250) dX12_streamOf_249 rfl rfl ?_
      refine ok_iconst (q := 251) (v := 4) dX12_streamOf_250 ci_4 rfl ?_
      refine ok_idiv (q := 252) dX12_streamOf_251 (by decide) rfl ?_
      refine mm_ck (fun c95 => ?_)
      refine ok_iald (q := 253) dX12_streamOf_252 k94 c95 rfl ?_
      refine ok_aload_n (q := 254) dX12_streamOf_253 rfl rfl ?_
      refine ok_getR cl_11 (q := 257) (k := 47) dX12_streamOf_254 (Nat.le_of_ble_eq_true rfl) wd_1079 (fun _ _ _ => rfl) kt_11_47 k_a0 rfl (fun b96 k97 => ?_)
      refine ok_iload_n (q := 258) dX12_streamOf_257 rfl rfl ?_
      refine ok_iconst (q := 259) (v := 4) dX12_streamOf_258 ci_4 rfl ?_
      refine ok_idiv (q := 260) dX12_streamOf_259 (by decide) rfl ?_
      refine mm_ck (fun c98 => ?_)
      refine ok_iald (q := 261) dX12_streamOf_260 k97 c98 rfl ?_
      refine ok_iadd (q := 262) dX12_streamOf_261 rfl ?_
      refine ok_bipush (q := 264) (v := 8) dX12_streamOf_262 cb_8 rfl ?_
      refine ok_iload_n (q := 265) dX12_streamOf_264 rfl rfl ?_
      refine ok_iconst (q := 266) (v := 4) dX12_streamOf_265 ci_4 rfl ?_
      refine ok_irem (q := 267) dX12_streamOf_266 (by decide) rfl ?_
      refine ok_imul (q := 268) dX12_streamOf_267 rfl ?_
      refine ok_ishr (q := 269) dX12_streamOf_268 rfl ?_
      refine ok_i2b (q := 270) dX12_streamOf_269 rfl ?_
      refine mm_ck (fun c99 => ?_)
      refine ok_bast (q := 271) dX12_streamOf_270 k92 c99.1 c99.2 rfl (bh_ok (fun h100 e101 => ?_))
      have e101 : h100.1 = h.1 := e101
      refine ok_iinc (q := 274) (v := x2 + 1) (ls' := [.ref a0, mm_U, .int (x2 + 1)]) dX12_streamOf_271 rfl (congrArg (x2 + ·) ci_1) (Nat.le_of_ble_eq_true rfl) rfl rfl ?_
      refine ok_goto (q := 234) dX12_streamOf_274 rfl ?_
      exact ih a0 (x2 + 1) h100 (mm_ke e101 k_a0)
def bd_X12_streamOf (a0 : Nat) (x1 : Int32) (h : mm_H) : mm_O := mm_gr h a0 47 (fun b1 =>
  if 32 ≤ b1 ∧ mm_in (0 : Int32) (mm_ln h b1) = true then (mm_bh (mm_si h b1 (mm_n (0 : Int32)) (1634760805 : Int32)) (fun h4 =>
  mm_gr h4 a0 47 (fun b6 =>
  if 32 ≤ b6 ∧ mm_in (1 : Int32) (mm_ln h4 b6) = true then (mm_bh (mm_si h4 b6 (mm_n (1 : Int32)) (857760878 : Int32)) (fun h9 =>
  mm_gr h9 a0 47 (fun b11 =>
  if 32 ≤ b11 ∧ mm_in (2 : Int32) (mm_ln h9 b11) = true then (mm_bh (mm_si h9 b11 (mm_n (2 : Int32)) (2036477234 : Int32)) (fun h14 =>
  mm_gr h14 a0 47 (fun b16 =>
  if 32 ≤ b16 ∧ mm_in (3 : Int32) (mm_ln h14 b16) = true then (mm_bh (mm_si h14 b16 (mm_n (3 : Int32)) (1797285236 : Int32)) (fun h19 =>
  lp_X12_streamOf_38 (fun b34 v35 h33 => mm_gr h33 b34 47 (fun b36 =>
  if 32 ≤ b36 ∧ mm_in (12 : Int32) (mm_ln h33 b36) = true then (mm_bh (mm_si h33 b36 (mm_n (12 : Int32)) v35) (fun h39 =>
  lp_X12_streamOf_78 (fun b54 h53 => lp_X12_streamOf_110 (fun b64 h63 => lp_X12_streamOf_136 (fun b90 h89 => lp_X12_streamOf_234  mm_fu b90 0 h89) mm_fu b64 0 h63) mm_fu b54 0 h53) mm_fu b34 0 h39)) else none)) mm_fu a0 x1 0 h19)) else none))) else none))) else none))) else none)
set_option maxHeartbeats 4000000 in
set_option maxRecDepth 100000 in
theorem mt_X12_streamOf (G : mm_G) (a0 : Nat) (x1 : Int32) (h : mm_H) (k_a0 : mm_kd h a0 = 11) : mm_Met G my_X12_streamOf [.ref a0, .int x1] h (bd_X12_streamOf a0 x1 h) := by
  refine mm_met (ls := [.ref a0, .int x1, mm_U]) pn_RX12 (Nat.le_of_ble_eq_true rfl) rfl ?_
  unfold bd_X12_streamOf
  refine ok_aload_n (q := 1) dX12_streamOf_0 rfl rfl ?_
  refine ok_getR cl_11 (q := 4) (k := 47) dX12_streamOf_1 (Nat.le_of_ble_eq_true rfl) wd_1079 (fun _ _ _ => rfl) kt_11_47 k_a0 rfl (fun b1 k2 => ?_)
  refine ok_iconst (q := 5) (v := 0) dX12_streamOf_4 ci_0 rfl ?_
  refine ok_ldcw (q := 8) (v := 1634760805) dX12_streamOf_5 wd_1367 rfl ?_
  refine mm_ck (fun c3 => ?_)
  refine ok_iast (q := 9) dX12_streamOf_8 k2 c3.1 c3.2 rfl (bh_ok (fun h4 e5 => ?_))
  have e5 : h4.1 = h.1 := e5
  refine ok_aload_n (q := 10) dX12_streamOf_9 rfl rfl ?_
  refine ok_getR cl_11 (q := 13) (k := 47) dX12_streamOf_10 (Nat.le_of_ble_eq_true rfl) wd_1079 (fun _ _ _ => rfl) kt_11_47 (mm_ke e5 k_a0) rfl (fun b6 k7 => ?_)
  refine ok_iconst (q := 14) (v := 1) dX12_streamOf_13 ci_1 rfl ?_
  refine ok_ldcw (q := 17) (v := 857760878) dX12_streamOf_14 wd_1368 rfl ?_
  refine mm_ck (fun c8 => ?_)
  refine ok_iast (q := 18) dX12_streamOf_17 (mm_ke e5 (mm_ke e5.symm k7)) c8.1 c8.2 rfl (bh_ok (fun h9 e10 => ?_))
  have e10 : h9.1 = h.1 := e10.trans e5
  refine ok_aload_n (q := 19) dX12_streamOf_18 rfl rfl ?_
  refine ok_getR cl_11 (q := 22) (k := 47) dX12_streamOf_19 (Nat.le_of_ble_eq_true rfl) wd_1079 (fun _ _ _ => rfl) kt_11_47 (mm_ke e10 k_a0) rfl (fun b11 k12 => ?_)
  refine ok_iconst (q := 23) (v := 2) dX12_streamOf_22 ci_2 rfl ?_
  refine ok_ldcw (q := 26) (v := 2036477234) dX12_streamOf_23 wd_1369 rfl ?_
  refine mm_ck (fun c13 => ?_)
  refine ok_iast (q := 27) dX12_streamOf_26 (mm_ke e10 (mm_ke e10.symm k12)) c13.1 c13.2 rfl (bh_ok (fun h14 e15 => ?_))
  have e15 : h14.1 = h.1 := e15.trans e10
  refine ok_aload_n (q := 28) dX12_streamOf_27 rfl rfl ?_
  refine ok_getR cl_11 (q := 31) (k := 47) dX12_streamOf_28 (Nat.le_of_ble_eq_true rfl) wd_1079 (fun _ _ _ => rfl) kt_11_47 (mm_ke e15 k_a0) rfl (fun b16 k17 => ?_)
  refine ok_iconst (q := 32) (v := 3) dX12_streamOf_31 ci_3 rfl ?_
  refine ok_ldcw (q := 35) (v := 1797285236) dX12_streamOf_32 wd_1370 rfl ?_
  refine mm_ck (fun c18 => ?_)
  refine ok_iast (q := 36) dX12_streamOf_35 (mm_ke e15 (mm_ke e15.symm k17)) c18.1 c18.2 rfl (bh_ok (fun h19 e20 => ?_))
  have e20 : h19.1 = h.1 := e20.trans e15
  refine ok_iconst (q := 37) (v := 0) dX12_streamOf_36 ci_0 rfl ?_
  refine ok_istore_n (q := 38) (ls' := [.ref a0, .int x1, .int 0]) dX12_streamOf_37 (Nat.le_of_ble_eq_true rfl) rfl rfl ?_
  refine ol_X12_streamOf_38 (fun b34 v35 h33 k_b34 => ?_) mm_fu a0 x1 0 h19 (mm_ke e20 k_a0)
  · refine ok_aload_n (q := 69) dX12_streamOf_68 rfl rfl ?_
    refine ok_getR cl_11 (q := 72) (k := 47) dX12_streamOf_69 (Nat.le_of_ble_eq_true rfl) wd_1079 (fun _ _ _ => rfl) kt_11_47 k_b34 rfl (fun b36 k37 => ?_)
    refine ok_bipush (q := 74) (v := 12) dX12_streamOf_72 cb_12 rfl ?_
    refine ok_iload_n (q := 75) dX12_streamOf_74 rfl rfl ?_
    refine mm_ck (fun c38 => ?_)
    refine ok_iast (q := 76) dX12_streamOf_75 k37 c38.1 c38.2 rfl (bh_ok (fun h39 e40 => ?_))
    have e40 : h39.1 = h33.1 := e40
    refine ok_iconst (q := 77) (v := 0) dX12_streamOf_76 ci_0 rfl ?_
    refine ok_istore_n (q := 78) (ls' := [.ref b34, .int v35, .int 0]) dX12_streamOf_77 (Nat.le_of_ble_eq_true rfl) rfl rfl ?_
    refine mm_wk [true, false, true] (ls' := [.ref b34, mm_U, .int 0]) rfl ?_
    refine ol_X12_streamOf_78 (fun b54 h53 k_b54 => ?_) mm_fu b34 0 h39 (mm_ke e40 k_b34)
    · refine ok_iconst (q := 109) (v := 0) dX12_streamOf_108 ci_0 rfl ?_
      refine ok_istore_n (q := 110) (ls' := [.ref b54, mm_U, .int 0]) dX12_streamOf_109 (Nat.le_of_ble_eq_true rfl) rfl rfl ?_
      refine ol_X12_streamOf_110 (fun b64 h63 k_b64 => ?_) mm_fu b54 0 h53 k_b54
      · refine ok_iconst (q := 135) (v := 0) dX12_streamOf_134 ci_0 rfl ?_
        refine ok_istore_n (q := 136) (ls' := [.ref b64, mm_U, .int 0]) dX12_streamOf_135 (Nat.le_of_ble_eq_true rfl) rfl rfl ?_
        refine ol_X12_streamOf_136 (fun b90 h89 k_b90 => ?_) mm_fu b64 0 h63 k_b64
        · refine ok_iconst (q := 233) (v := 0) dX12_streamOf_232 ci_0 rfl ?_
          refine ok_istore_n (q := 234) (ls' := [.ref b90, mm_U, .int 0]) dX12_streamOf_233 (Nat.le_of_ble_eq_true rfl) rfl rfl ?_
          refine ol_X12_streamOf_234  mm_fu b90 0 h89 k_b90
def jn_X12_cover_28 (kb : Nat → Nat → Int32 → Int32 → Int32 → mm_H → mm_O) (a0 : Nat) (a1 : Nat) (x2 : Int32) (x3 : Int32) (x4 : Int32) (h : mm_H) : mm_O := if mm_in (x2 + x4) (mm_ln h a1) = true then (mm_gr h a0 48 (fun b2 =>
  if mm_in (mm_rem x4 (64 : Int32)) (mm_ln h b2) = true then (if 32 ≤ a1 ∧ mm_in (x2 + x4) (mm_ln h a1) = true then (mm_bh (mm_si h a1 (mm_n (x2 + x4)) (mm_b8 (mm_b8 ((mm_i h a1 (mm_n (x2 + x4))) ^^^ (mm_i h b2 (mm_n (mm_rem x4 (64 : Int32)))))))) (fun h6 =>
  kb a0 a1 x2 x3 (x4 + 1) h6)) else none) else none)) else none
set_option maxHeartbeats 4000000 in
set_option maxRecDepth 100000 in
theorem oj_X12_cover_28 {G : mm_G} {kb : Nat → Nat → Int32 → Int32 → Int32 → mm_H → mm_O} (hkb : ∀ (a0 : Nat) (a1 : Nat) (x2 : Int32) (x3 : Int32) (x4 : Int32) (h : mm_H), mm_kd h a0 = 11 → mm_kd h a1 = 21 → mm_Ok G my_X12_cover 3 [.ref a0, .ref a1, .int x2, .int x3, .int x4] [] h (kb a0 a1 x2 x3 x4 h)) (a0 : Nat) (a1 : Nat) (x2 : Int32) (x3 : Int32) (x4 : Int32) (h : mm_H) (k_a0 : mm_kd h a0 = 11) (k_a1 : mm_kd h a1 = 21) : mm_Ok G my_X12_cover 28 [.ref a0, .ref a1, .int x2, .int x3, .int x4] [] h (jn_X12_cover_28 kb a0 a1 x2 x3 x4 h) := by
  unfold jn_X12_cover_28
  refine ok_aload_n (q := 29) dX12_cover_28 rfl rfl ?_
  refine ok_iload_n (q := 30) dX12_cover_29 rfl rfl ?_
  refine ok_iload (q := 32) dX12_cover_30 rfl rfl ?_
  refine ok_iadd (q := 33) dX12_cover_32 rfl ?_
  refine ok_dup2 (q := 34) dX12_cover_33 rfl rfl rfl ?_
  refine mm_ck (fun c1 => ?_)
  refine ok_bald (q := 35) dX12_cover_34 k_a1 c1 rfl ?_
  refine ok_aload_n (q := 36) dX12_cover_35 rfl rfl ?_
  refine ok_getR cl_11 (q := 39) (k := 48) dX12_cover_36 (Nat.le_of_ble_eq_true rfl) wd_1080 (fun _ _ _ => rfl) kt_11_48 k_a0 rfl (fun b2 k3 => ?_)
  refine ok_iload (q := 41) dX12_cover_39 rfl rfl ?_
  refine ok_bipush (q := 43) (v := 64) dX12_cover_41 cb_64 rfl ?_
  refine ok_irem (q := 44) dX12_cover_43 (by decide) rfl ?_
  refine mm_ck (fun c4 => ?_)
  refine ok_bald (q := 45) dX12_cover_44 k3 c4 rfl ?_
  refine ok_ixor (q := 46) dX12_cover_45 rfl ?_
  refine ok_i2b (q := 47) dX12_cover_46 rfl ?_
  refine mm_ck (fun c5 => ?_)
  refine ok_bast (q := 48) dX12_cover_47 k_a1 c5.1 c5.2 rfl (bh_ok (fun h6 e7 => ?_))
  have e7 : h6.1 = h.1 := e7
  refine ok_iinc (q := 51) (v := x4 + 1) (ls' := [.ref a0, .ref a1, .int x2, .int x3, .int (x4 + 1)]) dX12_cover_48 rfl (congrArg (x4 + ·) ci_1) (Nat.le_of_ble_eq_true rfl) rfl rfl ?_
  refine ok_goto (q := 3) dX12_cover_51 rfl ?_
  exact hkb a0 a1 x2 x3 (x4 + 1) h6 (mm_ke e7 k_a0) (mm_ke e7 k_a1)
def lp_X12_cover_3  : Nat → Nat → Nat → Int32 → Int32 → Int32 → mm_H → mm_O
  | 0, _, _, _, _, _, _ => none
  | n + 1, a0, a1, x2, x3, x4, h => if x3 ≤ x4 then
  (some (none, h))
  else
  (if (mm_rem x4 (64 : Int32)) = 0 then
  (mm_qv (bd_X12_streamOf a0 ((1 : Int32) + (x4 / (64 : Int32))) h) (fun h8 =>
  jn_X12_cover_28 (lp_X12_cover_3 n) a0 a1 x2 x3 x4 h8))
  else
  (jn_X12_cover_28 (lp_X12_cover_3 n) a0 a1 x2 x3 x4 h))
set_option maxHeartbeats 4000000 in
set_option maxRecDepth 100000 in
theorem ol_X12_cover_3 {G : mm_G}   : ∀ (n : Nat) (a0 : Nat) (a1 : Nat) (x2 : Int32) (x3 : Int32) (x4 : Int32) (h : mm_H), mm_kd h a0 = 11 → mm_kd h a1 = 21 → mm_Ok G my_X12_cover 3 [.ref a0, .ref a1, .int x2, .int x3, .int x4] [] h (lp_X12_cover_3 n a0 a1 x2 x3 x4 h) := by
  intro n
  induction n with
  | zero => intro a0 a1 x2 x3 x4 h k_a0 k_a1; exact mm_no
  | succ n ih =>
    intro a0 a1 x2 x3 x4 h k_a0 k_a1
    rw [lp_X12_cover_3]
    refine ok_iload (q := 5) dX12_cover_3 rfl rfl ?_
    refine ok_iload_n (q := 6) dX12_cover_5 rfl rfl ?_
    refine ok_icmp_ge (q := 9) (t := 54) dX12_cover_6 rfl rfl ?_ ?_
    · exact ok_ret dX12_cover_54 rfl
    · refine ok_iload (q := 11) dX12_cover_9 rfl rfl ?_
      refine ok_bipush (q := 13) (v := 64) dX12_cover_11 cb_64 rfl ?_
      refine ok_irem (q := 14) dX12_cover_13 (by decide) rfl ?_
      refine ok_if_ne (q := 17) (t := 28) dX12_cover_14 rfl rfl ?_ ?_
      · exact oj_X12_cover_28 ih a0 a1 x2 x3 x4 h k_a0 k_a1
      · refine ok_aload_n (q := 18) dX12_cover_17 rfl rfl ?_
        refine ok_iconst (q := 19) (v := 1) dX12_cover_18 ci_1 rfl ?_
        refine ok_iload (q := 21) dX12_cover_19 rfl rfl ?_
        refine ok_bipush (q := 23) (v := 64) dX12_cover_21 cb_64 rfl ?_
        refine ok_idiv (q := 24) dX12_cover_23 (by decide) rfl ?_
        refine ok_iadd (q := 25) dX12_cover_24 rfl ?_
        refine mm_cv (q := 28) (mt_X12_streamOf G a0 ((1 : Int32) + (x4 / (64 : Int32))) h k_a0) (mm_runV (as := [.int ((1 : Int32) + (x4 / (64 : Int32)))]) (st := []) cl_11 lk_X12_cover_X12_streamOf_349 rfl dX12_cover_25 rfl (Nat.le_of_ble_eq_true rfl) k_a0) rfl (fun h8 p9 => ?_)
        have k10 : mm_kd h8 a0 = 11 := mm_kd_app p9 k_a0 (by decide)
        have k11 : mm_kd h8 a1 = 21 := mm_kd_app p9 k_a1 (by decide)
        exact oj_X12_cover_28 ih a0 a1 x2 x3 x4 h8 k10 k11
def bd_X12_cover (a0 : Nat) (a1 : Nat) (x2 : Int32) (x3 : Int32) (h : mm_H) : mm_O := lp_X12_cover_3  mm_fu a0 a1 x2 x3 0 h
set_option maxHeartbeats 4000000 in
set_option maxRecDepth 100000 in
theorem mt_X12_cover (G : mm_G) (a0 : Nat) (a1 : Nat) (x2 : Int32) (x3 : Int32) (h : mm_H) (k_a0 : mm_kd h a0 = 11) (k_a1 : mm_kd h a1 = 21) : mm_Met G my_X12_cover [.ref a0, .ref a1, .int x2, .int x3] h (bd_X12_cover a0 a1 x2 x3 h) := by
  refine mm_met (ls := [.ref a0, .ref a1, .int x2, .int x3, mm_U]) pn_RX12 (Nat.le_of_ble_eq_true rfl) rfl ?_
  unfold bd_X12_cover
  refine ok_iconst (q := 1) (v := 0) dX12_cover_0 ci_0 rfl ?_
  refine ok_istore (q := 3) (ls' := [.ref a0, .ref a1, .int x2, .int x3, .int 0]) dX12_cover_1 (Nat.le_of_ble_eq_true rfl) rfl rfl ?_
  refine ol_X12_cover_3  mm_fu a0 a1 x2 x3 0 h k_a0 k_a1
def jn_X12_part_50 (kb : Nat → Int32 → Int64 → Int32 → mm_H → mm_O) (ke_56 : Int64 → mm_H → mm_O) (a0 : Nat) (x1 : Int32) (x2 : Int64) (x4 : Int32) (h : mm_H) : mm_O := kb a0 x1 x2 (x4 + 1) h
set_option maxHeartbeats 4000000 in
set_option maxRecDepth 100000 in
theorem oj_X12_part_50 {G : mm_G} {kb : Nat → Int32 → Int64 → Int32 → mm_H → mm_O} {ke_56 : Int64 → mm_H → mm_O} (hkb : ∀ (a0 : Nat) (x1 : Int32) (x2 : Int64) (x4 : Int32) (h : mm_H), mm_kd h a0 = 21 → mm_Ok G my_X12_part 5 [.ref a0, .int x1, .long x2, mm_U, .int x4, mm_U] [] h (kb a0 x1 x2 x4 h)) (hke_56 : ∀ (x2 : Int64) (h : mm_H), mm_Ok G my_X12_part 56 [mm_U, mm_U, .long x2, mm_U, mm_U, mm_U] [] h (ke_56 x2 h)) (a0 : Nat) (x1 : Int32) (x2 : Int64) (x4 : Int32) (h : mm_H) (k_a0 : mm_kd h a0 = 21) : mm_Ok G my_X12_part 50 [.ref a0, .int x1, .long x2, mm_U, .int x4, mm_U] [] h (jn_X12_part_50 kb ke_56 a0 x1 x2 x4 h) := by
  unfold jn_X12_part_50
  refine ok_iinc (q := 53) (v := x4 + 1) (ls' := [.ref a0, .int x1, .long x2, mm_U, .int (x4 + 1), mm_U]) dX12_part_50 rfl (congrArg (x4 + ·) ci_1) (Nat.le_of_ble_eq_true rfl) rfl rfl ?_
  refine ok_goto (q := 5) dX12_part_53 rfl ?_
  exact hkb a0 x1 x2 (x4 + 1) h k_a0
def lp_X12_part_5 (ke_56 : Int64 → mm_H → mm_O) : Nat → Nat → Int32 → Int64 → Int32 → mm_H → mm_O
  | 0, _, _, _, _, _ => none
  | n + 1, a0, x1, x2, x4, h => if (26 : Int32) ≤ x4 then
  (ke_56 x2 h)
  else
  (mm_bi (x1 + x4) (fun v1 =>
  if (nI (mm_ln h a0)) ≤ (v1 / (8 : Int32)) then
  (jn_X12_part_50 (lp_X12_part_5 ke_56 n) ke_56 a0 x1 x2 x4 h)
  else
  (if mm_in (v1 / (8 : Int32)) (mm_ln h a0) = true then (mm_bl (x2 ||| (mm_lshl (Int32.toInt64 ((mm_shr (mm_i h a0 (mm_n (v1 / (8 : Int32)))) (mm_rem v1 (8 : Int32))) &&& (1 : Int32))) x4)) (fun v3 =>
  jn_X12_part_50 (lp_X12_part_5 ke_56 n) ke_56 a0 x1 v3 x4 h)) else none)))
set_option maxHeartbeats 4000000 in
set_option maxRecDepth 100000 in
theorem ol_X12_part_5 {G : mm_G} {ke_56 : Int64 → mm_H → mm_O} (hke_56 : ∀ (x2 : Int64) (h : mm_H), mm_Ok G my_X12_part 56 [mm_U, mm_U, .long x2, mm_U, mm_U, mm_U] [] h (ke_56 x2 h)) : ∀ (n : Nat) (a0 : Nat) (x1 : Int32) (x2 : Int64) (x4 : Int32) (h : mm_H), mm_kd h a0 = 21 → mm_Ok G my_X12_part 5 [.ref a0, .int x1, .long x2, mm_U, .int x4, mm_U] [] h (lp_X12_part_5 ke_56 n a0 x1 x2 x4 h) := by
  intro n
  induction n with
  | zero => intro a0 x1 x2 x4 h k_a0; exact mm_no
  | succ n ih =>
    intro a0 x1 x2 x4 h k_a0
    rw [lp_X12_part_5]
    refine ok_iload (q := 7) dX12_part_5 rfl rfl ?_
    refine ok_bipush (q := 9) (v := 26) dX12_part_7 cb_26 rfl ?_
    refine ok_icmp_ge (q := 12) (t := 56) dX12_part_9 rfl rfl ?_ ?_
    · refine mm_wk [false, false, true, false, false, false] (ls' := [mm_U, mm_U, .long x2, mm_U, mm_U, mm_U]) rfl ?_
      exact hke_56 x2 h
    · refine ok_iload_n (q := 13) dX12_part_12 rfl rfl ?_
      refine ok_iload (q := 15) dX12_part_13 rfl rfl ?_
      refine ok_iadd (q := 16) dX12_part_15 rfl ?_
      refine bi_ok (fun v1 => ?_)
      refine ok_istore (q := 18) (ls' := [.ref a0, .int x1, .long x2, mm_U, .int x4, .int v1]) dX12_part_16 (Nat.le_of_ble_eq_true rfl) rfl rfl ?_
      refine ok_iload (q := 20) dX12_part_18 rfl rfl ?_
      refine ok_bipush (q := 22) (v := 8) dX12_part_20 cb_8 rfl ?_
      refine ok_idiv (q := 23) dX12_part_22 (by decide) rfl ?_
      refine ok_aload_n (q := 24) dX12_part_23 rfl rfl ?_
      refine ok_alen (q := 25) dX12_part_24 (by rw [k_a0]; decide) rfl ?_
      refine ok_icmp_ge (q := 28) (t := 50) dX12_part_25 rfl rfl ?_ ?_
      · refine mm_wk [true, true, true, false, true, false] (ls' := [.ref a0, .int x1, .long x2, mm_U, .int x4, mm_U]) rfl ?_
        exact oj_X12_part_50 ih hke_56 a0 x1 x2 x4 h k_a0
      · refine ok_lload_n (q := 29) dX12_part_28 rfl rfl ?_
        refine ok_aload_n (q := 30) dX12_part_29 rfl rfl ?_
        refine ok_iload (q := 32) dX12_part_30 rfl rfl ?_
        refine ok_bipush (q := 34) (v := 8) dX12_part_32 cb_8 rfl ?_
        refine ok_idiv (q := 35) dX12_part_34 (by decide) rfl ?_
        refine mm_ck (fun c2 => ?_)
        refine ok_bald (q := 36) dX12_part_35 k_a0 c2 rfl ?_
        refine ok_iload (q := 38) dX12_part_36 rfl rfl ?_
        refine ok_bipush (q := 40) (v := 8) dX12_part_38 cb_8 rfl ?_
        refine ok_irem (q := 41) dX12_part_40 (by decide) rfl ?_
        refine ok_ishr (q := 42) dX12_part_41 rfl ?_
        refine ok_iconst (q := 43) (v := 1) dX12_part_42 ci_1 rfl ?_
        refine ok_iand (q := 44) dX12_part_43 rfl ?_
        refine ok_i2l (q := 45) dX12_part_44 rfl ?_
        refine ok_iload (q := 47) dX12_part_45 rfl rfl ?_
        refine ok_lshl (q := 48) dX12_part_47 rfl ?_
        refine ok_lor (q := 49) dX12_part_48 rfl ?_
        refine bl_ok (fun v3 => ?_)
        refine ok_lstore_n (q := 50) (ls' := [.ref a0, .int x1, .long v3, mm_U, .int x4, .int v1]) dX12_part_49 (Nat.le_of_ble_eq_true rfl) rfl rfl ?_
        refine mm_wk [true, true, true, false, true, false] (ls' := [.ref a0, .int x1, .long v3, mm_U, .int x4, mm_U]) rfl ?_
        exact oj_X12_part_50 ih hke_56 a0 x1 v3 x4 h k_a0
def bd_X12_part (a0 : Nat) (x1 : Int32) (h : mm_H) : mm_O := lp_X12_part_5 (fun v5 h4 => some (some (.long v5), h4)) mm_fu a0 x1 0 0 h
set_option maxHeartbeats 4000000 in
set_option maxRecDepth 100000 in
theorem mt_X12_part (G : mm_G) (a0 : Nat) (x1 : Int32) (h : mm_H) (k_a0 : mm_kd h a0 = 21) : mm_Met G my_X12_part [.ref a0, .int x1] h (bd_X12_part a0 x1 h) := by
  refine mm_met (ls := [.ref a0, .int x1, mm_U, mm_U, mm_U, mm_U]) pn_RX12 (Nat.le_of_ble_eq_true rfl) rfl ?_
  unfold bd_X12_part
  refine ok_lconst (q := 1) (v := 0) dX12_part_0 rfl rfl ?_
  refine ok_lstore_n (q := 2) (ls' := [.ref a0, .int x1, .long 0, mm_U, mm_U, mm_U]) dX12_part_1 (Nat.le_of_ble_eq_true rfl) rfl rfl ?_
  refine ok_iconst (q := 3) (v := 0) dX12_part_2 ci_0 rfl ?_
  refine ok_istore (q := 5) (ls' := [.ref a0, .int x1, .long 0, mm_U, .int 0, mm_U]) dX12_part_3 (Nat.le_of_ble_eq_true rfl) rfl rfl ?_
  refine ol_X12_part_5 (fun v5 h4 => ?_) mm_fu a0 x1 0 0 h k_a0
  · refine ok_lload_n (q := 57) dX12_part_56 rfl rfl ?_
    exact ok_lret dX12_part_57 rfl
