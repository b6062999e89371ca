def lp_X12_mixBlock_2 (ke_86 : Nat → mm_H → mm_O) : Nat → Nat → Int32 → mm_H → mm_O
  | 0, _, _, _ => none
  | n + 1, a0, x1, h => if (16 : Int32) ≤ x1 then
  (ke_86 a0 h)
  else
  (mm_gr h a0 31 (fun b1 =>
  mm_gr h a0 33 (fun b3 =>
  if mm_in ((4 : Int32) * x1) (mm_ln h b3) = true then (mm_gr h a0 33 (fun b6 =>
  if mm_in (((4 : Int32) * x1) + (1 : Int32)) (mm_ln h b6) = true then (mm_gr h a0 33 (fun b9 =>
  if mm_in (((4 : Int32) * x1) + (2 : Int32)) (mm_ln h b9) = true then (mm_gr h a0 33 (fun b12 =>
  if mm_in (((4 : Int32) * x1) + (3 : Int32)) (mm_ln h b12) = true then (if 32 ≤ b1 ∧ mm_in x1 (mm_ln h b1) = true then (mm_bh (mm_si h b1 (mm_n x1) ((((mm_shl ((mm_i h b3 (mm_n ((4 : Int32) * x1))) &&& (255 : Int32)) (24 : Int32)) ||| (mm_shl ((mm_i h b6 (mm_n (((4 : Int32) * x1) + (1 : Int32)))) &&& (255 : Int32)) (16 : Int32))) ||| (mm_shl ((mm_i h b9 (mm_n (((4 : Int32) * x1) + (2 : Int32)))) &&& (255 : Int32)) (8 : Int32))) ||| ((mm_i h b12 (mm_n (((4 : Int32) * x1) + (3 : Int32)))) &&& (255 : Int32)))) (fun h16 =>
  lp_X12_mixBlock_2 ke_86 n a0 (x1 + 1) h16)) else none) else none)) else none)) else none)) else none)))
set_option maxHeartbeats 4000000 in
set_option maxRecDepth 100000 in
theorem ol_X12_mixBlock_2 {G : mm_G} {ke_86 : Nat → mm_H → mm_O} (hke_86 : ∀ (a0 : Nat) (h : mm_H), mm_kd h a0 = 11 → mm_Ok G my_X12_mixBlock 86 [.ref a0, mm_U, mm_U, mm_U, mm_U, mm_U, mm_U, mm_U, mm_U, mm_U, mm_U, mm_U] [] h (ke_86 a0 h)) : ∀ (n : Nat) (a0 : Nat) (x1 : Int32) (h : mm_H), mm_kd h a0 = 11 → mm_Ok G my_X12_mixBlock 2 [.ref a0, .int x1, mm_U, mm_U, mm_U, mm_U, mm_U, mm_U, mm_U, mm_U, mm_U, mm_U] [] h (lp_X12_mixBlock_2 ke_86 n a0 x1 h) := by
  intro n
  induction n with
  | zero => intro a0 x1 h k_a0; exact mm_no
  | succ n ih =>
    intro a0 x1 h k_a0
    rw [lp_X12_mixBlock_2]
    refine ok_iload_n (q := 3) dX12_mixBlock_2 rfl rfl ?_
    refine ok_bipush (q := 5) (v := 16) dX12_mixBlock_3 cb_16 rfl ?_
    refine ok_icmp_ge (q := 8) (t := 86) dX12_mixBlock_5 rfl rfl ?_ ?_
    · refine mm_wk [true, false, false, false, false, false, false, false, false, false, false, false] (ls' := [.ref a0, mm_U, mm_U, mm_U, mm_U, mm_U, mm_U, mm_U, mm_U, mm_U, mm_U, mm_U]) rfl ?_
      exact hke_86 a0 h k_a0
    · refine ok_aload_n (q := 9) dX12_mixBlock_8 rfl rfl ?_
      refine ok_getR cl_11 (q := 12) (k := 31) dX12_mixBlock_9 (Nat.le_of_ble_eq_true rfl) wd_1063 (fun _ _ _ => rfl) kt_11_31 k_a0 rfl (fun b1 k2 => ?_)
      refine ok_iload_n (q := 13) dX12_mixBlock_12 rfl rfl ?_
      refine ok_aload_n (q := 14) dX12_mixBlock_13 rfl rfl ?_
      refine ok_getR cl_11 (q := 17) (k := 33) dX12_mixBlock_14 (Nat.le_of_ble_eq_true rfl) wd_1065 (fun _ _ _ => rfl) kt_11_33 k_a0 rfl (fun b3 k4 => ?_)
      refine ok_iconst (q := 18) (v := 4) dX12_mixBlock_17 ci_4 rfl ?_
      refine ok_iload_n (q := 19) dX12_mixBlock_18 rfl rfl ?_
      refine ok_imul (q := 20) dX12_mixBlock_19 rfl ?_
      refine mm_ck (fun c5 => ?_)
      refine ok_bald (q := 21) dX12_mixBlock_20 k4 c5 rfl ?_
      refine ok_sipush (q := 24) (v := 255) dX12_mixBlock_21 cs_255 rfl ?_
      refine ok_iand (q := 25) dX12_mixBlock_24 rfl ?_
      refine ok_bipush (q := 27) (v := 24) dX12_mixBlock_25 cb_24 rfl ?_
      refine ok_ishl (q := 28) dX12_mixBlock_27 rfl ?_
      refine ok_aload_n (q := 29) dX12_mixBlock_28 rfl rfl ?_
      refine ok_getR cl_11 (q := 32) (k := 33) dX12_mixBlock_29 (Nat.le_of_ble_eq_true rfl) wd_1065 (fun _ _ _ => rfl) kt_11_33 k_a0 rfl (fun b6 k7 => ?_)
      refine ok_iconst (q := 33) (v := 4) dX12_mixBlock_32 ci_4 rfl ?_
      refine ok_iload_n (q := 34) dX12_mixBlock_33 rfl rfl ?_
      refine ok_imul (q := 35) dX12_mixBlock_34 rfl ?_
      refine ok_iconst (q := 36) (v := 1) dX12_mixBlock_35 ci_1 rfl ?_
      refine ok_iadd (q := 37) dX12_mixBlock_36 rfl ?_
      refine mm_ck (fun c8 => ?_)
      refine ok_bald (q := 38) dX12_mixBlock_37 k7 c8 rfl ?_
      refine ok_sipush (q := 41) (v := 255) dX12_mixBlock_38 cs_255 rfl ?_
      refine ok_iand (q := 42) dX12_mixBlock_41 rfl ?_
      refine ok_bipush (q := 44) (v := 16) dX12_mixBlock_42 cb_16 rfl ?_
      refine ok_ishl (q := 45) dX12_mixBlock_44 rfl ?_
      refine ok_ior (q := 46) dX12_mixBlock_45 rfl ?_
      refine ok_aload_n (q := 47) dX12_mixBlock_46 rfl rfl ?_
      refine ok_getR cl_11 (q := 50) (k := 33) dX12_mixBlock_47 (Nat.le_of_ble_eq_true rfl) wd_1065 (fun _ _ _ => rfl) kt_11_33 k_a0 rfl (fun b9 k10 => ?_)
      refine ok_iconst (q := 51) (v := 4) dX12_mixBlock_50 ci_4 rfl ?_
      refine ok_iload_n (q := 52) dX12_mixBlock_51 rfl rfl ?_
      refine ok_imul (q := 53) dX12_mixBlock_52 rfl ?_
      refine ok_iconst (q := 54) (v := 2) dX12_mixBlock_53 ci_2 rfl ?_
      refine ok_iadd (q := 55) dX12_mixBlock_54 rfl ?_
      refine mm_ck (fun c11 => ?_)
      refine ok_bald (q := 56) dX12_mixBlock_55 k10 c11 rfl ?_
      refine ok_sipush (q := 59) (v := 255) dX12_mixBlock_56 cs_255 rfl ?_
      refine ok_iand (q := 60) dX12_mixBlock_59 rfl ?_
      refine ok_bipush (q := 62) (v := 8) dX12_mixBlock_60 cb_8 rfl ?_
      refine ok_ishl (q := 63) dX12_mixBlock_62 rfl ?_
      refine ok_ior (q := 64) dX12_mixBlock_63 rfl ?_
      refine ok_aload_n (q := 65) dX12_mixBlock_64 rfl rfl ?_
      refine ok_getR cl_11 (q := 68) (k := 33) dX12_mixBlock_65 (Nat.le_of_ble_eq_true rfl) wd_1065 (fun _ _ _ => rfl) kt_11_33 k_a0 rfl (fun b12 k13 => ?_)
      refine ok_iconst (q := 69) (v := 4) dX12_mixBlock_68 ci_4 rfl ?_
      refine ok_iload_n (q := 70) dX12_mixBlock_69 rfl rfl ?_
      refine ok_imul (q := 71) dX12_mixBlock_70 rfl ?_
      refine ok_iconst (q := 72) (v := 3) dX12_mixBlock_71 ci_3 rfl ?_
      refine ok_iadd (q := 73) dX12_mixBlock_72 rfl ?_
      refine mm_ck (fun c14 => ?_)
      refine ok_bald (q := 74) dX12_mixBlock_73 k13 c14 rfl ?_
      refine ok_sipush (q := 77) (v := 255) dX12_mixBlock_74 cs_255 rfl ?_
      refine ok_iand (q := 78) dX12_mixBlock_77 rfl ?_
      refine ok_ior (q := 79) dX12_mixBlock_78 rfl ?_
      refine mm_ck (fun c15 => ?_)
      refine ok_iast (q := 80) dX12_mixBlock_79 k2 c15.1 c15.2 rfl (bh_ok (fun h16 e17 => ?_))
      have e17 : h16.1 = h.1 := e17
      refine ok_iinc (q := 83) (v := x1 + 1) (ls' := [.ref a0, .int (x1 + 1), mm_U, mm_U, mm_U, mm_U, mm_U, mm_U, mm_U, mm_U, mm_U, mm_U]) dX12_mixBlock_80 rfl (congrArg (x1 + ·) ci_1) (Nat.le_of_ble_eq_true rfl) rfl rfl ?_
      refine ok_goto (q := 2) dX12_mixBlock_83 rfl ?_
      exact ih a0 (x1 + 1) h16 (mm_ke e17 k_a0)
def lp_X12_mixBlock_89 (ke_182 : Nat → mm_H → mm_O) : Nat → Nat → Int32 → mm_H → mm_O
  | 0, _, _, _ => none
  | n + 1, a0, x1, h => if (64 : Int32) ≤ x1 then
  (ke_182 a0 h)
  else
  (mm_gr h a0 31 (fun b20 =>
  if mm_in (x1 - (15 : Int32)) (mm_ln h b20) = true then (mm_bi (mm_i h b20 (mm_n (x1 - (15 : Int32)))) (fun v23 =>
  mm_gr h a0 31 (fun b24 =>
  if mm_in (x1 - (2 : Int32)) (mm_ln h b24) = true then (mm_bi (mm_i h b24 (mm_n (x1 - (2 : Int32)))) (fun v27 =>
  mm_gr h a0 31 (fun b28 =>
  mm_gr h a0 31 (fun b30 =>
  if mm_in (x1 - (16 : Int32)) (mm_ln h b30) = true then (mm_qi (bd_X12_turn v23 7 h) (fun v35 h33 =>
  mm_qi (bd_X12_turn v23 18 h33) (fun v40 h38 =>
  mm_gr h38 a0 31 (fun b43 =>
  if mm_in (x1 - (7 : Int32)) (mm_ln h38 b43) = true then (mm_qi (bd_X12_turn v27 17 h38) (fun v48 h46 =>
  mm_qi (bd_X12_turn v27 19 h46) (fun v53 h51 =>
  if 32 ≤ b28 ∧ mm_in x1 (mm_ln h51 b28) = true then (mm_bh (mm_si h51 b28 (mm_n x1) ((((mm_i h b30 (mm_n (x1 - (16 : Int32)))) + ((v35 ^^^ v40) ^^^ (mm_ush v23 (3 : Int32)))) + (mm_i h38 b43 (mm_n (x1 - (7 : Int32))))) + ((v48 ^^^ v53) ^^^ (mm_ush v27 (10 : Int32))))) (fun h57 =>
  lp_X12_mixBlock_89 ke_182 n a0 (x1 + 1) h57)) else none))) else none)))) else none)))) else none))) else none))
set_option maxHeartbeats 4000000 in
set_option maxRecDepth 100000 in
theorem ol_X12_mixBlock_89 {G : mm_G} {ke_182 : Nat → mm_H → mm_O} (hke_182 : ∀ (a0 : Nat) (h : mm_H), mm_kd h a0 = 11 → mm_Ok G my_X12_mixBlock 182 [.ref a0, mm_U, mm_U, mm_U, mm_U, mm_U, mm_U, mm_U, mm_U, mm_U, mm_U, mm_U] [] h (ke_182 a0 h)) : ∀ (n : Nat) (a0 : Nat) (x1 : Int32) (h : mm_H), mm_kd h a0 = 11 → mm_Ok G my_X12_mixBlock 89 [.ref a0, .int x1, mm_U, mm_U, mm_U, mm_U, mm_U, mm_U, mm_U, mm_U, mm_U, mm_U] [] h (lp_X12_mixBlock_89 ke_182 n a0 x1 h) := by
  intro n
  induction n with
  | zero => intro a0 x1 h k_a0; exact mm_no
  | succ n ih =>
    intro a0 x1 h k_a0
    rw [lp_X12_mixBlock_89]
    refine ok_iload_n (q := 90) dX12_mixBlock_89 rfl rfl ?_
    refine ok_bipush (q := 92) (v := 64) dX12_mixBlock_90 cb_64 rfl ?_
    refine ok_icmp_ge (q := 95) (t := 182) dX12_mixBlock_92 rfl rfl ?_ ?_
    · refine mm_wk [true, false, false, false, false, false, false, false, false, false, false, false] (ls' := [.ref a0, mm_U, mm_U, mm_U, mm_U, mm_U, mm_U, mm_U, mm_U, mm_U, mm_U, mm_U]) rfl ?_
      exact hke_182 a0 h k_a0
    · refine ok_aload_n (q := 96) dX12_mixBlock_95 rfl rfl ?_
      refine ok_getR cl_11 (q := 99) (k := 31) dX12_mixBlock_96 (Nat.le_of_ble_eq_true rfl) wd_1063 (fun _ _ _ => rfl) kt_11_31 k_a0 rfl (fun b20 k21 => ?_)
      refine ok_iload_n (q := 100) dX12_mixBlock_99 rfl rfl ?_
      refine ok_bipush (q := 102) (v := 15) dX12_mixBlock_100 cb_15 rfl ?_
      refine ok_isub (q := 103) dX12_mixBlock_102 rfl ?_
      refine mm_ck (fun c22 => ?_)
      refine ok_iald (q := 104) dX12_mixBlock_103 k21 c22 rfl ?_
      refine bi_ok (fun v23 => ?_)
      refine ok_istore_n (q := 105) (ls' := [.ref a0, .int x1, .int v23, mm_U, mm_U, mm_U, mm_U, mm_U, mm_U, mm_U, mm_U, mm_U]) dX12_mixBlock_104 (Nat.le_of_ble_eq_true rfl) rfl rfl ?_
      refine ok_aload_n (q := 106) dX12_mixBlock_105 rfl rfl ?_
      refine ok_getR cl_11 (q := 109) (k := 31) dX12_mixBlock_106 (Nat.le_of_ble_eq_true rfl) wd_1063 (fun _ _ _ => rfl) kt_11_31 k_a0 rfl (fun b24 k25 => ?_)
      refine ok_iload_n (q := 110) dX12_mixBlock_109 rfl rfl ?_
      refine ok_iconst (q := 111) (v := 2) dX12_mixBlock_110 ci_2 rfl ?_
      refine ok_isub (q := 112) dX12_mixBlock_111 rfl ?_
      refine mm_ck (fun c26 => ?_)
      refine ok_iald (q := 113) dX12_mixBlock_112 k25 c26 rfl ?_
      refine bi_ok (fun v27 => ?_)
      refine ok_istore_n (q := 114) (ls' := [.ref a0, .int x1, .int v23, .int v27, mm_U, mm_U, mm_U, mm_U, mm_U, mm_U, mm_U, mm_U]) dX12_mixBlock_113 (Nat.le_of_ble_eq_true rfl) rfl rfl ?_
      refine ok_aload_n (q := 115) dX12_mixBlock_114 rfl rfl ?_
      refine ok_getR cl_11 (q := 118) (k := 31) dX12_mixBlock_115 (Nat.le_of_ble_eq_true rfl) wd_1063 (fun _ _ _ => rfl) kt_11_31 k_a0 rfl (fun b28 k29 => ?_)
      refine ok_iload_n (q := 119) dX12_mixBlock_118 rfl rfl ?_
      refine ok_aload_n (q := 120) dX12_mixBlock_119 rfl rfl ?_
      refine ok_getR cl_11 (q := 123) (k := 31) dX12_mixBlock_120 (Nat.le_of_ble_eq_true rfl) wd_1063 (fun _ _ _ => rfl) kt_11_31 k_a0 rfl (fun b30 k31 => ?_)
      refine ok_iload_n (q := 124) dX12_mixBlock_123 rfl rfl ?_
      refine ok_bipush (q := 126) (v := 16) dX12_mixBlock_124 cb_16 rfl ?_
      refine ok_isub (q := 127) dX12_mixBlock_126 rfl ?_
      refine mm_ck (fun c32 => ?_)
      refine ok_iald (q := 128) dX12_mixBlock_127 k31 c32 rfl ?_
      refine ok_iload_n (q := 129) dX12_mixBlock_128 rfl rfl ?_
      refine ok_bipush (q := 131) (v := 7) dX12_mixBlock_129 cb_7 rfl ?_
      refine mm_ci (q := 134) (mt_X12_turn G v23 7 h ) (mm_runS (as := [.int v23, .int 7]) (st := [.int (mm_i h b30 (mm_n (x1 - (16 : Int32)))), .int x1, .ref b28]) lk_X12_mixBlock_X12_turn_264 dX12_mixBlock_131 rfl (Nat.le_of_ble_eq_true rfl)) rfl (fun v35 h33 p34 => ?_)
      have k36 : mm_kd h33 a0 = 11 := mm_kd_app p34 k_a0 (by decide)
      have k37 : mm_kd h33 b28 = 20 := mm_kd_app p34 k29 (by decide)
      refine ok_iload_n (q := 135) dX12_mixBlock_134 rfl rfl ?_
      refine ok_bipush (q := 137) (v := 18) dX12_mixBlock_135 cb_18 rfl ?_
      refine mm_ci (q := 140) (mt_X12_turn G v23 18 h33 ) (mm_runS (as := [.int v23, .int 18]) (st := [.int v35, .int (mm_i h b30 (mm_n (x1 - (16 : Int32)))), .int x1, .ref b28]) lk_X12_mixBlock_X12_turn_264 dX12_mixBlock_137 rfl (Nat.le_of_ble_eq_true rfl)) rfl (fun v40 h38 p39 => ?_)
      have k41 : mm_kd h38 a0 = 11 := mm_kd_app p39 k36 (by decide)
      have k42 : mm_kd h38 b28 = 20 := mm_kd_app p39 k37 (by decide)
      refine ok_ixor (q := 141) dX12_mixBlock_140 rfl ?_
      refine ok_iload_n (q := 142) dX12_mixBlock_141 rfl rfl ?_
      refine ok_iconst (q := 143) (v := 3) dX12_mixBlock_142 ci_3 rfl ?_
      refine ok_iushr (q := 144) dX12_mixBlock_143 rfl ?_
      refine ok_ixor (q := 145) dX12_mixBlock_144 rfl ?_
      refine ok_iadd (q := 146) dX12_mixBlock_145 rfl ?_
      refine ok_aload_n (q := 147) dX12_mixBlock_146 rfl rfl ?_
      refine ok_getR cl_11 (q := 150) (k := 31) dX12_mixBlock_147 (Nat.le_of_ble_eq_true rfl) wd_1063 (fun _ _ _ => rfl) kt_11_31 k41 rfl (fun b43 k44 => ?_)
      refine ok_iload_n (q := 151) dX12_mixBlock_150 rfl rfl ?_
      refine ok_bipush (q := 153) (v := 7) dX12_mixBlock_151 cb_7 rfl ?_
      refine ok_isub (q := 154) dX12_mixBlock_153 rfl ?_
      refine mm_ck (fun c45 => ?_)
      refine ok_iald (q := 155) dX12_mixBlock_154 k44 c45 rfl ?_
      refine ok_iadd (q := 156) dX12_mixBlock_155 rfl ?_
      refine ok_iload_n (q := 157) dX12_mixBlock_156 rfl rfl ?_
      refine ok_bipush (q := 159) (v := 17) dX12_mixBlock_157 cb_17 rfl ?_
      refine mm_ci (q := 162) (mt_X12_turn G v27 17 h38 ) (mm_runS (as := [.int v27, .int 17]) (st := [.int (((mm_i h b30 (mm_n (x1 - (16 : Int32)))) + ((v35 ^^^ v40) ^^^ (mm_ush v23 (3 : Int32)))) + (mm_i h38 b43 (mm_n (x1 - (7 : Int32))))), .int x1, .ref b28]) lk_X12_mixBlock_X12_turn_264 dX12_mixBlock_159 rfl (Nat.le_of_ble_eq_true rfl)) rfl (fun v48 h46 p47 => ?_)
      have k49 : mm_kd h46 a0 = 11 := mm_kd_app p47 k41 (by decide)
      have k50 : mm_kd h46 b28 = 20 := mm_kd_app p47 k42 (by decide)
      refine ok_iload_n (q := 163) dX12_mixBlock_162 rfl rfl ?_
      refine ok_bipush (q := 165) (v := 19) dX12_mixBlock_163 cb_19 rfl ?_
      refine mm_ci (q := 168) (mt_X12_turn G v27 19 h46 ) (mm_runS (as := [.int v27, .int 19]) (st := [.int v48, .int (((mm_i h b30 (mm_n (x1 - (16 : Int32)))) + ((v35 ^^^ v40) ^^^ (mm_ush v23 (3 : Int32)))) + (mm_i h38 b43 (mm_n (x1 - (7 : Int32))))), .int x1, .ref b28]) lk_X12_mixBlock_X12_turn_264 dX12_mixBlock_165 rfl (Nat.le_of_ble_eq_true rfl)) rfl (fun v53 h51 p52 => ?_)
      have k54 : mm_kd h51 a0 = 11 := mm_kd_app p52 k49 (by decide)
      have k55 : mm_kd h51 b28 = 20 := mm_kd_app p52 k50 (by decide)
      refine ok_ixor (q := 169) dX12_mixBlock_168 rfl ?_
      refine ok_iload_n (q := 170) dX12_mixBlock_169 rfl rfl ?_
      refine ok_bipush (q := 172) (v := 10) dX12_mixBlock_170 cb_10 rfl ?_
      refine ok_iushr (q := 173) dX12_mixBlock_172 rfl ?_
      refine ok_ixor (q := 174) dX12_mixBlock_173 rfl ?_
      refine ok_iadd (q := 175) dX12_mixBlock_174 rfl ?_
      refine mm_ck (fun c56 => ?_)
      refine ok_iast (q := 176) dX12_mixBlock_175 k55 c56.1 c56.2 rfl (bh_ok (fun h57 e58 => ?_))
      have e58 : h57.1 = h51.1 := e58
      refine ok_iinc (q := 179) (v := x1 + 1) (ls' := [.ref a0, .int (x1 + 1), .int v23, .int v27, mm_U, mm_U, mm_U, mm_U, mm_U, mm_U, mm_U, mm_U]) dX12_mixBlock_176 rfl (congrArg (x1 + ·) ci_1) (Nat.le_of_ble_eq_true rfl) rfl rfl ?_
      refine ok_goto (q := 89) dX12_mixBlock_179 rfl ?_
      refine mm_wk [true, true, false, false, false, false, false, false, false, false, false, false] (ls' := [.ref a0, .int (x1 + 1), mm_U, mm_U, mm_U, mm_U, mm_U, mm_U, mm_U, mm_U, mm_U, mm_U]) rfl ?_
      exact ih a0 (x1 + 1) h57 (mm_ke e58 k54)
def lp_X12_mixBlock_248 (ke_384 : Nat → Int32 → Int32 → Int32 → Int32 → Int32 → Int32 → Int32 → Int32 → mm_H → mm_O) : Nat → Nat → Int32 → Int32 → Int32 → Int32 → Int32 → Int32 → Int32 → Int32 → Int32 → mm_H → mm_O
  | 0, _, _, _, _, _, _, _, _, _, _, _ => none
  | n + 1, a0, x1, x2, x3, x4, x5, x6, x7, x8, x9, h => if (64 : Int32) ≤ x9 then
  (ke_384 a0 x1 x2 x3 x4 x5 x6 x7 x8 h)
  else
  (mm_qi (bd_X12_turn x5 6 h) (fun v95 h93 =>
  mm_qi (bd_X12_turn x5 11 h93) (fun v99 h97 =>
  mm_qi (bd_X12_turn x5 25 h97) (fun v103 h101 =>
  mm_gr h101 a0 30 (fun b105 =>
  if mm_in x9 (mm_ln h101 b105) = true then (mm_gr h101 a0 31 (fun b108 =>
  if mm_in x9 (mm_ln h101 b108) = true then (mm_bi ((((x8 + ((v95 ^^^ v99) ^^^ v103)) + ((x5 &&& x6) ^^^ ((x5 ^^^ (-1 : Int32)) &&& x7))) + (mm_i h101 b105 (mm_n x9))) + (mm_i h101 b108 (mm_n x9))) (fun v111 =>
  mm_qi (bd_X12_turn x1 2 h101) (fun v114 h112 =>
  mm_qi (bd_X12_turn x1 13 h112) (fun v118 h116 =>
  mm_qi (bd_X12_turn x1 22 h116) (fun v122 h120 =>
  mm_bi (((v114 ^^^ v118) ^^^ v122) + (((x1 &&& x2) ^^^ (x1 &&& x3)) ^^^ (x2 &&& x3))) (fun v124 =>
  mm_bi (x4 + v111) (fun v125 =>
  mm_bi (v111 + v124) (fun v126 =>
  lp_X12_mixBlock_248 ke_384 n a0 v126 x1 x2 x3 v125 x5 x6 x7 (x9 + 1) h120)))))))) else none)) else none)))))
set_option maxHeartbeats 4000000 in
set_option maxRecDepth 100000 in
theorem ol_X12_mixBlock_248 {G : mm_G} {ke_384 : Nat → Int32 → Int32 → Int32 → Int32 → Int32 → Int32 → Int32 → Int32 → mm_H → mm_O} (hke_384 : ∀ (a0 : Nat) (x1 : Int32) (x2 : Int32) (x3 : Int32) (x4 : Int32) (x5 : Int32) (x6 : Int32) (x7 : Int32) (x8 : Int32) (h : mm_H), mm_kd h a0 = 11 → mm_Ok G my_X12_mixBlock 384 [.ref a0, .int x1, .int x2, .int x3, .int x4, .int x5, .int x6, .int x7, .int x8, mm_U, mm_U, mm_U] [] h (ke_384 a0 x1 x2 x3 x4 x5 x6 x7 x8 h)) : ∀ (n : Nat) (a0 : Nat) (x1 : Int32) (x2 : Int32) (x3 : Int32) (x4 : Int32) (x5 : Int32) (x6 : Int32) (x7 : Int32) (x8 : Int32) (x9 : Int32) (h : mm_H), mm_kd h a0 = 11 → mm_Ok G my_X12_mixBlock 248 [.ref a0, .int x1, .int x2, .int x3, .int x4, .int x5, .int x6, .int x7, .int x8, .int x9, mm_U, mm_U] [] h (lp_X12_mixBlock_248 ke_384 n a0 x1 x2 x3 x4 x5 x6 x7 x8 x9 h) := by
  intro n
  induction n with
  | zero => intro a0 x1 x2 x3 x4 x5 x6 x7 x8 x9 h k_a0; exact mm_no
  | succ n ih =>
    intro a0 x1 x2 x3 x4 x5 x6 x7 x8 x9 h k_a0
    rw [lp_X12_mixBlock_248]
    refine ok_iload (q := 250) dX12_mixBlock_248 rfl rfl ?_
    refine ok_bipush (q := 252) (v := 64) dX12_mixBlock_250 cb_64 rfl ?_
    refine ok_icmp_ge (q := 255) (t := 384) dX12_mixBlock_252 rfl rfl ?_ ?_
    · refine mm_wk [true, true, true, true, true, true, true, true, true, false, false, false] (ls' := [.ref a0, .int x1, .int x2, .int x3, .int x4, .int x5, .int x6, .int x7, .int x8, mm_U, mm_U, mm_U]) rfl ?_
      exact hke_384 a0 x1 x2 x3 x4 x5 x6 x7 x8 h k_a0
    · refine ok_iload (q := 257) dX12_mixBlock_255 rfl rfl ?_
      refine ok_iload (q := 259) dX12_mixBlock_257 rfl rfl ?_
      refine ok_bipush (q := 261) (v := 6) dX12_mixBlock_259 cb_6 rfl ?_
      refine mm_ci (q := 264) (mt_X12_turn G x5 6 h ) (mm_runS (as := [.int x5, .int 6]) (st := [.int x8]) lk_X12_mixBlock_X12_turn_264 dX12_mixBlock_261 rfl (Nat.le_of_ble_eq_true rfl)) rfl (fun v95 h93 p94 => ?_)
      have k96 : mm_kd h93 a0 = 11 := mm_kd_app p94 k_a0 (by decide)
      refine ok_iload (q := 266) dX12_mixBlock_264 rfl rfl ?_
      refine ok_bipush (q := 268) (v := 11) dX12_mixBlock_266 cb_11 rfl ?_
      refine mm_ci (q := 271) (mt_X12_turn G x5 11 h93 ) (mm_runS (as := [.int x5, .int 11]) (st := [.int v95, .int x8]) lk_X12_mixBlock_X12_turn_264 dX12_mixBlock_268 rfl (Nat.le_of_ble_eq_true rfl)) rfl (fun v99 h97 p98 => ?_)
      have k100 : mm_kd h97 a0 = 11 := mm_kd_app p98 k96 (by decide)
      refine ok_ixor (q := 272) dX12_mixBlock_271 rfl ?_
      refine ok_iload (q := 274) dX12_mixBlock_272 rfl rfl ?_
      refine ok_bipush (q := 276) (v := 25) dX12_mixBlock_274 cb_25 rfl ?_
      refine mm_ci (q := 279) (mt_X12_turn G x5 25 h97 ) (mm_runS (as := [.int x5, .int 25]) (st := [.int (v95 ^^^ v99), .int x8]) lk_X12_mixBlock_X12_turn_264 dX12_mixBlock_276 rfl (Nat.le_of_ble_eq_true rfl)) rfl (fun v103 h101 p102 => ?_)
      have k104 : mm_kd h101 a0 = 11 := mm_kd_app p102 k100 (by decide)
      refine ok_ixor (q := 280) dX12_mixBlock_279 rfl ?_
      refine ok_iadd (q := 281) dX12_mixBlock_280 rfl ?_
      refine ok_iload (q := 283) dX12_mixBlock_281 rfl rfl ?_
      refine ok_iload (q := 285) dX12_mixBlock_283 rfl rfl ?_
      refine ok_iand (q := 286) dX12_mixBlock_285 rfl ?_
      refine ok_iload (q := 288) dX12_mixBlock_286 rfl rfl ?_
      refine ok_iconst (q := 289) (v := -1) dX12_mixBlock_288 ci_m1 rfl ?_
      refine ok_ixor (q := 290) dX12_mixBlock_289 rfl ?_
      refine ok_iload (q := 292) dX12_mixBlock_290 rfl rfl ?_
      refine ok_iand (q := 293) dX12_mixBlock_292 rfl ?_
      refine ok_ixor (q := 294) dX12_mixBlock_293 rfl ?_
      refine ok_iadd (q := 295) dX12_mixBlock_294 rfl ?_
      refine ok_aload_n (q := 296) dX12_mixBlock_295 rfl rfl ?_
      refine ok_getR cl_11 (q := 299) (k := 30) dX12_mixBlock_296 (Nat.le_of_ble_eq_true rfl) wd_1062 (fun _ _ _ => rfl) kt_11_30 k104 rfl (fun b105 k106 => ?_)
      refine ok_iload (q := 301) dX12_mixBlock_299 rfl rfl ?_
      refine mm_ck (fun c107 => ?_)
      refine ok_iald (q := 302) dX12_mixBlock_301 k106 c107 rfl ?_
      refine ok_iadd (q := 303) dX12_mixBlock_302 rfl ?_
      refine ok_aload_n (q := 304) dX12_mixBlock_303 rfl rfl ?_
      refine ok_getR cl_11 (q := 307) (k := 31) dX12_mixBlock_304 (Nat.le_of_ble_eq_true rfl) wd_1063 (fun _ _ _ => rfl) kt_11_31 k104 rfl (fun b108 k109 => ?_)
      refine ok_iload (q := 309) dX12_mixBlock_307 rfl rfl ?_
      refine mm_ck (fun c110 => ?_)
      refine ok_iald (q := 310) dX12_mixBlock_309 k109 c110 rfl ?_
      refine ok_iadd (q := 311) dX12_mixBlock_310 rfl ?_
      refine bi_ok (fun v111 => ?_)
      refine ok_istore (q := 313) (ls' := [.ref a0, .int x1, .int x2, .int x3, .int x4, .int x5, .int x6, .int x7, .int x8, .int x9, .int v111, mm_U]) dX12_mixBlock_311 (Nat.le_of_ble_eq_true rfl) rfl rfl ?_
      refine ok_iload_n (q := 314) dX12_mixBlock_313 rfl rfl ?_
      refine ok_iconst (q := 315) (v := 2) dX12_mixBlock_314 ci_2 rfl ?_
      refine mm_ci (q := 318) (mt_X12_turn G x1 2 h101 ) (mm_runS (as := [.int x1, .int 2]) (st := []) lk_X12_mixBlock_X12_turn_264 dX12_mixBlock_315 rfl (Nat.le_of_ble_eq_true rfl)) rfl (fun v114 h112 p113 => ?_)
      have k115 : mm_kd h112 a0 = 11 := mm_kd_app p113 k104 (by decide)
      refine ok_iload_n (q := 319) dX12_mixBlock_318 rfl rfl ?_
      refine ok_bipush (q := 321) (v := 13) dX12_mixBlock_319 cb_13 rfl ?_
      refine mm_ci (q := 324) (mt_X12_turn G x1 13 h112 ) (mm_runS (as := [.int x1, .int 13]) (st := [.int v114]) lk_X12_mixBlock_X12_turn_264 dX12_mixBlock_321 rfl (Nat.le_of_ble_eq_true rfl)) rfl (fun v118 h116 p117 => ?_)
      have k119 : mm_kd h116 a0 = 11 := mm_kd_app p117 k115 (by decide)
      refine ok_ixor (q := 325) dX12_mixBlock_324 rfl ?_
      refine ok_iload_n (q := 326) dX12_mixBlock_325 rfl rfl ?_
      refine ok_bipush (q := 328) (v := 22) dX12_mixBlock_326 cb_22 rfl ?_
      refine mm_ci (q := 331) (mt_X12_turn G x1 22 h116 ) (mm_runS (as := [.int x1, .int 22]) (st := [.int (v114 ^^^ v118)]) lk_X12_mixBlock_X12_turn_264 dX12_mixBlock_328 rfl (Nat.le_of_ble_eq_true rfl)) rfl (fun v122 h120 p121 => ?_)
      have k123 : mm_kd h120 a0 = 11 := mm_kd_app p121 k119 (by decide)
      refine ok_ixor (q := 332) dX12_mixBlock_331 rfl ?_
      refine ok_iload_n (q := 333) dX12_mixBlock_332 rfl rfl ?_
      refine ok_iload_n (q := 334) dX12_mixBlock_333 rfl rfl ?_
      refine ok_iand (q := 335) dX12_mixBlock_334 rfl ?_
      refine ok_iload_n (q := 336) dX12_mixBlock_335 rfl rfl ?_
      refine ok_iload_n (q := 337) dX12_mixBlock_336 rfl rfl ?_
      refine ok_iand (q := 338) dX12_mixBlock_337 rfl ?_
      refine ok_ixor (q := 339) dX12_mixBlock_338 rfl ?_
      refine ok_iload_n (q := 340) dX12_mixBlock_339 rfl rfl ?_
      refine ok_iload_n (q := 341) dX12_mixBlock_340 rfl rfl ?_
      refine ok_iand (q := 342) dX12_mixBlock_341 rfl ?_
      refine ok_ixor (q := 343) dX12_mixBlock_342 rfl ?_
      refine ok_iadd (q := 344) dX12_mixBlock_343 rfl ?_
      refine bi_ok (fun v124 => ?_)
      refine ok_istore (q := 346) (ls' := [.ref a0, .int x1, .int x2, .int x3, .int x4, .int x5, .int x6, .int x7, .int x8, .int x9, .int v111, .int v124]) dX12_mixBlock_344 (Nat.le_of_ble_eq_true rfl) rfl rfl ?_
      refine ok_iload (q := 348) dX12_mixBlock_346 rfl rfl ?_
      refine ok_istore (q := 350) (ls' := [.ref a0, .int x1, .int x2, .int x3, .int x4, .int x5, .int x6, .int x7, .int x7, .int x9, .int v111, .int v124]) dX12_mixBlock_348 (Nat.le_of_ble_eq_true rfl) rfl rfl ?_
      refine ok_iload (q := 352) dX12_mixBlock_350 rfl rfl ?_
      refine ok_istore (q := 354) (ls' := [.ref a0, .int x1, .int x2, .int x3, .int x4, .int x5, .int x6, .int x6, .int x7, .int x9, .int v111, .int v124]) dX12_mixBlock_352 (Nat.le_of_ble_eq_true rfl) rfl rfl ?_
      refine ok_iload (q := 356) dX12_mixBlock_354 rfl rfl ?_
      refine ok_istore (q := 358) (ls' := [.ref a0, .int x1, .int x2, .int x3, .int x4, .int x5, .int x5, .int x6, .int x7, .int x9, .int v111, .int v124]) dX12_mixBlock_356 (Nat.le_of_ble_eq_true rfl) rfl rfl ?_
      refine ok_iload (q := 360) dX12_mixBlock_358 rfl rfl ?_
      refine ok_iload (q := 362) dX12_mixBlock_360 rfl rfl ?_
      refine ok_iadd (q := 363) dX12_mixBlock_362 rfl ?_
      refine bi_ok (fun v125 => ?_)
      refine ok_istore (q := 365) (ls' := [.ref a0, .int x1, .int x2, .int x3, .int x4, .int v125, .int x5, .int x6, .int x7, .int x9, .int v111, .int v124]) dX12_mixBlock_363 (Nat.le_of_ble_eq_true rfl) rfl rfl ?_
      refine ok_iload_n (q := 366) dX12_mixBlock_365 rfl rfl ?_
      refine ok_istore (q := 368) (ls' := [.ref a0, .int x1, .int x2, .int x3, .int x3, .int v125, .int x5, .int x6, .int x7, .int x9, .int v111, .int v124]) dX12_mixBlock_366 (Nat.le_of_ble_eq_true rfl) rfl rfl ?_
      refine ok_iload_n (q := 369) dX12_mixBlock_368 rfl rfl ?_
      refine ok_istore_n (q := 370) (ls' := [.ref a0, .int x1, .int x2, .int x2, .int x3, .int v125, .int x5, .int x6, .int x7, .int x9, .int v111, .int v124]) dX12_mixBlock_369 (Nat.le_of_ble_eq_true rfl) rfl rfl ?_
      refine ok_iload_n (q := 371) dX12_mixBlock_370 rfl rfl ?_
      refine ok_istore_n (q := 372) (ls' := [.ref a0, .int x1, .int x1, .int x2, .int x3, .int v125, .int x5, .int x6, .int x7, .int x9, .int v111, .int v124]) dX12_mixBlock_371 (Nat.le_of_ble_eq_true rfl) rfl rfl ?_
      refine ok_iload (q := 374) dX12_mixBlock_372 rfl rfl ?_
      refine ok_iload (q := 376) dX12_mixBlock_374 rfl rfl ?_
      refine ok_iadd (q := 377) dX12_mixBlock_376 rfl ?_
      refine bi_ok (fun v126 => ?_)
      refine ok_istore_n (q := 378) (ls' := [.ref a0, .int v126, .int x1, .int x2, .int x3, .int v125, .int x5, .int x6, .int x7, .int x9, .int v111, .int v124]) dX12_mixBlock_377 (Nat.le_of_ble_eq_true rfl) rfl rfl ?_
      refine ok_iinc (q := 381) (v := x9 + 1) (ls' := [.ref a0, .int v126, .int x1, .int x2, .int x3, .int v125, .int x5, .int x6, .int x7, .int (x9 + 1), .int v111, .int v124]) dX12_mixBlock_378 rfl (congrArg (x9 + ·) ci_1) (Nat.le_of_ble_eq_true rfl) rfl rfl ?_
      refine ok_goto (q := 248) dX12_mixBlock_381 rfl ?_
      refine mm_wk [true, true, true, true, true, true, true, true, true, true, false, false] (ls' := [.ref a0, .int v126, .int x1, .int x2, .int x3, .int v125, .int x5, .int x6, .int x7, .int (x9 + 1), mm_U, mm_U]) rfl ?_
      exact ih a0 v126 x1 x2 x3 v125 x5 x6 x7 (x9 + 1) h120 k123
def bd_X12_mixBlock (a0 : Nat) (h : mm_H) : mm_O := lp_X12_mixBlock_2 (fun b19 h18 => lp_X12_mixBlock_89 (fun b60 h59 => mm_gr h59 b60 32 (fun b61 =>
  if mm_in (0 : Int32) (mm_ln h59 b61) = true then (mm_bi (mm_i h59 b61 (mm_n (0 : Int32))) (fun v64 =>
  mm_gr h59 b60 32 (fun b65 =>
  if mm_in (1 : Int32) (mm_ln h59 b65) = true then (mm_bi (mm_i h59 b65 (mm_n (1 : Int32))) (fun v68 =>
  mm_gr h59 b60 32 (fun b69 =>
  if mm_in (2 : Int32) (mm_ln h59 b69) = true then (mm_bi (mm_i h59 b69 (mm_n (2 : Int32))) (fun v72 =>
  mm_gr h59 b60 32 (fun b73 =>
  if mm_in (3 : Int32) (mm_ln h59 b73) = true then (mm_bi (mm_i h59 b73 (mm_n (3 : Int32))) (fun v76 =>
  mm_gr h59 b60 32 (fun b77 =>
  if mm_in (4 : Int32) (mm_ln h59 b77) = true then (mm_bi (mm_i h59 b77 (mm_n (4 : Int32))) (fun v80 =>
  mm_gr h59 b60 32 (fun b81 =>
  if mm_in (5 : Int32) (mm_ln h59 b81) = true then (mm_bi (mm_i h59 b81 (mm_n (5 : Int32))) (fun v84 =>
  mm_gr h59 b60 32 (fun b85 =>
  if mm_in (6 : Int32) (mm_ln h59 b85) = true then (mm_bi (mm_i h59 b85 (mm_n (6 : Int32))) (fun v88 =>
  mm_gr h59 b60 32 (fun b89 =>
  if mm_in (7 : Int32) (mm_ln h59 b89) = true then (mm_bi (mm_i h59 b89 (mm_n (7 : Int32))) (fun v92 =>
  lp_X12_mixBlock_248 (fun b128 v129 v130 v131 v132 v133 v134 v135 v136 h127 => mm_gr h127 b128 32 (fun b137 =>
  if mm_in (0 : Int32) (mm_ln h127 b137) = true then (if 32 ≤ b137 ∧ mm_in (0 : Int32) (mm_ln h127 b137) = true then (mm_bh (mm_si h127 b137 (mm_n (0 : Int32)) ((mm_i h127 b137 (mm_n (0 : Int32))) + v129)) (fun h141 =>
  mm_gr h141 b128 32 (fun b143 =>
  if mm_in (1 : Int32) (mm_ln h141 b143) = true then (if 32 ≤ b143 ∧ mm_in (1 : Int32) (mm_ln h141 b143) = true then (mm_bh (mm_si h141 b143 (mm_n (1 : Int32)) ((mm_i h141 b143 (mm_n (1 : Int32))) + v130)) (fun h147 =>
  mm_gr h147 b128 32 (fun b149 =>
  if mm_in (2 : Int32) (mm_ln h147 b149) = true then (if 32 ≤ b149 ∧ mm_in (2 : Int32) (mm_ln h147 b149) = true then (mm_bh (mm_si h147 b149 (mm_n (2 : Int32)) ((mm_i h147 b149 (mm_n (2 : Int32))) + v131)) (fun h153 =>
  mm_gr h153 b128 32 (fun b155 =>
  if mm_in (3 : Int32) (mm_ln h153 b155) = true then (if 32 ≤ b155 ∧ mm_in (3 : Int32) (mm_ln h153 b155) = true then (mm_bh (mm_si h153 b155 (mm_n (3 : Int32)) ((mm_i h153 b155 (mm_n (3 : Int32))) + v132)) (fun h159 =>
  mm_gr h159 b128 32 (fun b161 =>
  if mm_in (4 : Int32) (mm_ln h159 b161) = true then (if 32 ≤ b161 ∧ mm_in (4 : Int32) (mm_ln h159 b161) = true then (mm_bh (mm_si h159 b161 (mm_n (4 : Int32)) ((mm_i h159 b161 (mm_n (4 : Int32))) + v133)) (fun h165 =>
  mm_gr h165 b128 32 (fun b167 =>
  if mm_in (5 : Int32) (mm_ln h165 b167) = true then (if 32 ≤ b167 ∧ mm_in (5 : Int32) (mm_ln h165 b167) = true then (mm_bh (mm_si h165 b167 (mm_n (5 : Int32)) ((mm_i h165 b167 (mm_n (5 : Int32))) + v134)) (fun h171 =>
  mm_gr h171 b128 32 (fun b173 =>
  if mm_in (6 : Int32) (mm_ln h171 b173) = true then (if 32 ≤ b173 ∧ mm_in (6 : Int32) (mm_ln h171 b173) = true then (mm_bh (mm_si h171 b173 (mm_n (6 : Int32)) ((mm_i h171 b173 (mm_n (6 : Int32))) + v135)) (fun h177 =>
  mm_gr h177 b128 32 (fun b179 =>
  if mm_in (7 : Int32) (mm_ln h177 b179) = true then (if 32 ≤ b179 ∧ mm_in (7 : Int32) (mm_ln h177 b179) = true then (mm_bh (mm_si h177 b179 (mm_n (7 : Int32)) ((mm_i h177 b179 (mm_n (7 : Int32))) + v136)) (fun h183 =>
  some (none, h183))) else none) else none))) else none) else none))) else none) else none))) else none) else none))) else none) else none))) else none) else none))) else none) else none))) else none) else none)) mm_fu b60 v64 v68 v72 v76 v80 v84 v88 v92 0 h59)) else none))) else none))) else none))) else none))) else none))) else none))) else none))) else none)) mm_fu b19 16 h18) mm_fu a0 0 h
set_option maxHeartbeats 4000000 in
set_option maxRecDepth 100000 in
theorem mt_X12_mixBlock (G : mm_G) (a0 : Nat) (h : mm_H) (k_a0 : mm_kd h a0 = 11) : mm_Met G my_X12_mixBlock [.ref a0] h (bd_X12_mixBlock a0 h) := by
  refine mm_met (ls := [.ref a0, mm_U, mm_U, mm_U, mm_U, mm_U, mm_U, mm_U, mm_U, mm_U, mm_U, mm_U]) pn_RX12 (Nat.le_of_ble_eq_true rfl) rfl ?_
  unfold bd_X12_mixBlock
  refine ok_iconst (q := 1) (v := 0) dX12_mixBlock_0 ci_0 rfl ?_
  refine ok_istore_n (q := 2) (ls' := [.ref a0, .int 0, mm_U, mm_U, mm_U, mm_U, mm_U, mm_U, mm_U, mm_U, mm_U, mm_U]) dX12_mixBlock_1 (Nat.le_of_ble_eq_true rfl) rfl rfl ?_
  refine ol_X12_mixBlock_2 (fun b19 h18 k_b19 => ?_) mm_fu a0 0 h k_a0
  · refine ok_bipush (q := 88) (v := 16) dX12_mixBlock_86 cb_16 rfl ?_
    refine ok_istore_n (q := 89) (ls' := [.ref b19, .int 16, mm_U, mm_U, mm_U, mm_U, mm_U, mm_U, mm_U, mm_U, mm_U, mm_U]) dX12_mixBlock_88 (Nat.le_of_ble_eq_true rfl) rfl rfl ?_
    refine ol_X12_mixBlock_89 (fun b60 h59 k_b60 => ?_) mm_fu b19 16 h18 k_b19
    · refine ok_aload_n (q := 183) dX12_mixBlock_182 rfl rfl ?_
      refine ok_getR cl_11 (q := 186) (k := 32) dX12_mixBlock_183 (Nat.le_of_ble_eq_true rfl) wd_1064 (fun _ _ _ => rfl) kt_11_32 k_b60 rfl (fun b61 k62 => ?_)
      refine ok_iconst (q := 187) (v := 0) dX12_mixBlock_186 ci_0 rfl ?_
      refine mm_ck (fun c63 => ?_)
      refine ok_iald (q := 188) dX12_mixBlock_187 k62 c63 rfl ?_
      refine bi_ok (fun v64 => ?_)
      refine ok_istore_n (q := 189) (ls' := [.ref b60, .int v64, mm_U, mm_U, mm_U, mm_U, mm_U, mm_U, mm_U, mm_U, mm_U, mm_U]) dX12_mixBlock_188 (Nat.le_of_ble_eq_true rfl) rfl rfl ?_
      refine ok_aload_n (q := 190) dX12_mixBlock_189 rfl rfl ?_
      refine ok_getR cl_11 (q := 193) (k := 32) dX12_mixBlock_190 (Nat.le_of_ble_eq_true rfl) wd_1064 (fun _ _ _ => rfl) kt_11_32 k_b60 rfl (fun b65 k66 => ?_)
      refine ok_iconst (q := 194) (v := 1) dX12_mixBlock_193 ci_1 rfl ?_
      refine mm_ck (fun c67 => ?_)
      refine ok_iald (q := 195) dX12_mixBlock_194 k66 c67 rfl ?_
      refine bi_ok (fun v68 => ?_)
      refine ok_istore_n (q := 196) (ls' := [.ref b60, .int v64, .int v68, mm_U, mm_U, mm_U, mm_U, mm_U, mm_U, mm_U, mm_U, mm_U]) dX12_mixBlock_195 (Nat.le_of_ble_eq_true rfl) rfl rfl ?_
      refine ok_aload_n (q := 197) dX12_mixBlock_196 rfl rfl ?_
      refine ok_getR cl_11 (q := 200) (k := 32) dX12_mixBlock_197 (Nat.le_of_ble_eq_true rfl) wd_1064 (fun _ _ _ => rfl) kt_11_32 k_b60 rfl (fun b69 k70 => ?_)
      refine ok_iconst (q := 201) (v := 2) dX12_mixBlock_200 ci_2 rfl ?_
      refine mm_ck (fun c71 => ?_)
      refine ok_iald (q := 202) dX12_mixBlock_201 k70 c71 rfl ?_
      refine bi_ok (fun v72 => ?_)
      refine ok_istore_n (q := 203) (ls' := [.ref b60, .int v64, .int v68, .int v72, mm_U, mm_U, mm_U, mm_U, mm_U, mm_U, mm_U, mm_U]) dX12_mixBlock_202 (Nat.le_of_ble_eq_true rfl) rfl rfl ?_
      refine ok_aload_n (q := 204) dX12_mixBlock_203 rfl rfl ?_
      refine ok_getR cl_11 (q := 207) (k := 32) dX12_mixBlock_204 (Nat.le_of_ble_eq_true rfl) wd_1064 (fun _ _ _ => rfl) kt_11_32 k_b60 rfl (fun b73 k74 => ?_)
      refine ok_iconst (q := 208) (v := 3) dX12_mixBlock_207 ci_3 rfl ?_
      refine mm_ck (fun c75 => ?_)
      refine ok_iald (q := 209) dX12_mixBlock_208 k74 c75 rfl ?_
      refine bi_ok (fun v76 => ?_)
      refine ok_istore (q := 211) (ls' := [.ref b60, .int v64, .int v68, .int v72, .int v76, mm_U, mm_U, mm_U, mm_U, mm_U, mm_U, mm_U]) dX12_mixBlock_209 (Nat.le_of_ble_eq_true rfl) rfl rfl ?_
      refine ok_aload_n (q := 212) dX12_mixBlock_211 rfl rfl ?_
      refine ok_getR cl_11 (q := 215) (k := 32) dX12_mixBlock_212 (Nat.le_of_ble_eq_true rfl) wd_1064 (fun _ _ _ => rfl) kt_11_32 k_b60 rfl (fun b77 k78 => ?_)
      refine ok_iconst (q := 216) (v := 4) dX12_mixBlock_215 ci_4 rfl ?_
      refine mm_ck (fun c79 => ?_)
      refine ok_iald (q := 217) dX12_mixBlock_216 k78 c79 rfl ?_
      refine bi_ok (fun v80 => ?_)
      refine ok_istore (q := 219) (ls' := [.ref b60, .int v64, .int v68, .int v72, .int v76, .int v80, mm_U, mm_U, mm_U, mm_U, mm_U, mm_U]) dX12_mixBlock_217 (Nat.le_of_ble_eq_true rfl) rfl rfl ?_
      refine ok_aload_n (q := 220) dX12_mixBlock_219 rfl rfl ?_
      refine ok_getR cl_11 (q := 223) (k := 32) dX12_mixBlock_220 (Nat.le_of_ble_eq_true rfl) wd_1064 (fun _ _ _ => rfl) kt_11_32 k_b60 rfl (fun b81 k82 => ?_)
      refine ok_iconst (q := 224) (v := 5) dX12_mixBlock_223 ci_5 rfl ?_
      refine mm_ck (fun c83 => ?_)
      refine ok_iald (q := 225) dX12_mixBlock_224 k82 c83 rfl ?_
      refine bi_ok (fun v84 => ?_)
      refine ok_istore (q := 227) (ls' := [.ref b60, .int v64, .int v68, .int v72, .int v76, .int v80, .int v84, mm_U, mm_U, mm_U, mm_U, mm_U]) dX12_mixBlock_225 (Nat.le_of_ble_eq_true rfl) rfl rfl ?_
      refine ok_aload_n (q := 228) dX12_mixBlock_227 rfl rfl ?_
      refine ok_getR cl_11 (q := 231) (k := 32) dX12_mixBlock_228 (Nat.le_of_ble_eq_true rfl) wd_1064 (fun _ _ _ => rfl) kt_11_32 k_b60 rfl (fun b85 k86 => ?_)
      refine ok_bipush (q := 233) (v := 6) dX12_mixBlock_231 cb_6 rfl ?_
      refine mm_ck (fun c87 => ?_)
      refine ok_iald (q := 234) dX12_mixBlock_233 k86 c87 rfl ?_
      refine bi_ok (fun v88 => ?_)
      refine ok_istore (q := 236) (ls' := [.ref b60, .int v64, .int v68, .int v72, .int v76, .int v80, .int v84, .int v88, mm_U, mm_U, mm_U, mm_U]) dX12_mixBlock_234 (Nat.le_of_ble_eq_true rfl) rfl rfl ?_
      refine ok_aload_n (q := 237) dX12_mixBlock_236 rfl rfl ?_
      refine ok_getR cl_11 (q := 240) (k := 32) dX12_mixBlock_237 (Nat.le_of_ble_eq_true rfl) wd_1064 (fun _ _ _ => rfl) kt_11_32 k_b60 rfl (fun b89 k90 => ?_)
      refine ok_bipush (q := 242) (v := 7) dX12_mixBlock_240 cb_7 rfl ?_
      refine mm_ck (fun c91 => ?_)
      refine ok_iald (q := 243) dX12_mixBlock_242 k90 c91 rfl ?_
      refine bi_ok (fun v92 => ?_)
      refine ok_istore (q := 245) (ls' := [.ref b60, .int v64, .int v68, .int v72, .int v76, .int v80, .int v84, .int v88, .int v92, mm_U, mm_U, mm_U]) dX12_mixBlock_243 (Nat.le_of_ble_eq_true rfl) rfl rfl ?_
      refine ok_iconst (q := 246) (v := 0) dX12_mixBlock_245 ci_0 rfl ?_
      refine ok_istore (q := 248) (ls' := [.ref b60, .int v64, .int v68, .int v72, .int v76, .int v80, .int v84, .int v88, .int v92, .int 0, mm_U, mm_U]) dX12_mixBlock_246 (Nat.le_of_ble_eq_true rfl) rfl rfl ?_
      refine ol_X12_mixBlock_248 (fun b128 v129 v130 v131 v132 v133 v134 v135 v136 h127 k_b128 => ?_) mm_fu b60 v64 v68 v72 v76 v80 v84 v88 v92 0 h59 k_b60
      · refine ok_aload_n (q := 385) dX12_mixBlock_384 rfl rfl ?_
        refine ok_getR cl_11 (q := 388) (k := 32) dX12_mixBlock_385 (Nat.le_of_ble_eq_true rfl) wd_1064 (fun _ _ _ => rfl) kt_11_32 k_b128 rfl (fun b137 k138 => ?_)
        refine ok_iconst (q := 389) (v := 0) dX12_mixBlock_388 ci_0 rfl ?_
        refine ok_dup2 (q := 390) dX12_mixBlock_389 rfl rfl rfl ?_
        refine mm_ck (fun c139 => ?_)
        refine ok_iald (q := 391) dX12_mixBlock_390 k138 c139 rfl ?_
        refine ok_iload_n (q := 392) dX12_mixBlock_391 rfl rfl ?_
        refine ok_iadd (q := 393) dX12_mixBlock_392 rfl ?_
        refine mm_ck (fun c140 => ?_)
        refine ok_iast (q := 394) dX12_mixBlock_393 k138 c140.1 c140.2 rfl (bh_ok (fun h141 e142 => ?_))
        have e142 : h141.1 = h127.1 := e142
        refine ok_aload_n (q := 395) dX12_mixBlock_394 rfl rfl ?_
        refine ok_getR cl_11 (q := 398) (k := 32) dX12_mixBlock_395 (Nat.le_of_ble_eq_true rfl) wd_1064 (fun _ _ _ => rfl) kt_11_32 (mm_ke e142 k_b128) rfl (fun b143 k144 => ?_)
        refine ok_iconst (q := 399) (v := 1) dX12_mixBlock_398 ci_1 rfl ?_
        refine ok_dup2 (q := 400) dX12_mixBlock_399 rfl rfl rfl ?_
        refine mm_ck (fun c145 => ?_)
        refine ok_iald (q := 401) dX12_mixBlock_400 (mm_ke e142 (mm_ke e142.symm k144)) c145 rfl ?_
        refine ok_iload_n (q := 402) dX12_mixBlock_401 rfl rfl ?_
        refine ok_iadd (q := 403) dX12_mixBlock_402 rfl ?_
        refine mm_ck (fun c146 => ?_)
        refine ok_iast (q := 404) dX12_mixBlock_403 (mm_ke e142 (mm_ke e142.symm k144)) c146.1 c146.2 rfl (bh_ok (fun h147 e148 => ?_))
        have e148 : h147.1 = h127.1 := e148.trans e142
        refine ok_aload_n (q := 405) dX12_mixBlock_404 rfl rfl ?_
        refine ok_getR cl_11 (q := 408) (k := 32) dX12_mixBlock_405 (Nat.le_of_ble_eq_true rfl) wd_1064 (fun _ _ _ => rfl) kt_11_32 (mm_ke e148 k_b128) rfl (fun b149 k150 => ?_)
        refine ok_iconst (q := 409) (v := 2) dX12_mixBlock_408 ci_2 rfl ?_
        refine ok_dup2 (q := 410) dX12_mixBlock_409 rfl rfl rfl ?_
        refine mm_ck (fun c151 => ?_)
        refine ok_iald (q := 411) dX12_mixBlock_410 (mm_ke e148 (mm_ke e148.symm k150)) c151 rfl ?_
        refine ok_iload_n (q := 412) dX12_mixBlock_411 rfl rfl ?_
        refine ok_iadd (q := 413) dX12_mixBlock_412 rfl ?_
        refine mm_ck (fun c152 => ?_)
        refine ok_iast (q := 414) dX12_mixBlock_413 (mm_ke e148 (mm_ke e148.symm k150)) c152.1 c152.2 rfl (bh_ok (fun h153 e154 => ?_))
        have e154 : h153.1 = h127.1 := e154.trans e148
        refine ok_aload_n (q := 415) dX12_mixBlock_414 rfl rfl ?_
        refine ok_getR cl_11 (q := 418) (k := 32) dX12_mixBlock_415 (Nat.le_of_ble_eq_true rfl) wd_1064 (fun _ _ _ => rfl) kt_11_32 (mm_ke e154 k_b128) rfl (fun b155 k156 => ?_)
        refine ok_iconst (q := 419) (v := 3) dX12_mixBlock_418 ci_3 rfl ?_
        refine ok_dup2 (q := 420) dX12_mixBlock_419 rfl rfl rfl ?_
        refine mm_ck (fun c157 => ?_)
        refine ok_iald (q := 421) dX12_mixBlock_420 (mm_ke e154 (mm_ke e154.symm k156)) c157 rfl ?_
        refine ok_iload (q := 423) dX12_mixBlock_421 rfl rfl ?_
        refine ok_iadd (q := 424) dX12_mixBlock_423 rfl ?_
        refine mm_ck (fun c158 => ?_)
        refine ok_iast (q := 425) dX12_mixBlock_424 (mm_ke e154 (mm_ke e154.symm k156)) c158.1 c158.2 rfl (bh_ok (fun h159 e160 => ?_))
        have e160 : h159.1 = h127.1 := e160.trans e154
        refine ok_aload_n (q := 426) dX12_mixBlock_425 rfl rfl ?_
        refine ok_getR cl_11 (q := 429) (k := 32) dX12_mixBlock_426 (Nat.le_of_ble_eq_true rfl) wd_1064 (fun _ _ _ => rfl) kt_11_32 (mm_ke e160 k_b128) rfl (fun b161 k162 => ?_)
        refine ok_iconst (q := 430) (v := 4) dX12_mixBlock_429 ci_4 rfl ?_
        refine ok_dup2 (q := 431) dX12_mixBlock_430 rfl rfl rfl ?_
        refine mm_ck (fun c163 => ?_)
        refine ok_iald (q := 432) dX12_mixBlock_431 (mm_ke e160 (mm_ke e160.symm k162)) c163 rfl ?_
        refine ok_iload (q := 434) dX12_mixBlock_432 rfl rfl ?_
        refine ok_iadd (q := 435) dX12_mixBlock_434 rfl ?_
        refine mm_ck (fun c164 => ?_)
        refine ok_iast (q := 436) dX12_mixBlock_435 (mm_ke e160 (mm_ke e160.symm k162)) c164.1 c164.2 rfl (bh_ok (fun h165 e166 => ?_))
        have e166 : h165.1 = h127.1 := e166.trans e160
        refine ok_aload_n (q := 437) dX12_mixBlock_436 rfl rfl ?_
        refine ok_getR cl_11 (q := 440) (k := 32) dX12_mixBlock_437 (Nat.le_of_ble_eq_true rfl) wd_1064 (fun _ _ _ => rfl) kt_11_32 (mm_ke e166 k_b128) rfl (fun b167 k168 => ?_)
        refine ok_iconst (q := 441) (v := 5) dX12_mixBlock_440 ci_5 rfl ?_
        refine ok_dup2 (q := 442) dX12_mixBlock_441 rfl rfl rfl ?_
        refine mm_ck (fun c169 => ?_)
        refine ok_iald (q := 443) dX12_mixBlock_442 (mm_ke e166 (mm_ke e166.symm k168)) c169 rfl ?_
        refine ok_iload (q := 445) dX12_mixBlock_443 rfl rfl ?_
        refine ok_iadd (q := 446) dX12_mixBlock_445 rfl ?_
        refine mm_ck (fun c170 => ?_)
        refine ok_iast (q := 447) dX12_mixBlock_446 (mm_ke e166 (mm_ke e166.symm k168)) c170.1 c170.2 rfl (bh_ok (fun h171 e172 => ?_))
        have e172 : h171.1 = h127.1 := e172.trans e166
        refine ok_aload_n (q := 448) dX12_mixBlock_447 rfl rfl ?_
        refine ok_getR cl_11 (q := 451) (k := 32) dX12_mixBlock_448 (Nat.le_of_ble_eq_true rfl) wd_1064 (fun _ _ _ => rfl) kt_11_32 (mm_ke e172 k_b128) rfl (fun b173 k174 => ?_)
        refine ok_bipush (q := 453) (v := 6) dX12_mixBlock_451 cb_6 rfl ?_
        refine ok_dup2 (q := 454) dX12_mixBlock_453 rfl rfl rfl ?_
        refine mm_ck (fun c175 => ?_)
        refine ok_iald (q := 455) dX12_mixBlock_454 (mm_ke e172 (mm_ke e172.symm k174)) c175 rfl ?_
        refine ok_iload (q := 457) dX12_mixBlock_455 rfl rfl ?_
        refine ok_iadd (q := 458) dX12_mixBlock_457 rfl ?_
        refine mm_ck (fun c176 => ?_)
        refine ok_iast (q := 459) dX12_mixBlock_458 (mm_ke e172 (mm_ke e172.symm k174)) c176.1 c176.2 rfl (bh_ok (fun h177 e178 => ?_))
        have e178 : h177.1 = h127.1 := e178.trans e172
        refine ok_aload_n (q := 460) dX12_mixBlock_459 rfl rfl ?_
        refine ok_getR cl_11 (q := 463) (k := 32) dX12_mixBlock_460 (Nat.le_of_ble_eq_true rfl) wd_1064 (fun _ _ _ => rfl) kt_11_32 (mm_ke e178 k_b128) rfl (fun b179 k180 => ?_)
        refine ok_bipush (q := 465) (v := 7) dX12_mixBlock_463 cb_7 rfl ?_
        refine ok_dup2 (q := 466) dX12_mixBlock_465 rfl rfl rfl ?_
        refine mm_ck (fun c181 => ?_)
        refine ok_iald (q := 467) dX12_mixBlock_466 (mm_ke e178 (mm_ke e178.symm k180)) c181 rfl ?_
        refine ok_iload (q := 469) dX12_mixBlock_467 rfl rfl ?_
        refine ok_iadd (q := 470) dX12_mixBlock_469 rfl ?_
        refine mm_ck (fun c182 => ?_)
        refine ok_iast (q := 471) dX12_mixBlock_470 (mm_ke e178 (mm_ke e178.symm k180)) c182.1 c182.2 rfl (bh_ok (fun h183 e184 => ?_))
        have e184 : h183.1 = h127.1 := e184.trans e178
        exact ok_ret dX12_mixBlock_471 rfl
def jn_X12_sum_180 (kb : Nat → Nat → Int32 → Int32 → Nat → Int32 → Int32 → Int32 → Int32 → mm_H → mm_O) (ke_188 : Nat → Nat → Int32 → Int32 → Nat → Int32 → Int32 → Int32 → mm_H → mm_O) (a0 : Nat) (a1 : Nat) (x2 : Int32) (x3 : Int32) (a4 : Nat) (x5 : Int32) (x6 : Int32) (x7 : Int32) (x8 : Int32) (s0 : Int32) (s1 : Int32) (s2 : Nat) (h : mm_H) : mm_O := if 32 ≤ s2 ∧ mm_in s1 (mm_ln h s2) = true then (mm_bh (mm_si h s2 (mm_n s1) (mm_b8 (mm_b8 s0))) (fun h47 =>
  kb a0 a1 x2 x3 a4 x5 x6 x7 (x8 + 1) h47)) else none
set_option maxHeartbeats 4000000 in
set_option maxRecDepth 100000 in
theorem oj_X12_sum_180 {G : mm_G} {kb : Nat → Nat → Int32 → Int32 → Nat → Int32 → Int32 → Int32 → Int32 → mm_H → mm_O} {ke_188 : Nat → Nat → Int32 → Int32 → Nat → Int32 → Int32 → Int32 → mm_H → mm_O} (hkb : ∀ (a0 : Nat) (a1 : Nat) (x2 : Int32) (x3 : Int32) (a4 : Nat) (x5 : Int32) (x6 : Int32) (x7 : Int32) (x8 : Int32) (h : mm_H), mm_kd h a0 = 11 → mm_kd h a1 = 21 → mm_kd h a4 = 21 → mm_Ok G my_X12_sum 98 [.ref a0, .ref a1, .int x2, .int x3, .ref a4, .int x5, .int x6, .int x7, .int x8, mm_U, mm_U] [] h (kb a0 a1 x2 x3 a4 x5 x6 x7 x8 h)) (hke_188 : ∀ (a0 : Nat) (a1 : Nat) (x2 : Int32) (x3 : Int32) (a4 : Nat) (x5 : Int32) (x6 : Int32) (x7 : Int32) (h : mm_H), mm_kd h a0 = 11 → mm_kd h a1 = 21 → mm_kd h a4 = 21 → mm_Ok G my_X12_sum 188 [.ref a0, .ref a1, .int x2, .int x3, .ref a4, .int x5, .int x6, .int x7, mm_U, mm_U, mm_U] [] h (ke_188 a0 a1 x2 x3 a4 x5 x6 x7 h)) (a0 : Nat) (a1 : Nat) (x2 : Int32) (x3 : Int32) (a4 : Nat) (x5 : Int32) (x6 : Int32) (x7 : Int32) (x8 : Int32) (s0 : Int32) (s1 : Int32) (s2 : Nat) (h : mm_H) (k_a0 : mm_kd h a0 = 11) (k_a1 : mm_kd h a1 = 21) (k_a4 : mm_kd h a4 = 21) (k_s2 : mm_kd h s2 = 21) : mm_Ok G my_X12_sum 180 [.ref a0, .ref a1, .int x2, .int x3, .ref a4, .int x5, .int x6, .int x7, .int x8, mm_U, mm_U] [.int s0, .int s1, .ref s2] h (jn_X12_sum_180 kb ke_188 a0 a1 x2 x3 a4 x5 x6 x7 x8 s0 s1 s2 h) := by
  unfold jn_X12_sum_180
  refine ok_i2b (q := 181) dX12_sum_180 rfl ?_
  refine mm_ck (fun c46 => ?_)
  refine ok_bast (q := 182) dX12_sum_181 k_s2 c46.1 c46.2 rfl (bh_ok (fun h47 e48 => ?_))
  have e48 : h47.1 = h.1 := e48
  refine ok_iinc (q := 185) (v := x8 + 1) (ls' := [.ref a0, .ref a1, .int x2, .int x3, .ref a4, .int x5, .int x6, .int x7, .int (x8 + 1), mm_U, mm_U]) dX12_sum_182 rfl (congrArg (x8 + ·) ci_1) (Nat.le_of_ble_eq_true rfl) rfl rfl ?_
  refine ok_goto (q := 98) dX12_sum_185 rfl ?_
  exact hkb a0 a1 x2 x3 a4 x5 x6 x7 (x8 + 1) h47 (mm_ke e48 k_a0) (mm_ke e48 k_a1) (mm_ke e48 k_a4)
def lp_X12_sum_98 (ke_188 : Nat → Nat → Int32 → Int32 → Nat → Int32 → Int32 → Int32 → mm_H → mm_O) : Nat → Nat → Nat → Int32 → Int32 → Nat → Int32 → Int32 → Int32 → Int32 → mm_H → mm_O
  | 0, _, _, _, _, _, _, _, _, _, _ => none
  | n + 1, a0, a1, x2, x3, a4, x5, x6, x7, x8, h => if (64 : Int32) ≤ x8 then
  (ke_188 a0 a1 x2 x3 a4 x5 x6 x7 h)
  else
  (mm_bi (((64 : Int32) * x7) + x8) (fun v42 =>
  mm_bi ((((64 : Int32) * x6) - (1 : Int32)) - v42) (fun v43 =>
  mm_gr h a0 33 (fun b44 =>
  if x3 ≤ v42 then
  (if v42 = x3 then
  (jn_X12_sum_180 (lp_X12_sum_98 ke_188 n) ke_188 a0 a1 x2 x3 a4 x5 x6 x7 x8 128 x8 b44 h)
  else
  (if (4 : Int32) ≤ v43 then
  (jn_X12_sum_180 (lp_X12_sum_98 ke_188 n) ke_188 a0 a1 x2 x3 a4 x5 x6 x7 x8 0 x8 b44 h)
  else
  (jn_X12_sum_180 (lp_X12_sum_98 ke_188 n) ke_188 a0 a1 x2 x3 a4 x5 x6 x7 x8 (mm_shr ((8 : Int32) * x3) ((8 : Int32) * v43)) x8 b44 h)))
  else
  (if mm_in (x2 + v42) (mm_ln h a1) = true then (jn_X12_sum_180 (lp_X12_sum_98 ke_188 n) ke_188 a0 a1 x2 x3 a4 x5 x6 x7 x8 (mm_i h a1 (mm_n (x2 + v42))) x8 b44 h) else none)))))
set_option maxHeartbeats 4000000 in
set_option maxRecDepth 100000 in
theorem ol_X12_sum_98 {G : mm_G} {ke_188 : Nat → Nat → Int32 → Int32 → Nat → Int32 → Int32 → Int32 → mm_H → mm_O} (hke_188 : ∀ (a0 : Nat) (a1 : Nat) (x2 : Int32) (x3 : Int32) (a4 : Nat) (x5 : Int32) (x6 : Int32) (x7 : Int32) (h : mm_H), mm_kd h a0 = 11 → mm_kd h a1 = 21 → mm_kd h a4 = 21 → mm_Ok G my_X12_sum 188 [.ref a0, .ref a1, .int x2, .int x3, .ref a4, .int x5, .int x6, .int x7, mm_U, mm_U, mm_U] [] h (ke_188 a0 a1 x2 x3 a4 x5 x6 x7 h)) : ∀ (n : Nat) (a0 : Nat) (a1 : Nat) (x2 : Int32) (x3 : Int32) (a4 : Nat) (x5 : Int32) (x6 : Int32) (x7 : Int32) (x8 : Int32) (h : mm_H), mm_kd h a0 = 11 → mm_kd h a1 = 21 → mm_kd h a4 = 21 → mm_Ok G my_X12_sum 98 [.ref a0, .ref a1, .int x2, .int x3, .ref a4, .int x5, .int x6, .int x7, .int x8, mm_U, mm_U] [] h (lp_X12_sum_98 ke_188 n a0 a1 x2 x3 a4 x5 x6 x7 x8 h) := by
  intro n
  induction n with
  | zero => intro a0 a1 x2 x3 a4 x5 x6 x7 x8 h k_a0 k_a1 k_a4; exact mm_no
  | succ n ih =>
    intro a0 a1 x2 x3 a4 x5 x6 x7 x8 h k_a0 k_a1 k_a4
    rw [lp_X12_sum_98]
    refine ok_iload (q := 100) dX12_sum_98 rfl rfl ?_
    refine ok_bipush (q := 102) (v := 64) dX12_sum_100 cb_64 rfl ?_
    refine ok_icmp_ge (q := 105) (t := 188) dX12_sum_102 rfl rfl ?_ ?_
    · refine mm_wk [true, true, true, true, true, true, true, true, false, false, false] (ls' := [.ref a0, .ref a1, .int x2, .int x3, .ref a4, .int x5, .int x6, .int x7, mm_U, mm_U, mm_U]) rfl ?_
      exact hke_188 a0 a1 x2 x3 a4 x5 x6 x7 h k_a0 k_a1 k_a4
    · refine ok_bipush (q := 107) (v := 64) dX12_sum_105 cb_64 rfl ?_
      refine ok_iload (q := 109) dX12_sum_107 rfl rfl ?_
      refine ok_imul (q := 110) dX12_sum_109 rfl ?_
      refine ok_iload (q := 112) dX12_sum_110 rfl rfl ?_
      refine ok_iadd (q := 113) dX12_sum_112 rfl ?_
      refine bi_ok (fun v42 => ?_)
      refine ok_istore (q := 115) (ls' := [.ref a0, .ref a1, .int x2, .int x3, .ref a4, .int x5, .int x6, .int x7, .int x8, .int v42, mm_U]) dX12_sum_113 (Nat.le_of_ble_eq_true rfl) rfl rfl ?_
      refine ok_bipush (q := 117) (v := 64) dX12_sum_115 cb_64 rfl ?_
      refine ok_iload (q := 119) dX12_sum_117 rfl rfl ?_
      refine ok_imul (q := 120) dX12_sum_119 rfl ?_
      refine ok_iconst (q := 121) (v := 1) dX12_sum_120 ci_1 rfl ?_
      refine ok_isub (q := 122) dX12_sum_121 rfl ?_
      refine ok_iload (q := 124) dX12_sum_122 rfl rfl ?_
      refine ok_isub (q := 125) dX12_sum_124 rfl ?_
      refine bi_ok (fun v43 => ?_)
      refine ok_istore (q := 127) (ls' := [.ref a0, .ref a1, .int x2, .int x3, .ref a4, .int x5, .int x6, .int x7, .int x8, .int v42, .int v43]) dX12_sum_125 (Nat.le_of_ble_eq_true rfl) rfl rfl ?_
      refine ok_aload_n (q := 128) dX12_sum_127 rfl rfl ?_
      refine ok_getR cl_11 (q := 131) (k := 33) dX12_sum_128 (Nat.le_of_ble_eq_true rfl) wd_1065 (fun _ _ _ => rfl) kt_11_33 k_a0 rfl (fun b44 k45 => ?_)
      refine ok_iload (q := 133) dX12_sum_131 rfl rfl ?_
      refine ok_iload (q := 135) dX12_sum_133 rfl rfl ?_
      refine ok_iload_n (q := 136) dX12_sum_135 rfl rfl ?_
      refine ok_icmp_ge (q := 139) (t := 148) dX12_sum_136 rfl rfl ?_ ?_
      · refine ok_iload (q := 150) dX12_sum_148 rfl rfl ?_
        refine ok_iload_n (q := 151) dX12_sum_150 rfl rfl ?_
        refine ok_icmp_ne (q := 154) (t := 160) dX12_sum_151 rfl rfl ?_ ?_
        · refine ok_iload (q := 162) dX12_sum_160 rfl rfl ?_
          refine ok_iconst (q := 163) (v := 4) dX12_sum_162 ci_4 rfl ?_
          refine ok_icmp_ge (q := 166) (t := 179) dX12_sum_163 rfl rfl ?_ ?_
          · refine ok_iconst (q := 180) (v := 0) dX12_sum_179 ci_0 rfl ?_
            refine mm_wk [true, true, true, true, true, true, true, true, true, false, false] (ls' := [.ref a0, .ref a1, .int x2, .int x3, .ref a4, .int x5, .int x6, .int x7, .int x8, mm_U, mm_U]) rfl ?_
            exact oj_X12_sum_180 ih hke_188 a0 a1 x2 x3 a4 x5 x6 x7 x8 0 x8 b44 h k_a0 k_a1 k_a4 k45
          · refine ok_bipush (q := 168) (v := 8) dX12_sum_166 cb_8 rfl ?_
            refine ok_iload_n (q := 169) dX12_sum_168 rfl rfl ?_
            refine ok_imul (q := 170) dX12_sum_169 rfl ?_
            refine ok_bipush (q := 172) (v := 8) dX12_sum_170 cb_8 rfl ?_
            refine ok_iload (q := 174) dX12_sum_172 rfl rfl ?_
            refine ok_imul (q := 175) dX12_sum_174 rfl ?_
            refine ok_ishr (q := 176) dX12_sum_175 rfl ?_
            refine ok_goto (q := 180) dX12_sum_176 rfl ?_
            refine mm_wk [true, true, true, true, true, true, true, true, true, false, false] (ls' := [.ref a0, .ref a1, .int x2, .int x3, .ref a4, .int x5, .int x6, .int x7, .int x8, mm_U, mm_U]) rfl ?_
            exact oj_X12_sum_180 ih hke_188 a0 a1 x2 x3 a4 x5 x6 x7 x8 (mm_shr ((8 : Int32) * x3) ((8 : Int32) * v43)) x8 b44 h k_a0 k_a1 k_a4 k45
        · refine ok_sipush (q := 157) (v := 128) dX12_sum_154 cs_128 rfl ?_
          refine ok_goto (q := 180) dX12_sum_157 rfl ?_
          refine mm_wk [true, true, true, true, true, true, true, true, true, false, false] (ls' := [.ref a0, .ref a1, .int x2, .int x3, .ref a4, .int x5, .int x6, .int x7, .int x8, mm_U, mm_U]) rfl ?_
          exact oj_X12_sum_180 ih hke_188 a0 a1 x2 x3 a4 x5 x6 x7 x8 128 x8 b44 h k_a0 k_a1 k_a4 k45
      · refine ok_aload_n (q := 140) dX12_sum_139 rfl rfl ?_
        refine ok_iload_n (q := 141) dX12_sum_140 rfl rfl ?_
        refine ok_iload (q := 143) dX12_sum_141 rfl rfl ?_
        refine ok_iadd (q := 144) dX12_sum_143 rfl ?_
        refine mm_ck (fun c49 => ?_)
        refine ok_bald (q := 145) dX12_sum_144 k_a1 c49 rfl ?_
        refine ok_goto (q := 180) dX12_sum_145 rfl ?_
        refine mm_wk [true, true, true, true, true, true, true, true, true, false, false] (ls' := [.ref a0, .ref a1, .int x2, .int x3, .ref a4, .int x5, .int x6, .int x7, .int x8, mm_U, mm_U]) rfl ?_
        exact oj_X12_sum_180 ih hke_188 a0 a1 x2 x3 a4 x5 x6 x7 x8 (mm_i h a1 (mm_n (x2 + v42))) x8 b44 h k_a0 k_a1 k_a4 k45
def lp_X12_sum_88 (ke_198 : Nat → Nat → Int32 → mm_H → mm_O) : Nat → Nat → Nat → Int32 → Int32 → Nat → Int32 → Int32 → Int32 → mm_H → mm_O
  | 0, _, _, _, _, _, _, _, _, _ => none
  | n + 1, a0, a1, x2, x3, a4, x5, x6, x7, h => if x6 ≤ x7 then
  (ke_198 a0 a4 x5 h)
  else
  (lp_X12_sum_98 (fun b51 b52 v53 v54 b55 v56 v57 v58 h50 => mm_qv (bd_X12_mixBlock b51 h50) (fun h59 =>
  lp_X12_sum_88 ke_198 n b51 b52 v53 v54 b55 v56 v57 (v58 + 1) h59)) mm_fu a0 a1 x2 x3 a4 x5 x6 x7 0 h)
set_option maxHeartbeats 4000000 in
set_option maxRecDepth 100000 in
theorem ol_X12_sum_88 {G : mm_G} {ke_198 : Nat → Nat → Int32 → mm_H → mm_O} (hke_198 : ∀ (a0 : Nat) (a4 : Nat) (x5 : Int32) (h : mm_H), mm_kd h a0 = 11 → mm_kd h a4 = 21 → mm_Ok G my_X12_sum 198 [.ref a0, mm_U, mm_U, mm_U, .ref a4, .int x5, mm_U, mm_U, mm_U, mm_U, mm_U] [] h (ke_198 a0 a4 x5 h)) : ∀ (n : Nat) (a0 : Nat) (a1 : Nat) (x2 : Int32) (x3 : Int32) (a4 : Nat) (x5 : Int32) (x6 : Int32) (x7 : Int32) (h : mm_H), mm_kd h a0 = 11 → mm_kd h a1 = 21 → mm_kd h a4 = 21 → mm_Ok G my_X12_sum 88 [.ref a0, .ref a1, .int x2, .int x3, .ref a4, .int x5, .int x6, .int x7, mm_U, mm_U, mm_U] [] h (lp_X12_sum_88 ke_198 n a0 a1 x2 x3 a4 x5 x6 x7 h) := by
  intro n
  induction n with
  | zero => intro a0 a1 x2 x3 a4 x5 x6 x7 h k_a0 k_a1 k_a4; exact mm_no
  | succ n ih =>
    intro a0 a1 x2 x3 a4 x5 x6 x7 h k_a0 k_a1 k_a4
    rw [lp_X12_sum_88]
    refine ok_iload (q := 90) dX12_sum_88 rfl rfl ?_
    refine ok_iload (q := 92) dX12_sum_90 rfl rfl ?_
    refine ok_icmp_ge (q := 95) (t := 198) dX12_sum_92 rfl rfl ?_ ?_
    · refine mm_wk [true, false, false, false, true, true, false, false, false, false, false] (ls' := [.ref a0, mm_U, mm_U, mm_U, .ref a4, .int x5, mm_U, mm_U, mm_U, mm_U, mm_U]) rfl ?_
      exact hke_198 a0 a4 x5 h k_a0 k_a4
    · refine ok_iconst (q := 96) (v := 0) dX12_sum_95 ci_0 rfl ?_
      refine ok_istore (q := 98) (ls' := [.ref a0, .ref a1, .int x2, .int x3, .ref a4, .int x5, .int x6, .int x7, .int 0, mm_U, mm_U]) dX12_sum_96 (Nat.le_of_ble_eq_true rfl) rfl rfl ?_
      refine ol_X12_sum_98 (fun b51 b52 v53 v54 b55 v56 v57 v58 h50 k_b51 k_b52 k_b55 => ?_) mm_fu a0 a1 x2 x3 a4 x5 x6 x7 0 h k_a0 k_a1 k_a4
      · refine ok_aload_n (q := 189) dX12_sum_188 rfl rfl ?_
        refine mm_cv (q := 192) (mt_X12_mixBlock G b51 h50 k_b51) (mm_runV (as := []) (st := []) cl_11 lk_X12_sum_X12_mixBlock_276 rfl dX12_sum_189 rfl (Nat.le_of_ble_eq_true rfl) k_b51) rfl (fun h59 p60 => ?_)
        have k61 : mm_kd h59 b51 = 11 := mm_kd_app p60 k_b51 (by decide)
        have k62 : mm_kd h59 b52 = 21 := mm_kd_app p60 k_b52 (by decide)
        have k63 : mm_kd h59 b55 = 21 := mm_kd_app p60 k_b55 (by decide)
        refine ok_iinc (q := 195) (v := v58 + 1) (ls' := [.ref b51, .ref b52, .int v53, .int v54, .ref b55, .int v56, .int v57, .int (v58 + 1), mm_U, mm_U, mm_U]) dX12_sum_192 rfl (congrArg (v58 + ·) ci_1) (Nat.le_of_ble_eq_true rfl) rfl rfl ?_
        refine ok_goto (q := 88) dX12_sum_195 rfl ?_
        exact ih b51 b52 v53 v54 b55 v56 v57 (v58 + 1) h59 k61 k62 k63
def lp_X12_sum_201  : Nat → Nat → Nat → Int32 → Int32 → mm_H → mm_O
  | 0, _, _, _, _, _ => none
  | n + 1, a0, a4, x5, x7, h => if (32 : Int32) ≤ x7 then
  (some (none, h))
  else
  (mm_gr h a0 32 (fun b68 =>
  if mm_in (x7 / (4 : Int32)) (mm_ln h b68) = true then (if 32 ≤ a4 ∧ mm_in (x5 + x7) (mm_ln h a4) = true then (mm_bh (mm_si h a4 (mm_n (x5 + x7)) (mm_b8 (mm_b8 (mm_shr (mm_i h b68 (mm_n (x7 / (4 : Int32)))) ((24 : Int32) - ((8 : Int32) * (mm_rem x7 (4 : Int32)))))))) (fun h72 =>
  lp_X12_sum_201 n a0 a4 x5 (x7 + 1) h72)) else none) else none))
set_option maxHeartbeats 4000000 in
set_option maxRecDepth 100000 in
theorem ol_X12_sum_201 {G : mm_G}   : ∀ (n : Nat) (a0 : Nat) (a4 : Nat) (x5 : Int32) (x7 : Int32) (h : mm_H), mm_kd h a0 = 11 → mm_kd h a4 = 21 → mm_Ok G my_X12_sum 201 [.ref a0, mm_U, mm_U, mm_U, .ref a4, .int x5, mm_U, .int x7, mm_U, mm_U, mm_U] [] h (lp_X12_sum_201 n a0 a4 x5 x7 h) := by
  intro n
  induction n with
  | zero => intro a0 a4 x5 x7 h k_a0 k_a4; exact mm_no
  | succ n ih =>
    intro a0 a4 x5 x7 h k_a0 k_a4
    rw [lp_X12_sum_201]
    refine ok_iload (q := 203) dX12_sum_201 rfl rfl ?_
    refine ok_bipush (q := 205) (v := 32) dX12_sum_203 cb_32 rfl ?_
    refine ok_icmp_ge (q := 208) (t := 243) dX12_sum_205 rfl rfl ?_ ?_
    · exact ok_ret dX12_sum_243 rfl
    · refine ok_aload (q := 210) dX12_sum_208 rfl rfl ?_
      refine ok_iload (q := 212) dX12_sum_210 rfl rfl ?_
      refine ok_iload (q := 214) dX12_sum_212 rfl rfl ?_
      refine ok_iadd (q := 215) dX12_sum_214 rfl ?_
      refine ok_aload_n (q := 216) dX12_sum_215 rfl rfl ?_
      refine ok_getR cl_11 (q := 219) (k := 32) dX12_sum_216 (Nat.le_of_ble_eq_true rfl) wd_1064 (fun _ _ _ => rfl) kt_11_32 k_a0 rfl (fun b68 k69 => ?_)
      refine ok_iload (q := 221) dX12_sum_219 rfl rfl ?_
      refine ok_iconst (q := 222) (v := 4) dX12_sum_221 ci_4 rfl ?_
      refine ok_idiv (q := 223) dX12_sum_222 (by decide) rfl ?_
      refine mm_ck (fun c70 => ?_)
      refine ok_iald (q := 224) dX12_sum_223 k69 c70 rfl ?_
      refine ok_bipush (q := 226) (v := 24) dX12_sum_224 cb_24 rfl ?_
      refine ok_bipush (q := 228) (v := 8) dX12_sum_226 cb_8 rfl ?_
      refine ok_iload (q := 230) dX12_sum_228 rfl rfl ?_
      refine ok_iconst (q := 231) (v := 4) dX12_sum_230 ci_4 rfl ?_
      refine ok_irem (q := 232) dX12_sum_231 (by decide) rfl ?_
      refine ok_imul (q := 233) dX12_sum_232 rfl ?_
      refine ok_isub (q := 234) dX12_sum_233 rfl ?_
      refine ok_ishr (q := 235) dX12_sum_234 rfl ?_
      refine ok_i2b (q := 236) dX12_sum_235 rfl ?_
      refine mm_ck (fun c71 => ?_)
      refine ok_bast (q := 237) dX12_sum_236 k_a4 c71.1 c71.2 rfl (bh_ok (fun h72 e73 => ?_))
      have e73 : h72.1 = h.1 := e73
      refine ok_iinc (q := 240) (v := x7 + 1) (ls' := [.ref a0, mm_U, mm_U, mm_U, .ref a4, .int x5, mm_U, .int (x7 + 1), mm_U, mm_U, mm_U]) dX12_sum_237 rfl (congrArg (x7 + ·) ci_1) (Nat.le_of_ble_eq_true rfl) rfl rfl ?_
      refine ok_goto (q := 201) dX12_sum_240 rfl ?_
      exact ih a0 a4 x5 (x7 + 1) h72 (mm_ke e73 k_a0) (mm_ke e73 k_a4)
def bd_X12_sum (a0 : Nat) (a1 : Nat) (x2 : Int32) (x3 : Int32) (a4 : Nat) (x5 : Int32) (h : mm_H) : mm_O := mm_gr h a0 32 (fun b1 =>
  if 32 ≤ b1 ∧ mm_in (0 : Int32) (mm_ln h b1) = true then (mm_bh (mm_si h b1 (mm_n (0 : Int32)) (1779033703 : Int32)) (fun h4 =>
  mm_gr h4 a0 32 (fun b6 =>
  if 32 ≤ b6 ∧ mm_in (1 : Int32) (mm_ln h4 b6) = true then (mm_bh (mm_si h4 b6 (mm_n (1 : Int32)) (-1150833019 : Int32)) (fun h9 =>
  mm_gr h9 a0 32 (fun b11 =>
  if 32 ≤ b11 ∧ mm_in (2 : Int32) (mm_ln h9 b11) = true then (mm_bh (mm_si h9 b11 (mm_n (2 : Int32)) (1013904242 : Int32)) (fun h14 =>
  mm_gr h14 a0 32 (fun b16 =>
  if 32 ≤ b16 ∧ mm_in (3 : Int32) (mm_ln h14 b16) = true then (mm_bh (mm_si h14 b16 (mm_n (3 : Int32)) (-1521486534 : Int32)) (fun h19 =>
  mm_gr h19 a0 32 (fun b21 =>
  if 32 ≤ b21 ∧ mm_in (4 : Int32) (mm_ln h19 b21) = true then (mm_bh (mm_si h19 b21 (mm_n (4 : Int32)) (1359893119 : Int32)) (fun h24 =>
  mm_gr h24 a0 32 (fun b26 =>
  if 32 ≤ b26 ∧ mm_in (5 : Int32) (mm_ln h24 b26) = true then (mm_bh (mm_si h24 b26 (mm_n (5 : Int32)) (-1694144372 : Int32)) (fun h29 =>
  mm_gr h29 a0 32 (fun b31 =>
  if 32 ≤ b31 ∧ mm_in (6 : Int32) (mm_ln h29 b31) = true then (mm_bh (mm_si h29 b31 (mm_n (6 : Int32)) (528734635 : Int32)) (fun h34 =>
  mm_gr h34 a0 32 (fun b36 =>
  if 32 ≤ b36 ∧ mm_in (7 : Int32) (mm_ln h34 b36) = true then (mm_bh (mm_si h34 b36 (mm_n (7 : Int32)) (1541459225 : Int32)) (fun h39 =>
  mm_bi (((x3 + (8 : Int32)) / (64 : Int32)) + (1 : Int32)) (fun v41 =>
  lp_X12_sum_88 (fun b65 b66 v67 h64 => lp_X12_sum_201  mm_fu b65 b66 v67 0 h64) mm_fu a0 a1 x2 x3 a4 x5 v41 0 h39))) else none))) else none))) else none))) else none))) else none))) else none))) else none))) else none)
set_option maxHeartbeats 4000000 in
set_option maxRecDepth 100000 in
theorem mt_X12_sum (G : mm_G) (a0 : Nat) (a1 : Nat) (x2 : Int32) (x3 : Int32) (a4 : Nat) (x5 : Int32) (h : mm_H) (k_a0 : mm_kd h a0 = 11) (k_a1 : mm_kd h a1 = 21) (k_a4 : mm_kd h a4 = 21) : mm_Met G my_X12_sum [.ref a0, .ref a1, .int x2, .int x3, .ref a4, .int x5] h (bd_X12_sum a0 a1 x2 x3 a4 x5 h) := by
  refine mm_met (ls := [.ref a0, .ref a1, .int x2, .int x3, .ref a4, .int x5, mm_U, mm_U, mm_U, mm_U, mm_U]) pn_RX12 (Nat.le_of_ble_eq_true rfl) rfl ?_
  unfold bd_X12_sum
  refine ok_aload_n (q := 1) dX12_sum_0 rfl rfl ?_
  refine ok_getR cl_11 (q := 4) (k := 32) dX12_sum_1 (Nat.le_of_ble_eq_true rfl) wd_1064 (fun _ _ _ => rfl) kt_11_32 k_a0 rfl (fun b1 k2 => ?_)
  refine ok_iconst (q := 5) (v := 0) dX12_sum_4 ci_0 rfl ?_
  refine ok_ldcw (q := 8) (v := 1779033703) dX12_sum_5 wd_1298 rfl ?_
  refine mm_ck (fun c3 => ?_)
  refine ok_iast (q := 9) dX12_sum_8 k2 c3.1 c3.2 rfl (bh_ok (fun h4 e5 => ?_))
  have e5 : h4.1 = h.1 := e5
  refine ok_aload_n (q := 10) dX12_sum_9 rfl rfl ?_
  refine ok_getR cl_11 (q := 13) (k := 32) dX12_sum_10 (Nat.le_of_ble_eq_true rfl) wd_1064 (fun _ _ _ => rfl) kt_11_32 (mm_ke e5 k_a0) rfl (fun b6 k7 => ?_)
  refine ok_iconst (q := 14) (v := 1) dX12_sum_13 ci_1 rfl ?_
  refine ok_ldcw (q := 17) (v := -1150833019) dX12_sum_14 wd_1299 rfl ?_
  refine mm_ck (fun c8 => ?_)
  refine ok_iast (q := 18) dX12_sum_17 (mm_ke e5 (mm_ke e5.symm k7)) c8.1 c8.2 rfl (bh_ok (fun h9 e10 => ?_))
  have e10 : h9.1 = h.1 := e10.trans e5
  refine ok_aload_n (q := 19) dX12_sum_18 rfl rfl ?_
  refine ok_getR cl_11 (q := 22) (k := 32) dX12_sum_19 (Nat.le_of_ble_eq_true rfl) wd_1064 (fun _ _ _ => rfl) kt_11_32 (mm_ke e10 k_a0) rfl (fun b11 k12 => ?_)
  refine ok_iconst (q := 23) (v := 2) dX12_sum_22 ci_2 rfl ?_
  refine ok_ldcw (q := 26) (v := 1013904242) dX12_sum_23 wd_1300 rfl ?_
  refine mm_ck (fun c13 => ?_)
  refine ok_iast (q := 27) dX12_sum_26 (mm_ke e10 (mm_ke e10.symm k12)) c13.1 c13.2 rfl (bh_ok (fun h14 e15 => ?_))
  have e15 : h14.1 = h.1 := e15.trans e10
  refine ok_aload_n (q := 28) dX12_sum_27 rfl rfl ?_
  refine ok_getR cl_11 (q := 31) (k := 32) dX12_sum_28 (Nat.le_of_ble_eq_true rfl) wd_1064 (fun _ _ _ => rfl) kt_11_32 (mm_ke e15 k_a0) rfl (fun b16 k17 => ?_)
  refine ok_iconst (q := 32) (v := 3) dX12_sum_31 ci_3 rfl ?_
  refine ok_ldcw (q := 35) (v := -1521486534) dX12_sum_32 wd_1301 rfl ?_
  refine mm_ck (fun c18 => ?_)
  refine ok_iast (q := 36) dX12_sum_35 (mm_ke e15 (mm_ke e15.symm k17)) c18.1 c18.2 rfl (bh_ok (fun h19 e20 => ?_))
  have e20 : h19.1 = h.1 := e20.trans e15
  refine ok_aload_n (q := 37) dX12_sum_36 rfl rfl ?_
  refine ok_getR cl_11 (q := 40) (k := 32) dX12_sum_37 (Nat.le_of_ble_eq_true rfl) wd_1064 (fun _ _ _ => rfl) kt_11_32 (mm_ke e20 k_a0) rfl (fun b21 k22 => ?_)
  refine ok_iconst (q := 41) (v := 4) dX12_sum_40 ci_4 rfl ?_
  refine ok_ldcw (q := 44) (v := 1359893119) dX12_sum_41 wd_1302 rfl ?_
  refine mm_ck (fun c23 => ?_)
  refine ok_iast (q := 45) dX12_sum_44 (mm_ke e20 (mm_ke e20.symm k22)) c23.1 c23.2 rfl (bh_ok (fun h24 e25 => ?_))
  have e25 : h24.1 = h.1 := e25.trans e20
  refine ok_aload_n (q := 46) dX12_sum_45 rfl rfl ?_
  refine ok_getR cl_11 (q := 49) (k := 32) dX12_sum_46 (Nat.le_of_ble_eq_true rfl) wd_1064 (fun _ _ _ => rfl) kt_11_32 (mm_ke e25 k_a0) rfl (fun b26 k27 => ?_)
  refine ok_iconst (q := 50) (v := 5) dX12_sum_49 ci_5 rfl ?_
  refine ok_ldcw (q := 53) (v := -1694144372) dX12_sum_50 wd_1303 rfl ?_
  refine mm_ck (fun c28 => ?_)
  refine ok_iast (q := 54) dX12_sum_53 (mm_ke e25 (mm_ke e25.symm k27)) c28.1 c28.2 rfl (bh_ok (fun h29 e30 => ?_))
  have e30 : h29.1 = h.1 := e30.trans e25
  refine ok_aload_n (q := 55) dX12_sum_54 rfl rfl ?_
  refine ok_getR cl_11 (q := 58) (k := 32) dX12_sum_55 (Nat.le_of_ble_eq_true rfl) wd_1064 (fun _ _ _ => rfl) kt_11_32 (mm_ke e30 k_a0) rfl (fun b31 k32 => ?_)
  refine ok_bipush (q := 60) (v := 6) dX12_sum_58 cb_6 rfl ?_
  refine ok_ldcw (q := 63) (v := 528734635) dX12_sum_60 wd_1304 rfl ?_
  refine mm_ck (fun c33 => ?_)
  refine ok_iast (q := 64) dX12_sum_63 (mm_ke e30 (mm_ke e30.symm k32)) c33.1 c33.2 rfl (bh_ok (fun h34 e35 => ?_))
  have e35 : h34.1 = h.1 := e35.trans e30
  refine ok_aload_n (q := 65) dX12_sum_64 rfl rfl ?_
  refine ok_getR cl_11 (q := 68) (k := 32) dX12_sum_65 (Nat.le_of_ble_eq_true rfl) wd_1064 (fun _ _ _ => rfl) kt_11_32 (mm_ke e35 k_a0) rfl (fun b36 k37 => ?_)
  refine ok_bipush (q := 70) (v := 7) dX12_sum_68 cb_7 rfl ?_
  refine ok_ldcw (q := 73) (v := 1541459225) dX12_sum_70 wd_1305 rfl ?_
  refine mm_ck (fun c38 => ?_)
  refine ok_iast (q := 74) dX12_sum_73 (mm_ke e35 (mm_ke e35.symm k37)) c38.1 c38.2 rfl (bh_ok (fun h39 e40 => ?_))
  have e40 : h39.1 = h.1 := e40.trans e35
  refine ok_iload_n (q := 75) dX12_sum_74 rfl rfl ?_
  refine ok_bipush (q := 77) (v := 8) dX12_sum_75 cb_8 rfl ?_
  refine ok_iadd (q := 78) dX12_sum_77 rfl ?_
  refine ok_bipush (q := 80) (v := 64) dX12_sum_78 cb_64 rfl ?_
  refine ok_idiv (q := 81) dX12_sum_80 (by decide) rfl ?_
  refine ok_iconst (q := 82) (v := 1) dX12_sum_81 ci_1 rfl ?_
  refine ok_iadd (q := 83) dX12_sum_82 rfl ?_
  refine bi_ok (fun v41 => ?_)
  refine ok_istore (q := 85) (ls' := [.ref a0, .ref a1, .int x2, .int x3, .ref a4, .int x5, .int v41, mm_U, mm_U, mm_U, mm_U]) dX12_sum_83 (Nat.le_of_ble_eq_true rfl) rfl rfl ?_
  refine ok_iconst (q := 86) (v := 0) dX12_sum_85 ci_0 rfl ?_
  refine ok_istore (q := 88) (ls' := [.ref a0, .ref a1, .int x2, .int x3, .ref a4, .int x5, .int v41, .int 0, mm_U, mm_U, mm_U]) dX12_sum_86 (Nat.le_of_ble_eq_true rfl) rfl rfl ?_
  refine ol_X12_sum_88 (fun b65 b66 v67 h64 k_b65 k_b66 => ?_) mm_fu a0 a1 x2 x3 a4 x5 v41 0 h39 (mm_ke e40 k_a0) (mm_ke e40 k_a1) (mm_ke e40 k_a4)
  · refine ok_iconst (q := 199) (v := 0) dX12_sum_198 ci_0 rfl ?_
    refine ok_istore (q := 201) (ls' := [.ref b65, mm_U, mm_U, mm_U, .ref b66, .int v67, mm_U, .int 0, mm_U, mm_U, mm_U]) dX12_sum_199 (Nat.le_of_ble_eq_true rfl) rfl rfl ?_
    refine ol_X12_sum_201  mm_fu b65 b66 v67 0 h64 k_b65 k_b66
