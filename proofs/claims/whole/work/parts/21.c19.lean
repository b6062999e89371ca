def bd_X12_isAnswer (a0 : Nat) (x1 : Int32) (h : mm_H) : mm_O := if x1 = (52 : Int32) then
  (mm_bh (mm_si h a0 63 9) (fun h1 =>
  mm_bh (mm_si h1 a0 64 1) (fun h3 =>
  mm_qv (bd_X12_mustBe a0 771 h3) (fun h5 =>
  mm_bh (mm_si h5 a0 63 ((mm_i h5 a0 63) + (32 : Int32))) (fun h8 =>
  mm_qv (bd_X12_mustByte a0 0 h8) (fun h10 =>
  mm_qv (bd_X12_mustBe a0 4867 h10) (fun h13 =>
  mm_qv (bd_X12_mustByte a0 0 h13) (fun h16 =>
  mm_qv (bd_X12_mustBe a0 12 h16) (fun h19 =>
  mm_qv (bd_X12_mustBe a0 43 h19) (fun h22 =>
  mm_qv (bd_X12_mustBe a0 2 h22) (fun h25 =>
  mm_qv (bd_X12_mustBe a0 772 h25) (fun h28 =>
  mm_qv (bd_X12_mustBe a0 41 h28) (fun h31 =>
  mm_qv (bd_X12_mustBe a0 2 h31) (fun h34 =>
  mm_qv (bd_X12_mustBe a0 0 h34) (fun h37 =>
  if (mm_i h37 a0 64) = 0 ∨ (mm_i h37 a0 64) = 1 then some (some (.int (mm_i h37 a0 64)), h37) else none)))))))))))))))
  else
  (some (some (.int 0), h))
set_option maxHeartbeats 4000000 in
set_option maxRecDepth 100000 in
theorem mt_X12_isAnswer (G : mm_G) (a0 : Nat) (x1 : Int32) (h : mm_H) (k_a0 : mm_kd h a0 = 11) : mm_Met G my_X12_isAnswer [.ref a0, .int x1] h (bd_X12_isAnswer a0 x1 h) := by
  refine mm_met (ls := [.ref a0, .int x1]) pn_RX12 (Nat.le_of_ble_eq_true rfl) rfl ?_
  unfold bd_X12_isAnswer
  refine ok_iload_n (q := 1) dX12_isAnswer_0 rfl rfl ?_
  refine ok_bipush (q := 3) (v := 52) dX12_isAnswer_1 cb_52 rfl ?_
  refine ok_icmp_eq (q := 6) (t := 8) dX12_isAnswer_3 rfl rfl ?_ ?_
  · refine ok_aload_n (q := 9) dX12_isAnswer_8 rfl rfl ?_
    refine ok_bipush (q := 11) (v := 9) dX12_isAnswer_9 cb_9 rfl ?_
    refine ok_putI cl_11 (q := 14) (k := 63) dX12_isAnswer_11 (Nat.le_of_ble_eq_true rfl) wd_1095 (Or.inl rfl) (fun _ _ _ => rfl) rfl rfl k_a0 rfl (bh_ok (fun h1 e2 => ?_))
    have e2 : h1.1 = h.1 := e2
    refine ok_aload_n (q := 15) dX12_isAnswer_14 rfl rfl ?_
    refine ok_iconst (q := 16) (v := 1) dX12_isAnswer_15 ci_1 rfl ?_
    refine ok_putI cl_11 (q := 19) (k := 64) dX12_isAnswer_16 (Nat.le_of_ble_eq_true rfl) wd_1096 (Or.inl rfl) (fun _ _ _ => rfl) (by decide) (by decide) (mm_ke e2 k_a0) rfl (bh_ok (fun h3 e4 => ?_))
    have e4 : h3.1 = h.1 := e4.trans e2
    refine ok_aload_n (q := 20) dX12_isAnswer_19 rfl rfl ?_
    refine ok_sipush (q := 23) (v := 771) dX12_isAnswer_20 cs_771 rfl ?_
    refine mm_cv (q := 26) (mt_X12_mustBe G a0 771 h3 (mm_ke e4 k_a0)) (mm_runV (as := [.int 771]) (st := []) cl_11 lk_X12_isAnswer_X12_mustBe_481 rfl dX12_isAnswer_23 rfl (Nat.le_of_ble_eq_true rfl) (mm_ke e4 k_a0)) rfl (fun h5 p6 => ?_)
    have k7 : mm_kd h5 a0 = 11 := mm_kd_app p6 (mm_ke e4 k_a0) (by decide)
    refine ok_aload_n (q := 27) dX12_isAnswer_26 rfl rfl ?_
    refine ok_dup (q := 28) dX12_isAnswer_27 rfl rfl ?_
    refine ok_getI cl_11 (q := 31) (k := 63) dX12_isAnswer_28 (Nat.le_of_ble_eq_true rfl) wd_1095 (fun _ _ _ => rfl) k7 rfl ?_
    refine ok_bipush (q := 33) (v := 32) dX12_isAnswer_31 cb_32 rfl ?_
    refine ok_iadd (q := 34) dX12_isAnswer_33 rfl ?_
    refine ok_putI cl_11 (q := 37) (k := 63) dX12_isAnswer_34 (Nat.le_of_ble_eq_true rfl) wd_1095 (Or.inl rfl) (fun _ _ _ => rfl) rfl rfl k7 rfl (bh_ok (fun h8 e9 => ?_))
    have e9 : h8.1 = h5.1 := e9
    refine ok_aload_n (q := 38) dX12_isAnswer_37 rfl rfl ?_
    refine ok_iconst (q := 39) (v := 0) dX12_isAnswer_38 ci_0 rfl ?_
    refine mm_cv (q := 42) (mt_X12_mustByte G a0 0 h8 (mm_ke e9 k7)) (mm_runV (as := [.int 0]) (st := []) cl_11 lk_X12_isAnswer_X12_mustByte_484 rfl dX12_isAnswer_39 rfl (Nat.le_of_ble_eq_true rfl) (mm_ke e9 k7)) rfl (fun h10 p11 => ?_)
    have k12 : mm_kd h10 a0 = 11 := mm_kd_app p11 (mm_ke e9 k7) (by decide)
    refine ok_aload_n (q := 43) dX12_isAnswer_42 rfl rfl ?_
    refine ok_sipush (q := 46) (v := 4867) dX12_isAnswer_43 cs_4867 rfl ?_
    refine mm_cv (q := 49) (mt_X12_mustBe G a0 4867 h10 k12) (mm_runV (as := [.int 4867]) (st := []) cl_11 lk_X12_isAnswer_X12_mustBe_481 rfl dX12_isAnswer_46 rfl (Nat.le_of_ble_eq_true rfl) k12) rfl (fun h13 p14 => ?_)
    have k15 : mm_kd h13 a0 = 11 := mm_kd_app p14 k12 (by decide)
    refine ok_aload_n (q := 50) dX12_isAnswer_49 rfl rfl ?_
    refine ok_iconst (q := 51) (v := 0) dX12_isAnswer_50 ci_0 rfl ?_
    refine mm_cv (q := 54) (mt_X12_mustByte G a0 0 h13 k15) (mm_runV (as := [.int 0]) (st := []) cl_11 lk_X12_isAnswer_X12_mustByte_484 rfl dX12_isAnswer_51 rfl (Nat.le_of_ble_eq_true rfl) k15) rfl (fun h16 p17 => ?_)
    have k18 : mm_kd h16 a0 = 11 := mm_kd_app p17 k15 (by decide)
    refine ok_aload_n (q := 55) dX12_isAnswer_54 rfl rfl ?_
    refine ok_bipush (q := 57) (v := 12) dX12_isAnswer_55 cb_12 rfl ?_
    refine mm_cv (q := 60) (mt_X12_mustBe G a0 12 h16 k18) (mm_runV (as := [.int 12]) (st := []) cl_11 lk_X12_isAnswer_X12_mustBe_481 rfl dX12_isAnswer_57 rfl (Nat.le_of_ble_eq_true rfl) k18) rfl (fun h19 p20 => ?_)
    have k21 : mm_kd h19 a0 = 11 := mm_kd_app p20 k18 (by decide)
    refine ok_aload_n (q := 61) dX12_isAnswer_60 rfl rfl ?_
    refine ok_bipush (q := 63) (v := 43) dX12_isAnswer_61 cb_43 rfl ?_
    refine mm_cv (q := 66) (mt_X12_mustBe G a0 43 h19 k21) (mm_runV (as := [.int 43]) (st := []) cl_11 lk_X12_isAnswer_X12_mustBe_481 rfl dX12_isAnswer_63 rfl (Nat.le_of_ble_eq_true rfl) k21) rfl (fun h22 p23 => ?_)
    have k24 : mm_kd h22 a0 = 11 := mm_kd_app p23 k21 (by decide)
    refine ok_aload_n (q := 67) dX12_isAnswer_66 rfl rfl ?_
    refine ok_iconst (q := 68) (v := 2) dX12_isAnswer_67 ci_2 rfl ?_
    refine mm_cv (q := 71) (mt_X12_mustBe G a0 2 h22 k24) (mm_runV (as := [.int 2]) (st := []) cl_11 lk_X12_isAnswer_X12_mustBe_481 rfl dX12_isAnswer_68 rfl (Nat.le_of_ble_eq_true rfl) k24) rfl (fun h25 p26 => ?_)
    have k27 : mm_kd h25 a0 = 11 := mm_kd_app p26 k24 (by decide)
    refine ok_aload_n (q := 72) dX12_isAnswer_71 rfl rfl ?_
    refine ok_sipush (q := 75) (v := 772) dX12_isAnswer_72 cs_772 rfl ?_
    refine mm_cv (q := 78) (mt_X12_mustBe G a0 772 h25 k27) (mm_runV (as := [.int 772]) (st := []) cl_11 lk_X12_isAnswer_X12_mustBe_481 rfl dX12_isAnswer_75 rfl (Nat.le_of_ble_eq_true rfl) k27) rfl (fun h28 p29 => ?_)
    have k30 : mm_kd h28 a0 = 11 := mm_kd_app p29 k27 (by decide)
    refine ok_aload_n (q := 79) dX12_isAnswer_78 rfl rfl ?_
    refine ok_bipush (q := 81) (v := 41) dX12_isAnswer_79 cb_41 rfl ?_
    refine mm_cv (q := 84) (mt_X12_mustBe G a0 41 h28 k30) (mm_runV (as := [.int 41]) (st := []) cl_11 lk_X12_isAnswer_X12_mustBe_481 rfl dX12_isAnswer_81 rfl (Nat.le_of_ble_eq_true rfl) k30) rfl (fun h31 p32 => ?_)
    have k33 : mm_kd h31 a0 = 11 := mm_kd_app p32 k30 (by decide)
    refine ok_aload_n (q := 85) dX12_isAnswer_84 rfl rfl ?_
    refine ok_iconst (q := 86) (v := 2) dX12_isAnswer_85 ci_2 rfl ?_
    refine mm_cv (q := 89) (mt_X12_mustBe G a0 2 h31 k33) (mm_runV (as := [.int 2]) (st := []) cl_11 lk_X12_isAnswer_X12_mustBe_481 rfl dX12_isAnswer_86 rfl (Nat.le_of_ble_eq_true rfl) k33) rfl (fun h34 p35 => ?_)
    have k36 : mm_kd h34 a0 = 11 := mm_kd_app p35 k33 (by decide)
    refine ok_aload_n (q := 90) dX12_isAnswer_89 rfl rfl ?_
    refine ok_iconst (q := 91) (v := 0) dX12_isAnswer_90 ci_0 rfl ?_
    refine mm_cv (q := 94) (mt_X12_mustBe G a0 0 h34 k36) (mm_runV (as := [.int 0]) (st := []) cl_11 lk_X12_isAnswer_X12_mustBe_481 rfl dX12_isAnswer_91 rfl (Nat.le_of_ble_eq_true rfl) k36) rfl (fun h37 p38 => ?_)
    have k39 : mm_kd h37 a0 = 11 := mm_kd_app p38 k36 (by decide)
    refine ok_aload_n (q := 95) dX12_isAnswer_94 rfl rfl ?_
    refine ok_getI cl_11 (q := 98) (k := 64) dX12_isAnswer_95 (Nat.le_of_ble_eq_true rfl) wd_1096 (fun _ _ _ => rfl) k39 rfl ?_
    refine mm_ck (fun c40 => ?_)
    exact ok_iret (t := .boolean) dX12_isAnswer_98 rfl (mm_isb c40).1
  · refine ok_iconst (q := 7) (v := 0) dX12_isAnswer_6 ci_0 rfl ?_
    exact ok_iret (t := .boolean) dX12_isAnswer_7 rfl (by decide)
def lp_X12_bodyFault_124  : Nat → Nat → Int32 → mm_H → mm_O
  | 0, _, _, _ => none
  | n + 1, a0, x4, h => if (32 : Int32) ≤ x4 then
  (some (some (.int 0), h))
  else
  (mm_gr h a0 43 (fun b26 =>
  if mm_in x4 (mm_ln h b26) = true then (mm_gr h a0 60 (fun b29 =>
  if mm_in ((9 : Int32) + x4) (mm_ln h b29) = true then (if (mm_i h b26 (mm_n x4)) = (mm_i h b29 (mm_n ((9 : Int32) + x4))) then
  (lp_X12_bodyFault_124 n a0 (x4 + 1) h)
  else
  (some (some (.int 51), h))) else none)) else none))
set_option maxHeartbeats 4000000 in
set_option maxRecDepth 100000 in
theorem ol_X12_bodyFault_124 {G : mm_G}   : ∀ (n : Nat) (a0 : Nat) (x4 : Int32) (h : mm_H), mm_kd h a0 = 11 → mm_Ok G my_X12_bodyFault 124 [.ref a0, mm_U, mm_U, mm_U, .int x4] [] h (lp_X12_bodyFault_124 n a0 x4 h) := by
  intro n
  induction n with
  | zero => intro a0 x4 h k_a0; exact mm_no
  | succ n ih =>
    intro a0 x4 h k_a0
    rw [lp_X12_bodyFault_124]
    refine ok_iload (q := 126) dX12_bodyFault_124 rfl rfl ?_
    refine ok_bipush (q := 128) (v := 32) dX12_bodyFault_126 cb_32 rfl ?_
    refine ok_icmp_ge (q := 131) (t := 160) dX12_bodyFault_128 rfl rfl ?_ ?_
    · refine ok_iconst (q := 161) (v := 0) dX12_bodyFault_160 ci_0 rfl ?_
      exact ok_iret (t := .int) dX12_bodyFault_161 rfl rfl
    · refine ok_aload_n (q := 132) dX12_bodyFault_131 rfl rfl ?_
      refine ok_getR cl_11 (q := 135) (k := 43) dX12_bodyFault_132 (Nat.le_of_ble_eq_true rfl) wd_1075 (fun _ _ _ => rfl) kt_11_43 k_a0 rfl (fun b26 k27 => ?_)
      refine ok_iload (q := 137) dX12_bodyFault_135 rfl rfl ?_
      refine mm_ck (fun c28 => ?_)
      refine ok_bald (q := 138) dX12_bodyFault_137 k27 c28 rfl ?_
      refine ok_aload_n (q := 139) dX12_bodyFault_138 rfl rfl ?_
      refine ok_getR cl_11 (q := 142) (k := 60) dX12_bodyFault_139 (Nat.le_of_ble_eq_true rfl) wd_1092 (fun _ _ _ => rfl) kt_11_60 k_a0 rfl (fun b29 k30 => ?_)
      refine ok_bipush (q := 144) (v := 9) dX12_bodyFault_142 cb_9 rfl ?_
      refine ok_iload (q := 146) dX12_bodyFault_144 rfl rfl ?_
      refine ok_iadd (q := 147) dX12_bodyFault_146 rfl ?_
      refine mm_ck (fun c31 => ?_)
      refine ok_bald (q := 148) dX12_bodyFault_147 k30 c31 rfl ?_
      refine ok_icmp_eq (q := 151) (t := 154) dX12_bodyFault_148 rfl rfl ?_ ?_
      · refine ok_iinc (q := 157) (v := x4 + 1) (ls' := [.ref a0, mm_U, mm_U, mm_U, .int (x4 + 1)]) dX12_bodyFault_154 rfl (congrArg (x4 + ·) ci_1) (Nat.le_of_ble_eq_true rfl) rfl rfl ?_
        refine ok_goto (q := 124) dX12_bodyFault_157 rfl ?_
        exact ih a0 (x4 + 1) h k_a0
      · refine ok_bipush (q := 153) (v := 51) dX12_bodyFault_151 cb_51 rfl ?_
        exact ok_iret (t := .int) dX12_bodyFault_153 rfl rfl
def jn_X12_bodyFault_191  (h : mm_H) : mm_O := some (some (.int 0), h)
set_option maxHeartbeats 4000000 in
set_option maxRecDepth 100000 in
theorem oj_X12_bodyFault_191 {G : mm_G}    (h : mm_H)  : mm_Ok G my_X12_bodyFault 191 [mm_U, mm_U, mm_U, mm_U, mm_U] [] h (jn_X12_bodyFault_191 h) := by
  unfold jn_X12_bodyFault_191
  refine ok_iconst (q := 192) (v := 0) dX12_bodyFault_191 ci_0 rfl ?_
  refine ok_goto (q := 197) dX12_bodyFault_192 rfl ?_
  exact ok_iret (t := .int) dX12_bodyFault_197 rfl rfl
def bd_X12_bodyFault (a0 : Nat) (x1 : Int32) (x2 : Int32) (x3 : Int32) (h : mm_H) : mm_O := if x2 = 1 then
  (mm_qi (bd_X12_helloFault a0 x1 x3 h) (fun v4 h2 =>
  some (some (.int v4), h2)))
  else
  (if x2 = 2 then
  (mm_qi (bd_X12_isAnswer a0 x3 h) (fun v9 h7 =>
  if v9 = 0 then
  (some (some (.int 47), h7))
  else
  (some (some (.int 0), h7))))
  else
  (if x2 = 8 then
  (if x3 = (2 : Int32) then
  (mm_gr h a0 60 (fun b12 =>
  if mm_in (9 : Int32) (mm_ln h b12) = true then (if (mm_i h b12 (mm_n (9 : Int32))) = 0 then
  (mm_gr h a0 60 (fun b15 =>
  if mm_in (10 : Int32) (mm_ln h b15) = true then (if (mm_i h b15 (mm_n (10 : Int32))) = 0 then
  (some (some (.int 0), h))
  else
  (some (some (.int 47), h))) else none))
  else
  (some (some (.int 47), h))) else none))
  else
  (some (some (.int 47), h)))
  else
  (if x2 = 20 then
  (if x3 = (32 : Int32) then
  (mm_gr h a0 23 (fun b19 =>
  mm_gr h a0 43 (fun b21 =>
  mm_qv (bd_X12_prove a0 x1 b19 b21 0 h) (fun h23 =>
  lp_X12_bodyFault_124  mm_fu a0 0 h23))))
  else
  (some (some (.int 50), h)))
  else
  (if x3 = (1 : Int32) then
  (mm_gr h a0 60 (fun b32 =>
  if mm_in (9 : Int32) (mm_ln h b32) = true then (if (mm_i h b32 (mm_n (9 : Int32))) = 0 then
  (jn_X12_bodyFault_191 h)
  else
  (mm_gr h a0 60 (fun b35 =>
  if mm_in (9 : Int32) (mm_ln h b35) = true then (if (mm_i h b35 (mm_n (9 : Int32))) = (1 : Int32) then
  (jn_X12_bodyFault_191 h)
  else
  (some (some (.int 47), h))) else none))) else none))
  else
  (some (some (.int 50), h))))))
set_option maxHeartbeats 4000000 in
set_option maxRecDepth 100000 in
theorem mt_X12_bodyFault (G : mm_G) (a0 : Nat) (x1 : Int32) (x2 : Int32) (x3 : Int32) (h : mm_H) (k_a0 : mm_kd h a0 = 11) : mm_Met G my_X12_bodyFault [.ref a0, .int x1, .int x2, .int x3] h (bd_X12_bodyFault a0 x1 x2 x3 h) := by
  refine mm_met (ls := [.ref a0, .int x1, .int x2, .int x3, mm_U]) pn_RX12 (Nat.le_of_ble_eq_true rfl) rfl ?_
  unfold bd_X12_bodyFault
  refine ok_iload_n (q := 1) dX12_bodyFault_0 rfl rfl ?_
  refine mm_sp (fun c1 => ?_) (fun c1 => ?_)
  · refine ok_lookup (q := 44) dX12_bodyFault_1 (by decide) (by rw [c1]; rfl) ?_
    refine ok_aload_n (q := 45) dX12_bodyFault_44 rfl rfl ?_
    refine ok_iload_n (q := 46) dX12_bodyFault_45 rfl rfl ?_
    refine ok_iload_n (q := 47) dX12_bodyFault_46 rfl rfl ?_
    refine mm_ci (q := 50) (mt_X12_helloFault G a0 x1 x3 h k_a0) (mm_runV (as := [.int x1, .int x3]) (st := []) cl_11 lk_X12_bodyFault_X12_helloFault_468 rfl dX12_bodyFault_47 rfl (Nat.le_of_ble_eq_true rfl) k_a0) rfl (fun v4 h2 p3 => ?_)
    have k5 : mm_kd h2 a0 = 11 := mm_kd_app p3 k_a0 (by decide)
    exact ok_iret (t := .int) dX12_bodyFault_50 rfl rfl
  · refine mm_sp (fun c6 => ?_) (fun c6 => ?_)
    · refine ok_lookup (q := 51) dX12_bodyFault_1 (by decide) (by rw [c6]; rfl) ?_
      refine ok_aload_n (q := 52) dX12_bodyFault_51 rfl rfl ?_
      refine ok_iload_n (q := 53) dX12_bodyFault_52 rfl rfl ?_
      refine mm_ci (q := 56) (mt_X12_isAnswer G a0 x3 h k_a0) (mm_runV (as := [.int x3]) (st := []) cl_11 lk_X12_bodyFault_X12_isAnswer_471 rfl dX12_bodyFault_53 rfl (Nat.le_of_ble_eq_true rfl) k_a0) rfl (fun v9 h7 p8 => ?_)
      have k10 : mm_kd h7 a0 = 11 := mm_kd_app p8 k_a0 (by decide)
      refine ok_if_eq (q := 59) (t := 63) dX12_bodyFault_56 rfl rfl ?_ ?_
      · refine ok_bipush (q := 65) (v := 47) dX12_bodyFault_63 cb_47 rfl ?_
        exact ok_iret (t := .int) dX12_bodyFault_65 rfl rfl
      · refine ok_iconst (q := 60) (v := 0) dX12_bodyFault_59 ci_0 rfl ?_
        refine ok_goto (q := 65) dX12_bodyFault_60 rfl ?_
        exact ok_iret (t := .int) dX12_bodyFault_65 rfl rfl
    · refine mm_sp (fun c11 => ?_) (fun c11 => ?_)
      · refine ok_lookup (q := 66) dX12_bodyFault_1 (by decide) (by rw [c11]; rfl) ?_
        refine ok_iload_n (q := 67) dX12_bodyFault_66 rfl rfl ?_
        refine ok_iconst (q := 68) (v := 2) dX12_bodyFault_67 ci_2 rfl ?_
        refine ok_icmp_ne (q := 71) (t := 95) dX12_bodyFault_68 rfl rfl ?_ ?_
        · refine ok_bipush (q := 97) (v := 47) dX12_bodyFault_95 cb_47 rfl ?_
          exact ok_iret (t := .int) dX12_bodyFault_97 rfl rfl
        · refine ok_aload_n (q := 72) dX12_bodyFault_71 rfl rfl ?_
          refine ok_getR cl_11 (q := 75) (k := 60) dX12_bodyFault_72 (Nat.le_of_ble_eq_true rfl) wd_1092 (fun _ _ _ => rfl) kt_11_60 k_a0 rfl (fun b12 k13 => ?_)
          refine ok_bipush (q := 77) (v := 9) dX12_bodyFault_75 cb_9 rfl ?_
          refine mm_ck (fun c14 => ?_)
          refine ok_bald (q := 78) dX12_bodyFault_77 k13 c14 rfl ?_
          refine ok_if_ne (q := 81) (t := 95) dX12_bodyFault_78 rfl rfl ?_ ?_
          · refine ok_bipush (q := 97) (v := 47) dX12_bodyFault_95 cb_47 rfl ?_
            exact ok_iret (t := .int) dX12_bodyFault_97 rfl rfl
          · refine ok_aload_n (q := 82) dX12_bodyFault_81 rfl rfl ?_
            refine ok_getR cl_11 (q := 85) (k := 60) dX12_bodyFault_82 (Nat.le_of_ble_eq_true rfl) wd_1092 (fun _ _ _ => rfl) kt_11_60 k_a0 rfl (fun b15 k16 => ?_)
            refine ok_bipush (q := 87) (v := 10) dX12_bodyFault_85 cb_10 rfl ?_
            refine mm_ck (fun c17 => ?_)
            refine ok_bald (q := 88) dX12_bodyFault_87 k16 c17 rfl ?_
            refine ok_if_ne (q := 91) (t := 95) dX12_bodyFault_88 rfl rfl ?_ ?_
            · refine ok_bipush (q := 97) (v := 47) dX12_bodyFault_95 cb_47 rfl ?_
              exact ok_iret (t := .int) dX12_bodyFault_97 rfl rfl
            · refine ok_iconst (q := 92) (v := 0) dX12_bodyFault_91 ci_0 rfl ?_
              refine ok_goto (q := 97) dX12_bodyFault_92 rfl ?_
              exact ok_iret (t := .int) dX12_bodyFault_97 rfl rfl
      · refine mm_sp (fun c18 => ?_) (fun c18 => ?_)
        · refine ok_lookup (q := 98) dX12_bodyFault_1 (by decide) (by rw [c18]; rfl) ?_
          refine ok_iload_n (q := 99) dX12_bodyFault_98 rfl rfl ?_
          refine ok_bipush (q := 101) (v := 32) dX12_bodyFault_99 cb_32 rfl ?_
          refine ok_icmp_eq (q := 104) (t := 107) dX12_bodyFault_101 rfl rfl ?_ ?_
          · refine ok_aload_n (q := 108) dX12_bodyFault_107 rfl rfl ?_
            refine ok_iload_n (q := 109) dX12_bodyFault_108 rfl rfl ?_
            refine ok_aload_n (q := 110) dX12_bodyFault_109 rfl rfl ?_
            refine ok_getR cl_11 (q := 113) (k := 23) dX12_bodyFault_110 (Nat.le_of_ble_eq_true rfl) wd_1055 (fun _ _ _ => rfl) kt_11_23 k_a0 rfl (fun b19 k20 => ?_)
            refine ok_aload_n (q := 114) dX12_bodyFault_113 rfl rfl ?_
            refine ok_getR cl_11 (q := 117) (k := 43) dX12_bodyFault_114 (Nat.le_of_ble_eq_true rfl) wd_1075 (fun _ _ _ => rfl) kt_11_43 k_a0 rfl (fun b21 k22 => ?_)
            refine ok_iconst (q := 118) (v := 0) dX12_bodyFault_117 ci_0 rfl ?_
            refine mm_cv (q := 121) (mt_X12_prove G a0 x1 b19 b21 0 h k_a0 k20 k22) (mm_runV (as := [.int x1, .ref b19, .ref b21, .int 0]) (st := []) cl_11 lk_X12_bodyFault_X12_prove_417 rfl dX12_bodyFault_118 rfl (Nat.le_of_ble_eq_true rfl) k_a0) rfl (fun h23 p24 => ?_)
            have k25 : mm_kd h23 a0 = 11 := mm_kd_app p24 k_a0 (by decide)
            refine ok_iconst (q := 122) (v := 0) dX12_bodyFault_121 ci_0 rfl ?_
            refine ok_istore (q := 124) (ls' := [.ref a0, .int x1, .int x2, .int x3, .int 0]) dX12_bodyFault_122 (Nat.le_of_ble_eq_true rfl) rfl rfl ?_
            refine mm_wk [true, false, false, false, true] (ls' := [.ref a0, mm_U, mm_U, mm_U, .int 0]) rfl ?_
            refine ol_X12_bodyFault_124  mm_fu a0 0 h23 k25
          · refine ok_bipush (q := 106) (v := 50) dX12_bodyFault_104 cb_50 rfl ?_
            exact ok_iret (t := .int) dX12_bodyFault_106 rfl rfl
        · refine ok_lookup (q := 162) dX12_bodyFault_1 (by decide) (by rw [lv_osw c1 (by decide : (1 : Int32).toInt = 1), lv_osw c6 (by decide : (2 : Int32).toInt = 2), lv_osw c11 (by decide : (8 : Int32).toInt = 8), lv_osw c18 (by decide : (20 : Int32).toInt = 20)]; rfl) ?_
          refine ok_iload_n (q := 163) dX12_bodyFault_162 rfl rfl ?_
          refine ok_iconst (q := 164) (v := 1) dX12_bodyFault_163 ci_1 rfl ?_
          refine ok_icmp_eq (q := 167) (t := 170) dX12_bodyFault_164 rfl rfl ?_ ?_
          · refine ok_aload_n (q := 171) dX12_bodyFault_170 rfl rfl ?_
            refine ok_getR cl_11 (q := 174) (k := 60) dX12_bodyFault_171 (Nat.le_of_ble_eq_true rfl) wd_1092 (fun _ _ _ => rfl) kt_11_60 k_a0 rfl (fun b32 k33 => ?_)
            refine ok_bipush (q := 176) (v := 9) dX12_bodyFault_174 cb_9 rfl ?_
            refine mm_ck (fun c34 => ?_)
            refine ok_bald (q := 177) dX12_bodyFault_176 k33 c34 rfl ?_
            refine ok_if_eq (q := 180) (t := 191) dX12_bodyFault_177 rfl rfl ?_ ?_
            · refine mm_wk [false, false, false, false, false] (ls' := [mm_U, mm_U, mm_U, mm_U, mm_U]) rfl ?_
              exact oj_X12_bodyFault_191 h
            · refine ok_aload_n (q := 181) dX12_bodyFault_180 rfl rfl ?_
              refine ok_getR cl_11 (q := 184) (k := 60) dX12_bodyFault_181 (Nat.le_of_ble_eq_true rfl) wd_1092 (fun _ _ _ => rfl) kt_11_60 k_a0 rfl (fun b35 k36 => ?_)
              refine ok_bipush (q := 186) (v := 9) dX12_bodyFault_184 cb_9 rfl ?_
              refine mm_ck (fun c37 => ?_)
              refine ok_bald (q := 187) dX12_bodyFault_186 k36 c37 rfl ?_
              refine ok_iconst (q := 188) (v := 1) dX12_bodyFault_187 ci_1 rfl ?_
              refine ok_icmp_ne (q := 191) (t := 195) dX12_bodyFault_188 rfl rfl ?_ ?_
              · refine ok_bipush (q := 197) (v := 47) dX12_bodyFault_195 cb_47 rfl ?_
                exact ok_iret (t := .int) dX12_bodyFault_197 rfl rfl
              · refine mm_wk [false, false, false, false, false] (ls' := [mm_U, mm_U, mm_U, mm_U, mm_U]) rfl ?_
                exact oj_X12_bodyFault_191 h
          · refine ok_bipush (q := 169) (v := 50) dX12_bodyFault_167 cb_50 rfl ?_
            exact ok_iret (t := .int) dX12_bodyFault_169 rfl rfl
def bd_X12_answer (a0 : Nat) (x1 : Int32) (h : mm_H) : mm_O := mm_qv (bd_X12_beginMessage a0 2 h) (fun h1 =>
  mm_qv (bd_X12_sayTwo a0 771 h1) (fun h4 =>
  mm_gr h4 a0 9 (fun b7 =>
  mm_qv (bd_X12_sayRow a0 b7 ((32 : Int32) * x1) 32 h4) (fun h9 =>
  mm_qv (bd_X12_sayByte a0 0 h9) (fun h12 =>
  mm_qv (bd_X12_sayTwo a0 4867 h12) (fun h15 =>
  mm_qv (bd_X12_sayByte a0 0 h15) (fun h18 =>
  mm_qv (bd_X12_sayTwo a0 12 h18) (fun h21 =>
  mm_qv (bd_X12_sayTwo a0 43 h21) (fun h24 =>
  mm_qv (bd_X12_sayTwo a0 2 h24) (fun h27 =>
  mm_qv (bd_X12_sayTwo a0 772 h27) (fun h30 =>
  mm_qv (bd_X12_sayTwo a0 41 h30) (fun h33 =>
  mm_qv (bd_X12_sayTwo a0 2 h33) (fun h36 =>
  mm_qv (bd_X12_sayTwo a0 0 h36) (fun h39 =>
  mm_qv (bd_X12_endMessage a0 x1 1 h39) (fun h42 =>
  mm_qv (bd_X12_handSecrets a0 x1 h42) (fun h45 =>
  mm_qv (bd_X12_beginMessage a0 8 h45) (fun h48 =>
  mm_qv (bd_X12_sayTwo a0 0 h48) (fun h51 =>
  mm_qv (bd_X12_endMessage a0 x1 1 h51) (fun h54 =>
  mm_qv (bd_X12_sayFinished a0 x1 h54) (fun h57 =>
  mm_qv (bd_X12_hear a0 x1 h57) (fun h60 =>
  mm_gr h60 a0 25 (fun b63 =>
  mm_gr h60 a0 44 (fun b65 =>
  mm_gr h60 a0 22 (fun b67 =>
  mm_qv (bd_X12_expand a0 b63 ((32 : Int32) * x1) 4 b65 32 b67 ((32 : Int32) * x1) 32 h60) (fun h69 =>
  mm_gr h69 a0 25 (fun b72 =>
  mm_gr h69 a0 44 (fun b74 =>
  mm_gr h69 a0 24 (fun b76 =>
  mm_qv (bd_X12_expand a0 b72 ((32 : Int32) * x1) 3 b74 32 b76 ((32 : Int32) * x1) 32 h69) (fun h78 =>
  mm_gr h78 a0 28 (fun b81 =>
  if 32 ≤ b81 ∧ mm_in x1 (mm_ln h78 b81) = true then (mm_bh (mm_si h78 b81 (mm_n x1) (0 : Int32)) (fun h84 =>
  mm_gr h84 a0 4 (fun b86 =>
  if 32 ≤ b86 ∧ mm_in x1 (mm_ln h84 b86) = true then (mm_bh (mm_si h84 b86 (mm_n x1) (5 : Int32)) (fun h89 =>
  some (none, h89))) else none))) else none))))))))))))))))))))))))))))))
set_option maxHeartbeats 4000000 in
set_option maxRecDepth 100000 in
theorem mt_X12_answer (G : mm_G) (a0 : Nat) (x1 : Int32) (h : mm_H) (k_a0 : mm_kd h a0 = 11) : mm_Met G my_X12_answer [.ref a0, .int x1] h (bd_X12_answer a0 x1 h) := by
  refine mm_met (ls := [.ref a0, .int x1]) pn_RX12 (Nat.le_of_ble_eq_true rfl) rfl ?_
  unfold bd_X12_answer
  refine ok_aload_n (q := 1) dX12_answer_0 rfl rfl ?_
  refine ok_iconst (q := 2) (v := 2) dX12_answer_1 ci_2 rfl ?_
  refine mm_cv (q := 5) (mt_X12_beginMessage G a0 2 h k_a0) (mm_runV (as := [.int 2]) (st := []) cl_11 lk_X12_answer_X12_beginMessage_404 rfl dX12_answer_2 rfl (Nat.le_of_ble_eq_true rfl) k_a0) rfl (fun h1 p2 => ?_)
  have k3 : mm_kd h1 a0 = 11 := mm_kd_app p2 k_a0 (by decide)
  refine ok_aload_n (q := 6) dX12_answer_5 rfl rfl ?_
  refine ok_sipush (q := 9) (v := 771) dX12_answer_6 cs_771 rfl ?_
  refine mm_cv (q := 12) (mt_X12_sayTwo G a0 771 h1 k3) (mm_runV (as := [.int 771]) (st := []) cl_11 lk_X12_answer_X12_sayTwo_390 rfl dX12_answer_9 rfl (Nat.le_of_ble_eq_true rfl) k3) rfl (fun h4 p5 => ?_)
  have k6 : mm_kd h4 a0 = 11 := mm_kd_app p5 k3 (by decide)
  refine ok_aload_n (q := 13) dX12_answer_12 rfl rfl ?_
  refine ok_aload_n (q := 14) dX12_answer_13 rfl rfl ?_
  refine ok_getR cl_11 (q := 17) (k := 9) dX12_answer_14 (Nat.le_of_ble_eq_true rfl) wd_1041 (fun _ _ _ => rfl) kt_11_9 k6 rfl (fun b7 k8 => ?_)
  refine ok_bipush (q := 19) (v := 32) dX12_answer_17 cb_32 rfl ?_
  refine ok_iload_n (q := 20) dX12_answer_19 rfl rfl ?_
  refine ok_imul (q := 21) dX12_answer_20 rfl ?_
  refine ok_bipush (q := 23) (v := 32) dX12_answer_21 cb_32 rfl ?_
  refine mm_cv (q := 26) (mt_X12_sayRow G a0 b7 ((32 : Int32) * x1) 32 h4 k6 k8) (mm_runV (as := [.ref b7, .int ((32 : Int32) * x1), .int 32]) (st := []) cl_11 lk_X12_answer_X12_sayRow_407 rfl dX12_answer_23 rfl (Nat.le_of_ble_eq_true rfl) k6) rfl (fun h9 p10 => ?_)
  have k11 : mm_kd h9 a0 = 11 := mm_kd_app p10 k6 (by decide)
  refine ok_aload_n (q := 27) dX12_answer_26 rfl rfl ?_
  refine ok_iconst (q := 28) (v := 0) dX12_answer_27 ci_0 rfl ?_
  refine mm_cv (q := 31) (mt_X12_sayByte G a0 0 h9 k11) (mm_runV (as := [.int 0]) (st := []) cl_11 lk_X12_answer_X12_sayByte_377 rfl dX12_answer_28 rfl (Nat.le_of_ble_eq_true rfl) k11) rfl (fun h12 p13 => ?_)
  have k14 : mm_kd h12 a0 = 11 := mm_kd_app p13 k11 (by decide)
  refine ok_aload_n (q := 32) dX12_answer_31 rfl rfl ?_
  refine ok_sipush (q := 35) (v := 4867) dX12_answer_32 cs_4867 rfl ?_
  refine mm_cv (q := 38) (mt_X12_sayTwo G a0 4867 h12 k14) (mm_runV (as := [.int 4867]) (st := []) cl_11 lk_X12_answer_X12_sayTwo_390 rfl dX12_answer_35 rfl (Nat.le_of_ble_eq_true rfl) k14) rfl (fun h15 p16 => ?_)
  have k17 : mm_kd h15 a0 = 11 := mm_kd_app p16 k14 (by decide)
  refine ok_aload_n (q := 39) dX12_answer_38 rfl rfl ?_
  refine ok_iconst (q := 40) (v := 0) dX12_answer_39 ci_0 rfl ?_
  refine mm_cv (q := 43) (mt_X12_sayByte G a0 0 h15 k17) (mm_runV (as := [.int 0]) (st := []) cl_11 lk_X12_answer_X12_sayByte_377 rfl dX12_answer_40 rfl (Nat.le_of_ble_eq_true rfl) k17) rfl (fun h18 p19 => ?_)
  have k20 : mm_kd h18 a0 = 11 := mm_kd_app p19 k17 (by decide)
  refine ok_aload_n (q := 44) dX12_answer_43 rfl rfl ?_
  refine ok_bipush (q := 46) (v := 12) dX12_answer_44 cb_12 rfl ?_
  refine mm_cv (q := 49) (mt_X12_sayTwo G a0 12 h18 k20) (mm_runV (as := [.int 12]) (st := []) cl_11 lk_X12_answer_X12_sayTwo_390 rfl dX12_answer_46 rfl (Nat.le_of_ble_eq_true rfl) k20) rfl (fun h21 p22 => ?_)
  have k23 : mm_kd h21 a0 = 11 := mm_kd_app p22 k20 (by decide)
  refine ok_aload_n (q := 50) dX12_answer_49 rfl rfl ?_
  refine ok_bipush (q := 52) (v := 43) dX12_answer_50 cb_43 rfl ?_
  refine mm_cv (q := 55) (mt_X12_sayTwo G a0 43 h21 k23) (mm_runV (as := [.int 43]) (st := []) cl_11 lk_X12_answer_X12_sayTwo_390 rfl dX12_answer_52 rfl (Nat.le_of_ble_eq_true rfl) k23) rfl (fun h24 p25 => ?_)
  have k26 : mm_kd h24 a0 = 11 := mm_kd_app p25 k23 (by decide)
  refine ok_aload_n (q := 56) dX12_answer_55 rfl rfl ?_
  refine ok_iconst (q := 57) (v := 2) dX12_answer_56 ci_2 rfl ?_
  refine mm_cv (q := 60) (mt_X12_sayTwo G a0 2 h24 k26) (mm_runV (as := [.int 2]) (st := []) cl_11 lk_X12_answer_X12_sayTwo_390 rfl dX12_answer_57 rfl (Nat.le_of_ble_eq_true rfl) k26) rfl (fun h27 p28 => ?_)
  have k29 : mm_kd h27 a0 = 11 := mm_kd_app p28 k26 (by decide)
  refine ok_aload_n (q := 61) dX12_answer_60 rfl rfl ?_
  refine ok_sipush (q := 64) (v := 772) dX12_answer_61 cs_772 rfl ?_
  refine mm_cv (q := 67) (mt_X12_sayTwo G a0 772 h27 k29) (mm_runV (as := [.int 772]) (st := []) cl_11 lk_X12_answer_X12_sayTwo_390 rfl dX12_answer_64 rfl (Nat.le_of_ble_eq_true rfl) k29) rfl (fun h30 p31 => ?_)
  have k32 : mm_kd h30 a0 = 11 := mm_kd_app p31 k29 (by decide)
  refine ok_aload_n (q := 68) dX12_answer_67 rfl rfl ?_
  refine ok_bipush (q := 70) (v := 41) dX12_answer_68 cb_41 rfl ?_
  refine mm_cv (q := 73) (mt_X12_sayTwo G a0 41 h30 k32) (mm_runV (as := [.int 41]) (st := []) cl_11 lk_X12_answer_X12_sayTwo_390 rfl dX12_answer_70 rfl (Nat.le_of_ble_eq_true rfl) k32) rfl (fun h33 p34 => ?_)
  have k35 : mm_kd h33 a0 = 11 := mm_kd_app p34 k32 (by decide)
  refine ok_aload_n (q := 74) dX12_answer_73 rfl rfl ?_
  refine ok_iconst (q := 75) (v := 2) dX12_answer_74 ci_2 rfl ?_
  refine mm_cv (q := 78) (mt_X12_sayTwo G a0 2 h33 k35) (mm_runV (as := [.int 2]) (st := []) cl_11 lk_X12_answer_X12_sayTwo_390 rfl dX12_answer_75 rfl (Nat.le_of_ble_eq_true rfl) k35) rfl (fun h36 p37 => ?_)
  have k38 : mm_kd h36 a0 = 11 := mm_kd_app p37 k35 (by decide)
  refine ok_aload_n (q := 79) dX12_answer_78 rfl rfl ?_
  refine ok_iconst (q := 80) (v := 0) dX12_answer_79 ci_0 rfl ?_
  refine mm_cv (q := 83) (mt_X12_sayTwo G a0 0 h36 k38) (mm_runV (as := [.int 0]) (st := []) cl_11 lk_X12_answer_X12_sayTwo_390 rfl dX12_answer_80 rfl (Nat.le_of_ble_eq_true rfl) k38) rfl (fun h39 p40 => ?_)
  have k41 : mm_kd h39 a0 = 11 := mm_kd_app p40 k38 (by decide)
  refine ok_aload_n (q := 84) dX12_answer_83 rfl rfl ?_
  refine ok_iload_n (q := 85) dX12_answer_84 rfl rfl ?_
  refine ok_iconst (q := 86) (v := 1) dX12_answer_85 ci_1 rfl ?_
  refine mm_cv (q := 89) (mt_X12_endMessage G a0 x1 1 h39 k41) (mm_runV (as := [.int x1, .int 1]) (st := []) cl_11 lk_X12_answer_X12_endMessage_413 rfl dX12_answer_86 rfl (Nat.le_of_ble_eq_true rfl) k41) rfl (fun h42 p43 => ?_)
  have k44 : mm_kd h42 a0 = 11 := mm_kd_app p43 k41 (by decide)
  refine ok_aload_n (q := 90) dX12_answer_89 rfl rfl ?_
  refine ok_iload_n (q := 91) dX12_answer_90 rfl rfl ?_
  refine mm_cv (q := 94) (mt_X12_handSecrets G a0 x1 h42 k44) (mm_runV (as := [.int x1]) (st := []) cl_11 lk_X12_answer_X12_handSecrets_490 rfl dX12_answer_91 rfl (Nat.le_of_ble_eq_true rfl) k44) rfl (fun h45 p46 => ?_)
  have k47 : mm_kd h45 a0 = 11 := mm_kd_app p46 k44 (by decide)
  refine ok_aload_n (q := 95) dX12_answer_94 rfl rfl ?_
  refine ok_bipush (q := 97) (v := 8) dX12_answer_95 cb_8 rfl ?_
  refine mm_cv (q := 100) (mt_X12_beginMessage G a0 8 h45 k47) (mm_runV (as := [.int 8]) (st := []) cl_11 lk_X12_answer_X12_beginMessage_404 rfl dX12_answer_97 rfl (Nat.le_of_ble_eq_true rfl) k47) rfl (fun h48 p49 => ?_)
  have k50 : mm_kd h48 a0 = 11 := mm_kd_app p49 k47 (by decide)
  refine ok_aload_n (q := 101) dX12_answer_100 rfl rfl ?_
  refine ok_iconst (q := 102) (v := 0) dX12_answer_101 ci_0 rfl ?_
  refine mm_cv (q := 105) (mt_X12_sayTwo G a0 0 h48 k50) (mm_runV (as := [.int 0]) (st := []) cl_11 lk_X12_answer_X12_sayTwo_390 rfl dX12_answer_102 rfl (Nat.le_of_ble_eq_true rfl) k50) rfl (fun h51 p52 => ?_)
  have k53 : mm_kd h51 a0 = 11 := mm_kd_app p52 k50 (by decide)
  refine ok_aload_n (q := 106) dX12_answer_105 rfl rfl ?_
  refine ok_iload_n (q := 107) dX12_answer_106 rfl rfl ?_
  refine ok_iconst (q := 108) (v := 1) dX12_answer_107 ci_1 rfl ?_
  refine mm_cv (q := 111) (mt_X12_endMessage G a0 x1 1 h51 k53) (mm_runV (as := [.int x1, .int 1]) (st := []) cl_11 lk_X12_answer_X12_endMessage_413 rfl dX12_answer_108 rfl (Nat.le_of_ble_eq_true rfl) k53) rfl (fun h54 p55 => ?_)
  have k56 : mm_kd h54 a0 = 11 := mm_kd_app p55 k53 (by decide)
  refine ok_aload_n (q := 112) dX12_answer_111 rfl rfl ?_
  refine ok_iload_n (q := 113) dX12_answer_112 rfl rfl ?_
  refine mm_cv (q := 116) (mt_X12_sayFinished G a0 x1 h54 k56) (mm_runV (as := [.int x1]) (st := []) cl_11 lk_X12_answer_X12_sayFinished_499 rfl dX12_answer_113 rfl (Nat.le_of_ble_eq_true rfl) k56) rfl (fun h57 p58 => ?_)
  have k59 : mm_kd h57 a0 = 11 := mm_kd_app p58 k56 (by decide)
  refine ok_aload_n (q := 117) dX12_answer_116 rfl rfl ?_
  refine ok_iload_n (q := 118) dX12_answer_117 rfl rfl ?_
  refine mm_cv (q := 121) (mt_X12_hear G a0 x1 h57 k59) (mm_runV (as := [.int x1]) (st := []) cl_11 lk_X12_answer_X12_hear_334 rfl dX12_answer_118 rfl (Nat.le_of_ble_eq_true rfl) k59) rfl (fun h60 p61 => ?_)
  have k62 : mm_kd h60 a0 = 11 := mm_kd_app p61 k59 (by decide)
  refine ok_aload_n (q := 122) dX12_answer_121 rfl rfl ?_
  refine ok_aload_n (q := 123) dX12_answer_122 rfl rfl ?_
  refine ok_getR cl_11 (q := 126) (k := 25) dX12_answer_123 (Nat.le_of_ble_eq_true rfl) wd_1057 (fun _ _ _ => rfl) kt_11_25 k62 rfl (fun b63 k64 => ?_)
  refine ok_bipush (q := 128) (v := 32) dX12_answer_126 cb_32 rfl ?_
  refine ok_iload_n (q := 129) dX12_answer_128 rfl rfl ?_
  refine ok_imul (q := 130) dX12_answer_129 rfl ?_
  refine ok_iconst (q := 131) (v := 4) dX12_answer_130 ci_4 rfl ?_
  refine ok_aload_n (q := 132) dX12_answer_131 rfl rfl ?_
  refine ok_getR cl_11 (q := 135) (k := 44) dX12_answer_132 (Nat.le_of_ble_eq_true rfl) wd_1076 (fun _ _ _ => rfl) kt_11_44 k62 rfl (fun b65 k66 => ?_)
  refine ok_bipush (q := 137) (v := 32) dX12_answer_135 cb_32 rfl ?_
  refine ok_aload_n (q := 138) dX12_answer_137 rfl rfl ?_
  refine ok_getR cl_11 (q := 141) (k := 22) dX12_answer_138 (Nat.le_of_ble_eq_true rfl) wd_1054 (fun _ _ _ => rfl) kt_11_22 k62 rfl (fun b67 k68 => ?_)
  refine ok_bipush (q := 143) (v := 32) dX12_answer_141 cb_32 rfl ?_
  refine ok_iload_n (q := 144) dX12_answer_143 rfl rfl ?_
  refine ok_imul (q := 145) dX12_answer_144 rfl ?_
  refine ok_bipush (q := 147) (v := 32) dX12_answer_145 cb_32 rfl ?_
  refine mm_cv (q := 150) (mt_X12_expand G a0 b63 ((32 : Int32) * x1) 4 b65 32 b67 ((32 : Int32) * x1) 32 h60 k62 k64 k66 k68) (mm_runV (as := [.ref b63, .int ((32 : Int32) * x1), .int 4, .ref b65, .int 32, .ref b67, .int ((32 : Int32) * x1), .int 32]) (st := []) cl_11 lk_X12_answer_X12_expand_330 rfl dX12_answer_147 rfl (Nat.le_of_ble_eq_true rfl) k62) rfl (fun h69 p70 => ?_)
  have k71 : mm_kd h69 a0 = 11 := mm_kd_app p70 k62 (by decide)
  refine ok_aload_n (q := 151) dX12_answer_150 rfl rfl ?_
  refine ok_aload_n (q := 152) dX12_answer_151 rfl rfl ?_
  refine ok_getR cl_11 (q := 155) (k := 25) dX12_answer_152 (Nat.le_of_ble_eq_true rfl) wd_1057 (fun _ _ _ => rfl) kt_11_25 k71 rfl (fun b72 k73 => ?_)
  refine ok_bipush (q := 157) (v := 32) dX12_answer_155 cb_32 rfl ?_
  refine ok_iload_n (q := 158) dX12_answer_157 rfl rfl ?_
  refine ok_imul (q := 159) dX12_answer_158 rfl ?_
  refine ok_iconst (q := 160) (v := 3) dX12_answer_159 ci_3 rfl ?_
  refine ok_aload_n (q := 161) dX12_answer_160 rfl rfl ?_
  refine ok_getR cl_11 (q := 164) (k := 44) dX12_answer_161 (Nat.le_of_ble_eq_true rfl) wd_1076 (fun _ _ _ => rfl) kt_11_44 k71 rfl (fun b74 k75 => ?_)
  refine ok_bipush (q := 166) (v := 32) dX12_answer_164 cb_32 rfl ?_
  refine ok_aload_n (q := 167) dX12_answer_166 rfl rfl ?_
  refine ok_getR cl_11 (q := 170) (k := 24) dX12_answer_167 (Nat.le_of_ble_eq_true rfl) wd_1056 (fun _ _ _ => rfl) kt_11_24 k71 rfl (fun b76 k77 => ?_)
  refine ok_bipush (q := 172) (v := 32) dX12_answer_170 cb_32 rfl ?_
  refine ok_iload_n (q := 173) dX12_answer_172 rfl rfl ?_
  refine ok_imul (q := 174) dX12_answer_173 rfl ?_
  refine ok_bipush (q := 176) (v := 32) dX12_answer_174 cb_32 rfl ?_
  refine mm_cv (q := 179) (mt_X12_expand G a0 b72 ((32 : Int32) * x1) 3 b74 32 b76 ((32 : Int32) * x1) 32 h69 k71 k73 k75 k77) (mm_runV (as := [.ref b72, .int ((32 : Int32) * x1), .int 3, .ref b74, .int 32, .ref b76, .int ((32 : Int32) * x1), .int 32]) (st := []) cl_11 lk_X12_answer_X12_expand_330 rfl dX12_answer_176 rfl (Nat.le_of_ble_eq_true rfl) k71) rfl (fun h78 p79 => ?_)
  have k80 : mm_kd h78 a0 = 11 := mm_kd_app p79 k71 (by decide)
  refine ok_aload_n (q := 180) dX12_answer_179 rfl rfl ?_
  refine ok_getR cl_11 (q := 183) (k := 28) dX12_answer_180 (Nat.le_of_ble_eq_true rfl) wd_1060 (fun _ _ _ => rfl) kt_11_28 k80 rfl (fun b81 k82 => ?_)
  refine ok_iload_n (q := 184) dX12_answer_183 rfl rfl ?_
  refine ok_iconst (q := 185) (v := 0) dX12_answer_184 ci_0 rfl ?_
  refine mm_ck (fun c83 => ?_)
  refine ok_iast (q := 186) dX12_answer_185 k82 c83.1 c83.2 rfl (bh_ok (fun h84 e85 => ?_))
  have e85 : h84.1 = h78.1 := e85
  refine ok_aload_n (q := 187) dX12_answer_186 rfl rfl ?_
  refine ok_getR cl_11 (q := 190) (k := 4) dX12_answer_187 (Nat.le_of_ble_eq_true rfl) wd_1036 (fun _ _ _ => rfl) kt_11_4 (mm_ke e85 k80) rfl (fun b86 k87 => ?_)
  refine ok_iload_n (q := 191) dX12_answer_190 rfl rfl ?_
  refine ok_iconst (q := 192) (v := 5) dX12_answer_191 ci_5 rfl ?_
  refine mm_ck (fun c88 => ?_)
  refine ok_iast (q := 193) dX12_answer_192 (mm_ke e85 (mm_ke e85.symm k87)) c88.1 c88.2 rfl (bh_ok (fun h89 e90 => ?_))
  have e90 : h89.1 = h78.1 := e90.trans e85
  exact ok_ret dX12_answer_193 rfl
def bd_X12_finish (a0 : Nat) (x1 : Int32) (h : mm_H) : mm_O := mm_gr h a0 3 (fun b1 =>
  if mm_in x1 (mm_ln h b1) = true then (if (mm_i h b1 (mm_n x1)) = 0 then
  (mm_qi (bd_X12_isFull a0 x1 h) (fun v6 h4 =>
  if v6 = 0 then
  (mm_qv (bd_X12_hear a0 x1 h4) (fun h8 =>
  mm_gr h8 a0 25 (fun b11 =>
  mm_gr h8 a0 44 (fun b13 =>
  mm_gr h8 a0 24 (fun b15 =>
  mm_qv (bd_X12_expand a0 b11 ((32 : Int32) * x1) 3 b13 32 b15 ((32 : Int32) * x1) 32 h8) (fun h17 =>
  mm_gr h17 a0 25 (fun b20 =>
  mm_gr h17 a0 44 (fun b22 =>
  mm_gr h17 a0 23 (fun b24 =>
  mm_qv (bd_X12_expand a0 b20 ((32 : Int32) * x1) 4 b22 32 b24 ((32 : Int32) * x1) 32 h17) (fun h26 =>
  mm_gr h26 a0 29 (fun b29 =>
  if 32 ≤ b29 ∧ mm_in x1 (mm_ln h26 b29) = true then (mm_bh (mm_si h26 b29 (mm_n x1) (0 : Int32)) (fun h32 =>
  mm_qv (bd_X12_sayFinished a0 x1 h32) (fun h34 =>
  mm_gr h34 a0 24 (fun b37 =>
  mm_gr h34 a0 22 (fun b39 =>
  mm_qv (bd_X12_move b37 ((32 : Int32) * x1) b39 ((32 : Int32) * x1) 32 h34) (fun h41 =>
  mm_gr h41 a0 28 (fun b44 =>
  if 32 ≤ b44 ∧ mm_in x1 (mm_ln h41 b44) = true then (mm_bh (mm_si h41 b44 (mm_n x1) (0 : Int32)) (fun h47 =>
  mm_gr h47 a0 4 (fun b49 =>
  if 32 ≤ b49 ∧ mm_in x1 (mm_ln h47 b49) = true then (mm_bh (mm_si h47 b49 (mm_n x1) (6 : Int32)) (fun h52 =>
  some (none, h52))) else none))) else none))))))) else none)))))))))))
  else
  (mm_gr h4 a0 4 (fun b54 =>
  if 32 ≤ b54 ∧ mm_in x1 (mm_ln h4 b54) = true then (mm_bh (mm_si h4 b54 (mm_n x1) (7 : Int32)) (fun h57 =>
  some (none, h57))) else none))))
  else
  (mm_gr h a0 24 (fun b59 =>
  mm_gr h a0 23 (fun b61 =>
  mm_qv (bd_X12_move b59 ((32 : Int32) * x1) b61 ((32 : Int32) * x1) 32 h) (fun h63 =>
  mm_gr h63 a0 29 (fun b66 =>
  if 32 ≤ b66 ∧ mm_in x1 (mm_ln h63 b66) = true then (mm_bh (mm_si h63 b66 (mm_n x1) (0 : Int32)) (fun h69 =>
  mm_gr h69 a0 4 (fun b71 =>
  if 32 ≤ b71 ∧ mm_in x1 (mm_ln h69 b71) = true then (mm_bh (mm_si h69 b71 (mm_n x1) (6 : Int32)) (fun h74 =>
  some (none, h74))) else none))) else none)))))) else none)
set_option maxHeartbeats 4000000 in
set_option maxRecDepth 100000 in
theorem mt_X12_finish (G : mm_G) (a0 : Nat) (x1 : Int32) (h : mm_H) (k_a0 : mm_kd h a0 = 11) : mm_Met G my_X12_finish [.ref a0, .int x1] h (bd_X12_finish a0 x1 h) := by
  refine mm_met (ls := [.ref a0, .int x1]) pn_RX12 (Nat.le_of_ble_eq_true rfl) rfl ?_
  unfold bd_X12_finish
  refine ok_aload_n (q := 1) dX12_finish_0 rfl rfl ?_
  refine ok_getR cl_11 (q := 4) (k := 3) dX12_finish_1 (Nat.le_of_ble_eq_true rfl) wd_1035 (fun _ _ _ => rfl) kt_11_3 k_a0 rfl (fun b1 k2 => ?_)
  refine ok_iload_n (q := 5) dX12_finish_4 rfl rfl ?_
  refine mm_ck (fun c3 => ?_)
  refine ok_zald (q := 6) dX12_finish_5 k2 c3 rfl ?_
  refine ok_if_eq (q := 9) (t := 46) dX12_finish_6 rfl rfl ?_ ?_
  · refine ok_aload_n (q := 47) dX12_finish_46 rfl rfl ?_
    refine ok_iload_n (q := 48) dX12_finish_47 rfl rfl ?_
    refine mm_ci (q := 51) (mt_X12_isFull G a0 x1 h k_a0) (mm_runV (as := [.int x1]) (st := []) cl_11 lk_X12_finish_X12_isFull_425 rfl dX12_finish_48 rfl (Nat.le_of_ble_eq_true rfl) k_a0) rfl (fun v6 h4 p5 => ?_)
    have k7 : mm_kd h4 a0 = 11 := mm_kd_app p5 k_a0 (by decide)
    refine ok_if_eq (q := 54) (t := 63) dX12_finish_51 rfl rfl ?_ ?_
    · refine ok_aload_n (q := 64) dX12_finish_63 rfl rfl ?_
      refine ok_iload_n (q := 65) dX12_finish_64 rfl rfl ?_
      refine mm_cv (q := 68) (mt_X12_hear G a0 x1 h4 k7) (mm_runV (as := [.int x1]) (st := []) cl_11 lk_X12_finish_X12_hear_334 rfl dX12_finish_65 rfl (Nat.le_of_ble_eq_true rfl) k7) rfl (fun h8 p9 => ?_)
      have k10 : mm_kd h8 a0 = 11 := mm_kd_app p9 k7 (by decide)
      refine ok_aload_n (q := 69) dX12_finish_68 rfl rfl ?_
      refine ok_aload_n (q := 70) dX12_finish_69 rfl rfl ?_
      refine ok_getR cl_11 (q := 73) (k := 25) dX12_finish_70 (Nat.le_of_ble_eq_true rfl) wd_1057 (fun _ _ _ => rfl) kt_11_25 k10 rfl (fun b11 k12 => ?_)
      refine ok_bipush (q := 75) (v := 32) dX12_finish_73 cb_32 rfl ?_
      refine ok_iload_n (q := 76) dX12_finish_75 rfl rfl ?_
      refine ok_imul (q := 77) dX12_finish_76 rfl ?_
      refine ok_iconst (q := 78) (v := 3) dX12_finish_77 ci_3 rfl ?_
      refine ok_aload_n (q := 79) dX12_finish_78 rfl rfl ?_
      refine ok_getR cl_11 (q := 82) (k := 44) dX12_finish_79 (Nat.le_of_ble_eq_true rfl) wd_1076 (fun _ _ _ => rfl) kt_11_44 k10 rfl (fun b13 k14 => ?_)
      refine ok_bipush (q := 84) (v := 32) dX12_finish_82 cb_32 rfl ?_
      refine ok_aload_n (q := 85) dX12_finish_84 rfl rfl ?_
      refine ok_getR cl_11 (q := 88) (k := 24) dX12_finish_85 (Nat.le_of_ble_eq_true rfl) wd_1056 (fun _ _ _ => rfl) kt_11_24 k10 rfl (fun b15 k16 => ?_)
      refine ok_bipush (q := 90) (v := 32) dX12_finish_88 cb_32 rfl ?_
      refine ok_iload_n (q := 91) dX12_finish_90 rfl rfl ?_
      refine ok_imul (q := 92) dX12_finish_91 rfl ?_
      refine ok_bipush (q := 94) (v := 32) dX12_finish_92 cb_32 rfl ?_
      refine mm_cv (q := 97) (mt_X12_expand G a0 b11 ((32 : Int32) * x1) 3 b13 32 b15 ((32 : Int32) * x1) 32 h8 k10 k12 k14 k16) (mm_runV (as := [.ref b11, .int ((32 : Int32) * x1), .int 3, .ref b13, .int 32, .ref b15, .int ((32 : Int32) * x1), .int 32]) (st := []) cl_11 lk_X12_finish_X12_expand_330 rfl dX12_finish_94 rfl (Nat.le_of_ble_eq_true rfl) k10) rfl (fun h17 p18 => ?_)
      have k19 : mm_kd h17 a0 = 11 := mm_kd_app p18 k10 (by decide)
      refine ok_aload_n (q := 98) dX12_finish_97 rfl rfl ?_
      refine ok_aload_n (q := 99) dX12_finish_98 rfl rfl ?_
      refine ok_getR cl_11 (q := 102) (k := 25) dX12_finish_99 (Nat.le_of_ble_eq_true rfl) wd_1057 (fun _ _ _ => rfl) kt_11_25 k19 rfl (fun b20 k21 => ?_)
      refine ok_bipush (q := 104) (v := 32) dX12_finish_102 cb_32 rfl ?_
      refine ok_iload_n (q := 105) dX12_finish_104 rfl rfl ?_
      refine ok_imul (q := 106) dX12_finish_105 rfl ?_
      refine ok_iconst (q := 107) (v := 4) dX12_finish_106 ci_4 rfl ?_
      refine ok_aload_n (q := 108) dX12_finish_107 rfl rfl ?_
      refine ok_getR cl_11 (q := 111) (k := 44) dX12_finish_108 (Nat.le_of_ble_eq_true rfl) wd_1076 (fun _ _ _ => rfl) kt_11_44 k19 rfl (fun b22 k23 => ?_)
      refine ok_bipush (q := 113) (v := 32) dX12_finish_111 cb_32 rfl ?_
      refine ok_aload_n (q := 114) dX12_finish_113 rfl rfl ?_
      refine ok_getR cl_11 (q := 117) (k := 23) dX12_finish_114 (Nat.le_of_ble_eq_true rfl) wd_1055 (fun _ _ _ => rfl) kt_11_23 k19 rfl (fun b24 k25 => ?_)
      refine ok_bipush (q := 119) (v := 32) dX12_finish_117 cb_32 rfl ?_
      refine ok_iload_n (q := 120) dX12_finish_119 rfl rfl ?_
      refine ok_imul (q := 121) dX12_finish_120 rfl ?_
      refine ok_bipush (q := 123) (v := 32) dX12_finish_121 cb_32 rfl ?_
      refine mm_cv (q := 126) (mt_X12_expand G a0 b20 ((32 : Int32) * x1) 4 b22 32 b24 ((32 : Int32) * x1) 32 h17 k19 k21 k23 k25) (mm_runV (as := [.ref b20, .int ((32 : Int32) * x1), .int 4, .ref b22, .int 32, .ref b24, .int ((32 : Int32) * x1), .int 32]) (st := []) cl_11 lk_X12_finish_X12_expand_330 rfl dX12_finish_123 rfl (Nat.le_of_ble_eq_true rfl) k19) rfl (fun h26 p27 => ?_)
      have k28 : mm_kd h26 a0 = 11 := mm_kd_app p27 k19 (by decide)
      refine ok_aload_n (q := 127) dX12_finish_126 rfl rfl ?_
      refine ok_getR cl_11 (q := 130) (k := 29) dX12_finish_127 (Nat.le_of_ble_eq_true rfl) wd_1061 (fun _ _ _ => rfl) kt_11_29 k28 rfl (fun b29 k30 => ?_)
      refine ok_iload_n (q := 131) dX12_finish_130 rfl rfl ?_
      refine ok_iconst (q := 132) (v := 0) dX12_finish_131 ci_0 rfl ?_
      refine mm_ck (fun c31 => ?_)
      refine ok_iast (q := 133) dX12_finish_132 k30 c31.1 c31.2 rfl (bh_ok (fun h32 e33 => ?_))
      have e33 : h32.1 = h26.1 := e33
      refine ok_aload_n (q := 134) dX12_finish_133 rfl rfl ?_
      refine ok_iload_n (q := 135) dX12_finish_134 rfl rfl ?_
      refine mm_cv (q := 138) (mt_X12_sayFinished G a0 x1 h32 (mm_ke e33 k28)) (mm_runV (as := [.int x1]) (st := []) cl_11 lk_X12_finish_X12_sayFinished_499 rfl dX12_finish_135 rfl (Nat.le_of_ble_eq_true rfl) (mm_ke e33 k28)) rfl (fun h34 p35 => ?_)
      have k36 : mm_kd h34 a0 = 11 := mm_kd_app p35 (mm_ke e33 k28) (by decide)
      refine ok_aload_n (q := 139) dX12_finish_138 rfl rfl ?_
      refine ok_getR cl_11 (q := 142) (k := 24) dX12_finish_139 (Nat.le_of_ble_eq_true rfl) wd_1056 (fun _ _ _ => rfl) kt_11_24 k36 rfl (fun b37 k38 => ?_)
      refine ok_bipush (q := 144) (v := 32) dX12_finish_142 cb_32 rfl ?_
      refine ok_iload_n (q := 145) dX12_finish_144 rfl rfl ?_
      refine ok_imul (q := 146) dX12_finish_145 rfl ?_
      refine ok_aload_n (q := 147) dX12_finish_146 rfl rfl ?_
      refine ok_getR cl_11 (q := 150) (k := 22) dX12_finish_147 (Nat.le_of_ble_eq_true rfl) wd_1054 (fun _ _ _ => rfl) kt_11_22 k36 rfl (fun b39 k40 => ?_)
      refine ok_bipush (q := 152) (v := 32) dX12_finish_150 cb_32 rfl ?_
      refine ok_iload_n (q := 153) dX12_finish_152 rfl rfl ?_
      refine ok_imul (q := 154) dX12_finish_153 rfl ?_
      refine ok_bipush (q := 156) (v := 32) dX12_finish_154 cb_32 rfl ?_
      refine mm_cv (q := 159) (mt_X12_move G b37 ((32 : Int32) * x1) b39 ((32 : Int32) * x1) 32 h34 k38 k40) (mm_runS (as := [.ref b37, .int ((32 : Int32) * x1), .ref b39, .int ((32 : Int32) * x1), .int 32]) (st := []) lk_X12_finish_X12_move_279 dX12_finish_156 rfl (Nat.le_of_ble_eq_true rfl)) rfl (fun h41 p42 => ?_)
      have k43 : mm_kd h41 a0 = 11 := mm_kd_app p42 k36 (by decide)
      refine ok_aload_n (q := 160) dX12_finish_159 rfl rfl ?_
      refine ok_getR cl_11 (q := 163) (k := 28) dX12_finish_160 (Nat.le_of_ble_eq_true rfl) wd_1060 (fun _ _ _ => rfl) kt_11_28 k43 rfl (fun b44 k45 => ?_)
      refine ok_iload_n (q := 164) dX12_finish_163 rfl rfl ?_
      refine ok_iconst (q := 165) (v := 0) dX12_finish_164 ci_0 rfl ?_
      refine mm_ck (fun c46 => ?_)
      refine ok_iast (q := 166) dX12_finish_165 k45 c46.1 c46.2 rfl (bh_ok (fun h47 e48 => ?_))
      have e48 : h47.1 = h41.1 := e48
      refine ok_aload_n (q := 167) dX12_finish_166 rfl rfl ?_
      refine ok_getR cl_11 (q := 170) (k := 4) dX12_finish_167 (Nat.le_of_ble_eq_true rfl) wd_1036 (fun _ _ _ => rfl) kt_11_4 (mm_ke e48 k43) rfl (fun b49 k50 => ?_)
      refine ok_iload_n (q := 171) dX12_finish_170 rfl rfl ?_
      refine ok_bipush (q := 173) (v := 6) dX12_finish_171 cb_6 rfl ?_
      refine mm_ck (fun c51 => ?_)
      refine ok_iast (q := 174) dX12_finish_173 (mm_ke e48 (mm_ke e48.symm k50)) c51.1 c51.2 rfl (bh_ok (fun h52 e53 => ?_))
      have e53 : h52.1 = h41.1 := e53.trans e48
      exact ok_ret dX12_finish_174 rfl
    · refine ok_aload_n (q := 55) dX12_finish_54 rfl rfl ?_
      refine ok_getR cl_11 (q := 58) (k := 4) dX12_finish_55 (Nat.le_of_ble_eq_true rfl) wd_1036 (fun _ _ _ => rfl) kt_11_4 k7 rfl (fun b54 k55 => ?_)
      refine ok_iload_n (q := 59) dX12_finish_58 rfl rfl ?_
      refine ok_bipush (q := 61) (v := 7) dX12_finish_59 cb_7 rfl ?_
      refine mm_ck (fun c56 => ?_)
      refine ok_iast (q := 62) dX12_finish_61 k55 c56.1 c56.2 rfl (bh_ok (fun h57 e58 => ?_))
      have e58 : h57.1 = h4.1 := e58
      exact ok_ret dX12_finish_62 rfl
  · refine ok_aload_n (q := 10) dX12_finish_9 rfl rfl ?_
    refine ok_getR cl_11 (q := 13) (k := 24) dX12_finish_10 (Nat.le_of_ble_eq_true rfl) wd_1056 (fun _ _ _ => rfl) kt_11_24 k_a0 rfl (fun b59 k60 => ?_)
    refine ok_bipush (q := 15) (v := 32) dX12_finish_13 cb_32 rfl ?_
    refine ok_iload_n (q := 16) dX12_finish_15 rfl rfl ?_
    refine ok_imul (q := 17) dX12_finish_16 rfl ?_
    refine ok_aload_n (q := 18) dX12_finish_17 rfl rfl ?_
    refine ok_getR cl_11 (q := 21) (k := 23) dX12_finish_18 (Nat.le_of_ble_eq_true rfl) wd_1055 (fun _ _ _ => rfl) kt_11_23 k_a0 rfl (fun b61 k62 => ?_)
    refine ok_bipush (q := 23) (v := 32) dX12_finish_21 cb_32 rfl ?_
    refine ok_iload_n (q := 24) dX12_finish_23 rfl rfl ?_
    refine ok_imul (q := 25) dX12_finish_24 rfl ?_
    refine ok_bipush (q := 27) (v := 32) dX12_finish_25 cb_32 rfl ?_
    refine mm_cv (q := 30) (mt_X12_move G b59 ((32 : Int32) * x1) b61 ((32 : Int32) * x1) 32 h k60 k62) (mm_runS (as := [.ref b59, .int ((32 : Int32) * x1), .ref b61, .int ((32 : Int32) * x1), .int 32]) (st := []) lk_X12_finish_X12_move_279 dX12_finish_27 rfl (Nat.le_of_ble_eq_true rfl)) rfl (fun h63 p64 => ?_)
    have k65 : mm_kd h63 a0 = 11 := mm_kd_app p64 k_a0 (by decide)
    refine ok_aload_n (q := 31) dX12_finish_30 rfl rfl ?_
    refine ok_getR cl_11 (q := 34) (k := 29) dX12_finish_31 (Nat.le_of_ble_eq_true rfl) wd_1061 (fun _ _ _ => rfl) kt_11_29 k65 rfl (fun b66 k67 => ?_)
    refine ok_iload_n (q := 35) dX12_finish_34 rfl rfl ?_
    refine ok_iconst (q := 36) (v := 0) dX12_finish_35 ci_0 rfl ?_
    refine mm_ck (fun c68 => ?_)
    refine ok_iast (q := 37) dX12_finish_36 k67 c68.1 c68.2 rfl (bh_ok (fun h69 e70 => ?_))
    have e70 : h69.1 = h63.1 := e70
    refine ok_aload_n (q := 38) dX12_finish_37 rfl rfl ?_
    refine ok_getR cl_11 (q := 41) (k := 4) dX12_finish_38 (Nat.le_of_ble_eq_true rfl) wd_1036 (fun _ _ _ => rfl) kt_11_4 (mm_ke e70 k65) rfl (fun b71 k72 => ?_)
    refine ok_iload_n (q := 42) dX12_finish_41 rfl rfl ?_
    refine ok_bipush (q := 44) (v := 6) dX12_finish_42 cb_6 rfl ?_
    refine mm_ck (fun c73 => ?_)
    refine ok_iast (q := 45) dX12_finish_44 (mm_ke e70 (mm_ke e70.symm k72)) c73.1 c73.2 rfl (bh_ok (fun h74 e75 => ?_))
    have e75 : h74.1 = h63.1 := e75.trans e70
    exact ok_ret dX12_finish_45 rfl
def bd_X12_turnOver (a0 : Nat) (x1 : Int32) (h : mm_H) : mm_O := mm_gr h a0 60 (fun b1 =>
  if mm_in (9 : Int32) (mm_ln h b1) = true then (mm_bi (mm_i h b1 (mm_n (9 : Int32))) (fun v4 =>
  mm_gr h a0 23 (fun b5 =>
  mm_qv (bd_X12_follow a0 b5 x1 h) (fun h7 =>
  mm_gr h7 a0 29 (fun b10 =>
  if 32 ≤ b10 ∧ mm_in x1 (mm_ln h7 b10) = true then (mm_bh (mm_si h7 b10 (mm_n x1) (0 : Int32)) (fun h13 =>
  if v4 = 0 then
  (some (none, h13))
  else
  (mm_gr h13 a0 13 (fun b15 =>
  if mm_in x1 (mm_ln h13 b15) = true then (if (mm_i h13 b15 (mm_n x1)) = 0 then
  (mm_qi (bd_X12_isFull a0 x1 h13) (fun v20 h18 =>
  if v20 = 0 then
  (mm_qv (bd_X12_sayUpdate a0 x1 0 h18) (fun h22 =>
  some (none, h22)))
  else
  (mm_gr h18 a0 4 (fun b25 =>
  if 32 ≤ b25 ∧ mm_in x1 (mm_ln h18 b25) = true then (mm_bh (mm_si h18 b25 (mm_n x1) (7 : Int32)) (fun h28 =>
  some (none, h28))) else none))))
  else
  (some (none, h13))) else none)))) else none))))) else none)
set_option maxHeartbeats 4000000 in
set_option maxRecDepth 100000 in
theorem mt_X12_turnOver (G : mm_G) (a0 : Nat) (x1 : Int32) (h : mm_H) (k_a0 : mm_kd h a0 = 11) : mm_Met G my_X12_turnOver [.ref a0, .int x1] h (bd_X12_turnOver a0 x1 h) := by
  refine mm_met (ls := [.ref a0, .int x1, mm_U]) pn_RX12 (Nat.le_of_ble_eq_true rfl) rfl ?_
  unfold bd_X12_turnOver
  refine ok_aload_n (q := 1) dX12_turnOver_0 rfl rfl ?_
  refine ok_getR cl_11 (q := 4) (k := 60) dX12_turnOver_1 (Nat.le_of_ble_eq_true rfl) wd_1092 (fun _ _ _ => rfl) kt_11_60 k_a0 rfl (fun b1 k2 => ?_)
  refine ok_bipush (q := 6) (v := 9) dX12_turnOver_4 cb_9 rfl ?_
  refine mm_ck (fun c3 => ?_)
  refine ok_bald (q := 7) dX12_turnOver_6 k2 c3 rfl ?_
  refine bi_ok (fun v4 => ?_)
  refine ok_istore_n (q := 8) (ls' := [.ref a0, .int x1, .int v4]) dX12_turnOver_7 (Nat.le_of_ble_eq_true rfl) rfl rfl ?_
  refine ok_aload_n (q := 9) dX12_turnOver_8 rfl rfl ?_
  refine ok_aload_n (q := 10) dX12_turnOver_9 rfl rfl ?_
  refine ok_getR cl_11 (q := 13) (k := 23) dX12_turnOver_10 (Nat.le_of_ble_eq_true rfl) wd_1055 (fun _ _ _ => rfl) kt_11_23 k_a0 rfl (fun b5 k6 => ?_)
  refine ok_iload_n (q := 14) dX12_turnOver_13 rfl rfl ?_
  refine mm_cv (q := 17) (mt_X12_follow G a0 b5 x1 h k_a0 k6) (mm_runV (as := [.ref b5, .int x1]) (st := []) cl_11 lk_X12_turnOver_X12_follow_421 rfl dX12_turnOver_14 rfl (Nat.le_of_ble_eq_true rfl) k_a0) rfl (fun h7 p8 => ?_)
  have k9 : mm_kd h7 a0 = 11 := mm_kd_app p8 k_a0 (by decide)
  refine ok_aload_n (q := 18) dX12_turnOver_17 rfl rfl ?_
  refine ok_getR cl_11 (q := 21) (k := 29) dX12_turnOver_18 (Nat.le_of_ble_eq_true rfl) wd_1061 (fun _ _ _ => rfl) kt_11_29 k9 rfl (fun b10 k11 => ?_)
  refine ok_iload_n (q := 22) dX12_turnOver_21 rfl rfl ?_
  refine ok_iconst (q := 23) (v := 0) dX12_turnOver_22 ci_0 rfl ?_
  refine mm_ck (fun c12 => ?_)
  refine ok_iast (q := 24) dX12_turnOver_23 k11 c12.1 c12.2 rfl (bh_ok (fun h13 e14 => ?_))
  have e14 : h13.1 = h7.1 := e14
  refine ok_iload_n (q := 25) dX12_turnOver_24 rfl rfl ?_
  refine ok_if_eq (q := 28) (t := 37) dX12_turnOver_25 rfl rfl ?_ ?_
  · exact ok_ret dX12_turnOver_37 rfl
  · refine ok_aload_n (q := 29) dX12_turnOver_28 rfl rfl ?_
    refine ok_getR cl_11 (q := 32) (k := 13) dX12_turnOver_29 (Nat.le_of_ble_eq_true rfl) wd_1045 (fun _ _ _ => rfl) kt_11_13 (mm_ke e14 k9) rfl (fun b15 k16 => ?_)
    refine ok_iload_n (q := 33) dX12_turnOver_32 rfl rfl ?_
    refine mm_ck (fun c17 => ?_)
    refine ok_zald (q := 34) dX12_turnOver_33 (mm_ke e14 (mm_ke e14.symm k16)) c17 rfl ?_
    refine ok_if_eq (q := 37) (t := 38) dX12_turnOver_34 rfl rfl ?_ ?_
    · refine ok_aload_n (q := 39) dX12_turnOver_38 rfl rfl ?_
      refine ok_iload_n (q := 40) dX12_turnOver_39 rfl rfl ?_
      refine mm_ci (q := 43) (mt_X12_isFull G a0 x1 h13 (mm_ke e14 k9)) (mm_runV (as := [.int x1]) (st := []) cl_11 lk_X12_turnOver_X12_isFull_425 rfl dX12_turnOver_40 rfl (Nat.le_of_ble_eq_true rfl) (mm_ke e14 k9)) rfl (fun v20 h18 p19 => ?_)
      have k21 : mm_kd h18 a0 = 11 := mm_kd_app p19 (mm_ke e14 k9) (by decide)
      refine ok_if_eq (q := 46) (t := 57) dX12_turnOver_43 rfl rfl ?_ ?_
      · refine ok_aload_n (q := 58) dX12_turnOver_57 rfl rfl ?_
        refine ok_iload_n (q := 59) dX12_turnOver_58 rfl rfl ?_
        refine ok_iconst (q := 60) (v := 0) dX12_turnOver_59 ci_0 rfl ?_
        refine mm_cv (q := 63) (mt_X12_sayUpdate G a0 x1 0 h18 k21) (mm_runV (as := [.int x1, .int 0]) (st := []) cl_11 lk_X12_turnOver_X12_sayUpdate_502 rfl dX12_turnOver_60 rfl (Nat.le_of_ble_eq_true rfl) k21) rfl (fun h22 p23 => ?_)
        have k24 : mm_kd h22 a0 = 11 := mm_kd_app p23 k21 (by decide)
        exact ok_ret dX12_turnOver_63 rfl
      · refine ok_aload_n (q := 47) dX12_turnOver_46 rfl rfl ?_
        refine ok_getR cl_11 (q := 50) (k := 4) dX12_turnOver_47 (Nat.le_of_ble_eq_true rfl) wd_1036 (fun _ _ _ => rfl) kt_11_4 k21 rfl (fun b25 k26 => ?_)
        refine ok_iload_n (q := 51) dX12_turnOver_50 rfl rfl ?_
        refine ok_bipush (q := 53) (v := 7) dX12_turnOver_51 cb_7 rfl ?_
        refine mm_ck (fun c27 => ?_)
        refine ok_iast (q := 54) dX12_turnOver_53 k26 c27.1 c27.2 rfl (bh_ok (fun h28 e29 => ?_))
        have e29 : h28.1 = h18.1 := e29
        refine ok_goto (q := 63) dX12_turnOver_54 rfl ?_
        exact ok_ret dX12_turnOver_63 rfl
    · exact ok_ret dX12_turnOver_37 rfl
def bd_X12_goOn (a0 : Nat) (x1 : Int32) (x2 : Int32) (h : mm_H) : mm_O := if x2 = 1 then
  (mm_qv (bd_X12_answer a0 x1 h) (fun h2 =>
  some (none, h2)))
  else
  (if x2 = 2 then
  (mm_qv (bd_X12_handSecrets a0 x1 h) (fun h6 =>
  mm_gr h6 a0 4 (fun b9 =>
  if 32 ≤ b9 ∧ mm_in x1 (mm_ln h6 b9) = true then (mm_bh (mm_si h6 b9 (mm_n x1) (2 : Int32)) (fun h12 =>
  some (none, h12))) else none)))
  else
  (if x2 = 8 then
  (mm_gr h a0 4 (fun b15 =>
  if 32 ≤ b15 ∧ mm_in x1 (mm_ln h b15) = true then (mm_bh (mm_si h b15 (mm_n x1) (3 : Int32)) (fun h18 =>
  some (none, h18))) else none))
  else
  (if x2 = 20 then
  (mm_qv (bd_X12_finish a0 x1 h) (fun h21 =>
  some (none, h21)))
  else
  (mm_qv (bd_X12_turnOver a0 x1 h) (fun h24 =>
  some (none, h24))))))
set_option maxHeartbeats 4000000 in
set_option maxRecDepth 100000 in
theorem mt_X12_goOn (G : mm_G) (a0 : Nat) (x1 : Int32) (x2 : Int32) (h : mm_H) (k_a0 : mm_kd h a0 = 11) : mm_Met G my_X12_goOn [.ref a0, .int x1, .int x2] h (bd_X12_goOn a0 x1 x2 h) := by
  refine mm_met (ls := [.ref a0, .int x1, .int x2]) pn_RX12 (Nat.le_of_ble_eq_true rfl) rfl ?_
  unfold bd_X12_goOn
  refine ok_iload_n (q := 1) dX12_goOn_0 rfl rfl ?_
  refine mm_sp (fun c1 => ?_) (fun c1 => ?_)
  · refine ok_lookup (q := 44) dX12_goOn_1 (by decide) (by rw [c1]; rfl) ?_
    refine ok_aload_n (q := 45) dX12_goOn_44 rfl rfl ?_
    refine ok_iload_n (q := 46) dX12_goOn_45 rfl rfl ?_
    refine mm_cv (q := 49) (mt_X12_answer G a0 x1 h k_a0) (mm_runV (as := [.int x1]) (st := []) cl_11 lk_X12_goOn_X12_answer_487 rfl dX12_goOn_46 rfl (Nat.le_of_ble_eq_true rfl) k_a0) rfl (fun h2 p3 => ?_)
    have k4 : mm_kd h2 a0 = 11 := mm_kd_app p3 k_a0 (by decide)
    exact ok_ret dX12_goOn_49 rfl
  · refine mm_sp (fun c5 => ?_) (fun c5 => ?_)
    · refine ok_lookup (q := 50) dX12_goOn_1 (by decide) (by rw [c5]; rfl) ?_
      refine ok_aload_n (q := 51) dX12_goOn_50 rfl rfl ?_
      refine ok_iload_n (q := 52) dX12_goOn_51 rfl rfl ?_
      refine mm_cv (q := 55) (mt_X12_handSecrets G a0 x1 h k_a0) (mm_runV (as := [.int x1]) (st := []) cl_11 lk_X12_goOn_X12_handSecrets_490 rfl dX12_goOn_52 rfl (Nat.le_of_ble_eq_true rfl) k_a0) rfl (fun h6 p7 => ?_)
      have k8 : mm_kd h6 a0 = 11 := mm_kd_app p7 k_a0 (by decide)
      refine ok_aload_n (q := 56) dX12_goOn_55 rfl rfl ?_
      refine ok_getR cl_11 (q := 59) (k := 4) dX12_goOn_56 (Nat.le_of_ble_eq_true rfl) wd_1036 (fun _ _ _ => rfl) kt_11_4 k8 rfl (fun b9 k10 => ?_)
      refine ok_iload_n (q := 60) dX12_goOn_59 rfl rfl ?_
      refine ok_iconst (q := 61) (v := 2) dX12_goOn_60 ci_2 rfl ?_
      refine mm_ck (fun c11 => ?_)
      refine ok_iast (q := 62) dX12_goOn_61 k10 c11.1 c11.2 rfl (bh_ok (fun h12 e13 => ?_))
      have e13 : h12.1 = h6.1 := e13
      exact ok_ret dX12_goOn_62 rfl
    · refine mm_sp (fun c14 => ?_) (fun c14 => ?_)
      · refine ok_lookup (q := 63) dX12_goOn_1 (by decide) (by rw [c14]; rfl) ?_
        refine ok_aload_n (q := 64) dX12_goOn_63 rfl rfl ?_
        refine ok_getR cl_11 (q := 67) (k := 4) dX12_goOn_64 (Nat.le_of_ble_eq_true rfl) wd_1036 (fun _ _ _ => rfl) kt_11_4 k_a0 rfl (fun b15 k16 => ?_)
        refine ok_iload_n (q := 68) dX12_goOn_67 rfl rfl ?_
        refine ok_iconst (q := 69) (v := 3) dX12_goOn_68 ci_3 rfl ?_
        refine mm_ck (fun c17 => ?_)
        refine ok_iast (q := 70) dX12_goOn_69 k16 c17.1 c17.2 rfl (bh_ok (fun h18 e19 => ?_))
        have e19 : h18.1 = h.1 := e19
        exact ok_ret dX12_goOn_70 rfl
      · refine mm_sp (fun c20 => ?_) (fun c20 => ?_)
        · refine ok_lookup (q := 71) dX12_goOn_1 (by decide) (by rw [c20]; rfl) ?_
          refine ok_aload_n (q := 72) dX12_goOn_71 rfl rfl ?_
          refine ok_iload_n (q := 73) dX12_goOn_72 rfl rfl ?_
          refine mm_cv (q := 76) (mt_X12_finish G a0 x1 h k_a0) (mm_runV (as := [.int x1]) (st := []) cl_11 lk_X12_goOn_X12_finish_493 rfl dX12_goOn_73 rfl (Nat.le_of_ble_eq_true rfl) k_a0) rfl (fun h21 p22 => ?_)
          have k23 : mm_kd h21 a0 = 11 := mm_kd_app p22 k_a0 (by decide)
          exact ok_ret dX12_goOn_76 rfl
        · refine ok_lookup (q := 77) dX12_goOn_1 (by decide) (by rw [lv_osw c1 (by decide : (1 : Int32).toInt = 1), lv_osw c5 (by decide : (2 : Int32).toInt = 2), lv_osw c14 (by decide : (8 : Int32).toInt = 8), lv_osw c20 (by decide : (20 : Int32).toInt = 20)]; rfl) ?_
          refine ok_aload_n (q := 78) dX12_goOn_77 rfl rfl ?_
          refine ok_iload_n (q := 79) dX12_goOn_78 rfl rfl ?_
          refine mm_cv (q := 82) (mt_X12_turnOver G a0 x1 h k_a0) (mm_runV (as := [.int x1]) (st := []) cl_11 lk_X12_goOn_X12_turnOver_496 rfl dX12_goOn_79 rfl (Nat.le_of_ble_eq_true rfl) k_a0) rfl (fun h24 p25 => ?_)
          have k26 : mm_kd h24 a0 = 11 := mm_kd_app p25 k_a0 (by decide)
          exact ok_ret dX12_goOn_82 rfl
def jn_X12_waited_29  (h : mm_H) : mm_O := some (some (.int 20), h)
set_option maxHeartbeats 4000000 in
set_option maxRecDepth 100000 in
theorem oj_X12_waited_29 {G : mm_G}    (h : mm_H)  : mm_Ok G my_X12_waited 29 [mm_U] [] h (jn_X12_waited_29 h) := by
  unfold jn_X12_waited_29
  refine ok_bipush (q := 31) (v := 20) dX12_waited_29 cb_20 rfl ?_
  refine ok_goto (q := 45) dX12_waited_31 rfl ?_
  exact ok_iret (t := .int) dX12_waited_45 rfl rfl
def bd_X12_waited (x0 : Int32) (h : mm_H) : mm_O := if x0 = (1 : Int32) then
  (some (some (.int 2), h))
  else
  (if x0 = (2 : Int32) then
  (some (some (.int 8), h))
  else
  (if x0 = (3 : Int32) then
  (jn_X12_waited_29 h)
  else
  (if x0 = (5 : Int32) then
  (jn_X12_waited_29 h)
  else
  (if x0 = (4 : Int32) then
  (some (some (.int 1), h))
  else
  (some (some (.int 24), h))))))
set_option maxHeartbeats 4000000 in
set_option maxRecDepth 100000 in
theorem mt_X12_waited (G : mm_G) (x0 : Int32) (h : mm_H)  : mm_Met G my_X12_waited [.int x0] h (bd_X12_waited x0 h) := by
  refine mm_met (ls := [.int x0]) pn_RX12 (Nat.le_of_ble_eq_true rfl) rfl ?_
  unfold bd_X12_waited
  refine ok_iload_n (q := 1) dX12_waited_0 rfl rfl ?_
  refine ok_iconst (q := 2) (v := 1) dX12_waited_1 ci_1 rfl ?_
  refine ok_icmp_ne (q := 5) (t := 9) dX12_waited_2 rfl rfl ?_ ?_
  · refine ok_iload_n (q := 10) dX12_waited_9 rfl rfl ?_
    refine ok_iconst (q := 11) (v := 2) dX12_waited_10 ci_2 rfl ?_
    refine ok_icmp_ne (q := 14) (t := 19) dX12_waited_11 rfl rfl ?_ ?_
    · refine ok_iload_n (q := 20) dX12_waited_19 rfl rfl ?_
      refine ok_iconst (q := 21) (v := 3) dX12_waited_20 ci_3 rfl ?_
      refine ok_icmp_eq (q := 24) (t := 29) dX12_waited_21 rfl rfl ?_ ?_
      · refine mm_wk [false] (ls' := [mm_U]) rfl ?_
        exact oj_X12_waited_29 h
      · refine ok_iload_n (q := 25) dX12_waited_24 rfl rfl ?_
        refine ok_iconst (q := 26) (v := 5) dX12_waited_25 ci_5 rfl ?_
        refine ok_icmp_ne (q := 29) (t := 34) dX12_waited_26 rfl rfl ?_ ?_
        · refine ok_iload_n (q := 35) dX12_waited_34 rfl rfl ?_
          refine ok_iconst (q := 36) (v := 4) dX12_waited_35 ci_4 rfl ?_
          refine ok_icmp_ne (q := 39) (t := 43) dX12_waited_36 rfl rfl ?_ ?_
          · refine ok_bipush (q := 45) (v := 24) dX12_waited_43 cb_24 rfl ?_
            exact ok_iret (t := .int) dX12_waited_45 rfl rfl
          · refine ok_iconst (q := 40) (v := 1) dX12_waited_39 ci_1 rfl ?_
            refine ok_goto (q := 45) dX12_waited_40 rfl ?_
            exact ok_iret (t := .int) dX12_waited_45 rfl rfl
        · refine mm_wk [false] (ls' := [mm_U]) rfl ?_
          exact oj_X12_waited_29 h
    · refine ok_bipush (q := 16) (v := 8) dX12_waited_14 cb_8 rfl ?_
      refine ok_goto (q := 45) dX12_waited_16 rfl ?_
      exact ok_iret (t := .int) dX12_waited_45 rfl rfl
  · refine ok_iconst (q := 6) (v := 2) dX12_waited_5 ci_2 rfl ?_
    refine ok_goto (q := 45) dX12_waited_6 rfl ?_
    exact ok_iret (t := .int) dX12_waited_45 rfl rfl
