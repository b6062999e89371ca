def jn_X12_sealOf_62 (kb : Nat → Nat → Int32 → Int32 → Int32 → Int32 → mm_H → mm_O) (ke_71 : Nat → Nat → Int32 → Int32 → Int32 → mm_H → mm_O) (a0 : Nat) (a1 : Nat) (x2 : Int32) (x3 : Int32) (x4 : Int32) (x5 : Int32) (s0 : Int32) (s1 : Int32) (s2 : Int32) (s3 : Nat) (h : mm_H) : mm_O := if 32 ≤ s3 ∧ mm_in s2 (mm_ln h s3) = true then (mm_bh (mm_si h s3 (mm_n s2) (mm_b8 (mm_b8 (s1 &&& s0)))) (fun h11 =>
  kb a0 a1 x2 x3 x4 (x5 + 1) h11)) else none
set_option maxHeartbeats 4000000 in
set_option maxRecDepth 100000 in
theorem oj_X12_sealOf_62 {G : mm_G} {kb : Nat → Nat → Int32 → Int32 → Int32 → Int32 → mm_H → mm_O} {ke_71 : Nat → Nat → Int32 → Int32 → Int32 → mm_H → mm_O} (hkb : ∀ (a0 : Nat) (a1 : Nat) (x2 : Int32) (x3 : Int32) (x4 : Int32) (x5 : Int32) (h : mm_H), mm_kd h a0 = 11 → mm_kd h a1 = 21 → mm_Ok G my_X12_sealOf 8 [.ref a0, .ref a1, .int x2, .int x3, .int x4, .int x5, mm_U, mm_U] [] h (kb a0 a1 x2 x3 x4 x5 h)) (hke_71 : ∀ (a0 : Nat) (a1 : Nat) (x2 : Int32) (x3 : Int32) (x4 : Int32) (h : mm_H), mm_kd h a0 = 11 → mm_kd h a1 = 21 → mm_Ok G my_X12_sealOf 71 [.ref a0, .ref a1, .int x2, .int x3, .int x4, mm_U, mm_U, mm_U] [] h (ke_71 a0 a1 x2 x3 x4 h)) (a0 : Nat) (a1 : Nat) (x2 : Int32) (x3 : Int32) (x4 : Int32) (x5 : Int32) (s0 : Int32) (s1 : Int32) (s2 : Int32) (s3 : Nat) (h : mm_H) (k_a0 : mm_kd h a0 = 11) (k_a1 : mm_kd h a1 = 21) (k_s3 : mm_kd h s3 = 21) : mm_Ok G my_X12_sealOf 62 [.ref a0, .ref a1, .int x2, .int x3, .int x4, .int x5, mm_U, mm_U] [.int s0, .int s1, .int s2, .ref s3] h (jn_X12_sealOf_62 kb ke_71 a0 a1 x2 x3 x4 x5 s0 s1 s2 s3 h) := by
  unfold jn_X12_sealOf_62
  refine ok_iand (q := 63) dX12_sealOf_62 rfl ?_
  refine ok_i2b (q := 64) dX12_sealOf_63 rfl ?_
  refine mm_ck (fun c10 => ?_)
  refine ok_bast (q := 65) dX12_sealOf_64 k_s3 c10.1 c10.2 rfl (bh_ok (fun h11 e12 => ?_))
  have e12 : h11.1 = h.1 := e12
  refine ok_iinc (q := 68) (v := x5 + 1) (ls' := [.ref a0, .ref a1, .int x2, .int x3, .int x4, .int (x5 + 1), mm_U, mm_U]) dX12_sealOf_65 rfl (congrArg (x5 + ·) ci_1) (Nat.le_of_ble_eq_true rfl) rfl rfl ?_
  refine ok_goto (q := 8) dX12_sealOf_68 rfl ?_
  exact hkb a0 a1 x2 x3 x4 (x5 + 1) h11 (mm_ke e12 k_a0) (mm_ke e12 k_a1)
def jn_X12_sealOf_59 (kb : Nat → Nat → Int32 → Int32 → Int32 → Int32 → mm_H → mm_O) (ke_71 : Nat → Nat → Int32 → Int32 → Int32 → mm_H → mm_O) (a0 : Nat) (a1 : Nat) (x2 : Int32) (x3 : Int32) (x4 : Int32) (x5 : Int32) (s0 : Int32) (s1 : Int32) (s2 : Nat) (h : mm_H) : mm_O := jn_X12_sealOf_62 (kb) ke_71 a0 a1 x2 x3 x4 x5 255 s0 s1 s2 h
set_option maxHeartbeats 4000000 in
set_option maxRecDepth 100000 in
theorem oj_X12_sealOf_59 {G : mm_G} {kb : Nat → Nat → Int32 → Int32 → Int32 → Int32 → mm_H → mm_O} {ke_71 : Nat → Nat → Int32 → Int32 → Int32 → mm_H → mm_O} (hkb : ∀ (a0 : Nat) (a1 : Nat) (x2 : Int32) (x3 : Int32) (x4 : Int32) (x5 : Int32) (h : mm_H), mm_kd h a0 = 11 → mm_kd h a1 = 21 → mm_Ok G my_X12_sealOf 8 [.ref a0, .ref a1, .int x2, .int x3, .int x4, .int x5, mm_U, mm_U] [] h (kb a0 a1 x2 x3 x4 x5 h)) (hke_71 : ∀ (a0 : Nat) (a1 : Nat) (x2 : Int32) (x3 : Int32) (x4 : Int32) (h : mm_H), mm_kd h a0 = 11 → mm_kd h a1 = 21 → mm_Ok G my_X12_sealOf 71 [.ref a0, .ref a1, .int x2, .int x3, .int x4, mm_U, mm_U, mm_U] [] h (ke_71 a0 a1 x2 x3 x4 h)) (a0 : Nat) (a1 : Nat) (x2 : Int32) (x3 : Int32) (x4 : Int32) (x5 : Int32) (s0 : Int32) (s1 : Int32) (s2 : Nat) (h : mm_H) (k_a0 : mm_kd h a0 = 11) (k_a1 : mm_kd h a1 = 21) (k_s2 : mm_kd h s2 = 21) : mm_Ok G my_X12_sealOf 59 [.ref a0, .ref a1, .int x2, .int x3, .int x4, .int x5, mm_U, mm_U] [.int s0, .int s1, .ref s2] h (jn_X12_sealOf_59 kb ke_71 a0 a1 x2 x3 x4 x5 s0 s1 s2 h) := by
  unfold jn_X12_sealOf_59
  refine ok_sipush (q := 62) (v := 255) dX12_sealOf_59 cs_255 rfl ?_
  exact oj_X12_sealOf_62 hkb hke_71 a0 a1 x2 x3 x4 x5 255 s0 s1 s2 h k_a0 k_a1 k_s2
def lp_X12_sealOf_8 (ke_71 : Nat → Nat → Int32 → Int32 → Int32 → mm_H → mm_O) : Nat → Nat → Nat → Int32 → Int32 → Int32 → Int32 → mm_H → mm_O
  | 0, _, _, _, _, _, _, _ => none
  | n + 1, a0, a1, x2, x3, x4, x5, h => if (16 : Int32) ≤ x5 then
  (ke_71 a0 a1 x2 x3 x4 h)
  else
  (mm_gr h a0 54 (fun b5 =>
  mm_gr h a0 48 (fun b7 =>
  if mm_in x5 (mm_ln h b7) = true then (if (mm_rem x5 (4 : Int32)) = (3 : Int32) then
  (jn_X12_sealOf_62 (lp_X12_sealOf_8 ke_71 n) ke_71 a0 a1 x2 x3 x4 x5 15 (mm_i h b7 (mm_n x5)) x5 b5 h)
  else
  (if x5 ≤ 0 then
  (jn_X12_sealOf_59 (lp_X12_sealOf_8 ke_71 n) ke_71 a0 a1 x2 x3 x4 x5 (mm_i h b7 (mm_n x5)) x5 b5 h)
  else
  (if (mm_rem x5 (4 : Int32)) = 0 then
  (jn_X12_sealOf_62 (lp_X12_sealOf_8 ke_71 n) ke_71 a0 a1 x2 x3 x4 x5 252 (mm_i h b7 (mm_n x5)) x5 b5 h)
  else
  (jn_X12_sealOf_59 (lp_X12_sealOf_8 ke_71 n) ke_71 a0 a1 x2 x3 x4 x5 (mm_i h b7 (mm_n x5)) x5 b5 h)))) else none)))
set_option maxHeartbeats 4000000 in
set_option maxRecDepth 100000 in
theorem ol_X12_sealOf_8 {G : mm_G} {ke_71 : Nat → Nat → Int32 → Int32 → Int32 → mm_H → mm_O} (hke_71 : ∀ (a0 : Nat) (a1 : Nat) (x2 : Int32) (x3 : Int32) (x4 : Int32) (h : mm_H), mm_kd h a0 = 11 → mm_kd h a1 = 21 → mm_Ok G my_X12_sealOf 71 [.ref a0, .ref a1, .int x2, .int x3, .int x4, mm_U, mm_U, mm_U] [] h (ke_71 a0 a1 x2 x3 x4 h)) : ∀ (n : Nat) (a0 : Nat) (a1 : Nat) (x2 : Int32) (x3 : Int32) (x4 : Int32) (x5 : Int32) (h : mm_H), mm_kd h a0 = 11 → mm_kd h a1 = 21 → mm_Ok G my_X12_sealOf 8 [.ref a0, .ref a1, .int x2, .int x3, .int x4, .int x5, mm_U, mm_U] [] h (lp_X12_sealOf_8 ke_71 n a0 a1 x2 x3 x4 x5 h) := by
  intro n
  induction n with
  | zero => intro a0 a1 x2 x3 x4 x5 h k_a0 k_a1; exact mm_no
  | succ n ih =>
    intro a0 a1 x2 x3 x4 x5 h k_a0 k_a1
    rw [lp_X12_sealOf_8]
    refine ok_iload (q := 10) dX12_sealOf_8 rfl rfl ?_
    refine ok_bipush (q := 12) (v := 16) dX12_sealOf_10 cb_16 rfl ?_
    refine ok_icmp_ge (q := 15) (t := 71) dX12_sealOf_12 rfl rfl ?_ ?_
    · refine mm_wk [true, true, true, true, true, false, false, false] (ls' := [.ref a0, .ref a1, .int x2, .int x3, .int x4, mm_U, mm_U, mm_U]) rfl ?_
      exact hke_71 a0 a1 x2 x3 x4 h k_a0 k_a1
    · refine ok_aload_n (q := 16) dX12_sealOf_15 rfl rfl ?_
      refine ok_getR cl_11 (q := 19) (k := 54) dX12_sealOf_16 (Nat.le_of_ble_eq_true rfl) wd_1086 (fun _ _ _ => rfl) kt_11_54 k_a0 rfl (fun b5 k6 => ?_)
      refine ok_iload (q := 21) dX12_sealOf_19 rfl rfl ?_
      refine ok_aload_n (q := 22) dX12_sealOf_21 rfl rfl ?_
      refine ok_getR cl_11 (q := 25) (k := 48) dX12_sealOf_22 (Nat.le_of_ble_eq_true rfl) wd_1080 (fun _ _ _ => rfl) kt_11_48 k_a0 rfl (fun b7 k8 => ?_)
      refine ok_iload (q := 27) dX12_sealOf_25 rfl rfl ?_
      refine mm_ck (fun c9 => ?_)
      refine ok_bald (q := 28) dX12_sealOf_27 k8 c9 rfl ?_
      refine ok_iload (q := 30) dX12_sealOf_28 rfl rfl ?_
      refine ok_iconst (q := 31) (v := 4) dX12_sealOf_30 ci_4 rfl ?_
      refine ok_irem (q := 32) dX12_sealOf_31 (by decide) rfl ?_
      refine ok_iconst (q := 33) (v := 3) dX12_sealOf_32 ci_3 rfl ?_
      refine ok_icmp_ne (q := 36) (t := 41) dX12_sealOf_33 rfl rfl ?_ ?_
      · refine ok_iload (q := 43) dX12_sealOf_41 rfl rfl ?_
        refine ok_if_le (q := 46) (t := 59) dX12_sealOf_43 rfl rfl ?_ ?_
        · exact oj_X12_sealOf_59 ih hke_71 a0 a1 x2 x3 x4 x5 (mm_i h b7 (mm_n x5)) x5 b5 h k_a0 k_a1 k6
        · refine ok_iload (q := 48) dX12_sealOf_46 rfl rfl ?_
          refine ok_iconst (q := 49) (v := 4) dX12_sealOf_48 ci_4 rfl ?_
          refine ok_irem (q := 50) dX12_sealOf_49 (by decide) rfl ?_
          refine ok_if_ne (q := 53) (t := 59) dX12_sealOf_50 rfl rfl ?_ ?_
          · exact oj_X12_sealOf_59 ih hke_71 a0 a1 x2 x3 x4 x5 (mm_i h b7 (mm_n x5)) x5 b5 h k_a0 k_a1 k6
          · refine ok_sipush (q := 56) (v := 252) dX12_sealOf_53 cs_252 rfl ?_
            refine ok_goto (q := 62) dX12_sealOf_56 rfl ?_
            exact oj_X12_sealOf_62 ih hke_71 a0 a1 x2 x3 x4 x5 252 (mm_i h b7 (mm_n x5)) x5 b5 h k_a0 k_a1 k6
      · refine ok_bipush (q := 38) (v := 15) dX12_sealOf_36 cb_15 rfl ?_
        refine ok_goto (q := 62) dX12_sealOf_38 rfl ?_
        exact oj_X12_sealOf_62 ih hke_71 a0 a1 x2 x3 x4 x5 15 (mm_i h b7 (mm_n x5)) x5 b5 h k_a0 k_a1 k6
def lp_X12_sealOf_82 (ke_121 : Nat → Nat → Int32 → Int32 → Int32 → mm_H → mm_O) : Nat → Nat → Nat → Int32 → Int32 → Int32 → Int32 → mm_H → mm_O
  | 0, _, _, _, _, _, _, _ => none
  | n + 1, a0, a1, x2, x3, x4, x5, h => if (5 : Int32) ≤ x5 then
  (ke_121 a0 a1 x2 x3 x4 h)
  else
  (mm_gr h a0 51 (fun b24 =>
  mm_gr h a0 54 (fun b26 =>
  mm_ql (bd_X12_part b26 ((26 : Int32) * x5) h) (fun v30 h28 =>
  if mm_in x5 (mm_ln h28 b24) = true then (mm_bh (mm_sl h28 b24 (mm_n x5) v30) (fun h35 =>
  mm_gr h35 a0 52 (fun b37 =>
  if mm_in x5 (mm_ln h35 b37) = true then (mm_bh (mm_sl h35 b37 (mm_n x5) (0 : Int64)) (fun h40 =>
  lp_X12_sealOf_82 ke_121 n a0 a1 x2 x3 x4 (x5 + 1) h40)) else none))) else none))))
set_option maxHeartbeats 4000000 in
set_option maxRecDepth 100000 in
theorem ol_X12_sealOf_82 {G : mm_G} {ke_121 : Nat → Nat → Int32 → Int32 → Int32 → mm_H → mm_O} (hke_121 : ∀ (a0 : Nat) (a1 : Nat) (x2 : Int32) (x3 : Int32) (x4 : Int32) (h : mm_H), mm_kd h a0 = 11 → mm_kd h a1 = 21 → mm_Ok G my_X12_sealOf 121 [.ref a0, .ref a1, .int x2, .int x3, .int x4, mm_U, mm_U, mm_U] [] h (ke_121 a0 a1 x2 x3 x4 h)) : ∀ (n : Nat) (a0 : Nat) (a1 : Nat) (x2 : Int32) (x3 : Int32) (x4 : Int32) (x5 : Int32) (h : mm_H), mm_kd h a0 = 11 → mm_kd h a1 = 21 → mm_Ok G my_X12_sealOf 82 [.ref a0, .ref a1, .int x2, .int x3, .int x4, .int x5, mm_U, mm_U] [] h (lp_X12_sealOf_82 ke_121 n a0 a1 x2 x3 x4 x5 h) := by
  intro n
  induction n with
  | zero => intro a0 a1 x2 x3 x4 x5 h k_a0 k_a1; exact mm_no
  | succ n ih =>
    intro a0 a1 x2 x3 x4 x5 h k_a0 k_a1
    rw [lp_X12_sealOf_82]
    refine ok_iload (q := 84) dX12_sealOf_82 rfl rfl ?_
    refine ok_iconst (q := 85) (v := 5) dX12_sealOf_84 ci_5 rfl ?_
    refine ok_icmp_ge (q := 88) (t := 121) dX12_sealOf_85 rfl rfl ?_ ?_
    · refine mm_wk [true, true, true, true, true, false, false, false] (ls' := [.ref a0, .ref a1, .int x2, .int x3, .int x4, mm_U, mm_U, mm_U]) rfl ?_
      exact hke_121 a0 a1 x2 x3 x4 h k_a0 k_a1
    · refine ok_aload_n (q := 89) dX12_sealOf_88 rfl rfl ?_
      refine ok_getR cl_11 (q := 92) (k := 51) dX12_sealOf_89 (Nat.le_of_ble_eq_true rfl) wd_1083 (fun _ _ _ => rfl) kt_11_51 k_a0 rfl (fun b24 k25 => ?_)
      refine ok_iload (q := 94) dX12_sealOf_92 rfl rfl ?_
      refine ok_aload_n (q := 95) dX12_sealOf_94 rfl rfl ?_
      refine ok_getR cl_11 (q := 98) (k := 54) dX12_sealOf_95 (Nat.le_of_ble_eq_true rfl) wd_1086 (fun _ _ _ => rfl) kt_11_54 k_a0 rfl (fun b26 k27 => ?_)
      refine ok_bipush (q := 100) (v := 26) dX12_sealOf_98 cb_26 rfl ?_
      refine ok_iload (q := 102) dX12_sealOf_100 rfl rfl ?_
      refine ok_imul (q := 103) dX12_sealOf_102 rfl ?_
      refine mm_cl (q := 106) (mt_X12_part G b26 ((26 : Int32) * x5) h k27) (mm_runS (as := [.ref b26, .int ((26 : Int32) * x5)]) (st := [.int x5, .ref b24]) lk_X12_sealOf_X12_part_352 dX12_sealOf_103 rfl (Nat.le_of_ble_eq_true rfl)) rfl (fun v30 h28 p29 => ?_)
      have k31 : mm_kd h28 a0 = 11 := mm_kd_app p29 k_a0 (by decide)
      have k32 : mm_kd h28 a1 = 21 := mm_kd_app p29 k_a1 (by decide)
      have k33 : mm_kd h28 b24 = 23 := mm_kd_app p29 k25 (by decide)
      refine mm_ck (fun c34 => ?_)
      refine ok_last (q := 107) dX12_sealOf_106 k33 c34 rfl (bh_ok (fun h35 e36 => ?_))
      have e36 : h35.1 = h28.1 := e36
      refine ok_aload_n (q := 108) dX12_sealOf_107 rfl rfl ?_
      refine ok_getR cl_11 (q := 111) (k := 52) dX12_sealOf_108 (Nat.le_of_ble_eq_true rfl) wd_1084 (fun _ _ _ => rfl) kt_11_52 (mm_ke e36 k31) rfl (fun b37 k38 => ?_)
      refine ok_iload (q := 113) dX12_sealOf_111 rfl rfl ?_
      refine ok_lconst (q := 114) (v := 0) dX12_sealOf_113 rfl rfl ?_
      refine mm_ck (fun c39 => ?_)
      refine ok_last (q := 115) dX12_sealOf_114 (mm_ke e36 (mm_ke e36.symm k38)) c39 rfl (bh_ok (fun h40 e41 => ?_))
      have e41 : h40.1 = h28.1 := e41.trans e36
      refine ok_iinc (q := 118) (v := x5 + 1) (ls' := [.ref a0, .ref a1, .int x2, .int x3, .int x4, .int (x5 + 1), mm_U, mm_U]) dX12_sealOf_115 rfl (congrArg (x5 + ·) ci_1) (Nat.le_of_ble_eq_true rfl) rfl rfl ?_
      refine ok_goto (q := 82) dX12_sealOf_118 rfl ?_
      exact ih a0 a1 x2 x3 x4 (x5 + 1) h40 (mm_ke e41 k31) (mm_ke e41 k32)
def jn_X12_sealOf_189 (kb : Nat → Int32 → Int32 → mm_H → mm_O) (ke_197 : Nat → mm_H → mm_O) (a0 : Nat) (x4 : Int32) (x5 : Int32) (s0 : Int32) (s1 : Int32) (s2 : Nat) (h : mm_H) : mm_O := if 32 ≤ s2 ∧ mm_in s1 (mm_ln h s2) = true then (mm_bh (mm_si h s2 (mm_n s1) (mm_b8 (mm_b8 s0))) (fun h59 =>
  kb a0 x4 (x5 + 1) h59)) else none
set_option maxHeartbeats 4000000 in
set_option maxRecDepth 100000 in
theorem oj_X12_sealOf_189 {G : mm_G} {kb : Nat → Int32 → Int32 → mm_H → mm_O} {ke_197 : Nat → mm_H → mm_O} (hkb : ∀ (a0 : Nat) (x4 : Int32) (x5 : Int32) (h : mm_H), mm_kd h a0 = 11 → mm_Ok G my_X12_sealOf 139 [.ref a0, mm_U, mm_U, mm_U, .int x4, .int x5, mm_U, mm_U] [] h (kb a0 x4 x5 h)) (hke_197 : ∀ (a0 : Nat) (h : mm_H), mm_kd h a0 = 11 → mm_Ok G my_X12_sealOf 197 [.ref a0, mm_U, mm_U, mm_U, mm_U, mm_U, mm_U, mm_U] [] h (ke_197 a0 h)) (a0 : Nat) (x4 : Int32) (x5 : Int32) (s0 : Int32) (s1 : Int32) (s2 : Nat) (h : mm_H) (k_a0 : mm_kd h a0 = 11) (k_s2 : mm_kd h s2 = 21) : mm_Ok G my_X12_sealOf 189 [.ref a0, mm_U, mm_U, mm_U, .int x4, .int x5, mm_U, mm_U] [.int s0, .int s1, .ref s2] h (jn_X12_sealOf_189 kb ke_197 a0 x4 x5 s0 s1 s2 h) := by
  unfold jn_X12_sealOf_189
  refine ok_i2b (q := 190) dX12_sealOf_189 rfl ?_
  refine mm_ck (fun c58 => ?_)
  refine ok_bast (q := 191) dX12_sealOf_190 k_s2 c58.1 c58.2 rfl (bh_ok (fun h59 e60 => ?_))
  have e60 : h59.1 = h.1 := e60
  refine ok_iinc (q := 194) (v := x5 + 1) (ls' := [.ref a0, mm_U, mm_U, mm_U, .int x4, .int (x5 + 1), mm_U, mm_U]) dX12_sealOf_191 rfl (congrArg (x5 + ·) ci_1) (Nat.le_of_ble_eq_true rfl) rfl rfl ?_
  refine ok_goto (q := 139) dX12_sealOf_194 rfl ?_
  exact hkb a0 x4 (x5 + 1) h59 (mm_ke e60 k_a0)
def lp_X12_sealOf_139 (ke_197 : Nat → mm_H → mm_O) : Nat → Nat → Int32 → Int32 → mm_H → mm_O
  | 0, _, _, _, _ => none
  | n + 1, a0, x4, x5, h => if (16 : Int32) ≤ x5 then
  (ke_197 a0 h)
  else
  (mm_gr h a0 56 (fun b56 =>
  if x5 = 0 then
  (jn_X12_sealOf_189 (lp_X12_sealOf_139 ke_197 n) ke_197 a0 x4 x5 5 x5 b56 h)
  else
  (if x5 = (8 : Int32) then
  (jn_X12_sealOf_189 (lp_X12_sealOf_139 ke_197 n) ke_197 a0 x4 x5 x4 x5 b56 h)
  else
  (if x5 = (9 : Int32) then
  (jn_X12_sealOf_189 (lp_X12_sealOf_139 ke_197 n) ke_197 a0 x4 x5 (mm_shr x4 (8 : Int32)) x5 b56 h)
  else
  (jn_X12_sealOf_189 (lp_X12_sealOf_139 ke_197 n) ke_197 a0 x4 x5 0 x5 b56 h)))))
set_option maxHeartbeats 4000000 in
set_option maxRecDepth 100000 in
theorem ol_X12_sealOf_139 {G : mm_G} {ke_197 : Nat → mm_H → mm_O} (hke_197 : ∀ (a0 : Nat) (h : mm_H), mm_kd h a0 = 11 → mm_Ok G my_X12_sealOf 197 [.ref a0, mm_U, mm_U, mm_U, mm_U, mm_U, mm_U, mm_U] [] h (ke_197 a0 h)) : ∀ (n : Nat) (a0 : Nat) (x4 : Int32) (x5 : Int32) (h : mm_H), mm_kd h a0 = 11 → mm_Ok G my_X12_sealOf 139 [.ref a0, mm_U, mm_U, mm_U, .int x4, .int x5, mm_U, mm_U] [] h (lp_X12_sealOf_139 ke_197 n a0 x4 x5 h) := by
  intro n
  induction n with
  | zero => intro a0 x4 x5 h k_a0; exact mm_no
  | succ n ih =>
    intro a0 x4 x5 h k_a0
    rw [lp_X12_sealOf_139]
    refine ok_iload (q := 141) dX12_sealOf_139 rfl rfl ?_
    refine ok_bipush (q := 143) (v := 16) dX12_sealOf_141 cb_16 rfl ?_
    refine ok_icmp_ge (q := 146) (t := 197) dX12_sealOf_143 rfl rfl ?_ ?_
    · refine mm_wk [true, false, false, false, false, false, false, false] (ls' := [.ref a0, mm_U, mm_U, mm_U, mm_U, mm_U, mm_U, mm_U]) rfl ?_
      exact hke_197 a0 h k_a0
    · refine ok_aload_n (q := 147) dX12_sealOf_146 rfl rfl ?_
      refine ok_getR cl_11 (q := 150) (k := 56) dX12_sealOf_147 (Nat.le_of_ble_eq_true rfl) wd_1088 (fun _ _ _ => rfl) kt_11_56 k_a0 rfl (fun b56 k57 => ?_)
      refine ok_iload (q := 152) dX12_sealOf_150 rfl rfl ?_
      refine ok_iload (q := 154) dX12_sealOf_152 rfl rfl ?_
      refine ok_if_ne (q := 157) (t := 161) dX12_sealOf_154 rfl rfl ?_ ?_
      · refine ok_iload (q := 163) dX12_sealOf_161 rfl rfl ?_
        refine ok_bipush (q := 165) (v := 8) dX12_sealOf_163 cb_8 rfl ?_
        refine ok_icmp_ne (q := 168) (t := 173) dX12_sealOf_165 rfl rfl ?_ ?_
        · refine ok_iload (q := 175) dX12_sealOf_173 rfl rfl ?_
          refine ok_bipush (q := 177) (v := 9) dX12_sealOf_175 cb_9 rfl ?_
          refine ok_icmp_ne (q := 180) (t := 188) dX12_sealOf_177 rfl rfl ?_ ?_
          · refine ok_iconst (q := 189) (v := 0) dX12_sealOf_188 ci_0 rfl ?_
            exact oj_X12_sealOf_189 ih hke_197 a0 x4 x5 0 x5 b56 h k_a0 k57
          · refine ok_iload (q := 182) dX12_sealOf_180 rfl rfl ?_
            refine ok_bipush (q := 184) (v := 8) dX12_sealOf_182 cb_8 rfl ?_
            refine ok_ishr (q := 185) dX12_sealOf_184 rfl ?_
            refine ok_goto (q := 189) dX12_sealOf_185 rfl ?_
            exact oj_X12_sealOf_189 ih hke_197 a0 x4 x5 (mm_shr x4 (8 : Int32)) x5 b56 h k_a0 k57
        · refine ok_iload (q := 170) dX12_sealOf_168 rfl rfl ?_
          refine ok_goto (q := 189) dX12_sealOf_170 rfl ?_
          exact oj_X12_sealOf_189 ih hke_197 a0 x4 x5 x4 x5 b56 h k_a0 k57
      · refine ok_iconst (q := 158) (v := 5) dX12_sealOf_157 ci_5 rfl ?_
        refine ok_goto (q := 189) dX12_sealOf_158 rfl ?_
        exact oj_X12_sealOf_189 ih hke_197 a0 x4 x5 5 x5 b56 h k_a0 k57
def lp_X12_sealOf_218  : Nat → Nat → Int64 → Int32 → mm_H → mm_O
  | 0, _, _, _, _ => none
  | n + 1, a0, x5, x7, h => if (16 : Int32) ≤ x7 then
  (some (none, h))
  else
  (mm_qi (bd_X12_byteOf a0 x7 h) (fun v73 h71 =>
  mm_gr h71 a0 48 (fun b75 =>
  if mm_in ((16 : Int32) + x7) (mm_ln h71 b75) = true then (mm_bl (x5 + (Int32.toInt64 ((v73 &&& (255 : Int32)) + ((mm_i h71 b75 (mm_n ((16 : Int32) + x7))) &&& (255 : Int32))))) (fun v78 =>
  mm_gr h71 a0 55 (fun b79 =>
  if 32 ≤ b79 ∧ mm_in x7 (mm_ln h71 b79) = true then (mm_bh (mm_si h71 b79 (mm_n x7) (mm_b8 (mm_b8 (Int64.toInt32 v78)))) (fun h82 =>
  mm_bl (mm_lshr v78 (8 : Int32)) (fun v84 =>
  lp_X12_sealOf_218 n a0 v84 (x7 + 1) h82))) else none))) else none)))
set_option maxHeartbeats 4000000 in
set_option maxRecDepth 100000 in
theorem ol_X12_sealOf_218 {G : mm_G}   : ∀ (n : Nat) (a0 : Nat) (x5 : Int64) (x7 : Int32) (h : mm_H), mm_kd h a0 = 11 → mm_Ok G my_X12_sealOf 218 [.ref a0, mm_U, mm_U, mm_U, mm_U, .long x5, mm_U, .int x7] [] h (lp_X12_sealOf_218 n a0 x5 x7 h) := by
  intro n
  induction n with
  | zero => intro a0 x5 x7 h k_a0; exact mm_no
  | succ n ih =>
    intro a0 x5 x7 h k_a0
    rw [lp_X12_sealOf_218]
    refine ok_iload (q := 220) dX12_sealOf_218 rfl rfl ?_
    refine ok_bipush (q := 222) (v := 16) dX12_sealOf_220 cb_16 rfl ?_
    refine ok_icmp_ge (q := 225) (t := 280) dX12_sealOf_222 rfl rfl ?_ ?_
    · exact ok_ret dX12_sealOf_280 rfl
    · refine ok_lload (q := 227) dX12_sealOf_225 rfl rfl ?_
      refine ok_aload_n (q := 228) dX12_sealOf_227 rfl rfl ?_
      refine ok_iload (q := 230) dX12_sealOf_228 rfl rfl ?_
      refine mm_ci (q := 233) (mt_X12_byteOf G a0 x7 h k_a0) (mm_runV (as := [.int x7]) (st := [.long x5]) cl_11 lk_X12_sealOf_X12_byteOf_370 rfl dX12_sealOf_230 rfl (Nat.le_of_ble_eq_true rfl) k_a0) rfl (fun v73 h71 p72 => ?_)
      have k74 : mm_kd h71 a0 = 11 := mm_kd_app p72 k_a0 (by decide)
      refine ok_sipush (q := 236) (v := 255) dX12_sealOf_233 cs_255 rfl ?_
      refine ok_iand (q := 237) dX12_sealOf_236 rfl ?_
      refine ok_aload_n (q := 238) dX12_sealOf_237 rfl rfl ?_
      refine ok_getR cl_11 (q := 241) (k := 48) dX12_sealOf_238 (Nat.le_of_ble_eq_true rfl) wd_1080 (fun _ _ _ => rfl) kt_11_48 k74 rfl (fun b75 k76 => ?_)
      refine ok_bipush (q := 243) (v := 16) dX12_sealOf_241 cb_16 rfl ?_
      refine ok_iload (q := 245) dX12_sealOf_243 rfl rfl ?_
      refine ok_iadd (q := 246) dX12_sealOf_245 rfl ?_
      refine mm_ck (fun c77 => ?_)
      refine ok_bald (q := 247) dX12_sealOf_246 k76 c77 rfl ?_
      refine ok_sipush (q := 250) (v := 255) dX12_sealOf_247 cs_255 rfl ?_
      refine ok_iand (q := 251) dX12_sealOf_250 rfl ?_
      refine ok_iadd (q := 252) dX12_sealOf_251 rfl ?_
      refine ok_i2l (q := 253) dX12_sealOf_252 rfl ?_
      refine ok_ladd (q := 254) dX12_sealOf_253 rfl ?_
      refine bl_ok (fun v78 => ?_)
      refine ok_lstore (q := 256) (ls' := [.ref a0, mm_U, mm_U, mm_U, mm_U, .long v78, mm_U, .int x7]) dX12_sealOf_254 (Nat.le_of_ble_eq_true rfl) rfl rfl ?_
      refine ok_aload_n (q := 257) dX12_sealOf_256 rfl rfl ?_
      refine ok_getR cl_11 (q := 260) (k := 55) dX12_sealOf_257 (Nat.le_of_ble_eq_true rfl) wd_1087 (fun _ _ _ => rfl) kt_11_55 k74 rfl (fun b79 k80 => ?_)
      refine ok_iload (q := 262) dX12_sealOf_260 rfl rfl ?_
      refine ok_lload (q := 264) dX12_sealOf_262 rfl rfl ?_
      refine ok_l2i (q := 265) dX12_sealOf_264 rfl ?_
      refine ok_i2b (q := 266) dX12_sealOf_265 rfl ?_
      refine mm_ck (fun c81 => ?_)
      refine ok_bast (q := 267) dX12_sealOf_266 k80 c81.1 c81.2 rfl (bh_ok (fun h82 e83 => ?_))
      have e83 : h82.1 = h71.1 := e83
      refine ok_lload (q := 269) dX12_sealOf_267 rfl rfl ?_
      refine ok_bipush (q := 271) (v := 8) dX12_sealOf_269 cb_8 rfl ?_
      refine ok_lshr (q := 272) dX12_sealOf_271 rfl ?_
      refine bl_ok (fun v84 => ?_)
      refine ok_lstore (q := 274) (ls' := [.ref a0, mm_U, mm_U, mm_U, mm_U, .long v84, mm_U, .int x7]) dX12_sealOf_272 (Nat.le_of_ble_eq_true rfl) rfl rfl ?_
      refine ok_iinc (q := 277) (v := x7 + 1) (ls' := [.ref a0, mm_U, mm_U, mm_U, mm_U, .long v84, mm_U, .int (x7 + 1)]) dX12_sealOf_274 rfl (congrArg (x7 + ·) ci_1) (Nat.le_of_ble_eq_true rfl) rfl rfl ?_
      refine ok_goto (q := 218) dX12_sealOf_277 rfl ?_
      exact ih a0 v84 (x7 + 1) h82 (mm_ke e83 k74)
def bd_X12_sealOf (a0 : Nat) (a1 : Nat) (x2 : Int32) (x3 : Int32) (x4 : Int32) (h : mm_H) : mm_O := mm_qv (bd_X12_streamOf a0 0 h) (fun h1 =>
  lp_X12_sealOf_8 (fun b14 b15 v16 v17 v18 h13 => mm_gr h13 b14 54 (fun b19 =>
  if 32 ≤ b19 ∧ mm_in (16 : Int32) (mm_ln h13 b19) = true then (mm_bh (mm_si h13 b19 (mm_n (16 : Int32)) (mm_b8 (0 : Int32))) (fun h22 =>
  lp_X12_sealOf_82 (fun b43 b44 v45 v46 v47 h42 => mm_qv (bd_X12_take b43 b44 v45 5 h42) (fun h48 =>
  mm_qv (bd_X12_take b43 b44 v46 v47 h48) (fun h52 =>
  lp_X12_sealOf_139 (fun b62 h61 => mm_gr h61 b62 56 (fun b63 =>
  mm_qv (bd_X12_take b62 b63 0 16 h61) (fun h65 =>
  mm_qv (bd_X12_settle b62 h65) (fun h68 =>
  lp_X12_sealOf_218  mm_fu b62 0 0 h68)))) mm_fu b43 v47 0 h52))) mm_fu b14 b15 v16 v17 v18 0 h22)) else none)) mm_fu a0 a1 x2 x3 x4 0 h1)
set_option maxHeartbeats 4000000 in
set_option maxRecDepth 100000 in
theorem mt_X12_sealOf (G : mm_G) (a0 : Nat) (a1 : Nat) (x2 : Int32) (x3 : Int32) (x4 : Int32) (h : mm_H) (k_a0 : mm_kd h a0 = 11) (k_a1 : mm_kd h a1 = 21) : mm_Met G my_X12_sealOf [.ref a0, .ref a1, .int x2, .int x3, .int x4] h (bd_X12_sealOf a0 a1 x2 x3 x4 h) := by
  refine mm_met (ls := [.ref a0, .ref a1, .int x2, .int x3, .int x4, mm_U, mm_U, mm_U]) pn_RX12 (Nat.le_of_ble_eq_true rfl) rfl ?_
  unfold bd_X12_sealOf
  refine ok_aload_n (q := 1) dX12_sealOf_0 rfl rfl ?_
  refine ok_iconst (q := 2) (v := 0) dX12_sealOf_1 ci_0 rfl ?_
  refine mm_cv (q := 5) (mt_X12_streamOf G a0 0 h k_a0) (mm_runV (as := [.int 0]) (st := []) cl_11 lk_X12_sealOf_X12_streamOf_349 rfl dX12_sealOf_2 rfl (Nat.le_of_ble_eq_true rfl) k_a0) rfl (fun h1 p2 => ?_)
  have k3 : mm_kd h1 a0 = 11 := mm_kd_app p2 k_a0 (by decide)
  have k4 : mm_kd h1 a1 = 21 := mm_kd_app p2 k_a1 (by decide)
  refine ok_iconst (q := 6) (v := 0) dX12_sealOf_5 ci_0 rfl ?_
  refine ok_istore (q := 8) (ls' := [.ref a0, .ref a1, .int x2, .int x3, .int x4, .int 0, mm_U, mm_U]) dX12_sealOf_6 (Nat.le_of_ble_eq_true rfl) rfl rfl ?_
  refine ol_X12_sealOf_8 (fun b14 b15 v16 v17 v18 h13 k_b14 k_b15 => ?_) mm_fu a0 a1 x2 x3 x4 0 h1 k3 k4
  · refine ok_aload_n (q := 72) dX12_sealOf_71 rfl rfl ?_
    refine ok_getR cl_11 (q := 75) (k := 54) dX12_sealOf_72 (Nat.le_of_ble_eq_true rfl) wd_1086 (fun _ _ _ => rfl) kt_11_54 k_b14 rfl (fun b19 k20 => ?_)
    refine ok_bipush (q := 77) (v := 16) dX12_sealOf_75 cb_16 rfl ?_
    refine ok_iconst (q := 78) (v := 0) dX12_sealOf_77 ci_0 rfl ?_
    refine mm_ck (fun c21 => ?_)
    refine ok_bast (q := 79) dX12_sealOf_78 k20 c21.1 c21.2 rfl (bh_ok (fun h22 e23 => ?_))
    have e23 : h22.1 = h13.1 := e23
    refine ok_iconst (q := 80) (v := 0) dX12_sealOf_79 ci_0 rfl ?_
    refine ok_istore (q := 82) (ls' := [.ref b14, .ref b15, .int v16, .int v17, .int v18, .int 0, mm_U, mm_U]) dX12_sealOf_80 (Nat.le_of_ble_eq_true rfl) rfl rfl ?_
    refine ol_X12_sealOf_82 (fun b43 b44 v45 v46 v47 h42 k_b43 k_b44 => ?_) mm_fu b14 b15 v16 v17 v18 0 h22 (mm_ke e23 k_b14) (mm_ke e23 k_b15)
    · refine ok_aload_n (q := 122) dX12_sealOf_121 rfl rfl ?_
      refine ok_aload_n (q := 123) dX12_sealOf_122 rfl rfl ?_
      refine ok_iload_n (q := 124) dX12_sealOf_123 rfl rfl ?_
      refine ok_iconst (q := 125) (v := 5) dX12_sealOf_124 ci_5 rfl ?_
      refine mm_cv (q := 128) (mt_X12_take G b43 b44 v45 5 h42 k_b43 k_b44) (mm_runV (as := [.ref b44, .int v45, .int 5]) (st := []) cl_11 lk_X12_sealOf_X12_take_363 rfl dX12_sealOf_125 rfl (Nat.le_of_ble_eq_true rfl) k_b43) rfl (fun h48 p49 => ?_)
      have k50 : mm_kd h48 b43 = 11 := mm_kd_app p49 k_b43 (by decide)
      have k51 : mm_kd h48 b44 = 21 := mm_kd_app p49 k_b44 (by decide)
      refine ok_aload_n (q := 129) dX12_sealOf_128 rfl rfl ?_
      refine ok_aload_n (q := 130) dX12_sealOf_129 rfl rfl ?_
      refine ok_iload_n (q := 131) dX12_sealOf_130 rfl rfl ?_
      refine ok_iload (q := 133) dX12_sealOf_131 rfl rfl ?_
      refine mm_cv (q := 136) (mt_X12_take G b43 b44 v46 v47 h48 k50 k51) (mm_runV (as := [.ref b44, .int v46, .int v47]) (st := []) cl_11 lk_X12_sealOf_X12_take_363 rfl dX12_sealOf_133 rfl (Nat.le_of_ble_eq_true rfl) k50) rfl (fun h52 p53 => ?_)
      have k54 : mm_kd h52 b43 = 11 := mm_kd_app p53 k50 (by decide)
      have k55 : mm_kd h52 b44 = 21 := mm_kd_app p53 k51 (by decide)
      refine ok_iconst (q := 137) (v := 0) dX12_sealOf_136 ci_0 rfl ?_
      refine ok_istore (q := 139) (ls' := [.ref b43, .ref b44, .int v45, .int v46, .int v47, .int 0, mm_U, mm_U]) dX12_sealOf_137 (Nat.le_of_ble_eq_true rfl) rfl rfl ?_
      refine mm_wk [true, false, false, false, true, true, false, false] (ls' := [.ref b43, mm_U, mm_U, mm_U, .int v47, .int 0, mm_U, mm_U]) rfl ?_
      refine ol_X12_sealOf_139 (fun b62 h61 k_b62 => ?_) mm_fu b43 v47 0 h52 k54
      · refine ok_aload_n (q := 198) dX12_sealOf_197 rfl rfl ?_
        refine ok_aload_n (q := 199) dX12_sealOf_198 rfl rfl ?_
        refine ok_getR cl_11 (q := 202) (k := 56) dX12_sealOf_199 (Nat.le_of_ble_eq_true rfl) wd_1088 (fun _ _ _ => rfl) kt_11_56 k_b62 rfl (fun b63 k64 => ?_)
        refine ok_iconst (q := 203) (v := 0) dX12_sealOf_202 ci_0 rfl ?_
        refine ok_bipush (q := 205) (v := 16) dX12_sealOf_203 cb_16 rfl ?_
        refine mm_cv (q := 208) (mt_X12_take G b62 b63 0 16 h61 k_b62 k64) (mm_runV (as := [.ref b63, .int 0, .int 16]) (st := []) cl_11 lk_X12_sealOf_X12_take_363 rfl dX12_sealOf_205 rfl (Nat.le_of_ble_eq_true rfl) k_b62) rfl (fun h65 p66 => ?_)
        have k67 : mm_kd h65 b62 = 11 := mm_kd_app p66 k_b62 (by decide)
        refine ok_aload_n (q := 209) dX12_sealOf_208 rfl rfl ?_
        refine mm_cv (q := 212) (mt_X12_settle G b62 h65 k67) (mm_runV (as := []) (st := []) cl_11 lk_X12_sealOf_X12_settle_367 rfl dX12_sealOf_209 rfl (Nat.le_of_ble_eq_true rfl) k67) rfl (fun h68 p69 => ?_)
        have k70 : mm_kd h68 b62 = 11 := mm_kd_app p69 k67 (by decide)
        refine ok_lconst (q := 213) (v := 0) dX12_sealOf_212 rfl rfl ?_
        refine ok_lstore (q := 215) (ls' := [.ref b62, mm_U, mm_U, mm_U, mm_U, .long 0, mm_U, mm_U]) dX12_sealOf_213 (Nat.le_of_ble_eq_true rfl) rfl rfl ?_
        refine ok_iconst (q := 216) (v := 0) dX12_sealOf_215 ci_0 rfl ?_
        refine ok_istore (q := 218) (ls' := [.ref b62, mm_U, mm_U, mm_U, mm_U, .long 0, mm_U, .int 0]) dX12_sealOf_216 (Nat.le_of_ble_eq_true rfl) rfl rfl ?_
        refine ol_X12_sealOf_218  mm_fu b62 0 0 h68 k70
def lp_X12_keysOf_48  : Nat → Nat → Int32 → Int32 → mm_H → mm_O
  | 0, _, _, _, _ => none
  | n + 1, a0, x3, x4, h => if (4 : Int32) ≤ x4 then
  (some (none, h))
  else
  (mm_gr h a0 50 (fun b17 =>
  if mm_in ((8 : Int32) + x4) (mm_ln h b17) = true then (if 32 ≤ b17 ∧ mm_in ((8 : Int32) + x4) (mm_ln h b17) = true then (mm_bh (mm_si h b17 (mm_n ((8 : Int32) + x4)) (mm_b8 (mm_b8 ((mm_i h b17 (mm_n ((8 : Int32) + x4))) ^^^ (mm_b8 (mm_shr x3 ((24 : Int32) - ((8 : Int32) * x4)))))))) (fun h21 =>
  lp_X12_keysOf_48 n a0 x3 (x4 + 1) h21)) else none) else none))
set_option maxHeartbeats 4000000 in
set_option maxRecDepth 100000 in
theorem ol_X12_keysOf_48 {G : mm_G}   : ∀ (n : Nat) (a0 : Nat) (x3 : Int32) (x4 : Int32) (h : mm_H), mm_kd h a0 = 11 → mm_Ok G my_X12_keysOf 48 [.ref a0, mm_U, mm_U, .int x3, .int x4] [] h (lp_X12_keysOf_48 n a0 x3 x4 h) := by
  intro n
  induction n with
  | zero => intro a0 x3 x4 h k_a0; exact mm_no
  | succ n ih =>
    intro a0 x3 x4 h k_a0
    rw [lp_X12_keysOf_48]
    refine ok_iload (q := 50) dX12_keysOf_48 rfl rfl ?_
    refine ok_iconst (q := 51) (v := 4) dX12_keysOf_50 ci_4 rfl ?_
    refine ok_icmp_ge (q := 54) (t := 85) dX12_keysOf_51 rfl rfl ?_ ?_
    · exact ok_ret dX12_keysOf_85 rfl
    · refine ok_aload_n (q := 55) dX12_keysOf_54 rfl rfl ?_
      refine ok_getR cl_11 (q := 58) (k := 50) dX12_keysOf_55 (Nat.le_of_ble_eq_true rfl) wd_1082 (fun _ _ _ => rfl) kt_11_50 k_a0 rfl (fun b17 k18 => ?_)
      refine ok_bipush (q := 60) (v := 8) dX12_keysOf_58 cb_8 rfl ?_
      refine ok_iload (q := 62) dX12_keysOf_60 rfl rfl ?_
      refine ok_iadd (q := 63) dX12_keysOf_62 rfl ?_
      refine ok_dup2 (q := 64) dX12_keysOf_63 rfl rfl rfl ?_
      refine mm_ck (fun c19 => ?_)
      refine ok_bald (q := 65) dX12_keysOf_64 k18 c19 rfl ?_
      refine ok_iload_n (q := 66) dX12_keysOf_65 rfl rfl ?_
      refine ok_bipush (q := 68) (v := 24) dX12_keysOf_66 cb_24 rfl ?_
      refine ok_bipush (q := 70) (v := 8) dX12_keysOf_68 cb_8 rfl ?_
      refine ok_iload (q := 72) dX12_keysOf_70 rfl rfl ?_
      refine ok_imul (q := 73) dX12_keysOf_72 rfl ?_
      refine ok_isub (q := 74) dX12_keysOf_73 rfl ?_
      refine ok_ishr (q := 75) dX12_keysOf_74 rfl ?_
      refine ok_i2b (q := 76) dX12_keysOf_75 rfl ?_
      refine ok_ixor (q := 77) dX12_keysOf_76 rfl ?_
      refine ok_i2b (q := 78) dX12_keysOf_77 rfl ?_
      refine mm_ck (fun c20 => ?_)
      refine ok_bast (q := 79) dX12_keysOf_78 k18 c20.1 c20.2 rfl (bh_ok (fun h21 e22 => ?_))
      have e22 : h21.1 = h.1 := e22
      refine ok_iinc (q := 82) (v := x4 + 1) (ls' := [.ref a0, mm_U, mm_U, .int x3, .int (x4 + 1)]) dX12_keysOf_79 rfl (congrArg (x4 + ·) ci_1) (Nat.le_of_ble_eq_true rfl) rfl rfl ?_
      refine ok_goto (q := 48) dX12_keysOf_82 rfl ?_
      exact ih a0 x3 (x4 + 1) h21 (mm_ke e22 k_a0)
def bd_X12_keysOf (a0 : Nat) (a1 : Nat) (x2 : Int32) (x3 : Int32) (h : mm_H) : mm_O := mm_gr h a0 40 (fun b1 =>
  mm_gr h a0 49 (fun b3 =>
  mm_qv (bd_X12_expand a0 a1 ((32 : Int32) * x2) 5 b1 0 b3 0 32 h) (fun h5 =>
  mm_gr h5 a0 40 (fun b9 =>
  mm_gr h5 a0 50 (fun b11 =>
  mm_qv (bd_X12_expand a0 a1 ((32 : Int32) * x2) 6 b9 0 b11 0 12 h5) (fun h13 =>
  lp_X12_keysOf_48  mm_fu a0 x3 0 h13))))))
set_option maxHeartbeats 4000000 in
set_option maxRecDepth 100000 in
theorem mt_X12_keysOf (G : mm_G) (a0 : Nat) (a1 : Nat) (x2 : Int32) (x3 : Int32) (h : mm_H) (k_a0 : mm_kd h a0 = 11) (k_a1 : mm_kd h a1 = 21) : mm_Met G my_X12_keysOf [.ref a0, .ref a1, .int x2, .int x3] h (bd_X12_keysOf a0 a1 x2 x3 h) := by
  refine mm_met (ls := [.ref a0, .ref a1, .int x2, .int x3, mm_U]) pn_RX12 (Nat.le_of_ble_eq_true rfl) rfl ?_
  unfold bd_X12_keysOf
  refine ok_aload_n (q := 1) dX12_keysOf_0 rfl rfl ?_
  refine ok_aload_n (q := 2) dX12_keysOf_1 rfl rfl ?_
  refine ok_bipush (q := 4) (v := 32) dX12_keysOf_2 cb_32 rfl ?_
  refine ok_iload_n (q := 5) dX12_keysOf_4 rfl rfl ?_
  refine ok_imul (q := 6) dX12_keysOf_5 rfl ?_
  refine ok_iconst (q := 7) (v := 5) dX12_keysOf_6 ci_5 rfl ?_
  refine ok_aload_n (q := 8) dX12_keysOf_7 rfl rfl ?_
  refine ok_getR cl_11 (q := 11) (k := 40) dX12_keysOf_8 (Nat.le_of_ble_eq_true rfl) wd_1072 (fun _ _ _ => rfl) kt_11_40 k_a0 rfl (fun b1 k2 => ?_)
  refine ok_iconst (q := 12) (v := 0) dX12_keysOf_11 ci_0 rfl ?_
  refine ok_aload_n (q := 13) dX12_keysOf_12 rfl rfl ?_
  refine ok_getR cl_11 (q := 16) (k := 49) dX12_keysOf_13 (Nat.le_of_ble_eq_true rfl) wd_1081 (fun _ _ _ => rfl) kt_11_49 k_a0 rfl (fun b3 k4 => ?_)
  refine ok_iconst (q := 17) (v := 0) dX12_keysOf_16 ci_0 rfl ?_
  refine ok_bipush (q := 19) (v := 32) dX12_keysOf_17 cb_32 rfl ?_
  refine mm_cv (q := 22) (mt_X12_expand G a0 a1 ((32 : Int32) * x2) 5 b1 0 b3 0 32 h k_a0 k_a1 k2 k4) (mm_runV (as := [.ref a1, .int ((32 : Int32) * x2), .int 5, .ref b1, .int 0, .ref b3, .int 0, .int 32]) (st := []) cl_11 lk_X12_keysOf_X12_expand_330 rfl dX12_keysOf_19 rfl (Nat.le_of_ble_eq_true rfl) k_a0) rfl (fun h5 p6 => ?_)
  have k7 : mm_kd h5 a0 = 11 := mm_kd_app p6 k_a0 (by decide)
  have k8 : mm_kd h5 a1 = 21 := mm_kd_app p6 k_a1 (by decide)
  refine ok_aload_n (q := 23) dX12_keysOf_22 rfl rfl ?_
  refine ok_aload_n (q := 24) dX12_keysOf_23 rfl rfl ?_
  refine ok_bipush (q := 26) (v := 32) dX12_keysOf_24 cb_32 rfl ?_
  refine ok_iload_n (q := 27) dX12_keysOf_26 rfl rfl ?_
  refine ok_imul (q := 28) dX12_keysOf_27 rfl ?_
  refine ok_bipush (q := 30) (v := 6) dX12_keysOf_28 cb_6 rfl ?_
  refine ok_aload_n (q := 31) dX12_keysOf_30 rfl rfl ?_
  refine ok_getR cl_11 (q := 34) (k := 40) dX12_keysOf_31 (Nat.le_of_ble_eq_true rfl) wd_1072 (fun _ _ _ => rfl) kt_11_40 k7 rfl (fun b9 k10 => ?_)
  refine ok_iconst (q := 35) (v := 0) dX12_keysOf_34 ci_0 rfl ?_
  refine ok_aload_n (q := 36) dX12_keysOf_35 rfl rfl ?_
  refine ok_getR cl_11 (q := 39) (k := 50) dX12_keysOf_36 (Nat.le_of_ble_eq_true rfl) wd_1082 (fun _ _ _ => rfl) kt_11_50 k7 rfl (fun b11 k12 => ?_)
  refine ok_iconst (q := 40) (v := 0) dX12_keysOf_39 ci_0 rfl ?_
  refine ok_bipush (q := 42) (v := 12) dX12_keysOf_40 cb_12 rfl ?_
  refine mm_cv (q := 45) (mt_X12_expand G a0 a1 ((32 : Int32) * x2) 6 b9 0 b11 0 12 h5 k7 k8 k10 k12) (mm_runV (as := [.ref a1, .int ((32 : Int32) * x2), .int 6, .ref b9, .int 0, .ref b11, .int 0, .int 12]) (st := []) cl_11 lk_X12_keysOf_X12_expand_330 rfl dX12_keysOf_42 rfl (Nat.le_of_ble_eq_true rfl) k7) rfl (fun h13 p14 => ?_)
  have k15 : mm_kd h13 a0 = 11 := mm_kd_app p14 k7 (by decide)
  have k16 : mm_kd h13 a1 = 21 := mm_kd_app p14 k8 (by decide)
  refine ok_iconst (q := 46) (v := 0) dX12_keysOf_45 ci_0 rfl ?_
  refine ok_istore (q := 48) (ls' := [.ref a0, .ref a1, .int x2, .int x3, .int 0]) dX12_keysOf_46 (Nat.le_of_ble_eq_true rfl) rfl rfl ?_
  refine mm_wk [true, false, false, true, true] (ls' := [.ref a0, mm_U, mm_U, .int x3, .int 0]) rfl ?_
  refine ol_X12_keysOf_48  mm_fu a0 x3 0 h13 k15
def bd_X12_sayByte (a0 : Nat) (x1 : Int32) (h : mm_H) : mm_O := mm_gr h a0 57 (fun b1 =>
  if 32 ≤ b1 ∧ mm_in (mm_i h a0 58) (mm_ln h b1) = true then (mm_bh (mm_si h b1 (mm_n (mm_i h a0 58)) (mm_b8 (mm_b8 x1))) (fun h4 =>
  mm_bh (mm_si h4 a0 58 ((mm_i h4 a0 58) + (1 : Int32))) (fun h6 =>
  some (none, h6)))) else none)
set_option maxHeartbeats 4000000 in
set_option maxRecDepth 100000 in
theorem mt_X12_sayByte (G : mm_G) (a0 : Nat) (x1 : Int32) (h : mm_H) (k_a0 : mm_kd h a0 = 11) : mm_Met G my_X12_sayByte [.ref a0, .int x1] h (bd_X12_sayByte a0 x1 h) := by
  refine mm_met (ls := [.ref a0, .int x1]) pn_RX12 (Nat.le_of_ble_eq_true rfl) rfl ?_
  unfold bd_X12_sayByte
  refine ok_aload_n (q := 1) dX12_sayByte_0 rfl rfl ?_
  refine ok_getR cl_11 (q := 4) (k := 57) dX12_sayByte_1 (Nat.le_of_ble_eq_true rfl) wd_1089 (fun _ _ _ => rfl) kt_11_57 k_a0 rfl (fun b1 k2 => ?_)
  refine ok_aload_n (q := 5) dX12_sayByte_4 rfl rfl ?_
  refine ok_getI cl_11 (q := 8) (k := 58) dX12_sayByte_5 (Nat.le_of_ble_eq_true rfl) wd_1090 (fun _ _ _ => rfl) k_a0 rfl ?_
  refine ok_iload_n (q := 9) dX12_sayByte_8 rfl rfl ?_
  refine ok_i2b (q := 10) dX12_sayByte_9 rfl ?_
  refine mm_ck (fun c3 => ?_)
  refine ok_bast (q := 11) dX12_sayByte_10 k2 c3.1 c3.2 rfl (bh_ok (fun h4 e5 => ?_))
  have e5 : h4.1 = h.1 := e5
  refine ok_aload_n (q := 12) dX12_sayByte_11 rfl rfl ?_
  refine ok_dup (q := 13) dX12_sayByte_12 rfl rfl ?_
  refine ok_getI cl_11 (q := 16) (k := 58) dX12_sayByte_13 (Nat.le_of_ble_eq_true rfl) wd_1090 (fun _ _ _ => rfl) (mm_ke e5 k_a0) rfl ?_
  refine ok_iconst (q := 17) (v := 1) dX12_sayByte_16 ci_1 rfl ?_
  refine ok_iadd (q := 18) dX12_sayByte_17 rfl ?_
  refine ok_putI cl_11 (q := 21) (k := 58) dX12_sayByte_18 (Nat.le_of_ble_eq_true rfl) wd_1090 (Or.inl rfl) (fun _ _ _ => rfl) rfl rfl (mm_ke e5 k_a0) rfl (bh_ok (fun h6 e7 => ?_))
  have e7 : h6.1 = h.1 := e7.trans e5
  exact ok_ret dX12_sayByte_21 rfl
def bd_X12_sayTwo (a0 : Nat) (x1 : Int32) (h : mm_H) : mm_O := mm_qv (bd_X12_sayByte a0 (mm_shr x1 (8 : Int32)) h) (fun h1 =>
  mm_qv (bd_X12_sayByte a0 x1 h1) (fun h4 =>
  some (none, h4)))
set_option maxHeartbeats 4000000 in
set_option maxRecDepth 100000 in
theorem mt_X12_sayTwo (G : mm_G) (a0 : Nat) (x1 : Int32) (h : mm_H) (k_a0 : mm_kd h a0 = 11) : mm_Met G my_X12_sayTwo [.ref a0, .int x1] h (bd_X12_sayTwo a0 x1 h) := by
  refine mm_met (ls := [.ref a0, .int x1]) pn_RX12 (Nat.le_of_ble_eq_true rfl) rfl ?_
  unfold bd_X12_sayTwo
  refine ok_aload_n (q := 1) dX12_sayTwo_0 rfl rfl ?_
  refine ok_iload_n (q := 2) dX12_sayTwo_1 rfl rfl ?_
  refine ok_bipush (q := 4) (v := 8) dX12_sayTwo_2 cb_8 rfl ?_
  refine ok_ishr (q := 5) dX12_sayTwo_4 rfl ?_
  refine mm_cv (q := 8) (mt_X12_sayByte G a0 (mm_shr x1 (8 : Int32)) h k_a0) (mm_runV (as := [.int (mm_shr x1 (8 : Int32))]) (st := []) cl_11 lk_X12_sayTwo_X12_sayByte_377 rfl dX12_sayTwo_5 rfl (Nat.le_of_ble_eq_true rfl) k_a0) rfl (fun h1 p2 => ?_)
  have k3 : mm_kd h1 a0 = 11 := mm_kd_app p2 k_a0 (by decide)
  refine ok_aload_n (q := 9) dX12_sayTwo_8 rfl rfl ?_
  refine ok_iload_n (q := 10) dX12_sayTwo_9 rfl rfl ?_
  refine mm_cv (q := 13) (mt_X12_sayByte G a0 x1 h1 k3) (mm_runV (as := [.int x1]) (st := []) cl_11 lk_X12_sayTwo_X12_sayByte_377 rfl dX12_sayTwo_10 rfl (Nat.le_of_ble_eq_true rfl) k3) rfl (fun h4 p5 => ?_)
  have k6 : mm_kd h4 a0 = 11 := mm_kd_app p5 k3 (by decide)
  exact ok_ret dX12_sayTwo_13 rfl
def bd_X12_isFull (a0 : Nat) (x1 : Int32) (h : mm_H) : mm_O := mm_gr h a0 17 (fun b1 =>
  if mm_in x1 (mm_ln h b1) = true then (if (mm_i h b1 (mm_n x1)) = (32 : Int32) then
  (some (some (.int 1), h))
  else
  (some (some (.int 0), h))) else none)
set_option maxHeartbeats 4000000 in
set_option maxRecDepth 100000 in
theorem mt_X12_isFull (G : mm_G) (a0 : Nat) (x1 : Int32) (h : mm_H) (k_a0 : mm_kd h a0 = 11) : mm_Met G my_X12_isFull [.ref a0, .int x1] h (bd_X12_isFull a0 x1 h) := by
  refine mm_met (ls := [.ref a0, .int x1]) pn_RX12 (Nat.le_of_ble_eq_true rfl) rfl ?_
  unfold bd_X12_isFull
  refine ok_aload_n (q := 1) dX12_isFull_0 rfl rfl ?_
  refine ok_getR cl_11 (q := 4) (k := 17) dX12_isFull_1 (Nat.le_of_ble_eq_true rfl) wd_1049 (fun _ _ _ => rfl) kt_11_17 k_a0 rfl (fun b1 k2 => ?_)
  refine ok_iload_n (q := 5) dX12_isFull_4 rfl rfl ?_
  refine mm_ck (fun c3 => ?_)
  refine ok_iald (q := 6) dX12_isFull_5 k2 c3 rfl ?_
  refine ok_bipush (q := 8) (v := 32) dX12_isFull_6 cb_32 rfl ?_
  refine ok_icmp_ne (q := 11) (t := 15) dX12_isFull_8 rfl rfl ?_ ?_
  · refine ok_iconst (q := 16) (v := 0) dX12_isFull_15 ci_0 rfl ?_
    exact ok_iret (t := .boolean) dX12_isFull_16 rfl (by decide)
  · refine ok_iconst (q := 12) (v := 1) dX12_isFull_11 ci_1 rfl ?_
    refine ok_goto (q := 16) dX12_isFull_12 rfl ?_
    exact ok_iret (t := .boolean) dX12_isFull_16 rfl (by decide)
def jn_X12_writeRecord_232 (a0 : Nat) (x1 : Int32) (x4 : Int32) (h : mm_H) : mm_O := mm_gr h a0 16 (fun b46 =>
  mm_gr h a0 17 (fun b48 =>
  if mm_in x1 (mm_ln h b48) = true then (if 32 ≤ b46 ∧ mm_in (((33 : Int32) * x1) + (mm_i h b48 (mm_n x1))) (mm_ln h b46) = true then (mm_bh (mm_si h b46 (mm_n (((33 : Int32) * x1) + (mm_i h b48 (mm_n x1)))) (x4 + (5 : Int32))) (fun h52 =>
  mm_gr h52 a0 17 (fun b54 =>
  if mm_in x1 (mm_ln h52 b54) = true then (if 32 ≤ b54 ∧ mm_in x1 (mm_ln h52 b54) = true then (mm_bh (mm_si h52 b54 (mm_n x1) ((mm_i h52 b54 (mm_n x1)) + (1 : Int32))) (fun h58 =>
  some (none, h58))) else none) else none))) else none) else none))
set_option maxHeartbeats 4000000 in
set_option maxRecDepth 100000 in
theorem oj_X12_writeRecord_232 {G : mm_G}   (a0 : Nat) (x1 : Int32) (x4 : Int32) (h : mm_H) (k_a0 : mm_kd h a0 = 11) : mm_Ok G my_X12_writeRecord 232 [.ref a0, .int x1, mm_U, mm_U, .int x4] [] h (jn_X12_writeRecord_232 a0 x1 x4 h) := by
  unfold jn_X12_writeRecord_232
  refine ok_aload_n (q := 233) dX12_writeRecord_232 rfl rfl ?_
  refine ok_getR cl_11 (q := 236) (k := 16) dX12_writeRecord_233 (Nat.le_of_ble_eq_true rfl) wd_1048 (fun _ _ _ => rfl) kt_11_16 k_a0 rfl (fun b46 k47 => ?_)
  refine ok_bipush (q := 238) (v := 33) dX12_writeRecord_236 cb_33 rfl ?_
  refine ok_iload_n (q := 239) dX12_writeRecord_238 rfl rfl ?_
  refine ok_imul (q := 240) dX12_writeRecord_239 rfl ?_
  refine ok_aload_n (q := 241) dX12_writeRecord_240 rfl rfl ?_
  refine ok_getR cl_11 (q := 244) (k := 17) dX12_writeRecord_241 (Nat.le_of_ble_eq_true rfl) wd_1049 (fun _ _ _ => rfl) kt_11_17 k_a0 rfl (fun b48 k49 => ?_)
  refine ok_iload_n (q := 245) dX12_writeRecord_244 rfl rfl ?_
  refine mm_ck (fun c50 => ?_)
  refine ok_iald (q := 246) dX12_writeRecord_245 k49 c50 rfl ?_
  refine ok_iadd (q := 247) dX12_writeRecord_246 rfl ?_
  refine ok_iload (q := 249) dX12_writeRecord_247 rfl rfl ?_
  refine ok_iconst (q := 250) (v := 5) dX12_writeRecord_249 ci_5 rfl ?_
  refine ok_iadd (q := 251) dX12_writeRecord_250 rfl ?_
  refine mm_ck (fun c51 => ?_)
  refine ok_iast (q := 252) dX12_writeRecord_251 k47 c51.1 c51.2 rfl (bh_ok (fun h52 e53 => ?_))
  have e53 : h52.1 = h.1 := e53
  refine ok_aload_n (q := 253) dX12_writeRecord_252 rfl rfl ?_
  refine ok_getR cl_11 (q := 256) (k := 17) dX12_writeRecord_253 (Nat.le_of_ble_eq_true rfl) wd_1049 (fun _ _ _ => rfl) kt_11_17 (mm_ke e53 k_a0) rfl (fun b54 k55 => ?_)
  refine ok_iload_n (q := 257) dX12_writeRecord_256 rfl rfl ?_
  refine ok_dup2 (q := 258) dX12_writeRecord_257 rfl rfl rfl ?_
  refine mm_ck (fun c56 => ?_)
  refine ok_iald (q := 259) dX12_writeRecord_258 (mm_ke e53 (mm_ke e53.symm k55)) c56 rfl ?_
  refine ok_iconst (q := 260) (v := 1) dX12_writeRecord_259 ci_1 rfl ?_
  refine ok_iadd (q := 261) dX12_writeRecord_260 rfl ?_
  refine mm_ck (fun c57 => ?_)
  refine ok_iast (q := 262) dX12_writeRecord_261 (mm_ke e53 (mm_ke e53.symm k55)) c57.1 c57.2 rfl (bh_ok (fun h58 e59 => ?_))
  have e59 : h58.1 = h.1 := e59.trans e53
  exact ok_ret dX12_writeRecord_262 rfl
def jn_X12_writeRecord_61 (a0 : Nat) (x1 : Int32) (x2 : Int32) (x3 : Int32) (x4 : Int32) (s0 : Int32) (s1 : Int32) (s2 : Nat) (h : mm_H) : mm_O := if 32 ≤ s2 ∧ mm_in s1 (mm_ln h s2) = true then (mm_bh (mm_si h s2 (mm_n s1) (mm_b8 (mm_b8 s0))) (fun h14 =>
  mm_gr h14 a0 15 (fun b16 =>
  if 32 ≤ b16 ∧ mm_in (x3 + (1 : Int32)) (mm_ln h14 b16) = true then (mm_bh (mm_si h14 b16 (mm_n (x3 + (1 : Int32))) (mm_b8 (3 : Int32))) (fun h19 =>
  mm_gr h19 a0 15 (fun b21 =>
  if 32 ≤ b21 ∧ mm_in (x3 + (2 : Int32)) (mm_ln h19 b21) = true then (mm_bh (mm_si h19 b21 (mm_n (x3 + (2 : Int32))) (mm_b8 (3 : Int32))) (fun h24 =>
  mm_gr h24 a0 15 (fun b26 =>
  if 32 ≤ b26 ∧ mm_in (x3 + (3 : Int32)) (mm_ln h24 b26) = true then (mm_bh (mm_si h24 b26 (mm_n (x3 + (3 : Int32))) (mm_b8 (mm_b8 (mm_shr x4 (8 : Int32))))) (fun h29 =>
  mm_gr h29 a0 15 (fun b31 =>
  if 32 ≤ b31 ∧ mm_in (x3 + (4 : Int32)) (mm_ln h29 b31) = true then (mm_bh (mm_si h29 b31 (mm_n (x3 + (4 : Int32))) (mm_b8 (mm_b8 x4))) (fun h34 =>
  mm_gr h34 a0 57 (fun b36 =>
  mm_gr h34 a0 15 (fun b38 =>
  mm_qv (bd_X12_move b36 0 b38 (x3 + (5 : Int32)) (mm_i h34 a0 58) h34) (fun h40 =>
  mm_gr h40 a0 26 (fun b43 =>
  if mm_in x1 (mm_ln h40 b43) = true then (if (mm_i h40 b43 (mm_n x1)) = 0 then
  (jn_X12_writeRecord_232 a0 x1 x4 h40)
  else
  (mm_gr h40 a0 15 (fun b60 =>
  if 32 ≤ b60 ∧ mm_in ((x3 + (5 : Int32)) + (mm_i h40 a0 58)) (mm_ln h40 b60) = true then (mm_bh (mm_si h40 b60 (mm_n ((x3 + (5 : Int32)) + (mm_i h40 a0 58))) (mm_b8 (mm_b8 x2))) (fun h63 =>
  mm_gr h63 a0 22 (fun b65 =>
  mm_gr h63 a0 28 (fun b67 =>
  if mm_in x1 (mm_ln h63 b67) = true then (mm_qv (bd_X12_keysOf a0 b65 x1 (mm_i h63 b67 (mm_n x1)) h63) (fun h70 =>
  mm_gr h70 a0 15 (fun b73 =>
  mm_qv (bd_X12_cover a0 b73 (x3 + (5 : Int32)) ((mm_i h70 a0 58) + (1 : Int32)) h70) (fun h75 =>
  mm_gr h75 a0 15 (fun b78 =>
  mm_qv (bd_X12_sealOf a0 b78 x3 (x3 + (5 : Int32)) ((mm_i h75 a0 58) + (1 : Int32)) h75) (fun h80 =>
  mm_gr h80 a0 55 (fun b83 =>
  mm_gr h80 a0 15 (fun b85 =>
  mm_qv (bd_X12_move b83 0 b85 ((x3 + (6 : Int32)) + (mm_i h80 a0 58)) 16 h80) (fun h87 =>
  mm_gr h87 a0 28 (fun b90 =>
  if mm_in x1 (mm_ln h87 b90) = true then (if 32 ≤ b90 ∧ mm_in x1 (mm_ln h87 b90) = true then (mm_bh (mm_si h87 b90 (mm_n x1) ((mm_i h87 b90 (mm_n x1)) + (1 : Int32))) (fun h94 =>
  jn_X12_writeRecord_232 a0 x1 x4 h94)) else none) else none)))))))))) else none)))) else none))) else none)))))) else none))) else none))) else none))) else none))) else none
set_option maxHeartbeats 4000000 in
set_option maxRecDepth 100000 in
theorem oj_X12_writeRecord_61 {G : mm_G}   (a0 : Nat) (x1 : Int32) (x2 : Int32) (x3 : Int32) (x4 : Int32) (s0 : Int32) (s1 : Int32) (s2 : Nat) (h : mm_H) (k_a0 : mm_kd h a0 = 11) (k_s2 : mm_kd h s2 = 21) : mm_Ok G my_X12_writeRecord 61 [.ref a0, .int x1, .int x2, .int x3, .int x4] [.int s0, .int s1, .ref s2] h (jn_X12_writeRecord_61 a0 x1 x2 x3 x4 s0 s1 s2 h) := by
  unfold jn_X12_writeRecord_61
  refine ok_i2b (q := 62) dX12_writeRecord_61 rfl ?_
  refine mm_ck (fun c13 => ?_)
  refine ok_bast (q := 63) dX12_writeRecord_62 k_s2 c13.1 c13.2 rfl (bh_ok (fun h14 e15 => ?_))
  have e15 : h14.1 = h.1 := e15
  refine ok_aload_n (q := 64) dX12_writeRecord_63 rfl rfl ?_
  refine ok_getR cl_11 (q := 67) (k := 15) dX12_writeRecord_64 (Nat.le_of_ble_eq_true rfl) wd_1047 (fun _ _ _ => rfl) kt_11_15 (mm_ke e15 k_a0) rfl (fun b16 k17 => ?_)
  refine ok_iload_n (q := 68) dX12_writeRecord_67 rfl rfl ?_
  refine ok_iconst (q := 69) (v := 1) dX12_writeRecord_68 ci_1 rfl ?_
  refine ok_iadd (q := 70) dX12_writeRecord_69 rfl ?_
  refine ok_iconst (q := 71) (v := 3) dX12_writeRecord_70 ci_3 rfl ?_
  refine mm_ck (fun c18 => ?_)
  refine ok_bast (q := 72) dX12_writeRecord_71 (mm_ke e15 (mm_ke e15.symm k17)) c18.1 c18.2 rfl (bh_ok (fun h19 e20 => ?_))
  have e20 : h19.1 = h.1 := e20.trans e15
  refine ok_aload_n (q := 73) dX12_writeRecord_72 rfl rfl ?_
  refine ok_getR cl_11 (q := 76) (k := 15) dX12_writeRecord_73 (Nat.le_of_ble_eq_true rfl) wd_1047 (fun _ _ _ => rfl) kt_11_15 (mm_ke e20 k_a0) rfl (fun b21 k22 => ?_)
  refine ok_iload_n (q := 77) dX12_writeRecord_76 rfl rfl ?_
  refine ok_iconst (q := 78) (v := 2) dX12_writeRecord_77 ci_2 rfl ?_
  refine ok_iadd (q := 79) dX12_writeRecord_78 rfl ?_
  refine ok_iconst (q := 80) (v := 3) dX12_writeRecord_79 ci_3 rfl ?_
  refine mm_ck (fun c23 => ?_)
  refine ok_bast (q := 81) dX12_writeRecord_80 (mm_ke e20 (mm_ke e20.symm k22)) c23.1 c23.2 rfl (bh_ok (fun h24 e25 => ?_))
  have e25 : h24.1 = h.1 := e25.trans e20
  refine ok_aload_n (q := 82) dX12_writeRecord_81 rfl rfl ?_
  refine ok_getR cl_11 (q := 85) (k := 15) dX12_writeRecord_82 (Nat.le_of_ble_eq_true rfl) wd_1047 (fun _ _ _ => rfl) kt_11_15 (mm_ke e25 k_a0) rfl (fun b26 k27 => ?_)
  refine ok_iload_n (q := 86) dX12_writeRecord_85 rfl rfl ?_
  refine ok_iconst (q := 87) (v := 3) dX12_writeRecord_86 ci_3 rfl ?_
  refine ok_iadd (q := 88) dX12_writeRecord_87 rfl ?_
  refine ok_iload (q := 90) dX12_writeRecord_88 rfl rfl ?_
  refine ok_bipush (q := 92) (v := 8) dX12_writeRecord_90 cb_8 rfl ?_
  refine ok_ishr (q := 93) dX12_writeRecord_92 rfl ?_
  refine ok_i2b (q := 94) dX12_writeRecord_93 rfl ?_
  refine mm_ck (fun c28 => ?_)
  refine ok_bast (q := 95) dX12_writeRecord_94 (mm_ke e25 (mm_ke e25.symm k27)) c28.1 c28.2 rfl (bh_ok (fun h29 e30 => ?_))
  have e30 : h29.1 = h.1 := e30.trans e25
  refine ok_aload_n (q := 96) dX12_writeRecord_95 rfl rfl ?_
  refine ok_getR cl_11 (q := 99) (k := 15) dX12_writeRecord_96 (Nat.le_of_ble_eq_true rfl) wd_1047 (fun _ _ _ => rfl) kt_11_15 (mm_ke e30 k_a0) rfl (fun b31 k32 => ?_)
  refine ok_iload_n (q := 100) dX12_writeRecord_99 rfl rfl ?_
  refine ok_iconst (q := 101) (v := 4) dX12_writeRecord_100 ci_4 rfl ?_
  refine ok_iadd (q := 102) dX12_writeRecord_101 rfl ?_
  refine ok_iload (q := 104) dX12_writeRecord_102 rfl rfl ?_
  refine ok_i2b (q := 105) dX12_writeRecord_104 rfl ?_
  refine mm_ck (fun c33 => ?_)
  refine ok_bast (q := 106) dX12_writeRecord_105 (mm_ke e30 (mm_ke e30.symm k32)) c33.1 c33.2 rfl (bh_ok (fun h34 e35 => ?_))
  have e35 : h34.1 = h.1 := e35.trans e30
  refine ok_aload_n (q := 107) dX12_writeRecord_106 rfl rfl ?_
  refine ok_getR cl_11 (q := 110) (k := 57) dX12_writeRecord_107 (Nat.le_of_ble_eq_true rfl) wd_1089 (fun _ _ _ => rfl) kt_11_57 (mm_ke e35 k_a0) rfl (fun b36 k37 => ?_)
  refine ok_iconst (q := 111) (v := 0) dX12_writeRecord_110 ci_0 rfl ?_
  refine ok_aload_n (q := 112) dX12_writeRecord_111 rfl rfl ?_
  refine ok_getR cl_11 (q := 115) (k := 15) dX12_writeRecord_112 (Nat.le_of_ble_eq_true rfl) wd_1047 (fun _ _ _ => rfl) kt_11_15 (mm_ke e35 k_a0) rfl (fun b38 k39 => ?_)
  refine ok_iload_n (q := 116) dX12_writeRecord_115 rfl rfl ?_
  refine ok_iconst (q := 117) (v := 5) dX12_writeRecord_116 ci_5 rfl ?_
  refine ok_iadd (q := 118) dX12_writeRecord_117 rfl ?_
  refine ok_aload_n (q := 119) dX12_writeRecord_118 rfl rfl ?_
  refine ok_getI cl_11 (q := 122) (k := 58) dX12_writeRecord_119 (Nat.le_of_ble_eq_true rfl) wd_1090 (fun _ _ _ => rfl) (mm_ke e35 k_a0) rfl ?_
  refine mm_cv (q := 125) (mt_X12_move G b36 0 b38 (x3 + (5 : Int32)) (mm_i h34 a0 58) h34 (mm_ke e35 (mm_ke e35.symm k37)) (mm_ke e35 (mm_ke e35.symm k39))) (mm_runS (as := [.ref b36, .int 0, .ref b38, .int (x3 + (5 : Int32)), .int (mm_i h34 a0 58)]) (st := []) lk_X12_writeRecord_X12_move_279 dX12_writeRecord_122 rfl (Nat.le_of_ble_eq_true rfl)) rfl (fun h40 p41 => ?_)
  have k42 : mm_kd h40 a0 = 11 := mm_kd_app p41 (mm_ke e35 k_a0) (by decide)
  refine ok_aload_n (q := 126) dX12_writeRecord_125 rfl rfl ?_
  refine ok_getR cl_11 (q := 129) (k := 26) dX12_writeRecord_126 (Nat.le_of_ble_eq_true rfl) wd_1058 (fun _ _ _ => rfl) kt_11_26 k42 rfl (fun b43 k44 => ?_)
  refine ok_iload_n (q := 130) dX12_writeRecord_129 rfl rfl ?_
  refine mm_ck (fun c45 => ?_)
  refine ok_zald (q := 131) dX12_writeRecord_130 k44 c45 rfl ?_
  refine ok_if_eq (q := 134) (t := 232) dX12_writeRecord_131 rfl rfl ?_ ?_
  · refine mm_wk [true, true, false, false, true] (ls' := [.ref a0, .int x1, mm_U, mm_U, .int x4]) rfl ?_
    exact oj_X12_writeRecord_232 a0 x1 x4 h40 k42
  · refine ok_aload_n (q := 135) dX12_writeRecord_134 rfl rfl ?_
    refine ok_getR cl_11 (q := 138) (k := 15) dX12_writeRecord_135 (Nat.le_of_ble_eq_true rfl) wd_1047 (fun _ _ _ => rfl) kt_11_15 k42 rfl (fun b60 k61 => ?_)
    refine ok_iload_n (q := 139) dX12_writeRecord_138 rfl rfl ?_
    refine ok_iconst (q := 140) (v := 5) dX12_writeRecord_139 ci_5 rfl ?_
    refine ok_iadd (q := 141) dX12_writeRecord_140 rfl ?_
    refine ok_aload_n (q := 142) dX12_writeRecord_141 rfl rfl ?_
    refine ok_getI cl_11 (q := 145) (k := 58) dX12_writeRecord_142 (Nat.le_of_ble_eq_true rfl) wd_1090 (fun _ _ _ => rfl) k42 rfl ?_
    refine ok_iadd (q := 146) dX12_writeRecord_145 rfl ?_
    refine ok_iload_n (q := 147) dX12_writeRecord_146 rfl rfl ?_
    refine ok_i2b (q := 148) dX12_writeRecord_147 rfl ?_
    refine mm_ck (fun c62 => ?_)
    refine ok_bast (q := 149) dX12_writeRecord_148 k61 c62.1 c62.2 rfl (bh_ok (fun h63 e64 => ?_))
    have e64 : h63.1 = h40.1 := e64
    refine ok_aload_n (q := 150) dX12_writeRecord_149 rfl rfl ?_
    refine ok_aload_n (q := 151) dX12_writeRecord_150 rfl rfl ?_
    refine ok_getR cl_11 (q := 154) (k := 22) dX12_writeRecord_151 (Nat.le_of_ble_eq_true rfl) wd_1054 (fun _ _ _ => rfl) kt_11_22 (mm_ke e64 k42) rfl (fun b65 k66 => ?_)
    refine ok_iload_n (q := 155) dX12_writeRecord_154 rfl rfl ?_
    refine ok_aload_n (q := 156) dX12_writeRecord_155 rfl rfl ?_
    refine ok_getR cl_11 (q := 159) (k := 28) dX12_writeRecord_156 (Nat.le_of_ble_eq_true rfl) wd_1060 (fun _ _ _ => rfl) kt_11_28 (mm_ke e64 k42) rfl (fun b67 k68 => ?_)
    refine ok_iload_n (q := 160) dX12_writeRecord_159 rfl rfl ?_
    refine mm_ck (fun c69 => ?_)
    refine ok_iald (q := 161) dX12_writeRecord_160 (mm_ke e64 (mm_ke e64.symm k68)) c69 rfl ?_
    refine mm_cv (q := 164) (mt_X12_keysOf G a0 b65 x1 (mm_i h63 b67 (mm_n x1)) h63 (mm_ke e64 k42) (mm_ke e64 (mm_ke e64.symm k66))) (mm_runV (as := [.ref b65, .int x1, .int (mm_i h63 b67 (mm_n x1))]) (st := []) cl_11 lk_X12_writeRecord_X12_keysOf_380 rfl dX12_writeRecord_161 rfl (Nat.le_of_ble_eq_true rfl) (mm_ke e64 k42)) rfl (fun h70 p71 => ?_)
    have k72 : mm_kd h70 a0 = 11 := mm_kd_app p71 (mm_ke e64 k42) (by decide)
    refine ok_aload_n (q := 165) dX12_writeRecord_164 rfl rfl ?_
    refine ok_aload_n (q := 166) dX12_writeRecord_165 rfl rfl ?_
    refine ok_getR cl_11 (q := 169) (k := 15) dX12_writeRecord_166 (Nat.le_of_ble_eq_true rfl) wd_1047 (fun _ _ _ => rfl) kt_11_15 k72 rfl (fun b73 k74 => ?_)
    refine ok_iload_n (q := 170) dX12_writeRecord_169 rfl rfl ?_
    refine ok_iconst (q := 171) (v := 5) dX12_writeRecord_170 ci_5 rfl ?_
    refine ok_iadd (q := 172) dX12_writeRecord_171 rfl ?_
    refine ok_aload_n (q := 173) dX12_writeRecord_172 rfl rfl ?_
    refine ok_getI cl_11 (q := 176) (k := 58) dX12_writeRecord_173 (Nat.le_of_ble_eq_true rfl) wd_1090 (fun _ _ _ => rfl) k72 rfl ?_
    refine ok_iconst (q := 177) (v := 1) dX12_writeRecord_176 ci_1 rfl ?_
    refine ok_iadd (q := 178) dX12_writeRecord_177 rfl ?_
    refine mm_cv (q := 181) (mt_X12_cover G a0 b73 (x3 + (5 : Int32)) ((mm_i h70 a0 58) + (1 : Int32)) h70 k72 k74) (mm_runV (as := [.ref b73, .int (x3 + (5 : Int32)), .int ((mm_i h70 a0 58) + (1 : Int32))]) (st := []) cl_11 lk_X12_writeRecord_X12_cover_383 rfl dX12_writeRecord_178 rfl (Nat.le_of_ble_eq_true rfl) k72) rfl (fun h75 p76 => ?_)
    have k77 : mm_kd h75 a0 = 11 := mm_kd_app p76 k72 (by decide)
    refine ok_aload_n (q := 182) dX12_writeRecord_181 rfl rfl ?_
    refine ok_aload_n (q := 183) dX12_writeRecord_182 rfl rfl ?_
    refine ok_getR cl_11 (q := 186) (k := 15) dX12_writeRecord_183 (Nat.le_of_ble_eq_true rfl) wd_1047 (fun _ _ _ => rfl) kt_11_15 k77 rfl (fun b78 k79 => ?_)
    refine ok_iload_n (q := 187) dX12_writeRecord_186 rfl rfl ?_
    refine ok_iload_n (q := 188) dX12_writeRecord_187 rfl rfl ?_
    refine ok_iconst (q := 189) (v := 5) dX12_writeRecord_188 ci_5 rfl ?_
    refine ok_iadd (q := 190) dX12_writeRecord_189 rfl ?_
    refine ok_aload_n (q := 191) dX12_writeRecord_190 rfl rfl ?_
    refine ok_getI cl_11 (q := 194) (k := 58) dX12_writeRecord_191 (Nat.le_of_ble_eq_true rfl) wd_1090 (fun _ _ _ => rfl) k77 rfl ?_
    refine ok_iconst (q := 195) (v := 1) dX12_writeRecord_194 ci_1 rfl ?_
    refine ok_iadd (q := 196) dX12_writeRecord_195 rfl ?_
    refine mm_cv (q := 199) (mt_X12_sealOf G a0 b78 x3 (x3 + (5 : Int32)) ((mm_i h75 a0 58) + (1 : Int32)) h75 k77 k79) (mm_runV (as := [.ref b78, .int x3, .int (x3 + (5 : Int32)), .int ((mm_i h75 a0 58) + (1 : Int32))]) (st := []) cl_11 lk_X12_writeRecord_X12_sealOf_386 rfl dX12_writeRecord_196 rfl (Nat.le_of_ble_eq_true rfl) k77) rfl (fun h80 p81 => ?_)
    have k82 : mm_kd h80 a0 = 11 := mm_kd_app p81 k77 (by decide)
    refine ok_aload_n (q := 200) dX12_writeRecord_199 rfl rfl ?_
    refine ok_getR cl_11 (q := 203) (k := 55) dX12_writeRecord_200 (Nat.le_of_ble_eq_true rfl) wd_1087 (fun _ _ _ => rfl) kt_11_55 k82 rfl (fun b83 k84 => ?_)
    refine ok_iconst (q := 204) (v := 0) dX12_writeRecord_203 ci_0 rfl ?_
    refine ok_aload_n (q := 205) dX12_writeRecord_204 rfl rfl ?_
    refine ok_getR cl_11 (q := 208) (k := 15) dX12_writeRecord_205 (Nat.le_of_ble_eq_true rfl) wd_1047 (fun _ _ _ => rfl) kt_11_15 k82 rfl (fun b85 k86 => ?_)
    refine ok_iload_n (q := 209) dX12_writeRecord_208 rfl rfl ?_
    refine ok_bipush (q := 211) (v := 6) dX12_writeRecord_209 cb_6 rfl ?_
    refine ok_iadd (q := 212) dX12_writeRecord_211 rfl ?_
    refine ok_aload_n (q := 213) dX12_writeRecord_212 rfl rfl ?_
    refine ok_getI cl_11 (q := 216) (k := 58) dX12_writeRecord_213 (Nat.le_of_ble_eq_true rfl) wd_1090 (fun _ _ _ => rfl) k82 rfl ?_
    refine ok_iadd (q := 217) dX12_writeRecord_216 rfl ?_
    refine ok_bipush (q := 219) (v := 16) dX12_writeRecord_217 cb_16 rfl ?_
    refine mm_cv (q := 222) (mt_X12_move G b83 0 b85 ((x3 + (6 : Int32)) + (mm_i h80 a0 58)) 16 h80 k84 k86) (mm_runS (as := [.ref b83, .int 0, .ref b85, .int ((x3 + (6 : Int32)) + (mm_i h80 a0 58)), .int 16]) (st := []) lk_X12_writeRecord_X12_move_279 dX12_writeRecord_219 rfl (Nat.le_of_ble_eq_true rfl)) rfl (fun h87 p88 => ?_)
    have k89 : mm_kd h87 a0 = 11 := mm_kd_app p88 k82 (by decide)
    refine ok_aload_n (q := 223) dX12_writeRecord_222 rfl rfl ?_
    refine ok_getR cl_11 (q := 226) (k := 28) dX12_writeRecord_223 (Nat.le_of_ble_eq_true rfl) wd_1060 (fun _ _ _ => rfl) kt_11_28 k89 rfl (fun b90 k91 => ?_)
    refine ok_iload_n (q := 227) dX12_writeRecord_226 rfl rfl ?_
    refine ok_dup2 (q := 228) dX12_writeRecord_227 rfl rfl rfl ?_
    refine mm_ck (fun c92 => ?_)
    refine ok_iald (q := 229) dX12_writeRecord_228 k91 c92 rfl ?_
    refine ok_iconst (q := 230) (v := 1) dX12_writeRecord_229 ci_1 rfl ?_
    refine ok_iadd (q := 231) dX12_writeRecord_230 rfl ?_
    refine mm_ck (fun c93 => ?_)
    refine ok_iast (q := 232) dX12_writeRecord_231 k91 c93.1 c93.2 rfl (bh_ok (fun h94 e95 => ?_))
    have e95 : h94.1 = h87.1 := e95
    refine mm_wk [true, true, false, false, true] (ls' := [.ref a0, .int x1, mm_U, mm_U, .int x4]) rfl ?_
    exact oj_X12_writeRecord_232 a0 x1 x4 h94 (mm_ke e95 k89)
def jn_X12_writeRecord_39 (a0 : Nat) (x1 : Int32) (x2 : Int32) (x3 : Int32) (s0 : Int32) (h : mm_H) : mm_O := mm_gr h a0 15 (fun b8 =>
  mm_gr h a0 26 (fun b10 =>
  if mm_in x1 (mm_ln h b10) = true then (if (mm_i h b10 (mm_n x1)) = 0 then
  (jn_X12_writeRecord_61 a0 x1 x2 x3 s0 x2 x3 b8 h)
  else
  (jn_X12_writeRecord_61 a0 x1 x2 x3 s0 23 x3 b8 h)) else none))
set_option maxHeartbeats 4000000 in
set_option maxRecDepth 100000 in
theorem oj_X12_writeRecord_39 {G : mm_G}   (a0 : Nat) (x1 : Int32) (x2 : Int32) (x3 : Int32) (s0 : Int32) (h : mm_H) (k_a0 : mm_kd h a0 = 11) : mm_Ok G my_X12_writeRecord 39 [.ref a0, .int x1, .int x2, .int x3, mm_U] [.int s0] h (jn_X12_writeRecord_39 a0 x1 x2 x3 s0 h) := by
  unfold jn_X12_writeRecord_39
  refine ok_istore (q := 41) (ls' := [.ref a0, .int x1, .int x2, .int x3, .int s0]) dX12_writeRecord_39 (Nat.le_of_ble_eq_true rfl) rfl rfl ?_
  refine ok_aload_n (q := 42) dX12_writeRecord_41 rfl rfl ?_
  refine ok_getR cl_11 (q := 45) (k := 15) dX12_writeRecord_42 (Nat.le_of_ble_eq_true rfl) wd_1047 (fun _ _ _ => rfl) kt_11_15 k_a0 rfl (fun b8 k9 => ?_)
  refine ok_iload_n (q := 46) dX12_writeRecord_45 rfl rfl ?_
  refine ok_aload_n (q := 47) dX12_writeRecord_46 rfl rfl ?_
  refine ok_getR cl_11 (q := 50) (k := 26) dX12_writeRecord_47 (Nat.le_of_ble_eq_true rfl) wd_1058 (fun _ _ _ => rfl) kt_11_26 k_a0 rfl (fun b10 k11 => ?_)
  refine ok_iload_n (q := 51) dX12_writeRecord_50 rfl rfl ?_
  refine mm_ck (fun c12 => ?_)
  refine ok_zald (q := 52) dX12_writeRecord_51 k11 c12 rfl ?_
  refine ok_if_eq (q := 55) (t := 60) dX12_writeRecord_52 rfl rfl ?_ ?_
  · refine ok_iload_n (q := 61) dX12_writeRecord_60 rfl rfl ?_
    exact oj_X12_writeRecord_61 a0 x1 x2 x3 s0 x2 x3 b8 h k_a0 k9
  · refine ok_bipush (q := 57) (v := 23) dX12_writeRecord_55 cb_23 rfl ?_
    refine ok_goto (q := 61) dX12_writeRecord_57 rfl ?_
    exact oj_X12_writeRecord_61 a0 x1 x2 x3 s0 23 x3 b8 h k_a0 k9
def bd_X12_writeRecord (a0 : Nat) (x1 : Int32) (x2 : Int32) (h : mm_H) : mm_O := mm_gr h a0 17 (fun b1 =>
  if mm_in x1 (mm_ln h b1) = true then (mm_bi ((640 : Int32) * (((33 : Int32) * x1) + (mm_i h b1 (mm_n x1)))) (fun v4 =>
  mm_gr h a0 26 (fun b5 =>
  if mm_in x1 (mm_ln h b5) = true then (if (mm_i h b5 (mm_n x1)) = 0 then
  (jn_X12_writeRecord_39 a0 x1 x2 v4 (mm_i h a0 58) h)
  else
  (jn_X12_writeRecord_39 a0 x1 x2 v4 ((mm_i h a0 58) + (17 : Int32)) h)) else none))) else none)
set_option maxHeartbeats 4000000 in
set_option maxRecDepth 100000 in
theorem mt_X12_writeRecord (G : mm_G) (a0 : Nat) (x1 : Int32) (x2 : Int32) (h : mm_H) (k_a0 : mm_kd h a0 = 11) : mm_Met G my_X12_writeRecord [.ref a0, .int x1, .int x2] h (bd_X12_writeRecord a0 x1 x2 h) := by
  refine mm_met (ls := [.ref a0, .int x1, .int x2, mm_U, mm_U]) pn_RX12 (Nat.le_of_ble_eq_true rfl) rfl ?_
  unfold bd_X12_writeRecord
  refine ok_sipush (q := 3) (v := 640) dX12_writeRecord_0 cs_640 rfl ?_
  refine ok_bipush (q := 5) (v := 33) dX12_writeRecord_3 cb_33 rfl ?_
  refine ok_iload_n (q := 6) dX12_writeRecord_5 rfl rfl ?_
  refine ok_imul (q := 7) dX12_writeRecord_6 rfl ?_
  refine ok_aload_n (q := 8) dX12_writeRecord_7 rfl rfl ?_
  refine ok_getR cl_11 (q := 11) (k := 17) dX12_writeRecord_8 (Nat.le_of_ble_eq_true rfl) wd_1049 (fun _ _ _ => rfl) kt_11_17 k_a0 rfl (fun b1 k2 => ?_)
  refine ok_iload_n (q := 12) dX12_writeRecord_11 rfl rfl ?_
  refine mm_ck (fun c3 => ?_)
  refine ok_iald (q := 13) dX12_writeRecord_12 k2 c3 rfl ?_
  refine ok_iadd (q := 14) dX12_writeRecord_13 rfl ?_
  refine ok_imul (q := 15) dX12_writeRecord_14 rfl ?_
  refine bi_ok (fun v4 => ?_)
  refine ok_istore_n (q := 16) (ls' := [.ref a0, .int x1, .int x2, .int v4, mm_U]) dX12_writeRecord_15 (Nat.le_of_ble_eq_true rfl) rfl rfl ?_
  refine ok_aload_n (q := 17) dX12_writeRecord_16 rfl rfl ?_
  refine ok_getR cl_11 (q := 20) (k := 26) dX12_writeRecord_17 (Nat.le_of_ble_eq_true rfl) wd_1058 (fun _ _ _ => rfl) kt_11_26 k_a0 rfl (fun b5 k6 => ?_)
  refine ok_iload_n (q := 21) dX12_writeRecord_20 rfl rfl ?_
  refine mm_ck (fun c7 => ?_)
  refine ok_zald (q := 22) dX12_writeRecord_21 k6 c7 rfl ?_
  refine ok_if_eq (q := 25) (t := 35) dX12_writeRecord_22 rfl rfl ?_ ?_
  · refine ok_aload_n (q := 36) dX12_writeRecord_35 rfl rfl ?_
    refine ok_getI cl_11 (q := 39) (k := 58) dX12_writeRecord_36 (Nat.le_of_ble_eq_true rfl) wd_1090 (fun _ _ _ => rfl) k_a0 rfl ?_
    exact oj_X12_writeRecord_39 a0 x1 x2 v4 (mm_i h a0 58) h k_a0
  · refine ok_aload_n (q := 26) dX12_writeRecord_25 rfl rfl ?_
    refine ok_getI cl_11 (q := 29) (k := 58) dX12_writeRecord_26 (Nat.le_of_ble_eq_true rfl) wd_1090 (fun _ _ _ => rfl) k_a0 rfl ?_
    refine ok_bipush (q := 31) (v := 17) dX12_writeRecord_29 cb_17 rfl ?_
    refine ok_iadd (q := 32) dX12_writeRecord_31 rfl ?_
    refine ok_goto (q := 39) dX12_writeRecord_32 rfl ?_
    exact oj_X12_writeRecord_39 a0 x1 x2 v4 ((mm_i h a0 58) + (17 : Int32)) h k_a0
def bd_X12_beginMessage (a0 : Nat) (x1 : Int32) (h : mm_H) : mm_O := mm_bh (mm_si h a0 58 0) (fun h1 =>
  mm_qv (bd_X12_sayByte a0 x1 h1) (fun h3 =>
  mm_qv (bd_X12_sayByte a0 0 h3) (fun h6 =>
  mm_qv (bd_X12_sayTwo a0 0 h6) (fun h9 =>
  some (none, h9)))))
set_option maxHeartbeats 4000000 in
set_option maxRecDepth 100000 in
theorem mt_X12_beginMessage (G : mm_G) (a0 : Nat) (x1 : Int32) (h : mm_H) (k_a0 : mm_kd h a0 = 11) : mm_Met G my_X12_beginMessage [.ref a0, .int x1] h (bd_X12_beginMessage a0 x1 h) := by
  refine mm_met (ls := [.ref a0, .int x1]) pn_RX12 (Nat.le_of_ble_eq_true rfl) rfl ?_
  unfold bd_X12_beginMessage
  refine ok_aload_n (q := 1) dX12_beginMessage_0 rfl rfl ?_
  refine ok_iconst (q := 2) (v := 0) dX12_beginMessage_1 ci_0 rfl ?_
  refine ok_putI cl_11 (q := 5) (k := 58) dX12_beginMessage_2 (Nat.le_of_ble_eq_true rfl) wd_1090 (Or.inl rfl) (fun _ _ _ => rfl) rfl rfl k_a0 rfl (bh_ok (fun h1 e2 => ?_))
  have e2 : h1.1 = h.1 := e2
  refine ok_aload_n (q := 6) dX12_beginMessage_5 rfl rfl ?_
  refine ok_iload_n (q := 7) dX12_beginMessage_6 rfl rfl ?_
  refine mm_cv (q := 10) (mt_X12_sayByte G a0 x1 h1 (mm_ke e2 k_a0)) (mm_runV (as := [.int x1]) (st := []) cl_11 lk_X12_beginMessage_X12_sayByte_377 rfl dX12_beginMessage_7 rfl (Nat.le_of_ble_eq_true rfl) (mm_ke e2 k_a0)) rfl (fun h3 p4 => ?_)
  have k5 : mm_kd h3 a0 = 11 := mm_kd_app p4 (mm_ke e2 k_a0) (by decide)
  refine ok_aload_n (q := 11) dX12_beginMessage_10 rfl rfl ?_
  refine ok_iconst (q := 12) (v := 0) dX12_beginMessage_11 ci_0 rfl ?_
  refine mm_cv (q := 15) (mt_X12_sayByte G a0 0 h3 k5) (mm_runV (as := [.int 0]) (st := []) cl_11 lk_X12_beginMessage_X12_sayByte_377 rfl dX12_beginMessage_12 rfl (Nat.le_of_ble_eq_true rfl) k5) rfl (fun h6 p7 => ?_)
  have k8 : mm_kd h6 a0 = 11 := mm_kd_app p7 k5 (by decide)
  refine ok_aload_n (q := 16) dX12_beginMessage_15 rfl rfl ?_
  refine ok_iconst (q := 17) (v := 0) dX12_beginMessage_16 ci_0 rfl ?_
  refine mm_cv (q := 20) (mt_X12_sayTwo G a0 0 h6 k8) (mm_runV (as := [.int 0]) (st := []) cl_11 lk_X12_beginMessage_X12_sayTwo_390 rfl dX12_beginMessage_17 rfl (Nat.le_of_ble_eq_true rfl) k8) rfl (fun h9 p10 => ?_)
  have k11 : mm_kd h9 a0 = 11 := mm_kd_app p10 k8 (by decide)
  exact ok_ret dX12_beginMessage_20 rfl
