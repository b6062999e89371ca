def bd_X6_init (a0 : Nat) (x1 : Int32) (h : mm_H) : mm_O := if ¬ (if x1 < (0 : Int32) then (0 : Int32) else x1) < 0 ∧ mm_n (if x1 < (0 : Int32) then (0 : Int32) else x1) ≤ 100000 then (mm_nw h 20 (mm_n (if x1 < (0 : Int32) then (0 : Int32) else x1)) (fun b2 h3 =>
  mm_bh (mm_sr h3 a0 0 (some b2)) (fun h7 =>
  mm_bh (mm_si h7 a0 1 0) (fun h9 =>
  some (none, h9))))) else none
set_option maxHeartbeats 4000000 in
set_option maxRecDepth 100000 in
theorem mt_X6_init (G : mm_G) (a0 : Nat) (x1 : Int32) (h : mm_H) (k_a0 : mm_kd h a0 = 5) : mm_Met G my_X6_init [.ref a0, .int x1] h (bd_X6_init a0 x1 h) := by
  refine mm_met (ls := [.ref a0, .int x1]) pn_RX6 (Nat.le_of_ble_eq_true rfl) rfl ?_
  unfold bd_X6_init
  refine ok_aload_n (q := 1) dX6_init_0 rfl rfl ?_
  refine ok_objInit (q := 4) dX6_init_1 wd_112 wd_105 wd_106 ⟨Nat.le_of_ble_eq_true rfl, Nat.le_of_ble_eq_true rfl⟩ rfl ?_
  refine ok_aload_n (q := 5) dX6_init_4 rfl rfl ?_
  refine ok_iload_n (q := 6) dX6_init_5 rfl rfl ?_
  refine ok_iconst (q := 7) (v := 0) dX6_init_6 ci_0 rfl ?_
  refine ok_max (q := 10) dX6_init_7 wd_113 wd_114 wd_83 wd_115 ⟨Nat.le_of_ble_eq_true rfl, Nat.le_of_ble_eq_true rfl⟩ rfl ?_
  refine mm_ck (fun c1 => ?_)
  refine ok_new_i (q := 12) dX6_init_10 wd_135 c1.1 c1.2 rfl (fun hk => nw_ok hk (fun b2 h3 p4 k5 => ?_))
  have k6 : mm_kd h3 a0 = 5 := mm_kd_app p4 k_a0 (by decide)
  refine ok_putR cl_5 (q := 15) (k := 0) dX6_init_12 (Nat.le_of_ble_eq_true rfl) wd_116 (Or.inr ⟨rfl, rfl, rfl⟩) (fun _ _ _ => rfl) (fun _ => rfl) (fun _ => rfl) kt_5_0 (by decide) k6 k5 rfl (bh_ok (fun h7 e8 => ?_))
  have e8 : h7.1 = h3.1 := e8
  refine ok_aload_n (q := 16) dX6_init_15 rfl rfl ?_
  refine ok_iconst (q := 17) (v := 0) dX6_init_16 ci_0 rfl ?_
  refine ok_putI cl_5 (q := 20) (k := 1) dX6_init_17 (Nat.le_of_ble_eq_true rfl) wd_122 (Or.inl rfl) (fun _ _ _ => rfl) rfl rfl (mm_ke e8 k6) rfl (bh_ok (fun h9 e10 => ?_))
  have e10 : h9.1 = h3.1 := e10.trans e8
  exact ok_ret dX6_init_20 rfl
def bd_X2_init (a0 : Nat) (h : mm_H) : mm_O := mm_nw h 5 2 (fun b1 h2 =>
  mm_qv (bd_X6_init b1 32 h2) (fun h6 =>
  mm_bh (mm_sr h6 a0 0 (some b1)) (fun h10 =>
  mm_nw h10 5 2 (fun b12 h13 =>
  mm_qv (bd_X6_init b12 32 h13) (fun h17 =>
  mm_bh (mm_sr h17 a0 1 (some b12)) (fun h21 =>
  mm_nw h21 5 2 (fun b23 h24 =>
  mm_qv (bd_X6_init b23 12 h24) (fun h28 =>
  mm_bh (mm_sr h28 a0 2 (some b23)) (fun h32 =>
  mm_bh (mm_si h32 a0 3 0) (fun h34 =>
  mm_bh (mm_si h34 a0 4 0) (fun h36 =>
  some (none, h36))))))))))))
set_option maxHeartbeats 4000000 in
set_option maxRecDepth 100000 in
theorem mt_X2_init (G : mm_G) (a0 : Nat) (h : mm_H) (k_a0 : mm_kd h a0 = 2) : mm_Met G my_X2_init [.ref a0] h (bd_X2_init a0 h) := by
  refine mm_met (ls := [.ref a0]) pn_RX2 (Nat.le_of_ble_eq_true rfl) rfl ?_
  unfold bd_X2_init
  refine ok_aload_n (q := 1) dX2_init_0 rfl rfl ?_
  refine ok_objInit (q := 4) dX2_init_1 wd_319 wd_105 wd_106 ⟨Nat.le_of_ble_eq_true rfl, Nat.le_of_ble_eq_true rfl⟩ rfl ?_
  refine ok_aload_n (q := 5) dX2_init_4 rfl rfl ?_
  refine ok_new cl_5 (q := 8) dX2_init_5 wd_320 wd_108 wd_82 tf_5 rfl (fun hk => nw_ok hk (fun b1 h2 p3 k4 => ?_))
  have k5 : mm_kd h2 a0 = 2 := mm_kd_app p3 k_a0 (by decide)
  refine ok_dup (q := 9) dX2_init_8 rfl rfl ?_
  refine ok_bipush (q := 11) (v := 32) dX2_init_9 cb_32 rfl ?_
  refine mm_cv (q := 14) (mt_X6_init G b1 32 h2 k4) (mm_runI (as := [.int 32]) (st := [.ref b1, .ref a0]) (a := b1) lk_X2_init_X6_init_11 dX2_init_11 rfl (Nat.le_of_ble_eq_true rfl)) rfl (fun h6 p7 => ?_)
  have k8 : mm_kd h6 a0 = 2 := mm_kd_app p7 k5 (by decide)
  have k9 : mm_kd h6 b1 = 5 := mm_kd_app p7 k4 (by decide)
  refine ok_putR cl_2 (q := 17) (k := 0) dX2_init_14 (Nat.le_of_ble_eq_true rfl) wd_322 (Or.inr ⟨rfl, rfl, rfl⟩) (fun _ _ _ => rfl) (fun _ => rfl) (fun _ => rfl) kt_2_0 (by decide) k8 k9 rfl (bh_ok (fun h10 e11 => ?_))
  have e11 : h10.1 = h6.1 := e11
  refine ok_aload_n (q := 18) dX2_init_17 rfl rfl ?_
  refine ok_new cl_5 (q := 21) dX2_init_18 wd_320 wd_108 wd_82 tf_5 rfl (fun hk => nw_ok hk (fun b12 h13 p14 k15 => ?_))
  have k16 : mm_kd h13 a0 = 2 := mm_kd_app p14 (mm_ke e11 k8) (by decide)
  refine ok_dup (q := 22) dX2_init_21 rfl rfl ?_
  refine ok_bipush (q := 24) (v := 32) dX2_init_22 cb_32 rfl ?_
  refine mm_cv (q := 27) (mt_X6_init G b12 32 h13 k15) (mm_runI (as := [.int 32]) (st := [.ref b12, .ref a0]) (a := b12) lk_X2_init_X6_init_11 dX2_init_24 rfl (Nat.le_of_ble_eq_true rfl)) rfl (fun h17 p18 => ?_)
  have k19 : mm_kd h17 a0 = 2 := mm_kd_app p18 k16 (by decide)
  have k20 : mm_kd h17 b12 = 5 := mm_kd_app p18 k15 (by decide)
  refine ok_putR cl_2 (q := 30) (k := 1) dX2_init_27 (Nat.le_of_ble_eq_true rfl) wd_325 (Or.inr ⟨rfl, rfl, rfl⟩) (fun _ _ _ => rfl) (fun _ => rfl) (fun _ => rfl) kt_2_1 (by decide) k19 k20 rfl (bh_ok (fun h21 e22 => ?_))
  have e22 : h21.1 = h17.1 := e22
  refine ok_aload_n (q := 31) dX2_init_30 rfl rfl ?_
  refine ok_new cl_5 (q := 34) dX2_init_31 wd_320 wd_108 wd_82 tf_5 rfl (fun hk => nw_ok hk (fun b23 h24 p25 k26 => ?_))
  have k27 : mm_kd h24 a0 = 2 := mm_kd_app p25 (mm_ke e22 k19) (by decide)
  refine ok_dup (q := 35) dX2_init_34 rfl rfl ?_
  refine ok_bipush (q := 37) (v := 12) dX2_init_35 cb_12 rfl ?_
  refine mm_cv (q := 40) (mt_X6_init G b23 12 h24 k26) (mm_runI (as := [.int 12]) (st := [.ref b23, .ref a0]) (a := b23) lk_X2_init_X6_init_11 dX2_init_37 rfl (Nat.le_of_ble_eq_true rfl)) rfl (fun h28 p29 => ?_)
  have k30 : mm_kd h28 a0 = 2 := mm_kd_app p29 k27 (by decide)
  have k31 : mm_kd h28 b23 = 5 := mm_kd_app p29 k26 (by decide)
  refine ok_putR cl_2 (q := 43) (k := 2) dX2_init_40 (Nat.le_of_ble_eq_true rfl) wd_327 (Or.inr ⟨rfl, rfl, rfl⟩) (fun _ _ _ => rfl) (fun _ => rfl) (fun _ => rfl) kt_2_2 (by decide) k30 k31 rfl (bh_ok (fun h32 e33 => ?_))
  have e33 : h32.1 = h28.1 := e33
  refine ok_aload_n (q := 44) dX2_init_43 rfl rfl ?_
  refine ok_iconst (q := 45) (v := 0) dX2_init_44 ci_0 rfl ?_
  refine ok_putI cl_2 (q := 48) (k := 3) dX2_init_45 (Nat.le_of_ble_eq_true rfl) wd_329 (Or.inl rfl) (fun _ _ _ => rfl) rfl rfl (mm_ke e33 k30) rfl (bh_ok (fun h34 e35 => ?_))
  have e35 : h34.1 = h28.1 := e35.trans e33
  refine ok_aload_n (q := 49) dX2_init_48 rfl rfl ?_
  refine ok_iconst (q := 50) (v := 0) dX2_init_49 ci_0 rfl ?_
  refine ok_putI cl_2 (q := 53) (k := 4) dX2_init_50 (Nat.le_of_ble_eq_true rfl) wd_332 (Or.inl rfl) (fun _ _ _ => rfl) (by decide) (by decide) (mm_ke e35 k30) rfl (bh_ok (fun h36 e37 => ?_))
  have e37 : h36.1 = h28.1 := e37.trans e35
  exact ok_ret dX2_init_53 rfl
def lp_X4_init_15 (ke_43 : Nat → mm_H → mm_O) : Nat → Nat → Int32 → mm_H → mm_O
  | 0, _, _, _ => none
  | n + 1, a0, x1, h => if (32 : Int32) ≤ x1 then
  (ke_43 a0 h)
  else
  (mm_gr h a0 0 (fun b8 =>
  mm_nw h 5 2 (fun b10 h11 =>
  mm_qv (bd_X6_init b10 422 h11) (fun h16 =>
  if mm_in x1 (mm_ln h16 b8) = true then (mm_bh (mm_sr h16 b8 (mm_n x1) (some b10)) (fun h22 =>
  lp_X4_init_15 ke_43 n a0 (x1 + 1) h22)) else none))))
set_option maxHeartbeats 4000000 in
set_option maxRecDepth 100000 in
theorem ol_X4_init_15 {G : mm_G} {ke_43 : Nat → mm_H → mm_O} (hke_43 : ∀ (a0 : Nat) (h : mm_H), mm_kd h a0 = 3 → mm_Ok G my_X4_init 43 [.ref a0, mm_U] [] h (ke_43 a0 h)) : ∀ (n : Nat) (a0 : Nat) (x1 : Int32) (h : mm_H), mm_kd h a0 = 3 → mm_Ok G my_X4_init 15 [.ref a0, .int x1] [] h (lp_X4_init_15 ke_43 n a0 x1 h) := by
  intro n
  induction n with
  | zero => intro a0 x1 h k_a0; exact mm_no
  | succ n ih =>
    intro a0 x1 h k_a0
    rw [lp_X4_init_15]
    refine ok_iload_n (q := 16) dX4_init_15 rfl rfl ?_
    refine ok_bipush (q := 18) (v := 32) dX4_init_16 cb_32 rfl ?_
    refine ok_icmp_ge (q := 21) (t := 43) dX4_init_18 rfl rfl ?_ ?_
    · refine mm_wk [true, false] (ls' := [.ref a0, mm_U]) rfl ?_
      exact hke_43 a0 h k_a0
    · refine ok_aload_n (q := 22) dX4_init_21 rfl rfl ?_
      refine ok_getR cl_3 (q := 25) (k := 0) dX4_init_22 (Nat.le_of_ble_eq_true rfl) wd_303 (fun _ _ _ => rfl) kt_3_0 k_a0 rfl (fun b8 k9 => ?_)
      refine ok_iload_n (q := 26) dX4_init_25 rfl rfl ?_
      refine ok_new cl_5 (q := 29) dX4_init_26 wd_300 wd_108 wd_82 tf_5 rfl (fun hk => nw_ok hk (fun b10 h11 p12 k13 => ?_))
      have k14 : mm_kd h11 a0 = 3 := mm_kd_app p12 k_a0 (by decide)
      have k15 : mm_kd h11 b8 = 24 := mm_kd_app p12 k9 (by decide)
      refine ok_dup (q := 30) dX4_init_29 rfl rfl ?_
      refine ok_sipush (q := 33) (v := 422) dX4_init_30 cs_422 rfl ?_
      refine mm_cv (q := 36) (mt_X6_init G b10 422 h11 k13) (mm_runI (as := [.int 422]) (st := [.ref b10, .int x1, .ref b8]) (a := b10) lk_X4_init_X6_init_17 dX4_init_33 rfl (Nat.le_of_ble_eq_true rfl)) rfl (fun h16 p17 => ?_)
      have k18 : mm_kd h16 a0 = 3 := mm_kd_app p17 k14 (by decide)
      have k19 : mm_kd h16 b10 = 5 := mm_kd_app p17 k13 (by decide)
      have k20 : mm_kd h16 b8 = 24 := mm_kd_app p17 k15 (by decide)
      refine mm_ck (fun c21 => ?_)
      refine ok_aast (kb := 5) (q := 37) dX4_init_36 k20 (by decide) k19 c21 rfl (bh_ok (fun h22 e23 => ?_))
      have e23 : h22.1 = h16.1 := e23
      refine ok_iinc (q := 40) (v := x1 + 1) (ls' := [.ref a0, .int (x1 + 1)]) dX4_init_37 rfl (congrArg (x1 + ·) ci_1) (Nat.le_of_ble_eq_true rfl) rfl rfl ?_
      refine ok_goto (q := 15) dX4_init_40 rfl ?_
      exact ih a0 (x1 + 1) h22 (mm_ke e23 k18)
def bd_X4_init (a0 : Nat) (h : mm_H) : mm_O := mm_nw h 24 (mm_n (32 : Int32)) (fun b1 h2 =>
  mm_bh (mm_sr h2 a0 0 (some b1)) (fun h6 =>
  lp_X4_init_15 (fun b25 h24 => mm_bh (mm_si h24 b25 1 0) (fun h26 =>
  some (none, h26))) mm_fu a0 0 h6))
set_option maxHeartbeats 4000000 in
set_option maxRecDepth 100000 in
theorem mt_X4_init (G : mm_G) (a0 : Nat) (h : mm_H) (k_a0 : mm_kd h a0 = 3) : mm_Met G my_X4_init [.ref a0] h (bd_X4_init a0 h) := by
  refine mm_met (ls := [.ref a0, mm_U]) pn_RX4 (Nat.le_of_ble_eq_true rfl) rfl ?_
  unfold bd_X4_init
  refine ok_aload_n (q := 1) dX4_init_0 rfl rfl ?_
  refine ok_objInit (q := 4) dX4_init_1 wd_299 wd_105 wd_106 ⟨Nat.le_of_ble_eq_true rfl, Nat.le_of_ble_eq_true rfl⟩ rfl ?_
  refine ok_aload_n (q := 5) dX4_init_4 rfl rfl ?_
  refine ok_bipush (q := 7) (v := 32) dX4_init_5 cb_32 rfl ?_
  refine ok_new_r (q := 10) dX4_init_7 wd_300 (by decide) (by decide) rfl (fun hk => nw_ok hk (fun b1 h2 p3 k4 => ?_))
  have k5 : mm_kd h2 a0 = 3 := mm_kd_app p3 k_a0 (by decide)
  refine ok_putR cl_3 (q := 13) (k := 0) dX4_init_10 (Nat.le_of_ble_eq_true rfl) wd_303 (Or.inr ⟨rfl, rfl, rfl⟩) (fun _ _ _ => rfl) (fun _ => rfl) (fun _ => rfl) kt_3_0 (by decide) k5 k4 rfl (bh_ok (fun h6 e7 => ?_))
  have e7 : h6.1 = h2.1 := e7
  refine ok_iconst (q := 14) (v := 0) dX4_init_13 ci_0 rfl ?_
  refine ok_istore_n (q := 15) (ls' := [.ref a0, .int 0]) dX4_init_14 (Nat.le_of_ble_eq_true rfl) rfl rfl ?_
  refine ol_X4_init_15 (fun b25 h24 k_b25 => ?_) mm_fu a0 0 h6 (mm_ke e7 k5)
  · refine ok_aload_n (q := 44) dX4_init_43 rfl rfl ?_
    refine ok_iconst (q := 45) (v := 0) dX4_init_44 ci_0 rfl ?_
    refine ok_putI cl_3 (q := 48) (k := 1) dX4_init_45 (Nat.le_of_ble_eq_true rfl) wd_304 (Or.inl rfl) (fun _ _ _ => rfl) rfl rfl k_b25 rfl (bh_ok (fun h26 e27 => ?_))
    have e27 : h26.1 = h24.1 := e27
    exact ok_ret dX4_init_48 rfl
def bd_X7_init (a0 : Nat) (a1 : Nat) (h : mm_H) : mm_O := mm_bh (mm_sr h a0 3 (some a1)) (fun h1 =>
  mm_nw h1 5 2 (fun b3 h4 =>
  mm_qv (bd_X6_init b3 32 h4) (fun h9 =>
  mm_bh (mm_sr h9 a0 0 (some b3)) (fun h14 =>
  mm_nw h14 5 2 (fun b16 h17 =>
  mm_qv (bd_X6_init b16 32 h17) (fun h22 =>
  mm_bh (mm_sr h22 a0 1 (some b16)) (fun h27 =>
  mm_nw h27 5 2 (fun b29 h30 =>
  mm_qv (bd_X6_init b29 32 h30) (fun h35 =>
  mm_bh (mm_sr h35 a0 2 (some b29)) (fun h40 =>
  mm_nw h40 5 2 (fun b42 h43 =>
  mm_qv (bd_X6_init b42 32 h43) (fun h48 =>
  mm_bh (mm_sr h48 a0 4 (some b42)) (fun h53 =>
  mm_nw h53 5 2 (fun b55 h56 =>
  mm_qv (bd_X6_init b55 32 h56) (fun h61 =>
  mm_bh (mm_sr h61 a0 5 (some b55)) (fun h66 =>
  some (none, h66)))))))))))))))))
set_option maxHeartbeats 4000000 in
set_option maxRecDepth 100000 in
theorem mt_X7_init (G : mm_G) (a0 : Nat) (a1 : Nat) (h : mm_H) (k_a0 : mm_kd h a0 = 6) (k_a1 : mm_kd h a1 = 1) : mm_Met G my_X7_init [.ref a0, .ref a1] h (bd_X7_init a0 a1 h) := by
  refine mm_met (ls := [.ref a0, .ref a1]) pn_RX7 (Nat.le_of_ble_eq_true rfl) rfl ?_
  unfold bd_X7_init
  refine ok_aload_n (q := 1) dX7_init_0 rfl rfl ?_
  refine ok_objInit (q := 4) dX7_init_1 wd_351 wd_105 wd_106 ⟨Nat.le_of_ble_eq_true rfl, Nat.le_of_ble_eq_true rfl⟩ rfl ?_
  refine ok_aload_n (q := 5) dX7_init_4 rfl rfl ?_
  refine ok_aload_n (q := 6) dX7_init_5 rfl rfl ?_
  refine ok_putR cl_6 (q := 9) (k := 3) dX7_init_6 (Nat.le_of_ble_eq_true rfl) wd_360 (Or.inr ⟨rfl, rfl, rfl⟩) (fun _ _ _ => rfl) (fun _ => rfl) (fun _ => rfl) kt_6_3 (by decide) k_a0 k_a1 rfl (bh_ok (fun h1 e2 => ?_))
  have e2 : h1.1 = h.1 := e2
  refine ok_aload_n (q := 10) dX7_init_9 rfl rfl ?_
  refine ok_new cl_5 (q := 13) dX7_init_10 wd_352 wd_108 wd_82 tf_5 rfl (fun hk => nw_ok hk (fun b3 h4 p5 k6 => ?_))
  have k7 : mm_kd h4 a0 = 6 := mm_kd_app p5 (mm_ke e2 k_a0) (by decide)
  have k8 : mm_kd h4 a1 = 1 := mm_kd_app p5 (mm_ke e2 k_a1) (by decide)
  refine ok_dup (q := 14) dX7_init_13 rfl rfl ?_
  refine ok_bipush (q := 16) (v := 32) dX7_init_14 cb_32 rfl ?_
  refine mm_cv (q := 19) (mt_X6_init G b3 32 h4 k6) (mm_runI (as := [.int 32]) (st := [.ref b3, .ref a0]) (a := b3) lk_X7_init_X6_init_17 dX7_init_16 rfl (Nat.le_of_ble_eq_true rfl)) rfl (fun h9 p10 => ?_)
  have k11 : mm_kd h9 a0 = 6 := mm_kd_app p10 k7 (by decide)
  have k12 : mm_kd h9 a1 = 1 := mm_kd_app p10 k8 (by decide)
  have k13 : mm_kd h9 b3 = 5 := mm_kd_app p10 k6 (by decide)
  refine ok_putR cl_6 (q := 22) (k := 0) dX7_init_19 (Nat.le_of_ble_eq_true rfl) wd_354 (Or.inr ⟨rfl, rfl, rfl⟩) (fun _ _ _ => rfl) (fun _ => rfl) (fun _ => rfl) kt_6_0 (by decide) k11 k13 rfl (bh_ok (fun h14 e15 => ?_))
  have e15 : h14.1 = h9.1 := e15
  refine ok_aload_n (q := 23) dX7_init_22 rfl rfl ?_
  refine ok_new cl_5 (q := 26) dX7_init_23 wd_352 wd_108 wd_82 tf_5 rfl (fun hk => nw_ok hk (fun b16 h17 p18 k19 => ?_))
  have k20 : mm_kd h17 a0 = 6 := mm_kd_app p18 (mm_ke e15 k11) (by decide)
  have k21 : mm_kd h17 a1 = 1 := mm_kd_app p18 (mm_ke e15 k12) (by decide)
  refine ok_dup (q := 27) dX7_init_26 rfl rfl ?_
  refine ok_bipush (q := 29) (v := 32) dX7_init_27 cb_32 rfl ?_
  refine mm_cv (q := 32) (mt_X6_init G b16 32 h17 k19) (mm_runI (as := [.int 32]) (st := [.ref b16, .ref a0]) (a := b16) lk_X7_init_X6_init_17 dX7_init_29 rfl (Nat.le_of_ble_eq_true rfl)) rfl (fun h22 p23 => ?_)
  have k24 : mm_kd h22 a0 = 6 := mm_kd_app p23 k20 (by decide)
  have k25 : mm_kd h22 a1 = 1 := mm_kd_app p23 k21 (by decide)
  have k26 : mm_kd h22 b16 = 5 := mm_kd_app p23 k19 (by decide)
  refine ok_putR cl_6 (q := 35) (k := 1) dX7_init_32 (Nat.le_of_ble_eq_true rfl) wd_356 (Or.inr ⟨rfl, rfl, rfl⟩) (fun _ _ _ => rfl) (fun _ => rfl) (fun _ => rfl) kt_6_1 (by decide) k24 k26 rfl (bh_ok (fun h27 e28 => ?_))
  have e28 : h27.1 = h22.1 := e28
  refine ok_aload_n (q := 36) dX7_init_35 rfl rfl ?_
  refine ok_new cl_5 (q := 39) dX7_init_36 wd_352 wd_108 wd_82 tf_5 rfl (fun hk => nw_ok hk (fun b29 h30 p31 k32 => ?_))
  have k33 : mm_kd h30 a0 = 6 := mm_kd_app p31 (mm_ke e28 k24) (by decide)
  have k34 : mm_kd h30 a1 = 1 := mm_kd_app p31 (mm_ke e28 k25) (by decide)
  refine ok_dup (q := 40) dX7_init_39 rfl rfl ?_
  refine ok_bipush (q := 42) (v := 32) dX7_init_40 cb_32 rfl ?_
  refine mm_cv (q := 45) (mt_X6_init G b29 32 h30 k32) (mm_runI (as := [.int 32]) (st := [.ref b29, .ref a0]) (a := b29) lk_X7_init_X6_init_17 dX7_init_42 rfl (Nat.le_of_ble_eq_true rfl)) rfl (fun h35 p36 => ?_)
  have k37 : mm_kd h35 a0 = 6 := mm_kd_app p36 k33 (by decide)
  have k38 : mm_kd h35 a1 = 1 := mm_kd_app p36 k34 (by decide)
  have k39 : mm_kd h35 b29 = 5 := mm_kd_app p36 k32 (by decide)
  refine ok_putR cl_6 (q := 48) (k := 2) dX7_init_45 (Nat.le_of_ble_eq_true rfl) wd_358 (Or.inr ⟨rfl, rfl, rfl⟩) (fun _ _ _ => rfl) (fun _ => rfl) (fun _ => rfl) kt_6_2 (by decide) k37 k39 rfl (bh_ok (fun h40 e41 => ?_))
  have e41 : h40.1 = h35.1 := e41
  refine ok_aload_n (q := 49) dX7_init_48 rfl rfl ?_
  refine ok_new cl_5 (q := 52) dX7_init_49 wd_352 wd_108 wd_82 tf_5 rfl (fun hk => nw_ok hk (fun b42 h43 p44 k45 => ?_))
  have k46 : mm_kd h43 a0 = 6 := mm_kd_app p44 (mm_ke e41 k37) (by decide)
  have k47 : mm_kd h43 a1 = 1 := mm_kd_app p44 (mm_ke e41 k38) (by decide)
  refine ok_dup (q := 53) dX7_init_52 rfl rfl ?_
  refine ok_bipush (q := 55) (v := 32) dX7_init_53 cb_32 rfl ?_
  refine mm_cv (q := 58) (mt_X6_init G b42 32 h43 k45) (mm_runI (as := [.int 32]) (st := [.ref b42, .ref a0]) (a := b42) lk_X7_init_X6_init_17 dX7_init_55 rfl (Nat.le_of_ble_eq_true rfl)) rfl (fun h48 p49 => ?_)
  have k50 : mm_kd h48 a0 = 6 := mm_kd_app p49 k46 (by decide)
  have k51 : mm_kd h48 a1 = 1 := mm_kd_app p49 k47 (by decide)
  have k52 : mm_kd h48 b42 = 5 := mm_kd_app p49 k45 (by decide)
  refine ok_putR cl_6 (q := 61) (k := 4) dX7_init_58 (Nat.le_of_ble_eq_true rfl) wd_361 (Or.inr ⟨rfl, rfl, rfl⟩) (fun _ _ _ => rfl) (fun _ => rfl) (fun _ => rfl) kt_6_4 (by decide) k50 k52 rfl (bh_ok (fun h53 e54 => ?_))
  have e54 : h53.1 = h48.1 := e54
  refine ok_aload_n (q := 62) dX7_init_61 rfl rfl ?_
  refine ok_new cl_5 (q := 65) dX7_init_62 wd_352 wd_108 wd_82 tf_5 rfl (fun hk => nw_ok hk (fun b55 h56 p57 k58 => ?_))
  have k59 : mm_kd h56 a0 = 6 := mm_kd_app p57 (mm_ke e54 k50) (by decide)
  have k60 : mm_kd h56 a1 = 1 := mm_kd_app p57 (mm_ke e54 k51) (by decide)
  refine ok_dup (q := 66) dX7_init_65 rfl rfl ?_
  refine ok_bipush (q := 68) (v := 32) dX7_init_66 cb_32 rfl ?_
  refine mm_cv (q := 71) (mt_X6_init G b55 32 h56 k58) (mm_runI (as := [.int 32]) (st := [.ref b55, .ref a0]) (a := b55) lk_X7_init_X6_init_17 dX7_init_68 rfl (Nat.le_of_ble_eq_true rfl)) rfl (fun h61 p62 => ?_)
  have k63 : mm_kd h61 a0 = 6 := mm_kd_app p62 k59 (by decide)
  have k64 : mm_kd h61 a1 = 1 := mm_kd_app p62 k60 (by decide)
  have k65 : mm_kd h61 b55 = 5 := mm_kd_app p62 k58 (by decide)
  refine ok_putR cl_6 (q := 74) (k := 5) dX7_init_71 (Nat.le_of_ble_eq_true rfl) wd_362 (Or.inr ⟨rfl, rfl, rfl⟩) (fun _ _ _ => rfl) (fun _ => rfl) (fun _ => rfl) kt_6_5 (by decide) k63 k65 rfl (bh_ok (fun h66 e67 => ?_))
  have e67 : h66.1 = h61.1 := e67
  exact ok_ret dX7_init_74 rfl
def bd_X0_init (a0 : Nat) (a1 : Nat) (h : mm_H) : mm_O := mm_bh (mm_sr h a0 6 (some a1)) (fun h1 =>
  mm_nw h1 3 2 (fun b3 h4 =>
  mm_qv (bd_X4_init b3 h4) (fun h9 =>
  mm_bh (mm_sr h9 a0 0 (some b3)) (fun h14 =>
  mm_nw h14 5 2 (fun b16 h17 =>
  mm_qv (bd_X6_init b16 2000 h17) (fun h22 =>
  mm_bh (mm_sr h22 a0 1 (some b16)) (fun h27 =>
  mm_nw h27 2 5 (fun b29 h30 =>
  mm_qv (bd_X2_init b29 h30) (fun h35 =>
  mm_bh (mm_sr h35 a0 2 (some b29)) (fun h40 =>
  mm_nw h40 2 5 (fun b42 h43 =>
  mm_qv (bd_X2_init b42 h43) (fun h48 =>
  mm_bh (mm_sr h48 a0 3 (some b42)) (fun h53 =>
  mm_nw h53 6 6 (fun b55 h56 =>
  mm_gr h56 a1 1 (fun b61 =>
  mm_qv (bd_X7_init b55 b61 h56) (fun h63 =>
  mm_bh (mm_sr h63 a0 7 (some b55)) (fun h68 =>
  mm_nw h68 5 2 (fun b70 h71 =>
  mm_qv (bd_X6_init b70 64 h71) (fun h76 =>
  mm_bh (mm_sr h76 a0 8 (some b70)) (fun h81 =>
  mm_nw h81 5 2 (fun b83 h84 =>
  mm_qv (bd_X6_init b83 16 h84) (fun h89 =>
  mm_bh (mm_sr h89 a0 9 (some b83)) (fun h94 =>
  mm_nw h94 5 2 (fun b96 h97 =>
  mm_qv (bd_X6_init b96 32 h97) (fun h102 =>
  mm_bh (mm_sr h102 a0 10 (some b96)) (fun h107 =>
  mm_nw h107 5 2 (fun b109 h110 =>
  mm_qv (bd_X6_init b109 278 h110) (fun h115 =>
  mm_bh (mm_sr h115 a0 11 (some b109)) (fun h120 =>
  mm_bh (mm_si h120 a0 4 0) (fun h122 =>
  mm_bh (mm_si h122 a0 5 0) (fun h124 =>
  mm_bh (mm_si h124 a0 12 256) (fun h126 =>
  mm_bh (mm_si h126 a0 13 0) (fun h128 =>
  mm_bh (mm_si h128 a0 14 (-1)) (fun h130 =>
  mm_bh (mm_si h130 a0 15 (-1)) (fun h132 =>
  mm_bh (mm_si h132 a0 16 0) (fun h134 =>
  mm_bh (mm_si h134 a0 17 0) (fun h136 =>
  some (none, h136))))))))))))))))))))))))))))))))))))))
set_option maxHeartbeats 4000000 in
set_option maxRecDepth 100000 in
theorem mt_X0_init (G : mm_G) (a0 : Nat) (a1 : Nat) (h : mm_H) (k_a0 : mm_kd h a0 = 0) (k_a1 : mm_kd h a1 = 9) : mm_Met G my_X0_init [.ref a0, .ref a1] h (bd_X0_init a0 a1 h) := by
  refine mm_met (ls := [.ref a0, .ref a1]) pn_RX0 (Nat.le_of_ble_eq_true rfl) rfl ?_
  unfold bd_X0_init
  refine ok_aload_n (q := 1) dX0_init_0 rfl rfl ?_
  refine ok_objInit (q := 4) dX0_init_1 wd_293 wd_105 wd_106 ⟨Nat.le_of_ble_eq_true rfl, Nat.le_of_ble_eq_true rfl⟩ rfl ?_
  refine ok_aload_n (q := 5) dX0_init_4 rfl rfl ?_
  refine ok_aload_n (q := 6) dX0_init_5 rfl rfl ?_
  refine ok_putR cl_0 (q := 9) (k := 6) dX0_init_6 (Nat.le_of_ble_eq_true rfl) wd_388 (Or.inr ⟨rfl, rfl, rfl⟩) (fun _ _ _ => rfl) (fun _ => rfl) (fun _ => rfl) kt_0_6 (by decide) k_a0 k_a1 rfl (bh_ok (fun h1 e2 => ?_))
  have e2 : h1.1 = h.1 := e2
  refine ok_aload_n (q := 10) dX0_init_9 rfl rfl ?_
  refine ok_new cl_3 (q := 13) dX0_init_10 wd_294 wd_295 wd_90 tf_3 rfl (fun hk => nw_ok hk (fun b3 h4 p5 k6 => ?_))
  have k7 : mm_kd h4 a0 = 0 := mm_kd_app p5 (mm_ke e2 k_a0) (by decide)
  have k8 : mm_kd h4 a1 = 9 := mm_kd_app p5 (mm_ke e2 k_a1) (by decide)
  refine ok_dup (q := 14) dX0_init_13 rfl rfl ?_
  refine mm_cv (q := 17) (mt_X4_init G b3 h4 k6) (mm_runI (as := []) (st := [.ref b3, .ref a0]) (a := b3) lk_X0_init_X4_init_19 dX0_init_14 rfl (Nat.le_of_ble_eq_true rfl)) rfl (fun h9 p10 => ?_)
  have k11 : mm_kd h9 a0 = 0 := mm_kd_app p10 k7 (by decide)
  have k12 : mm_kd h9 a1 = 9 := mm_kd_app p10 k8 (by decide)
  have k13 : mm_kd h9 b3 = 3 := mm_kd_app p10 k6 (by decide)
  refine ok_putR cl_0 (q := 20) (k := 0) dX0_init_17 (Nat.le_of_ble_eq_true rfl) wd_376 (Or.inr ⟨rfl, rfl, rfl⟩) (fun _ _ _ => rfl) (fun _ => rfl) (fun _ => rfl) kt_0_0 (by decide) k11 k13 rfl (bh_ok (fun h14 e15 => ?_))
  have e15 : h14.1 = h9.1 := e15
  refine ok_aload_n (q := 21) dX0_init_20 rfl rfl ?_
  refine ok_new cl_5 (q := 24) dX0_init_21 wd_312 wd_108 wd_82 tf_5 rfl (fun hk => nw_ok hk (fun b16 h17 p18 k19 => ?_))
  have k20 : mm_kd h17 a0 = 0 := mm_kd_app p18 (mm_ke e15 k11) (by decide)
  have k21 : mm_kd h17 a1 = 9 := mm_kd_app p18 (mm_ke e15 k12) (by decide)
  refine ok_dup (q := 25) dX0_init_24 rfl rfl ?_
  refine ok_sipush (q := 28) (v := 2000) dX0_init_25 cs_2000 rfl ?_
  refine mm_cv (q := 31) (mt_X6_init G b16 2000 h17 k19) (mm_runI (as := [.int 2000]) (st := [.ref b16, .ref a0]) (a := b16) lk_X0_init_X6_init_26 dX0_init_28 rfl (Nat.le_of_ble_eq_true rfl)) rfl (fun h22 p23 => ?_)
  have k24 : mm_kd h22 a0 = 0 := mm_kd_app p23 k20 (by decide)
  have k25 : mm_kd h22 a1 = 9 := mm_kd_app p23 k21 (by decide)
  have k26 : mm_kd h22 b16 = 5 := mm_kd_app p23 k19 (by decide)
  refine ok_putR cl_0 (q := 34) (k := 1) dX0_init_31 (Nat.le_of_ble_eq_true rfl) wd_378 (Or.inr ⟨rfl, rfl, rfl⟩) (fun _ _ _ => rfl) (fun _ => rfl) (fun _ => rfl) kt_0_1 (by decide) k24 k26 rfl (bh_ok (fun h27 e28 => ?_))
  have e28 : h27.1 = h22.1 := e28
  refine ok_aload_n (q := 35) dX0_init_34 rfl rfl ?_
  refine ok_new cl_2 (q := 38) dX0_init_35 wd_314 wd_315 wd_91 tf_2 rfl (fun hk => nw_ok hk (fun b29 h30 p31 k32 => ?_))
  have k33 : mm_kd h30 a0 = 0 := mm_kd_app p31 (mm_ke e28 k24) (by decide)
  have k34 : mm_kd h30 a1 = 9 := mm_kd_app p31 (mm_ke e28 k25) (by decide)
  refine ok_dup (q := 39) dX0_init_38 rfl rfl ?_
  refine mm_cv (q := 42) (mt_X2_init G b29 h30 k32) (mm_runI (as := []) (st := [.ref b29, .ref a0]) (a := b29) lk_X0_init_X2_init_35 dX0_init_39 rfl (Nat.le_of_ble_eq_true rfl)) rfl (fun h35 p36 => ?_)
  have k37 : mm_kd h35 a0 = 0 := mm_kd_app p36 k33 (by decide)
  have k38 : mm_kd h35 a1 = 9 := mm_kd_app p36 k34 (by decide)
  have k39 : mm_kd h35 b29 = 2 := mm_kd_app p36 k32 (by decide)
  refine ok_putR cl_0 (q := 45) (k := 2) dX0_init_42 (Nat.le_of_ble_eq_true rfl) wd_380 (Or.inr ⟨rfl, rfl, rfl⟩) (fun _ _ _ => rfl) (fun _ => rfl) (fun _ => rfl) kt_0_2 (by decide) k37 k39 rfl (bh_ok (fun h40 e41 => ?_))
  have e41 : h40.1 = h35.1 := e41
  refine ok_aload_n (q := 46) dX0_init_45 rfl rfl ?_
  refine ok_new cl_2 (q := 49) dX0_init_46 wd_314 wd_315 wd_91 tf_2 rfl (fun hk => nw_ok hk (fun b42 h43 p44 k45 => ?_))
  have k46 : mm_kd h43 a0 = 0 := mm_kd_app p44 (mm_ke e41 k37) (by decide)
  have k47 : mm_kd h43 a1 = 9 := mm_kd_app p44 (mm_ke e41 k38) (by decide)
  refine ok_dup (q := 50) dX0_init_49 rfl rfl ?_
  refine mm_cv (q := 53) (mt_X2_init G b42 h43 k45) (mm_runI (as := []) (st := [.ref b42, .ref a0]) (a := b42) lk_X0_init_X2_init_35 dX0_init_50 rfl (Nat.le_of_ble_eq_true rfl)) rfl (fun h48 p49 => ?_)
  have k50 : mm_kd h48 a0 = 0 := mm_kd_app p49 k46 (by decide)
  have k51 : mm_kd h48 a1 = 9 := mm_kd_app p49 k47 (by decide)
  have k52 : mm_kd h48 b42 = 2 := mm_kd_app p49 k45 (by decide)
  refine ok_putR cl_0 (q := 56) (k := 3) dX0_init_53 (Nat.le_of_ble_eq_true rfl) wd_382 (Or.inr ⟨rfl, rfl, rfl⟩) (fun _ _ _ => rfl) (fun _ => rfl) (fun _ => rfl) kt_0_3 (by decide) k50 k52 rfl (bh_ok (fun h53 e54 => ?_))
  have e54 : h53.1 = h48.1 := e54
  refine ok_aload_n (q := 57) dX0_init_56 rfl rfl ?_
  refine ok_new cl_6 (q := 60) dX0_init_57 wd_346 wd_347 wd_92 tf_6 rfl (fun hk => nw_ok hk (fun b55 h56 p57 k58 => ?_))
  have k59 : mm_kd h56 a0 = 0 := mm_kd_app p57 (mm_ke e54 k50) (by decide)
  have k60 : mm_kd h56 a1 = 9 := mm_kd_app p57 (mm_ke e54 k51) (by decide)
  refine ok_dup (q := 61) dX0_init_60 rfl rfl ?_
  refine ok_aload_n (q := 62) dX0_init_61 rfl rfl ?_
  refine ok_getR cl_9 (q := 65) (k := 1) dX0_init_62 (Nat.le_of_ble_eq_true rfl) wd_244 (fun _ _ _ => rfl) kt_9_1 k60 rfl (fun b61 k62 => ?_)
  refine mm_cv (q := 68) (mt_X7_init G b55 b61 h56 k58 k62) (mm_runI (as := [.ref b61]) (st := [.ref b55, .ref a0]) (a := b55) lk_X0_init_X7_init_51 dX0_init_65 rfl (Nat.le_of_ble_eq_true rfl)) rfl (fun h63 p64 => ?_)
  have k65 : mm_kd h63 a0 = 0 := mm_kd_app p64 k59 (by decide)
  have k66 : mm_kd h63 a1 = 9 := mm_kd_app p64 k60 (by decide)
  have k67 : mm_kd h63 b55 = 6 := mm_kd_app p64 k58 (by decide)
  refine ok_putR cl_0 (q := 71) (k := 7) dX0_init_68 (Nat.le_of_ble_eq_true rfl) wd_389 (Or.inr ⟨rfl, rfl, rfl⟩) (fun _ _ _ => rfl) (fun _ => rfl) (fun _ => rfl) kt_0_7 (by decide) k65 k67 rfl (bh_ok (fun h68 e69 => ?_))
  have e69 : h68.1 = h63.1 := e69
  refine ok_aload_n (q := 72) dX0_init_71 rfl rfl ?_
  refine ok_new cl_5 (q := 75) dX0_init_72 wd_312 wd_108 wd_82 tf_5 rfl (fun hk => nw_ok hk (fun b70 h71 p72 k73 => ?_))
  have k74 : mm_kd h71 a0 = 0 := mm_kd_app p72 (mm_ke e69 k65) (by decide)
  have k75 : mm_kd h71 a1 = 9 := mm_kd_app p72 (mm_ke e69 k66) (by decide)
  refine ok_dup (q := 76) dX0_init_75 rfl rfl ?_
  refine ok_bipush (q := 78) (v := 64) dX0_init_76 cb_64 rfl ?_
  refine mm_cv (q := 81) (mt_X6_init G b70 64 h71 k73) (mm_runI (as := [.int 64]) (st := [.ref b70, .ref a0]) (a := b70) lk_X0_init_X6_init_26 dX0_init_78 rfl (Nat.le_of_ble_eq_true rfl)) rfl (fun h76 p77 => ?_)
  have k78 : mm_kd h76 a0 = 0 := mm_kd_app p77 k74 (by decide)
  have k79 : mm_kd h76 a1 = 9 := mm_kd_app p77 k75 (by decide)
  have k80 : mm_kd h76 b70 = 5 := mm_kd_app p77 k73 (by decide)
  refine ok_putR cl_0 (q := 84) (k := 8) dX0_init_81 (Nat.le_of_ble_eq_true rfl) wd_390 (Or.inr ⟨rfl, rfl, rfl⟩) (fun _ _ _ => rfl) (fun _ => rfl) (fun _ => rfl) kt_0_8 (by decide) k78 k80 rfl (bh_ok (fun h81 e82 => ?_))
  have e82 : h81.1 = h76.1 := e82
  refine ok_aload_n (q := 85) dX0_init_84 rfl rfl ?_
  refine ok_new cl_5 (q := 88) dX0_init_85 wd_312 wd_108 wd_82 tf_5 rfl (fun hk => nw_ok hk (fun b83 h84 p85 k86 => ?_))
  have k87 : mm_kd h84 a0 = 0 := mm_kd_app p85 (mm_ke e82 k78) (by decide)
  have k88 : mm_kd h84 a1 = 9 := mm_kd_app p85 (mm_ke e82 k79) (by decide)
  refine ok_dup (q := 89) dX0_init_88 rfl rfl ?_
  refine ok_bipush (q := 91) (v := 16) dX0_init_89 cb_16 rfl ?_
  refine mm_cv (q := 94) (mt_X6_init G b83 16 h84 k86) (mm_runI (as := [.int 16]) (st := [.ref b83, .ref a0]) (a := b83) lk_X0_init_X6_init_26 dX0_init_91 rfl (Nat.le_of_ble_eq_true rfl)) rfl (fun h89 p90 => ?_)
  have k91 : mm_kd h89 a0 = 0 := mm_kd_app p90 k87 (by decide)
  have k92 : mm_kd h89 a1 = 9 := mm_kd_app p90 k88 (by decide)
  have k93 : mm_kd h89 b83 = 5 := mm_kd_app p90 k86 (by decide)
  refine ok_putR cl_0 (q := 97) (k := 9) dX0_init_94 (Nat.le_of_ble_eq_true rfl) wd_391 (Or.inr ⟨rfl, rfl, rfl⟩) (fun _ _ _ => rfl) (fun _ => rfl) (fun _ => rfl) kt_0_9 (by decide) k91 k93 rfl (bh_ok (fun h94 e95 => ?_))
  have e95 : h94.1 = h89.1 := e95
  refine ok_aload_n (q := 98) dX0_init_97 rfl rfl ?_
  refine ok_new cl_5 (q := 101) dX0_init_98 wd_312 wd_108 wd_82 tf_5 rfl (fun hk => nw_ok hk (fun b96 h97 p98 k99 => ?_))
  have k100 : mm_kd h97 a0 = 0 := mm_kd_app p98 (mm_ke e95 k91) (by decide)
  have k101 : mm_kd h97 a1 = 9 := mm_kd_app p98 (mm_ke e95 k92) (by decide)
  refine ok_dup (q := 102) dX0_init_101 rfl rfl ?_
  refine ok_bipush (q := 104) (v := 32) dX0_init_102 cb_32 rfl ?_
  refine mm_cv (q := 107) (mt_X6_init G b96 32 h97 k99) (mm_runI (as := [.int 32]) (st := [.ref b96, .ref a0]) (a := b96) lk_X0_init_X6_init_26 dX0_init_104 rfl (Nat.le_of_ble_eq_true rfl)) rfl (fun h102 p103 => ?_)
  have k104 : mm_kd h102 a0 = 0 := mm_kd_app p103 k100 (by decide)
  have k105 : mm_kd h102 a1 = 9 := mm_kd_app p103 k101 (by decide)
  have k106 : mm_kd h102 b96 = 5 := mm_kd_app p103 k99 (by decide)
  refine ok_putR cl_0 (q := 110) (k := 10) dX0_init_107 (Nat.le_of_ble_eq_true rfl) wd_392 (Or.inr ⟨rfl, rfl, rfl⟩) (fun _ _ _ => rfl) (fun _ => rfl) (fun _ => rfl) kt_0_10 (by decide) k104 k106 rfl (bh_ok (fun h107 e108 => ?_))
  have e108 : h107.1 = h102.1 := e108
  refine ok_aload_n (q := 111) dX0_init_110 rfl rfl ?_
  refine ok_new cl_5 (q := 114) dX0_init_111 wd_312 wd_108 wd_82 tf_5 rfl (fun hk => nw_ok hk (fun b109 h110 p111 k112 => ?_))
  have k113 : mm_kd h110 a0 = 0 := mm_kd_app p111 (mm_ke e108 k104) (by decide)
  have k114 : mm_kd h110 a1 = 9 := mm_kd_app p111 (mm_ke e108 k105) (by decide)
  refine ok_dup (q := 115) dX0_init_114 rfl rfl ?_
  refine ok_sipush (q := 118) (v := 278) dX0_init_115 cs_278 rfl ?_
  refine mm_cv (q := 121) (mt_X6_init G b109 278 h110 k112) (mm_runI (as := [.int 278]) (st := [.ref b109, .ref a0]) (a := b109) lk_X0_init_X6_init_26 dX0_init_118 rfl (Nat.le_of_ble_eq_true rfl)) rfl (fun h115 p116 => ?_)
  have k117 : mm_kd h115 a0 = 0 := mm_kd_app p116 k113 (by decide)
  have k118 : mm_kd h115 a1 = 9 := mm_kd_app p116 k114 (by decide)
  have k119 : mm_kd h115 b109 = 5 := mm_kd_app p116 k112 (by decide)
  refine ok_putR cl_0 (q := 124) (k := 11) dX0_init_121 (Nat.le_of_ble_eq_true rfl) wd_393 (Or.inr ⟨rfl, rfl, rfl⟩) (fun _ _ _ => rfl) (fun _ => rfl) (fun _ => rfl) kt_0_11 (by decide) k117 k119 rfl (bh_ok (fun h120 e121 => ?_))
  have e121 : h120.1 = h115.1 := e121
  refine ok_aload_n (q := 125) dX0_init_124 rfl rfl ?_
  refine ok_iconst (q := 126) (v := 0) dX0_init_125 ci_0 rfl ?_
  refine ok_putI cl_0 (q := 129) (k := 4) dX0_init_126 (Nat.le_of_ble_eq_true rfl) wd_384 (Or.inl rfl) (fun _ _ _ => rfl) (by decide) (by decide) (mm_ke e121 k117) rfl (bh_ok (fun h122 e123 => ?_))
  have e123 : h122.1 = h115.1 := e123.trans e121
  refine ok_aload_n (q := 130) dX0_init_129 rfl rfl ?_
  refine ok_iconst (q := 131) (v := 0) dX0_init_130 ci_0 rfl ?_
  refine ok_putI cl_0 (q := 134) (k := 5) dX0_init_131 (Nat.le_of_ble_eq_true rfl) wd_386 (Or.inl rfl) (fun _ _ _ => rfl) rfl rfl (mm_ke e123 k117) rfl (bh_ok (fun h124 e125 => ?_))
  have e125 : h124.1 = h115.1 := e125.trans e123
  refine ok_aload_n (q := 135) dX0_init_134 rfl rfl ?_
  refine ok_sipush (q := 138) (v := 256) dX0_init_135 cs_256 rfl ?_
  refine ok_putI cl_0 (q := 141) (k := 12) dX0_init_138 (Nat.le_of_ble_eq_true rfl) wd_394 (Or.inl rfl) (fun _ _ _ => rfl) rfl rfl (mm_ke e125 k117) rfl (bh_ok (fun h126 e127 => ?_))
  have e127 : h126.1 = h115.1 := e127.trans e125
  refine ok_aload_n (q := 142) dX0_init_141 rfl rfl ?_
  refine ok_iconst (q := 143) (v := 0) dX0_init_142 ci_0 rfl ?_
  refine ok_putI cl_0 (q := 146) (k := 13) dX0_init_143 (Nat.le_of_ble_eq_true rfl) wd_395 (Or.inl rfl) (fun _ _ _ => rfl) rfl rfl (mm_ke e127 k117) rfl (bh_ok (fun h128 e129 => ?_))
  have e129 : h128.1 = h115.1 := e129.trans e127
  refine ok_aload_n (q := 147) dX0_init_146 rfl rfl ?_
  refine ok_iconst (q := 148) (v := -1) dX0_init_147 ci_m1 rfl ?_
  refine ok_putI cl_0 (q := 151) (k := 14) dX0_init_148 (Nat.le_of_ble_eq_true rfl) wd_396 (Or.inl rfl) (fun _ _ _ => rfl) rfl rfl (mm_ke e129 k117) rfl (bh_ok (fun h130 e131 => ?_))
  have e131 : h130.1 = h115.1 := e131.trans e129
  refine ok_aload_n (q := 152) dX0_init_151 rfl rfl ?_
  refine ok_iconst (q := 153) (v := -1) dX0_init_152 ci_m1 rfl ?_
  refine ok_putI cl_0 (q := 156) (k := 15) dX0_init_153 (Nat.le_of_ble_eq_true rfl) wd_397 (Or.inl rfl) (fun _ _ _ => rfl) rfl rfl (mm_ke e131 k117) rfl (bh_ok (fun h132 e133 => ?_))
  have e133 : h132.1 = h115.1 := e133.trans e131
  refine ok_aload_n (q := 157) dX0_init_156 rfl rfl ?_
  refine ok_iconst (q := 158) (v := 0) dX0_init_157 ci_0 rfl ?_
  refine ok_putI cl_0 (q := 161) (k := 16) dX0_init_158 (Nat.le_of_ble_eq_true rfl) wd_398 (Or.inl rfl) (fun _ _ _ => rfl) (by decide) (by decide) (mm_ke e133 k117) rfl (bh_ok (fun h134 e135 => ?_))
  have e135 : h134.1 = h115.1 := e135.trans e133
  refine ok_aload_n (q := 162) dX0_init_161 rfl rfl ?_
  refine ok_iconst (q := 163) (v := 0) dX0_init_162 ci_0 rfl ?_
  refine ok_putI cl_0 (q := 166) (k := 17) dX0_init_163 (Nat.le_of_ble_eq_true rfl) wd_399 (Or.inl rfl) (fun _ _ _ => rfl) (by decide) (by decide) (mm_ke e135 k117) rfl (bh_ok (fun h136 e137 => ?_))
  have e137 : h136.1 = h115.1 := e137.trans e135
  exact ok_ret dX0_init_166 rfl
def lp_X6_appendPart_3  : Nat → Nat → Nat → Int32 → Int32 → mm_H → mm_O
  | 0, _, _, _, _, _ => none
  | n + 1, a0, a1, x3, x4, h => if x4 < 0 then
  (some (none, h))
  else
  (if x3 ≤ x4 then
  (some (none, h))
  else
  (if (mm_i h a1 1) ≤ x4 then
  (some (none, h))
  else
  (mm_gr h a0 0 (fun b1 =>
  if (nI (mm_ln h b1)) ≤ (mm_i h a0 1) then
  (some (none, h))
  else
  (mm_gr h a0 0 (fun b3 =>
  mm_gr h a1 0 (fun b5 =>
  if mm_in x4 (mm_ln h b5) = true then (if 32 ≤ b3 ∧ mm_in (mm_i h a0 1) (mm_ln h b3) = true then (mm_bh (mm_si h b3 (mm_n (mm_i h a0 1)) (mm_i h b5 (mm_n x4))) (fun h9 =>
  mm_bh (mm_si h9 a0 1 ((mm_i h9 a0 1) + (1 : Int32))) (fun h11 =>
  lp_X6_appendPart_3 n a0 a1 x3 (x4 + 1) h11))) else none) else none)))))))
set_option maxHeartbeats 4000000 in
set_option maxRecDepth 100000 in
theorem ol_X6_appendPart_3 {G : mm_G}   : ∀ (n : Nat) (a0 : Nat) (a1 : Nat) (x3 : Int32) (x4 : Int32) (h : mm_H), mm_kd h a0 = 5 → mm_kd h a1 = 5 → mm_Ok G my_X6_appendPart 3 [.ref a0, .ref a1, mm_U, .int x3, .int x4] [] h (lp_X6_appendPart_3 n a0 a1 x3 x4 h) := by
  intro n
  induction n with
  | zero => intro a0 a1 x3 x4 h k_a0 k_a1; exact mm_no
  | succ n ih =>
    intro a0 a1 x3 x4 h k_a0 k_a1
    rw [lp_X6_appendPart_3]
    refine ok_iload (q := 5) dX6_appendPart_3 rfl rfl ?_
    refine ok_if_lt (q := 8) (t := 67) dX6_appendPart_5 rfl rfl ?_ ?_
    · exact ok_ret dX6_appendPart_67 rfl
    · refine ok_iload (q := 10) dX6_appendPart_8 rfl rfl ?_
      refine ok_iload_n (q := 11) dX6_appendPart_10 rfl rfl ?_
      refine ok_icmp_ge (q := 14) (t := 67) dX6_appendPart_11 rfl rfl ?_ ?_
      · exact ok_ret dX6_appendPart_67 rfl
      · refine ok_iload (q := 16) dX6_appendPart_14 rfl rfl ?_
        refine ok_aload_n (q := 17) dX6_appendPart_16 rfl rfl ?_
        refine ok_getI cl_5 (q := 20) (k := 1) dX6_appendPart_17 (Nat.le_of_ble_eq_true rfl) wd_122 (fun _ _ _ => rfl) k_a1 rfl ?_
        refine ok_icmp_ge (q := 23) (t := 67) dX6_appendPart_20 rfl rfl ?_ ?_
        · exact ok_ret dX6_appendPart_67 rfl
        · refine ok_aload_n (q := 24) dX6_appendPart_23 rfl rfl ?_
          refine ok_getI cl_5 (q := 27) (k := 1) dX6_appendPart_24 (Nat.le_of_ble_eq_true rfl) wd_122 (fun _ _ _ => rfl) k_a0 rfl ?_
          refine ok_aload_n (q := 28) dX6_appendPart_27 rfl rfl ?_
          refine ok_getR cl_5 (q := 31) (k := 0) dX6_appendPart_28 (Nat.le_of_ble_eq_true rfl) wd_116 (fun _ _ _ => rfl) kt_5_0 k_a0 rfl (fun b1 k2 => ?_)
          refine ok_alen (q := 32) dX6_appendPart_31 (by rw [k2]; decide) rfl ?_
          refine ok_icmp_ge (q := 35) (t := 67) dX6_appendPart_32 rfl rfl ?_ ?_
          · exact ok_ret dX6_appendPart_67 rfl
          · refine ok_aload_n (q := 36) dX6_appendPart_35 rfl rfl ?_
            refine ok_getR cl_5 (q := 39) (k := 0) dX6_appendPart_36 (Nat.le_of_ble_eq_true rfl) wd_116 (fun _ _ _ => rfl) kt_5_0 k_a0 rfl (fun b3 k4 => ?_)
            refine ok_aload_n (q := 40) dX6_appendPart_39 rfl rfl ?_
            refine ok_getI cl_5 (q := 43) (k := 1) dX6_appendPart_40 (Nat.le_of_ble_eq_true rfl) wd_122 (fun _ _ _ => rfl) k_a0 rfl ?_
            refine ok_aload_n (q := 44) dX6_appendPart_43 rfl rfl ?_
            refine ok_getR cl_5 (q := 47) (k := 0) dX6_appendPart_44 (Nat.le_of_ble_eq_true rfl) wd_116 (fun _ _ _ => rfl) kt_5_0 k_a1 rfl (fun b5 k6 => ?_)
            refine ok_iload (q := 49) dX6_appendPart_47 rfl rfl ?_
            refine mm_ck (fun c7 => ?_)
            refine ok_iald (q := 50) dX6_appendPart_49 k6 c7 rfl ?_
            refine mm_ck (fun c8 => ?_)
            refine ok_iast (q := 51) dX6_appendPart_50 k4 c8.1 c8.2 rfl (bh_ok (fun h9 e10 => ?_))
            have e10 : h9.1 = h.1 := e10
            refine ok_aload_n (q := 52) dX6_appendPart_51 rfl rfl ?_
            refine ok_dup (q := 53) dX6_appendPart_52 rfl rfl ?_
            refine ok_getI cl_5 (q := 56) (k := 1) dX6_appendPart_53 (Nat.le_of_ble_eq_true rfl) wd_122 (fun _ _ _ => rfl) (mm_ke e10 k_a0) rfl ?_
            refine ok_iconst (q := 57) (v := 1) dX6_appendPart_56 ci_1 rfl ?_
            refine ok_iadd (q := 58) dX6_appendPart_57 rfl ?_
            refine ok_putI cl_5 (q := 61) (k := 1) dX6_appendPart_58 (Nat.le_of_ble_eq_true rfl) wd_122 (Or.inl rfl) (fun _ _ _ => rfl) rfl rfl (mm_ke e10 k_a0) rfl (bh_ok (fun h11 e12 => ?_))
            have e12 : h11.1 = h.1 := e12.trans e10
            refine ok_iinc (q := 64) (v := x4 + 1) (ls' := [.ref a0, .ref a1, mm_U, .int x3, .int (x4 + 1)]) dX6_appendPart_61 rfl (congrArg (x4 + ·) ci_1) (Nat.le_of_ble_eq_true rfl) rfl rfl ?_
            refine ok_goto (q := 3) dX6_appendPart_64 rfl ?_
            exact ih a0 a1 x3 (x4 + 1) h11 (mm_ke e12 k_a0) (mm_ke e12 k_a1)
def bd_X6_appendPart (a0 : Nat) (a1 : Nat) (x2 : Int32) (x3 : Int32) (h : mm_H) : mm_O := lp_X6_appendPart_3  mm_fu a0 a1 x3 x2 h
set_option maxHeartbeats 4000000 in
set_option maxRecDepth 100000 in
theorem mt_X6_appendPart (G : mm_G) (a0 : Nat) (a1 : Nat) (x2 : Int32) (x3 : Int32) (h : mm_H) (k_a0 : mm_kd h a0 = 5) (k_a1 : mm_kd h a1 = 5) : mm_Met G my_X6_appendPart [.ref a0, .ref a1, .int x2, .int x3] h (bd_X6_appendPart a0 a1 x2 x3 h) := by
  refine mm_met (ls := [.ref a0, .ref a1, .int x2, .int x3, mm_U]) pn_RX6 (Nat.le_of_ble_eq_true rfl) rfl ?_
  unfold bd_X6_appendPart
  refine ok_iload_n (q := 1) dX6_appendPart_0 rfl rfl ?_
  refine ok_istore (q := 3) (ls' := [.ref a0, .ref a1, .int x2, .int x3, .int x2]) dX6_appendPart_1 (Nat.le_of_ble_eq_true rfl) rfl rfl ?_
  refine mm_wk [true, true, false, true, true] (ls' := [.ref a0, .ref a1, mm_U, .int x3, .int x2]) rfl ?_
  refine ol_X6_appendPart_3  mm_fu a0 a1 x3 x2 h k_a0 k_a1
def bd_X6_copy (a0 : Nat) (a1 : Nat) (h : mm_H) : mm_O := mm_bh (mm_si h a0 1 0) (fun h1 =>
  mm_qv (bd_X6_appendPart a0 a1 0 (mm_i h1 a1 1) h1) (fun h3 =>
  some (none, h3)))
set_option maxHeartbeats 4000000 in
set_option maxRecDepth 100000 in
theorem mt_X6_copy (G : mm_G) (a0 : Nat) (a1 : Nat) (h : mm_H) (k_a0 : mm_kd h a0 = 5) (k_a1 : mm_kd h a1 = 5) : mm_Met G my_X6_copy [.ref a0, .ref a1] h (bd_X6_copy a0 a1 h) := by
  refine mm_met (ls := [.ref a0, .ref a1]) pn_RX6 (Nat.le_of_ble_eq_true rfl) rfl ?_
  unfold bd_X6_copy
  refine ok_aload_n (q := 1) dX6_copy_0 rfl rfl ?_
  refine ok_iconst (q := 2) (v := 0) dX6_copy_1 ci_0 rfl ?_
  refine ok_putI cl_5 (q := 5) (k := 1) dX6_copy_2 (Nat.le_of_ble_eq_true rfl) wd_122 (Or.inl rfl) (fun _ _ _ => rfl) rfl rfl k_a0 rfl (bh_ok (fun h1 e2 => ?_))
  have e2 : h1.1 = h.1 := e2
  refine ok_aload_n (q := 6) dX6_copy_5 rfl rfl ?_
  refine ok_aload_n (q := 7) dX6_copy_6 rfl rfl ?_
  refine ok_iconst (q := 8) (v := 0) dX6_copy_7 ci_0 rfl ?_
  refine ok_aload_n (q := 9) dX6_copy_8 rfl rfl ?_
  refine ok_getI cl_5 (q := 12) (k := 1) dX6_copy_9 (Nat.le_of_ble_eq_true rfl) wd_122 (fun _ _ _ => rfl) (mm_ke e2 k_a1) rfl ?_
  refine mm_cv (q := 15) (mt_X6_appendPart G a0 a1 0 (mm_i h1 a1 1) h1 (mm_ke e2 k_a0) (mm_ke e2 k_a1)) (mm_runV (as := [.ref a1, .int 0, .int (mm_i h1 a1 1)]) (st := []) cl_5 lk_X6_copy_X6_appendPart_39 rfl dX6_copy_12 rfl (Nat.le_of_ble_eq_true rfl) (mm_ke e2 k_a0)) rfl (fun h3 p4 => ?_)
  have k5 : mm_kd h3 a0 = 5 := mm_kd_app p4 (mm_ke e2 k_a0) (by decide)
  have k6 : mm_kd h3 a1 = 5 := mm_kd_app p4 (mm_ke e2 k_a1) (by decide)
  exact ok_ret dX6_copy_15 rfl
def bd_X0_keep (a0 : Nat) (a1 : Nat) (x2 : Int32) (h : mm_H) : mm_O := if (mm_i h a1 1) < x2 then
  (some (some (.int 0), h))
  else
  (mm_gr h a0 0 (fun b1 =>
  if (mm_i h a1 1) ≤ (nI (mm_ln h b1)) then
  (mm_qv (bd_X6_copy a0 a1 h) (fun h3 =>
  some (some (.int 1), h3)))
  else
  (some (some (.int 0), h))))
set_option maxHeartbeats 4000000 in
set_option maxRecDepth 100000 in
theorem mt_X0_keep (G : mm_G) (a0 : Nat) (a1 : Nat) (x2 : Int32) (h : mm_H) (k_a0 : mm_kd h a0 = 5) (k_a1 : mm_kd h a1 = 5) : mm_Met G my_X0_keep [.ref a0, .ref a1, .int x2] h (bd_X0_keep a0 a1 x2 h) := by
  refine mm_met (ls := [.ref a0, .ref a1, .int x2]) pn_RX0 (Nat.le_of_ble_eq_true rfl) rfl ?_
  unfold bd_X0_keep
  refine ok_aload_n (q := 1) dX0_keep_0 rfl rfl ?_
  refine ok_getI cl_5 (q := 4) (k := 1) dX0_keep_1 (Nat.le_of_ble_eq_true rfl) wd_128 (fun _ _ _ => rfl) k_a1 rfl ?_
  refine ok_iload_n (q := 5) dX0_keep_4 rfl rfl ?_
  refine ok_icmp_lt (q := 8) (t := 20) dX0_keep_5 rfl rfl ?_ ?_
  · refine ok_iconst (q := 21) (v := 0) dX0_keep_20 ci_0 rfl ?_
    exact ok_iret (t := .boolean) dX0_keep_21 rfl (by decide)
  · refine ok_aload_n (q := 9) dX0_keep_8 rfl rfl ?_
    refine ok_getI cl_5 (q := 12) (k := 1) dX0_keep_9 (Nat.le_of_ble_eq_true rfl) wd_128 (fun _ _ _ => rfl) k_a1 rfl ?_
    refine ok_aload_n (q := 13) dX0_keep_12 rfl rfl ?_
    refine ok_getR cl_5 (q := 16) (k := 0) dX0_keep_13 (Nat.le_of_ble_eq_true rfl) wd_118 (fun _ _ _ => rfl) kt_5_0 k_a0 rfl (fun b1 k2 => ?_)
    refine ok_alen (q := 17) dX0_keep_16 (by rw [k2]; decide) rfl ?_
    refine ok_icmp_le (q := 20) (t := 22) dX0_keep_17 rfl rfl ?_ ?_
    · refine ok_aload_n (q := 23) dX0_keep_22 rfl rfl ?_
      refine ok_aload_n (q := 24) dX0_keep_23 rfl rfl ?_
      refine mm_cv (q := 27) (mt_X6_copy G a0 a1 h k_a0 k_a1) (mm_runV (as := [.ref a1]) (st := []) cl_5 lk_X0_keep_X6_copy_107 rfl dX0_keep_24 rfl (Nat.le_of_ble_eq_true rfl) k_a0) rfl (fun h3 p4 => ?_)
      have k5 : mm_kd h3 a0 = 5 := mm_kd_app p4 k_a0 (by decide)
      have k6 : mm_kd h3 a1 = 5 := mm_kd_app p4 k_a1 (by decide)
      refine ok_iconst (q := 28) (v := 1) dX0_keep_27 ci_1 rfl ?_
      exact ok_iret (t := .boolean) dX0_keep_28 rfl (by decide)
    · refine ok_iconst (q := 21) (v := 0) dX0_keep_20 ci_0 rfl ?_
      exact ok_iret (t := .boolean) dX0_keep_21 rfl (by decide)
def bd_X0_learn (a0 : Nat) (x1 : Int32) (a2 : Nat) (h : mm_H) : mm_O := if (mm_i h a0 5) = 0 then
  (if x1 = 0 then
  (mm_gr h a0 8 (fun b2 =>
  mm_qi (bd_X0_keep b2 a2 1 h) (fun v6 h4 =>
  if v6 = 0 ∨ v6 = 1 then some (some (.int v6), h4) else none)))
  else
  (if x1 = 1 then
  (mm_gr h a0 9 (fun b11 =>
  mm_qi (bd_X0_keep b11 a2 1 h) (fun v15 h13 =>
  if v15 = 0 ∨ v15 = 1 then some (some (.int v15), h13) else none)))
  else
  (if x1 = 2 then
  (mm_gr h a0 10 (fun b20 =>
  mm_qi (bd_X0_keep b20 a2 32 h) (fun v24 h22 =>
  if v24 = 0 ∨ v24 = 1 then some (some (.int v24), h22) else none)))
  else
  (some (some (.int 0), h)))))
  else
  (some (some (.int 0), h))
set_option maxHeartbeats 4000000 in
set_option maxRecDepth 100000 in
theorem mt_X0_learn (G : mm_G) (a0 : Nat) (x1 : Int32) (a2 : Nat) (h : mm_H) (k_a0 : mm_kd h a0 = 0) (k_a2 : mm_kd h a2 = 5) : mm_Met G my_X0_learn [.ref a0, .int x1, .ref a2] h (bd_X0_learn a0 x1 a2 h) := by
  refine mm_met (ls := [.ref a0, .int x1, .ref a2]) pn_RX0 (Nat.le_of_ble_eq_true rfl) rfl ?_
  unfold bd_X0_learn
  refine ok_aload_n (q := 1) dX0_learn_0 rfl rfl ?_
  refine ok_getI cl_0 (q := 4) (k := 5) dX0_learn_1 (Nat.le_of_ble_eq_true rfl) wd_386 (fun _ _ _ => rfl) k_a0 rfl ?_
  refine ok_if_eq (q := 7) (t := 9) dX0_learn_4 rfl rfl ?_ ?_
  · refine ok_iload_n (q := 10) dX0_learn_9 rfl rfl ?_
    refine mm_sp (fun c1 => ?_) (fun c1 => ?_)
    · refine ok_tableIn (q := 36) dX0_learn_10 (by rw [c1]; decide) (by rw [c1]; decide) (by rw [c1]; rfl) rfl ?_
      refine ok_aload_n (q := 37) dX0_learn_36 rfl rfl ?_
      refine ok_getR cl_0 (q := 40) (k := 8) dX0_learn_37 (Nat.le_of_ble_eq_true rfl) wd_390 (fun _ _ _ => rfl) kt_0_8 k_a0 rfl (fun b2 k3 => ?_)
      refine ok_aload_n (q := 41) dX0_learn_40 rfl rfl ?_
      refine ok_iconst (q := 42) (v := 1) dX0_learn_41 ci_1 rfl ?_
      refine mm_ci (q := 45) (mt_X0_keep G b2 a2 1 h k3 k_a2) (mm_runS (as := [.ref b2, .ref a2, .int 1]) (st := []) lk_X0_learn_X0_keep_96 dX0_learn_42 rfl (Nat.le_of_ble_eq_true rfl)) rfl (fun v6 h4 p5 => ?_)
      have k7 : mm_kd h4 a0 = 0 := mm_kd_app p5 k_a0 (by decide)
      have k8 : mm_kd h4 a2 = 5 := mm_kd_app p5 k_a2 (by decide)
      refine mm_ck (fun c9 => ?_)
      exact ok_iret (t := .boolean) dX0_learn_45 rfl (mm_isb c9).1
    · refine mm_sp (fun c10 => ?_) (fun c10 => ?_)
      · refine ok_tableIn (q := 46) dX0_learn_10 (by rw [c10]; decide) (by rw [c10]; decide) (by rw [c10]; rfl) rfl ?_
        refine ok_aload_n (q := 47) dX0_learn_46 rfl rfl ?_
        refine ok_getR cl_0 (q := 50) (k := 9) dX0_learn_47 (Nat.le_of_ble_eq_true rfl) wd_391 (fun _ _ _ => rfl) kt_0_9 k_a0 rfl (fun b11 k12 => ?_)
        refine ok_aload_n (q := 51) dX0_learn_50 rfl rfl ?_
        refine ok_iconst (q := 52) (v := 1) dX0_learn_51 ci_1 rfl ?_
        refine mm_ci (q := 55) (mt_X0_keep G b11 a2 1 h k12 k_a2) (mm_runS (as := [.ref b11, .ref a2, .int 1]) (st := []) lk_X0_learn_X0_keep_96 dX0_learn_52 rfl (Nat.le_of_ble_eq_true rfl)) rfl (fun v15 h13 p14 => ?_)
        have k16 : mm_kd h13 a0 = 0 := mm_kd_app p14 k_a0 (by decide)
        have k17 : mm_kd h13 a2 = 5 := mm_kd_app p14 k_a2 (by decide)
        refine mm_ck (fun c18 => ?_)
        exact ok_iret (t := .boolean) dX0_learn_55 rfl (mm_isb c18).1
      · refine mm_sp (fun c19 => ?_) (fun c19 => ?_)
        · refine ok_tableIn (q := 56) dX0_learn_10 (by rw [c19]; decide) (by rw [c19]; decide) (by rw [c19]; rfl) rfl ?_
          refine ok_aload_n (q := 57) dX0_learn_56 rfl rfl ?_
          refine ok_getR cl_0 (q := 60) (k := 10) dX0_learn_57 (Nat.le_of_ble_eq_true rfl) wd_392 (fun _ _ _ => rfl) kt_0_10 k_a0 rfl (fun b20 k21 => ?_)
          refine ok_aload_n (q := 61) dX0_learn_60 rfl rfl ?_
          refine ok_bipush (q := 63) (v := 32) dX0_learn_61 cb_32 rfl ?_
          refine mm_ci (q := 66) (mt_X0_keep G b20 a2 32 h k21 k_a2) (mm_runS (as := [.ref b20, .ref a2, .int 32]) (st := []) lk_X0_learn_X0_keep_96 dX0_learn_63 rfl (Nat.le_of_ble_eq_true rfl)) rfl (fun v24 h22 p23 => ?_)
          have k25 : mm_kd h22 a0 = 0 := mm_kd_app p23 k_a0 (by decide)
          have k26 : mm_kd h22 a2 = 5 := mm_kd_app p23 k_a2 (by decide)
          refine mm_ck (fun c27 => ?_)
          exact ok_iret (t := .boolean) dX0_learn_66 rfl (mm_isb c27).1
        · have tc1 := lv_neT c1 (by decide : (0 : Int32).toInt = 0)
          have tc10 := lv_neT c10 (by decide : (1 : Int32).toInt = 1)
          have tc19 := lv_neT c19 (by decide : (2 : Int32).toInt = 2)
          refine ok_tableOut (q := 67) dX0_learn_10 (by omega) rfl ?_
          refine ok_iconst (q := 68) (v := 0) dX0_learn_67 ci_0 rfl ?_
          exact ok_iret (t := .boolean) dX0_learn_68 rfl (by decide)
  · refine ok_iconst (q := 8) (v := 0) dX0_learn_7 ci_0 rfl ?_
    exact ok_iret (t := .boolean) dX0_learn_8 rfl (by decide)
def bd_X4_isFull (a0 : Nat) (h : mm_H) : mm_O := if (mm_i h a0 1) < (32 : Int32) then
  (some (some (.int 0), h))
  else
  (some (some (.int 1), h))
set_option maxHeartbeats 4000000 in
set_option maxRecDepth 100000 in
theorem mt_X4_isFull (G : mm_G) (a0 : Nat) (h : mm_H) (k_a0 : mm_kd h a0 = 3) : mm_Met G my_X4_isFull [.ref a0] h (bd_X4_isFull a0 h) := by
  refine mm_met (ls := [.ref a0]) pn_RX4 (Nat.le_of_ble_eq_true rfl) rfl ?_
  unfold bd_X4_isFull
  refine ok_aload_n (q := 1) dX4_isFull_0 rfl rfl ?_
  refine ok_getI cl_3 (q := 4) (k := 1) dX4_isFull_1 (Nat.le_of_ble_eq_true rfl) wd_304 (fun _ _ _ => rfl) k_a0 rfl ?_
  refine ok_bipush (q := 6) (v := 32) dX4_isFull_4 cb_32 rfl ?_
  refine ok_icmp_lt (q := 9) (t := 13) dX4_isFull_6 rfl rfl ?_ ?_
  · refine ok_iconst (q := 14) (v := 0) dX4_isFull_13 ci_0 rfl ?_
    exact ok_iret (t := .boolean) dX4_isFull_14 rfl (by decide)
  · refine ok_iconst (q := 10) (v := 1) dX4_isFull_9 ci_1 rfl ?_
    refine ok_goto (q := 14) dX4_isFull_10 rfl ?_
    exact ok_iret (t := .boolean) dX4_isFull_14 rfl (by decide)
def bd_X6_clear (a0 : Nat) (h : mm_H) : mm_O := mm_bh (mm_si h a0 1 0) (fun h1 =>
  some (none, h1))
set_option maxHeartbeats 4000000 in
set_option maxRecDepth 100000 in
theorem mt_X6_clear (G : mm_G) (a0 : Nat) (h : mm_H) (k_a0 : mm_kd h a0 = 5) : mm_Met G my_X6_clear [.ref a0] h (bd_X6_clear a0 h) := by
  refine mm_met (ls := [.ref a0]) pn_RX6 (Nat.le_of_ble_eq_true rfl) rfl ?_
  unfold bd_X6_clear
  refine ok_aload_n (q := 1) dX6_clear_0 rfl rfl ?_
  refine ok_iconst (q := 2) (v := 0) dX6_clear_1 ci_0 rfl ?_
  refine ok_putI cl_5 (q := 5) (k := 1) dX6_clear_2 (Nat.le_of_ble_eq_true rfl) wd_122 (Or.inl rfl) (fun _ _ _ => rfl) rfl rfl k_a0 rfl (bh_ok (fun h1 e2 => ?_))
  have e2 : h1.1 = h.1 := e2
  exact ok_ret dX6_clear_5 rfl
def bd_X4_add (a0 : Nat) (h : mm_H) : mm_O := mm_qi (bd_X4_isFull a0 h) (fun v3 h1 =>
  if v3 = 0 then
  (mm_gr h1 a0 0 (fun b5 =>
  if mm_in (mm_i h1 a0 1) (mm_ln h1 b5) = true then (mm_gr h1 b5 (mm_n (mm_i h1 a0 1)) (fun b8 =>
  mm_qv (bd_X6_clear b8 h1) (fun h10 =>
  mm_bh (mm_si h10 a0 1 ((mm_i h10 a0 1) + (1 : Int32))) (fun h14 =>
  some (some (.ref b8), h14))))) else none))
  else
  (some (some .null, h1)))
set_option maxHeartbeats 4000000 in
set_option maxRecDepth 100000 in
theorem mt_X4_add (G : mm_G) (a0 : Nat) (h : mm_H) (k_a0 : mm_kd h a0 = 3) : mm_Met G my_X4_add [.ref a0] h (bd_X4_add a0 h) := by
  refine mm_met (ls := [.ref a0, mm_U]) pn_RX4 (Nat.le_of_ble_eq_true rfl) rfl ?_
  unfold bd_X4_add
  refine ok_aload_n (q := 1) dX4_add_0 rfl rfl ?_
  refine mm_ci (q := 4) (mt_X4_isFull G a0 h k_a0) (mm_runV (as := []) (st := []) cl_3 lk_X4_add_X4_isFull_28 rfl dX4_add_1 rfl (Nat.le_of_ble_eq_true rfl) k_a0) rfl (fun v3 h1 p2 => ?_)
  have k4 : mm_kd h1 a0 = 3 := mm_kd_app p2 k_a0 (by decide)
  refine ok_if_eq (q := 7) (t := 9) dX4_add_4 rfl rfl ?_ ?_
  · refine ok_aload_n (q := 10) dX4_add_9 rfl rfl ?_
    refine ok_getR cl_3 (q := 13) (k := 0) dX4_add_10 (Nat.le_of_ble_eq_true rfl) wd_303 (fun _ _ _ => rfl) kt_3_0 k4 rfl (fun b5 k6 => ?_)
    refine ok_aload_n (q := 14) dX4_add_13 rfl rfl ?_
    refine ok_getI cl_3 (q := 17) (k := 1) dX4_add_14 (Nat.le_of_ble_eq_true rfl) wd_304 (fun _ _ _ => rfl) k4 rfl ?_
    refine mm_ck (fun c7 => ?_)
    refine ok_aald (kb := 5) (q := 18) dX4_add_17 k6 (by decide) c7 rfl (fun b8 k9 => ?_)
    refine ok_astore_n (q := 19) (ls' := [.ref a0, .ref b8]) dX4_add_18 (Nat.le_of_ble_eq_true rfl) rfl rfl ?_
    refine ok_aload_n (q := 20) dX4_add_19 rfl rfl ?_
    refine mm_cv (q := 23) (mt_X6_clear G b8 h1 k9) (mm_runV (as := []) (st := []) cl_5 lk_X4_add_X6_clear_32 rfl dX4_add_20 rfl (Nat.le_of_ble_eq_true rfl) k9) rfl (fun h10 p11 => ?_)
    have k12 : mm_kd h10 a0 = 3 := mm_kd_app p11 k4 (by decide)
    have k13 : mm_kd h10 b8 = 5 := mm_kd_app p11 k9 (by decide)
    refine ok_aload_n (q := 24) dX4_add_23 rfl rfl ?_
    refine ok_dup (q := 25) dX4_add_24 rfl rfl ?_
    refine ok_getI cl_3 (q := 28) (k := 1) dX4_add_25 (Nat.le_of_ble_eq_true rfl) wd_304 (fun _ _ _ => rfl) k12 rfl ?_
    refine ok_iconst (q := 29) (v := 1) dX4_add_28 ci_1 rfl ?_
    refine ok_iadd (q := 30) dX4_add_29 rfl ?_
    refine ok_putI cl_3 (q := 33) (k := 1) dX4_add_30 (Nat.le_of_ble_eq_true rfl) wd_304 (Or.inl rfl) (fun _ _ _ => rfl) rfl rfl k12 rfl (bh_ok (fun h14 e15 => ?_))
    have e15 : h14.1 = h10.1 := e15
    refine ok_aload_n (q := 34) dX4_add_33 rfl rfl ?_
    exact ok_aret dX4_add_34 rfl (Or.inl ⟨_, rfl⟩) kr_5 (mm_ke e15 k13)
  · refine ok_null (q := 8) dX4_add_7 rfl ?_
    exact ok_nret dX4_add_8 rfl (Or.inl ⟨_, rfl⟩)
def bd_X6_append (a0 : Nat) (a1 : Nat) (h : mm_H) : mm_O := mm_qv (bd_X6_appendPart a0 a1 0 (mm_i h a1 1) h) (fun h1 =>
  some (none, h1))
set_option maxHeartbeats 4000000 in
set_option maxRecDepth 100000 in
theorem mt_X6_append (G : mm_G) (a0 : Nat) (a1 : Nat) (h : mm_H) (k_a0 : mm_kd h a0 = 5) (k_a1 : mm_kd h a1 = 5) : mm_Met G my_X6_append [.ref a0, .ref a1] h (bd_X6_append a0 a1 h) := by
  refine mm_met (ls := [.ref a0, .ref a1]) pn_RX6 (Nat.le_of_ble_eq_true rfl) rfl ?_
  unfold bd_X6_append
  refine ok_aload_n (q := 1) dX6_append_0 rfl rfl ?_
  refine ok_aload_n (q := 2) dX6_append_1 rfl rfl ?_
  refine ok_iconst (q := 3) (v := 0) dX6_append_2 ci_0 rfl ?_
  refine ok_aload_n (q := 4) dX6_append_3 rfl rfl ?_
  refine ok_getI cl_5 (q := 7) (k := 1) dX6_append_4 (Nat.le_of_ble_eq_true rfl) wd_122 (fun _ _ _ => rfl) k_a1 rfl ?_
  refine mm_cv (q := 10) (mt_X6_appendPart G a0 a1 0 (mm_i h a1 1) h k_a0 k_a1) (mm_runV (as := [.ref a1, .int 0, .int (mm_i h a1 1)]) (st := []) cl_5 lk_X6_append_X6_appendPart_39 rfl dX6_append_7 rfl (Nat.le_of_ble_eq_true rfl) k_a0) rfl (fun h1 p2 => ?_)
  have k3 : mm_kd h1 a0 = 5 := mm_kd_app p2 k_a0 (by decide)
  have k4 : mm_kd h1 a1 = 5 := mm_kd_app p2 k_a1 (by decide)
  exact ok_ret dX6_append_10 rfl
def bd_X6_put (a0 : Nat) (x1 : Int32) (h : mm_H) : mm_O := mm_gr h a0 0 (fun b1 =>
  if (nI (mm_ln h b1)) ≤ (mm_i h a0 1) then
  (some (none, h))
  else
  (mm_gr h a0 0 (fun b3 =>
  if 32 ≤ b3 ∧ mm_in (mm_i h a0 1) (mm_ln h b3) = true then (mm_bh (mm_si h b3 (mm_n (mm_i h a0 1)) (x1 &&& (255 : Int32))) (fun h6 =>
  mm_bh (mm_si h6 a0 1 ((mm_i h6 a0 1) + (1 : Int32))) (fun h8 =>
  some (none, h8)))) else none)))
set_option maxHeartbeats 4000000 in
set_option maxRecDepth 100000 in
theorem mt_X6_put (G : mm_G) (a0 : Nat) (x1 : Int32) (h : mm_H) (k_a0 : mm_kd h a0 = 5) : mm_Met G my_X6_put [.ref a0, .int x1] h (bd_X6_put a0 x1 h) := by
  refine mm_met (ls := [.ref a0, .int x1]) pn_RX6 (Nat.le_of_ble_eq_true rfl) rfl ?_
  unfold bd_X6_put
  refine ok_aload_n (q := 1) dX6_put_0 rfl rfl ?_
  refine ok_getI cl_5 (q := 4) (k := 1) dX6_put_1 (Nat.le_of_ble_eq_true rfl) wd_122 (fun _ _ _ => rfl) k_a0 rfl ?_
  refine ok_aload_n (q := 5) dX6_put_4 rfl rfl ?_
  refine ok_getR cl_5 (q := 8) (k := 0) dX6_put_5 (Nat.le_of_ble_eq_true rfl) wd_116 (fun _ _ _ => rfl) kt_5_0 k_a0 rfl (fun b1 k2 => ?_)
  refine ok_alen (q := 9) dX6_put_8 (by rw [k2]; decide) rfl ?_
  refine ok_icmp_ge (q := 12) (t := 36) dX6_put_9 rfl rfl ?_ ?_
  · exact ok_ret dX6_put_36 rfl
  · refine ok_aload_n (q := 13) dX6_put_12 rfl rfl ?_
    refine ok_getR cl_5 (q := 16) (k := 0) dX6_put_13 (Nat.le_of_ble_eq_true rfl) wd_116 (fun _ _ _ => rfl) kt_5_0 k_a0 rfl (fun b3 k4 => ?_)
    refine ok_aload_n (q := 17) dX6_put_16 rfl rfl ?_
    refine ok_getI cl_5 (q := 20) (k := 1) dX6_put_17 (Nat.le_of_ble_eq_true rfl) wd_122 (fun _ _ _ => rfl) k_a0 rfl ?_
    refine ok_iload_n (q := 21) dX6_put_20 rfl rfl ?_
    refine ok_sipush (q := 24) (v := 255) dX6_put_21 cs_255 rfl ?_
    refine ok_iand (q := 25) dX6_put_24 rfl ?_
    refine mm_ck (fun c5 => ?_)
    refine ok_iast (q := 26) dX6_put_25 k4 c5.1 c5.2 rfl (bh_ok (fun h6 e7 => ?_))
    have e7 : h6.1 = h.1 := e7
    refine ok_aload_n (q := 27) dX6_put_26 rfl rfl ?_
    refine ok_dup (q := 28) dX6_put_27 rfl rfl ?_
    refine ok_getI cl_5 (q := 31) (k := 1) dX6_put_28 (Nat.le_of_ble_eq_true rfl) wd_122 (fun _ _ _ => rfl) (mm_ke e7 k_a0) rfl ?_
    refine ok_iconst (q := 32) (v := 1) dX6_put_31 ci_1 rfl ?_
    refine ok_iadd (q := 33) dX6_put_32 rfl ?_
    refine ok_putI cl_5 (q := 36) (k := 1) dX6_put_33 (Nat.le_of_ble_eq_true rfl) wd_122 (Or.inl rfl) (fun _ _ _ => rfl) rfl rfl (mm_ke e7 k_a0) rfl (bh_ok (fun h8 e9 => ?_))
    have e9 : h8.1 = h.1 := e9.trans e7
    exact ok_ret dX6_put_36 rfl
def lp_X6_putNumber_4  : Nat → Nat → Int32 → Int32 → mm_H → mm_O
  | 0, _, _, _, _ => none
  | n + 1, a0, x1, x3, h => if x3 < 0 then
  (some (none, h))
  else
  (mm_gr h a0 0 (fun b2 =>
  if (nI (mm_ln h b2)) ≤ (mm_i h a0 1) then
  (some (none, h))
  else
  (mm_gr h a0 0 (fun b4 =>
  if 32 ≤ b4 ∧ mm_in (mm_i h a0 1) (mm_ln h b4) = true then (mm_bh (mm_si h b4 (mm_n (mm_i h a0 1)) ((mm_ush x1 ((8 : Int32) * x3)) &&& (255 : Int32))) (fun h7 =>
  mm_bh (mm_si h7 a0 1 ((mm_i h7 a0 1) + (1 : Int32))) (fun h9 =>
  lp_X6_putNumber_4 n a0 x1 (x3 + (-1)) h9))) else none))))
set_option maxHeartbeats 4000000 in
set_option maxRecDepth 100000 in
theorem ol_X6_putNumber_4 {G : mm_G}   : ∀ (n : Nat) (a0 : Nat) (x1 : Int32) (x3 : Int32) (h : mm_H), mm_kd h a0 = 5 → mm_Ok G my_X6_putNumber 4 [.ref a0, .int x1, mm_U, .int x3] [] h (lp_X6_putNumber_4 n a0 x1 x3 h) := by
  intro n
  induction n with
  | zero => intro a0 x1 x3 h k_a0; exact mm_no
  | succ n ih =>
    intro a0 x1 x3 h k_a0
    rw [lp_X6_putNumber_4]
    refine ok_iload_n (q := 5) dX6_putNumber_4 rfl rfl ?_
    refine ok_if_lt (q := 8) (t := 55) dX6_putNumber_5 rfl rfl ?_ ?_
    · exact ok_ret dX6_putNumber_55 rfl
    · refine ok_aload_n (q := 9) dX6_putNumber_8 rfl rfl ?_
      refine ok_getI cl_5 (q := 12) (k := 1) dX6_putNumber_9 (Nat.le_of_ble_eq_true rfl) wd_122 (fun _ _ _ => rfl) k_a0 rfl ?_
      refine ok_aload_n (q := 13) dX6_putNumber_12 rfl rfl ?_
      refine ok_getR cl_5 (q := 16) (k := 0) dX6_putNumber_13 (Nat.le_of_ble_eq_true rfl) wd_116 (fun _ _ _ => rfl) kt_5_0 k_a0 rfl (fun b2 k3 => ?_)
      refine ok_alen (q := 17) dX6_putNumber_16 (by rw [k3]; decide) rfl ?_
      refine ok_icmp_ge (q := 20) (t := 55) dX6_putNumber_17 rfl rfl ?_ ?_
      · exact ok_ret dX6_putNumber_55 rfl
      · refine ok_aload_n (q := 21) dX6_putNumber_20 rfl rfl ?_
        refine ok_getR cl_5 (q := 24) (k := 0) dX6_putNumber_21 (Nat.le_of_ble_eq_true rfl) wd_116 (fun _ _ _ => rfl) kt_5_0 k_a0 rfl (fun b4 k5 => ?_)
        refine ok_aload_n (q := 25) dX6_putNumber_24 rfl rfl ?_
        refine ok_getI cl_5 (q := 28) (k := 1) dX6_putNumber_25 (Nat.le_of_ble_eq_true rfl) wd_122 (fun _ _ _ => rfl) k_a0 rfl ?_
        refine ok_iload_n (q := 29) dX6_putNumber_28 rfl rfl ?_
        refine ok_bipush (q := 31) (v := 8) dX6_putNumber_29 cb_8 rfl ?_
        refine ok_iload_n (q := 32) dX6_putNumber_31 rfl rfl ?_
        refine ok_imul (q := 33) dX6_putNumber_32 rfl ?_
        refine ok_iushr (q := 34) dX6_putNumber_33 rfl ?_
        refine ok_sipush (q := 37) (v := 255) dX6_putNumber_34 cs_255 rfl ?_
        refine ok_iand (q := 38) dX6_putNumber_37 rfl ?_
        refine mm_ck (fun c6 => ?_)
        refine ok_iast (q := 39) dX6_putNumber_38 k5 c6.1 c6.2 rfl (bh_ok (fun h7 e8 => ?_))
        have e8 : h7.1 = h.1 := e8
        refine ok_aload_n (q := 40) dX6_putNumber_39 rfl rfl ?_
        refine ok_dup (q := 41) dX6_putNumber_40 rfl rfl ?_
        refine ok_getI cl_5 (q := 44) (k := 1) dX6_putNumber_41 (Nat.le_of_ble_eq_true rfl) wd_122 (fun _ _ _ => rfl) (mm_ke e8 k_a0) rfl ?_
        refine ok_iconst (q := 45) (v := 1) dX6_putNumber_44 ci_1 rfl ?_
        refine ok_iadd (q := 46) dX6_putNumber_45 rfl ?_
        refine ok_putI cl_5 (q := 49) (k := 1) dX6_putNumber_46 (Nat.le_of_ble_eq_true rfl) wd_122 (Or.inl rfl) (fun _ _ _ => rfl) rfl rfl (mm_ke e8 k_a0) rfl (bh_ok (fun h9 e10 => ?_))
        have e10 : h9.1 = h.1 := e10.trans e8
        refine ok_iinc (q := 52) (v := x3 + (-1)) (ls' := [.ref a0, .int x1, mm_U, .int (x3 + (-1))]) dX6_putNumber_49 rfl (congrArg (x3 + ·) ci_m1) (Nat.le_of_ble_eq_true rfl) rfl rfl ?_
        refine ok_goto (q := 4) dX6_putNumber_52 rfl ?_
        exact ih a0 x1 (x3 + (-1)) h9 (mm_ke e10 k_a0)
def bd_X6_putNumber (a0 : Nat) (x1 : Int32) (x2 : Int32) (h : mm_H) : mm_O := mm_bi (x2 - (1 : Int32)) (fun v1 =>
  lp_X6_putNumber_4  mm_fu a0 x1 v1 h)
set_option maxHeartbeats 4000000 in
set_option maxRecDepth 100000 in
theorem mt_X6_putNumber (G : mm_G) (a0 : Nat) (x1 : Int32) (x2 : Int32) (h : mm_H) (k_a0 : mm_kd h a0 = 5) : mm_Met G my_X6_putNumber [.ref a0, .int x1, .int x2] h (bd_X6_putNumber a0 x1 x2 h) := by
  refine mm_met (ls := [.ref a0, .int x1, .int x2, mm_U]) pn_RX6 (Nat.le_of_ble_eq_true rfl) rfl ?_
  unfold bd_X6_putNumber
  refine ok_iload_n (q := 1) dX6_putNumber_0 rfl rfl ?_
  refine ok_iconst (q := 2) (v := 1) dX6_putNumber_1 ci_1 rfl ?_
  refine ok_isub (q := 3) dX6_putNumber_2 rfl ?_
  refine bi_ok (fun v1 => ?_)
  refine ok_istore_n (q := 4) (ls' := [.ref a0, .int x1, .int x2, .int v1]) dX6_putNumber_3 (Nat.le_of_ble_eq_true rfl) rfl rfl ?_
  refine mm_wk [true, true, false, true] (ls' := [.ref a0, .int x1, mm_U, .int v1]) rfl ?_
  refine ol_X6_putNumber_4  mm_fu a0 x1 v1 h k_a0
