def jn_X0_isHarmlessChange_23 (a0 : Nat) (s0 : Int32) (h : mm_H) : mm_O := if s0 = 0 then
  (some (some (.int 0), h))
  else
  (if (mm_i h a0 5) = (4 : Int32) then
  (some (some (.int 0), h))
  else
  (if (mm_i h a0 5) = (6 : Int32) then
  (some (some (.int 0), h))
  else
  (some (some (.int 1), h))))
set_option maxHeartbeats 4000000 in
set_option maxRecDepth 100000 in
theorem oj_X0_isHarmlessChange_23 {G : mm_G}   (a0 : Nat) (s0 : Int32) (h : mm_H) (k_a0 : mm_kd h a0 = 0) : mm_Ok G my_X0_isHarmlessChange 23 [.ref a0, mm_U, mm_U] [.int s0] h (jn_X0_isHarmlessChange_23 a0 s0 h) := by
  unfold jn_X0_isHarmlessChange_23
  refine ok_istore_n (q := 24) (ls' := [.ref a0, mm_U, .int s0]) dX0_isHarmlessChange_23 (Nat.le_of_ble_eq_true rfl) rfl rfl ?_
  refine ok_iload_n (q := 25) dX0_isHarmlessChange_24 rfl rfl ?_
  refine ok_if_eq (q := 28) (t := 49) dX0_isHarmlessChange_25 rfl rfl ?_ ?_
  · refine ok_iconst (q := 50) (v := 0) dX0_isHarmlessChange_49 ci_0 rfl ?_
    exact ok_iret (t := .boolean) dX0_isHarmlessChange_50 rfl (by decide)
  · refine ok_aload_n (q := 29) dX0_isHarmlessChange_28 rfl rfl ?_
    refine ok_getI cl_0 (q := 32) (k := 5) dX0_isHarmlessChange_29 (Nat.le_of_ble_eq_true rfl) wd_386 (fun _ _ _ => rfl) k_a0 rfl ?_
    refine ok_iconst (q := 33) (v := 4) dX0_isHarmlessChange_32 ci_4 rfl ?_
    refine ok_icmp_eq (q := 36) (t := 49) dX0_isHarmlessChange_33 rfl rfl ?_ ?_
    · refine ok_iconst (q := 50) (v := 0) dX0_isHarmlessChange_49 ci_0 rfl ?_
      exact ok_iret (t := .boolean) dX0_isHarmlessChange_50 rfl (by decide)
    · refine ok_aload_n (q := 37) dX0_isHarmlessChange_36 rfl rfl ?_
      refine ok_getI cl_0 (q := 40) (k := 5) dX0_isHarmlessChange_37 (Nat.le_of_ble_eq_true rfl) wd_386 (fun _ _ _ => rfl) k_a0 rfl ?_
      refine ok_bipush (q := 42) (v := 6) dX0_isHarmlessChange_40 cb_6 rfl ?_
      refine ok_icmp_eq (q := 45) (t := 49) dX0_isHarmlessChange_42 rfl rfl ?_ ?_
      · refine ok_iconst (q := 50) (v := 0) dX0_isHarmlessChange_49 ci_0 rfl ?_
        exact ok_iret (t := .boolean) dX0_isHarmlessChange_50 rfl (by decide)
      · refine ok_iconst (q := 46) (v := 1) dX0_isHarmlessChange_45 ci_1 rfl ?_
        refine ok_goto (q := 50) dX0_isHarmlessChange_46 rfl ?_
        exact ok_iret (t := .boolean) dX0_isHarmlessChange_50 rfl (by decide)
def jn_X0_isHarmlessChange_22 (a0 : Nat) (h : mm_H) : mm_O := jn_X0_isHarmlessChange_23 a0 0 h
set_option maxHeartbeats 4000000 in
set_option maxRecDepth 100000 in
theorem oj_X0_isHarmlessChange_22 {G : mm_G}   (a0 : Nat) (h : mm_H) (k_a0 : mm_kd h a0 = 0) : mm_Ok G my_X0_isHarmlessChange 22 [.ref a0, mm_U, mm_U] [] h (jn_X0_isHarmlessChange_22 a0 h) := by
  unfold jn_X0_isHarmlessChange_22
  refine ok_iconst (q := 23) (v := 0) dX0_isHarmlessChange_22 ci_0 rfl ?_
  exact oj_X0_isHarmlessChange_23 a0 0 h k_a0
def bd_X0_isHarmlessChange (a0 : Nat) (a1 : Nat) (h : mm_H) : mm_O := if (mm_i h a1 1) = (6 : Int32) then
  (mm_qi (bd_X6_at a1 5 h) (fun v3 h1 =>
  if v3 = (1 : Int32) then
  (jn_X0_isHarmlessChange_23 a0 1 h1)
  else
  (jn_X0_isHarmlessChange_22 a0 h1)))
  else
  (jn_X0_isHarmlessChange_22 a0 h)
set_option maxHeartbeats 4000000 in
set_option maxRecDepth 100000 in
theorem mt_X0_isHarmlessChange (G : mm_G) (a0 : Nat) (a1 : Nat) (h : mm_H) (k_a0 : mm_kd h a0 = 0) (k_a1 : mm_kd h a1 = 5) : mm_Met G my_X0_isHarmlessChange [.ref a0, .ref a1] h (bd_X0_isHarmlessChange a0 a1 h) := by
  refine mm_met (ls := [.ref a0, .ref a1, mm_U]) pn_RX0 (Nat.le_of_ble_eq_true rfl) rfl ?_
  unfold bd_X0_isHarmlessChange
  refine ok_aload_n (q := 1) dX0_isHarmlessChange_0 rfl rfl ?_
  refine ok_getI cl_5 (q := 4) (k := 1) dX0_isHarmlessChange_1 (Nat.le_of_ble_eq_true rfl) wd_128 (fun _ _ _ => rfl) k_a1 rfl ?_
  refine ok_bipush (q := 6) (v := 6) dX0_isHarmlessChange_4 cb_6 rfl ?_
  refine ok_icmp_ne (q := 9) (t := 22) dX0_isHarmlessChange_6 rfl rfl ?_ ?_
  · refine mm_wk [true, false, false] (ls' := [.ref a0, mm_U, mm_U]) rfl ?_
    exact oj_X0_isHarmlessChange_22 a0 h k_a0
  · refine ok_aload_n (q := 10) dX0_isHarmlessChange_9 rfl rfl ?_
    refine ok_iconst (q := 11) (v := 5) dX0_isHarmlessChange_10 ci_5 rfl ?_
    refine mm_ci (q := 14) (mt_X6_at G a1 5 h k_a1) (mm_runV (as := [.int 5]) (st := []) cl_5 lk_X0_isHarmlessChange_X6_at_214 rfl dX0_isHarmlessChange_11 rfl (Nat.le_of_ble_eq_true rfl) k_a1) rfl (fun v3 h1 p2 => ?_)
    have k4 : mm_kd h1 a0 = 0 := mm_kd_app p2 k_a0 (by decide)
    have k5 : mm_kd h1 a1 = 5 := mm_kd_app p2 k_a1 (by decide)
    refine ok_iconst (q := 15) (v := 1) dX0_isHarmlessChange_14 ci_1 rfl ?_
    refine ok_icmp_ne (q := 18) (t := 22) dX0_isHarmlessChange_15 rfl rfl ?_ ?_
    · refine mm_wk [true, false, false] (ls' := [.ref a0, mm_U, mm_U]) rfl ?_
      exact oj_X0_isHarmlessChange_22 a0 h1 k4
    · refine ok_iconst (q := 19) (v := 1) dX0_isHarmlessChange_18 ci_1 rfl ?_
      refine ok_goto (q := 23) dX0_isHarmlessChange_19 rfl ?_
      refine mm_wk [true, false, false] (ls' := [.ref a0, mm_U, mm_U]) rfl ?_
      exact oj_X0_isHarmlessChange_23 a0 1 h1 k4
def bd_X6_cut (a0 : Nat) (x1 : Int32) (h : mm_H) : mm_O := if x1 < 0 then
  (some (none, h))
  else
  (if (mm_i h a0 1) ≤ x1 then
  (some (none, h))
  else
  (mm_bh (mm_si h a0 1 x1) (fun h1 =>
  some (none, h1))))
set_option maxHeartbeats 4000000 in
set_option maxRecDepth 100000 in
theorem mt_X6_cut (G : mm_G) (a0 : Nat) (x1 : Int32) (h : mm_H) (k_a0 : mm_kd h a0 = 5) : mm_Met G my_X6_cut [.ref a0, .int x1] h (bd_X6_cut a0 x1 h) := by
  refine mm_met (ls := [.ref a0, .int x1]) pn_RX6 (Nat.le_of_ble_eq_true rfl) rfl ?_
  unfold bd_X6_cut
  refine ok_iload_n (q := 1) dX6_cut_0 rfl rfl ?_
  refine ok_if_lt (q := 4) (t := 17) dX6_cut_1 rfl rfl ?_ ?_
  · exact ok_ret dX6_cut_17 rfl
  · refine ok_iload_n (q := 5) dX6_cut_4 rfl rfl ?_
    refine ok_aload_n (q := 6) dX6_cut_5 rfl rfl ?_
    refine ok_getI cl_5 (q := 9) (k := 1) dX6_cut_6 (Nat.le_of_ble_eq_true rfl) wd_122 (fun _ _ _ => rfl) k_a0 rfl ?_
    refine ok_icmp_ge (q := 12) (t := 17) dX6_cut_9 rfl rfl ?_ ?_
    · exact ok_ret dX6_cut_17 rfl
    · refine ok_aload_n (q := 13) dX6_cut_12 rfl rfl ?_
      refine ok_iload_n (q := 14) dX6_cut_13 rfl rfl ?_
      refine ok_putI cl_5 (q := 17) (k := 1) dX6_cut_14 (Nat.le_of_ble_eq_true rfl) wd_122 (Or.inl rfl) (fun _ _ _ => rfl) rfl rfl k_a0 rfl (bh_ok (fun h1 e2 => ?_))
      have e2 : h1.1 = h.1 := e2
      exact ok_ret dX6_cut_17 rfl
def lp_X0_takeInnerType_7 (ke_25 : Nat → Int32 → mm_H → mm_O) : Nat → Nat → Int32 → mm_H → mm_O
  | 0, _, _, _ => none
  | n + 1, a0, x1, h => if x1 < 0 then
  (ke_25 a0 x1 h)
  else
  (mm_qi (bd_X6_at a0 x1 h) (fun v4 h2 =>
  if v4 = 0 then
  (lp_X0_takeInnerType_7 ke_25 n a0 (x1 + (-1)) h2)
  else
  (ke_25 a0 x1 h2)))
set_option maxHeartbeats 4000000 in
set_option maxRecDepth 100000 in
theorem ol_X0_takeInnerType_7 {G : mm_G} {ke_25 : Nat → Int32 → mm_H → mm_O} (hke_25 : ∀ (a0 : Nat) (x1 : Int32) (h : mm_H), mm_kd h a0 = 5 → mm_Ok G my_X0_takeInnerType 25 [.ref a0, .int x1, mm_U] [] h (ke_25 a0 x1 h)) : ∀ (n : Nat) (a0 : Nat) (x1 : Int32) (h : mm_H), mm_kd h a0 = 5 → mm_Ok G my_X0_takeInnerType 7 [.ref a0, .int x1, mm_U] [] h (lp_X0_takeInnerType_7 ke_25 n a0 x1 h) := by
  intro n
  induction n with
  | zero => intro a0 x1 h k_a0; exact mm_no
  | succ n ih =>
    intro a0 x1 h k_a0
    rw [lp_X0_takeInnerType_7]
    refine ok_iload_n (q := 8) dX0_takeInnerType_7 rfl rfl ?_
    refine ok_if_lt (q := 11) (t := 25) dX0_takeInnerType_8 rfl rfl ?_ ?_
    · exact hke_25 a0 x1 h k_a0
    · refine ok_aload_n (q := 12) dX0_takeInnerType_11 rfl rfl ?_
      refine ok_iload_n (q := 13) dX0_takeInnerType_12 rfl rfl ?_
      refine mm_ci (q := 16) (mt_X6_at G a0 x1 h k_a0) (mm_runV (as := [.int x1]) (st := []) cl_5 lk_X0_takeInnerType_X6_at_214 rfl dX0_takeInnerType_13 rfl (Nat.le_of_ble_eq_true rfl) k_a0) rfl (fun v4 h2 p3 => ?_)
      have k5 : mm_kd h2 a0 = 5 := mm_kd_app p3 k_a0 (by decide)
      refine ok_if_ne (q := 19) (t := 25) dX0_takeInnerType_16 rfl rfl ?_ ?_
      · exact hke_25 a0 x1 h2 k5
      · refine ok_iinc (q := 22) (v := x1 + (-1)) (ls' := [.ref a0, .int (x1 + (-1)), mm_U]) dX0_takeInnerType_19 rfl (congrArg (x1 + ·) ci_m1) (Nat.le_of_ble_eq_true rfl) rfl rfl ?_
        refine ok_goto (q := 7) dX0_takeInnerType_22 rfl ?_
        exact ih a0 (x1 + (-1)) h2 k5
def bd_X0_takeInnerType (a0 : Nat) (h : mm_H) : mm_O := mm_bi ((mm_i h a0 1) - (1 : Int32)) (fun v1 =>
  lp_X0_takeInnerType_7 (fun b7 v8 h6 => mm_qi (bd_X6_at b7 v8 h6) (fun v11 h9 =>
  mm_qv (bd_X6_cut b7 (if v8 < (0 : Int32) then (0 : Int32) else v8) h9) (fun h13 =>
  some (some (.int v11), h13)))) mm_fu a0 v1 h)
set_option maxHeartbeats 4000000 in
set_option maxRecDepth 100000 in
theorem mt_X0_takeInnerType (G : mm_G) (a0 : Nat) (h : mm_H) (k_a0 : mm_kd h a0 = 5) : mm_Met G my_X0_takeInnerType [.ref a0] h (bd_X0_takeInnerType a0 h) := by
  refine mm_met (ls := [.ref a0, mm_U, mm_U]) pn_RX0 (Nat.le_of_ble_eq_true rfl) rfl ?_
  unfold bd_X0_takeInnerType
  refine ok_aload_n (q := 1) dX0_takeInnerType_0 rfl rfl ?_
  refine ok_getI cl_5 (q := 4) (k := 1) dX0_takeInnerType_1 (Nat.le_of_ble_eq_true rfl) wd_128 (fun _ _ _ => rfl) k_a0 rfl ?_
  refine ok_iconst (q := 5) (v := 1) dX0_takeInnerType_4 ci_1 rfl ?_
  refine ok_isub (q := 6) dX0_takeInnerType_5 rfl ?_
  refine bi_ok (fun v1 => ?_)
  refine ok_istore_n (q := 7) (ls' := [.ref a0, .int v1, mm_U]) dX0_takeInnerType_6 (Nat.le_of_ble_eq_true rfl) rfl rfl ?_
  refine ol_X0_takeInnerType_7 (fun b7 v8 h6 k_b7 => ?_) mm_fu a0 v1 h k_a0
  · refine ok_aload_n (q := 26) dX0_takeInnerType_25 rfl rfl ?_
    refine ok_iload_n (q := 27) dX0_takeInnerType_26 rfl rfl ?_
    refine mm_ci (q := 30) (mt_X6_at G b7 v8 h6 k_b7) (mm_runV (as := [.int v8]) (st := []) cl_5 lk_X0_takeInnerType_X6_at_214 rfl dX0_takeInnerType_27 rfl (Nat.le_of_ble_eq_true rfl) k_b7) rfl (fun v11 h9 p10 => ?_)
    have k12 : mm_kd h9 b7 = 5 := mm_kd_app p10 k_b7 (by decide)
    refine ok_istore_n (q := 31) (ls' := [.ref b7, .int v8, .int v11]) dX0_takeInnerType_30 (Nat.le_of_ble_eq_true rfl) rfl rfl ?_
    refine ok_aload_n (q := 32) dX0_takeInnerType_31 rfl rfl ?_
    refine ok_iload_n (q := 33) dX0_takeInnerType_32 rfl rfl ?_
    refine ok_iconst (q := 34) (v := 0) dX0_takeInnerType_33 ci_0 rfl ?_
    refine ok_max (q := 37) dX0_takeInnerType_34 wd_813 wd_114 wd_83 wd_115 ⟨Nat.le_of_ble_eq_true rfl, Nat.le_of_ble_eq_true rfl⟩ rfl ?_
    refine mm_cv (q := 40) (mt_X6_cut G b7 (if v8 < (0 : Int32) then (0 : Int32) else v8) h9 k12) (mm_runV (as := [.int (if v8 < (0 : Int32) then (0 : Int32) else v8)]) (st := []) cl_5 lk_X0_takeInnerType_X6_cut_246 rfl dX0_takeInnerType_37 rfl (Nat.le_of_ble_eq_true rfl) k12) rfl (fun h13 p14 => ?_)
    have k15 : mm_kd h13 b7 = 5 := mm_kd_app p14 k12 (by decide)
    refine ok_iload_n (q := 41) dX0_takeInnerType_40 rfl rfl ?_
    exact ok_iret (t := .int) dX0_takeInnerType_41 rfl rfl
def bd_X8_open (a0 : Nat) (a1 : Nat) (a2 : Nat) (a3 : Nat) (h : mm_H) : mm_O := mm_bi ((mm_i h a2 1) - (16 : Int32)) (fun v1 =>
  if (5 : Int32) < v1 then
  (mm_qv (bd_X8_aim a0 a1 h) (fun h2 =>
  mm_qv (bd_X8_gather a0 a2 v1 h2) (fun h8 =>
  mm_gr h8 a0 0 (fun b14 =>
  mm_gr h8 a0 3 (fun b16 =>
  mm_gr h8 a0 4 (fun b18 =>
  mm_gr h8 a0 5 (fun b20 =>
  mm_qv (bd_X5_tag b14 b16 b18 b20 h8) (fun h22 =>
  mm_gr h22 a0 5 (fun b28 =>
  mm_qi (bd_X6_hasAt a2 v1 b28 h22) (fun v32 h30 =>
  if v32 = 0 then
  (some (some (.int 0), h30))
  else
  (mm_qv (bd_X6_copyPart a3 a2 5 v1 h30) (fun h37 =>
  mm_qv (bd_X8_mix a0 a3 0 h37) (fun h43 =>
  mm_bh (mm_si h43 a1 3 ((mm_i h43 a1 3) + (1 : Int32))) (fun h49 =>
  some (some (.int 1), h49)))))))))))))))
  else
  (some (some (.int 0), h)))
set_option maxHeartbeats 4000000 in
set_option maxRecDepth 100000 in
theorem mt_X8_open (G : mm_G) (a0 : Nat) (a1 : Nat) (a2 : Nat) (a3 : Nat) (h : mm_H) (k_a0 : mm_kd h a0 = 7) (k_a1 : mm_kd h a1 = 2) (k_a2 : mm_kd h a2 = 5) (k_a3 : mm_kd h a3 = 5) : mm_Met G my_X8_open [.ref a0, .ref a1, .ref a2, .ref a3] h (bd_X8_open a0 a1 a2 a3 h) := by
  refine mm_met (ls := [.ref a0, .ref a1, .ref a2, .ref a3, mm_U]) pn_RX8 (Nat.le_of_ble_eq_true rfl) rfl ?_
  unfold bd_X8_open
  refine ok_aload_n (q := 1) dX8_open_0 rfl rfl ?_
  refine ok_getI cl_5 (q := 4) (k := 1) dX8_open_1 (Nat.le_of_ble_eq_true rfl) wd_125 (fun _ _ _ => rfl) k_a2 rfl ?_
  refine ok_bipush (q := 6) (v := 16) dX8_open_4 cb_16 rfl ?_
  refine ok_isub (q := 7) dX8_open_6 rfl ?_
  refine bi_ok (fun v1 => ?_)
  refine ok_istore (q := 9) (ls' := [.ref a0, .ref a1, .ref a2, .ref a3, .int v1]) dX8_open_7 (Nat.le_of_ble_eq_true rfl) rfl rfl ?_
  refine ok_iload (q := 11) dX8_open_9 rfl rfl ?_
  refine ok_iconst (q := 12) (v := 5) dX8_open_11 ci_5 rfl ?_
  refine ok_icmp_gt (q := 15) (t := 17) dX8_open_12 rfl rfl ?_ ?_
  · refine ok_aload_n (q := 18) dX8_open_17 rfl rfl ?_
    refine ok_aload_n (q := 19) dX8_open_18 rfl rfl ?_
    refine mm_cv (q := 22) (mt_X8_aim G a0 a1 h k_a0 k_a1) (mm_runV (as := [.ref a1]) (st := []) cl_7 lk_X8_open_X8_aim_40 rfl dX8_open_19 rfl (Nat.le_of_ble_eq_true rfl) k_a0) rfl (fun h2 p3 => ?_)
    have k4 : mm_kd h2 a0 = 7 := mm_kd_app p3 k_a0 (by decide)
    have k5 : mm_kd h2 a1 = 2 := mm_kd_app p3 k_a1 (by decide)
    have k6 : mm_kd h2 a2 = 5 := mm_kd_app p3 k_a2 (by decide)
    have k7 : mm_kd h2 a3 = 5 := mm_kd_app p3 k_a3 (by decide)
    refine ok_aload_n (q := 23) dX8_open_22 rfl rfl ?_
    refine ok_aload_n (q := 24) dX8_open_23 rfl rfl ?_
    refine ok_iload (q := 26) dX8_open_24 rfl rfl ?_
    refine mm_cv (q := 29) (mt_X8_gather G a0 a2 v1 h2 k4 k6) (mm_runV (as := [.ref a2, .int v1]) (st := []) cl_7 lk_X8_open_X8_gather_54 rfl dX8_open_26 rfl (Nat.le_of_ble_eq_true rfl) k4) rfl (fun h8 p9 => ?_)
    have k10 : mm_kd h8 a0 = 7 := mm_kd_app p9 k4 (by decide)
    have k11 : mm_kd h8 a1 = 2 := mm_kd_app p9 k5 (by decide)
    have k12 : mm_kd h8 a2 = 5 := mm_kd_app p9 k6 (by decide)
    have k13 : mm_kd h8 a3 = 5 := mm_kd_app p9 k7 (by decide)
    refine ok_aload_n (q := 30) dX8_open_29 rfl rfl ?_
    refine ok_getR cl_7 (q := 33) (k := 0) dX8_open_30 (Nat.le_of_ble_eq_true rfl) wd_219 (fun _ _ _ => rfl) kt_7_0 k10 rfl (fun b14 k15 => ?_)
    refine ok_aload_n (q := 34) dX8_open_33 rfl rfl ?_
    refine ok_getR cl_7 (q := 37) (k := 3) dX8_open_34 (Nat.le_of_ble_eq_true rfl) wd_222 (fun _ _ _ => rfl) kt_7_3 k10 rfl (fun b16 k17 => ?_)
    refine ok_aload_n (q := 38) dX8_open_37 rfl rfl ?_
    refine ok_getR cl_7 (q := 41) (k := 4) dX8_open_38 (Nat.le_of_ble_eq_true rfl) wd_223 (fun _ _ _ => rfl) kt_7_4 k10 rfl (fun b18 k19 => ?_)
    refine ok_aload_n (q := 42) dX8_open_41 rfl rfl ?_
    refine ok_getR cl_7 (q := 45) (k := 5) dX8_open_42 (Nat.le_of_ble_eq_true rfl) wd_224 (fun _ _ _ => rfl) kt_7_5 k10 rfl (fun b20 k21 => ?_)
    refine mm_cv (q := 48) (mt_X5_tag G b14 b16 b18 b20 h8 k15 k17 k19 k21) (mm_runV (as := [.ref b16, .ref b18, .ref b20]) (st := []) cl_4 lk_X8_open_X5_tag_57 rfl dX8_open_45 rfl (Nat.le_of_ble_eq_true rfl) k15) rfl (fun h22 p23 => ?_)
    have k24 : mm_kd h22 a0 = 7 := mm_kd_app p23 k10 (by decide)
    have k25 : mm_kd h22 a1 = 2 := mm_kd_app p23 k11 (by decide)
    have k26 : mm_kd h22 a2 = 5 := mm_kd_app p23 k12 (by decide)
    have k27 : mm_kd h22 a3 = 5 := mm_kd_app p23 k13 (by decide)
    refine ok_aload_n (q := 49) dX8_open_48 rfl rfl ?_
    refine ok_iload (q := 51) dX8_open_49 rfl rfl ?_
    refine ok_aload_n (q := 52) dX8_open_51 rfl rfl ?_
    refine ok_getR cl_7 (q := 55) (k := 5) dX8_open_52 (Nat.le_of_ble_eq_true rfl) wd_224 (fun _ _ _ => rfl) kt_7_5 k24 rfl (fun b28 k29 => ?_)
    refine mm_ci (q := 58) (mt_X6_hasAt G a2 v1 b28 h22 k26 k29) (mm_runV (as := [.int v1, .ref b28]) (st := []) cl_5 lk_X8_open_X6_hasAt_69 rfl dX8_open_55 rfl (Nat.le_of_ble_eq_true rfl) k26) rfl (fun v32 h30 p31 => ?_)
    have k33 : mm_kd h30 a0 = 7 := mm_kd_app p31 k24 (by decide)
    have k34 : mm_kd h30 a1 = 2 := mm_kd_app p31 k25 (by decide)
    have k35 : mm_kd h30 a2 = 5 := mm_kd_app p31 k26 (by decide)
    have k36 : mm_kd h30 a3 = 5 := mm_kd_app p31 k27 (by decide)
    refine ok_if_ne (q := 61) (t := 63) dX8_open_58 rfl rfl ?_ ?_
    · refine ok_aload_n (q := 64) dX8_open_63 rfl rfl ?_
      refine ok_aload_n (q := 65) dX8_open_64 rfl rfl ?_
      refine ok_iconst (q := 66) (v := 5) dX8_open_65 ci_5 rfl ?_
      refine ok_iload (q := 68) dX8_open_66 rfl rfl ?_
      refine mm_cv (q := 71) (mt_X6_copyPart G a3 a2 5 v1 h30 k36 k35) (mm_runV (as := [.ref a2, .int 5, .int v1]) (st := []) cl_5 lk_X8_open_X6_copyPart_73 rfl dX8_open_68 rfl (Nat.le_of_ble_eq_true rfl) k36) rfl (fun h37 p38 => ?_)
      have k39 : mm_kd h37 a0 = 7 := mm_kd_app p38 k33 (by decide)
      have k40 : mm_kd h37 a1 = 2 := mm_kd_app p38 k34 (by decide)
      have k41 : mm_kd h37 a2 = 5 := mm_kd_app p38 k35 (by decide)
      have k42 : mm_kd h37 a3 = 5 := mm_kd_app p38 k36 (by decide)
      refine ok_aload_n (q := 72) dX8_open_71 rfl rfl ?_
      refine ok_aload_n (q := 73) dX8_open_72 rfl rfl ?_
      refine ok_iconst (q := 74) (v := 0) dX8_open_73 ci_0 rfl ?_
      refine mm_cv (q := 77) (mt_X8_mix G a0 a3 0 h37 k39 k42) (mm_runV (as := [.ref a3, .int 0]) (st := []) cl_7 lk_X8_open_X8_mix_46 rfl dX8_open_74 rfl (Nat.le_of_ble_eq_true rfl) k39) rfl (fun h43 p44 => ?_)
      have k45 : mm_kd h43 a0 = 7 := mm_kd_app p44 k39 (by decide)
      have k46 : mm_kd h43 a1 = 2 := mm_kd_app p44 k40 (by decide)
      have k47 : mm_kd h43 a2 = 5 := mm_kd_app p44 k41 (by decide)
      have k48 : mm_kd h43 a3 = 5 := mm_kd_app p44 k42 (by decide)
      refine ok_aload_n (q := 78) dX8_open_77 rfl rfl ?_
      refine ok_dup (q := 79) dX8_open_78 rfl rfl ?_
      refine ok_getI cl_2 (q := 82) (k := 3) dX8_open_79 (Nat.le_of_ble_eq_true rfl) wd_330 (fun _ _ _ => rfl) k46 rfl ?_
      refine ok_iconst (q := 83) (v := 1) dX8_open_82 ci_1 rfl ?_
      refine ok_iadd (q := 84) dX8_open_83 rfl ?_
      refine ok_putI cl_2 (q := 87) (k := 3) dX8_open_84 (Nat.le_of_ble_eq_true rfl) wd_330 (Or.inl rfl) (fun _ _ _ => rfl) rfl rfl k46 rfl (bh_ok (fun h49 e50 => ?_))
      have e50 : h49.1 = h43.1 := e50
      refine ok_iconst (q := 88) (v := 1) dX8_open_87 ci_1 rfl ?_
      exact ok_iret (t := .boolean) dX8_open_88 rfl (by decide)
    · refine ok_iconst (q := 62) (v := 0) dX8_open_61 ci_0 rfl ?_
      exact ok_iret (t := .boolean) dX8_open_62 rfl (by decide)
  · refine ok_iconst (q := 16) (v := 0) dX8_open_15 ci_0 rfl ?_
    exact ok_iret (t := .boolean) dX8_open_16 rfl (by decide)
def jn_X0_unwrap_61 (a0 : Nat) (a1 : Nat) (s0 : Int32) (s1 : Int32) (h : mm_H) : mm_O := if s1 = s0 then
  (mm_gr h a0 3 (fun b10 =>
  if (mm_i h b10 4) = 0 then
  (mm_gr h a0 6 (fun b38 =>
  mm_gr h b38 4 (fun b40 =>
  mm_qv (bd_X6_copyPart b40 a1 5 (mm_i h a1 1) h) (fun h42 =>
  some (some (.int 0), h42)))))
  else
  (mm_gr h a0 6 (fun b12 =>
  mm_gr h b12 2 (fun b14 =>
  mm_gr h a0 3 (fun b16 =>
  mm_gr h a0 6 (fun b18 =>
  mm_gr h b18 4 (fun b20 =>
  mm_qi (bd_X8_open b14 b16 a1 b20 h) (fun v24 h22 =>
  if v24 = 0 then
  (some (some (.int 20), h22))
  else
  (mm_gr h22 a0 6 (fun b27 =>
  mm_gr h22 b27 4 (fun b29 =>
  mm_qi (bd_X0_takeInnerType b29 h22) (fun v33 h31 =>
  mm_bh (mm_si h31 a0 12 v33) (fun h36 =>
  if (mm_i h36 a0 12) = (-1 : Int32) then
  (some (some (.int 10), h36))
  else
  (some (some (.int 0), h36))))))))))))))))
  else
  (some (some (.int 10), h))
set_option maxHeartbeats 4000000 in
set_option maxRecDepth 100000 in
theorem oj_X0_unwrap_61 {G : mm_G}   (a0 : Nat) (a1 : Nat) (s0 : Int32) (s1 : Int32) (h : mm_H) (k_a0 : mm_kd h a0 = 0) (k_a1 : mm_kd h a1 = 5) : mm_Ok G my_X0_unwrap 61 [.ref a0, .ref a1] [.int s0, .int s1] h (jn_X0_unwrap_61 a0 a1 s0 s1 h) := by
  unfold jn_X0_unwrap_61
  refine ok_icmp_eq (q := 64) (t := 67) dX0_unwrap_61 rfl rfl ?_ ?_
  · refine ok_aload_n (q := 68) dX0_unwrap_67 rfl rfl ?_
    refine ok_getR cl_0 (q := 71) (k := 3) dX0_unwrap_68 (Nat.le_of_ble_eq_true rfl) wd_382 (fun _ _ _ => rfl) kt_0_3 k_a0 rfl (fun b10 k11 => ?_)
    refine ok_getI cl_2 (q := 74) (k := 4) dX0_unwrap_71 (Nat.le_of_ble_eq_true rfl) wd_333 (fun _ _ _ => rfl) k11 rfl ?_
    refine ok_if_ne (q := 77) (t := 95) dX0_unwrap_74 rfl rfl ?_ ?_
    · refine ok_aload_n (q := 96) dX0_unwrap_95 rfl rfl ?_
      refine ok_getR cl_0 (q := 99) (k := 6) dX0_unwrap_96 (Nat.le_of_ble_eq_true rfl) wd_388 (fun _ _ _ => rfl) kt_0_6 k_a0 rfl (fun b12 k13 => ?_)
      refine ok_getR cl_9 (q := 102) (k := 2) dX0_unwrap_99 (Nat.le_of_ble_eq_true rfl) wd_246 (fun _ _ _ => rfl) kt_9_2 k13 rfl (fun b14 k15 => ?_)
      refine ok_aload_n (q := 103) dX0_unwrap_102 rfl rfl ?_
      refine ok_getR cl_0 (q := 106) (k := 3) dX0_unwrap_103 (Nat.le_of_ble_eq_true rfl) wd_382 (fun _ _ _ => rfl) kt_0_3 k_a0 rfl (fun b16 k17 => ?_)
      refine ok_aload_n (q := 107) dX0_unwrap_106 rfl rfl ?_
      refine ok_aload_n (q := 108) dX0_unwrap_107 rfl rfl ?_
      refine ok_getR cl_0 (q := 111) (k := 6) dX0_unwrap_108 (Nat.le_of_ble_eq_true rfl) wd_388 (fun _ _ _ => rfl) kt_0_6 k_a0 rfl (fun b18 k19 => ?_)
      refine ok_getR cl_9 (q := 114) (k := 4) dX0_unwrap_111 (Nat.le_of_ble_eq_true rfl) wd_250 (fun _ _ _ => rfl) kt_9_4 k19 rfl (fun b20 k21 => ?_)
      refine mm_ci (q := 117) (mt_X8_open G b14 b16 a1 b20 h k15 k17 k_a1 k21) (mm_runV (as := [.ref b16, .ref a1, .ref b20]) (st := []) cl_7 lk_X0_unwrap_X8_open_231 rfl dX0_unwrap_114 rfl (Nat.le_of_ble_eq_true rfl) k15) rfl (fun v24 h22 p23 => ?_)
      have k25 : mm_kd h22 a0 = 0 := mm_kd_app p23 k_a0 (by decide)
      have k26 : mm_kd h22 a1 = 5 := mm_kd_app p23 k_a1 (by decide)
      refine ok_if_ne (q := 120) (t := 123) dX0_unwrap_117 rfl rfl ?_ ?_
      · refine ok_aload_n (q := 124) dX0_unwrap_123 rfl rfl ?_
        refine ok_aload_n (q := 125) dX0_unwrap_124 rfl rfl ?_
        refine ok_getR cl_0 (q := 128) (k := 6) dX0_unwrap_125 (Nat.le_of_ble_eq_true rfl) wd_388 (fun _ _ _ => rfl) kt_0_6 k25 rfl (fun b27 k28 => ?_)
        refine ok_getR cl_9 (q := 131) (k := 4) dX0_unwrap_128 (Nat.le_of_ble_eq_true rfl) wd_250 (fun _ _ _ => rfl) kt_9_4 k28 rfl (fun b29 k30 => ?_)
        refine mm_ci (q := 134) (mt_X0_takeInnerType G b29 h22 k30) (mm_runS (as := [.ref b29]) (st := [.ref a0]) lk_X0_unwrap_X0_takeInnerType_237 dX0_unwrap_131 rfl (Nat.le_of_ble_eq_true rfl)) rfl (fun v33 h31 p32 => ?_)
        have k34 : mm_kd h31 a0 = 0 := mm_kd_app p32 k25 (by decide)
        have k35 : mm_kd h31 a1 = 5 := mm_kd_app p32 k26 (by decide)
        refine ok_putI cl_0 (q := 137) (k := 12) dX0_unwrap_134 (Nat.le_of_ble_eq_true rfl) wd_394 (Or.inl rfl) (fun _ _ _ => rfl) rfl rfl k34 rfl (bh_ok (fun h36 e37 => ?_))
        have e37 : h36.1 = h31.1 := e37
        refine ok_aload_n (q := 138) dX0_unwrap_137 rfl rfl ?_
        refine ok_getI cl_0 (q := 141) (k := 12) dX0_unwrap_138 (Nat.le_of_ble_eq_true rfl) wd_394 (fun _ _ _ => rfl) (mm_ke e37 k34) rfl ?_
        refine ok_iconst (q := 142) (v := -1) dX0_unwrap_141 ci_m1 rfl ?_
        refine ok_icmp_ne (q := 145) (t := 150) dX0_unwrap_142 rfl rfl ?_ ?_
        · refine ok_iconst (q := 151) (v := 0) dX0_unwrap_150 ci_0 rfl ?_
          exact ok_iret (t := .int) dX0_unwrap_151 rfl rfl
        · refine ok_bipush (q := 147) (v := 10) dX0_unwrap_145 cb_10 rfl ?_
          refine ok_goto (q := 151) dX0_unwrap_147 rfl ?_
          exact ok_iret (t := .int) dX0_unwrap_151 rfl rfl
      · refine ok_bipush (q := 122) (v := 20) dX0_unwrap_120 cb_20 rfl ?_
        exact ok_iret (t := .int) dX0_unwrap_122 rfl rfl
    · refine ok_aload_n (q := 78) dX0_unwrap_77 rfl rfl ?_
      refine ok_getR cl_0 (q := 81) (k := 6) dX0_unwrap_78 (Nat.le_of_ble_eq_true rfl) wd_388 (fun _ _ _ => rfl) kt_0_6 k_a0 rfl (fun b38 k39 => ?_)
      refine ok_getR cl_9 (q := 84) (k := 4) dX0_unwrap_81 (Nat.le_of_ble_eq_true rfl) wd_250 (fun _ _ _ => rfl) kt_9_4 k39 rfl (fun b40 k41 => ?_)
      refine ok_aload_n (q := 85) dX0_unwrap_84 rfl rfl ?_
      refine ok_iconst (q := 86) (v := 5) dX0_unwrap_85 ci_5 rfl ?_
      refine ok_aload_n (q := 87) dX0_unwrap_86 rfl rfl ?_
      refine ok_getI cl_5 (q := 90) (k := 1) dX0_unwrap_87 (Nat.le_of_ble_eq_true rfl) wd_128 (fun _ _ _ => rfl) k_a1 rfl ?_
      refine mm_cv (q := 93) (mt_X6_copyPart G b40 a1 5 (mm_i h a1 1) h k41 k_a1) (mm_runV (as := [.ref a1, .int 5, .int (mm_i h a1 1)]) (st := []) cl_5 lk_X0_unwrap_X6_copyPart_224 rfl dX0_unwrap_90 rfl (Nat.le_of_ble_eq_true rfl) k41) rfl (fun h42 p43 => ?_)
      have k44 : mm_kd h42 a0 = 0 := mm_kd_app p43 k_a0 (by decide)
      have k45 : mm_kd h42 a1 = 5 := mm_kd_app p43 k_a1 (by decide)
      refine ok_iconst (q := 94) (v := 0) dX0_unwrap_93 ci_0 rfl ?_
      exact ok_iret (t := .int) dX0_unwrap_94 rfl rfl
  · refine ok_bipush (q := 66) (v := 10) dX0_unwrap_64 cb_10 rfl ?_
    exact ok_iret (t := .int) dX0_unwrap_66 rfl rfl
def bd_X0_unwrap (a0 : Nat) (a1 : Nat) (h : mm_H) : mm_O := mm_qi (bd_X6_at a1 0 h) (fun v3 h1 =>
  mm_bh (mm_si h1 a0 12 v3) (fun h6 =>
  if (mm_i h6 a0 12) = (20 : Int32) then
  (mm_bh (mm_si h6 a0 12 256) (fun h46 =>
  mm_qi (bd_X0_isHarmlessChange a0 a1 h46) (fun v50 h48 =>
  if v50 = 0 then
  (some (some (.int 10), h48))
  else
  (some (some (.int 0), h48)))))
  else
  (mm_gr h6 a0 3 (fun b8 =>
  if (mm_i h6 a0 12) = (23 : Int32) then
  (jn_X0_unwrap_61 a0 a1 1 (mm_i h6 b8 4) h6)
  else
  (jn_X0_unwrap_61 a0 a1 0 (mm_i h6 b8 4) h6)))))
set_option maxHeartbeats 4000000 in
set_option maxRecDepth 100000 in
theorem mt_X0_unwrap (G : mm_G) (a0 : Nat) (a1 : Nat) (h : mm_H) (k_a0 : mm_kd h a0 = 0) (k_a1 : mm_kd h a1 = 5) : mm_Met G my_X0_unwrap [.ref a0, .ref a1] h (bd_X0_unwrap a0 a1 h) := by
  refine mm_met (ls := [.ref a0, .ref a1]) pn_RX0 (Nat.le_of_ble_eq_true rfl) rfl ?_
  unfold bd_X0_unwrap
  refine ok_aload_n (q := 1) dX0_unwrap_0 rfl rfl ?_
  refine ok_aload_n (q := 2) dX0_unwrap_1 rfl rfl ?_
  refine ok_iconst (q := 3) (v := 0) dX0_unwrap_2 ci_0 rfl ?_
  refine mm_ci (q := 6) (mt_X6_at G a1 0 h k_a1) (mm_runV (as := [.int 0]) (st := [.ref a0]) cl_5 lk_X0_unwrap_X6_at_214 rfl dX0_unwrap_3 rfl (Nat.le_of_ble_eq_true rfl) k_a1) rfl (fun v3 h1 p2 => ?_)
  have k4 : mm_kd h1 a0 = 0 := mm_kd_app p2 k_a0 (by decide)
  have k5 : mm_kd h1 a1 = 5 := mm_kd_app p2 k_a1 (by decide)
  refine ok_putI cl_0 (q := 9) (k := 12) dX0_unwrap_6 (Nat.le_of_ble_eq_true rfl) wd_394 (Or.inl rfl) (fun _ _ _ => rfl) rfl rfl k4 rfl (bh_ok (fun h6 e7 => ?_))
  have e7 : h6.1 = h1.1 := e7
  refine ok_aload_n (q := 10) dX0_unwrap_9 rfl rfl ?_
  refine ok_getI cl_0 (q := 13) (k := 12) dX0_unwrap_10 (Nat.le_of_ble_eq_true rfl) wd_394 (fun _ _ _ => rfl) (mm_ke e7 k4) rfl ?_
  refine ok_bipush (q := 15) (v := 20) dX0_unwrap_13 cb_20 rfl ?_
  refine ok_icmp_ne (q := 18) (t := 40) dX0_unwrap_15 rfl rfl ?_ ?_
  · refine ok_aload_n (q := 41) dX0_unwrap_40 rfl rfl ?_
    refine ok_getR cl_0 (q := 44) (k := 3) dX0_unwrap_41 (Nat.le_of_ble_eq_true rfl) wd_382 (fun _ _ _ => rfl) kt_0_3 (mm_ke e7 k4) rfl (fun b8 k9 => ?_)
    refine ok_getI cl_2 (q := 47) (k := 4) dX0_unwrap_44 (Nat.le_of_ble_eq_true rfl) wd_333 (fun _ _ _ => rfl) (mm_ke e7 (mm_ke e7.symm k9)) rfl ?_
    refine ok_aload_n (q := 48) dX0_unwrap_47 rfl rfl ?_
    refine ok_getI cl_0 (q := 51) (k := 12) dX0_unwrap_48 (Nat.le_of_ble_eq_true rfl) wd_394 (fun _ _ _ => rfl) (mm_ke e7 k4) rfl ?_
    refine ok_bipush (q := 53) (v := 23) dX0_unwrap_51 cb_23 rfl ?_
    refine ok_icmp_ne (q := 56) (t := 60) dX0_unwrap_53 rfl rfl ?_ ?_
    · refine ok_iconst (q := 61) (v := 0) dX0_unwrap_60 ci_0 rfl ?_
      exact oj_X0_unwrap_61 a0 a1 0 (mm_i h6 b8 4) h6 (mm_ke e7 k4) (mm_ke e7 k5)
    · refine ok_iconst (q := 57) (v := 1) dX0_unwrap_56 ci_1 rfl ?_
      refine ok_goto (q := 61) dX0_unwrap_57 rfl ?_
      exact oj_X0_unwrap_61 a0 a1 1 (mm_i h6 b8 4) h6 (mm_ke e7 k4) (mm_ke e7 k5)
  · refine ok_aload_n (q := 19) dX0_unwrap_18 rfl rfl ?_
    refine ok_sipush (q := 22) (v := 256) dX0_unwrap_19 cs_256 rfl ?_
    refine ok_putI cl_0 (q := 25) (k := 12) dX0_unwrap_22 (Nat.le_of_ble_eq_true rfl) wd_394 (Or.inl rfl) (fun _ _ _ => rfl) rfl rfl (mm_ke e7 k4) rfl (bh_ok (fun h46 e47 => ?_))
    have e47 : h46.1 = h1.1 := e47.trans e7
    refine ok_aload_n (q := 26) dX0_unwrap_25 rfl rfl ?_
    refine ok_aload_n (q := 27) dX0_unwrap_26 rfl rfl ?_
    refine mm_ci (q := 30) (mt_X0_isHarmlessChange G a0 a1 h46 (mm_ke e47 k4) (mm_ke e47 k5)) (mm_runV (as := [.ref a1]) (st := []) cl_0 lk_X0_unwrap_X0_isHarmlessChange_217 rfl dX0_unwrap_27 rfl (Nat.le_of_ble_eq_true rfl) (mm_ke e47 k4)) rfl (fun v50 h48 p49 => ?_)
    have k51 : mm_kd h48 a0 = 0 := mm_kd_app p49 (mm_ke e47 k4) (by decide)
    have k52 : mm_kd h48 a1 = 5 := mm_kd_app p49 (mm_ke e47 k5) (by decide)
    refine ok_if_eq (q := 33) (t := 37) dX0_unwrap_30 rfl rfl ?_ ?_
    · refine ok_bipush (q := 39) (v := 10) dX0_unwrap_37 cb_10 rfl ?_
      exact ok_iret (t := .int) dX0_unwrap_39 rfl rfl
    · refine ok_iconst (q := 34) (v := 0) dX0_unwrap_33 ci_0 rfl ?_
      refine ok_goto (q := 39) dX0_unwrap_34 rfl ?_
      exact ok_iret (t := .int) dX0_unwrap_39 rfl rfl
def jn_X0_read_62 (a0 : Nat) (x2 : Int32) (h : mm_H) : mm_O := if x2 = 0 then
  (if (mm_i h a0 13) = 1 then
  (mm_qv (bd_X0_answerHello a0 h) (fun h7 =>
  some (none, h7)))
  else
  (if (mm_i h a0 13) = 2 then
  (mm_qv (bd_X0_takeServerHello a0 h) (fun h11 =>
  some (none, h11)))
  else
  (if (mm_i h a0 13) = 8 then
  (mm_gr h a0 11 (fun b15 =>
  mm_gr h a0 6 (fun b17 =>
  mm_gr h b17 4 (fun b19 =>
  mm_qv (bd_X6_append b15 b19 h) (fun h21 =>
  mm_bh (mm_si h21 a0 5 3) (fun h24 =>
  some (none, h24)))))))
  else
  (if (mm_i h a0 13) = 20 then
  (mm_qv (bd_X0_takeFinished a0 h) (fun h27 =>
  some (none, h27)))
  else
  (if (mm_i h a0 13) = 24 then
  (mm_gr h a0 3 (fun b31 =>
  mm_gr h a0 6 (fun b33 =>
  mm_gr h b33 1 (fun b35 =>
  mm_gr h a0 3 (fun b37 =>
  mm_gr h b37 0 (fun b39 =>
  mm_gr h a0 6 (fun b42 =>
  mm_gr h b42 1 (fun b44 =>
  mm_gr h b44 1 (fun b46 =>
  mm_qv (bd_X2_load b31 b35 b39 14 b46 h) (fun h48 =>
  mm_qi (bd_X0_isAsked a0 h48) (fun v53 h51 =>
  if v53 = 0 then
  (some (none, h51))
  else
  (mm_qi (bd_X0_renew a0 0 h51) (fun v57 h55 =>
  if v57 = 0 then
  (mm_bh (mm_si h55 a0 5 7) (fun h59 =>
  some (none, h59)))
  else
  (some (none, h55)))))))))))))))
  else
  (if (mm_i h a0 13) = 256 then
  (mm_qv (bd_X0_heed a0 h) (fun h62 =>
  some (none, h62)))
  else
  (if (mm_i h a0 13) = 257 then
  (mm_gr h a0 1 (fun b66 =>
  mm_gr h a0 6 (fun b68 =>
  mm_gr h b68 4 (fun b70 =>
  mm_qv (bd_X6_append b66 b70 h) (fun h72 =>
  some (none, h72))))))
  else
  (some (none, h)))))))))
  else
  (mm_qv (bd_X0_fail a0 x2 h) (fun h75 =>
  some (none, h75)))
set_option maxHeartbeats 4000000 in
set_option maxRecDepth 100000 in
theorem oj_X0_read_62 {G : mm_G}   (a0 : Nat) (x2 : Int32) (h : mm_H) (k_a0 : mm_kd h a0 = 0) : mm_Ok G my_X0_read 62 [.ref a0, mm_U, .int x2] [] h (jn_X0_read_62 a0 x2 h) := by
  unfold jn_X0_read_62
  refine ok_iload_n (q := 63) dX0_read_62 rfl rfl ?_
  refine ok_if_eq (q := 66) (t := 72) dX0_read_63 rfl rfl ?_ ?_
  · refine ok_aload_n (q := 73) dX0_read_72 rfl rfl ?_
    refine ok_getI cl_0 (q := 76) (k := 13) dX0_read_73 (Nat.le_of_ble_eq_true rfl) wd_395 (fun _ _ _ => rfl) k_a0 rfl ?_
    refine mm_sp (fun c6 => ?_) (fun c6 => ?_)
    · refine ok_lookup (q := 168) dX0_read_76 (by decide) (by rw [c6]; rfl) ?_
      refine ok_aload_n (q := 169) dX0_read_168 rfl rfl ?_
      refine mm_cv (q := 172) (mt_X0_answerHello G a0 h k_a0) (mm_runV (as := []) (st := []) cl_0 lk_X0_read_X0_answerHello_194 rfl dX0_read_169 rfl (Nat.le_of_ble_eq_true rfl) k_a0) rfl (fun h7 p8 => ?_)
      have k9 : mm_kd h7 a0 = 0 := mm_kd_app p8 k_a0 (by decide)
      refine ok_goto (q := 268) dX0_read_172 rfl ?_
      exact ok_ret dX0_read_268 rfl
    · refine mm_sp (fun c10 => ?_) (fun c10 => ?_)
      · refine ok_lookup (q := 175) dX0_read_76 (by decide) (by rw [c10]; rfl) ?_
        refine ok_aload_n (q := 176) dX0_read_175 rfl rfl ?_
        refine mm_cv (q := 179) (mt_X0_takeServerHello G a0 h k_a0) (mm_runV (as := []) (st := []) cl_0 lk_X0_read_X0_takeServerHello_197 rfl dX0_read_176 rfl (Nat.le_of_ble_eq_true rfl) k_a0) rfl (fun h11 p12 => ?_)
        have k13 : mm_kd h11 a0 = 0 := mm_kd_app p12 k_a0 (by decide)
        refine ok_goto (q := 268) dX0_read_179 rfl ?_
        exact ok_ret dX0_read_268 rfl
      · refine mm_sp (fun c14 => ?_) (fun c14 => ?_)
        · refine ok_lookup (q := 182) dX0_read_76 (by decide) (by rw [c14]; rfl) ?_
          refine ok_aload_n (q := 183) dX0_read_182 rfl rfl ?_
          refine ok_getR cl_0 (q := 186) (k := 11) dX0_read_183 (Nat.le_of_ble_eq_true rfl) wd_393 (fun _ _ _ => rfl) kt_0_11 k_a0 rfl (fun b15 k16 => ?_)
          refine ok_aload_n (q := 187) dX0_read_186 rfl rfl ?_
          refine ok_getR cl_0 (q := 190) (k := 6) dX0_read_187 (Nat.le_of_ble_eq_true rfl) wd_388 (fun _ _ _ => rfl) kt_0_6 k_a0 rfl (fun b17 k18 => ?_)
          refine ok_getR cl_9 (q := 193) (k := 4) dX0_read_190 (Nat.le_of_ble_eq_true rfl) wd_250 (fun _ _ _ => rfl) kt_9_4 k18 rfl (fun b19 k20 => ?_)
          refine mm_cv (q := 196) (mt_X6_append G b15 b19 h k16 k20) (mm_runV (as := [.ref b19]) (st := []) cl_5 lk_X0_read_X6_append_137 rfl dX0_read_193 rfl (Nat.le_of_ble_eq_true rfl) k16) rfl (fun h21 p22 => ?_)
          have k23 : mm_kd h21 a0 = 0 := mm_kd_app p22 k_a0 (by decide)
          refine ok_aload_n (q := 197) dX0_read_196 rfl rfl ?_
          refine ok_iconst (q := 198) (v := 3) dX0_read_197 ci_3 rfl ?_
          refine ok_putI cl_0 (q := 201) (k := 5) dX0_read_198 (Nat.le_of_ble_eq_true rfl) wd_386 (Or.inl rfl) (fun _ _ _ => rfl) rfl rfl k23 rfl (bh_ok (fun h24 e25 => ?_))
          have e25 : h24.1 = h21.1 := e25
          refine ok_goto (q := 268) dX0_read_201 rfl ?_
          exact ok_ret dX0_read_268 rfl
        · refine mm_sp (fun c26 => ?_) (fun c26 => ?_)
          · refine ok_lookup (q := 204) dX0_read_76 (by decide) (by rw [c26]; rfl) ?_
            refine ok_aload_n (q := 205) dX0_read_204 rfl rfl ?_
            refine mm_cv (q := 208) (mt_X0_takeFinished G a0 h k_a0) (mm_runV (as := []) (st := []) cl_0 lk_X0_read_X0_takeFinished_200 rfl dX0_read_205 rfl (Nat.le_of_ble_eq_true rfl) k_a0) rfl (fun h27 p28 => ?_)
            have k29 : mm_kd h27 a0 = 0 := mm_kd_app p28 k_a0 (by decide)
            refine ok_goto (q := 268) dX0_read_208 rfl ?_
            exact ok_ret dX0_read_268 rfl
          · refine mm_sp (fun c30 => ?_) (fun c30 => ?_)
            · refine ok_lookup (q := 211) dX0_read_76 (by decide) (by rw [c30]; rfl) ?_
              refine ok_aload_n (q := 212) dX0_read_211 rfl rfl ?_
              refine ok_getR cl_0 (q := 215) (k := 3) dX0_read_212 (Nat.le_of_ble_eq_true rfl) wd_382 (fun _ _ _ => rfl) kt_0_3 k_a0 rfl (fun b31 k32 => ?_)
              refine ok_aload_n (q := 216) dX0_read_215 rfl rfl ?_
              refine ok_getR cl_0 (q := 219) (k := 6) dX0_read_216 (Nat.le_of_ble_eq_true rfl) wd_388 (fun _ _ _ => rfl) kt_0_6 k_a0 rfl (fun b33 k34 => ?_)
              refine ok_getR cl_9 (q := 222) (k := 1) dX0_read_219 (Nat.le_of_ble_eq_true rfl) wd_244 (fun _ _ _ => rfl) kt_9_1 k34 rfl (fun b35 k36 => ?_)
              refine ok_aload_n (q := 223) dX0_read_222 rfl rfl ?_
              refine ok_getR cl_0 (q := 226) (k := 3) dX0_read_223 (Nat.le_of_ble_eq_true rfl) wd_382 (fun _ _ _ => rfl) kt_0_3 k_a0 rfl (fun b37 k38 => ?_)
              refine ok_getR cl_2 (q := 229) (k := 0) dX0_read_226 (Nat.le_of_ble_eq_true rfl) wd_323 (fun _ _ _ => rfl) kt_2_0 k38 rfl (fun b39 k40 => ?_)
              refine ok_ldcS (q := 231) (a := 14) (tx := "traffic upd") (by decide +kernel) dX0_read_229 (by decide) rfl (fun k41 => ?_)
              refine ok_aload_n (q := 232) dX0_read_231 rfl rfl ?_
              refine ok_getR cl_0 (q := 235) (k := 6) dX0_read_232 (Nat.le_of_ble_eq_true rfl) wd_388 (fun _ _ _ => rfl) kt_0_6 k_a0 rfl (fun b42 k43 => ?_)
              refine ok_getR cl_9 (q := 238) (k := 1) dX0_read_235 (Nat.le_of_ble_eq_true rfl) wd_244 (fun _ _ _ => rfl) kt_9_1 k43 rfl (fun b44 k45 => ?_)
              refine ok_getR cl_1 (q := 241) (k := 1) dX0_read_238 (Nat.le_of_ble_eq_true rfl) wd_172 (fun _ _ _ => rfl) kt_1_1 k45 rfl (fun b46 k47 => ?_)
              refine mm_cv (q := 244) (mt_X2_load G b31 b35 b39 14 b46 h k32 k36 k40 k41 k47) (mm_runV (as := [.ref b35, .ref b39, .ref 14, .ref b46]) (st := []) cl_2 lk_X0_read_X2_load_158 rfl dX0_read_241 rfl (Nat.le_of_ble_eq_true rfl) k32) rfl (fun h48 p49 => ?_)
              have k50 : mm_kd h48 a0 = 0 := mm_kd_app p49 k_a0 (by decide)
              refine ok_aload_n (q := 245) dX0_read_244 rfl rfl ?_
              refine mm_ci (q := 248) (mt_X0_isAsked G a0 h48 k50) (mm_runV (as := []) (st := []) cl_0 lk_X0_read_X0_isAsked_203 rfl dX0_read_245 rfl (Nat.le_of_ble_eq_true rfl) k50) rfl (fun v53 h51 p52 => ?_)
              have k54 : mm_kd h51 a0 = 0 := mm_kd_app p52 k50 (by decide)
              refine ok_if_eq (q := 251) (t := 268) dX0_read_248 rfl rfl ?_ ?_
              · exact ok_ret dX0_read_268 rfl
              · refine ok_aload_n (q := 252) dX0_read_251 rfl rfl ?_
                refine ok_iconst (q := 253) (v := 0) dX0_read_252 ci_0 rfl ?_
                refine mm_ci (q := 256) (mt_X0_renew G a0 0 h51 k54) (mm_runV (as := [.int 0]) (st := []) cl_0 lk_X0_read_X0_renew_206 rfl dX0_read_253 rfl (Nat.le_of_ble_eq_true rfl) k54) rfl (fun v57 h55 p56 => ?_)
                have k58 : mm_kd h55 a0 = 0 := mm_kd_app p56 k54 (by decide)
                refine ok_if_ne (q := 259) (t := 268) dX0_read_256 rfl rfl ?_ ?_
                · exact ok_ret dX0_read_268 rfl
                · refine ok_aload_n (q := 260) dX0_read_259 rfl rfl ?_
                  refine ok_bipush (q := 262) (v := 7) dX0_read_260 cb_7 rfl ?_
                  refine ok_putI cl_0 (q := 265) (k := 5) dX0_read_262 (Nat.le_of_ble_eq_true rfl) wd_386 (Or.inl rfl) (fun _ _ _ => rfl) rfl rfl k58 rfl (bh_ok (fun h59 e60 => ?_))
                  have e60 : h59.1 = h55.1 := e60
                  refine ok_goto (q := 268) dX0_read_265 rfl ?_
                  exact ok_ret dX0_read_268 rfl
            · refine mm_sp (fun c61 => ?_) (fun c61 => ?_)
              · refine ok_lookup (q := 144) dX0_read_76 (by decide) (by rw [c61]; rfl) ?_
                refine ok_aload_n (q := 145) dX0_read_144 rfl rfl ?_
                refine mm_cv (q := 148) (mt_X0_heed G a0 h k_a0) (mm_runV (as := []) (st := []) cl_0 lk_X0_read_X0_heed_188 rfl dX0_read_145 rfl (Nat.le_of_ble_eq_true rfl) k_a0) rfl (fun h62 p63 => ?_)
                have k64 : mm_kd h62 a0 = 0 := mm_kd_app p63 k_a0 (by decide)
                refine ok_goto (q := 268) dX0_read_148 rfl ?_
                exact ok_ret dX0_read_268 rfl
              · refine mm_sp (fun c65 => ?_) (fun c65 => ?_)
                · refine ok_lookup (q := 151) dX0_read_76 (by decide) (by rw [c65]; rfl) ?_
                  refine ok_aload_n (q := 152) dX0_read_151 rfl rfl ?_
                  refine ok_getR cl_0 (q := 155) (k := 1) dX0_read_152 (Nat.le_of_ble_eq_true rfl) wd_378 (fun _ _ _ => rfl) kt_0_1 k_a0 rfl (fun b66 k67 => ?_)
                  refine ok_aload_n (q := 156) dX0_read_155 rfl rfl ?_
                  refine ok_getR cl_0 (q := 159) (k := 6) dX0_read_156 (Nat.le_of_ble_eq_true rfl) wd_388 (fun _ _ _ => rfl) kt_0_6 k_a0 rfl (fun b68 k69 => ?_)
                  refine ok_getR cl_9 (q := 162) (k := 4) dX0_read_159 (Nat.le_of_ble_eq_true rfl) wd_250 (fun _ _ _ => rfl) kt_9_4 k69 rfl (fun b70 k71 => ?_)
                  refine mm_cv (q := 165) (mt_X6_append G b66 b70 h k67 k71) (mm_runV (as := [.ref b70]) (st := []) cl_5 lk_X0_read_X6_append_137 rfl dX0_read_162 rfl (Nat.le_of_ble_eq_true rfl) k67) rfl (fun h72 p73 => ?_)
                  have k74 : mm_kd h72 a0 = 0 := mm_kd_app p73 k_a0 (by decide)
                  refine ok_goto (q := 268) dX0_read_165 rfl ?_
                  exact ok_ret dX0_read_268 rfl
                · refine ok_lookup (q := 268) dX0_read_76 (by decide) (by rw [lv_osw c6 (by decide : (1 : Int32).toInt = 1), lv_osw c10 (by decide : (2 : Int32).toInt = 2), lv_osw c14 (by decide : (8 : Int32).toInt = 8), lv_osw c26 (by decide : (20 : Int32).toInt = 20), lv_osw c30 (by decide : (24 : Int32).toInt = 24), lv_osw c61 (by decide : (256 : Int32).toInt = 256), lv_osw c65 (by decide : (257 : Int32).toInt = 257)]; rfl) ?_
                  exact ok_ret dX0_read_268 rfl
  · refine ok_aload_n (q := 67) dX0_read_66 rfl rfl ?_
    refine ok_iload_n (q := 68) dX0_read_67 rfl rfl ?_
    refine mm_cv (q := 71) (mt_X0_fail G a0 x2 h k_a0) (mm_runV (as := [.int x2]) (st := []) cl_0 lk_X0_read_X0_fail_185 rfl dX0_read_68 rfl (Nat.le_of_ble_eq_true rfl) k_a0) rfl (fun h75 p76 => ?_)
    have k77 : mm_kd h75 a0 = 0 := mm_kd_app p76 k_a0 (by decide)
    exact ok_ret dX0_read_71 rfl
def jn_X0_read_48 (a0 : Nat) (x2 : Int32) (h : mm_H) : mm_O := if x2 = 0 then
  (mm_qi (bd_X0_isProven a0 h) (fun v80 h78 =>
  if v80 = 0 then
  (jn_X0_read_62 a0 51 h78)
  else
  (jn_X0_read_62 a0 x2 h78)))
  else
  (jn_X0_read_62 a0 x2 h)
set_option maxHeartbeats 4000000 in
set_option maxRecDepth 100000 in
theorem oj_X0_read_48 {G : mm_G}   (a0 : Nat) (x2 : Int32) (h : mm_H) (k_a0 : mm_kd h a0 = 0) : mm_Ok G my_X0_read 48 [.ref a0, mm_U, .int x2] [] h (jn_X0_read_48 a0 x2 h) := by
  unfold jn_X0_read_48
  refine ok_iload_n (q := 49) dX0_read_48 rfl rfl ?_
  refine ok_if_ne (q := 52) (t := 62) dX0_read_49 rfl rfl ?_ ?_
  · exact oj_X0_read_62 a0 x2 h k_a0
  · refine ok_aload_n (q := 53) dX0_read_52 rfl rfl ?_
    refine mm_ci (q := 56) (mt_X0_isProven G a0 h k_a0) (mm_runV (as := []) (st := []) cl_0 lk_X0_read_X0_isProven_181 rfl dX0_read_53 rfl (Nat.le_of_ble_eq_true rfl) k_a0) rfl (fun v80 h78 p79 => ?_)
    have k81 : mm_kd h78 a0 = 0 := mm_kd_app p79 k_a0 (by decide)
    refine ok_if_ne (q := 59) (t := 62) dX0_read_56 rfl rfl ?_ ?_
    · exact oj_X0_read_62 a0 x2 h78 k81
    · refine ok_bipush (q := 61) (v := 51) dX0_read_59 cb_51 rfl ?_
      refine ok_istore_n (q := 62) (ls' := [.ref a0, mm_U, .int 51]) dX0_read_61 (Nat.le_of_ble_eq_true rfl) rfl rfl ?_
      exact oj_X0_read_62 a0 51 h78 k81
def jn_X0_read_39 (a0 : Nat) (x2 : Int32) (h : mm_H) : mm_O := if x2 = 0 then
  (mm_qi (bd_X0_lookAtContent a0 h) (fun v84 h82 =>
  jn_X0_read_48 a0 v84 h82))
  else
  (jn_X0_read_48 a0 x2 h)
set_option maxHeartbeats 4000000 in
set_option maxRecDepth 100000 in
theorem oj_X0_read_39 {G : mm_G}   (a0 : Nat) (x2 : Int32) (h : mm_H) (k_a0 : mm_kd h a0 = 0) : mm_Ok G my_X0_read 39 [.ref a0, mm_U, .int x2] [] h (jn_X0_read_39 a0 x2 h) := by
  unfold jn_X0_read_39
  refine ok_iload_n (q := 40) dX0_read_39 rfl rfl ?_
  refine ok_if_ne (q := 43) (t := 48) dX0_read_40 rfl rfl ?_ ?_
  · exact oj_X0_read_48 a0 x2 h k_a0
  · refine ok_aload_n (q := 44) dX0_read_43 rfl rfl ?_
    refine mm_ci (q := 47) (mt_X0_lookAtContent G a0 h k_a0) (mm_runV (as := []) (st := []) cl_0 lk_X0_read_X0_lookAtContent_177 rfl dX0_read_44 rfl (Nat.le_of_ble_eq_true rfl) k_a0) rfl (fun v84 h82 p83 => ?_)
    have k85 : mm_kd h82 a0 = 0 := mm_kd_app p83 k_a0 (by decide)
    refine ok_istore_n (q := 48) (ls' := [.ref a0, mm_U, .int v84]) dX0_read_47 (Nat.le_of_ble_eq_true rfl) rfl rfl ?_
    exact oj_X0_read_48 a0 v84 h82 k85
def bd_X0_read (a0 : Nat) (a1 : Nat) (h : mm_H) : mm_O := if (mm_i h a0 5) = 0 then
  (some (none, h))
  else
  (if (mm_i h a0 5) = (7 : Int32) then
  (some (none, h))
  else
  (if (mm_i h a0 17) = 0 then
  (mm_qi (bd_X0_lookAtFrame a1 h) (fun v3 h1 =>
  if v3 = 0 then
  (mm_qi (bd_X0_unwrap a0 a1 h1) (fun v88 h86 =>
  jn_X0_read_39 a0 v88 h86))
  else
  (jn_X0_read_39 a0 v3 h1)))
  else
  (some (none, h))))
set_option maxHeartbeats 4000000 in
set_option maxRecDepth 100000 in
theorem mt_X0_read (G : mm_G) (a0 : Nat) (a1 : Nat) (h : mm_H) (k_a0 : mm_kd h a0 = 0) (k_a1 : mm_kd h a1 = 5) : mm_Met G my_X0_read [.ref a0, .ref a1] h (bd_X0_read a0 a1 h) := by
  refine mm_met (ls := [.ref a0, .ref a1, mm_U]) pn_RX0 (Nat.le_of_ble_eq_true rfl) rfl ?_
  unfold bd_X0_read
  refine ok_aload_n (q := 1) dX0_read_0 rfl rfl ?_
  refine ok_getI cl_0 (q := 4) (k := 5) dX0_read_1 (Nat.le_of_ble_eq_true rfl) wd_386 (fun _ _ _ => rfl) k_a0 rfl ?_
  refine ok_if_eq (q := 7) (t := 23) dX0_read_4 rfl rfl ?_ ?_
  · exact ok_ret dX0_read_23 rfl
  · refine ok_aload_n (q := 8) dX0_read_7 rfl rfl ?_
    refine ok_getI cl_0 (q := 11) (k := 5) dX0_read_8 (Nat.le_of_ble_eq_true rfl) wd_386 (fun _ _ _ => rfl) k_a0 rfl ?_
    refine ok_bipush (q := 13) (v := 7) dX0_read_11 cb_7 rfl ?_
    refine ok_icmp_eq (q := 16) (t := 23) dX0_read_13 rfl rfl ?_ ?_
    · exact ok_ret dX0_read_23 rfl
    · refine ok_aload_n (q := 17) dX0_read_16 rfl rfl ?_
      refine ok_getI cl_0 (q := 20) (k := 17) dX0_read_17 (Nat.le_of_ble_eq_true rfl) wd_399 (fun _ _ _ => rfl) k_a0 rfl ?_
      refine ok_if_eq (q := 23) (t := 24) dX0_read_20 rfl rfl ?_ ?_
      · refine ok_aload_n (q := 25) dX0_read_24 rfl rfl ?_
        refine mm_ci (q := 28) (mt_X0_lookAtFrame G a1 h k_a1) (mm_runS (as := [.ref a1]) (st := []) lk_X0_read_X0_lookAtFrame_170 dX0_read_25 rfl (Nat.le_of_ble_eq_true rfl)) rfl (fun v3 h1 p2 => ?_)
        have k4 : mm_kd h1 a0 = 0 := mm_kd_app p2 k_a0 (by decide)
        have k5 : mm_kd h1 a1 = 5 := mm_kd_app p2 k_a1 (by decide)
        refine ok_istore_n (q := 29) (ls' := [.ref a0, .ref a1, .int v3]) dX0_read_28 (Nat.le_of_ble_eq_true rfl) rfl rfl ?_
        refine ok_iload_n (q := 30) dX0_read_29 rfl rfl ?_
        refine ok_if_ne (q := 33) (t := 39) dX0_read_30 rfl rfl ?_ ?_
        · refine mm_wk [true, false, true] (ls' := [.ref a0, mm_U, .int v3]) rfl ?_
          exact oj_X0_read_39 a0 v3 h1 k4
        · refine ok_aload_n (q := 34) dX0_read_33 rfl rfl ?_
          refine ok_aload_n (q := 35) dX0_read_34 rfl rfl ?_
          refine mm_ci (q := 38) (mt_X0_unwrap G a0 a1 h1 k4 k5) (mm_runV (as := [.ref a1]) (st := []) cl_0 lk_X0_read_X0_unwrap_174 rfl dX0_read_35 rfl (Nat.le_of_ble_eq_true rfl) k4) rfl (fun v88 h86 p87 => ?_)
          have k89 : mm_kd h86 a0 = 0 := mm_kd_app p87 k4 (by decide)
          have k90 : mm_kd h86 a1 = 5 := mm_kd_app p87 k5 (by decide)
          refine ok_istore_n (q := 39) (ls' := [.ref a0, .ref a1, .int v88]) dX0_read_38 (Nat.le_of_ble_eq_true rfl) rfl rfl ?_
          refine mm_wk [true, false, true] (ls' := [.ref a0, mm_U, .int v88]) rfl ?_
          exact oj_X0_read_39 a0 v88 h86 k89
      · exact ok_ret dX0_read_23 rfl
def bd_X1_init (a0 : Nat) (a1 : Nat) (h : mm_H) : mm_O := mm_bh (mm_sr h a0 0 (some a1)) (fun h1 =>
  mm_nw h1 5 2 (fun b3 h4 =>
  mm_qv (bd_X6_init b3 0 h4) (fun h9 =>
  mm_bh (mm_sr h9 a0 1 (some b3)) (fun h14 =>
  mm_nw h14 5 2 (fun b16 h17 =>
  mm_qv (bd_X6_init b16 32 h17) (fun h22 =>
  mm_bh (mm_sr h22 a0 2 (some b16)) (fun h27 =>
  mm_gr h27 a0 2 (fun b29 =>
  mm_bh (mm_si h27 b29 1 32) (fun h31 =>
  mm_nw h31 5 2 (fun b33 h34 =>
  mm_qv (bd_X6_init b33 128 h34) (fun h39 =>
  mm_bh (mm_sr h39 a0 3 (some b33)) (fun h44 =>
  mm_nw h44 5 2 (fun b46 h47 =>
  mm_qv (bd_X6_init b46 32 h47) (fun h52 =>
  mm_bh (mm_sr h52 a0 4 (some b46)) (fun h57 =>
  mm_nw h57 5 2 (fun b59 h60 =>
  mm_qv (bd_X6_init b59 55 h60) (fun h65 =>
  mm_bh (mm_sr h65 a0 5 (some b59)) (fun h70 =>
  mm_nw h70 5 2 (fun b72 h73 =>
  mm_qv (bd_X6_init b72 32 h73) (fun h78 =>
  mm_bh (mm_sr h78 a0 6 (some b72)) (fun h83 =>
  some (none, h83))))))))))))))))))))))
set_option maxHeartbeats 4000000 in
set_option maxRecDepth 100000 in
theorem mt_X1_init (G : mm_G) (a0 : Nat) (a1 : Nat) (h : mm_H) (k_a0 : mm_kd h a0 = 1) (k_a1 : mm_kd h a1 = 8) : mm_Met G my_X1_init [.ref a0, .ref a1] h (bd_X1_init a0 a1 h) := by
  refine mm_met (ls := [.ref a0, .ref a1]) pn_RX1 (Nat.le_of_ble_eq_true rfl) rfl ?_
  unfold bd_X1_init
  refine ok_aload_n (q := 1) dX1_init_0 rfl rfl ?_
  refine ok_objInit (q := 4) dX1_init_1 wd_164 wd_105 wd_106 ⟨Nat.le_of_ble_eq_true rfl, Nat.le_of_ble_eq_true rfl⟩ rfl ?_
  refine ok_aload_n (q := 5) dX1_init_4 rfl rfl ?_
  refine ok_aload_n (q := 6) dX1_init_5 rfl rfl ?_
  refine ok_putR cl_1 (q := 9) (k := 0) dX1_init_6 (Nat.le_of_ble_eq_true rfl) wd_167 (Or.inr ⟨rfl, rfl, rfl⟩) (fun _ _ _ => rfl) (fun _ => rfl) (fun _ => rfl) kt_1_0 (by decide) k_a0 k_a1 rfl (bh_ok (fun h1 e2 => ?_))
  have e2 : h1.1 = h.1 := e2
  refine ok_aload_n (q := 10) dX1_init_9 rfl rfl ?_
  refine ok_new cl_5 (q := 13) dX1_init_10 wd_165 wd_108 wd_82 tf_5 rfl (fun hk => nw_ok hk (fun b3 h4 p5 k6 => ?_))
  have k7 : mm_kd h4 a0 = 1 := mm_kd_app p5 (mm_ke e2 k_a0) (by decide)
  have k8 : mm_kd h4 a1 = 8 := mm_kd_app p5 (mm_ke e2 k_a1) (by decide)
  refine ok_dup (q := 14) dX1_init_13 rfl rfl ?_
  refine ok_iconst (q := 15) (v := 0) dX1_init_14 ci_0 rfl ?_
  refine mm_cv (q := 18) (mt_X6_init G b3 0 h4 k6) (mm_runI (as := [.int 0]) (st := [.ref b3, .ref a0]) (a := b3) lk_X1_init_X6_init_17 dX1_init_15 rfl (Nat.le_of_ble_eq_true rfl)) rfl (fun h9 p10 => ?_)
  have k11 : mm_kd h9 a0 = 1 := mm_kd_app p10 k7 (by decide)
  have k12 : mm_kd h9 a1 = 8 := mm_kd_app p10 k8 (by decide)
  have k13 : mm_kd h9 b3 = 5 := mm_kd_app p10 k6 (by decide)
  refine ok_putR cl_1 (q := 21) (k := 1) dX1_init_18 (Nat.le_of_ble_eq_true rfl) wd_169 (Or.inr ⟨rfl, rfl, rfl⟩) (fun _ _ _ => rfl) (fun _ => rfl) (fun _ => rfl) kt_1_1 (by decide) k11 k13 rfl (bh_ok (fun h14 e15 => ?_))
  have e15 : h14.1 = h9.1 := e15
  refine ok_aload_n (q := 22) dX1_init_21 rfl rfl ?_
  refine ok_new cl_5 (q := 25) dX1_init_22 wd_165 wd_108 wd_82 tf_5 rfl (fun hk => nw_ok hk (fun b16 h17 p18 k19 => ?_))
  have k20 : mm_kd h17 a0 = 1 := mm_kd_app p18 (mm_ke e15 k11) (by decide)
  have k21 : mm_kd h17 a1 = 8 := mm_kd_app p18 (mm_ke e15 k12) (by decide)
  refine ok_dup (q := 26) dX1_init_25 rfl rfl ?_
  refine ok_bipush (q := 28) (v := 32) dX1_init_26 cb_32 rfl ?_
  refine mm_cv (q := 31) (mt_X6_init G b16 32 h17 k19) (mm_runI (as := [.int 32]) (st := [.ref b16, .ref a0]) (a := b16) lk_X1_init_X6_init_17 dX1_init_28 rfl (Nat.le_of_ble_eq_true rfl)) rfl (fun h22 p23 => ?_)
  have k24 : mm_kd h22 a0 = 1 := mm_kd_app p23 k20 (by decide)
  have k25 : mm_kd h22 a1 = 8 := mm_kd_app p23 k21 (by decide)
  have k26 : mm_kd h22 b16 = 5 := mm_kd_app p23 k19 (by decide)
  refine ok_putR cl_1 (q := 34) (k := 2) dX1_init_31 (Nat.le_of_ble_eq_true rfl) wd_173 (Or.inr ⟨rfl, rfl, rfl⟩) (fun _ _ _ => rfl) (fun _ => rfl) (fun _ => rfl) kt_1_2 (by decide) k24 k26 rfl (bh_ok (fun h27 e28 => ?_))
  have e28 : h27.1 = h22.1 := e28
  refine ok_aload_n (q := 35) dX1_init_34 rfl rfl ?_
  refine ok_getR cl_1 (q := 38) (k := 2) dX1_init_35 (Nat.le_of_ble_eq_true rfl) wd_173 (fun _ _ _ => rfl) kt_1_2 (mm_ke e28 k24) rfl (fun b29 k30 => ?_)
  refine ok_bipush (q := 40) (v := 32) dX1_init_38 cb_32 rfl ?_
  refine ok_putI cl_5 (q := 43) (k := 1) dX1_init_40 (Nat.le_of_ble_eq_true rfl) wd_123 (Or.inl rfl) (fun _ _ _ => rfl) rfl rfl (mm_ke e28 (mm_ke e28.symm k30)) rfl (bh_ok (fun h31 e32 => ?_))
  have e32 : h31.1 = h22.1 := e32.trans e28
  refine ok_aload_n (q := 44) dX1_init_43 rfl rfl ?_
  refine ok_new cl_5 (q := 47) dX1_init_44 wd_165 wd_108 wd_82 tf_5 rfl (fun hk => nw_ok hk (fun b33 h34 p35 k36 => ?_))
  have k37 : mm_kd h34 a0 = 1 := mm_kd_app p35 (mm_ke e32 k24) (by decide)
  have k38 : mm_kd h34 a1 = 8 := mm_kd_app p35 (mm_ke e32 k25) (by decide)
  refine ok_dup (q := 48) dX1_init_47 rfl rfl ?_
  refine ok_sipush (q := 51) (v := 128) dX1_init_48 cs_128 rfl ?_
  refine mm_cv (q := 54) (mt_X6_init G b33 128 h34 k36) (mm_runI (as := [.int 128]) (st := [.ref b33, .ref a0]) (a := b33) lk_X1_init_X6_init_17 dX1_init_51 rfl (Nat.le_of_ble_eq_true rfl)) rfl (fun h39 p40 => ?_)
  have k41 : mm_kd h39 a0 = 1 := mm_kd_app p40 k37 (by decide)
  have k42 : mm_kd h39 a1 = 8 := mm_kd_app p40 k38 (by decide)
  have k43 : mm_kd h39 b33 = 5 := mm_kd_app p40 k36 (by decide)
  refine ok_putR cl_1 (q := 57) (k := 3) dX1_init_54 (Nat.le_of_ble_eq_true rfl) wd_175 (Or.inr ⟨rfl, rfl, rfl⟩) (fun _ _ _ => rfl) (fun _ => rfl) (fun _ => rfl) kt_1_3 (by decide) k41 k43 rfl (bh_ok (fun h44 e45 => ?_))
  have e45 : h44.1 = h39.1 := e45
  refine ok_aload_n (q := 58) dX1_init_57 rfl rfl ?_
  refine ok_new cl_5 (q := 61) dX1_init_58 wd_165 wd_108 wd_82 tf_5 rfl (fun hk => nw_ok hk (fun b46 h47 p48 k49 => ?_))
  have k50 : mm_kd h47 a0 = 1 := mm_kd_app p48 (mm_ke e45 k41) (by decide)
  have k51 : mm_kd h47 a1 = 8 := mm_kd_app p48 (mm_ke e45 k42) (by decide)
  refine ok_dup (q := 62) dX1_init_61 rfl rfl ?_
  refine ok_bipush (q := 64) (v := 32) dX1_init_62 cb_32 rfl ?_
  refine mm_cv (q := 67) (mt_X6_init G b46 32 h47 k49) (mm_runI (as := [.int 32]) (st := [.ref b46, .ref a0]) (a := b46) lk_X1_init_X6_init_17 dX1_init_64 rfl (Nat.le_of_ble_eq_true rfl)) rfl (fun h52 p53 => ?_)
  have k54 : mm_kd h52 a0 = 1 := mm_kd_app p53 k50 (by decide)
  have k55 : mm_kd h52 a1 = 8 := mm_kd_app p53 k51 (by decide)
  have k56 : mm_kd h52 b46 = 5 := mm_kd_app p53 k49 (by decide)
  refine ok_putR cl_1 (q := 70) (k := 4) dX1_init_67 (Nat.le_of_ble_eq_true rfl) wd_176 (Or.inr ⟨rfl, rfl, rfl⟩) (fun _ _ _ => rfl) (fun _ => rfl) (fun _ => rfl) kt_1_4 (by decide) k54 k56 rfl (bh_ok (fun h57 e58 => ?_))
  have e58 : h57.1 = h52.1 := e58
  refine ok_aload_n (q := 71) dX1_init_70 rfl rfl ?_
  refine ok_new cl_5 (q := 74) dX1_init_71 wd_165 wd_108 wd_82 tf_5 rfl (fun hk => nw_ok hk (fun b59 h60 p61 k62 => ?_))
  have k63 : mm_kd h60 a0 = 1 := mm_kd_app p61 (mm_ke e58 k54) (by decide)
  have k64 : mm_kd h60 a1 = 8 := mm_kd_app p61 (mm_ke e58 k55) (by decide)
  refine ok_dup (q := 75) dX1_init_74 rfl rfl ?_
  refine ok_bipush (q := 77) (v := 55) dX1_init_75 cb_55 rfl ?_
  refine mm_cv (q := 80) (mt_X6_init G b59 55 h60 k62) (mm_runI (as := [.int 55]) (st := [.ref b59, .ref a0]) (a := b59) lk_X1_init_X6_init_17 dX1_init_77 rfl (Nat.le_of_ble_eq_true rfl)) rfl (fun h65 p66 => ?_)
  have k67 : mm_kd h65 a0 = 1 := mm_kd_app p66 k63 (by decide)
  have k68 : mm_kd h65 a1 = 8 := mm_kd_app p66 k64 (by decide)
  have k69 : mm_kd h65 b59 = 5 := mm_kd_app p66 k62 (by decide)
  refine ok_putR cl_1 (q := 83) (k := 5) dX1_init_80 (Nat.le_of_ble_eq_true rfl) wd_177 (Or.inr ⟨rfl, rfl, rfl⟩) (fun _ _ _ => rfl) (fun _ => rfl) (fun _ => rfl) kt_1_5 (by decide) k67 k69 rfl (bh_ok (fun h70 e71 => ?_))
  have e71 : h70.1 = h65.1 := e71
  refine ok_aload_n (q := 84) dX1_init_83 rfl rfl ?_
  refine ok_new cl_5 (q := 87) dX1_init_84 wd_165 wd_108 wd_82 tf_5 rfl (fun hk => nw_ok hk (fun b72 h73 p74 k75 => ?_))
  have k76 : mm_kd h73 a0 = 1 := mm_kd_app p74 (mm_ke e71 k67) (by decide)
  have k77 : mm_kd h73 a1 = 8 := mm_kd_app p74 (mm_ke e71 k68) (by decide)
  refine ok_dup (q := 88) dX1_init_87 rfl rfl ?_
  refine ok_bipush (q := 90) (v := 32) dX1_init_88 cb_32 rfl ?_
  refine mm_cv (q := 93) (mt_X6_init G b72 32 h73 k75) (mm_runI (as := [.int 32]) (st := [.ref b72, .ref a0]) (a := b72) lk_X1_init_X6_init_17 dX1_init_90 rfl (Nat.le_of_ble_eq_true rfl)) rfl (fun h78 p79 => ?_)
  have k80 : mm_kd h78 a0 = 1 := mm_kd_app p79 k76 (by decide)
  have k81 : mm_kd h78 a1 = 8 := mm_kd_app p79 k77 (by decide)
  have k82 : mm_kd h78 b72 = 5 := mm_kd_app p79 k75 (by decide)
  refine ok_putR cl_1 (q := 96) (k := 6) dX1_init_93 (Nat.le_of_ble_eq_true rfl) wd_178 (Or.inr ⟨rfl, rfl, rfl⟩) (fun _ _ _ => rfl) (fun _ => rfl) (fun _ => rfl) kt_1_6 (by decide) k80 k82 rfl (bh_ok (fun h83 e84 => ?_))
  have e84 : h83.1 = h78.1 := e84
  exact ok_ret dX1_init_96 rfl
def bd_X4_first (a0 : Nat) (h : mm_H) : mm_O := mm_gr h a0 0 (fun b1 =>
  if mm_in (0 : Int32) (mm_ln h b1) = true then (mm_gr h b1 (mm_n (0 : Int32)) (fun b4 =>
  some (some (.ref b4), h))) else none)
set_option maxHeartbeats 4000000 in
set_option maxRecDepth 100000 in
theorem mt_X4_first (G : mm_G) (a0 : Nat) (h : mm_H) (k_a0 : mm_kd h a0 = 3) : mm_Met G my_X4_first [.ref a0] h (bd_X4_first a0 h) := by
  refine mm_met (ls := [.ref a0]) pn_RX4 (Nat.le_of_ble_eq_true rfl) rfl ?_
  unfold bd_X4_first
  refine ok_aload_n (q := 1) dX4_first_0 rfl rfl ?_
  refine ok_getR cl_3 (q := 4) (k := 0) dX4_first_1 (Nat.le_of_ble_eq_true rfl) wd_303 (fun _ _ _ => rfl) kt_3_0 k_a0 rfl (fun b1 k2 => ?_)
  refine ok_iconst (q := 5) (v := 0) dX4_first_4 ci_0 rfl ?_
  refine mm_ck (fun c3 => ?_)
  refine ok_aald (kb := 5) (q := 6) dX4_first_5 k2 (by decide) c3 rfl (fun b4 k5 => ?_)
  exact ok_aret dX4_first_6 rfl (Or.inl ⟨_, rfl⟩) kr_5 k5
def bd_X4_byteOf (a0 : Nat) (x1 : Int32) (x2 : Int32) (h : mm_H) : mm_O := if x1 < 0 then
  (some (some (.int (-1)), h))
  else
  (if (mm_i h a0 1) ≤ x1 then
  (some (some (.int (-1)), h))
  else
  (mm_gr h a0 0 (fun b1 =>
  if mm_in x1 (mm_ln h b1) = true then (mm_gr h b1 (mm_n x1) (fun b4 =>
  mm_qi (bd_X6_at b4 x2 h) (fun v8 h6 =>
  some (some (.int v8), h6)))) else none)))
set_option maxHeartbeats 4000000 in
set_option maxRecDepth 100000 in
theorem mt_X4_byteOf (G : mm_G) (a0 : Nat) (x1 : Int32) (x2 : Int32) (h : mm_H) (k_a0 : mm_kd h a0 = 3) : mm_Met G my_X4_byteOf [.ref a0, .int x1, .int x2] h (bd_X4_byteOf a0 x1 x2 h) := by
  refine mm_met (ls := [.ref a0, .int x1, .int x2]) pn_RX4 (Nat.le_of_ble_eq_true rfl) rfl ?_
  unfold bd_X4_byteOf
  refine ok_iload_n (q := 1) dX4_byteOf_0 rfl rfl ?_
  refine ok_if_lt (q := 4) (t := 25) dX4_byteOf_1 rfl rfl ?_ ?_
  · refine ok_iconst (q := 26) (v := -1) dX4_byteOf_25 ci_m1 rfl ?_
    exact ok_iret (t := .int) dX4_byteOf_26 rfl rfl
  · refine ok_iload_n (q := 5) dX4_byteOf_4 rfl rfl ?_
    refine ok_aload_n (q := 6) dX4_byteOf_5 rfl rfl ?_
    refine ok_getI cl_3 (q := 9) (k := 1) dX4_byteOf_6 (Nat.le_of_ble_eq_true rfl) wd_304 (fun _ _ _ => rfl) k_a0 rfl ?_
    refine ok_icmp_ge (q := 12) (t := 25) dX4_byteOf_9 rfl rfl ?_ ?_
    · refine ok_iconst (q := 26) (v := -1) dX4_byteOf_25 ci_m1 rfl ?_
      exact ok_iret (t := .int) dX4_byteOf_26 rfl rfl
    · refine ok_aload_n (q := 13) dX4_byteOf_12 rfl rfl ?_
      refine ok_getR cl_3 (q := 16) (k := 0) dX4_byteOf_13 (Nat.le_of_ble_eq_true rfl) wd_303 (fun _ _ _ => rfl) kt_3_0 k_a0 rfl (fun b1 k2 => ?_)
      refine ok_iload_n (q := 17) dX4_byteOf_16 rfl rfl ?_
      refine mm_ck (fun c3 => ?_)
      refine ok_aald (kb := 5) (q := 18) dX4_byteOf_17 k2 (by decide) c3 rfl (fun b4 k5 => ?_)
      refine ok_iload_n (q := 19) dX4_byteOf_18 rfl rfl ?_
      refine mm_ci (q := 22) (mt_X6_at G b4 x2 h k5) (mm_runV (as := [.int x2]) (st := []) cl_5 lk_X4_byteOf_X6_at_24 rfl dX4_byteOf_19 rfl (Nat.le_of_ble_eq_true rfl) k5) rfl (fun v8 h6 p7 => ?_)
      have k9 : mm_kd h6 a0 = 3 := mm_kd_app p7 k_a0 (by decide)
      refine ok_goto (q := 26) dX4_byteOf_22 rfl ?_
      exact ok_iret (t := .int) dX4_byteOf_26 rfl rfl
def lp_X4_drop_18 (ke_46 : Nat → Nat → mm_H → mm_O) : Nat → Nat → Nat → Int32 → mm_H → mm_O
  | 0, _, _, _, _ => none
  | n + 1, a0, a1, x2, h => if (mm_i h a0 1) ≤ x2 then
  (ke_46 a0 a1 h)
  else
  (mm_gr h a0 0 (fun b6 =>
  mm_gr h a0 0 (fun b8 =>
  if mm_in x2 (mm_ln h b8) = true then (mm_gr h b8 (mm_n x2) (fun b11 =>
  if mm_in (x2 - (1 : Int32)) (mm_ln h b6) = true then (mm_bh (mm_sr h b6 (mm_n (x2 - (1 : Int32))) (some b11)) (fun h14 =>
  lp_X4_drop_18 ke_46 n a0 a1 (x2 + 1) h14)) else none)) else none)))
set_option maxHeartbeats 4000000 in
set_option maxRecDepth 100000 in
theorem ol_X4_drop_18 {G : mm_G} {ke_46 : Nat → Nat → mm_H → mm_O} (hke_46 : ∀ (a0 : Nat) (a1 : Nat) (h : mm_H), mm_kd h a0 = 3 → mm_kd h a1 = 5 → mm_Ok G my_X4_drop 46 [.ref a0, .ref a1, mm_U] [] h (ke_46 a0 a1 h)) : ∀ (n : Nat) (a0 : Nat) (a1 : Nat) (x2 : Int32) (h : mm_H), mm_kd h a0 = 3 → mm_kd h a1 = 5 → mm_Ok G my_X4_drop 18 [.ref a0, .ref a1, .int x2] [] h (lp_X4_drop_18 ke_46 n a0 a1 x2 h) := by
  intro n
  induction n with
  | zero => intro a0 a1 x2 h k_a0 k_a1; exact mm_no
  | succ n ih =>
    intro a0 a1 x2 h k_a0 k_a1
    rw [lp_X4_drop_18]
    refine ok_iload_n (q := 19) dX4_drop_18 rfl rfl ?_
    refine ok_aload_n (q := 20) dX4_drop_19 rfl rfl ?_
    refine ok_getI cl_3 (q := 23) (k := 1) dX4_drop_20 (Nat.le_of_ble_eq_true rfl) wd_304 (fun _ _ _ => rfl) k_a0 rfl ?_
    refine ok_icmp_ge (q := 26) (t := 46) dX4_drop_23 rfl rfl ?_ ?_
    · refine mm_wk [true, true, false] (ls' := [.ref a0, .ref a1, mm_U]) rfl ?_
      exact hke_46 a0 a1 h k_a0 k_a1
    · refine ok_aload_n (q := 27) dX4_drop_26 rfl rfl ?_
      refine ok_getR cl_3 (q := 30) (k := 0) dX4_drop_27 (Nat.le_of_ble_eq_true rfl) wd_303 (fun _ _ _ => rfl) kt_3_0 k_a0 rfl (fun b6 k7 => ?_)
      refine ok_iload_n (q := 31) dX4_drop_30 rfl rfl ?_
      refine ok_iconst (q := 32) (v := 1) dX4_drop_31 ci_1 rfl ?_
      refine ok_isub (q := 33) dX4_drop_32 rfl ?_
      refine ok_aload_n (q := 34) dX4_drop_33 rfl rfl ?_
      refine ok_getR cl_3 (q := 37) (k := 0) dX4_drop_34 (Nat.le_of_ble_eq_true rfl) wd_303 (fun _ _ _ => rfl) kt_3_0 k_a0 rfl (fun b8 k9 => ?_)
      refine ok_iload_n (q := 38) dX4_drop_37 rfl rfl ?_
      refine mm_ck (fun c10 => ?_)
      refine ok_aald (kb := 5) (q := 39) dX4_drop_38 k9 (by decide) c10 rfl (fun b11 k12 => ?_)
      refine mm_ck (fun c13 => ?_)
      refine ok_aast (kb := 5) (q := 40) dX4_drop_39 k7 (by decide) k12 c13 rfl (bh_ok (fun h14 e15 => ?_))
      have e15 : h14.1 = h.1 := e15
      refine ok_iinc (q := 43) (v := x2 + 1) (ls' := [.ref a0, .ref a1, .int (x2 + 1)]) dX4_drop_40 rfl (congrArg (x2 + ·) ci_1) (Nat.le_of_ble_eq_true rfl) rfl rfl ?_
      refine ok_goto (q := 18) dX4_drop_43 rfl ?_
      exact ih a0 a1 (x2 + 1) h14 (mm_ke e15 k_a0) (mm_ke e15 k_a1)
def bd_X4_drop (a0 : Nat) (h : mm_H) : mm_O := if (mm_i h a0 1) = 0 then
  (some (some (.int 0), h))
  else
  (mm_gr h a0 0 (fun b1 =>
  if mm_in (0 : Int32) (mm_ln h b1) = true then (mm_gr h b1 (mm_n (0 : Int32)) (fun b4 =>
  lp_X4_drop_18 (fun b17 b18 h16 => mm_bh (mm_si h16 b17 1 ((mm_i h16 b17 1) - (1 : Int32))) (fun h19 =>
  mm_gr h19 b17 0 (fun b21 =>
  if mm_in (mm_i h19 b17 1) (mm_ln h19 b21) = true then (mm_bh (mm_sr h19 b21 (mm_n (mm_i h19 b17 1)) (some b18)) (fun h24 =>
  some (some (.int 1), h24))) else none))) mm_fu a0 b4 1 h)) else none))
set_option maxHeartbeats 4000000 in
set_option maxRecDepth 100000 in
theorem mt_X4_drop (G : mm_G) (a0 : Nat) (h : mm_H) (k_a0 : mm_kd h a0 = 3) : mm_Met G my_X4_drop [.ref a0] h (bd_X4_drop a0 h) := by
  refine mm_met (ls := [.ref a0, mm_U, mm_U]) pn_RX4 (Nat.le_of_ble_eq_true rfl) rfl ?_
  unfold bd_X4_drop
  refine ok_aload_n (q := 1) dX4_drop_0 rfl rfl ?_
  refine ok_getI cl_3 (q := 4) (k := 1) dX4_drop_1 (Nat.le_of_ble_eq_true rfl) wd_304 (fun _ _ _ => rfl) k_a0 rfl ?_
  refine ok_if_ne (q := 7) (t := 9) dX4_drop_4 rfl rfl ?_ ?_
  · refine ok_aload_n (q := 10) dX4_drop_9 rfl rfl ?_
    refine ok_getR cl_3 (q := 13) (k := 0) dX4_drop_10 (Nat.le_of_ble_eq_true rfl) wd_303 (fun _ _ _ => rfl) kt_3_0 k_a0 rfl (fun b1 k2 => ?_)
    refine ok_iconst (q := 14) (v := 0) dX4_drop_13 ci_0 rfl ?_
    refine mm_ck (fun c3 => ?_)
    refine ok_aald (kb := 5) (q := 15) dX4_drop_14 k2 (by decide) c3 rfl (fun b4 k5 => ?_)
    refine ok_astore_n (q := 16) (ls' := [.ref a0, .ref b4, mm_U]) dX4_drop_15 (Nat.le_of_ble_eq_true rfl) rfl rfl ?_
    refine ok_iconst (q := 17) (v := 1) dX4_drop_16 ci_1 rfl ?_
    refine ok_istore_n (q := 18) (ls' := [.ref a0, .ref b4, .int 1]) dX4_drop_17 (Nat.le_of_ble_eq_true rfl) rfl rfl ?_
    refine ol_X4_drop_18 (fun b17 b18 h16 k_b17 k_b18 => ?_) mm_fu a0 b4 1 h k_a0 k5
    · refine ok_aload_n (q := 47) dX4_drop_46 rfl rfl ?_
      refine ok_dup (q := 48) dX4_drop_47 rfl rfl ?_
      refine ok_getI cl_3 (q := 51) (k := 1) dX4_drop_48 (Nat.le_of_ble_eq_true rfl) wd_304 (fun _ _ _ => rfl) k_b17 rfl ?_
      refine ok_iconst (q := 52) (v := 1) dX4_drop_51 ci_1 rfl ?_
      refine ok_isub (q := 53) dX4_drop_52 rfl ?_
      refine ok_putI cl_3 (q := 56) (k := 1) dX4_drop_53 (Nat.le_of_ble_eq_true rfl) wd_304 (Or.inl rfl) (fun _ _ _ => rfl) rfl rfl k_b17 rfl (bh_ok (fun h19 e20 => ?_))
      have e20 : h19.1 = h16.1 := e20
      refine ok_aload_n (q := 57) dX4_drop_56 rfl rfl ?_
      refine ok_getR cl_3 (q := 60) (k := 0) dX4_drop_57 (Nat.le_of_ble_eq_true rfl) wd_303 (fun _ _ _ => rfl) kt_3_0 (mm_ke e20 k_b17) rfl (fun b21 k22 => ?_)
      refine ok_aload_n (q := 61) dX4_drop_60 rfl rfl ?_
      refine ok_getI cl_3 (q := 64) (k := 1) dX4_drop_61 (Nat.le_of_ble_eq_true rfl) wd_304 (fun _ _ _ => rfl) (mm_ke e20 k_b17) rfl ?_
      refine ok_aload_n (q := 65) dX4_drop_64 rfl rfl ?_
      refine mm_ck (fun c23 => ?_)
      refine ok_aast (kb := 5) (q := 66) dX4_drop_65 (mm_ke e20 (mm_ke e20.symm k22)) (by decide) (mm_ke e20 k_b18) c23 rfl (bh_ok (fun h24 e25 => ?_))
      have e25 : h24.1 = h16.1 := e25.trans e20
      refine ok_iconst (q := 67) (v := 1) dX4_drop_66 ci_1 rfl ?_
      exact ok_iret (t := .boolean) dX4_drop_67 rfl (by decide)
  · refine ok_iconst (q := 8) (v := 0) dX4_drop_7 ci_0 rfl ?_
    exact ok_iret (t := .boolean) dX4_drop_8 rfl (by decide)
