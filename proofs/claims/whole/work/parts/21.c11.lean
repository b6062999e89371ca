def lp_X12_init_639  : Nat → Nat → Int32 → mm_H → mm_O
  | 0, _, _, _ => none
  | n + 1, a0, x1, h => if (4 : Int32) ≤ x1 then
  (some (none, h))
  else
  (mm_gr h a0 11 (fun b431 =>
  if 32 ≤ b431 ∧ mm_in x1 (mm_ln h b431) = true then (mm_bh (mm_si h b431 (mm_n x1) (-1 : Int32)) (fun h434 =>
  mm_gr h434 a0 12 (fun b436 =>
  if 32 ≤ b436 ∧ mm_in x1 (mm_ln h434 b436) = true then (mm_bh (mm_si h434 b436 (mm_n x1) (-1 : Int32)) (fun h439 =>
  lp_X12_init_639 n a0 (x1 + 1) h439)) else none))) else none))
set_option maxHeartbeats 4000000 in
set_option maxRecDepth 100000 in
theorem ol_X12_init_639 {G : mm_G}   : ∀ (n : Nat) (a0 : Nat) (x1 : Int32) (h : mm_H), mm_kd h a0 = 11 → mm_Ok G my_X12_init 639 [.ref a0, .int x1] [] h (lp_X12_init_639 n a0 x1 h) := by
  intro n
  induction n with
  | zero => intro a0 x1 h k_a0; exact mm_no
  | succ n ih =>
    intro a0 x1 h k_a0
    rw [lp_X12_init_639]
    refine ok_iload_n (q := 640) dX12_init_639 rfl rfl ?_
    refine ok_iconst (q := 641) (v := 4) dX12_init_640 ci_4 rfl ?_
    refine ok_icmp_ge (q := 644) (t := 664) dX12_init_641 rfl rfl ?_ ?_
    · exact ok_ret dX12_init_664 rfl
    · refine ok_aload_n (q := 645) dX12_init_644 rfl rfl ?_
      refine ok_getR cl_11 (q := 648) (k := 11) dX12_init_645 (Nat.le_of_ble_eq_true rfl) wd_1043 (fun _ _ _ => rfl) kt_11_11 k_a0 rfl (fun b431 k432 => ?_)
      refine ok_iload_n (q := 649) dX12_init_648 rfl rfl ?_
      refine ok_iconst (q := 650) (v := -1) dX12_init_649 ci_m1 rfl ?_
      refine mm_ck (fun c433 => ?_)
      refine ok_iast (q := 651) dX12_init_650 k432 c433.1 c433.2 rfl (bh_ok (fun h434 e435 => ?_))
      have e435 : h434.1 = h.1 := e435
      refine ok_aload_n (q := 652) dX12_init_651 rfl rfl ?_
      refine ok_getR cl_11 (q := 655) (k := 12) dX12_init_652 (Nat.le_of_ble_eq_true rfl) wd_1044 (fun _ _ _ => rfl) kt_11_12 (mm_ke e435 k_a0) rfl (fun b436 k437 => ?_)
      refine ok_iload_n (q := 656) dX12_init_655 rfl rfl ?_
      refine ok_iconst (q := 657) (v := -1) dX12_init_656 ci_m1 rfl ?_
      refine mm_ck (fun c438 => ?_)
      refine ok_iast (q := 658) dX12_init_657 (mm_ke e435 (mm_ke e435.symm k437)) c438.1 c438.2 rfl (bh_ok (fun h439 e440 => ?_))
      have e440 : h439.1 = h.1 := e440.trans e435
      refine ok_iinc (q := 661) (v := x1 + 1) (ls' := [.ref a0, .int (x1 + 1)]) dX12_init_658 rfl (congrArg (x1 + ·) ci_1) (Nat.le_of_ble_eq_true rfl) rfl rfl ?_
      refine ok_goto (q := 639) dX12_init_661 rfl ?_
      exact ih a0 (x1 + 1) h439 (mm_ke e440 k_a0)
def bd_X12_init (a0 : Nat) (h : mm_H) : mm_O := mm_nw h 21 (mm_n (620 : Int32)) (fun b1 h2 =>
  mm_bh (mm_sr h2 a0 0 (some b1)) (fun h6 =>
  mm_nw h6 22 (mm_n (4 : Int32)) (fun b8 h9 =>
  mm_bh (mm_sr h9 a0 3 (some b8)) (fun h13 =>
  mm_nw h13 20 (mm_n (4 : Int32)) (fun b15 h16 =>
  mm_bh (mm_sr h16 a0 4 (some b15)) (fun h20 =>
  mm_nw h20 21 (mm_n (256 : Int32)) (fun b22 h23 =>
  mm_bh (mm_sr h23 a0 5 (some b22)) (fun h27 =>
  mm_nw h27 20 (mm_n (4 : Int32)) (fun b29 h30 =>
  mm_bh (mm_sr h30 a0 6 (some b29)) (fun h34 =>
  mm_nw h34 21 (mm_n (64 : Int32)) (fun b36 h37 =>
  mm_bh (mm_sr h37 a0 7 (some b36)) (fun h41 =>
  mm_nw h41 20 (mm_n (4 : Int32)) (fun b43 h44 =>
  mm_bh (mm_sr h44 a0 8 (some b43)) (fun h48 =>
  mm_nw h48 21 (mm_n (128 : Int32)) (fun b50 h51 =>
  mm_bh (mm_sr h51 a0 9 (some b50)) (fun h55 =>
  mm_nw h55 22 (mm_n (4 : Int32)) (fun b57 h58 =>
  mm_bh (mm_sr h58 a0 10 (some b57)) (fun h62 =>
  mm_nw h62 20 (mm_n (4 : Int32)) (fun b64 h65 =>
  mm_bh (mm_sr h65 a0 11 (some b64)) (fun h69 =>
  mm_nw h69 20 (mm_n (4 : Int32)) (fun b71 h72 =>
  mm_bh (mm_sr h72 a0 12 (some b71)) (fun h76 =>
  mm_nw h76 22 (mm_n (4 : Int32)) (fun b78 h79 =>
  mm_bh (mm_sr h79 a0 13 (some b78)) (fun h83 =>
  mm_nw h83 22 (mm_n (4 : Int32)) (fun b85 h86 =>
  mm_bh (mm_sr h86 a0 14 (some b85)) (fun h90 =>
  mm_nw h90 21 (mm_n (84480 : Int32)) (fun b92 h93 =>
  mm_bh (mm_sr h93 a0 15 (some b92)) (fun h97 =>
  mm_nw h97 20 (mm_n (132 : Int32)) (fun b99 h100 =>
  mm_bh (mm_sr h100 a0 16 (some b99)) (fun h104 =>
  mm_nw h104 20 (mm_n (4 : Int32)) (fun b106 h107 =>
  mm_bh (mm_sr h107 a0 17 (some b106)) (fun h111 =>
  mm_nw h111 21 (mm_n (8000 : Int32)) (fun b113 h114 =>
  mm_bh (mm_sr h114 a0 18 (some b113)) (fun h118 =>
  mm_nw h118 20 (mm_n (4 : Int32)) (fun b120 h121 =>
  mm_bh (mm_sr h121 a0 19 (some b120)) (fun h125 =>
  mm_nw h125 21 (mm_n (1600 : Int32)) (fun b127 h128 =>
  mm_bh (mm_sr h128 a0 20 (some b127)) (fun h132 =>
  mm_nw h132 20 (mm_n (4 : Int32)) (fun b134 h135 =>
  mm_bh (mm_sr h135 a0 21 (some b134)) (fun h139 =>
  mm_nw h139 21 (mm_n (128 : Int32)) (fun b141 h142 =>
  mm_bh (mm_sr h142 a0 22 (some b141)) (fun h146 =>
  mm_nw h146 21 (mm_n (128 : Int32)) (fun b148 h149 =>
  mm_bh (mm_sr h149 a0 23 (some b148)) (fun h153 =>
  mm_nw h153 21 (mm_n (128 : Int32)) (fun b155 h156 =>
  mm_bh (mm_sr h156 a0 24 (some b155)) (fun h160 =>
  mm_nw h160 21 (mm_n (128 : Int32)) (fun b162 h163 =>
  mm_bh (mm_sr h163 a0 25 (some b162)) (fun h167 =>
  mm_nw h167 22 (mm_n (4 : Int32)) (fun b169 h170 =>
  mm_bh (mm_sr h170 a0 26 (some b169)) (fun h174 =>
  mm_nw h174 22 (mm_n (4 : Int32)) (fun b176 h177 =>
  mm_bh (mm_sr h177 a0 27 (some b176)) (fun h181 =>
  mm_nw h181 20 (mm_n (4 : Int32)) (fun b183 h184 =>
  mm_bh (mm_sr h184 a0 28 (some b183)) (fun h188 =>
  mm_nw h188 20 (mm_n (4 : Int32)) (fun b190 h191 =>
  mm_bh (mm_sr h191 a0 29 (some b190)) (fun h195 =>
  mm_nw h195 20 (mm_n (64 : Int32)) (fun b197 h198 =>
  mm_bh (mm_sr h198 a0 30 (some b197)) (fun h202 =>
  mm_nw h202 20 (mm_n (64 : Int32)) (fun b204 h205 =>
  mm_bh (mm_sr h205 a0 31 (some b204)) (fun h209 =>
  mm_nw h209 20 (mm_n (8 : Int32)) (fun b211 h212 =>
  mm_bh (mm_sr h212 a0 32 (some b211)) (fun h216 =>
  mm_nw h216 21 (mm_n (64 : Int32)) (fun b218 h219 =>
  mm_bh (mm_sr h219 a0 33 (some b218)) (fun h223 =>
  mm_nw h223 21 (mm_n (1200 : Int32)) (fun b225 h226 =>
  mm_bh (mm_sr h226 a0 34 (some b225)) (fun h230 =>
  mm_nw h230 21 (mm_n (96 : Int32)) (fun b232 h233 =>
  mm_bh (mm_sr h233 a0 35 (some b232)) (fun h237 =>
  mm_nw h237 21 (mm_n (100 : Int32)) (fun b239 h240 =>
  mm_bh (mm_sr h240 a0 36 (some b239)) (fun h244 =>
  mm_nw h244 21 (mm_n (32 : Int32)) (fun b246 h247 =>
  mm_bh (mm_sr h247 a0 38 (some b246)) (fun h251 =>
  mm_nw h251 21 (mm_n (32 : Int32)) (fun b253 h254 =>
  mm_bh (mm_sr h254 a0 39 (some b253)) (fun h258 =>
  mm_nw h258 21 (mm_n (32 : Int32)) (fun b260 h261 =>
  mm_bh (mm_sr h261 a0 40 (some b260)) (fun h265 =>
  mm_nw h265 21 (mm_n (32 : Int32)) (fun b267 h268 =>
  mm_bh (mm_sr h268 a0 41 (some b267)) (fun h272 =>
  mm_nw h272 21 (mm_n (32 : Int32)) (fun b274 h275 =>
  mm_bh (mm_sr h275 a0 42 (some b274)) (fun h279 =>
  mm_nw h279 21 (mm_n (32 : Int32)) (fun b281 h282 =>
  mm_bh (mm_sr h282 a0 43 (some b281)) (fun h286 =>
  mm_nw h286 21 (mm_n (32 : Int32)) (fun b288 h289 =>
  mm_bh (mm_sr h289 a0 44 (some b288)) (fun h293 =>
  mm_nw h293 21 (mm_n (32 : Int32)) (fun b295 h296 =>
  mm_bh (mm_sr h296 a0 45 (some b295)) (fun h300 =>
  mm_nw h300 20 (mm_n (16 : Int32)) (fun b302 h303 =>
  mm_bh (mm_sr h303 a0 46 (some b302)) (fun h307 =>
  mm_nw h307 20 (mm_n (16 : Int32)) (fun b309 h310 =>
  mm_bh (mm_sr h310 a0 47 (some b309)) (fun h314 =>
  mm_nw h314 21 (mm_n (64 : Int32)) (fun b316 h317 =>
  mm_bh (mm_sr h317 a0 48 (some b316)) (fun h321 =>
  mm_nw h321 21 (mm_n (32 : Int32)) (fun b323 h324 =>
  mm_bh (mm_sr h324 a0 49 (some b323)) (fun h328 =>
  mm_nw h328 21 (mm_n (12 : Int32)) (fun b330 h331 =>
  mm_bh (mm_sr h331 a0 50 (some b330)) (fun h335 =>
  mm_nw h335 23 (mm_n (5 : Int32)) (fun b337 h338 =>
  mm_bh (mm_sr h338 a0 51 (some b337)) (fun h342 =>
  mm_nw h342 23 (mm_n (5 : Int32)) (fun b344 h345 =>
  mm_bh (mm_sr h345 a0 52 (some b344)) (fun h349 =>
  mm_nw h349 23 (mm_n (5 : Int32)) (fun b351 h352 =>
  mm_bh (mm_sr h352 a0 53 (some b351)) (fun h356 =>
  mm_nw h356 21 (mm_n (17 : Int32)) (fun b358 h359 =>
  mm_bh (mm_sr h359 a0 54 (some b358)) (fun h363 =>
  mm_nw h363 21 (mm_n (16 : Int32)) (fun b365 h366 =>
  mm_bh (mm_sr h366 a0 55 (some b365)) (fun h370 =>
  mm_nw h370 21 (mm_n (16 : Int32)) (fun b372 h373 =>
  mm_bh (mm_sr h373 a0 56 (some b372)) (fun h377 =>
  mm_nw h377 21 (mm_n (500 : Int32)) (fun b379 h380 =>
  mm_bh (mm_sr h380 a0 57 (some b379)) (fun h384 =>
  mm_nw h384 21 (mm_n (32 : Int32)) (fun b386 h387 =>
  mm_bh (mm_sr h387 a0 59 (some b386)) (fun h391 =>
  mm_nw h391 21 (mm_n (640 : Int32)) (fun b393 h394 =>
  mm_bh (mm_sr h394 a0 60 (some b393)) (fun h398 =>
  mm_nw h398 21 (mm_n (32 : Int32)) (fun b400 h401 =>
  mm_bh (mm_sr h401 a0 65 (some b400)) (fun h405 =>
  mm_qv (bd_X12_put8 a0 0 1116352408 1899447441 (-1245643825) (-373957723) 961987163 1508970993 (-1841331548) (-1424204075) h405) (fun h407 =>
  mm_qv (bd_X12_put8 a0 8 (-670586216) 310598401 607225278 1426881987 1925078388 (-2132889090) (-1680079193) (-1046744716) h407) (fun h410 =>
  mm_qv (bd_X12_put8 a0 16 (-459576895) (-272742522) 264347078 604807628 770255983 1249150122 1555081692 1996064986 h410) (fun h413 =>
  mm_qv (bd_X12_put8 a0 24 (-1740746414) (-1473132947) (-1341970488) (-1084653625) (-958395405) (-710438585) 113926993 338241895 h413) (fun h416 =>
  mm_qv (bd_X12_put8 a0 32 666307205 773529912 1294757372 1396182291 1695183700 1986661051 (-2117940946) (-1838011259) h416) (fun h419 =>
  mm_qv (bd_X12_put8 a0 40 (-1564481375) (-1474664885) (-1035236496) (-949202525) (-778901479) (-694614492) (-200395387) 275423344 h419) (fun h422 =>
  mm_qv (bd_X12_put8 a0 48 430227734 506948616 659060556 883997877 958139571 1322822218 1537002063 1747873779 h422) (fun h425 =>
  mm_qv (bd_X12_put8 a0 56 1955562222 2024104815 (-2067236844) (-1933114872) (-1866530822) (-1538233109) (-1090935817) (-965641998) h425) (fun h428 =>
  lp_X12_init_639  mm_fu a0 0 h428))))))))))))))))))))))))))))))))))))))))))))))))))))))))))))))))))))))))))))))))))))))))))))))))))))))))))))))))))))))))))))
set_option maxHeartbeats 4000000 in
set_option maxRecDepth 100000 in
theorem mt_X12_init (G : mm_G) (a0 : Nat) (h : mm_H) (k_a0 : mm_kd h a0 = 11) : mm_Met G my_X12_init [.ref a0] h (bd_X12_init a0 h) := by
  refine mm_met (ls := [.ref a0, mm_U]) pn_RX12 (Nat.le_of_ble_eq_true rfl) rfl ?_
  unfold bd_X12_init
  refine ok_aload_n (q := 1) dX12_init_0 rfl rfl ?_
  refine ok_objInit (q := 4) dX12_init_1 wd_962 wd_105 wd_106 ⟨Nat.le_of_ble_eq_true rfl, Nat.le_of_ble_eq_true rfl⟩ rfl ?_
  refine ok_aload_n (q := 5) dX12_init_4 rfl rfl ?_
  refine ok_sipush (q := 8) (v := 620) dX12_init_5 cs_620 rfl ?_
  refine ok_new_b (q := 10) dX12_init_8 wd_725 (by decide) (by decide) rfl (fun hk => nw_ok hk (fun b1 h2 p3 k4 => ?_))
  have k5 : mm_kd h2 a0 = 11 := mm_kd_app p3 k_a0 (by decide)
  refine ok_putR cl_11 (q := 13) (k := 0) dX12_init_10 (Nat.le_of_ble_eq_true rfl) wd_1032 (Or.inr ⟨rfl, rfl, rfl⟩) (fun _ _ _ => rfl) (fun _ => rfl) (fun _ => rfl) kt_11_0 (by decide) k5 k4 rfl (bh_ok (fun h6 e7 => ?_))
  have e7 : h6.1 = h2.1 := e7
  refine ok_aload_n (q := 14) dX12_init_13 rfl rfl ?_
  refine ok_iconst (q := 15) (v := 4) dX12_init_14 ci_4 rfl ?_
  refine ok_new_z (q := 17) dX12_init_15 wd_1231 (by decide) (by decide) rfl (fun hk => nw_ok hk (fun b8 h9 p10 k11 => ?_))
  have k12 : mm_kd h9 a0 = 11 := mm_kd_app p10 (mm_ke e7 k5) (by decide)
  refine ok_putR cl_11 (q := 20) (k := 3) dX12_init_17 (Nat.le_of_ble_eq_true rfl) wd_1035 (Or.inr ⟨rfl, rfl, rfl⟩) (fun _ _ _ => rfl) (fun _ => rfl) (fun _ => rfl) kt_11_3 (by decide) k12 k11 rfl (bh_ok (fun h13 e14 => ?_))
  have e14 : h13.1 = h9.1 := e14
  refine ok_aload_n (q := 21) dX12_init_20 rfl rfl ?_
  refine ok_iconst (q := 22) (v := 4) dX12_init_21 ci_4 rfl ?_
  refine ok_new_i (q := 24) dX12_init_22 wd_135 (by decide) (by decide) rfl (fun hk => nw_ok hk (fun b15 h16 p17 k18 => ?_))
  have k19 : mm_kd h16 a0 = 11 := mm_kd_app p17 (mm_ke e14 k12) (by decide)
  refine ok_putR cl_11 (q := 27) (k := 4) dX12_init_24 (Nat.le_of_ble_eq_true rfl) wd_1036 (Or.inr ⟨rfl, rfl, rfl⟩) (fun _ _ _ => rfl) (fun _ => rfl) (fun _ => rfl) kt_11_4 (by decide) k19 k18 rfl (bh_ok (fun h20 e21 => ?_))
  have e21 : h20.1 = h16.1 := e21
  refine ok_aload_n (q := 28) dX12_init_27 rfl rfl ?_
  refine ok_sipush (q := 31) (v := 256) dX12_init_28 cs_256 rfl ?_
  refine ok_new_b (q := 33) dX12_init_31 wd_725 (by decide) (by decide) rfl (fun hk => nw_ok hk (fun b22 h23 p24 k25 => ?_))
  have k26 : mm_kd h23 a0 = 11 := mm_kd_app p24 (mm_ke e21 k19) (by decide)
  refine ok_putR cl_11 (q := 36) (k := 5) dX12_init_33 (Nat.le_of_ble_eq_true rfl) wd_1037 (Or.inr ⟨rfl, rfl, rfl⟩) (fun _ _ _ => rfl) (fun _ => rfl) (fun _ => rfl) kt_11_5 (by decide) k26 k25 rfl (bh_ok (fun h27 e28 => ?_))
  have e28 : h27.1 = h23.1 := e28
  refine ok_aload_n (q := 37) dX12_init_36 rfl rfl ?_
  refine ok_iconst (q := 38) (v := 4) dX12_init_37 ci_4 rfl ?_
  refine ok_new_i (q := 40) dX12_init_38 wd_135 (by decide) (by decide) rfl (fun hk => nw_ok hk (fun b29 h30 p31 k32 => ?_))
  have k33 : mm_kd h30 a0 = 11 := mm_kd_app p31 (mm_ke e28 k26) (by decide)
  refine ok_putR cl_11 (q := 43) (k := 6) dX12_init_40 (Nat.le_of_ble_eq_true rfl) wd_1038 (Or.inr ⟨rfl, rfl, rfl⟩) (fun _ _ _ => rfl) (fun _ => rfl) (fun _ => rfl) kt_11_6 (by decide) k33 k32 rfl (bh_ok (fun h34 e35 => ?_))
  have e35 : h34.1 = h30.1 := e35
  refine ok_aload_n (q := 44) dX12_init_43 rfl rfl ?_
  refine ok_bipush (q := 46) (v := 64) dX12_init_44 cb_64 rfl ?_
  refine ok_new_b (q := 48) dX12_init_46 wd_725 (by decide) (by decide) rfl (fun hk => nw_ok hk (fun b36 h37 p38 k39 => ?_))
  have k40 : mm_kd h37 a0 = 11 := mm_kd_app p38 (mm_ke e35 k33) (by decide)
  refine ok_putR cl_11 (q := 51) (k := 7) dX12_init_48 (Nat.le_of_ble_eq_true rfl) wd_1039 (Or.inr ⟨rfl, rfl, rfl⟩) (fun _ _ _ => rfl) (fun _ => rfl) (fun _ => rfl) kt_11_7 (by decide) k40 k39 rfl (bh_ok (fun h41 e42 => ?_))
  have e42 : h41.1 = h37.1 := e42
  refine ok_aload_n (q := 52) dX12_init_51 rfl rfl ?_
  refine ok_iconst (q := 53) (v := 4) dX12_init_52 ci_4 rfl ?_
  refine ok_new_i (q := 55) dX12_init_53 wd_135 (by decide) (by decide) rfl (fun hk => nw_ok hk (fun b43 h44 p45 k46 => ?_))
  have k47 : mm_kd h44 a0 = 11 := mm_kd_app p45 (mm_ke e42 k40) (by decide)
  refine ok_putR cl_11 (q := 58) (k := 8) dX12_init_55 (Nat.le_of_ble_eq_true rfl) wd_1040 (Or.inr ⟨rfl, rfl, rfl⟩) (fun _ _ _ => rfl) (fun _ => rfl) (fun _ => rfl) kt_11_8 (by decide) k47 k46 rfl (bh_ok (fun h48 e49 => ?_))
  have e49 : h48.1 = h44.1 := e49
  refine ok_aload_n (q := 59) dX12_init_58 rfl rfl ?_
  refine ok_sipush (q := 62) (v := 128) dX12_init_59 cs_128 rfl ?_
  refine ok_new_b (q := 64) dX12_init_62 wd_725 (by decide) (by decide) rfl (fun hk => nw_ok hk (fun b50 h51 p52 k53 => ?_))
  have k54 : mm_kd h51 a0 = 11 := mm_kd_app p52 (mm_ke e49 k47) (by decide)
  refine ok_putR cl_11 (q := 67) (k := 9) dX12_init_64 (Nat.le_of_ble_eq_true rfl) wd_1041 (Or.inr ⟨rfl, rfl, rfl⟩) (fun _ _ _ => rfl) (fun _ => rfl) (fun _ => rfl) kt_11_9 (by decide) k54 k53 rfl (bh_ok (fun h55 e56 => ?_))
  have e56 : h55.1 = h51.1 := e56
  refine ok_aload_n (q := 68) dX12_init_67 rfl rfl ?_
  refine ok_iconst (q := 69) (v := 4) dX12_init_68 ci_4 rfl ?_
  refine ok_new_z (q := 71) dX12_init_69 wd_1231 (by decide) (by decide) rfl (fun hk => nw_ok hk (fun b57 h58 p59 k60 => ?_))
  have k61 : mm_kd h58 a0 = 11 := mm_kd_app p59 (mm_ke e56 k54) (by decide)
  refine ok_putR cl_11 (q := 74) (k := 10) dX12_init_71 (Nat.le_of_ble_eq_true rfl) wd_1042 (Or.inr ⟨rfl, rfl, rfl⟩) (fun _ _ _ => rfl) (fun _ => rfl) (fun _ => rfl) kt_11_10 (by decide) k61 k60 rfl (bh_ok (fun h62 e63 => ?_))
  have e63 : h62.1 = h58.1 := e63
  refine ok_aload_n (q := 75) dX12_init_74 rfl rfl ?_
  refine ok_iconst (q := 76) (v := 4) dX12_init_75 ci_4 rfl ?_
  refine ok_new_i (q := 78) dX12_init_76 wd_135 (by decide) (by decide) rfl (fun hk => nw_ok hk (fun b64 h65 p66 k67 => ?_))
  have k68 : mm_kd h65 a0 = 11 := mm_kd_app p66 (mm_ke e63 k61) (by decide)
  refine ok_putR cl_11 (q := 81) (k := 11) dX12_init_78 (Nat.le_of_ble_eq_true rfl) wd_1043 (Or.inr ⟨rfl, rfl, rfl⟩) (fun _ _ _ => rfl) (fun _ => rfl) (fun _ => rfl) kt_11_11 (by decide) k68 k67 rfl (bh_ok (fun h69 e70 => ?_))
  have e70 : h69.1 = h65.1 := e70
  refine ok_aload_n (q := 82) dX12_init_81 rfl rfl ?_
  refine ok_iconst (q := 83) (v := 4) dX12_init_82 ci_4 rfl ?_
  refine ok_new_i (q := 85) dX12_init_83 wd_135 (by decide) (by decide) rfl (fun hk => nw_ok hk (fun b71 h72 p73 k74 => ?_))
  have k75 : mm_kd h72 a0 = 11 := mm_kd_app p73 (mm_ke e70 k68) (by decide)
  refine ok_putR cl_11 (q := 88) (k := 12) dX12_init_85 (Nat.le_of_ble_eq_true rfl) wd_1044 (Or.inr ⟨rfl, rfl, rfl⟩) (fun _ _ _ => rfl) (fun _ => rfl) (fun _ => rfl) kt_11_12 (by decide) k75 k74 rfl (bh_ok (fun h76 e77 => ?_))
  have e77 : h76.1 = h72.1 := e77
  refine ok_aload_n (q := 89) dX12_init_88 rfl rfl ?_
  refine ok_iconst (q := 90) (v := 4) dX12_init_89 ci_4 rfl ?_
  refine ok_new_z (q := 92) dX12_init_90 wd_1231 (by decide) (by decide) rfl (fun hk => nw_ok hk (fun b78 h79 p80 k81 => ?_))
  have k82 : mm_kd h79 a0 = 11 := mm_kd_app p80 (mm_ke e77 k75) (by decide)
  refine ok_putR cl_11 (q := 95) (k := 13) dX12_init_92 (Nat.le_of_ble_eq_true rfl) wd_1045 (Or.inr ⟨rfl, rfl, rfl⟩) (fun _ _ _ => rfl) (fun _ => rfl) (fun _ => rfl) kt_11_13 (by decide) k82 k81 rfl (bh_ok (fun h83 e84 => ?_))
  have e84 : h83.1 = h79.1 := e84
  refine ok_aload_n (q := 96) dX12_init_95 rfl rfl ?_
  refine ok_iconst (q := 97) (v := 4) dX12_init_96 ci_4 rfl ?_
  refine ok_new_z (q := 99) dX12_init_97 wd_1231 (by decide) (by decide) rfl (fun hk => nw_ok hk (fun b85 h86 p87 k88 => ?_))
  have k89 : mm_kd h86 a0 = 11 := mm_kd_app p87 (mm_ke e84 k82) (by decide)
  refine ok_putR cl_11 (q := 102) (k := 14) dX12_init_99 (Nat.le_of_ble_eq_true rfl) wd_1046 (Or.inr ⟨rfl, rfl, rfl⟩) (fun _ _ _ => rfl) (fun _ => rfl) (fun _ => rfl) kt_11_14 (by decide) k89 k88 rfl (bh_ok (fun h90 e91 => ?_))
  have e91 : h90.1 = h86.1 := e91
  refine ok_aload_n (q := 103) dX12_init_102 rfl rfl ?_
  refine ok_ldc (q := 105) (v := 84480) dX12_init_103 wd_963 rfl ?_
  refine ok_new_b (q := 107) dX12_init_105 wd_725 (by decide) (by decide) rfl (fun hk => nw_ok hk (fun b92 h93 p94 k95 => ?_))
  have k96 : mm_kd h93 a0 = 11 := mm_kd_app p94 (mm_ke e91 k89) (by decide)
  refine ok_putR cl_11 (q := 110) (k := 15) dX12_init_107 (Nat.le_of_ble_eq_true rfl) wd_1047 (Or.inr ⟨rfl, rfl, rfl⟩) (fun _ _ _ => rfl) (fun _ => rfl) (fun _ => rfl) kt_11_15 (by decide) k96 k95 rfl (bh_ok (fun h97 e98 => ?_))
  have e98 : h97.1 = h93.1 := e98
  refine ok_aload_n (q := 111) dX12_init_110 rfl rfl ?_
  refine ok_sipush (q := 114) (v := 132) dX12_init_111 cs_132 rfl ?_
  refine ok_new_i (q := 116) dX12_init_114 wd_135 (by decide) (by decide) rfl (fun hk => nw_ok hk (fun b99 h100 p101 k102 => ?_))
  have k103 : mm_kd h100 a0 = 11 := mm_kd_app p101 (mm_ke e98 k96) (by decide)
  refine ok_putR cl_11 (q := 119) (k := 16) dX12_init_116 (Nat.le_of_ble_eq_true rfl) wd_1048 (Or.inr ⟨rfl, rfl, rfl⟩) (fun _ _ _ => rfl) (fun _ => rfl) (fun _ => rfl) kt_11_16 (by decide) k103 k102 rfl (bh_ok (fun h104 e105 => ?_))
  have e105 : h104.1 = h100.1 := e105
  refine ok_aload_n (q := 120) dX12_init_119 rfl rfl ?_
  refine ok_iconst (q := 121) (v := 4) dX12_init_120 ci_4 rfl ?_
  refine ok_new_i (q := 123) dX12_init_121 wd_135 (by decide) (by decide) rfl (fun hk => nw_ok hk (fun b106 h107 p108 k109 => ?_))
  have k110 : mm_kd h107 a0 = 11 := mm_kd_app p108 (mm_ke e105 k103) (by decide)
  refine ok_putR cl_11 (q := 126) (k := 17) dX12_init_123 (Nat.le_of_ble_eq_true rfl) wd_1049 (Or.inr ⟨rfl, rfl, rfl⟩) (fun _ _ _ => rfl) (fun _ => rfl) (fun _ => rfl) kt_11_17 (by decide) k110 k109 rfl (bh_ok (fun h111 e112 => ?_))
  have e112 : h111.1 = h107.1 := e112
  refine ok_aload_n (q := 127) dX12_init_126 rfl rfl ?_
  refine ok_sipush (q := 130) (v := 8000) dX12_init_127 cs_8000 rfl ?_
  refine ok_new_b (q := 132) dX12_init_130 wd_725 (by decide) (by decide) rfl (fun hk => nw_ok hk (fun b113 h114 p115 k116 => ?_))
  have k117 : mm_kd h114 a0 = 11 := mm_kd_app p115 (mm_ke e112 k110) (by decide)
  refine ok_putR cl_11 (q := 135) (k := 18) dX12_init_132 (Nat.le_of_ble_eq_true rfl) wd_1050 (Or.inr ⟨rfl, rfl, rfl⟩) (fun _ _ _ => rfl) (fun _ => rfl) (fun _ => rfl) kt_11_18 (by decide) k117 k116 rfl (bh_ok (fun h118 e119 => ?_))
  have e119 : h118.1 = h114.1 := e119
  refine ok_aload_n (q := 136) dX12_init_135 rfl rfl ?_
  refine ok_iconst (q := 137) (v := 4) dX12_init_136 ci_4 rfl ?_
  refine ok_new_i (q := 139) dX12_init_137 wd_135 (by decide) (by decide) rfl (fun hk => nw_ok hk (fun b120 h121 p122 k123 => ?_))
  have k124 : mm_kd h121 a0 = 11 := mm_kd_app p122 (mm_ke e119 k117) (by decide)
  refine ok_putR cl_11 (q := 142) (k := 19) dX12_init_139 (Nat.le_of_ble_eq_true rfl) wd_1051 (Or.inr ⟨rfl, rfl, rfl⟩) (fun _ _ _ => rfl) (fun _ => rfl) (fun _ => rfl) kt_11_19 (by decide) k124 k123 rfl (bh_ok (fun h125 e126 => ?_))
  have e126 : h125.1 = h121.1 := e126
  refine ok_aload_n (q := 143) dX12_init_142 rfl rfl ?_
  refine ok_sipush (q := 146) (v := 1600) dX12_init_143 cs_1600 rfl ?_
  refine ok_new_b (q := 148) dX12_init_146 wd_725 (by decide) (by decide) rfl (fun hk => nw_ok hk (fun b127 h128 p129 k130 => ?_))
  have k131 : mm_kd h128 a0 = 11 := mm_kd_app p129 (mm_ke e126 k124) (by decide)
  refine ok_putR cl_11 (q := 151) (k := 20) dX12_init_148 (Nat.le_of_ble_eq_true rfl) wd_1052 (Or.inr ⟨rfl, rfl, rfl⟩) (fun _ _ _ => rfl) (fun _ => rfl) (fun _ => rfl) kt_11_20 (by decide) k131 k130 rfl (bh_ok (fun h132 e133 => ?_))
  have e133 : h132.1 = h128.1 := e133
  refine ok_aload_n (q := 152) dX12_init_151 rfl rfl ?_
  refine ok_iconst (q := 153) (v := 4) dX12_init_152 ci_4 rfl ?_
  refine ok_new_i (q := 155) dX12_init_153 wd_135 (by decide) (by decide) rfl (fun hk => nw_ok hk (fun b134 h135 p136 k137 => ?_))
  have k138 : mm_kd h135 a0 = 11 := mm_kd_app p136 (mm_ke e133 k131) (by decide)
  refine ok_putR cl_11 (q := 158) (k := 21) dX12_init_155 (Nat.le_of_ble_eq_true rfl) wd_1053 (Or.inr ⟨rfl, rfl, rfl⟩) (fun _ _ _ => rfl) (fun _ => rfl) (fun _ => rfl) kt_11_21 (by decide) k138 k137 rfl (bh_ok (fun h139 e140 => ?_))
  have e140 : h139.1 = h135.1 := e140
  refine ok_aload_n (q := 159) dX12_init_158 rfl rfl ?_
  refine ok_sipush (q := 162) (v := 128) dX12_init_159 cs_128 rfl ?_
  refine ok_new_b (q := 164) dX12_init_162 wd_725 (by decide) (by decide) rfl (fun hk => nw_ok hk (fun b141 h142 p143 k144 => ?_))
  have k145 : mm_kd h142 a0 = 11 := mm_kd_app p143 (mm_ke e140 k138) (by decide)
  refine ok_putR cl_11 (q := 167) (k := 22) dX12_init_164 (Nat.le_of_ble_eq_true rfl) wd_1054 (Or.inr ⟨rfl, rfl, rfl⟩) (fun _ _ _ => rfl) (fun _ => rfl) (fun _ => rfl) kt_11_22 (by decide) k145 k144 rfl (bh_ok (fun h146 e147 => ?_))
  have e147 : h146.1 = h142.1 := e147
  refine ok_aload_n (q := 168) dX12_init_167 rfl rfl ?_
  refine ok_sipush (q := 171) (v := 128) dX12_init_168 cs_128 rfl ?_
  refine ok_new_b (q := 173) dX12_init_171 wd_725 (by decide) (by decide) rfl (fun hk => nw_ok hk (fun b148 h149 p150 k151 => ?_))
  have k152 : mm_kd h149 a0 = 11 := mm_kd_app p150 (mm_ke e147 k145) (by decide)
  refine ok_putR cl_11 (q := 176) (k := 23) dX12_init_173 (Nat.le_of_ble_eq_true rfl) wd_1055 (Or.inr ⟨rfl, rfl, rfl⟩) (fun _ _ _ => rfl) (fun _ => rfl) (fun _ => rfl) kt_11_23 (by decide) k152 k151 rfl (bh_ok (fun h153 e154 => ?_))
  have e154 : h153.1 = h149.1 := e154
  refine ok_aload_n (q := 177) dX12_init_176 rfl rfl ?_
  refine ok_sipush (q := 180) (v := 128) dX12_init_177 cs_128 rfl ?_
  refine ok_new_b (q := 182) dX12_init_180 wd_725 (by decide) (by decide) rfl (fun hk => nw_ok hk (fun b155 h156 p157 k158 => ?_))
  have k159 : mm_kd h156 a0 = 11 := mm_kd_app p157 (mm_ke e154 k152) (by decide)
  refine ok_putR cl_11 (q := 185) (k := 24) dX12_init_182 (Nat.le_of_ble_eq_true rfl) wd_1056 (Or.inr ⟨rfl, rfl, rfl⟩) (fun _ _ _ => rfl) (fun _ => rfl) (fun _ => rfl) kt_11_24 (by decide) k159 k158 rfl (bh_ok (fun h160 e161 => ?_))
  have e161 : h160.1 = h156.1 := e161
  refine ok_aload_n (q := 186) dX12_init_185 rfl rfl ?_
  refine ok_sipush (q := 189) (v := 128) dX12_init_186 cs_128 rfl ?_
  refine ok_new_b (q := 191) dX12_init_189 wd_725 (by decide) (by decide) rfl (fun hk => nw_ok hk (fun b162 h163 p164 k165 => ?_))
  have k166 : mm_kd h163 a0 = 11 := mm_kd_app p164 (mm_ke e161 k159) (by decide)
  refine ok_putR cl_11 (q := 194) (k := 25) dX12_init_191 (Nat.le_of_ble_eq_true rfl) wd_1057 (Or.inr ⟨rfl, rfl, rfl⟩) (fun _ _ _ => rfl) (fun _ => rfl) (fun _ => rfl) kt_11_25 (by decide) k166 k165 rfl (bh_ok (fun h167 e168 => ?_))
  have e168 : h167.1 = h163.1 := e168
  refine ok_aload_n (q := 195) dX12_init_194 rfl rfl ?_
  refine ok_iconst (q := 196) (v := 4) dX12_init_195 ci_4 rfl ?_
  refine ok_new_z (q := 198) dX12_init_196 wd_1231 (by decide) (by decide) rfl (fun hk => nw_ok hk (fun b169 h170 p171 k172 => ?_))
  have k173 : mm_kd h170 a0 = 11 := mm_kd_app p171 (mm_ke e168 k166) (by decide)
  refine ok_putR cl_11 (q := 201) (k := 26) dX12_init_198 (Nat.le_of_ble_eq_true rfl) wd_1058 (Or.inr ⟨rfl, rfl, rfl⟩) (fun _ _ _ => rfl) (fun _ => rfl) (fun _ => rfl) kt_11_26 (by decide) k173 k172 rfl (bh_ok (fun h174 e175 => ?_))
  have e175 : h174.1 = h170.1 := e175
  refine ok_aload_n (q := 202) dX12_init_201 rfl rfl ?_
  refine ok_iconst (q := 203) (v := 4) dX12_init_202 ci_4 rfl ?_
  refine ok_new_z (q := 205) dX12_init_203 wd_1231 (by decide) (by decide) rfl (fun hk => nw_ok hk (fun b176 h177 p178 k179 => ?_))
  have k180 : mm_kd h177 a0 = 11 := mm_kd_app p178 (mm_ke e175 k173) (by decide)
  refine ok_putR cl_11 (q := 208) (k := 27) dX12_init_205 (Nat.le_of_ble_eq_true rfl) wd_1059 (Or.inr ⟨rfl, rfl, rfl⟩) (fun _ _ _ => rfl) (fun _ => rfl) (fun _ => rfl) kt_11_27 (by decide) k180 k179 rfl (bh_ok (fun h181 e182 => ?_))
  have e182 : h181.1 = h177.1 := e182
  refine ok_aload_n (q := 209) dX12_init_208 rfl rfl ?_
  refine ok_iconst (q := 210) (v := 4) dX12_init_209 ci_4 rfl ?_
  refine ok_new_i (q := 212) dX12_init_210 wd_135 (by decide) (by decide) rfl (fun hk => nw_ok hk (fun b183 h184 p185 k186 => ?_))
  have k187 : mm_kd h184 a0 = 11 := mm_kd_app p185 (mm_ke e182 k180) (by decide)
  refine ok_putR cl_11 (q := 215) (k := 28) dX12_init_212 (Nat.le_of_ble_eq_true rfl) wd_1060 (Or.inr ⟨rfl, rfl, rfl⟩) (fun _ _ _ => rfl) (fun _ => rfl) (fun _ => rfl) kt_11_28 (by decide) k187 k186 rfl (bh_ok (fun h188 e189 => ?_))
  have e189 : h188.1 = h184.1 := e189
  refine ok_aload_n (q := 216) dX12_init_215 rfl rfl ?_
  refine ok_iconst (q := 217) (v := 4) dX12_init_216 ci_4 rfl ?_
  refine ok_new_i (q := 219) dX12_init_217 wd_135 (by decide) (by decide) rfl (fun hk => nw_ok hk (fun b190 h191 p192 k193 => ?_))
  have k194 : mm_kd h191 a0 = 11 := mm_kd_app p192 (mm_ke e189 k187) (by decide)
  refine ok_putR cl_11 (q := 222) (k := 29) dX12_init_219 (Nat.le_of_ble_eq_true rfl) wd_1061 (Or.inr ⟨rfl, rfl, rfl⟩) (fun _ _ _ => rfl) (fun _ => rfl) (fun _ => rfl) kt_11_29 (by decide) k194 k193 rfl (bh_ok (fun h195 e196 => ?_))
  have e196 : h195.1 = h191.1 := e196
  refine ok_aload_n (q := 223) dX12_init_222 rfl rfl ?_
  refine ok_bipush (q := 225) (v := 64) dX12_init_223 cb_64 rfl ?_
  refine ok_new_i (q := 227) dX12_init_225 wd_135 (by decide) (by decide) rfl (fun hk => nw_ok hk (fun b197 h198 p199 k200 => ?_))
  have k201 : mm_kd h198 a0 = 11 := mm_kd_app p199 (mm_ke e196 k194) (by decide)
  refine ok_putR cl_11 (q := 230) (k := 30) dX12_init_227 (Nat.le_of_ble_eq_true rfl) wd_1062 (Or.inr ⟨rfl, rfl, rfl⟩) (fun _ _ _ => rfl) (fun _ => rfl) (fun _ => rfl) kt_11_30 (by decide) k201 k200 rfl (bh_ok (fun h202 e203 => ?_))
  have e203 : h202.1 = h198.1 := e203
  refine ok_aload_n (q := 231) dX12_init_230 rfl rfl ?_
  refine ok_bipush (q := 233) (v := 64) dX12_init_231 cb_64 rfl ?_
  refine ok_new_i (q := 235) dX12_init_233 wd_135 (by decide) (by decide) rfl (fun hk => nw_ok hk (fun b204 h205 p206 k207 => ?_))
  have k208 : mm_kd h205 a0 = 11 := mm_kd_app p206 (mm_ke e203 k201) (by decide)
  refine ok_putR cl_11 (q := 238) (k := 31) dX12_init_235 (Nat.le_of_ble_eq_true rfl) wd_1063 (Or.inr ⟨rfl, rfl, rfl⟩) (fun _ _ _ => rfl) (fun _ => rfl) (fun _ => rfl) kt_11_31 (by decide) k208 k207 rfl (bh_ok (fun h209 e210 => ?_))
  have e210 : h209.1 = h205.1 := e210
  refine ok_aload_n (q := 239) dX12_init_238 rfl rfl ?_
  refine ok_bipush (q := 241) (v := 8) dX12_init_239 cb_8 rfl ?_
  refine ok_new_i (q := 243) dX12_init_241 wd_135 (by decide) (by decide) rfl (fun hk => nw_ok hk (fun b211 h212 p213 k214 => ?_))
  have k215 : mm_kd h212 a0 = 11 := mm_kd_app p213 (mm_ke e210 k208) (by decide)
  refine ok_putR cl_11 (q := 246) (k := 32) dX12_init_243 (Nat.le_of_ble_eq_true rfl) wd_1064 (Or.inr ⟨rfl, rfl, rfl⟩) (fun _ _ _ => rfl) (fun _ => rfl) (fun _ => rfl) kt_11_32 (by decide) k215 k214 rfl (bh_ok (fun h216 e217 => ?_))
  have e217 : h216.1 = h212.1 := e217
  refine ok_aload_n (q := 247) dX12_init_246 rfl rfl ?_
  refine ok_bipush (q := 249) (v := 64) dX12_init_247 cb_64 rfl ?_
  refine ok_new_b (q := 251) dX12_init_249 wd_725 (by decide) (by decide) rfl (fun hk => nw_ok hk (fun b218 h219 p220 k221 => ?_))
  have k222 : mm_kd h219 a0 = 11 := mm_kd_app p220 (mm_ke e217 k215) (by decide)
  refine ok_putR cl_11 (q := 254) (k := 33) dX12_init_251 (Nat.le_of_ble_eq_true rfl) wd_1065 (Or.inr ⟨rfl, rfl, rfl⟩) (fun _ _ _ => rfl) (fun _ => rfl) (fun _ => rfl) kt_11_33 (by decide) k222 k221 rfl (bh_ok (fun h223 e224 => ?_))
  have e224 : h223.1 = h219.1 := e224
  refine ok_aload_n (q := 255) dX12_init_254 rfl rfl ?_
  refine ok_sipush (q := 258) (v := 1200) dX12_init_255 cs_1200 rfl ?_
  refine ok_new_b (q := 260) dX12_init_258 wd_725 (by decide) (by decide) rfl (fun hk => nw_ok hk (fun b225 h226 p227 k228 => ?_))
  have k229 : mm_kd h226 a0 = 11 := mm_kd_app p227 (mm_ke e224 k222) (by decide)
  refine ok_putR cl_11 (q := 263) (k := 34) dX12_init_260 (Nat.le_of_ble_eq_true rfl) wd_1066 (Or.inr ⟨rfl, rfl, rfl⟩) (fun _ _ _ => rfl) (fun _ => rfl) (fun _ => rfl) kt_11_34 (by decide) k229 k228 rfl (bh_ok (fun h230 e231 => ?_))
  have e231 : h230.1 = h226.1 := e231
  refine ok_aload_n (q := 264) dX12_init_263 rfl rfl ?_
  refine ok_bipush (q := 266) (v := 96) dX12_init_264 cb_96 rfl ?_
  refine ok_new_b (q := 268) dX12_init_266 wd_725 (by decide) (by decide) rfl (fun hk => nw_ok hk (fun b232 h233 p234 k235 => ?_))
  have k236 : mm_kd h233 a0 = 11 := mm_kd_app p234 (mm_ke e231 k229) (by decide)
  refine ok_putR cl_11 (q := 271) (k := 35) dX12_init_268 (Nat.le_of_ble_eq_true rfl) wd_1067 (Or.inr ⟨rfl, rfl, rfl⟩) (fun _ _ _ => rfl) (fun _ => rfl) (fun _ => rfl) kt_11_35 (by decide) k236 k235 rfl (bh_ok (fun h237 e238 => ?_))
  have e238 : h237.1 = h233.1 := e238
  refine ok_aload_n (q := 272) dX12_init_271 rfl rfl ?_
  refine ok_bipush (q := 274) (v := 100) dX12_init_272 cb_100 rfl ?_
  refine ok_new_b (q := 276) dX12_init_274 wd_725 (by decide) (by decide) rfl (fun hk => nw_ok hk (fun b239 h240 p241 k242 => ?_))
  have k243 : mm_kd h240 a0 = 11 := mm_kd_app p241 (mm_ke e238 k236) (by decide)
  refine ok_putR cl_11 (q := 279) (k := 36) dX12_init_276 (Nat.le_of_ble_eq_true rfl) wd_1068 (Or.inr ⟨rfl, rfl, rfl⟩) (fun _ _ _ => rfl) (fun _ => rfl) (fun _ => rfl) kt_11_36 (by decide) k243 k242 rfl (bh_ok (fun h244 e245 => ?_))
  have e245 : h244.1 = h240.1 := e245
  refine ok_aload_n (q := 280) dX12_init_279 rfl rfl ?_
  refine ok_bipush (q := 282) (v := 32) dX12_init_280 cb_32 rfl ?_
  refine ok_new_b (q := 284) dX12_init_282 wd_725 (by decide) (by decide) rfl (fun hk => nw_ok hk (fun b246 h247 p248 k249 => ?_))
  have k250 : mm_kd h247 a0 = 11 := mm_kd_app p248 (mm_ke e245 k243) (by decide)
  refine ok_putR cl_11 (q := 287) (k := 38) dX12_init_284 (Nat.le_of_ble_eq_true rfl) wd_1070 (Or.inr ⟨rfl, rfl, rfl⟩) (fun _ _ _ => rfl) (fun _ => rfl) (fun _ => rfl) kt_11_38 (by decide) k250 k249 rfl (bh_ok (fun h251 e252 => ?_))
  have e252 : h251.1 = h247.1 := e252
  refine ok_aload_n (q := 288) dX12_init_287 rfl rfl ?_
  refine ok_bipush (q := 290) (v := 32) dX12_init_288 cb_32 rfl ?_
  refine ok_new_b (q := 292) dX12_init_290 wd_725 (by decide) (by decide) rfl (fun hk => nw_ok hk (fun b253 h254 p255 k256 => ?_))
  have k257 : mm_kd h254 a0 = 11 := mm_kd_app p255 (mm_ke e252 k250) (by decide)
  refine ok_putR cl_11 (q := 295) (k := 39) dX12_init_292 (Nat.le_of_ble_eq_true rfl) wd_1071 (Or.inr ⟨rfl, rfl, rfl⟩) (fun _ _ _ => rfl) (fun _ => rfl) (fun _ => rfl) kt_11_39 (by decide) k257 k256 rfl (bh_ok (fun h258 e259 => ?_))
  have e259 : h258.1 = h254.1 := e259
  refine ok_aload_n (q := 296) dX12_init_295 rfl rfl ?_
  refine ok_bipush (q := 298) (v := 32) dX12_init_296 cb_32 rfl ?_
  refine ok_new_b (q := 300) dX12_init_298 wd_725 (by decide) (by decide) rfl (fun hk => nw_ok hk (fun b260 h261 p262 k263 => ?_))
  have k264 : mm_kd h261 a0 = 11 := mm_kd_app p262 (mm_ke e259 k257) (by decide)
  refine ok_putR cl_11 (q := 303) (k := 40) dX12_init_300 (Nat.le_of_ble_eq_true rfl) wd_1072 (Or.inr ⟨rfl, rfl, rfl⟩) (fun _ _ _ => rfl) (fun _ => rfl) (fun _ => rfl) kt_11_40 (by decide) k264 k263 rfl (bh_ok (fun h265 e266 => ?_))
  have e266 : h265.1 = h261.1 := e266
  refine ok_aload_n (q := 304) dX12_init_303 rfl rfl ?_
  refine ok_bipush (q := 306) (v := 32) dX12_init_304 cb_32 rfl ?_
  refine ok_new_b (q := 308) dX12_init_306 wd_725 (by decide) (by decide) rfl (fun hk => nw_ok hk (fun b267 h268 p269 k270 => ?_))
  have k271 : mm_kd h268 a0 = 11 := mm_kd_app p269 (mm_ke e266 k264) (by decide)
  refine ok_putR cl_11 (q := 311) (k := 41) dX12_init_308 (Nat.le_of_ble_eq_true rfl) wd_1073 (Or.inr ⟨rfl, rfl, rfl⟩) (fun _ _ _ => rfl) (fun _ => rfl) (fun _ => rfl) kt_11_41 (by decide) k271 k270 rfl (bh_ok (fun h272 e273 => ?_))
  have e273 : h272.1 = h268.1 := e273
  refine ok_aload_n (q := 312) dX12_init_311 rfl rfl ?_
  refine ok_bipush (q := 314) (v := 32) dX12_init_312 cb_32 rfl ?_
  refine ok_new_b (q := 316) dX12_init_314 wd_725 (by decide) (by decide) rfl (fun hk => nw_ok hk (fun b274 h275 p276 k277 => ?_))
  have k278 : mm_kd h275 a0 = 11 := mm_kd_app p276 (mm_ke e273 k271) (by decide)
  refine ok_putR cl_11 (q := 319) (k := 42) dX12_init_316 (Nat.le_of_ble_eq_true rfl) wd_1074 (Or.inr ⟨rfl, rfl, rfl⟩) (fun _ _ _ => rfl) (fun _ => rfl) (fun _ => rfl) kt_11_42 (by decide) k278 k277 rfl (bh_ok (fun h279 e280 => ?_))
  have e280 : h279.1 = h275.1 := e280
  refine ok_aload_n (q := 320) dX12_init_319 rfl rfl ?_
  refine ok_bipush (q := 322) (v := 32) dX12_init_320 cb_32 rfl ?_
  refine ok_new_b (q := 324) dX12_init_322 wd_725 (by decide) (by decide) rfl (fun hk => nw_ok hk (fun b281 h282 p283 k284 => ?_))
  have k285 : mm_kd h282 a0 = 11 := mm_kd_app p283 (mm_ke e280 k278) (by decide)
  refine ok_putR cl_11 (q := 327) (k := 43) dX12_init_324 (Nat.le_of_ble_eq_true rfl) wd_1075 (Or.inr ⟨rfl, rfl, rfl⟩) (fun _ _ _ => rfl) (fun _ => rfl) (fun _ => rfl) kt_11_43 (by decide) k285 k284 rfl (bh_ok (fun h286 e287 => ?_))
  have e287 : h286.1 = h282.1 := e287
  refine ok_aload_n (q := 328) dX12_init_327 rfl rfl ?_
  refine ok_bipush (q := 330) (v := 32) dX12_init_328 cb_32 rfl ?_
  refine ok_new_b (q := 332) dX12_init_330 wd_725 (by decide) (by decide) rfl (fun hk => nw_ok hk (fun b288 h289 p290 k291 => ?_))
  have k292 : mm_kd h289 a0 = 11 := mm_kd_app p290 (mm_ke e287 k285) (by decide)
  refine ok_putR cl_11 (q := 335) (k := 44) dX12_init_332 (Nat.le_of_ble_eq_true rfl) wd_1076 (Or.inr ⟨rfl, rfl, rfl⟩) (fun _ _ _ => rfl) (fun _ => rfl) (fun _ => rfl) kt_11_44 (by decide) k292 k291 rfl (bh_ok (fun h293 e294 => ?_))
  have e294 : h293.1 = h289.1 := e294
  refine ok_aload_n (q := 336) dX12_init_335 rfl rfl ?_
  refine ok_bipush (q := 338) (v := 32) dX12_init_336 cb_32 rfl ?_
  refine ok_new_b (q := 340) dX12_init_338 wd_725 (by decide) (by decide) rfl (fun hk => nw_ok hk (fun b295 h296 p297 k298 => ?_))
  have k299 : mm_kd h296 a0 = 11 := mm_kd_app p297 (mm_ke e294 k292) (by decide)
  refine ok_putR cl_11 (q := 343) (k := 45) dX12_init_340 (Nat.le_of_ble_eq_true rfl) wd_1077 (Or.inr ⟨rfl, rfl, rfl⟩) (fun _ _ _ => rfl) (fun _ => rfl) (fun _ => rfl) kt_11_45 (by decide) k299 k298 rfl (bh_ok (fun h300 e301 => ?_))
  have e301 : h300.1 = h296.1 := e301
  refine ok_aload_n (q := 344) dX12_init_343 rfl rfl ?_
  refine ok_bipush (q := 346) (v := 16) dX12_init_344 cb_16 rfl ?_
  refine ok_new_i (q := 348) dX12_init_346 wd_135 (by decide) (by decide) rfl (fun hk => nw_ok hk (fun b302 h303 p304 k305 => ?_))
  have k306 : mm_kd h303 a0 = 11 := mm_kd_app p304 (mm_ke e301 k299) (by decide)
  refine ok_putR cl_11 (q := 351) (k := 46) dX12_init_348 (Nat.le_of_ble_eq_true rfl) wd_1078 (Or.inr ⟨rfl, rfl, rfl⟩) (fun _ _ _ => rfl) (fun _ => rfl) (fun _ => rfl) kt_11_46 (by decide) k306 k305 rfl (bh_ok (fun h307 e308 => ?_))
  have e308 : h307.1 = h303.1 := e308
  refine ok_aload_n (q := 352) dX12_init_351 rfl rfl ?_
  refine ok_bipush (q := 354) (v := 16) dX12_init_352 cb_16 rfl ?_
  refine ok_new_i (q := 356) dX12_init_354 wd_135 (by decide) (by decide) rfl (fun hk => nw_ok hk (fun b309 h310 p311 k312 => ?_))
  have k313 : mm_kd h310 a0 = 11 := mm_kd_app p311 (mm_ke e308 k306) (by decide)
  refine ok_putR cl_11 (q := 359) (k := 47) dX12_init_356 (Nat.le_of_ble_eq_true rfl) wd_1079 (Or.inr ⟨rfl, rfl, rfl⟩) (fun _ _ _ => rfl) (fun _ => rfl) (fun _ => rfl) kt_11_47 (by decide) k313 k312 rfl (bh_ok (fun h314 e315 => ?_))
  have e315 : h314.1 = h310.1 := e315
  refine ok_aload_n (q := 360) dX12_init_359 rfl rfl ?_
  refine ok_bipush (q := 362) (v := 64) dX12_init_360 cb_64 rfl ?_
  refine ok_new_b (q := 364) dX12_init_362 wd_725 (by decide) (by decide) rfl (fun hk => nw_ok hk (fun b316 h317 p318 k319 => ?_))
  have k320 : mm_kd h317 a0 = 11 := mm_kd_app p318 (mm_ke e315 k313) (by decide)
  refine ok_putR cl_11 (q := 367) (k := 48) dX12_init_364 (Nat.le_of_ble_eq_true rfl) wd_1080 (Or.inr ⟨rfl, rfl, rfl⟩) (fun _ _ _ => rfl) (fun _ => rfl) (fun _ => rfl) kt_11_48 (by decide) k320 k319 rfl (bh_ok (fun h321 e322 => ?_))
  have e322 : h321.1 = h317.1 := e322
  refine ok_aload_n (q := 368) dX12_init_367 rfl rfl ?_
  refine ok_bipush (q := 370) (v := 32) dX12_init_368 cb_32 rfl ?_
  refine ok_new_b (q := 372) dX12_init_370 wd_725 (by decide) (by decide) rfl (fun hk => nw_ok hk (fun b323 h324 p325 k326 => ?_))
  have k327 : mm_kd h324 a0 = 11 := mm_kd_app p325 (mm_ke e322 k320) (by decide)
  refine ok_putR cl_11 (q := 375) (k := 49) dX12_init_372 (Nat.le_of_ble_eq_true rfl) wd_1081 (Or.inr ⟨rfl, rfl, rfl⟩) (fun _ _ _ => rfl) (fun _ => rfl) (fun _ => rfl) kt_11_49 (by decide) k327 k326 rfl (bh_ok (fun h328 e329 => ?_))
  have e329 : h328.1 = h324.1 := e329
  refine ok_aload_n (q := 376) dX12_init_375 rfl rfl ?_
  refine ok_bipush (q := 378) (v := 12) dX12_init_376 cb_12 rfl ?_
  refine ok_new_b (q := 380) dX12_init_378 wd_725 (by decide) (by decide) rfl (fun hk => nw_ok hk (fun b330 h331 p332 k333 => ?_))
  have k334 : mm_kd h331 a0 = 11 := mm_kd_app p332 (mm_ke e329 k327) (by decide)
  refine ok_putR cl_11 (q := 383) (k := 50) dX12_init_380 (Nat.le_of_ble_eq_true rfl) wd_1082 (Or.inr ⟨rfl, rfl, rfl⟩) (fun _ _ _ => rfl) (fun _ => rfl) (fun _ => rfl) kt_11_50 (by decide) k334 k333 rfl (bh_ok (fun h335 e336 => ?_))
  have e336 : h335.1 = h331.1 := e336
  refine ok_aload_n (q := 384) dX12_init_383 rfl rfl ?_
  refine ok_iconst (q := 385) (v := 5) dX12_init_384 ci_5 rfl ?_
  refine ok_new_l (q := 387) dX12_init_385 wd_216 (by decide) (by decide) rfl (fun hk => nw_ok hk (fun b337 h338 p339 k340 => ?_))
  have k341 : mm_kd h338 a0 = 11 := mm_kd_app p339 (mm_ke e336 k334) (by decide)
  refine ok_putR cl_11 (q := 390) (k := 51) dX12_init_387 (Nat.le_of_ble_eq_true rfl) wd_1083 (Or.inr ⟨rfl, rfl, rfl⟩) (fun _ _ _ => rfl) (fun _ => rfl) (fun _ => rfl) kt_11_51 (by decide) k341 k340 rfl (bh_ok (fun h342 e343 => ?_))
  have e343 : h342.1 = h338.1 := e343
  refine ok_aload_n (q := 391) dX12_init_390 rfl rfl ?_
  refine ok_iconst (q := 392) (v := 5) dX12_init_391 ci_5 rfl ?_
  refine ok_new_l (q := 394) dX12_init_392 wd_216 (by decide) (by decide) rfl (fun hk => nw_ok hk (fun b344 h345 p346 k347 => ?_))
  have k348 : mm_kd h345 a0 = 11 := mm_kd_app p346 (mm_ke e343 k341) (by decide)
  refine ok_putR cl_11 (q := 397) (k := 52) dX12_init_394 (Nat.le_of_ble_eq_true rfl) wd_1084 (Or.inr ⟨rfl, rfl, rfl⟩) (fun _ _ _ => rfl) (fun _ => rfl) (fun _ => rfl) kt_11_52 (by decide) k348 k347 rfl (bh_ok (fun h349 e350 => ?_))
  have e350 : h349.1 = h345.1 := e350
  refine ok_aload_n (q := 398) dX12_init_397 rfl rfl ?_
  refine ok_iconst (q := 399) (v := 5) dX12_init_398 ci_5 rfl ?_
  refine ok_new_l (q := 401) dX12_init_399 wd_216 (by decide) (by decide) rfl (fun hk => nw_ok hk (fun b351 h352 p353 k354 => ?_))
  have k355 : mm_kd h352 a0 = 11 := mm_kd_app p353 (mm_ke e350 k348) (by decide)
  refine ok_putR cl_11 (q := 404) (k := 53) dX12_init_401 (Nat.le_of_ble_eq_true rfl) wd_1085 (Or.inr ⟨rfl, rfl, rfl⟩) (fun _ _ _ => rfl) (fun _ => rfl) (fun _ => rfl) kt_11_53 (by decide) k355 k354 rfl (bh_ok (fun h356 e357 => ?_))
  have e357 : h356.1 = h352.1 := e357
  refine ok_aload_n (q := 405) dX12_init_404 rfl rfl ?_
  refine ok_bipush (q := 407) (v := 17) dX12_init_405 cb_17 rfl ?_
  refine ok_new_b (q := 409) dX12_init_407 wd_725 (by decide) (by decide) rfl (fun hk => nw_ok hk (fun b358 h359 p360 k361 => ?_))
  have k362 : mm_kd h359 a0 = 11 := mm_kd_app p360 (mm_ke e357 k355) (by decide)
  refine ok_putR cl_11 (q := 412) (k := 54) dX12_init_409 (Nat.le_of_ble_eq_true rfl) wd_1086 (Or.inr ⟨rfl, rfl, rfl⟩) (fun _ _ _ => rfl) (fun _ => rfl) (fun _ => rfl) kt_11_54 (by decide) k362 k361 rfl (bh_ok (fun h363 e364 => ?_))
  have e364 : h363.1 = h359.1 := e364
  refine ok_aload_n (q := 413) dX12_init_412 rfl rfl ?_
  refine ok_bipush (q := 415) (v := 16) dX12_init_413 cb_16 rfl ?_
  refine ok_new_b (q := 417) dX12_init_415 wd_725 (by decide) (by decide) rfl (fun hk => nw_ok hk (fun b365 h366 p367 k368 => ?_))
  have k369 : mm_kd h366 a0 = 11 := mm_kd_app p367 (mm_ke e364 k362) (by decide)
  refine ok_putR cl_11 (q := 420) (k := 55) dX12_init_417 (Nat.le_of_ble_eq_true rfl) wd_1087 (Or.inr ⟨rfl, rfl, rfl⟩) (fun _ _ _ => rfl) (fun _ => rfl) (fun _ => rfl) kt_11_55 (by decide) k369 k368 rfl (bh_ok (fun h370 e371 => ?_))
  have e371 : h370.1 = h366.1 := e371
  refine ok_aload_n (q := 421) dX12_init_420 rfl rfl ?_
  refine ok_bipush (q := 423) (v := 16) dX12_init_421 cb_16 rfl ?_
  refine ok_new_b (q := 425) dX12_init_423 wd_725 (by decide) (by decide) rfl (fun hk => nw_ok hk (fun b372 h373 p374 k375 => ?_))
  have k376 : mm_kd h373 a0 = 11 := mm_kd_app p374 (mm_ke e371 k369) (by decide)
  refine ok_putR cl_11 (q := 428) (k := 56) dX12_init_425 (Nat.le_of_ble_eq_true rfl) wd_1088 (Or.inr ⟨rfl, rfl, rfl⟩) (fun _ _ _ => rfl) (fun _ => rfl) (fun _ => rfl) kt_11_56 (by decide) k376 k375 rfl (bh_ok (fun h377 e378 => ?_))
  have e378 : h377.1 = h373.1 := e378
  refine ok_aload_n (q := 429) dX12_init_428 rfl rfl ?_
  refine ok_sipush (q := 432) (v := 500) dX12_init_429 cs_500 rfl ?_
  refine ok_new_b (q := 434) dX12_init_432 wd_725 (by decide) (by decide) rfl (fun hk => nw_ok hk (fun b379 h380 p381 k382 => ?_))
  have k383 : mm_kd h380 a0 = 11 := mm_kd_app p381 (mm_ke e378 k376) (by decide)
  refine ok_putR cl_11 (q := 437) (k := 57) dX12_init_434 (Nat.le_of_ble_eq_true rfl) wd_1089 (Or.inr ⟨rfl, rfl, rfl⟩) (fun _ _ _ => rfl) (fun _ => rfl) (fun _ => rfl) kt_11_57 (by decide) k383 k382 rfl (bh_ok (fun h384 e385 => ?_))
  have e385 : h384.1 = h380.1 := e385
  refine ok_aload_n (q := 438) dX12_init_437 rfl rfl ?_
  refine ok_bipush (q := 440) (v := 32) dX12_init_438 cb_32 rfl ?_
  refine ok_new_b (q := 442) dX12_init_440 wd_725 (by decide) (by decide) rfl (fun hk => nw_ok hk (fun b386 h387 p388 k389 => ?_))
  have k390 : mm_kd h387 a0 = 11 := mm_kd_app p388 (mm_ke e385 k383) (by decide)
  refine ok_putR cl_11 (q := 445) (k := 59) dX12_init_442 (Nat.le_of_ble_eq_true rfl) wd_1091 (Or.inr ⟨rfl, rfl, rfl⟩) (fun _ _ _ => rfl) (fun _ => rfl) (fun _ => rfl) kt_11_59 (by decide) k390 k389 rfl (bh_ok (fun h391 e392 => ?_))
  have e392 : h391.1 = h387.1 := e392
  refine ok_aload_n (q := 446) dX12_init_445 rfl rfl ?_
  refine ok_sipush (q := 449) (v := 640) dX12_init_446 cs_640 rfl ?_
  refine ok_new_b (q := 451) dX12_init_449 wd_725 (by decide) (by decide) rfl (fun hk => nw_ok hk (fun b393 h394 p395 k396 => ?_))
  have k397 : mm_kd h394 a0 = 11 := mm_kd_app p395 (mm_ke e392 k390) (by decide)
  refine ok_putR cl_11 (q := 454) (k := 60) dX12_init_451 (Nat.le_of_ble_eq_true rfl) wd_1092 (Or.inr ⟨rfl, rfl, rfl⟩) (fun _ _ _ => rfl) (fun _ => rfl) (fun _ => rfl) kt_11_60 (by decide) k397 k396 rfl (bh_ok (fun h398 e399 => ?_))
  have e399 : h398.1 = h394.1 := e399
  refine ok_aload_n (q := 455) dX12_init_454 rfl rfl ?_
  refine ok_bipush (q := 457) (v := 32) dX12_init_455 cb_32 rfl ?_
  refine ok_new_b (q := 459) dX12_init_457 wd_725 (by decide) (by decide) rfl (fun hk => nw_ok hk (fun b400 h401 p402 k403 => ?_))
  have k404 : mm_kd h401 a0 = 11 := mm_kd_app p402 (mm_ke e399 k397) (by decide)
  refine ok_putR cl_11 (q := 462) (k := 65) dX12_init_459 (Nat.le_of_ble_eq_true rfl) wd_1097 (Or.inr ⟨rfl, rfl, rfl⟩) (fun _ _ _ => rfl) (fun _ => rfl) (fun _ => rfl) kt_11_65 (by decide) k404 k403 rfl (bh_ok (fun h405 e406 => ?_))
  have e406 : h405.1 = h401.1 := e406
  refine ok_aload_n (q := 463) dX12_init_462 rfl rfl ?_
  refine ok_iconst (q := 464) (v := 0) dX12_init_463 ci_0 rfl ?_
  refine ok_ldc (q := 466) (v := 1116352408) dX12_init_464 wd_964 rfl ?_
  refine ok_ldc (q := 468) (v := 1899447441) dX12_init_466 wd_965 rfl ?_
  refine ok_ldc (q := 470) (v := -1245643825) dX12_init_468 wd_966 rfl ?_
  refine ok_ldc (q := 472) (v := -373957723) dX12_init_470 wd_967 rfl ?_
  refine ok_ldc (q := 474) (v := 961987163) dX12_init_472 wd_968 rfl ?_
  refine ok_ldc (q := 476) (v := 1508970993) dX12_init_474 wd_969 rfl ?_
  refine ok_ldc (q := 478) (v := -1841331548) dX12_init_476 wd_970 rfl ?_
  refine ok_ldc (q := 480) (v := -1424204075) dX12_init_478 wd_971 rfl ?_
  refine mm_cv (q := 483) (mt_X12_put8 G a0 0 1116352408 1899447441 (-1245643825) (-373957723) 961987163 1508970993 (-1841331548) (-1424204075) h405 (mm_ke e406 k404)) (mm_runV (as := [.int 0, .int 1116352408, .int 1899447441, .int (-1245643825), .int (-373957723), .int 961987163, .int 1508970993, .int (-1841331548), .int (-1424204075)]) (st := []) cl_11 lk_X12_init_X12_put8_196 rfl dX12_init_480 rfl (Nat.le_of_ble_eq_true rfl) (mm_ke e406 k404)) rfl (fun h407 p408 => ?_)
  have k409 : mm_kd h407 a0 = 11 := mm_kd_app p408 (mm_ke e406 k404) (by decide)
  refine ok_aload_n (q := 484) dX12_init_483 rfl rfl ?_
  refine ok_bipush (q := 486) (v := 8) dX12_init_484 cb_8 rfl ?_
  refine ok_ldc (q := 488) (v := -670586216) dX12_init_486 wd_976 rfl ?_
  refine ok_ldc (q := 490) (v := 310598401) dX12_init_488 wd_977 rfl ?_
  refine ok_ldc (q := 492) (v := 607225278) dX12_init_490 wd_978 rfl ?_
  refine ok_ldc (q := 494) (v := 1426881987) dX12_init_492 wd_979 rfl ?_
  refine ok_ldc (q := 496) (v := 1925078388) dX12_init_494 wd_980 rfl ?_
  refine ok_ldc (q := 498) (v := -2132889090) dX12_init_496 wd_981 rfl ?_
  refine ok_ldc (q := 500) (v := -1680079193) dX12_init_498 wd_982 rfl ?_
  refine ok_ldc (q := 502) (v := -1046744716) dX12_init_500 wd_983 rfl ?_
  refine mm_cv (q := 505) (mt_X12_put8 G a0 8 (-670586216) 310598401 607225278 1426881987 1925078388 (-2132889090) (-1680079193) (-1046744716) h407 k409) (mm_runV (as := [.int 8, .int (-670586216), .int 310598401, .int 607225278, .int 1426881987, .int 1925078388, .int (-2132889090), .int (-1680079193), .int (-1046744716)]) (st := []) cl_11 lk_X12_init_X12_put8_196 rfl dX12_init_502 rfl (Nat.le_of_ble_eq_true rfl) k409) rfl (fun h410 p411 => ?_)
  have k412 : mm_kd h410 a0 = 11 := mm_kd_app p411 k409 (by decide)
  refine ok_aload_n (q := 506) dX12_init_505 rfl rfl ?_
  refine ok_bipush (q := 508) (v := 16) dX12_init_506 cb_16 rfl ?_
  refine ok_ldc (q := 510) (v := -459576895) dX12_init_508 wd_984 rfl ?_
  refine ok_ldc (q := 512) (v := -272742522) dX12_init_510 wd_985 rfl ?_
  refine ok_ldc (q := 514) (v := 264347078) dX12_init_512 wd_986 rfl ?_
  refine ok_ldc (q := 516) (v := 604807628) dX12_init_514 wd_987 rfl ?_
  refine ok_ldc (q := 518) (v := 770255983) dX12_init_516 wd_988 rfl ?_
  refine ok_ldc (q := 520) (v := 1249150122) dX12_init_518 wd_989 rfl ?_
  refine ok_ldc (q := 522) (v := 1555081692) dX12_init_520 wd_990 rfl ?_
  refine ok_ldc (q := 524) (v := 1996064986) dX12_init_522 wd_991 rfl ?_
  refine mm_cv (q := 527) (mt_X12_put8 G a0 16 (-459576895) (-272742522) 264347078 604807628 770255983 1249150122 1555081692 1996064986 h410 k412) (mm_runV (as := [.int 16, .int (-459576895), .int (-272742522), .int 264347078, .int 604807628, .int 770255983, .int 1249150122, .int 1555081692, .int 1996064986]) (st := []) cl_11 lk_X12_init_X12_put8_196 rfl dX12_init_524 rfl (Nat.le_of_ble_eq_true rfl) k412) rfl (fun h413 p414 => ?_)
  have k415 : mm_kd h413 a0 = 11 := mm_kd_app p414 k412 (by decide)
  refine ok_aload_n (q := 528) dX12_init_527 rfl rfl ?_
  refine ok_bipush (q := 530) (v := 24) dX12_init_528 cb_24 rfl ?_
  refine ok_ldc (q := 532) (v := -1740746414) dX12_init_530 wd_992 rfl ?_
  refine ok_ldc (q := 534) (v := -1473132947) dX12_init_532 wd_993 rfl ?_
  refine ok_ldc (q := 536) (v := -1341970488) dX12_init_534 wd_994 rfl ?_
  refine ok_ldc (q := 538) (v := -1084653625) dX12_init_536 wd_995 rfl ?_
  refine ok_ldc (q := 540) (v := -958395405) dX12_init_538 wd_996 rfl ?_
  refine ok_ldc (q := 542) (v := -710438585) dX12_init_540 wd_997 rfl ?_
  refine ok_ldc (q := 544) (v := 113926993) dX12_init_542 wd_998 rfl ?_
  refine ok_ldc (q := 546) (v := 338241895) dX12_init_544 wd_999 rfl ?_
  refine mm_cv (q := 549) (mt_X12_put8 G a0 24 (-1740746414) (-1473132947) (-1341970488) (-1084653625) (-958395405) (-710438585) 113926993 338241895 h413 k415) (mm_runV (as := [.int 24, .int (-1740746414), .int (-1473132947), .int (-1341970488), .int (-1084653625), .int (-958395405), .int (-710438585), .int 113926993, .int 338241895]) (st := []) cl_11 lk_X12_init_X12_put8_196 rfl dX12_init_546 rfl (Nat.le_of_ble_eq_true rfl) k415) rfl (fun h416 p417 => ?_)
  have k418 : mm_kd h416 a0 = 11 := mm_kd_app p417 k415 (by decide)
  refine ok_aload_n (q := 550) dX12_init_549 rfl rfl ?_
  refine ok_bipush (q := 552) (v := 32) dX12_init_550 cb_32 rfl ?_
  refine ok_ldc (q := 554) (v := 666307205) dX12_init_552 wd_1000 rfl ?_
  refine ok_ldc (q := 556) (v := 773529912) dX12_init_554 wd_1001 rfl ?_
  refine ok_ldc (q := 558) (v := 1294757372) dX12_init_556 wd_1002 rfl ?_
  refine ok_ldc (q := 560) (v := 1396182291) dX12_init_558 wd_1003 rfl ?_
  refine ok_ldc (q := 562) (v := 1695183700) dX12_init_560 wd_1004 rfl ?_
  refine ok_ldc (q := 564) (v := 1986661051) dX12_init_562 wd_1005 rfl ?_
  refine ok_ldc (q := 566) (v := -2117940946) dX12_init_564 wd_1006 rfl ?_
  refine ok_ldc (q := 568) (v := -1838011259) dX12_init_566 wd_1007 rfl ?_
  refine mm_cv (q := 571) (mt_X12_put8 G a0 32 666307205 773529912 1294757372 1396182291 1695183700 1986661051 (-2117940946) (-1838011259) h416 k418) (mm_runV (as := [.int 32, .int 666307205, .int 773529912, .int 1294757372, .int 1396182291, .int 1695183700, .int 1986661051, .int (-2117940946), .int (-1838011259)]) (st := []) cl_11 lk_X12_init_X12_put8_196 rfl dX12_init_568 rfl (Nat.le_of_ble_eq_true rfl) k418) rfl (fun h419 p420 => ?_)
  have k421 : mm_kd h419 a0 = 11 := mm_kd_app p420 k418 (by decide)
  refine ok_aload_n (q := 572) dX12_init_571 rfl rfl ?_
  refine ok_bipush (q := 574) (v := 40) dX12_init_572 cb_40 rfl ?_
  refine ok_ldc (q := 576) (v := -1564481375) dX12_init_574 wd_1008 rfl ?_
  refine ok_ldc (q := 578) (v := -1474664885) dX12_init_576 wd_1009 rfl ?_
  refine ok_ldc (q := 580) (v := -1035236496) dX12_init_578 wd_1010 rfl ?_
  refine ok_ldc (q := 582) (v := -949202525) dX12_init_580 wd_1011 rfl ?_
  refine ok_ldc (q := 584) (v := -778901479) dX12_init_582 wd_1012 rfl ?_
  refine ok_ldc (q := 586) (v := -694614492) dX12_init_584 wd_1013 rfl ?_
  refine ok_ldc (q := 588) (v := -200395387) dX12_init_586 wd_1014 rfl ?_
  refine ok_ldc (q := 590) (v := 275423344) dX12_init_588 wd_1015 rfl ?_
  refine mm_cv (q := 593) (mt_X12_put8 G a0 40 (-1564481375) (-1474664885) (-1035236496) (-949202525) (-778901479) (-694614492) (-200395387) 275423344 h419 k421) (mm_runV (as := [.int 40, .int (-1564481375), .int (-1474664885), .int (-1035236496), .int (-949202525), .int (-778901479), .int (-694614492), .int (-200395387), .int 275423344]) (st := []) cl_11 lk_X12_init_X12_put8_196 rfl dX12_init_590 rfl (Nat.le_of_ble_eq_true rfl) k421) rfl (fun h422 p423 => ?_)
  have k424 : mm_kd h422 a0 = 11 := mm_kd_app p423 k421 (by decide)
  refine ok_aload_n (q := 594) dX12_init_593 rfl rfl ?_
  refine ok_bipush (q := 596) (v := 48) dX12_init_594 cb_48 rfl ?_
  refine ok_ldc (q := 598) (v := 430227734) dX12_init_596 wd_1016 rfl ?_
  refine ok_ldc (q := 600) (v := 506948616) dX12_init_598 wd_1017 rfl ?_
  refine ok_ldc (q := 602) (v := 659060556) dX12_init_600 wd_1018 rfl ?_
  refine ok_ldc (q := 604) (v := 883997877) dX12_init_602 wd_1019 rfl ?_
  refine ok_ldc (q := 606) (v := 958139571) dX12_init_604 wd_1020 rfl ?_
  refine ok_ldc (q := 608) (v := 1322822218) dX12_init_606 wd_1021 rfl ?_
  refine ok_ldc (q := 610) (v := 1537002063) dX12_init_608 wd_1022 rfl ?_
  refine ok_ldc (q := 612) (v := 1747873779) dX12_init_610 wd_1023 rfl ?_
  refine mm_cv (q := 615) (mt_X12_put8 G a0 48 430227734 506948616 659060556 883997877 958139571 1322822218 1537002063 1747873779 h422 k424) (mm_runV (as := [.int 48, .int 430227734, .int 506948616, .int 659060556, .int 883997877, .int 958139571, .int 1322822218, .int 1537002063, .int 1747873779]) (st := []) cl_11 lk_X12_init_X12_put8_196 rfl dX12_init_612 rfl (Nat.le_of_ble_eq_true rfl) k424) rfl (fun h425 p426 => ?_)
  have k427 : mm_kd h425 a0 = 11 := mm_kd_app p426 k424 (by decide)
  refine ok_aload_n (q := 616) dX12_init_615 rfl rfl ?_
  refine ok_bipush (q := 618) (v := 56) dX12_init_616 cb_56 rfl ?_
  refine ok_ldc (q := 620) (v := 1955562222) dX12_init_618 wd_1024 rfl ?_
  refine ok_ldc (q := 622) (v := 2024104815) dX12_init_620 wd_1025 rfl ?_
  refine ok_ldc (q := 624) (v := -2067236844) dX12_init_622 wd_1026 rfl ?_
  refine ok_ldc (q := 626) (v := -1933114872) dX12_init_624 wd_1027 rfl ?_
  refine ok_ldc (q := 628) (v := -1866530822) dX12_init_626 wd_1028 rfl ?_
  refine ok_ldc (q := 630) (v := -1538233109) dX12_init_628 wd_1029 rfl ?_
  refine ok_ldc (q := 632) (v := -1090935817) dX12_init_630 wd_1030 rfl ?_
  refine ok_ldc (q := 634) (v := -965641998) dX12_init_632 wd_1031 rfl ?_
  refine mm_cv (q := 637) (mt_X12_put8 G a0 56 1955562222 2024104815 (-2067236844) (-1933114872) (-1866530822) (-1538233109) (-1090935817) (-965641998) h425 k427) (mm_runV (as := [.int 56, .int 1955562222, .int 2024104815, .int (-2067236844), .int (-1933114872), .int (-1866530822), .int (-1538233109), .int (-1090935817), .int (-965641998)]) (st := []) cl_11 lk_X12_init_X12_put8_196 rfl dX12_init_634 rfl (Nat.le_of_ble_eq_true rfl) k427) rfl (fun h428 p429 => ?_)
  have k430 : mm_kd h428 a0 = 11 := mm_kd_app p429 k427 (by decide)
  refine ok_iconst (q := 638) (v := 0) dX12_init_637 ci_0 rfl ?_
  refine ok_istore_n (q := 639) (ls' := [.ref a0, .int 0]) dX12_init_638 (Nat.le_of_ble_eq_true rfl) rfl rfl ?_
  refine ol_X12_init_639  mm_fu a0 0 h428 k430
def bd_X12_isIn (x0 : Int32) (x1 : Int32) (x2 : Int32) (h : mm_H) : mm_O := if x0 < x1 then
  (some (some (.int 0), h))
  else
  (if x2 < x0 then
  (some (some (.int 0), h))
  else
  (some (some (.int 1), h)))
set_option maxHeartbeats 4000000 in
set_option maxRecDepth 100000 in
theorem mt_X12_isIn (G : mm_G) (x0 : Int32) (x1 : Int32) (x2 : Int32) (h : mm_H)  : mm_Met G my_X12_isIn [.int x0, .int x1, .int x2] h (bd_X12_isIn x0 x1 x2 h) := by
  refine mm_met (ls := [.int x0, .int x1, .int x2]) pn_RX12 (Nat.le_of_ble_eq_true rfl) rfl ?_
  unfold bd_X12_isIn
  refine ok_iload_n (q := 1) dX12_isIn_0 rfl rfl ?_
  refine ok_iload_n (q := 2) dX12_isIn_1 rfl rfl ?_
  refine ok_icmp_lt (q := 5) (t := 14) dX12_isIn_2 rfl rfl ?_ ?_
  · refine ok_iconst (q := 15) (v := 0) dX12_isIn_14 ci_0 rfl ?_
    exact ok_iret (t := .boolean) dX12_isIn_15 rfl (by decide)
  · refine ok_iload_n (q := 6) dX12_isIn_5 rfl rfl ?_
    refine ok_iload_n (q := 7) dX12_isIn_6 rfl rfl ?_
    refine ok_icmp_gt (q := 10) (t := 14) dX12_isIn_7 rfl rfl ?_ ?_
    · refine ok_iconst (q := 15) (v := 0) dX12_isIn_14 ci_0 rfl ?_
      exact ok_iret (t := .boolean) dX12_isIn_15 rfl (by decide)
    · refine ok_iconst (q := 11) (v := 1) dX12_isIn_10 ci_1 rfl ?_
      refine ok_goto (q := 15) dX12_isIn_11 rfl ?_
      exact ok_iret (t := .boolean) dX12_isIn_15 rfl (by decide)
def bd_X12_isEnd (a0 : Nat) (x1 : Int32) (h : mm_H) : mm_O := mm_qi (bd_X12_isIn x1 0 ((mm_i h a0 2) - (1 : Int32)) h) (fun v3 h1 =>
  if v3 = 0 ∨ v3 = 1 then some (some (.int v3), h1) else none)
set_option maxHeartbeats 4000000 in
set_option maxRecDepth 100000 in
theorem mt_X12_isEnd (G : mm_G) (a0 : Nat) (x1 : Int32) (h : mm_H) (k_a0 : mm_kd h a0 = 11) : mm_Met G my_X12_isEnd [.ref a0, .int x1] h (bd_X12_isEnd a0 x1 h) := by
  refine mm_met (ls := [.ref a0, .int x1]) pn_RX12 (Nat.le_of_ble_eq_true rfl) rfl ?_
  unfold bd_X12_isEnd
  refine ok_iload_n (q := 1) dX12_isEnd_0 rfl rfl ?_
  refine ok_iconst (q := 2) (v := 0) dX12_isEnd_1 ci_0 rfl ?_
  refine ok_aload_n (q := 3) dX12_isEnd_2 rfl rfl ?_
  refine ok_getI cl_11 (q := 6) (k := 2) dX12_isEnd_3 (Nat.le_of_ble_eq_true rfl) wd_1034 (fun _ _ _ => rfl) k_a0 rfl ?_
  refine ok_iconst (q := 7) (v := 1) dX12_isEnd_6 ci_1 rfl ?_
  refine ok_isub (q := 8) dX12_isEnd_7 rfl ?_
  refine mm_ci (q := 11) (mt_X12_isIn G x1 0 ((mm_i h a0 2) - (1 : Int32)) h ) (mm_runS (as := [.int x1, .int 0, .int ((mm_i h a0 2) - (1 : Int32))]) (st := []) lk_X12_isEnd_X12_isIn_260 dX12_isEnd_8 rfl (Nat.le_of_ble_eq_true rfl)) rfl (fun v3 h1 p2 => ?_)
  have k4 : mm_kd h1 a0 = 11 := mm_kd_app p2 k_a0 (by decide)
  refine mm_ck (fun c5 => ?_)
  exact ok_iret (t := .boolean) dX12_isEnd_11 rfl (mm_isb c5).1
def lp_X12_move_3  : Nat → Nat → Int32 → Nat → Int32 → Int32 → Int32 → mm_H → mm_O
  | 0, _, _, _, _, _, _, _ => none
  | n + 1, a0, x1, a2, x3, x4, x5, h => if x4 ≤ x5 then
  (some (none, h))
  else
  (if mm_in (x1 + x5) (mm_ln h a0) = true then (if 32 ≤ a2 ∧ mm_in (x3 + x5) (mm_ln h a2) = true then (mm_bh (mm_si h a2 (mm_n (x3 + x5)) (mm_b8 (mm_i h a0 (mm_n (x1 + x5))))) (fun h3 =>
  lp_X12_move_3 n a0 x1 a2 x3 x4 (x5 + 1) h3)) else none) else none)
set_option maxHeartbeats 4000000 in
set_option maxRecDepth 100000 in
theorem ol_X12_move_3 {G : mm_G}   : ∀ (n : Nat) (a0 : Nat) (x1 : Int32) (a2 : Nat) (x3 : Int32) (x4 : Int32) (x5 : Int32) (h : mm_H), mm_kd h a0 = 21 → mm_kd h a2 = 21 → mm_Ok G my_X12_move 3 [.ref a0, .int x1, .ref a2, .int x3, .int x4, .int x5] [] h (lp_X12_move_3 n a0 x1 a2 x3 x4 x5 h) := by
  intro n
  induction n with
  | zero => intro a0 x1 a2 x3 x4 x5 h k_a0 k_a2; exact mm_no
  | succ n ih =>
    intro a0 x1 a2 x3 x4 x5 h k_a0 k_a2
    rw [lp_X12_move_3]
    refine ok_iload (q := 5) dX12_move_3 rfl rfl ?_
    refine ok_iload (q := 7) dX12_move_5 rfl rfl ?_
    refine ok_icmp_ge (q := 10) (t := 28) dX12_move_7 rfl rfl ?_ ?_
    · exact ok_ret dX12_move_28 rfl
    · refine ok_aload_n (q := 11) dX12_move_10 rfl rfl ?_
      refine ok_iload_n (q := 12) dX12_move_11 rfl rfl ?_
      refine ok_iload (q := 14) dX12_move_12 rfl rfl ?_
      refine ok_iadd (q := 15) dX12_move_14 rfl ?_
      refine ok_aload_n (q := 16) dX12_move_15 rfl rfl ?_
      refine ok_iload_n (q := 17) dX12_move_16 rfl rfl ?_
      refine ok_iload (q := 19) dX12_move_17 rfl rfl ?_
      refine ok_iadd (q := 20) dX12_move_19 rfl ?_
      refine mm_ck (fun c1 => ?_)
      refine ok_bald (q := 21) dX12_move_20 k_a0 c1 rfl ?_
      refine mm_ck (fun c2 => ?_)
      refine ok_bast (q := 22) dX12_move_21 k_a2 c2.1 c2.2 rfl (bh_ok (fun h3 e4 => ?_))
      have e4 : h3.1 = h.1 := e4
      refine ok_iinc (q := 25) (v := x5 + 1) (ls' := [.ref a0, .int x1, .ref a2, .int x3, .int x4, .int (x5 + 1)]) dX12_move_22 rfl (congrArg (x5 + ·) ci_1) (Nat.le_of_ble_eq_true rfl) rfl rfl ?_
      refine ok_goto (q := 3) dX12_move_25 rfl ?_
      exact ih a0 x1 a2 x3 x4 (x5 + 1) h3 (mm_ke e4 k_a0) (mm_ke e4 k_a2)
def bd_X12_move (a0 : Nat) (x1 : Int32) (a2 : Nat) (x3 : Int32) (x4 : Int32) (h : mm_H) : mm_O := lp_X12_move_3  mm_fu a0 x1 a2 x3 x4 0 h
set_option maxHeartbeats 4000000 in
set_option maxRecDepth 100000 in
theorem mt_X12_move (G : mm_G) (a0 : Nat) (x1 : Int32) (a2 : Nat) (x3 : Int32) (x4 : Int32) (h : mm_H) (k_a0 : mm_kd h a0 = 21) (k_a2 : mm_kd h a2 = 21) : mm_Met G my_X12_move [.ref a0, .int x1, .ref a2, .int x3, .int x4] h (bd_X12_move a0 x1 a2 x3 x4 h) := by
  refine mm_met (ls := [.ref a0, .int x1, .ref a2, .int x3, .int x4, mm_U]) pn_RX12 (Nat.le_of_ble_eq_true rfl) rfl ?_
  unfold bd_X12_move
  refine ok_iconst (q := 1) (v := 0) dX12_move_0 ci_0 rfl ?_
  refine ok_istore (q := 3) (ls' := [.ref a0, .int x1, .ref a2, .int x3, .int x4, .int 0]) dX12_move_1 (Nat.le_of_ble_eq_true rfl) rfl rfl ?_
  refine ol_X12_move_3  mm_fu a0 x1 a2 x3 x4 0 h k_a0 k_a2
def bd_X12_turn (x0 : Int32) (x1 : Int32) (h : mm_H) : mm_O := some (some (.int ((mm_ush x0 x1) ||| (mm_shl x0 ((32 : Int32) - x1)))), h)
set_option maxHeartbeats 4000000 in
set_option maxRecDepth 100000 in
theorem mt_X12_turn (G : mm_G) (x0 : Int32) (x1 : Int32) (h : mm_H)  : mm_Met G my_X12_turn [.int x0, .int x1] h (bd_X12_turn x0 x1 h) := by
  refine mm_met (ls := [.int x0, .int x1]) pn_RX12 (Nat.le_of_ble_eq_true rfl) rfl ?_
  unfold bd_X12_turn
  refine ok_iload_n (q := 1) dX12_turn_0 rfl rfl ?_
  refine ok_iload_n (q := 2) dX12_turn_1 rfl rfl ?_
  refine ok_iushr (q := 3) dX12_turn_2 rfl ?_
  refine ok_iload_n (q := 4) dX12_turn_3 rfl rfl ?_
  refine ok_bipush (q := 6) (v := 32) dX12_turn_4 cb_32 rfl ?_
  refine ok_iload_n (q := 7) dX12_turn_6 rfl rfl ?_
  refine ok_isub (q := 8) dX12_turn_7 rfl ?_
  refine ok_ishl (q := 9) dX12_turn_8 rfl ?_
  refine ok_ior (q := 10) dX12_turn_9 rfl ?_
  exact ok_iret (t := .int) dX12_turn_10 rfl rfl
