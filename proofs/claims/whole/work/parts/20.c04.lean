def lp_X9_compress_3 (ke_119 : Nat → mm_H → mm_O) : Nat → Nat → Int32 → mm_H → mm_O
  | 0, _, _, _ => none
  | n + 1, a0, x1, h => mm_gr h a0 1 (fun b1 =>
  if (nI (mm_ln h b1)) ≤ x1 then
  (ke_119 a0 h)
  else
  (mm_gr h a0 1 (fun b3 =>
  if mm_in (x1 - (15 : Int32)) (mm_ln h b3) = true then (mm_bi (mm_i h b3 (mm_n (x1 - (15 : Int32)))) (fun v6 =>
  mm_gr h a0 1 (fun b7 =>
  if mm_in (x1 - (2 : Int32)) (mm_ln h b7) = true then (mm_bi (mm_i h b7 (mm_n (x1 - (2 : Int32)))) (fun v10 =>
  mm_bi ((((mm_ush v6 (7 : Int32)) ||| (mm_shl v6 (25 : Int32))) ^^^ ((mm_ush v6 (18 : Int32)) ||| (mm_shl v6 (14 : Int32)))) ^^^ (mm_ush v6 (3 : Int32))) (fun v11 =>
  mm_bi ((((mm_ush v10 (17 : Int32)) ||| (mm_shl v10 (15 : Int32))) ^^^ ((mm_ush v10 (19 : Int32)) ||| (mm_shl v10 (13 : Int32)))) ^^^ (mm_ush v10 (10 : Int32))) (fun v12 =>
  mm_gr h a0 1 (fun b13 =>
  mm_gr h a0 1 (fun b15 =>
  if mm_in (x1 - (16 : Int32)) (mm_ln h b15) = true then (mm_gr h a0 1 (fun b18 =>
  if mm_in (x1 - (7 : Int32)) (mm_ln h b18) = true then (if 32 ≤ b13 ∧ mm_in x1 (mm_ln h b13) = true then (mm_bh (mm_si h b13 (mm_n x1) ((((mm_i h b15 (mm_n (x1 - (16 : Int32)))) + v11) + (mm_i h b18 (mm_n (x1 - (7 : Int32))))) + v12)) (fun h22 =>
  lp_X9_compress_3 ke_119 n a0 (x1 + 1) h22)) else none) else none)) else none)))))) else none))) else none)))
set_option maxHeartbeats 4000000 in
set_option maxRecDepth 100000 in
theorem ol_X9_compress_3 {G : mm_G} {ke_119 : Nat → mm_H → mm_O} (hke_119 : ∀ (a0 : Nat) (h : mm_H), mm_kd h a0 = 8 → mm_Ok G my_X9_compress 119 [.ref a0, mm_U, mm_U, mm_U, mm_U, mm_U, mm_U, mm_U, mm_U, mm_U, mm_U, mm_U, mm_U, mm_U] [] h (ke_119 a0 h)) : ∀ (n : Nat) (a0 : Nat) (x1 : Int32) (h : mm_H), mm_kd h a0 = 8 → mm_Ok G my_X9_compress 3 [.ref a0, .int x1, mm_U, mm_U, mm_U, mm_U, mm_U, mm_U, mm_U, mm_U, mm_U, mm_U, mm_U, mm_U] [] h (lp_X9_compress_3 ke_119 n a0 x1 h) := by
  intro n
  induction n with
  | zero => intro a0 x1 h k_a0; exact mm_no
  | succ n ih =>
    intro a0 x1 h k_a0
    rw [lp_X9_compress_3]
    refine ok_iload_n (q := 4) dX9_compress_3 rfl rfl ?_
    refine ok_aload_n (q := 5) dX9_compress_4 rfl rfl ?_
    refine ok_getR cl_8 (q := 8) (k := 1) dX9_compress_5 (Nat.le_of_ble_eq_true rfl) wd_153 (fun _ _ _ => rfl) kt_8_1 k_a0 rfl (fun b1 k2 => ?_)
    refine ok_alen (q := 9) dX9_compress_8 (by rw [k2]; decide) rfl ?_
    refine ok_icmp_ge (q := 12) (t := 119) dX9_compress_9 rfl rfl ?_ ?_
    · refine mm_wk [true, false, false, false, false, false, false, false, false, false, false, false, false, false] (ls' := [.ref a0, mm_U, mm_U, mm_U, mm_U, mm_U, mm_U, mm_U, mm_U, mm_U, mm_U, mm_U, mm_U, mm_U]) rfl ?_
      exact hke_119 a0 h k_a0
    · refine ok_aload_n (q := 13) dX9_compress_12 rfl rfl ?_
      refine ok_getR cl_8 (q := 16) (k := 1) dX9_compress_13 (Nat.le_of_ble_eq_true rfl) wd_153 (fun _ _ _ => rfl) kt_8_1 k_a0 rfl (fun b3 k4 => ?_)
      refine ok_iload_n (q := 17) dX9_compress_16 rfl rfl ?_
      refine ok_bipush (q := 19) (v := 15) dX9_compress_17 cb_15 rfl ?_
      refine ok_isub (q := 20) dX9_compress_19 rfl ?_
      refine mm_ck (fun c5 => ?_)
      refine ok_iald (q := 21) dX9_compress_20 k4 c5 rfl ?_
      refine bi_ok (fun v6 => ?_)
      refine ok_istore_n (q := 22) (ls' := [.ref a0, .int x1, .int v6, mm_U, mm_U, mm_U, mm_U, mm_U, mm_U, mm_U, mm_U, mm_U, mm_U, mm_U]) dX9_compress_21 (Nat.le_of_ble_eq_true rfl) rfl rfl ?_
      refine ok_aload_n (q := 23) dX9_compress_22 rfl rfl ?_
      refine ok_getR cl_8 (q := 26) (k := 1) dX9_compress_23 (Nat.le_of_ble_eq_true rfl) wd_153 (fun _ _ _ => rfl) kt_8_1 k_a0 rfl (fun b7 k8 => ?_)
      refine ok_iload_n (q := 27) dX9_compress_26 rfl rfl ?_
      refine ok_iconst (q := 28) (v := 2) dX9_compress_27 ci_2 rfl ?_
      refine ok_isub (q := 29) dX9_compress_28 rfl ?_
      refine mm_ck (fun c9 => ?_)
      refine ok_iald (q := 30) dX9_compress_29 k8 c9 rfl ?_
      refine bi_ok (fun v10 => ?_)
      refine ok_istore_n (q := 31) (ls' := [.ref a0, .int x1, .int v6, .int v10, mm_U, mm_U, mm_U, mm_U, mm_U, mm_U, mm_U, mm_U, mm_U, mm_U]) dX9_compress_30 (Nat.le_of_ble_eq_true rfl) rfl rfl ?_
      refine ok_iload_n (q := 32) dX9_compress_31 rfl rfl ?_
      refine ok_bipush (q := 34) (v := 7) dX9_compress_32 cb_7 rfl ?_
      refine ok_iushr (q := 35) dX9_compress_34 rfl ?_
      refine ok_iload_n (q := 36) dX9_compress_35 rfl rfl ?_
      refine ok_bipush (q := 38) (v := 25) dX9_compress_36 cb_25 rfl ?_
      refine ok_ishl (q := 39) dX9_compress_38 rfl ?_
      refine ok_ior (q := 40) dX9_compress_39 rfl ?_
      refine ok_iload_n (q := 41) dX9_compress_40 rfl rfl ?_
      refine ok_bipush (q := 43) (v := 18) dX9_compress_41 cb_18 rfl ?_
      refine ok_iushr (q := 44) dX9_compress_43 rfl ?_
      refine ok_iload_n (q := 45) dX9_compress_44 rfl rfl ?_
      refine ok_bipush (q := 47) (v := 14) dX9_compress_45 cb_14 rfl ?_
      refine ok_ishl (q := 48) dX9_compress_47 rfl ?_
      refine ok_ior (q := 49) dX9_compress_48 rfl ?_
      refine ok_ixor (q := 50) dX9_compress_49 rfl ?_
      refine ok_iload_n (q := 51) dX9_compress_50 rfl rfl ?_
      refine ok_iconst (q := 52) (v := 3) dX9_compress_51 ci_3 rfl ?_
      refine ok_iushr (q := 53) dX9_compress_52 rfl ?_
      refine ok_ixor (q := 54) dX9_compress_53 rfl ?_
      refine bi_ok (fun v11 => ?_)
      refine ok_istore (q := 56) (ls' := [.ref a0, .int x1, .int v6, .int v10, .int v11, mm_U, mm_U, mm_U, mm_U, mm_U, mm_U, mm_U, mm_U, mm_U]) dX9_compress_54 (Nat.le_of_ble_eq_true rfl) rfl rfl ?_
      refine ok_iload_n (q := 57) dX9_compress_56 rfl rfl ?_
      refine ok_bipush (q := 59) (v := 17) dX9_compress_57 cb_17 rfl ?_
      refine ok_iushr (q := 60) dX9_compress_59 rfl ?_
      refine ok_iload_n (q := 61) dX9_compress_60 rfl rfl ?_
      refine ok_bipush (q := 63) (v := 15) dX9_compress_61 cb_15 rfl ?_
      refine ok_ishl (q := 64) dX9_compress_63 rfl ?_
      refine ok_ior (q := 65) dX9_compress_64 rfl ?_
      refine ok_iload_n (q := 66) dX9_compress_65 rfl rfl ?_
      refine ok_bipush (q := 68) (v := 19) dX9_compress_66 cb_19 rfl ?_
      refine ok_iushr (q := 69) dX9_compress_68 rfl ?_
      refine ok_iload_n (q := 70) dX9_compress_69 rfl rfl ?_
      refine ok_bipush (q := 72) (v := 13) dX9_compress_70 cb_13 rfl ?_
      refine ok_ishl (q := 73) dX9_compress_72 rfl ?_
      refine ok_ior (q := 74) dX9_compress_73 rfl ?_
      refine ok_ixor (q := 75) dX9_compress_74 rfl ?_
      refine ok_iload_n (q := 76) dX9_compress_75 rfl rfl ?_
      refine ok_bipush (q := 78) (v := 10) dX9_compress_76 cb_10 rfl ?_
      refine ok_iushr (q := 79) dX9_compress_78 rfl ?_
      refine ok_ixor (q := 80) dX9_compress_79 rfl ?_
      refine bi_ok (fun v12 => ?_)
      refine ok_istore (q := 82) (ls' := [.ref a0, .int x1, .int v6, .int v10, .int v11, .int v12, mm_U, mm_U, mm_U, mm_U, mm_U, mm_U, mm_U, mm_U]) dX9_compress_80 (Nat.le_of_ble_eq_true rfl) rfl rfl ?_
      refine ok_aload_n (q := 83) dX9_compress_82 rfl rfl ?_
      refine ok_getR cl_8 (q := 86) (k := 1) dX9_compress_83 (Nat.le_of_ble_eq_true rfl) wd_153 (fun _ _ _ => rfl) kt_8_1 k_a0 rfl (fun b13 k14 => ?_)
      refine ok_iload_n (q := 87) dX9_compress_86 rfl rfl ?_
      refine ok_aload_n (q := 88) dX9_compress_87 rfl rfl ?_
      refine ok_getR cl_8 (q := 91) (k := 1) dX9_compress_88 (Nat.le_of_ble_eq_true rfl) wd_153 (fun _ _ _ => rfl) kt_8_1 k_a0 rfl (fun b15 k16 => ?_)
      refine ok_iload_n (q := 92) dX9_compress_91 rfl rfl ?_
      refine ok_bipush (q := 94) (v := 16) dX9_compress_92 cb_16 rfl ?_
      refine ok_isub (q := 95) dX9_compress_94 rfl ?_
      refine mm_ck (fun c17 => ?_)
      refine ok_iald (q := 96) dX9_compress_95 k16 c17 rfl ?_
      refine ok_iload (q := 98) dX9_compress_96 rfl rfl ?_
      refine ok_iadd (q := 99) dX9_compress_98 rfl ?_
      refine ok_aload_n (q := 100) dX9_compress_99 rfl rfl ?_
      refine ok_getR cl_8 (q := 103) (k := 1) dX9_compress_100 (Nat.le_of_ble_eq_true rfl) wd_153 (fun _ _ _ => rfl) kt_8_1 k_a0 rfl (fun b18 k19 => ?_)
      refine ok_iload_n (q := 104) dX9_compress_103 rfl rfl ?_
      refine ok_bipush (q := 106) (v := 7) dX9_compress_104 cb_7 rfl ?_
      refine ok_isub (q := 107) dX9_compress_106 rfl ?_
      refine mm_ck (fun c20 => ?_)
      refine ok_iald (q := 108) dX9_compress_107 k19 c20 rfl ?_
      refine ok_iadd (q := 109) dX9_compress_108 rfl ?_
      refine ok_iload (q := 111) dX9_compress_109 rfl rfl ?_
      refine ok_iadd (q := 112) dX9_compress_111 rfl ?_
      refine mm_ck (fun c21 => ?_)
      refine ok_iast (q := 113) dX9_compress_112 k14 c21.1 c21.2 rfl (bh_ok (fun h22 e23 => ?_))
      have e23 : h22.1 = h.1 := e23
      refine ok_iinc (q := 116) (v := x1 + 1) (ls' := [.ref a0, .int (x1 + 1), .int v6, .int v10, .int v11, .int v12, mm_U, mm_U, mm_U, mm_U, mm_U, mm_U, mm_U, mm_U]) dX9_compress_113 rfl (congrArg (x1 + ·) ci_1) (Nat.le_of_ble_eq_true rfl) rfl rfl ?_
      refine ok_goto (q := 3) dX9_compress_116 rfl ?_
      refine mm_wk [true, true, false, false, false, false, false, false, false, false, false, false, false, false] (ls' := [.ref a0, .int (x1 + 1), mm_U, mm_U, mm_U, mm_U, mm_U, mm_U, mm_U, mm_U, mm_U, mm_U, mm_U, mm_U]) rfl ?_
      exact ih a0 (x1 + 1) h22 (mm_ke e23 k_a0)
def lp_X9_compress_185 (ke_352 : Nat → Int32 → Int32 → Int32 → Int32 → Int32 → Int32 → Int32 → Int32 → mm_H → mm_O) : Nat → Nat → Int32 → Int32 → Int32 → Int32 → Int32 → Int32 → Int32 → Int32 → Int32 → mm_H → mm_O
  | 0, _, _, _, _, _, _, _, _, _, _, _ => none
  | n + 1, a0, x1, x2, x3, x4, x5, x6, x7, x8, x9, h => mm_gr h a0 1 (fun b58 =>
  if (nI (mm_ln h b58)) ≤ x9 then
  (ke_352 a0 x1 x2 x3 x4 x5 x6 x7 x8 h)
  else
  (mm_bi ((((mm_ush x5 (6 : Int32)) ||| (mm_shl x5 (26 : Int32))) ^^^ ((mm_ush x5 (11 : Int32)) ||| (mm_shl x5 (21 : Int32)))) ^^^ ((mm_ush x5 (25 : Int32)) ||| (mm_shl x5 (7 : Int32)))) (fun v60 =>
  mm_bi ((((mm_ush x1 (2 : Int32)) ||| (mm_shl x1 (30 : Int32))) ^^^ ((mm_ush x1 (13 : Int32)) ||| (mm_shl x1 (19 : Int32)))) ^^^ ((mm_ush x1 (22 : Int32)) ||| (mm_shl x1 (10 : Int32)))) (fun v61 =>
  if mm_in x9 (mm_ln h 2) = true then (mm_gr h a0 1 (fun b64 =>
  if mm_in x9 (mm_ln h b64) = true then (mm_bi ((((x8 + v60) + ((x5 &&& x6) ^^^ ((x5 ^^^ (-1 : Int32)) &&& x7))) + (mm_i h 2 (mm_n x9))) + (mm_i h b64 (mm_n x9))) (fun v67 =>
  mm_bi (v61 + (((x1 &&& x2) ^^^ (x1 &&& x3)) ^^^ (x2 &&& x3))) (fun v68 =>
  mm_bi (x4 + v67) (fun v69 =>
  mm_bi (v67 + v68) (fun v70 =>
  lp_X9_compress_185 ke_352 n a0 v70 x1 x2 x3 v69 x5 x6 x7 (x9 + 1) h))))) else none)) else none))))
set_option maxHeartbeats 4000000 in
set_option maxRecDepth 100000 in
theorem ol_X9_compress_185 {G : mm_G} {ke_352 : Nat → Int32 → Int32 → Int32 → Int32 → Int32 → Int32 → Int32 → Int32 → mm_H → mm_O} (hke_352 : ∀ (a0 : Nat) (x1 : Int32) (x2 : Int32) (x3 : Int32) (x4 : Int32) (x5 : Int32) (x6 : Int32) (x7 : Int32) (x8 : Int32) (h : mm_H), mm_kd h a0 = 8 → mm_Ok G my_X9_compress 352 [.ref a0, .int x1, .int x2, .int x3, .int x4, .int x5, .int x6, .int x7, .int x8, mm_U, mm_U, mm_U, mm_U, mm_U] [] h (ke_352 a0 x1 x2 x3 x4 x5 x6 x7 x8 h)) : ∀ (n : Nat) (a0 : Nat) (x1 : Int32) (x2 : Int32) (x3 : Int32) (x4 : Int32) (x5 : Int32) (x6 : Int32) (x7 : Int32) (x8 : Int32) (x9 : Int32) (h : mm_H), mm_kd h a0 = 8 → mm_Ok G my_X9_compress 185 [.ref a0, .int x1, .int x2, .int x3, .int x4, .int x5, .int x6, .int x7, .int x8, .int x9, mm_U, mm_U, mm_U, mm_U] [] h (lp_X9_compress_185 ke_352 n a0 x1 x2 x3 x4 x5 x6 x7 x8 x9 h) := by
  intro n
  induction n with
  | zero => intro a0 x1 x2 x3 x4 x5 x6 x7 x8 x9 h k_a0; exact mm_no
  | succ n ih =>
    intro a0 x1 x2 x3 x4 x5 x6 x7 x8 x9 h k_a0
    rw [lp_X9_compress_185]
    refine ok_iload (q := 187) dX9_compress_185 rfl rfl ?_
    refine ok_aload_n (q := 188) dX9_compress_187 rfl rfl ?_
    refine ok_getR cl_8 (q := 191) (k := 1) dX9_compress_188 (Nat.le_of_ble_eq_true rfl) wd_153 (fun _ _ _ => rfl) kt_8_1 k_a0 rfl (fun b58 k59 => ?_)
    refine ok_alen (q := 192) dX9_compress_191 (by rw [k59]; decide) rfl ?_
    refine ok_icmp_ge (q := 195) (t := 352) dX9_compress_192 rfl rfl ?_ ?_
    · refine mm_wk [true, true, true, true, true, true, true, true, true, false, false, false, false, false] (ls' := [.ref a0, .int x1, .int x2, .int x3, .int x4, .int x5, .int x6, .int x7, .int x8, mm_U, mm_U, mm_U, mm_U, mm_U]) rfl ?_
      exact hke_352 a0 x1 x2 x3 x4 x5 x6 x7 x8 h k_a0
    · refine ok_iload (q := 197) dX9_compress_195 rfl rfl ?_
      refine ok_bipush (q := 199) (v := 6) dX9_compress_197 cb_6 rfl ?_
      refine ok_iushr (q := 200) dX9_compress_199 rfl ?_
      refine ok_iload (q := 202) dX9_compress_200 rfl rfl ?_
      refine ok_bipush (q := 204) (v := 26) dX9_compress_202 cb_26 rfl ?_
      refine ok_ishl (q := 205) dX9_compress_204 rfl ?_
      refine ok_ior (q := 206) dX9_compress_205 rfl ?_
      refine ok_iload (q := 208) dX9_compress_206 rfl rfl ?_
      refine ok_bipush (q := 210) (v := 11) dX9_compress_208 cb_11 rfl ?_
      refine ok_iushr (q := 211) dX9_compress_210 rfl ?_
      refine ok_iload (q := 213) dX9_compress_211 rfl rfl ?_
      refine ok_bipush (q := 215) (v := 21) dX9_compress_213 cb_21 rfl ?_
      refine ok_ishl (q := 216) dX9_compress_215 rfl ?_
      refine ok_ior (q := 217) dX9_compress_216 rfl ?_
      refine ok_ixor (q := 218) dX9_compress_217 rfl ?_
      refine ok_iload (q := 220) dX9_compress_218 rfl rfl ?_
      refine ok_bipush (q := 222) (v := 25) dX9_compress_220 cb_25 rfl ?_
      refine ok_iushr (q := 223) dX9_compress_222 rfl ?_
      refine ok_iload (q := 225) dX9_compress_223 rfl rfl ?_
      refine ok_bipush (q := 227) (v := 7) dX9_compress_225 cb_7 rfl ?_
      refine ok_ishl (q := 228) dX9_compress_227 rfl ?_
      refine ok_ior (q := 229) dX9_compress_228 rfl ?_
      refine ok_ixor (q := 230) dX9_compress_229 rfl ?_
      refine bi_ok (fun v60 => ?_)
      refine ok_istore (q := 232) (ls' := [.ref a0, .int x1, .int x2, .int x3, .int x4, .int x5, .int x6, .int x7, .int x8, .int x9, .int v60, mm_U, mm_U, mm_U]) dX9_compress_230 (Nat.le_of_ble_eq_true rfl) rfl rfl ?_
      refine ok_iload_n (q := 233) dX9_compress_232 rfl rfl ?_
      refine ok_iconst (q := 234) (v := 2) dX9_compress_233 ci_2 rfl ?_
      refine ok_iushr (q := 235) dX9_compress_234 rfl ?_
      refine ok_iload_n (q := 236) dX9_compress_235 rfl rfl ?_
      refine ok_bipush (q := 238) (v := 30) dX9_compress_236 cb_30 rfl ?_
      refine ok_ishl (q := 239) dX9_compress_238 rfl ?_
      refine ok_ior (q := 240) dX9_compress_239 rfl ?_
      refine ok_iload_n (q := 241) dX9_compress_240 rfl rfl ?_
      refine ok_bipush (q := 243) (v := 13) dX9_compress_241 cb_13 rfl ?_
      refine ok_iushr (q := 244) dX9_compress_243 rfl ?_
      refine ok_iload_n (q := 245) dX9_compress_244 rfl rfl ?_
      refine ok_bipush (q := 247) (v := 19) dX9_compress_245 cb_19 rfl ?_
      refine ok_ishl (q := 248) dX9_compress_247 rfl ?_
      refine ok_ior (q := 249) dX9_compress_248 rfl ?_
      refine ok_ixor (q := 250) dX9_compress_249 rfl ?_
      refine ok_iload_n (q := 251) dX9_compress_250 rfl rfl ?_
      refine ok_bipush (q := 253) (v := 22) dX9_compress_251 cb_22 rfl ?_
      refine ok_iushr (q := 254) dX9_compress_253 rfl ?_
      refine ok_iload_n (q := 255) dX9_compress_254 rfl rfl ?_
      refine ok_bipush (q := 257) (v := 10) dX9_compress_255 cb_10 rfl ?_
      refine ok_ishl (q := 258) dX9_compress_257 rfl ?_
      refine ok_ior (q := 259) dX9_compress_258 rfl ?_
      refine ok_ixor (q := 260) dX9_compress_259 rfl ?_
      refine bi_ok (fun v61 => ?_)
      refine ok_istore (q := 262) (ls' := [.ref a0, .int x1, .int x2, .int x3, .int x4, .int x5, .int x6, .int x7, .int x8, .int x9, .int v60, .int v61, mm_U, mm_U]) dX9_compress_260 (Nat.le_of_ble_eq_true rfl) rfl rfl ?_
      refine ok_iload (q := 264) dX9_compress_262 rfl rfl ?_
      refine ok_iload (q := 266) dX9_compress_264 rfl rfl ?_
      refine ok_iadd (q := 267) dX9_compress_266 rfl ?_
      refine ok_iload (q := 269) dX9_compress_267 rfl rfl ?_
      refine ok_iload (q := 271) dX9_compress_269 rfl rfl ?_
      refine ok_iand (q := 272) dX9_compress_271 rfl ?_
      refine ok_iload (q := 274) dX9_compress_272 rfl rfl ?_
      refine ok_iconst (q := 275) (v := -1) dX9_compress_274 ci_m1 rfl ?_
      refine ok_ixor (q := 276) dX9_compress_275 rfl ?_
      refine ok_iload (q := 278) dX9_compress_276 rfl rfl ?_
      refine ok_iand (q := 279) dX9_compress_278 rfl ?_
      refine ok_ixor (q := 280) dX9_compress_279 rfl ?_
      refine ok_iadd (q := 281) dX9_compress_280 rfl ?_
      refine ok_gets (q := 284) (a := 2) (by decide +kernel) dX9_compress_281 wd_150 (by decide) rfl (fun k62 => ?_)
      refine ok_iload (q := 286) dX9_compress_284 rfl rfl ?_
      refine mm_ck (fun c63 => ?_)
      refine ok_iald (q := 287) dX9_compress_286 k62 c63 rfl ?_
      refine ok_iadd (q := 288) dX9_compress_287 rfl ?_
      refine ok_aload_n (q := 289) dX9_compress_288 rfl rfl ?_
      refine ok_getR cl_8 (q := 292) (k := 1) dX9_compress_289 (Nat.le_of_ble_eq_true rfl) wd_153 (fun _ _ _ => rfl) kt_8_1 k_a0 rfl (fun b64 k65 => ?_)
      refine ok_iload (q := 294) dX9_compress_292 rfl rfl ?_
      refine mm_ck (fun c66 => ?_)
      refine ok_iald (q := 295) dX9_compress_294 k65 c66 rfl ?_
      refine ok_iadd (q := 296) dX9_compress_295 rfl ?_
      refine bi_ok (fun v67 => ?_)
      refine ok_istore (q := 298) (ls' := [.ref a0, .int x1, .int x2, .int x3, .int x4, .int x5, .int x6, .int x7, .int x8, .int x9, .int v60, .int v61, .int v67, mm_U]) dX9_compress_296 (Nat.le_of_ble_eq_true rfl) rfl rfl ?_
      refine ok_iload (q := 300) dX9_compress_298 rfl rfl ?_
      refine ok_iload_n (q := 301) dX9_compress_300 rfl rfl ?_
      refine ok_iload_n (q := 302) dX9_compress_301 rfl rfl ?_
      refine ok_iand (q := 303) dX9_compress_302 rfl ?_
      refine ok_iload_n (q := 304) dX9_compress_303 rfl rfl ?_
      refine ok_iload_n (q := 305) dX9_compress_304 rfl rfl ?_
      refine ok_iand (q := 306) dX9_compress_305 rfl ?_
      refine ok_ixor (q := 307) dX9_compress_306 rfl ?_
      refine ok_iload_n (q := 308) dX9_compress_307 rfl rfl ?_
      refine ok_iload_n (q := 309) dX9_compress_308 rfl rfl ?_
      refine ok_iand (q := 310) dX9_compress_309 rfl ?_
      refine ok_ixor (q := 311) dX9_compress_310 rfl ?_
      refine ok_iadd (q := 312) dX9_compress_311 rfl ?_
      refine bi_ok (fun v68 => ?_)
      refine ok_istore (q := 314) (ls' := [.ref a0, .int x1, .int x2, .int x3, .int x4, .int x5, .int x6, .int x7, .int x8, .int x9, .int v60, .int v61, .int v67, .int v68]) dX9_compress_312 (Nat.le_of_ble_eq_true rfl) rfl rfl ?_
      refine ok_iload (q := 316) dX9_compress_314 rfl rfl ?_
      refine ok_istore (q := 318) (ls' := [.ref a0, .int x1, .int x2, .int x3, .int x4, .int x5, .int x6, .int x7, .int x7, .int x9, .int v60, .int v61, .int v67, .int v68]) dX9_compress_316 (Nat.le_of_ble_eq_true rfl) rfl rfl ?_
      refine ok_iload (q := 320) dX9_compress_318 rfl rfl ?_
      refine ok_istore (q := 322) (ls' := [.ref a0, .int x1, .int x2, .int x3, .int x4, .int x5, .int x6, .int x6, .int x7, .int x9, .int v60, .int v61, .int v67, .int v68]) dX9_compress_320 (Nat.le_of_ble_eq_true rfl) rfl rfl ?_
      refine ok_iload (q := 324) dX9_compress_322 rfl rfl ?_
      refine ok_istore (q := 326) (ls' := [.ref a0, .int x1, .int x2, .int x3, .int x4, .int x5, .int x5, .int x6, .int x7, .int x9, .int v60, .int v61, .int v67, .int v68]) dX9_compress_324 (Nat.le_of_ble_eq_true rfl) rfl rfl ?_
      refine ok_iload (q := 328) dX9_compress_326 rfl rfl ?_
      refine ok_iload (q := 330) dX9_compress_328 rfl rfl ?_
      refine ok_iadd (q := 331) dX9_compress_330 rfl ?_
      refine bi_ok (fun v69 => ?_)
      refine ok_istore (q := 333) (ls' := [.ref a0, .int x1, .int x2, .int x3, .int x4, .int v69, .int x5, .int x6, .int x7, .int x9, .int v60, .int v61, .int v67, .int v68]) dX9_compress_331 (Nat.le_of_ble_eq_true rfl) rfl rfl ?_
      refine ok_iload_n (q := 334) dX9_compress_333 rfl rfl ?_
      refine ok_istore (q := 336) (ls' := [.ref a0, .int x1, .int x2, .int x3, .int x3, .int v69, .int x5, .int x6, .int x7, .int x9, .int v60, .int v61, .int v67, .int v68]) dX9_compress_334 (Nat.le_of_ble_eq_true rfl) rfl rfl ?_
      refine ok_iload_n (q := 337) dX9_compress_336 rfl rfl ?_
      refine ok_istore_n (q := 338) (ls' := [.ref a0, .int x1, .int x2, .int x2, .int x3, .int v69, .int x5, .int x6, .int x7, .int x9, .int v60, .int v61, .int v67, .int v68]) dX9_compress_337 (Nat.le_of_ble_eq_true rfl) rfl rfl ?_
      refine ok_iload_n (q := 339) dX9_compress_338 rfl rfl ?_
      refine ok_istore_n (q := 340) (ls' := [.ref a0, .int x1, .int x1, .int x2, .int x3, .int v69, .int x5, .int x6, .int x7, .int x9, .int v60, .int v61, .int v67, .int v68]) dX9_compress_339 (Nat.le_of_ble_eq_true rfl) rfl rfl ?_
      refine ok_iload (q := 342) dX9_compress_340 rfl rfl ?_
      refine ok_iload (q := 344) dX9_compress_342 rfl rfl ?_
      refine ok_iadd (q := 345) dX9_compress_344 rfl ?_
      refine bi_ok (fun v70 => ?_)
      refine ok_istore_n (q := 346) (ls' := [.ref a0, .int v70, .int x1, .int x2, .int x3, .int v69, .int x5, .int x6, .int x7, .int x9, .int v60, .int v61, .int v67, .int v68]) dX9_compress_345 (Nat.le_of_ble_eq_true rfl) rfl rfl ?_
      refine ok_iinc (q := 349) (v := x9 + 1) (ls' := [.ref a0, .int v70, .int x1, .int x2, .int x3, .int v69, .int x5, .int x6, .int x7, .int (x9 + 1), .int v60, .int v61, .int v67, .int v68]) dX9_compress_346 rfl (congrArg (x9 + ·) ci_1) (Nat.le_of_ble_eq_true rfl) rfl rfl ?_
      refine ok_goto (q := 185) dX9_compress_349 rfl ?_
      refine mm_wk [true, true, true, true, true, true, true, true, true, true, false, false, false, false] (ls' := [.ref a0, .int v70, .int x1, .int x2, .int x3, .int v69, .int x5, .int x6, .int x7, .int (x9 + 1), mm_U, mm_U, mm_U, mm_U]) rfl ?_
      exact ih a0 v70 x1 x2 x3 v69 x5 x6 x7 (x9 + 1) h k_a0
def bd_X9_compress (a0 : Nat) (h : mm_H) : mm_O := lp_X9_compress_3 (fun b25 h24 => mm_gr h24 b25 0 (fun b26 =>
  if mm_in (0 : Int32) (mm_ln h24 b26) = true then (mm_bi (mm_i h24 b26 (mm_n (0 : Int32))) (fun v29 =>
  mm_gr h24 b25 0 (fun b30 =>
  if mm_in (1 : Int32) (mm_ln h24 b30) = true then (mm_bi (mm_i h24 b30 (mm_n (1 : Int32))) (fun v33 =>
  mm_gr h24 b25 0 (fun b34 =>
  if mm_in (2 : Int32) (mm_ln h24 b34) = true then (mm_bi (mm_i h24 b34 (mm_n (2 : Int32))) (fun v37 =>
  mm_gr h24 b25 0 (fun b38 =>
  if mm_in (3 : Int32) (mm_ln h24 b38) = true then (mm_bi (mm_i h24 b38 (mm_n (3 : Int32))) (fun v41 =>
  mm_gr h24 b25 0 (fun b42 =>
  if mm_in (4 : Int32) (mm_ln h24 b42) = true then (mm_bi (mm_i h24 b42 (mm_n (4 : Int32))) (fun v45 =>
  mm_gr h24 b25 0 (fun b46 =>
  if mm_in (5 : Int32) (mm_ln h24 b46) = true then (mm_bi (mm_i h24 b46 (mm_n (5 : Int32))) (fun v49 =>
  mm_gr h24 b25 0 (fun b50 =>
  if mm_in (6 : Int32) (mm_ln h24 b50) = true then (mm_bi (mm_i h24 b50 (mm_n (6 : Int32))) (fun v53 =>
  mm_gr h24 b25 0 (fun b54 =>
  if mm_in (7 : Int32) (mm_ln h24 b54) = true then (mm_bi (mm_i h24 b54 (mm_n (7 : Int32))) (fun v57 =>
  lp_X9_compress_185 (fun b72 v73 v74 v75 v76 v77 v78 v79 v80 h71 => mm_gr h71 b72 0 (fun b81 =>
  if mm_in (0 : Int32) (mm_ln h71 b81) = true then (if 32 ≤ b81 ∧ mm_in (0 : Int32) (mm_ln h71 b81) = true then (mm_bh (mm_si h71 b81 (mm_n (0 : Int32)) ((mm_i h71 b81 (mm_n (0 : Int32))) + v73)) (fun h85 =>
  mm_gr h85 b72 0 (fun b87 =>
  if mm_in (1 : Int32) (mm_ln h85 b87) = true then (if 32 ≤ b87 ∧ mm_in (1 : Int32) (mm_ln h85 b87) = true then (mm_bh (mm_si h85 b87 (mm_n (1 : Int32)) ((mm_i h85 b87 (mm_n (1 : Int32))) + v74)) (fun h91 =>
  mm_gr h91 b72 0 (fun b93 =>
  if mm_in (2 : Int32) (mm_ln h91 b93) = true then (if 32 ≤ b93 ∧ mm_in (2 : Int32) (mm_ln h91 b93) = true then (mm_bh (mm_si h91 b93 (mm_n (2 : Int32)) ((mm_i h91 b93 (mm_n (2 : Int32))) + v75)) (fun h97 =>
  mm_gr h97 b72 0 (fun b99 =>
  if mm_in (3 : Int32) (mm_ln h97 b99) = true then (if 32 ≤ b99 ∧ mm_in (3 : Int32) (mm_ln h97 b99) = true then (mm_bh (mm_si h97 b99 (mm_n (3 : Int32)) ((mm_i h97 b99 (mm_n (3 : Int32))) + v76)) (fun h103 =>
  mm_gr h103 b72 0 (fun b105 =>
  if mm_in (4 : Int32) (mm_ln h103 b105) = true then (if 32 ≤ b105 ∧ mm_in (4 : Int32) (mm_ln h103 b105) = true then (mm_bh (mm_si h103 b105 (mm_n (4 : Int32)) ((mm_i h103 b105 (mm_n (4 : Int32))) + v77)) (fun h109 =>
  mm_gr h109 b72 0 (fun b111 =>
  if mm_in (5 : Int32) (mm_ln h109 b111) = true then (if 32 ≤ b111 ∧ mm_in (5 : Int32) (mm_ln h109 b111) = true then (mm_bh (mm_si h109 b111 (mm_n (5 : Int32)) ((mm_i h109 b111 (mm_n (5 : Int32))) + v78)) (fun h115 =>
  mm_gr h115 b72 0 (fun b117 =>
  if mm_in (6 : Int32) (mm_ln h115 b117) = true then (if 32 ≤ b117 ∧ mm_in (6 : Int32) (mm_ln h115 b117) = true then (mm_bh (mm_si h115 b117 (mm_n (6 : Int32)) ((mm_i h115 b117 (mm_n (6 : Int32))) + v79)) (fun h121 =>
  mm_gr h121 b72 0 (fun b123 =>
  if mm_in (7 : Int32) (mm_ln h121 b123) = true then (if 32 ≤ b123 ∧ mm_in (7 : Int32) (mm_ln h121 b123) = true then (mm_bh (mm_si h121 b123 (mm_n (7 : Int32)) ((mm_i h121 b123 (mm_n (7 : Int32))) + v80)) (fun h127 =>
  some (none, h127))) else none) else none))) else none) else none))) else none) else none))) else none) else none))) else none) else none))) else none) else none))) else none) else none))) else none) else none)) mm_fu b25 v29 v33 v37 v41 v45 v49 v53 v57 0 h24)) else none))) else none))) else none))) else none))) else none))) else none))) else none))) else none)) mm_fu a0 16 h
set_option maxHeartbeats 4000000 in
set_option maxRecDepth 100000 in
theorem mt_X9_compress (G : mm_G) (a0 : Nat) (h : mm_H) (k_a0 : mm_kd h a0 = 8) : mm_Met G my_X9_compress [.ref a0] h (bd_X9_compress a0 h) := by
  refine mm_met (ls := [.ref a0, mm_U, mm_U, mm_U, mm_U, mm_U, mm_U, mm_U, mm_U, mm_U, mm_U, mm_U, mm_U, mm_U]) pn_RX9 (Nat.le_of_ble_eq_true rfl) rfl ?_
  unfold bd_X9_compress
  refine ok_bipush (q := 2) (v := 16) dX9_compress_0 cb_16 rfl ?_
  refine ok_istore_n (q := 3) (ls' := [.ref a0, .int 16, mm_U, mm_U, mm_U, mm_U, mm_U, mm_U, mm_U, mm_U, mm_U, mm_U, mm_U, mm_U]) dX9_compress_2 (Nat.le_of_ble_eq_true rfl) rfl rfl ?_
  refine ol_X9_compress_3 (fun b25 h24 k_b25 => ?_) mm_fu a0 16 h k_a0
  · refine ok_aload_n (q := 120) dX9_compress_119 rfl rfl ?_
    refine ok_getR cl_8 (q := 123) (k := 0) dX9_compress_120 (Nat.le_of_ble_eq_true rfl) wd_152 (fun _ _ _ => rfl) kt_8_0 k_b25 rfl (fun b26 k27 => ?_)
    refine ok_iconst (q := 124) (v := 0) dX9_compress_123 ci_0 rfl ?_
    refine mm_ck (fun c28 => ?_)
    refine ok_iald (q := 125) dX9_compress_124 k27 c28 rfl ?_
    refine bi_ok (fun v29 => ?_)
    refine ok_istore_n (q := 126) (ls' := [.ref b25, .int v29, mm_U, mm_U, mm_U, mm_U, mm_U, mm_U, mm_U, mm_U, mm_U, mm_U, mm_U, mm_U]) dX9_compress_125 (Nat.le_of_ble_eq_true rfl) rfl rfl ?_
    refine ok_aload_n (q := 127) dX9_compress_126 rfl rfl ?_
    refine ok_getR cl_8 (q := 130) (k := 0) dX9_compress_127 (Nat.le_of_ble_eq_true rfl) wd_152 (fun _ _ _ => rfl) kt_8_0 k_b25 rfl (fun b30 k31 => ?_)
    refine ok_iconst (q := 131) (v := 1) dX9_compress_130 ci_1 rfl ?_
    refine mm_ck (fun c32 => ?_)
    refine ok_iald (q := 132) dX9_compress_131 k31 c32 rfl ?_
    refine bi_ok (fun v33 => ?_)
    refine ok_istore_n (q := 133) (ls' := [.ref b25, .int v29, .int v33, mm_U, mm_U, mm_U, mm_U, mm_U, mm_U, mm_U, mm_U, mm_U, mm_U, mm_U]) dX9_compress_132 (Nat.le_of_ble_eq_true rfl) rfl rfl ?_
    refine ok_aload_n (q := 134) dX9_compress_133 rfl rfl ?_
    refine ok_getR cl_8 (q := 137) (k := 0) dX9_compress_134 (Nat.le_of_ble_eq_true rfl) wd_152 (fun _ _ _ => rfl) kt_8_0 k_b25 rfl (fun b34 k35 => ?_)
    refine ok_iconst (q := 138) (v := 2) dX9_compress_137 ci_2 rfl ?_
    refine mm_ck (fun c36 => ?_)
    refine ok_iald (q := 139) dX9_compress_138 k35 c36 rfl ?_
    refine bi_ok (fun v37 => ?_)
    refine ok_istore_n (q := 140) (ls' := [.ref b25, .int v29, .int v33, .int v37, mm_U, mm_U, mm_U, mm_U, mm_U, mm_U, mm_U, mm_U, mm_U, mm_U]) dX9_compress_139 (Nat.le_of_ble_eq_true rfl) rfl rfl ?_
    refine ok_aload_n (q := 141) dX9_compress_140 rfl rfl ?_
    refine ok_getR cl_8 (q := 144) (k := 0) dX9_compress_141 (Nat.le_of_ble_eq_true rfl) wd_152 (fun _ _ _ => rfl) kt_8_0 k_b25 rfl (fun b38 k39 => ?_)
    refine ok_iconst (q := 145) (v := 3) dX9_compress_144 ci_3 rfl ?_
    refine mm_ck (fun c40 => ?_)
    refine ok_iald (q := 146) dX9_compress_145 k39 c40 rfl ?_
    refine bi_ok (fun v41 => ?_)
    refine ok_istore (q := 148) (ls' := [.ref b25, .int v29, .int v33, .int v37, .int v41, mm_U, mm_U, mm_U, mm_U, mm_U, mm_U, mm_U, mm_U, mm_U]) dX9_compress_146 (Nat.le_of_ble_eq_true rfl) rfl rfl ?_
    refine ok_aload_n (q := 149) dX9_compress_148 rfl rfl ?_
    refine ok_getR cl_8 (q := 152) (k := 0) dX9_compress_149 (Nat.le_of_ble_eq_true rfl) wd_152 (fun _ _ _ => rfl) kt_8_0 k_b25 rfl (fun b42 k43 => ?_)
    refine ok_iconst (q := 153) (v := 4) dX9_compress_152 ci_4 rfl ?_
    refine mm_ck (fun c44 => ?_)
    refine ok_iald (q := 154) dX9_compress_153 k43 c44 rfl ?_
    refine bi_ok (fun v45 => ?_)
    refine ok_istore (q := 156) (ls' := [.ref b25, .int v29, .int v33, .int v37, .int v41, .int v45, mm_U, mm_U, mm_U, mm_U, mm_U, mm_U, mm_U, mm_U]) dX9_compress_154 (Nat.le_of_ble_eq_true rfl) rfl rfl ?_
    refine ok_aload_n (q := 157) dX9_compress_156 rfl rfl ?_
    refine ok_getR cl_8 (q := 160) (k := 0) dX9_compress_157 (Nat.le_of_ble_eq_true rfl) wd_152 (fun _ _ _ => rfl) kt_8_0 k_b25 rfl (fun b46 k47 => ?_)
    refine ok_iconst (q := 161) (v := 5) dX9_compress_160 ci_5 rfl ?_
    refine mm_ck (fun c48 => ?_)
    refine ok_iald (q := 162) dX9_compress_161 k47 c48 rfl ?_
    refine bi_ok (fun v49 => ?_)
    refine ok_istore (q := 164) (ls' := [.ref b25, .int v29, .int v33, .int v37, .int v41, .int v45, .int v49, mm_U, mm_U, mm_U, mm_U, mm_U, mm_U, mm_U]) dX9_compress_162 (Nat.le_of_ble_eq_true rfl) rfl rfl ?_
    refine ok_aload_n (q := 165) dX9_compress_164 rfl rfl ?_
    refine ok_getR cl_8 (q := 168) (k := 0) dX9_compress_165 (Nat.le_of_ble_eq_true rfl) wd_152 (fun _ _ _ => rfl) kt_8_0 k_b25 rfl (fun b50 k51 => ?_)
    refine ok_bipush (q := 170) (v := 6) dX9_compress_168 cb_6 rfl ?_
    refine mm_ck (fun c52 => ?_)
    refine ok_iald (q := 171) dX9_compress_170 k51 c52 rfl ?_
    refine bi_ok (fun v53 => ?_)
    refine ok_istore (q := 173) (ls' := [.ref b25, .int v29, .int v33, .int v37, .int v41, .int v45, .int v49, .int v53, mm_U, mm_U, mm_U, mm_U, mm_U, mm_U]) dX9_compress_171 (Nat.le_of_ble_eq_true rfl) rfl rfl ?_
    refine ok_aload_n (q := 174) dX9_compress_173 rfl rfl ?_
    refine ok_getR cl_8 (q := 177) (k := 0) dX9_compress_174 (Nat.le_of_ble_eq_true rfl) wd_152 (fun _ _ _ => rfl) kt_8_0 k_b25 rfl (fun b54 k55 => ?_)
    refine ok_bipush (q := 179) (v := 7) dX9_compress_177 cb_7 rfl ?_
    refine mm_ck (fun c56 => ?_)
    refine ok_iald (q := 180) dX9_compress_179 k55 c56 rfl ?_
    refine bi_ok (fun v57 => ?_)
    refine ok_istore (q := 182) (ls' := [.ref b25, .int v29, .int v33, .int v37, .int v41, .int v45, .int v49, .int v53, .int v57, mm_U, mm_U, mm_U, mm_U, mm_U]) dX9_compress_180 (Nat.le_of_ble_eq_true rfl) rfl rfl ?_
    refine ok_iconst (q := 183) (v := 0) dX9_compress_182 ci_0 rfl ?_
    refine ok_istore (q := 185) (ls' := [.ref b25, .int v29, .int v33, .int v37, .int v41, .int v45, .int v49, .int v53, .int v57, .int 0, mm_U, mm_U, mm_U, mm_U]) dX9_compress_183 (Nat.le_of_ble_eq_true rfl) rfl rfl ?_
    refine ol_X9_compress_185 (fun b72 v73 v74 v75 v76 v77 v78 v79 v80 h71 k_b72 => ?_) mm_fu b25 v29 v33 v37 v41 v45 v49 v53 v57 0 h24 k_b25
    · refine ok_aload_n (q := 353) dX9_compress_352 rfl rfl ?_
      refine ok_getR cl_8 (q := 356) (k := 0) dX9_compress_353 (Nat.le_of_ble_eq_true rfl) wd_152 (fun _ _ _ => rfl) kt_8_0 k_b72 rfl (fun b81 k82 => ?_)
      refine ok_iconst (q := 357) (v := 0) dX9_compress_356 ci_0 rfl ?_
      refine ok_dup2 (q := 358) dX9_compress_357 rfl rfl rfl ?_
      refine mm_ck (fun c83 => ?_)
      refine ok_iald (q := 359) dX9_compress_358 k82 c83 rfl ?_
      refine ok_iload_n (q := 360) dX9_compress_359 rfl rfl ?_
      refine ok_iadd (q := 361) dX9_compress_360 rfl ?_
      refine mm_ck (fun c84 => ?_)
      refine ok_iast (q := 362) dX9_compress_361 k82 c84.1 c84.2 rfl (bh_ok (fun h85 e86 => ?_))
      have e86 : h85.1 = h71.1 := e86
      refine ok_aload_n (q := 363) dX9_compress_362 rfl rfl ?_
      refine ok_getR cl_8 (q := 366) (k := 0) dX9_compress_363 (Nat.le_of_ble_eq_true rfl) wd_152 (fun _ _ _ => rfl) kt_8_0 (mm_ke e86 k_b72) rfl (fun b87 k88 => ?_)
      refine ok_iconst (q := 367) (v := 1) dX9_compress_366 ci_1 rfl ?_
      refine ok_dup2 (q := 368) dX9_compress_367 rfl rfl rfl ?_
      refine mm_ck (fun c89 => ?_)
      refine ok_iald (q := 369) dX9_compress_368 (mm_ke e86 (mm_ke e86.symm k88)) c89 rfl ?_
      refine ok_iload_n (q := 370) dX9_compress_369 rfl rfl ?_
      refine ok_iadd (q := 371) dX9_compress_370 rfl ?_
      refine mm_ck (fun c90 => ?_)
      refine ok_iast (q := 372) dX9_compress_371 (mm_ke e86 (mm_ke e86.symm k88)) c90.1 c90.2 rfl (bh_ok (fun h91 e92 => ?_))
      have e92 : h91.1 = h71.1 := e92.trans e86
      refine ok_aload_n (q := 373) dX9_compress_372 rfl rfl ?_
      refine ok_getR cl_8 (q := 376) (k := 0) dX9_compress_373 (Nat.le_of_ble_eq_true rfl) wd_152 (fun _ _ _ => rfl) kt_8_0 (mm_ke e92 k_b72) rfl (fun b93 k94 => ?_)
      refine ok_iconst (q := 377) (v := 2) dX9_compress_376 ci_2 rfl ?_
      refine ok_dup2 (q := 378) dX9_compress_377 rfl rfl rfl ?_
      refine mm_ck (fun c95 => ?_)
      refine ok_iald (q := 379) dX9_compress_378 (mm_ke e92 (mm_ke e92.symm k94)) c95 rfl ?_
      refine ok_iload_n (q := 380) dX9_compress_379 rfl rfl ?_
      refine ok_iadd (q := 381) dX9_compress_380 rfl ?_
      refine mm_ck (fun c96 => ?_)
      refine ok_iast (q := 382) dX9_compress_381 (mm_ke e92 (mm_ke e92.symm k94)) c96.1 c96.2 rfl (bh_ok (fun h97 e98 => ?_))
      have e98 : h97.1 = h71.1 := e98.trans e92
      refine ok_aload_n (q := 383) dX9_compress_382 rfl rfl ?_
      refine ok_getR cl_8 (q := 386) (k := 0) dX9_compress_383 (Nat.le_of_ble_eq_true rfl) wd_152 (fun _ _ _ => rfl) kt_8_0 (mm_ke e98 k_b72) rfl (fun b99 k100 => ?_)
      refine ok_iconst (q := 387) (v := 3) dX9_compress_386 ci_3 rfl ?_
      refine ok_dup2 (q := 388) dX9_compress_387 rfl rfl rfl ?_
      refine mm_ck (fun c101 => ?_)
      refine ok_iald (q := 389) dX9_compress_388 (mm_ke e98 (mm_ke e98.symm k100)) c101 rfl ?_
      refine ok_iload (q := 391) dX9_compress_389 rfl rfl ?_
      refine ok_iadd (q := 392) dX9_compress_391 rfl ?_
      refine mm_ck (fun c102 => ?_)
      refine ok_iast (q := 393) dX9_compress_392 (mm_ke e98 (mm_ke e98.symm k100)) c102.1 c102.2 rfl (bh_ok (fun h103 e104 => ?_))
      have e104 : h103.1 = h71.1 := e104.trans e98
      refine ok_aload_n (q := 394) dX9_compress_393 rfl rfl ?_
      refine ok_getR cl_8 (q := 397) (k := 0) dX9_compress_394 (Nat.le_of_ble_eq_true rfl) wd_152 (fun _ _ _ => rfl) kt_8_0 (mm_ke e104 k_b72) rfl (fun b105 k106 => ?_)
      refine ok_iconst (q := 398) (v := 4) dX9_compress_397 ci_4 rfl ?_
      refine ok_dup2 (q := 399) dX9_compress_398 rfl rfl rfl ?_
      refine mm_ck (fun c107 => ?_)
      refine ok_iald (q := 400) dX9_compress_399 (mm_ke e104 (mm_ke e104.symm k106)) c107 rfl ?_
      refine ok_iload (q := 402) dX9_compress_400 rfl rfl ?_
      refine ok_iadd (q := 403) dX9_compress_402 rfl ?_
      refine mm_ck (fun c108 => ?_)
      refine ok_iast (q := 404) dX9_compress_403 (mm_ke e104 (mm_ke e104.symm k106)) c108.1 c108.2 rfl (bh_ok (fun h109 e110 => ?_))
      have e110 : h109.1 = h71.1 := e110.trans e104
      refine ok_aload_n (q := 405) dX9_compress_404 rfl rfl ?_
      refine ok_getR cl_8 (q := 408) (k := 0) dX9_compress_405 (Nat.le_of_ble_eq_true rfl) wd_152 (fun _ _ _ => rfl) kt_8_0 (mm_ke e110 k_b72) rfl (fun b111 k112 => ?_)
      refine ok_iconst (q := 409) (v := 5) dX9_compress_408 ci_5 rfl ?_
      refine ok_dup2 (q := 410) dX9_compress_409 rfl rfl rfl ?_
      refine mm_ck (fun c113 => ?_)
      refine ok_iald (q := 411) dX9_compress_410 (mm_ke e110 (mm_ke e110.symm k112)) c113 rfl ?_
      refine ok_iload (q := 413) dX9_compress_411 rfl rfl ?_
      refine ok_iadd (q := 414) dX9_compress_413 rfl ?_
      refine mm_ck (fun c114 => ?_)
      refine ok_iast (q := 415) dX9_compress_414 (mm_ke e110 (mm_ke e110.symm k112)) c114.1 c114.2 rfl (bh_ok (fun h115 e116 => ?_))
      have e116 : h115.1 = h71.1 := e116.trans e110
      refine ok_aload_n (q := 416) dX9_compress_415 rfl rfl ?_
      refine ok_getR cl_8 (q := 419) (k := 0) dX9_compress_416 (Nat.le_of_ble_eq_true rfl) wd_152 (fun _ _ _ => rfl) kt_8_0 (mm_ke e116 k_b72) rfl (fun b117 k118 => ?_)
      refine ok_bipush (q := 421) (v := 6) dX9_compress_419 cb_6 rfl ?_
      refine ok_dup2 (q := 422) dX9_compress_421 rfl rfl rfl ?_
      refine mm_ck (fun c119 => ?_)
      refine ok_iald (q := 423) dX9_compress_422 (mm_ke e116 (mm_ke e116.symm k118)) c119 rfl ?_
      refine ok_iload (q := 425) dX9_compress_423 rfl rfl ?_
      refine ok_iadd (q := 426) dX9_compress_425 rfl ?_
      refine mm_ck (fun c120 => ?_)
      refine ok_iast (q := 427) dX9_compress_426 (mm_ke e116 (mm_ke e116.symm k118)) c120.1 c120.2 rfl (bh_ok (fun h121 e122 => ?_))
      have e122 : h121.1 = h71.1 := e122.trans e116
      refine ok_aload_n (q := 428) dX9_compress_427 rfl rfl ?_
      refine ok_getR cl_8 (q := 431) (k := 0) dX9_compress_428 (Nat.le_of_ble_eq_true rfl) wd_152 (fun _ _ _ => rfl) kt_8_0 (mm_ke e122 k_b72) rfl (fun b123 k124 => ?_)
      refine ok_bipush (q := 433) (v := 7) dX9_compress_431 cb_7 rfl ?_
      refine ok_dup2 (q := 434) dX9_compress_433 rfl rfl rfl ?_
      refine mm_ck (fun c125 => ?_)
      refine ok_iald (q := 435) dX9_compress_434 (mm_ke e122 (mm_ke e122.symm k124)) c125 rfl ?_
      refine ok_iload (q := 437) dX9_compress_435 rfl rfl ?_
      refine ok_iadd (q := 438) dX9_compress_437 rfl ?_
      refine mm_ck (fun c126 => ?_)
      refine ok_iast (q := 439) dX9_compress_438 (mm_ke e122 (mm_ke e122.symm k124)) c126.1 c126.2 rfl (bh_ok (fun h127 e128 => ?_))
      have e128 : h127.1 = h71.1 := e128.trans e122
      exact ok_ret dX9_compress_439 rfl
def jn_X9_load_68 (kb : Nat → Nat → Int32 → Int32 → Int32 → Int32 → Int32 → mm_H → mm_O) (ke_86 : Nat → Nat → Int32 → Int32 → Int32 → Int32 → mm_H → mm_O) (a0 : Nat) (a1 : Nat) (x2 : Int32) (x3 : Int32) (x4 : Int32) (x5 : Int32) (x6 : Int32) (s0 : Int32) (h : mm_H) : mm_O := mm_bi ((mm_shl x5 (8 : Int32)) ||| s0) (fun v2 =>
  kb a0 a1 x2 x3 x4 v2 (x6 + 1) h)
set_option maxHeartbeats 4000000 in
set_option maxRecDepth 100000 in
theorem oj_X9_load_68 {G : mm_G} {kb : Nat → Nat → Int32 → Int32 → Int32 → Int32 → Int32 → mm_H → mm_O} {ke_86 : Nat → Nat → Int32 → Int32 → Int32 → Int32 → mm_H → mm_O} (hkb : ∀ (a0 : Nat) (a1 : Nat) (x2 : Int32) (x3 : Int32) (x4 : Int32) (x5 : Int32) (x6 : Int32) (h : mm_H), mm_kd h a0 = 8 → mm_kd h a1 = 5 → mm_Ok G my_X9_load 16 [.ref a0, .ref a1, .int x2, .int x3, .int x4, .int x5, .int x6, mm_U, mm_U] [] h (kb a0 a1 x2 x3 x4 x5 x6 h)) (hke_86 : ∀ (a0 : Nat) (a1 : Nat) (x2 : Int32) (x3 : Int32) (x4 : Int32) (x5 : Int32) (h : mm_H), mm_kd h a0 = 8 → mm_kd h a1 = 5 → mm_Ok G my_X9_load 86 [.ref a0, .ref a1, .int x2, .int x3, .int x4, .int x5, mm_U, mm_U, mm_U] [] h (ke_86 a0 a1 x2 x3 x4 x5 h)) (a0 : Nat) (a1 : Nat) (x2 : Int32) (x3 : Int32) (x4 : Int32) (x5 : Int32) (x6 : Int32) (s0 : Int32) (h : mm_H) (k_a0 : mm_kd h a0 = 8) (k_a1 : mm_kd h a1 = 5) : mm_Ok G my_X9_load 68 [.ref a0, .ref a1, .int x2, .int x3, .int x4, .int x5, .int x6, mm_U, mm_U] [.int s0] h (jn_X9_load_68 kb ke_86 a0 a1 x2 x3 x4 x5 x6 s0 h) := by
  unfold jn_X9_load_68
  refine ok_istore (q := 70) (ls' := [.ref a0, .ref a1, .int x2, .int x3, .int x4, .int x5, .int x6, mm_U, .int s0]) dX9_load_68 (Nat.le_of_ble_eq_true rfl) rfl rfl ?_
  refine ok_iload (q := 72) dX9_load_70 rfl rfl ?_
  refine ok_bipush (q := 74) (v := 8) dX9_load_72 cb_8 rfl ?_
  refine ok_ishl (q := 75) dX9_load_74 rfl ?_
  refine ok_iload (q := 77) dX9_load_75 rfl rfl ?_
  refine ok_ior (q := 78) dX9_load_77 rfl ?_
  refine bi_ok (fun v2 => ?_)
  refine ok_istore (q := 80) (ls' := [.ref a0, .ref a1, .int x2, .int x3, .int x4, .int v2, .int x6, mm_U, .int s0]) dX9_load_78 (Nat.le_of_ble_eq_true rfl) rfl rfl ?_
  refine ok_iinc (q := 83) (v := x6 + 1) (ls' := [.ref a0, .ref a1, .int x2, .int x3, .int x4, .int v2, .int (x6 + 1), mm_U, .int s0]) dX9_load_80 rfl (congrArg (x6 + ·) ci_1) (Nat.le_of_ble_eq_true rfl) rfl rfl ?_
  refine ok_goto (q := 16) dX9_load_83 rfl ?_
  refine mm_wk [true, true, true, true, true, true, true, false, false] (ls' := [.ref a0, .ref a1, .int x2, .int x3, .int x4, .int v2, .int (x6 + 1), mm_U, mm_U]) rfl ?_
  exact hkb a0 a1 x2 x3 x4 v2 (x6 + 1) h k_a0 k_a1
def lp_X9_load_16 (ke_86 : Nat → Nat → Int32 → Int32 → Int32 → Int32 → mm_H → mm_O) : Nat → Nat → Nat → Int32 → Int32 → Int32 → Int32 → Int32 → mm_H → mm_O
  | 0, _, _, _, _, _, _, _, _ => none
  | n + 1, a0, a1, x2, x3, x4, x5, x6, h => if (4 : Int32) ≤ x6 then
  (ke_86 a0 a1 x2 x3 x4 x5 h)
  else
  (mm_bi ((x2 + ((4 : Int32) * x4)) + x6) (fun v1 =>
  if (mm_i h a1 1) ≤ v1 then
  (if v1 = (mm_i h a1 1) then
  (jn_X9_load_68 (lp_X9_load_16 ke_86 n) ke_86 a0 a1 x2 x3 x4 x5 x6 128 h)
  else
  (jn_X9_load_68 (lp_X9_load_16 ke_86 n) ke_86 a0 a1 x2 x3 x4 x5 x6 0 h))
  else
  (mm_gr h a1 0 (fun b3 =>
  if mm_in v1 (mm_ln h b3) = true then (jn_X9_load_68 (lp_X9_load_16 ke_86 n) ke_86 a0 a1 x2 x3 x4 x5 x6 (mm_i h b3 (mm_n v1)) h) else none))))
set_option maxHeartbeats 4000000 in
set_option maxRecDepth 100000 in
theorem ol_X9_load_16 {G : mm_G} {ke_86 : Nat → Nat → Int32 → Int32 → Int32 → Int32 → mm_H → mm_O} (hke_86 : ∀ (a0 : Nat) (a1 : Nat) (x2 : Int32) (x3 : Int32) (x4 : Int32) (x5 : Int32) (h : mm_H), mm_kd h a0 = 8 → mm_kd h a1 = 5 → mm_Ok G my_X9_load 86 [.ref a0, .ref a1, .int x2, .int x3, .int x4, .int x5, mm_U, mm_U, mm_U] [] h (ke_86 a0 a1 x2 x3 x4 x5 h)) : ∀ (n : Nat) (a0 : Nat) (a1 : Nat) (x2 : Int32) (x3 : Int32) (x4 : Int32) (x5 : Int32) (x6 : Int32) (h : mm_H), mm_kd h a0 = 8 → mm_kd h a1 = 5 → mm_Ok G my_X9_load 16 [.ref a0, .ref a1, .int x2, .int x3, .int x4, .int x5, .int x6, mm_U, mm_U] [] h (lp_X9_load_16 ke_86 n a0 a1 x2 x3 x4 x5 x6 h) := by
  intro n
  induction n with
  | zero => intro a0 a1 x2 x3 x4 x5 x6 h k_a0 k_a1; exact mm_no
  | succ n ih =>
    intro a0 a1 x2 x3 x4 x5 x6 h k_a0 k_a1
    rw [lp_X9_load_16]
    refine ok_iload (q := 18) dX9_load_16 rfl rfl ?_
    refine ok_iconst (q := 19) (v := 4) dX9_load_18 ci_4 rfl ?_
    refine ok_icmp_ge (q := 22) (t := 86) dX9_load_19 rfl rfl ?_ ?_
    · refine mm_wk [true, true, true, true, true, true, false, false, false] (ls' := [.ref a0, .ref a1, .int x2, .int x3, .int x4, .int x5, mm_U, mm_U, mm_U]) rfl ?_
      exact hke_86 a0 a1 x2 x3 x4 x5 h k_a0 k_a1
    · refine ok_iload_n (q := 23) dX9_load_22 rfl rfl ?_
      refine ok_iconst (q := 24) (v := 4) dX9_load_23 ci_4 rfl ?_
      refine ok_iload (q := 26) dX9_load_24 rfl rfl ?_
      refine ok_imul (q := 27) dX9_load_26 rfl ?_
      refine ok_iadd (q := 28) dX9_load_27 rfl ?_
      refine ok_iload (q := 30) dX9_load_28 rfl rfl ?_
      refine ok_iadd (q := 31) dX9_load_30 rfl ?_
      refine bi_ok (fun v1 => ?_)
      refine ok_istore (q := 33) (ls' := [.ref a0, .ref a1, .int x2, .int x3, .int x4, .int x5, .int x6, .int v1, mm_U]) dX9_load_31 (Nat.le_of_ble_eq_true rfl) rfl rfl ?_
      refine ok_iload (q := 35) dX9_load_33 rfl rfl ?_
      refine ok_aload_n (q := 36) dX9_load_35 rfl rfl ?_
      refine ok_getI cl_5 (q := 39) (k := 1) dX9_load_36 (Nat.le_of_ble_eq_true rfl) wd_126 (fun _ _ _ => rfl) k_a1 rfl ?_
      refine ok_icmp_ge (q := 42) (t := 52) dX9_load_39 rfl rfl ?_ ?_
      · refine ok_iload (q := 54) dX9_load_52 rfl rfl ?_
        refine ok_aload_n (q := 55) dX9_load_54 rfl rfl ?_
        refine ok_getI cl_5 (q := 58) (k := 1) dX9_load_55 (Nat.le_of_ble_eq_true rfl) wd_126 (fun _ _ _ => rfl) k_a1 rfl ?_
        refine ok_icmp_ne (q := 61) (t := 67) dX9_load_58 rfl rfl ?_ ?_
        · refine ok_iconst (q := 68) (v := 0) dX9_load_67 ci_0 rfl ?_
          refine mm_wk [true, true, true, true, true, true, true, false, false] (ls' := [.ref a0, .ref a1, .int x2, .int x3, .int x4, .int x5, .int x6, mm_U, mm_U]) rfl ?_
          exact oj_X9_load_68 ih hke_86 a0 a1 x2 x3 x4 x5 x6 0 h k_a0 k_a1
        · refine ok_sipush (q := 64) (v := 128) dX9_load_61 cs_128 rfl ?_
          refine ok_goto (q := 68) dX9_load_64 rfl ?_
          refine mm_wk [true, true, true, true, true, true, true, false, false] (ls' := [.ref a0, .ref a1, .int x2, .int x3, .int x4, .int x5, .int x6, mm_U, mm_U]) rfl ?_
          exact oj_X9_load_68 ih hke_86 a0 a1 x2 x3 x4 x5 x6 128 h k_a0 k_a1
      · refine ok_aload_n (q := 43) dX9_load_42 rfl rfl ?_
        refine ok_getR cl_5 (q := 46) (k := 0) dX9_load_43 (Nat.le_of_ble_eq_true rfl) wd_120 (fun _ _ _ => rfl) kt_5_0 k_a1 rfl (fun b3 k4 => ?_)
        refine ok_iload (q := 48) dX9_load_46 rfl rfl ?_
        refine mm_ck (fun c5 => ?_)
        refine ok_iald (q := 49) dX9_load_48 k4 c5 rfl ?_
        refine ok_goto (q := 68) dX9_load_49 rfl ?_
        refine mm_wk [true, true, true, true, true, true, true, false, false] (ls' := [.ref a0, .ref a1, .int x2, .int x3, .int x4, .int x5, .int x6, mm_U, mm_U]) rfl ?_
        exact oj_X9_load_68 ih hke_86 a0 a1 x2 x3 x4 x5 x6 (mm_i h b3 (mm_n v1)) h k_a0 k_a1
def lp_X9_load_3 (ke_101 : Nat → Nat → Int32 → Int32 → mm_H → mm_O) : Nat → Nat → Nat → Int32 → Int32 → Int32 → mm_H → mm_O
  | 0, _, _, _, _, _, _ => none
  | n + 1, a0, a1, x2, x3, x4, h => if (16 : Int32) ≤ x4 then
  (ke_101 a0 a1 x2 x3 h)
  else
  (lp_X9_load_16 (fun b7 b8 v9 v10 v11 v12 h6 => mm_gr h6 b7 1 (fun b13 =>
  if 32 ≤ b13 ∧ mm_in v11 (mm_ln h6 b13) = true then (mm_bh (mm_si h6 b13 (mm_n v11) v12) (fun h16 =>
  lp_X9_load_3 ke_101 n b7 b8 v9 v10 (v11 + 1) h16)) else none)) mm_fu a0 a1 x2 x3 x4 0 0 h)
set_option maxHeartbeats 4000000 in
set_option maxRecDepth 100000 in
theorem ol_X9_load_3 {G : mm_G} {ke_101 : Nat → Nat → Int32 → Int32 → mm_H → mm_O} (hke_101 : ∀ (a0 : Nat) (a1 : Nat) (x2 : Int32) (x3 : Int32) (h : mm_H), mm_kd h a0 = 8 → mm_kd h a1 = 5 → mm_Ok G my_X9_load 101 [.ref a0, .ref a1, .int x2, .int x3, mm_U, mm_U, mm_U, mm_U, mm_U] [] h (ke_101 a0 a1 x2 x3 h)) : ∀ (n : Nat) (a0 : Nat) (a1 : Nat) (x2 : Int32) (x3 : Int32) (x4 : Int32) (h : mm_H), mm_kd h a0 = 8 → mm_kd h a1 = 5 → mm_Ok G my_X9_load 3 [.ref a0, .ref a1, .int x2, .int x3, .int x4, mm_U, mm_U, mm_U, mm_U] [] h (lp_X9_load_3 ke_101 n a0 a1 x2 x3 x4 h) := by
  intro n
  induction n with
  | zero => intro a0 a1 x2 x3 x4 h k_a0 k_a1; exact mm_no
  | succ n ih =>
    intro a0 a1 x2 x3 x4 h k_a0 k_a1
    rw [lp_X9_load_3]
    refine ok_iload (q := 5) dX9_load_3 rfl rfl ?_
    refine ok_bipush (q := 7) (v := 16) dX9_load_5 cb_16 rfl ?_
    refine ok_icmp_ge (q := 10) (t := 101) dX9_load_7 rfl rfl ?_ ?_
    · refine mm_wk [true, true, true, true, false, false, false, false, false] (ls' := [.ref a0, .ref a1, .int x2, .int x3, mm_U, mm_U, mm_U, mm_U, mm_U]) rfl ?_
      exact hke_101 a0 a1 x2 x3 h k_a0 k_a1
    · refine ok_iconst (q := 11) (v := 0) dX9_load_10 ci_0 rfl ?_
      refine ok_istore (q := 13) (ls' := [.ref a0, .ref a1, .int x2, .int x3, .int x4, .int 0, mm_U, mm_U, mm_U]) dX9_load_11 (Nat.le_of_ble_eq_true rfl) rfl rfl ?_
      refine ok_iconst (q := 14) (v := 0) dX9_load_13 ci_0 rfl ?_
      refine ok_istore (q := 16) (ls' := [.ref a0, .ref a1, .int x2, .int x3, .int x4, .int 0, .int 0, mm_U, mm_U]) dX9_load_14 (Nat.le_of_ble_eq_true rfl) rfl rfl ?_
      refine ol_X9_load_16 (fun b7 b8 v9 v10 v11 v12 h6 k_b7 k_b8 => ?_) mm_fu a0 a1 x2 x3 x4 0 0 h k_a0 k_a1
      · refine ok_aload_n (q := 87) dX9_load_86 rfl rfl ?_
        refine ok_getR cl_8 (q := 90) (k := 1) dX9_load_87 (Nat.le_of_ble_eq_true rfl) wd_153 (fun _ _ _ => rfl) kt_8_1 k_b7 rfl (fun b13 k14 => ?_)
        refine ok_iload (q := 92) dX9_load_90 rfl rfl ?_
        refine ok_iload (q := 94) dX9_load_92 rfl rfl ?_
        refine mm_ck (fun c15 => ?_)
        refine ok_iast (q := 95) dX9_load_94 k14 c15.1 c15.2 rfl (bh_ok (fun h16 e17 => ?_))
        have e17 : h16.1 = h6.1 := e17
        refine ok_iinc (q := 98) (v := v11 + 1) (ls' := [.ref b7, .ref b8, .int v9, .int v10, .int (v11 + 1), .int v12, mm_U, mm_U, mm_U]) dX9_load_95 rfl (congrArg (v11 + ·) ci_1) (Nat.le_of_ble_eq_true rfl) rfl rfl ?_
        refine ok_goto (q := 3) dX9_load_98 rfl ?_
        refine mm_wk [true, true, true, true, true, false, false, false, false] (ls' := [.ref b7, .ref b8, .int v9, .int v10, .int (v11 + 1), mm_U, mm_U, mm_U, mm_U]) rfl ?_
        exact ih b7 b8 v9 v10 (v11 + 1) h16 (mm_ke e17 k_b7) (mm_ke e17 k_b8)
def bd_X9_load (a0 : Nat) (a1 : Nat) (x2 : Int32) (x3 : Int32) (h : mm_H) : mm_O := lp_X9_load_3 (fun b19 b20 v21 v22 h18 => if (v21 + (64 : Int32)) = v22 then
  (mm_gr h18 b19 1 (fun b23 =>
  if 32 ≤ b23 ∧ mm_in (15 : Int32) (mm_ln h18 b23) = true then (mm_bh (mm_si h18 b23 (mm_n (15 : Int32)) ((8 : Int32) * (mm_i h18 b20 1))) (fun h26 =>
  some (none, h26))) else none))
  else
  (some (none, h18))) mm_fu a0 a1 x2 x3 0 h
set_option maxHeartbeats 4000000 in
set_option maxRecDepth 100000 in
theorem mt_X9_load (G : mm_G) (a0 : Nat) (a1 : Nat) (x2 : Int32) (x3 : Int32) (h : mm_H) (k_a0 : mm_kd h a0 = 8) (k_a1 : mm_kd h a1 = 5) : mm_Met G my_X9_load [.ref a0, .ref a1, .int x2, .int x3] h (bd_X9_load a0 a1 x2 x3 h) := by
  refine mm_met (ls := [.ref a0, .ref a1, .int x2, .int x3, mm_U, mm_U, mm_U, mm_U, mm_U]) pn_RX9 (Nat.le_of_ble_eq_true rfl) rfl ?_
  unfold bd_X9_load
  refine ok_iconst (q := 1) (v := 0) dX9_load_0 ci_0 rfl ?_
  refine ok_istore (q := 3) (ls' := [.ref a0, .ref a1, .int x2, .int x3, .int 0, mm_U, mm_U, mm_U, mm_U]) dX9_load_1 (Nat.le_of_ble_eq_true rfl) rfl rfl ?_
  refine ol_X9_load_3 (fun b19 b20 v21 v22 h18 k_b19 k_b20 => ?_) mm_fu a0 a1 x2 x3 0 h k_a0 k_a1
  · refine ok_iload_n (q := 102) dX9_load_101 rfl rfl ?_
    refine ok_bipush (q := 104) (v := 64) dX9_load_102 cb_64 rfl ?_
    refine ok_iadd (q := 105) dX9_load_104 rfl ?_
    refine ok_iload_n (q := 106) dX9_load_105 rfl rfl ?_
    refine ok_icmp_ne (q := 109) (t := 123) dX9_load_106 rfl rfl ?_ ?_
    · exact ok_ret dX9_load_123 rfl
    · refine ok_aload_n (q := 110) dX9_load_109 rfl rfl ?_
      refine ok_getR cl_8 (q := 113) (k := 1) dX9_load_110 (Nat.le_of_ble_eq_true rfl) wd_153 (fun _ _ _ => rfl) kt_8_1 k_b19 rfl (fun b23 k24 => ?_)
      refine ok_bipush (q := 115) (v := 15) dX9_load_113 cb_15 rfl ?_
      refine ok_bipush (q := 117) (v := 8) dX9_load_115 cb_8 rfl ?_
      refine ok_aload_n (q := 118) dX9_load_117 rfl rfl ?_
      refine ok_getI cl_5 (q := 121) (k := 1) dX9_load_118 (Nat.le_of_ble_eq_true rfl) wd_126 (fun _ _ _ => rfl) k_b20 rfl ?_
      refine ok_imul (q := 122) dX9_load_121 rfl ?_
      refine mm_ck (fun c25 => ?_)
      refine ok_iast (q := 123) dX9_load_122 k24 c25.1 c25.2 rfl (bh_ok (fun h26 e27 => ?_))
      have e27 : h26.1 = h18.1 := e27
      exact ok_ret dX9_load_123 rfl
def lp_X9_digest_2 (ke_27 : Nat → Nat → Nat → mm_H → mm_O) : Nat → Nat → Nat → Nat → Int32 → mm_H → mm_O
  | 0, _, _, _, _, _ => none
  | n + 1, a0, a1, a2, x3, h => if (nI (mm_ln h 1)) ≤ x3 then
  (ke_27 a0 a1 a2 h)
  else
  (mm_gr h a0 0 (fun b2 =>
  if mm_in x3 (mm_ln h 1) = true then (if 32 ≤ b2 ∧ mm_in x3 (mm_ln h b2) = true then (mm_bh (mm_si h b2 (mm_n x3) (mm_i h 1 (mm_n x3))) (fun h7 =>
  lp_X9_digest_2 ke_27 n a0 a1 a2 (x3 + 1) h7)) else none) else none))
set_option maxHeartbeats 4000000 in
set_option maxRecDepth 100000 in
theorem ol_X9_digest_2 {G : mm_G} {ke_27 : Nat → Nat → Nat → mm_H → mm_O} (hke_27 : ∀ (a0 : Nat) (a1 : Nat) (a2 : Nat) (h : mm_H), mm_kd h a0 = 8 → mm_kd h a1 = 5 → mm_kd h a2 = 5 → mm_Ok G my_X9_digest 27 [.ref a0, .ref a1, .ref a2, mm_U, mm_U] [] h (ke_27 a0 a1 a2 h)) : ∀ (n : Nat) (a0 : Nat) (a1 : Nat) (a2 : Nat) (x3 : Int32) (h : mm_H), mm_kd h a0 = 8 → mm_kd h a1 = 5 → mm_kd h a2 = 5 → mm_Ok G my_X9_digest 2 [.ref a0, .ref a1, .ref a2, .int x3, mm_U] [] h (lp_X9_digest_2 ke_27 n a0 a1 a2 x3 h) := by
  intro n
  induction n with
  | zero => intro a0 a1 a2 x3 h k_a0 k_a1 k_a2; exact mm_no
  | succ n ih =>
    intro a0 a1 a2 x3 h k_a0 k_a1 k_a2
    rw [lp_X9_digest_2]
    refine ok_iload_n (q := 3) dX9_digest_2 rfl rfl ?_
    refine ok_gets (q := 6) (a := 1) (by decide +kernel) dX9_digest_3 wd_148 (by decide) rfl (fun k1 => ?_)
    refine ok_alen (q := 7) dX9_digest_6 (by rw [k1]; decide) rfl ?_
    refine ok_icmp_ge (q := 10) (t := 27) dX9_digest_7 rfl rfl ?_ ?_
    · refine mm_wk [true, true, true, false, false] (ls' := [.ref a0, .ref a1, .ref a2, mm_U, mm_U]) rfl ?_
      exact hke_27 a0 a1 a2 h k_a0 k_a1 k_a2
    · refine ok_aload_n (q := 11) dX9_digest_10 rfl rfl ?_
      refine ok_getR cl_8 (q := 14) (k := 0) dX9_digest_11 (Nat.le_of_ble_eq_true rfl) wd_152 (fun _ _ _ => rfl) kt_8_0 k_a0 rfl (fun b2 k3 => ?_)
      refine ok_iload_n (q := 15) dX9_digest_14 rfl rfl ?_
      refine ok_gets (q := 18) (a := 1) (by decide +kernel) dX9_digest_15 wd_148 (by decide) rfl (fun k4 => ?_)
      refine ok_iload_n (q := 19) dX9_digest_18 rfl rfl ?_
      refine mm_ck (fun c5 => ?_)
      refine ok_iald (q := 20) dX9_digest_19 k4 c5 rfl ?_
      refine mm_ck (fun c6 => ?_)
      refine ok_iast (q := 21) dX9_digest_20 k3 c6.1 c6.2 rfl (bh_ok (fun h7 e8 => ?_))
      have e8 : h7.1 = h.1 := e8
      refine ok_iinc (q := 24) (v := x3 + 1) (ls' := [.ref a0, .ref a1, .ref a2, .int (x3 + 1), mm_U]) dX9_digest_21 rfl (congrArg (x3 + ·) ci_1) (Nat.le_of_ble_eq_true rfl) rfl rfl ?_
      refine ok_goto (q := 2) dX9_digest_24 rfl ?_
      exact ih a0 a1 a2 (x3 + 1) h7 (mm_ke e8 k_a0) (mm_ke e8 k_a1) (mm_ke e8 k_a2)
def lp_X9_digest_49 (ke_73 : Nat → Nat → mm_H → mm_O) : Nat → Nat → Nat → Nat → Int32 → Int32 → mm_H → mm_O
  | 0, _, _, _, _, _, _ => none
  | n + 1, a0, a1, a2, x3, x4, h => if x3 ≤ x4 then
  (ke_73 a0 a2 h)
  else
  (mm_qv (bd_X9_load a0 a1 x4 x3 h) (fun h14 =>
  mm_qv (bd_X9_compress a0 h14) (fun h19 =>
  lp_X9_digest_49 ke_73 n a0 a1 a2 x3 (x4 + 64) h19)))
set_option maxHeartbeats 4000000 in
set_option maxRecDepth 100000 in
theorem ol_X9_digest_49 {G : mm_G} {ke_73 : Nat → Nat → mm_H → mm_O} (hke_73 : ∀ (a0 : Nat) (a2 : Nat) (h : mm_H), mm_kd h a0 = 8 → mm_kd h a2 = 5 → mm_Ok G my_X9_digest 73 [.ref a0, mm_U, .ref a2, mm_U, mm_U] [] h (ke_73 a0 a2 h)) : ∀ (n : Nat) (a0 : Nat) (a1 : Nat) (a2 : Nat) (x3 : Int32) (x4 : Int32) (h : mm_H), mm_kd h a0 = 8 → mm_kd h a1 = 5 → mm_kd h a2 = 5 → mm_Ok G my_X9_digest 49 [.ref a0, .ref a1, .ref a2, .int x3, .int x4] [] h (lp_X9_digest_49 ke_73 n a0 a1 a2 x3 x4 h) := by
  intro n
  induction n with
  | zero => intro a0 a1 a2 x3 x4 h k_a0 k_a1 k_a2; exact mm_no
  | succ n ih =>
    intro a0 a1 a2 x3 x4 h k_a0 k_a1 k_a2
    rw [lp_X9_digest_49]
    refine ok_iload (q := 51) dX9_digest_49 rfl rfl ?_
    refine ok_iload_n (q := 52) dX9_digest_51 rfl rfl ?_
    refine ok_icmp_ge (q := 55) (t := 73) dX9_digest_52 rfl rfl ?_ ?_
    · refine mm_wk [true, false, true, false, false] (ls' := [.ref a0, mm_U, .ref a2, mm_U, mm_U]) rfl ?_
      exact hke_73 a0 a2 h k_a0 k_a2
    · refine ok_aload_n (q := 56) dX9_digest_55 rfl rfl ?_
      refine ok_aload_n (q := 57) dX9_digest_56 rfl rfl ?_
      refine ok_iload (q := 59) dX9_digest_57 rfl rfl ?_
      refine ok_iload_n (q := 60) dX9_digest_59 rfl rfl ?_
      refine mm_cv (q := 63) (mt_X9_load G a0 a1 x4 x3 h k_a0 k_a1) (mm_runV (as := [.ref a1, .int x4, .int x3]) (st := []) cl_8 lk_X9_digest_X9_load_28 rfl dX9_digest_60 rfl (Nat.le_of_ble_eq_true rfl) k_a0) rfl (fun h14 p15 => ?_)
      have k16 : mm_kd h14 a0 = 8 := mm_kd_app p15 k_a0 (by decide)
      have k17 : mm_kd h14 a1 = 5 := mm_kd_app p15 k_a1 (by decide)
      have k18 : mm_kd h14 a2 = 5 := mm_kd_app p15 k_a2 (by decide)
      refine ok_aload_n (q := 64) dX9_digest_63 rfl rfl ?_
      refine mm_cv (q := 67) (mt_X9_compress G a0 h14 k16) (mm_runV (as := []) (st := []) cl_8 lk_X9_digest_X9_compress_32 rfl dX9_digest_64 rfl (Nat.le_of_ble_eq_true rfl) k16) rfl (fun h19 p20 => ?_)
      have k21 : mm_kd h19 a0 = 8 := mm_kd_app p20 k16 (by decide)
      have k22 : mm_kd h19 a1 = 5 := mm_kd_app p20 k17 (by decide)
      have k23 : mm_kd h19 a2 = 5 := mm_kd_app p20 k18 (by decide)
      refine ok_iinc (q := 70) (v := x4 + 64) (ls' := [.ref a0, .ref a1, .ref a2, .int x3, .int (x4 + 64)]) dX9_digest_67 rfl (congrArg (x4 + ·) ci_64) (Nat.le_of_ble_eq_true rfl) rfl rfl ?_
      refine ok_goto (q := 49) dX9_digest_70 rfl ?_
      exact ih a0 a1 a2 x3 (x4 + 64) h19 k21 k22 k23
def lp_X9_digest_80  : Nat → Nat → Nat → Int32 → mm_H → mm_O
  | 0, _, _, _, _ => none
  | n + 1, a0, a2, x4, h => mm_gr h a0 0 (fun b31 =>
  if (nI (mm_ln h b31)) ≤ x4 then
  (some (none, h))
  else
  (mm_gr h a0 0 (fun b33 =>
  if mm_in x4 (mm_ln h b33) = true then (mm_qv (bd_X6_putNumber a2 (mm_i h b33 (mm_n x4)) 4 h) (fun h36 =>
  lp_X9_digest_80 n a0 a2 (x4 + 1) h36)) else none)))
set_option maxHeartbeats 4000000 in
set_option maxRecDepth 100000 in
theorem ol_X9_digest_80 {G : mm_G}   : ∀ (n : Nat) (a0 : Nat) (a2 : Nat) (x4 : Int32) (h : mm_H), mm_kd h a0 = 8 → mm_kd h a2 = 5 → mm_Ok G my_X9_digest 80 [.ref a0, mm_U, .ref a2, mm_U, .int x4] [] h (lp_X9_digest_80 n a0 a2 x4 h) := by
  intro n
  induction n with
  | zero => intro a0 a2 x4 h k_a0 k_a2; exact mm_no
  | succ n ih =>
    intro a0 a2 x4 h k_a0 k_a2
    rw [lp_X9_digest_80]
    refine ok_iload (q := 82) dX9_digest_80 rfl rfl ?_
    refine ok_aload_n (q := 83) dX9_digest_82 rfl rfl ?_
    refine ok_getR cl_8 (q := 86) (k := 0) dX9_digest_83 (Nat.le_of_ble_eq_true rfl) wd_152 (fun _ _ _ => rfl) kt_8_0 k_a0 rfl (fun b31 k32 => ?_)
    refine ok_alen (q := 87) dX9_digest_86 (by rw [k32]; decide) rfl ?_
    refine ok_icmp_ge (q := 90) (t := 108) dX9_digest_87 rfl rfl ?_ ?_
    · exact ok_ret dX9_digest_108 rfl
    · refine ok_aload_n (q := 91) dX9_digest_90 rfl rfl ?_
      refine ok_aload_n (q := 92) dX9_digest_91 rfl rfl ?_
      refine ok_getR cl_8 (q := 95) (k := 0) dX9_digest_92 (Nat.le_of_ble_eq_true rfl) wd_152 (fun _ _ _ => rfl) kt_8_0 k_a0 rfl (fun b33 k34 => ?_)
      refine ok_iload (q := 97) dX9_digest_95 rfl rfl ?_
      refine mm_ck (fun c35 => ?_)
      refine ok_iald (q := 98) dX9_digest_97 k34 c35 rfl ?_
      refine ok_iconst (q := 99) (v := 4) dX9_digest_98 ci_4 rfl ?_
      refine mm_cv (q := 102) (mt_X6_putNumber G a2 (mm_i h b33 (mm_n x4)) 4 h k_a2) (mm_runV (as := [.int (mm_i h b33 (mm_n x4)), .int 4]) (st := []) cl_5 lk_X9_digest_X6_putNumber_38 rfl dX9_digest_99 rfl (Nat.le_of_ble_eq_true rfl) k_a2) rfl (fun h36 p37 => ?_)
      have k38 : mm_kd h36 a0 = 8 := mm_kd_app p37 k_a0 (by decide)
      have k39 : mm_kd h36 a2 = 5 := mm_kd_app p37 k_a2 (by decide)
      refine ok_iinc (q := 105) (v := x4 + 1) (ls' := [.ref a0, mm_U, .ref a2, mm_U, .int (x4 + 1)]) dX9_digest_102 rfl (congrArg (x4 + ·) ci_1) (Nat.le_of_ble_eq_true rfl) rfl rfl ?_
      refine ok_goto (q := 80) dX9_digest_105 rfl ?_
      exact ih a0 a2 (x4 + 1) h36 k38 k39
def bd_X9_digest (a0 : Nat) (a1 : Nat) (a2 : Nat) (h : mm_H) : mm_O := lp_X9_digest_2 (fun b10 b11 b12 h9 => mm_bi ((((((mm_i h9 b11 1) + (9 : Int32)) + (64 : Int32)) - (1 : Int32)) / (64 : Int32)) * (64 : Int32)) (fun v13 =>
  lp_X9_digest_49 (fun b25 b26 h24 => mm_qv (bd_X6_clear b26 h24) (fun h27 =>
  lp_X9_digest_80  mm_fu b25 b26 0 h27)) mm_fu b10 b11 b12 v13 0 h9)) mm_fu a0 a1 a2 0 h
set_option maxHeartbeats 4000000 in
set_option maxRecDepth 100000 in
theorem mt_X9_digest (G : mm_G) (a0 : Nat) (a1 : Nat) (a2 : Nat) (h : mm_H) (k_a0 : mm_kd h a0 = 8) (k_a1 : mm_kd h a1 = 5) (k_a2 : mm_kd h a2 = 5) : mm_Met G my_X9_digest [.ref a0, .ref a1, .ref a2] h (bd_X9_digest a0 a1 a2 h) := by
  refine mm_met (ls := [.ref a0, .ref a1, .ref a2, mm_U, mm_U]) pn_RX9 (Nat.le_of_ble_eq_true rfl) rfl ?_
  unfold bd_X9_digest
  refine ok_iconst (q := 1) (v := 0) dX9_digest_0 ci_0 rfl ?_
  refine ok_istore_n (q := 2) (ls' := [.ref a0, .ref a1, .ref a2, .int 0, mm_U]) dX9_digest_1 (Nat.le_of_ble_eq_true rfl) rfl rfl ?_
  refine ol_X9_digest_2 (fun b10 b11 b12 h9 k_b10 k_b11 k_b12 => ?_) mm_fu a0 a1 a2 0 h k_a0 k_a1 k_a2
  · refine ok_aload_n (q := 28) dX9_digest_27 rfl rfl ?_
    refine ok_getI cl_5 (q := 31) (k := 1) dX9_digest_28 (Nat.le_of_ble_eq_true rfl) wd_126 (fun _ _ _ => rfl) k_b11 rfl ?_
    refine ok_bipush (q := 33) (v := 9) dX9_digest_31 cb_9 rfl ?_
    refine ok_iadd (q := 34) dX9_digest_33 rfl ?_
    refine ok_bipush (q := 36) (v := 64) dX9_digest_34 cb_64 rfl ?_
    refine ok_iadd (q := 37) dX9_digest_36 rfl ?_
    refine ok_iconst (q := 38) (v := 1) dX9_digest_37 ci_1 rfl ?_
    refine ok_isub (q := 39) dX9_digest_38 rfl ?_
    refine ok_bipush (q := 41) (v := 64) dX9_digest_39 cb_64 rfl ?_
    refine ok_idiv (q := 42) dX9_digest_41 (by decide) rfl ?_
    refine ok_bipush (q := 44) (v := 64) dX9_digest_42 cb_64 rfl ?_
    refine ok_imul (q := 45) dX9_digest_44 rfl ?_
    refine bi_ok (fun v13 => ?_)
    refine ok_istore_n (q := 46) (ls' := [.ref b10, .ref b11, .ref b12, .int v13, mm_U]) dX9_digest_45 (Nat.le_of_ble_eq_true rfl) rfl rfl ?_
    refine ok_iconst (q := 47) (v := 0) dX9_digest_46 ci_0 rfl ?_
    refine ok_istore (q := 49) (ls' := [.ref b10, .ref b11, .ref b12, .int v13, .int 0]) dX9_digest_47 (Nat.le_of_ble_eq_true rfl) rfl rfl ?_
    refine ol_X9_digest_49 (fun b25 b26 h24 k_b25 k_b26 => ?_) mm_fu b10 b11 b12 v13 0 h9 k_b10 k_b11 k_b12
    · refine ok_aload_n (q := 74) dX9_digest_73 rfl rfl ?_
      refine mm_cv (q := 77) (mt_X6_clear G b26 h24 k_b26) (mm_runV (as := []) (st := []) cl_5 lk_X9_digest_X6_clear_35 rfl dX9_digest_74 rfl (Nat.le_of_ble_eq_true rfl) k_b26) rfl (fun h27 p28 => ?_)
      have k29 : mm_kd h27 b25 = 8 := mm_kd_app p28 k_b25 (by decide)
      have k30 : mm_kd h27 b26 = 5 := mm_kd_app p28 k_b26 (by decide)
      refine ok_iconst (q := 78) (v := 0) dX9_digest_77 ci_0 rfl ?_
      refine ok_istore (q := 80) (ls' := [.ref b25, mm_U, .ref b26, mm_U, .int 0]) dX9_digest_78 (Nat.le_of_ble_eq_true rfl) rfl rfl ?_
      refine ol_X9_digest_80  mm_fu b25 b26 0 h27 k29 k30
def bd_X1_mac (a0 : Nat) (a1 : Nat) (a2 : Nat) (a3 : Nat) (h : mm_H) : mm_O := mm_qv (bd_X1_putKey a0 a1 54 h) (fun h1 =>
  mm_gr h1 a0 3 (fun b7 =>
  mm_qv (bd_X6_append b7 a2 h1) (fun h9 =>
  mm_gr h9 a0 0 (fun b15 =>
  mm_gr h9 a0 3 (fun b17 =>
  mm_gr h9 a0 4 (fun b19 =>
  mm_qv (bd_X9_digest b15 b17 b19 h9) (fun h21 =>
  mm_qv (bd_X1_putKey a0 a1 92 h21) (fun h27 =>
  mm_gr h27 a0 3 (fun b33 =>
  mm_gr h27 a0 4 (fun b35 =>
  mm_qv (bd_X6_append b33 b35 h27) (fun h37 =>
  mm_gr h37 a0 0 (fun b43 =>
  mm_gr h37 a0 3 (fun b45 =>
  mm_qv (bd_X9_digest b43 b45 a3 h37) (fun h47 =>
  some (none, h47)))))))))))))))
set_option maxHeartbeats 4000000 in
set_option maxRecDepth 100000 in
theorem mt_X1_mac (G : mm_G) (a0 : Nat) (a1 : Nat) (a2 : Nat) (a3 : Nat) (h : mm_H) (k_a0 : mm_kd h a0 = 1) (k_a1 : mm_kd h a1 = 5) (k_a2 : mm_kd h a2 = 5) (k_a3 : mm_kd h a3 = 5) : mm_Met G my_X1_mac [.ref a0, .ref a1, .ref a2, .ref a3] h (bd_X1_mac a0 a1 a2 a3 h) := by
  refine mm_met (ls := [.ref a0, .ref a1, .ref a2, .ref a3]) pn_RX1 (Nat.le_of_ble_eq_true rfl) rfl ?_
  unfold bd_X1_mac
  refine ok_aload_n (q := 1) dX1_mac_0 rfl rfl ?_
  refine ok_aload_n (q := 2) dX1_mac_1 rfl rfl ?_
  refine ok_bipush (q := 4) (v := 54) dX1_mac_2 cb_54 rfl ?_
  refine mm_cv (q := 7) (mt_X1_putKey G a0 a1 54 h k_a0 k_a1) (mm_runV (as := [.ref a1, .int 54]) (st := []) cl_1 lk_X1_mac_X1_putKey_45 rfl dX1_mac_4 rfl (Nat.le_of_ble_eq_true rfl) k_a0) rfl (fun h1 p2 => ?_)
  have k3 : mm_kd h1 a0 = 1 := mm_kd_app p2 k_a0 (by decide)
  have k4 : mm_kd h1 a1 = 5 := mm_kd_app p2 k_a1 (by decide)
  have k5 : mm_kd h1 a2 = 5 := mm_kd_app p2 k_a2 (by decide)
  have k6 : mm_kd h1 a3 = 5 := mm_kd_app p2 k_a3 (by decide)
  refine ok_aload_n (q := 8) dX1_mac_7 rfl rfl ?_
  refine ok_getR cl_1 (q := 11) (k := 3) dX1_mac_8 (Nat.le_of_ble_eq_true rfl) wd_175 (fun _ _ _ => rfl) kt_1_3 k3 rfl (fun b7 k8 => ?_)
  refine ok_aload_n (q := 12) dX1_mac_11 rfl rfl ?_
  refine mm_cv (q := 15) (mt_X6_append G b7 a2 h1 k8 k5) (mm_runV (as := [.ref a2]) (st := []) cl_5 lk_X1_mac_X6_append_49 rfl dX1_mac_12 rfl (Nat.le_of_ble_eq_true rfl) k8) rfl (fun h9 p10 => ?_)
  have k11 : mm_kd h9 a0 = 1 := mm_kd_app p10 k3 (by decide)
  have k12 : mm_kd h9 a1 = 5 := mm_kd_app p10 k4 (by decide)
  have k13 : mm_kd h9 a2 = 5 := mm_kd_app p10 k5 (by decide)
  have k14 : mm_kd h9 a3 = 5 := mm_kd_app p10 k6 (by decide)
  refine ok_aload_n (q := 16) dX1_mac_15 rfl rfl ?_
  refine ok_getR cl_1 (q := 19) (k := 0) dX1_mac_16 (Nat.le_of_ble_eq_true rfl) wd_167 (fun _ _ _ => rfl) kt_1_0 k11 rfl (fun b15 k16 => ?_)
  refine ok_aload_n (q := 20) dX1_mac_19 rfl rfl ?_
  refine ok_getR cl_1 (q := 23) (k := 3) dX1_mac_20 (Nat.le_of_ble_eq_true rfl) wd_175 (fun _ _ _ => rfl) kt_1_3 k11 rfl (fun b17 k18 => ?_)
  refine ok_aload_n (q := 24) dX1_mac_23 rfl rfl ?_
  refine ok_getR cl_1 (q := 27) (k := 4) dX1_mac_24 (Nat.le_of_ble_eq_true rfl) wd_176 (fun _ _ _ => rfl) kt_1_4 k11 rfl (fun b19 k20 => ?_)
  refine mm_cv (q := 30) (mt_X9_digest G b15 b17 b19 h9 k16 k18 k20) (mm_runV (as := [.ref b17, .ref b19]) (st := []) cl_8 lk_X1_mac_X9_digest_53 rfl dX1_mac_27 rfl (Nat.le_of_ble_eq_true rfl) k16) rfl (fun h21 p22 => ?_)
  have k23 : mm_kd h21 a0 = 1 := mm_kd_app p22 k11 (by decide)
  have k24 : mm_kd h21 a1 = 5 := mm_kd_app p22 k12 (by decide)
  have k25 : mm_kd h21 a2 = 5 := mm_kd_app p22 k13 (by decide)
  have k26 : mm_kd h21 a3 = 5 := mm_kd_app p22 k14 (by decide)
  refine ok_aload_n (q := 31) dX1_mac_30 rfl rfl ?_
  refine ok_aload_n (q := 32) dX1_mac_31 rfl rfl ?_
  refine ok_bipush (q := 34) (v := 92) dX1_mac_32 cb_92 rfl ?_
  refine mm_cv (q := 37) (mt_X1_putKey G a0 a1 92 h21 k23 k24) (mm_runV (as := [.ref a1, .int 92]) (st := []) cl_1 lk_X1_mac_X1_putKey_45 rfl dX1_mac_34 rfl (Nat.le_of_ble_eq_true rfl) k23) rfl (fun h27 p28 => ?_)
  have k29 : mm_kd h27 a0 = 1 := mm_kd_app p28 k23 (by decide)
  have k30 : mm_kd h27 a1 = 5 := mm_kd_app p28 k24 (by decide)
  have k31 : mm_kd h27 a2 = 5 := mm_kd_app p28 k25 (by decide)
  have k32 : mm_kd h27 a3 = 5 := mm_kd_app p28 k26 (by decide)
  refine ok_aload_n (q := 38) dX1_mac_37 rfl rfl ?_
  refine ok_getR cl_1 (q := 41) (k := 3) dX1_mac_38 (Nat.le_of_ble_eq_true rfl) wd_175 (fun _ _ _ => rfl) kt_1_3 k29 rfl (fun b33 k34 => ?_)
  refine ok_aload_n (q := 42) dX1_mac_41 rfl rfl ?_
  refine ok_getR cl_1 (q := 45) (k := 4) dX1_mac_42 (Nat.le_of_ble_eq_true rfl) wd_176 (fun _ _ _ => rfl) kt_1_4 k29 rfl (fun b35 k36 => ?_)
  refine mm_cv (q := 48) (mt_X6_append G b33 b35 h27 k34 k36) (mm_runV (as := [.ref b35]) (st := []) cl_5 lk_X1_mac_X6_append_49 rfl dX1_mac_45 rfl (Nat.le_of_ble_eq_true rfl) k34) rfl (fun h37 p38 => ?_)
  have k39 : mm_kd h37 a0 = 1 := mm_kd_app p38 k29 (by decide)
  have k40 : mm_kd h37 a1 = 5 := mm_kd_app p38 k30 (by decide)
  have k41 : mm_kd h37 a2 = 5 := mm_kd_app p38 k31 (by decide)
  have k42 : mm_kd h37 a3 = 5 := mm_kd_app p38 k32 (by decide)
  refine ok_aload_n (q := 49) dX1_mac_48 rfl rfl ?_
  refine ok_getR cl_1 (q := 52) (k := 0) dX1_mac_49 (Nat.le_of_ble_eq_true rfl) wd_167 (fun _ _ _ => rfl) kt_1_0 k39 rfl (fun b43 k44 => ?_)
  refine ok_aload_n (q := 53) dX1_mac_52 rfl rfl ?_
  refine ok_getR cl_1 (q := 56) (k := 3) dX1_mac_53 (Nat.le_of_ble_eq_true rfl) wd_175 (fun _ _ _ => rfl) kt_1_3 k39 rfl (fun b45 k46 => ?_)
  refine ok_aload_n (q := 57) dX1_mac_56 rfl rfl ?_
  refine mm_cv (q := 60) (mt_X9_digest G b43 b45 a3 h37 k44 k46 k42) (mm_runV (as := [.ref b45, .ref a3]) (st := []) cl_8 lk_X1_mac_X9_digest_53 rfl dX1_mac_57 rfl (Nat.le_of_ble_eq_true rfl) k44) rfl (fun h47 p48 => ?_)
  have k49 : mm_kd h47 a0 = 1 := mm_kd_app p48 k39 (by decide)
  have k50 : mm_kd h47 a1 = 5 := mm_kd_app p48 k40 (by decide)
  have k51 : mm_kd h47 a2 = 5 := mm_kd_app p48 k41 (by decide)
  have k52 : mm_kd h47 a3 = 5 := mm_kd_app p48 k42 (by decide)
  exact ok_ret dX1_mac_60 rfl
def bd_X6_copyPart (a0 : Nat) (a1 : Nat) (x2 : Int32) (x3 : Int32) (h : mm_H) : mm_O := mm_bh (mm_si h a0 1 0) (fun h1 =>
  mm_qv (bd_X6_appendPart a0 a1 x2 x3 h1) (fun h3 =>
  some (none, h3)))
set_option maxHeartbeats 4000000 in
set_option maxRecDepth 100000 in
theorem mt_X6_copyPart (G : mm_G) (a0 : Nat) (a1 : Nat) (x2 : Int32) (x3 : Int32) (h : mm_H) (k_a0 : mm_kd h a0 = 5) (k_a1 : mm_kd h a1 = 5) : mm_Met G my_X6_copyPart [.ref a0, .ref a1, .int x2, .int x3] h (bd_X6_copyPart a0 a1 x2 x3 h) := by
  refine mm_met (ls := [.ref a0, .ref a1, .int x2, .int x3]) pn_RX6 (Nat.le_of_ble_eq_true rfl) rfl ?_
  unfold bd_X6_copyPart
  refine ok_aload_n (q := 1) dX6_copyPart_0 rfl rfl ?_
  refine ok_iconst (q := 2) (v := 0) dX6_copyPart_1 ci_0 rfl ?_
  refine ok_putI cl_5 (q := 5) (k := 1) dX6_copyPart_2 (Nat.le_of_ble_eq_true rfl) wd_122 (Or.inl rfl) (fun _ _ _ => rfl) rfl rfl k_a0 rfl (bh_ok (fun h1 e2 => ?_))
  have e2 : h1.1 = h.1 := e2
  refine ok_aload_n (q := 6) dX6_copyPart_5 rfl rfl ?_
  refine ok_aload_n (q := 7) dX6_copyPart_6 rfl rfl ?_
  refine ok_iload_n (q := 8) dX6_copyPart_7 rfl rfl ?_
  refine ok_iload_n (q := 9) dX6_copyPart_8 rfl rfl ?_
  refine mm_cv (q := 12) (mt_X6_appendPart G a0 a1 x2 x3 h1 (mm_ke e2 k_a0) (mm_ke e2 k_a1)) (mm_runV (as := [.ref a1, .int x2, .int x3]) (st := []) cl_5 lk_X6_copyPart_X6_appendPart_39 rfl dX6_copyPart_9 rfl (Nat.le_of_ble_eq_true rfl) (mm_ke e2 k_a0)) rfl (fun h3 p4 => ?_)
  have k5 : mm_kd h3 a0 = 5 := mm_kd_app p4 (mm_ke e2 k_a0) (by decide)
  have k6 : mm_kd h3 a1 = 5 := mm_kd_app p4 (mm_ke e2 k_a1) (by decide)
  exact ok_ret dX6_copyPart_12 rfl
