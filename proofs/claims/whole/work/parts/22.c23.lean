def jn_L_law_710 (kb : Nat → Nat → Nat → Int32 → mm_H → mm_O) (a0 : Nat) (a1 : Nat) (a2 : Nat) (x3 : Int32) (h : mm_H) : mm_O := kb a0 a1 a2 (x3 + 6) h
set_option maxHeartbeats 4000000 in
set_option maxRecDepth 100000 in
theorem oj_L_law_710 {G : mm_G} {kb : Nat → Nat → Nat → Int32 → mm_H → mm_O} (hkb : ∀ (a0 : Nat) (a1 : Nat) (a2 : Nat) (x3 : Int32) (h : mm_H), mm_kd h a0 = 20 → mm_kd h a1 = 10 → mm_kd h a2 = 11 → mm_Ok G my_L_law 18 [.ref a0, .ref a1, .ref a2, .int x3] [] h (kb a0 a1 a2 x3 h)) (a0 : Nat) (a1 : Nat) (a2 : Nat) (x3 : Int32) (h : mm_H) (k_a0 : mm_kd h a0 = 20) (k_a1 : mm_kd h a1 = 10) (k_a2 : mm_kd h a2 = 11) : mm_Ok G my_L_law 710 [.ref a0, .ref a1, .ref a2, .int x3] [] h (jn_L_law_710 kb a0 a1 a2 x3 h) := by
  unfold jn_L_law_710
  refine ok_iinc (q := 713) (v := x3 + 6) (ls' := [.ref a0, .ref a1, .ref a2, .int (x3 + 6)]) dL_law_710 rfl (congrArg (x3 + ·) ci_6) (Nat.le_of_ble_eq_true rfl) rfl rfl ?_
  refine ok_goto (q := 18) dL_law_713 rfl ?_
  exact hkb a0 a1 a2 (x3 + 6) h k_a0 k_a1 k_a2
def jn_L_law_237 (kb : Nat → Nat → Nat → Int32 → mm_H → mm_O) (a0 : Nat) (a1 : Nat) (a2 : Nat) (x3 : Int32) (s0 : Int32) (s1 : Nat) (s2 : Int32) (h : mm_H) : mm_O := mm_qi (bd_X12_make s1 s0 h) (fun v71 h69 =>
  if s2 = v71 then
  (jn_L_law_710 (kb) a0 a1 a2 x3 h69)
  else
  (some (some (.int 0), h69)))
set_option maxHeartbeats 4000000 in
set_option maxRecDepth 100000 in
theorem oj_L_law_237 {G : mm_G} {kb : Nat → Nat → Nat → Int32 → mm_H → mm_O} (hkb : ∀ (a0 : Nat) (a1 : Nat) (a2 : Nat) (x3 : Int32) (h : mm_H), mm_kd h a0 = 20 → mm_kd h a1 = 10 → mm_kd h a2 = 11 → mm_Ok G my_L_law 18 [.ref a0, .ref a1, .ref a2, .int x3] [] h (kb a0 a1 a2 x3 h)) (a0 : Nat) (a1 : Nat) (a2 : Nat) (x3 : Int32) (s0 : Int32) (s1 : Nat) (s2 : Int32) (h : mm_H) (k_a0 : mm_kd h a0 = 20) (k_a1 : mm_kd h a1 = 10) (k_a2 : mm_kd h a2 = 11) (k_s1 : mm_kd h s1 = 11) : mm_Ok G my_L_law 237 [.ref a0, .ref a1, .ref a2, .int x3] [.int s0, .ref s1, .int s2] h (jn_L_law_237 kb a0 a1 a2 x3 s0 s1 s2 h) := by
  unfold jn_L_law_237
  refine mm_ci (q := 240) (mt_X12_make G s1 s0 h k_s1) (mm_runV (as := [.int s0]) (st := [.int s2]) cl_11 lk_L_law_X12_make_27 rfl dL_law_237 rfl (Nat.le_of_ble_eq_true rfl) k_s1) rfl (fun v71 h69 p70 => ?_)
  have k72 : mm_kd h69 a0 = 20 := mm_kd_app p70 k_a0 (by decide)
  have k73 : mm_kd h69 a1 = 10 := mm_kd_app p70 k_a1 (by decide)
  have k74 : mm_kd h69 a2 = 11 := mm_kd_app p70 k_a2 (by decide)
  refine ok_icmp_eq (q := 243) (t := 710) dL_law_240 rfl rfl ?_ ?_
  · exact oj_L_law_710 hkb a0 a1 a2 x3 h69 k72 k73 k74
  · refine ok_iconst (q := 244) (v := 0) dL_law_243 ci_0 rfl ?_
    exact ok_iret (t := .boolean) dL_law_244 rfl (by decide)
def jn_L_law_220 (kb : Nat → Nat → Nat → Int32 → mm_H → mm_O) (a0 : Nat) (a1 : Nat) (a2 : Nat) (x3 : Int32) (s0 : Int32) (s1 : Nat) (h : mm_H) : mm_O := mm_qi (bd_X11_make s1 s0 h) (fun v64 h62 =>
  if mm_in (x3 + (1 : Int32)) (mm_ln h62 a0) = true then (if (mm_i h62 a0 (mm_n (x3 + (1 : Int32)))) = 0 then
  (jn_L_law_237 (kb) a0 a1 a2 x3 0 a2 v64 h62)
  else
  (jn_L_law_237 (kb) a0 a1 a2 x3 1 a2 v64 h62)) else none)
set_option maxHeartbeats 4000000 in
set_option maxRecDepth 100000 in
theorem oj_L_law_220 {G : mm_G} {kb : Nat → Nat → Nat → Int32 → mm_H → mm_O} (hkb : ∀ (a0 : Nat) (a1 : Nat) (a2 : Nat) (x3 : Int32) (h : mm_H), mm_kd h a0 = 20 → mm_kd h a1 = 10 → mm_kd h a2 = 11 → mm_Ok G my_L_law 18 [.ref a0, .ref a1, .ref a2, .int x3] [] h (kb a0 a1 a2 x3 h)) (a0 : Nat) (a1 : Nat) (a2 : Nat) (x3 : Int32) (s0 : Int32) (s1 : Nat) (h : mm_H) (k_a0 : mm_kd h a0 = 20) (k_a1 : mm_kd h a1 = 10) (k_a2 : mm_kd h a2 = 11) (k_s1 : mm_kd h s1 = 10) : mm_Ok G my_L_law 220 [.ref a0, .ref a1, .ref a2, .int x3] [.int s0, .ref s1] h (jn_L_law_220 kb a0 a1 a2 x3 s0 s1 h) := by
  unfold jn_L_law_220
  refine mm_ci (q := 223) (mt_X11_make G s1 s0 h k_s1) (mm_runV (as := [.int s0]) (st := []) cl_10 lk_L_law_X11_make_23 rfl dL_law_220 rfl (Nat.le_of_ble_eq_true rfl) k_s1) rfl (fun v64 h62 p63 => ?_)
  have k65 : mm_kd h62 a0 = 20 := mm_kd_app p63 k_a0 (by decide)
  have k66 : mm_kd h62 a1 = 10 := mm_kd_app p63 k_a1 (by decide)
  have k67 : mm_kd h62 a2 = 11 := mm_kd_app p63 k_a2 (by decide)
  refine ok_aload_n (q := 224) dL_law_223 rfl rfl ?_
  refine ok_aload_n (q := 225) dL_law_224 rfl rfl ?_
  refine ok_iload_n (q := 226) dL_law_225 rfl rfl ?_
  refine ok_iconst (q := 227) (v := 1) dL_law_226 ci_1 rfl ?_
  refine ok_iadd (q := 228) dL_law_227 rfl ?_
  refine mm_ck (fun c68 => ?_)
  refine ok_iald (q := 229) dL_law_228 k65 c68 rfl ?_
  refine ok_if_eq (q := 232) (t := 236) dL_law_229 rfl rfl ?_ ?_
  · refine ok_iconst (q := 237) (v := 0) dL_law_236 ci_0 rfl ?_
    exact oj_L_law_237 hkb a0 a1 a2 x3 0 a2 v64 h62 k65 k66 k67 k67
  · refine ok_iconst (q := 233) (v := 1) dL_law_232 ci_1 rfl ?_
    refine ok_goto (q := 237) dL_law_233 rfl ?_
    exact oj_L_law_237 hkb a0 a1 a2 x3 1 a2 v64 h62 k65 k66 k67 k67
def lp_L_law_18  : Nat → Nat → Nat → Nat → Int32 → mm_H → mm_O
  | 0, _, _, _, _, _ => none
  | n + 1, a0, a1, a2, x3, h => if ((nI (mm_ln h a0)) - (6 : Int32)) < x3 then
  (some (some (.int 1), h))
  else
  (if mm_in x3 (mm_ln h a0) = true then (if ((mm_i h a0 (mm_n x3)) &&& (31 : Int32)) = 0 then
  (if mm_in (x3 + (1 : Int32)) (mm_ln h a0) = true then (if mm_in (x3 + (2 : Int32)) (mm_ln h a0) = true then (if mm_in (x3 + (3 : Int32)) (mm_ln h a0) = true then (if mm_in (x3 + (4 : Int32)) (mm_ln h a0) = true then (if mm_in (x3 + (5 : Int32)) (mm_ln h a0) = true then (mm_qi (bd_X11_feed a1 (mm_i h a0 (mm_n (x3 + (1 : Int32)))) (mm_i h a0 (mm_n (x3 + (2 : Int32)))) (mm_i h a0 (mm_n (x3 + (3 : Int32)))) (mm_i h a0 (mm_n (x3 + (4 : Int32)))) (mm_i h a0 (mm_n (x3 + (5 : Int32)))) h) (fun v30 h28 =>
  if mm_in (x3 + (1 : Int32)) (mm_ln h28 a0) = true then (if mm_in (x3 + (2 : Int32)) (mm_ln h28 a0) = true then (if mm_in (x3 + (3 : Int32)) (mm_ln h28 a0) = true then (if mm_in (x3 + (4 : Int32)) (mm_ln h28 a0) = true then (if mm_in (x3 + (5 : Int32)) (mm_ln h28 a0) = true then (mm_qi (bd_X12_feed a2 (mm_i h28 a0 (mm_n (x3 + (1 : Int32)))) (mm_i h28 a0 (mm_n (x3 + (2 : Int32)))) (mm_i h28 a0 (mm_n (x3 + (3 : Int32)))) (mm_i h28 a0 (mm_n (x3 + (4 : Int32)))) (mm_i h28 a0 (mm_n (x3 + (5 : Int32)))) h28) (fun v41 h39 =>
  if v30 = v41 then
  (jn_L_law_710 (lp_L_law_18 n) a0 a1 a2 x3 h39)
  else
  (some (some (.int 0), h39)))) else none) else none) else none) else none) else none)) else none) else none) else none) else none) else none)
  else
  (if ((mm_i h a0 (mm_n x3)) &&& (31 : Int32)) = 1 then
  (if mm_in (x3 + (1 : Int32)) (mm_ln h a0) = true then (mm_qi (bd_X11_end a1 (mm_i h a0 (mm_n (x3 + (1 : Int32)))) h) (fun v49 h47 =>
  if mm_in (x3 + (1 : Int32)) (mm_ln h47 a0) = true then (mm_qi (bd_X12_end a2 (mm_i h47 a0 (mm_n (x3 + (1 : Int32)))) h47) (fun v56 h54 =>
  if v49 = v56 then
  (jn_L_law_710 (lp_L_law_18 n) a0 a1 a2 x3 h54)
  else
  (some (some (.int 0), h54)))) else none)) else none)
  else
  (if ((mm_i h a0 (mm_n x3)) &&& (31 : Int32)) = 2 then
  (if mm_in (x3 + (1 : Int32)) (mm_ln h a0) = true then (if (mm_i h a0 (mm_n (x3 + (1 : Int32)))) = 0 then
  (jn_L_law_220 (lp_L_law_18 n) a0 a1 a2 x3 0 a1 h)
  else
  (jn_L_law_220 (lp_L_law_18 n) a0 a1 a2 x3 1 a1 h)) else none)
  else
  (if ((mm_i h a0 (mm_n x3)) &&& (31 : Int32)) = 3 then
  (if mm_in (x3 + (1 : Int32)) (mm_ln h a0) = true then (if mm_in (x3 + (2 : Int32)) (mm_ln h a0) = true then (mm_qi (bd_X11_tell a1 (mm_i h a0 (mm_n (x3 + (1 : Int32)))) (mm_i h a0 (mm_n (x3 + (2 : Int32)))) h) (fun v80 h78 =>
  if mm_in (x3 + (1 : Int32)) (mm_ln h78 a0) = true then (if mm_in (x3 + (2 : Int32)) (mm_ln h78 a0) = true then (mm_qi (bd_X12_tell a2 (mm_i h78 a0 (mm_n (x3 + (1 : Int32)))) (mm_i h78 a0 (mm_n (x3 + (2 : Int32)))) h78) (fun v88 h86 =>
  if v80 = v88 then
  (jn_L_law_710 (lp_L_law_18 n) a0 a1 a2 x3 h86)
  else
  (some (some (.int 0), h86)))) else none) else none)) else none) else none)
  else
  (if ((mm_i h a0 (mm_n x3)) &&& (31 : Int32)) = 4 then
  (if mm_in (x3 + (1 : Int32)) (mm_ln h a0) = true then (mm_qi (bd_X11_start a1 (mm_i h a0 (mm_n (x3 + (1 : Int32)))) h) (fun v96 h94 =>
  if mm_in (x3 + (1 : Int32)) (mm_ln h94 a0) = true then (mm_qi (bd_X12_start a2 (mm_i h94 a0 (mm_n (x3 + (1 : Int32)))) h94) (fun v103 h101 =>
  if v96 = v103 then
  (jn_L_law_710 (lp_L_law_18 n) a0 a1 a2 x3 h101)
  else
  (some (some (.int 0), h101)))) else none)) else none)
  else
  (if ((mm_i h a0 (mm_n x3)) &&& (31 : Int32)) = 5 then
  (if mm_in (x3 + (1 : Int32)) (mm_ln h a0) = true then (mm_qi (bd_X11_say a1 (mm_i h a0 (mm_n (x3 + (1 : Int32)))) h) (fun v111 h109 =>
  if mm_in (x3 + (1 : Int32)) (mm_ln h109 a0) = true then (mm_qi (bd_X12_say a2 (mm_i h109 a0 (mm_n (x3 + (1 : Int32)))) h109) (fun v118 h116 =>
  if v111 = v118 then
  (jn_L_law_710 (lp_L_law_18 n) a0 a1 a2 x3 h116)
  else
  (some (some (.int 0), h116)))) else none)) else none)
  else
  (if ((mm_i h a0 (mm_n x3)) &&& (31 : Int32)) = 6 then
  (if mm_in (x3 + (1 : Int32)) (mm_ln h a0) = true then (if mm_in (x3 + (2 : Int32)) (mm_ln h a0) = true then (mm_qi (bd_X11_update a1 (mm_i h a0 (mm_n (x3 + (1 : Int32)))) (mm_i h a0 (mm_n (x3 + (2 : Int32)))) h) (fun v127 h125 =>
  if mm_in (x3 + (1 : Int32)) (mm_ln h125 a0) = true then (if mm_in (x3 + (2 : Int32)) (mm_ln h125 a0) = true then (mm_qi (bd_X12_update a2 (mm_i h125 a0 (mm_n (x3 + (1 : Int32)))) (mm_i h125 a0 (mm_n (x3 + (2 : Int32)))) h125) (fun v135 h133 =>
  if v127 = v135 then
  (jn_L_law_710 (lp_L_law_18 n) a0 a1 a2 x3 h133)
  else
  (some (some (.int 0), h133)))) else none) else none)) else none) else none)
  else
  (if ((mm_i h a0 (mm_n x3)) &&& (31 : Int32)) = 7 then
  (if mm_in (x3 + (1 : Int32)) (mm_ln h a0) = true then (mm_qi (bd_X11_close a1 (mm_i h a0 (mm_n (x3 + (1 : Int32)))) h) (fun v143 h141 =>
  if mm_in (x3 + (1 : Int32)) (mm_ln h141 a0) = true then (mm_qi (bd_X12_close a2 (mm_i h141 a0 (mm_n (x3 + (1 : Int32)))) h141) (fun v150 h148 =>
  if v143 = v150 then
  (jn_L_law_710 (lp_L_law_18 n) a0 a1 a2 x3 h148)
  else
  (some (some (.int 0), h148)))) else none)) else none)
  else
  (if ((mm_i h a0 (mm_n x3)) &&& (31 : Int32)) = 8 then
  (if mm_in (x3 + (1 : Int32)) (mm_ln h a0) = true then (if mm_in (x3 + (2 : Int32)) (mm_ln h a0) = true then (mm_qi (bd_X11_carry a1 (mm_i h a0 (mm_n (x3 + (1 : Int32)))) (mm_i h a0 (mm_n (x3 + (2 : Int32)))) h) (fun v159 h157 =>
  if mm_in (x3 + (1 : Int32)) (mm_ln h157 a0) = true then (if mm_in (x3 + (2 : Int32)) (mm_ln h157 a0) = true then (mm_qi (bd_X12_carry a2 (mm_i h157 a0 (mm_n (x3 + (1 : Int32)))) (mm_i h157 a0 (mm_n (x3 + (2 : Int32)))) h157) (fun v167 h165 =>
  if v159 = v167 then
  (jn_L_law_710 (lp_L_law_18 n) a0 a1 a2 x3 h165)
  else
  (some (some (.int 0), h165)))) else none) else none)) else none) else none)
  else
  (if ((mm_i h a0 (mm_n x3)) &&& (31 : Int32)) = 9 then
  (if mm_in (x3 + (1 : Int32)) (mm_ln h a0) = true then (mm_qi (bd_X11_give a1 (mm_i h a0 (mm_n (x3 + (1 : Int32)))) h) (fun v175 h173 =>
  if mm_in (x3 + (1 : Int32)) (mm_ln h173 a0) = true then (mm_qi (bd_X12_give a2 (mm_i h173 a0 (mm_n (x3 + (1 : Int32)))) h173) (fun v182 h180 =>
  if v175 = v182 then
  (jn_L_law_710 (lp_L_law_18 n) a0 a1 a2 x3 h180)
  else
  (some (some (.int 0), h180)))) else none)) else none)
  else
  (if ((mm_i h a0 (mm_n x3)) &&& (31 : Int32)) = 10 then
  (if mm_in (x3 + (1 : Int32)) (mm_ln h a0) = true then (if mm_in (x3 + (2 : Int32)) (mm_ln h a0) = true then (mm_qi (bd_X11_meddle a1 (mm_i h a0 (mm_n (x3 + (1 : Int32)))) (mm_i h a0 (mm_n (x3 + (2 : Int32)))) h) (fun v191 h189 =>
  if mm_in (x3 + (1 : Int32)) (mm_ln h189 a0) = true then (if mm_in (x3 + (2 : Int32)) (mm_ln h189 a0) = true then (mm_qi (bd_X12_meddle a2 (mm_i h189 a0 (mm_n (x3 + (1 : Int32)))) (mm_i h189 a0 (mm_n (x3 + (2 : Int32)))) h189) (fun v199 h197 =>
  if v191 = v199 then
  (jn_L_law_710 (lp_L_law_18 n) a0 a1 a2 x3 h197)
  else
  (some (some (.int 0), h197)))) else none) else none)) else none) else none)
  else
  (if ((mm_i h a0 (mm_n x3)) &&& (31 : Int32)) = 11 then
  (if mm_in (x3 + (1 : Int32)) (mm_ln h a0) = true then (if mm_in (x3 + (2 : Int32)) (mm_ln h a0) = true then (if mm_in (x3 + (3 : Int32)) (mm_ln h a0) = true then (mm_qi (bd_X11_alter a1 (mm_i h a0 (mm_n (x3 + (1 : Int32)))) (mm_i h a0 (mm_n (x3 + (2 : Int32)))) (mm_i h a0 (mm_n (x3 + (3 : Int32)))) h) (fun v209 h207 =>
  if mm_in (x3 + (1 : Int32)) (mm_ln h207 a0) = true then (if mm_in (x3 + (2 : Int32)) (mm_ln h207 a0) = true then (if mm_in (x3 + (3 : Int32)) (mm_ln h207 a0) = true then (mm_qi (bd_X12_alter a2 (mm_i h207 a0 (mm_n (x3 + (1 : Int32)))) (mm_i h207 a0 (mm_n (x3 + (2 : Int32)))) (mm_i h207 a0 (mm_n (x3 + (3 : Int32)))) h207) (fun v218 h216 =>
  if v209 = v218 then
  (jn_L_law_710 (lp_L_law_18 n) a0 a1 a2 x3 h216)
  else
  (some (some (.int 0), h216)))) else none) else none) else none)) else none) else none) else none)
  else
  (if ((mm_i h a0 (mm_n x3)) &&& (31 : Int32)) = 12 then
  (if mm_in (x3 + (1 : Int32)) (mm_ln h a0) = true then (if mm_in (x3 + (2 : Int32)) (mm_ln h a0) = true then (if mm_in (x3 + (3 : Int32)) (mm_ln h a0) = true then (mm_qi (bd_X11_written a1 (mm_i h a0 (mm_n (x3 + (1 : Int32)))) (mm_i h a0 (mm_n (x3 + (2 : Int32)))) (mm_i h a0 (mm_n (x3 + (3 : Int32)))) h) (fun v228 h226 =>
  if mm_in (x3 + (1 : Int32)) (mm_ln h226 a0) = true then (if mm_in (x3 + (2 : Int32)) (mm_ln h226 a0) = true then (if mm_in (x3 + (3 : Int32)) (mm_ln h226 a0) = true then (mm_qi (bd_X12_written a2 (mm_i h226 a0 (mm_n (x3 + (1 : Int32)))) (mm_i h226 a0 (mm_n (x3 + (2 : Int32)))) (mm_i h226 a0 (mm_n (x3 + (3 : Int32)))) h226) (fun v237 h235 =>
  if v228 = v237 then
  (jn_L_law_710 (lp_L_law_18 n) a0 a1 a2 x3 h235)
  else
  (some (some (.int 0), h235)))) else none) else none) else none)) else none) else none) else none)
  else
  (if ((mm_i h a0 (mm_n x3)) &&& (31 : Int32)) = 13 then
  (if mm_in (x3 + (1 : Int32)) (mm_ln h a0) = true then (if mm_in (x3 + (2 : Int32)) (mm_ln h a0) = true then (mm_qi (bd_X11_given a1 (mm_i h a0 (mm_n (x3 + (1 : Int32)))) (mm_i h a0 (mm_n (x3 + (2 : Int32)))) h) (fun v246 h244 =>
  if mm_in (x3 + (1 : Int32)) (mm_ln h244 a0) = true then (if mm_in (x3 + (2 : Int32)) (mm_ln h244 a0) = true then (mm_qi (bd_X12_given a2 (mm_i h244 a0 (mm_n (x3 + (1 : Int32)))) (mm_i h244 a0 (mm_n (x3 + (2 : Int32)))) h244) (fun v254 h252 =>
  if v246 = v254 then
  (jn_L_law_710 (lp_L_law_18 n) a0 a1 a2 x3 h252)
  else
  (some (some (.int 0), h252)))) else none) else none)) else none) else none)
  else
  (if ((mm_i h a0 (mm_n x3)) &&& (31 : Int32)) = 14 then
  (if mm_in (x3 + (1 : Int32)) (mm_ln h a0) = true then (if mm_in (x3 + (2 : Int32)) (mm_ln h a0) = true then (if mm_in (x3 + (3 : Int32)) (mm_ln h a0) = true then (mm_qi (bd_X11_secret a1 (mm_i h a0 (mm_n (x3 + (1 : Int32)))) (mm_i h a0 (mm_n (x3 + (2 : Int32)))) (mm_i h a0 (mm_n (x3 + (3 : Int32)))) h) (fun v264 h262 =>
  if mm_in (x3 + (1 : Int32)) (mm_ln h262 a0) = true then (if mm_in (x3 + (2 : Int32)) (mm_ln h262 a0) = true then (if mm_in (x3 + (3 : Int32)) (mm_ln h262 a0) = true then (mm_qi (bd_X12_secret a2 (mm_i h262 a0 (mm_n (x3 + (1 : Int32)))) (mm_i h262 a0 (mm_n (x3 + (2 : Int32)))) (mm_i h262 a0 (mm_n (x3 + (3 : Int32)))) h262) (fun v273 h271 =>
  if v264 = v273 then
  (jn_L_law_710 (lp_L_law_18 n) a0 a1 a2 x3 h271)
  else
  (some (some (.int 0), h271)))) else none) else none) else none)) else none) else none) else none)
  else
  (if ((mm_i h a0 (mm_n x3)) &&& (31 : Int32)) = 15 then
  (if mm_in (x3 + (1 : Int32)) (mm_ln h a0) = true then (if mm_in (x3 + (2 : Int32)) (mm_ln h a0) = true then (mm_qi (bd_X11_state a1 (mm_i h a0 (mm_n (x3 + (1 : Int32)))) (mm_i h a0 (mm_n (x3 + (2 : Int32)))) h) (fun v282 h280 =>
  if mm_in (x3 + (1 : Int32)) (mm_ln h280 a0) = true then (if mm_in (x3 + (2 : Int32)) (mm_ln h280 a0) = true then (mm_qi (bd_X12_state a2 (mm_i h280 a0 (mm_n (x3 + (1 : Int32)))) (mm_i h280 a0 (mm_n (x3 + (2 : Int32)))) h280) (fun v290 h288 =>
  if v282 = v290 then
  (jn_L_law_710 (lp_L_law_18 n) a0 a1 a2 x3 h288)
  else
  (some (some (.int 0), h288)))) else none) else none)) else none) else none)
  else
  (if ((mm_i h a0 (mm_n x3)) &&& (31 : Int32)) = 16 then
  (if mm_in (x3 + (1 : Int32)) (mm_ln h a0) = true then (mm_qi (bd_X11_hash a1 (mm_i h a0 (mm_n (x3 + (1 : Int32)))) h) (fun v298 h296 =>
  if mm_in (x3 + (1 : Int32)) (mm_ln h296 a0) = true then (mm_qi (bd_X12_hash a2 (mm_i h296 a0 (mm_n (x3 + (1 : Int32)))) h296) (fun v305 h303 =>
  if v298 = v305 then
  (jn_L_law_710 (lp_L_law_18 n) a0 a1 a2 x3 h303)
  else
  (some (some (.int 0), h303)))) else none)) else none)
  else
  (if ((mm_i h a0 (mm_n x3)) &&& (31 : Int32)) = 17 then
  (if mm_in (x3 + (1 : Int32)) (mm_ln h a0) = true then (mm_qi (bd_X11_about a1 (mm_i h a0 (mm_n (x3 + (1 : Int32)))) h) (fun v313 h311 =>
  if mm_in (x3 + (1 : Int32)) (mm_ln h311 a0) = true then (mm_qi (bd_X12_about a2 (mm_i h311 a0 (mm_n (x3 + (1 : Int32)))) h311) (fun v320 h318 =>
  if v313 = v320 then
  (jn_L_law_710 (lp_L_law_18 n) a0 a1 a2 x3 h318)
  else
  (some (some (.int 0), h318)))) else none)) else none)
  else
  (jn_L_law_710 (lp_L_law_18 n) a0 a1 a2 x3 h))))))))))))))))))) else none)
set_option maxHeartbeats 4000000 in
set_option maxRecDepth 100000 in
theorem ol_L_law_18 {G : mm_G}   : ∀ (n : Nat) (a0 : Nat) (a1 : Nat) (a2 : Nat) (x3 : Int32) (h : mm_H), mm_kd h a0 = 20 → mm_kd h a1 = 10 → mm_kd h a2 = 11 → mm_Ok G my_L_law 18 [.ref a0, .ref a1, .ref a2, .int x3] [] h (lp_L_law_18 n a0 a1 a2 x3 h) := by
  intro n
  induction n with
  | zero => intro a0 a1 a2 x3 h k_a0 k_a1 k_a2; exact mm_no
  | succ n ih =>
    intro a0 a1 a2 x3 h k_a0 k_a1 k_a2
    rw [lp_L_law_18]
    refine ok_iload_n (q := 19) dL_law_18 rfl rfl ?_
    refine ok_aload_n (q := 20) dL_law_19 rfl rfl ?_
    refine ok_alen (q := 21) dL_law_20 (by rw [k_a0]; decide) rfl ?_
    refine ok_bipush (q := 23) (v := 6) dL_law_21 cb_6 rfl ?_
    refine ok_isub (q := 24) dL_law_23 rfl ?_
    refine ok_icmp_gt (q := 27) (t := 716) dL_law_24 rfl rfl ?_ ?_
    · refine ok_iconst (q := 717) (v := 1) dL_law_716 ci_1 rfl ?_
      exact ok_iret (t := .boolean) dL_law_717 rfl (by decide)
    · refine ok_aload_n (q := 28) dL_law_27 rfl rfl ?_
      refine ok_iload_n (q := 29) dL_law_28 rfl rfl ?_
      refine mm_ck (fun c21 => ?_)
      refine ok_iald (q := 30) dL_law_29 k_a0 c21 rfl ?_
      refine ok_bipush (q := 32) (v := 31) dL_law_30 cb_31 rfl ?_
      refine ok_iand (q := 33) dL_law_32 rfl ?_
      refine mm_sp (fun c22 => ?_) (fun c22 => ?_)
      · refine ok_tableIn (q := 120) dL_law_33 (by rw [c22]; decide) (by rw [c22]; decide) (by rw [c22]; rfl) rfl ?_
        refine ok_aload_n (q := 121) dL_law_120 rfl rfl ?_
        refine ok_aload_n (q := 122) dL_law_121 rfl rfl ?_
        refine ok_iload_n (q := 123) dL_law_122 rfl rfl ?_
        refine ok_iconst (q := 124) (v := 1) dL_law_123 ci_1 rfl ?_
        refine ok_iadd (q := 125) dL_law_124 rfl ?_
        refine mm_ck (fun c23 => ?_)
        refine ok_iald (q := 126) dL_law_125 k_a0 c23 rfl ?_
        refine ok_aload_n (q := 127) dL_law_126 rfl rfl ?_
        refine ok_iload_n (q := 128) dL_law_127 rfl rfl ?_
        refine ok_iconst (q := 129) (v := 2) dL_law_128 ci_2 rfl ?_
        refine ok_iadd (q := 130) dL_law_129 rfl ?_
        refine mm_ck (fun c24 => ?_)
        refine ok_iald (q := 131) dL_law_130 k_a0 c24 rfl ?_
        refine ok_aload_n (q := 132) dL_law_131 rfl rfl ?_
        refine ok_iload_n (q := 133) dL_law_132 rfl rfl ?_
        refine ok_iconst (q := 134) (v := 3) dL_law_133 ci_3 rfl ?_
        refine ok_iadd (q := 135) dL_law_134 rfl ?_
        refine mm_ck (fun c25 => ?_)
        refine ok_iald (q := 136) dL_law_135 k_a0 c25 rfl ?_
        refine ok_aload_n (q := 137) dL_law_136 rfl rfl ?_
        refine ok_iload_n (q := 138) dL_law_137 rfl rfl ?_
        refine ok_iconst (q := 139) (v := 4) dL_law_138 ci_4 rfl ?_
        refine ok_iadd (q := 140) dL_law_139 rfl ?_
        refine mm_ck (fun c26 => ?_)
        refine ok_iald (q := 141) dL_law_140 k_a0 c26 rfl ?_
        refine ok_aload_n (q := 142) dL_law_141 rfl rfl ?_
        refine ok_iload_n (q := 143) dL_law_142 rfl rfl ?_
        refine ok_iconst (q := 144) (v := 5) dL_law_143 ci_5 rfl ?_
        refine ok_iadd (q := 145) dL_law_144 rfl ?_
        refine mm_ck (fun c27 => ?_)
        refine ok_iald (q := 146) dL_law_145 k_a0 c27 rfl ?_
        refine mm_ci (q := 149) (mt_X11_feed G a1 (mm_i h a0 (mm_n (x3 + (1 : Int32)))) (mm_i h a0 (mm_n (x3 + (2 : Int32)))) (mm_i h a0 (mm_n (x3 + (3 : Int32)))) (mm_i h a0 (mm_n (x3 + (4 : Int32)))) (mm_i h a0 (mm_n (x3 + (5 : Int32)))) h k_a1) (mm_runV (as := [.int (mm_i h a0 (mm_n (x3 + (1 : Int32)))), .int (mm_i h a0 (mm_n (x3 + (2 : Int32)))), .int (mm_i h a0 (mm_n (x3 + (3 : Int32)))), .int (mm_i h a0 (mm_n (x3 + (4 : Int32)))), .int (mm_i h a0 (mm_n (x3 + (5 : Int32))))]) (st := []) cl_10 lk_L_law_X11_feed_13 rfl dL_law_146 rfl (Nat.le_of_ble_eq_true rfl) k_a1) rfl (fun v30 h28 p29 => ?_)
        have k31 : mm_kd h28 a0 = 20 := mm_kd_app p29 k_a0 (by decide)
        have k32 : mm_kd h28 a1 = 10 := mm_kd_app p29 k_a1 (by decide)
        have k33 : mm_kd h28 a2 = 11 := mm_kd_app p29 k_a2 (by decide)
        refine ok_aload_n (q := 150) dL_law_149 rfl rfl ?_
        refine ok_aload_n (q := 151) dL_law_150 rfl rfl ?_
        refine ok_iload_n (q := 152) dL_law_151 rfl rfl ?_
        refine ok_iconst (q := 153) (v := 1) dL_law_152 ci_1 rfl ?_
        refine ok_iadd (q := 154) dL_law_153 rfl ?_
        refine mm_ck (fun c34 => ?_)
        refine ok_iald (q := 155) dL_law_154 k31 c34 rfl ?_
        refine ok_aload_n (q := 156) dL_law_155 rfl rfl ?_
        refine ok_iload_n (q := 157) dL_law_156 rfl rfl ?_
        refine ok_iconst (q := 158) (v := 2) dL_law_157 ci_2 rfl ?_
        refine ok_iadd (q := 159) dL_law_158 rfl ?_
        refine mm_ck (fun c35 => ?_)
        refine ok_iald (q := 160) dL_law_159 k31 c35 rfl ?_
        refine ok_aload_n (q := 161) dL_law_160 rfl rfl ?_
        refine ok_iload_n (q := 162) dL_law_161 rfl rfl ?_
        refine ok_iconst (q := 163) (v := 3) dL_law_162 ci_3 rfl ?_
        refine ok_iadd (q := 164) dL_law_163 rfl ?_
        refine mm_ck (fun c36 => ?_)
        refine ok_iald (q := 165) dL_law_164 k31 c36 rfl ?_
        refine ok_aload_n (q := 166) dL_law_165 rfl rfl ?_
        refine ok_iload_n (q := 167) dL_law_166 rfl rfl ?_
        refine ok_iconst (q := 168) (v := 4) dL_law_167 ci_4 rfl ?_
        refine ok_iadd (q := 169) dL_law_168 rfl ?_
        refine mm_ck (fun c37 => ?_)
        refine ok_iald (q := 170) dL_law_169 k31 c37 rfl ?_
        refine ok_aload_n (q := 171) dL_law_170 rfl rfl ?_
        refine ok_iload_n (q := 172) dL_law_171 rfl rfl ?_
        refine ok_iconst (q := 173) (v := 5) dL_law_172 ci_5 rfl ?_
        refine ok_iadd (q := 174) dL_law_173 rfl ?_
        refine mm_ck (fun c38 => ?_)
        refine ok_iald (q := 175) dL_law_174 k31 c38 rfl ?_
        refine mm_ci (q := 178) (mt_X12_feed G a2 (mm_i h28 a0 (mm_n (x3 + (1 : Int32)))) (mm_i h28 a0 (mm_n (x3 + (2 : Int32)))) (mm_i h28 a0 (mm_n (x3 + (3 : Int32)))) (mm_i h28 a0 (mm_n (x3 + (4 : Int32)))) (mm_i h28 a0 (mm_n (x3 + (5 : Int32)))) h28 k33) (mm_runV (as := [.int (mm_i h28 a0 (mm_n (x3 + (1 : Int32)))), .int (mm_i h28 a0 (mm_n (x3 + (2 : Int32)))), .int (mm_i h28 a0 (mm_n (x3 + (3 : Int32)))), .int (mm_i h28 a0 (mm_n (x3 + (4 : Int32)))), .int (mm_i h28 a0 (mm_n (x3 + (5 : Int32))))]) (st := [.int v30]) cl_11 lk_L_law_X12_feed_17 rfl dL_law_175 rfl (Nat.le_of_ble_eq_true rfl) k33) rfl (fun v41 h39 p40 => ?_)
        have k42 : mm_kd h39 a0 = 20 := mm_kd_app p40 k31 (by decide)
        have k43 : mm_kd h39 a1 = 10 := mm_kd_app p40 k32 (by decide)
        have k44 : mm_kd h39 a2 = 11 := mm_kd_app p40 k33 (by decide)
        refine ok_icmp_eq (q := 181) (t := 710) dL_law_178 rfl rfl ?_ ?_
        · exact oj_L_law_710 ih a0 a1 a2 x3 h39 k42 k43 k44
        · refine ok_iconst (q := 182) (v := 0) dL_law_181 ci_0 rfl ?_
          exact ok_iret (t := .boolean) dL_law_182 rfl (by decide)
      · refine mm_sp (fun c45 => ?_) (fun c45 => ?_)
        · refine ok_tableIn (q := 183) dL_law_33 (by rw [c45]; decide) (by rw [c45]; decide) (by rw [c45]; rfl) rfl ?_
          refine ok_aload_n (q := 184) dL_law_183 rfl rfl ?_
          refine ok_aload_n (q := 185) dL_law_184 rfl rfl ?_
          refine ok_iload_n (q := 186) dL_law_185 rfl rfl ?_
          refine ok_iconst (q := 187) (v := 1) dL_law_186 ci_1 rfl ?_
          refine ok_iadd (q := 188) dL_law_187 rfl ?_
          refine mm_ck (fun c46 => ?_)
          refine ok_iald (q := 189) dL_law_188 k_a0 c46 rfl ?_
          refine mm_ci (q := 192) (mt_X11_end G a1 (mm_i h a0 (mm_n (x3 + (1 : Int32)))) h k_a1) (mm_runV (as := [.int (mm_i h a0 (mm_n (x3 + (1 : Int32))))]) (st := []) cl_10 lk_L_law_X11_end_18 rfl dL_law_189 rfl (Nat.le_of_ble_eq_true rfl) k_a1) rfl (fun v49 h47 p48 => ?_)
          have k50 : mm_kd h47 a0 = 20 := mm_kd_app p48 k_a0 (by decide)
          have k51 : mm_kd h47 a1 = 10 := mm_kd_app p48 k_a1 (by decide)
          have k52 : mm_kd h47 a2 = 11 := mm_kd_app p48 k_a2 (by decide)
          refine ok_aload_n (q := 193) dL_law_192 rfl rfl ?_
          refine ok_aload_n (q := 194) dL_law_193 rfl rfl ?_
          refine ok_iload_n (q := 195) dL_law_194 rfl rfl ?_
          refine ok_iconst (q := 196) (v := 1) dL_law_195 ci_1 rfl ?_
          refine ok_iadd (q := 197) dL_law_196 rfl ?_
          refine mm_ck (fun c53 => ?_)
          refine ok_iald (q := 198) dL_law_197 k50 c53 rfl ?_
          refine mm_ci (q := 201) (mt_X12_end G a2 (mm_i h47 a0 (mm_n (x3 + (1 : Int32)))) h47 k52) (mm_runV (as := [.int (mm_i h47 a0 (mm_n (x3 + (1 : Int32))))]) (st := [.int v49]) cl_11 lk_L_law_X12_end_22 rfl dL_law_198 rfl (Nat.le_of_ble_eq_true rfl) k52) rfl (fun v56 h54 p55 => ?_)
          have k57 : mm_kd h54 a0 = 20 := mm_kd_app p55 k50 (by decide)
          have k58 : mm_kd h54 a1 = 10 := mm_kd_app p55 k51 (by decide)
          have k59 : mm_kd h54 a2 = 11 := mm_kd_app p55 k52 (by decide)
          refine ok_icmp_eq (q := 204) (t := 710) dL_law_201 rfl rfl ?_ ?_
          · exact oj_L_law_710 ih a0 a1 a2 x3 h54 k57 k58 k59
          · refine ok_iconst (q := 205) (v := 0) dL_law_204 ci_0 rfl ?_
            exact ok_iret (t := .boolean) dL_law_205 rfl (by decide)
        · refine mm_sp (fun c60 => ?_) (fun c60 => ?_)
          · refine ok_tableIn (q := 206) dL_law_33 (by rw [c60]; decide) (by rw [c60]; decide) (by rw [c60]; rfl) rfl ?_
            refine ok_aload_n (q := 207) dL_law_206 rfl rfl ?_
            refine ok_aload_n (q := 208) dL_law_207 rfl rfl ?_
            refine ok_iload_n (q := 209) dL_law_208 rfl rfl ?_
            refine ok_iconst (q := 210) (v := 1) dL_law_209 ci_1 rfl ?_
            refine ok_iadd (q := 211) dL_law_210 rfl ?_
            refine mm_ck (fun c61 => ?_)
            refine ok_iald (q := 212) dL_law_211 k_a0 c61 rfl ?_
            refine ok_if_eq (q := 215) (t := 219) dL_law_212 rfl rfl ?_ ?_
            · refine ok_iconst (q := 220) (v := 0) dL_law_219 ci_0 rfl ?_
              exact oj_L_law_220 ih a0 a1 a2 x3 0 a1 h k_a0 k_a1 k_a2 k_a1
            · refine ok_iconst (q := 216) (v := 1) dL_law_215 ci_1 rfl ?_
              refine ok_goto (q := 220) dL_law_216 rfl ?_
              exact oj_L_law_220 ih a0 a1 a2 x3 1 a1 h k_a0 k_a1 k_a2 k_a1
          · refine mm_sp (fun c75 => ?_) (fun c75 => ?_)
            · refine ok_tableIn (q := 245) dL_law_33 (by rw [c75]; decide) (by rw [c75]; decide) (by rw [c75]; rfl) rfl ?_
              refine ok_aload_n (q := 246) dL_law_245 rfl rfl ?_
              refine ok_aload_n (q := 247) dL_law_246 rfl rfl ?_
              refine ok_iload_n (q := 248) dL_law_247 rfl rfl ?_
              refine ok_iconst (q := 249) (v := 1) dL_law_248 ci_1 rfl ?_
              refine ok_iadd (q := 250) dL_law_249 rfl ?_
              refine mm_ck (fun c76 => ?_)
              refine ok_iald (q := 251) dL_law_250 k_a0 c76 rfl ?_
              refine ok_aload_n (q := 252) dL_law_251 rfl rfl ?_
              refine ok_iload_n (q := 253) dL_law_252 rfl rfl ?_
              refine ok_iconst (q := 254) (v := 2) dL_law_253 ci_2 rfl ?_
              refine ok_iadd (q := 255) dL_law_254 rfl ?_
              refine mm_ck (fun c77 => ?_)
              refine ok_iald (q := 256) dL_law_255 k_a0 c77 rfl ?_
              refine mm_ci (q := 259) (mt_X11_tell G a1 (mm_i h a0 (mm_n (x3 + (1 : Int32)))) (mm_i h a0 (mm_n (x3 + (2 : Int32)))) h k_a1) (mm_runV (as := [.int (mm_i h a0 (mm_n (x3 + (1 : Int32)))), .int (mm_i h a0 (mm_n (x3 + (2 : Int32))))]) (st := []) cl_10 lk_L_law_X11_tell_28 rfl dL_law_256 rfl (Nat.le_of_ble_eq_true rfl) k_a1) rfl (fun v80 h78 p79 => ?_)
              have k81 : mm_kd h78 a0 = 20 := mm_kd_app p79 k_a0 (by decide)
              have k82 : mm_kd h78 a1 = 10 := mm_kd_app p79 k_a1 (by decide)
              have k83 : mm_kd h78 a2 = 11 := mm_kd_app p79 k_a2 (by decide)
              refine ok_aload_n (q := 260) dL_law_259 rfl rfl ?_
              refine ok_aload_n (q := 261) dL_law_260 rfl rfl ?_
              refine ok_iload_n (q := 262) dL_law_261 rfl rfl ?_
              refine ok_iconst (q := 263) (v := 1) dL_law_262 ci_1 rfl ?_
              refine ok_iadd (q := 264) dL_law_263 rfl ?_
              refine mm_ck (fun c84 => ?_)
              refine ok_iald (q := 265) dL_law_264 k81 c84 rfl ?_
              refine ok_aload_n (q := 266) dL_law_265 rfl rfl ?_
              refine ok_iload_n (q := 267) dL_law_266 rfl rfl ?_
              refine ok_iconst (q := 268) (v := 2) dL_law_267 ci_2 rfl ?_
              refine ok_iadd (q := 269) dL_law_268 rfl ?_
              refine mm_ck (fun c85 => ?_)
              refine ok_iald (q := 270) dL_law_269 k81 c85 rfl ?_
              refine mm_ci (q := 273) (mt_X12_tell G a2 (mm_i h78 a0 (mm_n (x3 + (1 : Int32)))) (mm_i h78 a0 (mm_n (x3 + (2 : Int32)))) h78 k83) (mm_runV (as := [.int (mm_i h78 a0 (mm_n (x3 + (1 : Int32)))), .int (mm_i h78 a0 (mm_n (x3 + (2 : Int32))))]) (st := [.int v80]) cl_11 lk_L_law_X12_tell_32 rfl dL_law_270 rfl (Nat.le_of_ble_eq_true rfl) k83) rfl (fun v88 h86 p87 => ?_)
              have k89 : mm_kd h86 a0 = 20 := mm_kd_app p87 k81 (by decide)
              have k90 : mm_kd h86 a1 = 10 := mm_kd_app p87 k82 (by decide)
              have k91 : mm_kd h86 a2 = 11 := mm_kd_app p87 k83 (by decide)
              refine ok_icmp_eq (q := 276) (t := 710) dL_law_273 rfl rfl ?_ ?_
              · exact oj_L_law_710 ih a0 a1 a2 x3 h86 k89 k90 k91
              · refine ok_iconst (q := 277) (v := 0) dL_law_276 ci_0 rfl ?_
                exact ok_iret (t := .boolean) dL_law_277 rfl (by decide)
            · refine mm_sp (fun c92 => ?_) (fun c92 => ?_)
              · refine ok_tableIn (q := 278) dL_law_33 (by rw [c92]; decide) (by rw [c92]; decide) (by rw [c92]; rfl) rfl ?_
                refine ok_aload_n (q := 279) dL_law_278 rfl rfl ?_
                refine ok_aload_n (q := 280) dL_law_279 rfl rfl ?_
                refine ok_iload_n (q := 281) dL_law_280 rfl rfl ?_
                refine ok_iconst (q := 282) (v := 1) dL_law_281 ci_1 rfl ?_
                refine ok_iadd (q := 283) dL_law_282 rfl ?_
                refine mm_ck (fun c93 => ?_)
                refine ok_iald (q := 284) dL_law_283 k_a0 c93 rfl ?_
                refine mm_ci (q := 287) (mt_X11_start G a1 (mm_i h a0 (mm_n (x3 + (1 : Int32)))) h k_a1) (mm_runV (as := [.int (mm_i h a0 (mm_n (x3 + (1 : Int32))))]) (st := []) cl_10 lk_L_law_X11_start_33 rfl dL_law_284 rfl (Nat.le_of_ble_eq_true rfl) k_a1) rfl (fun v96 h94 p95 => ?_)
                have k97 : mm_kd h94 a0 = 20 := mm_kd_app p95 k_a0 (by decide)
                have k98 : mm_kd h94 a1 = 10 := mm_kd_app p95 k_a1 (by decide)
                have k99 : mm_kd h94 a2 = 11 := mm_kd_app p95 k_a2 (by decide)
                refine ok_aload_n (q := 288) dL_law_287 rfl rfl ?_
                refine ok_aload_n (q := 289) dL_law_288 rfl rfl ?_
                refine ok_iload_n (q := 290) dL_law_289 rfl rfl ?_
                refine ok_iconst (q := 291) (v := 1) dL_law_290 ci_1 rfl ?_
                refine ok_iadd (q := 292) dL_law_291 rfl ?_
                refine mm_ck (fun c100 => ?_)
                refine ok_iald (q := 293) dL_law_292 k97 c100 rfl ?_
                refine mm_ci (q := 296) (mt_X12_start G a2 (mm_i h94 a0 (mm_n (x3 + (1 : Int32)))) h94 k99) (mm_runV (as := [.int (mm_i h94 a0 (mm_n (x3 + (1 : Int32))))]) (st := [.int v96]) cl_11 lk_L_law_X12_start_37 rfl dL_law_293 rfl (Nat.le_of_ble_eq_true rfl) k99) rfl (fun v103 h101 p102 => ?_)
                have k104 : mm_kd h101 a0 = 20 := mm_kd_app p102 k97 (by decide)
                have k105 : mm_kd h101 a1 = 10 := mm_kd_app p102 k98 (by decide)
                have k106 : mm_kd h101 a2 = 11 := mm_kd_app p102 k99 (by decide)
                refine ok_icmp_eq (q := 299) (t := 710) dL_law_296 rfl rfl ?_ ?_
                · exact oj_L_law_710 ih a0 a1 a2 x3 h101 k104 k105 k106
                · refine ok_iconst (q := 300) (v := 0) dL_law_299 ci_0 rfl ?_
                  exact ok_iret (t := .boolean) dL_law_300 rfl (by decide)
              · refine mm_sp (fun c107 => ?_) (fun c107 => ?_)
                · refine ok_tableIn (q := 301) dL_law_33 (by rw [c107]; decide) (by rw [c107]; decide) (by rw [c107]; rfl) rfl ?_
                  refine ok_aload_n (q := 302) dL_law_301 rfl rfl ?_
                  refine ok_aload_n (q := 303) dL_law_302 rfl rfl ?_
                  refine ok_iload_n (q := 304) dL_law_303 rfl rfl ?_
                  refine ok_iconst (q := 305) (v := 1) dL_law_304 ci_1 rfl ?_
                  refine ok_iadd (q := 306) dL_law_305 rfl ?_
                  refine mm_ck (fun c108 => ?_)
                  refine ok_iald (q := 307) dL_law_306 k_a0 c108 rfl ?_
                  refine mm_ci (q := 310) (mt_X11_say G a1 (mm_i h a0 (mm_n (x3 + (1 : Int32)))) h k_a1) (mm_runV (as := [.int (mm_i h a0 (mm_n (x3 + (1 : Int32))))]) (st := []) cl_10 lk_L_law_X11_say_38 rfl dL_law_307 rfl (Nat.le_of_ble_eq_true rfl) k_a1) rfl (fun v111 h109 p110 => ?_)
                  have k112 : mm_kd h109 a0 = 20 := mm_kd_app p110 k_a0 (by decide)
                  have k113 : mm_kd h109 a1 = 10 := mm_kd_app p110 k_a1 (by decide)
                  have k114 : mm_kd h109 a2 = 11 := mm_kd_app p110 k_a2 (by decide)
                  refine ok_aload_n (q := 311) dL_law_310 rfl rfl ?_
                  refine ok_aload_n (q := 312) dL_law_311 rfl rfl ?_
                  refine ok_iload_n (q := 313) dL_law_312 rfl rfl ?_
                  refine ok_iconst (q := 314) (v := 1) dL_law_313 ci_1 rfl ?_
                  refine ok_iadd (q := 315) dL_law_314 rfl ?_
                  refine mm_ck (fun c115 => ?_)
                  refine ok_iald (q := 316) dL_law_315 k112 c115 rfl ?_
                  refine mm_ci (q := 319) (mt_X12_say G a2 (mm_i h109 a0 (mm_n (x3 + (1 : Int32)))) h109 k114) (mm_runV (as := [.int (mm_i h109 a0 (mm_n (x3 + (1 : Int32))))]) (st := [.int v111]) cl_11 lk_L_law_X12_say_41 rfl dL_law_316 rfl (Nat.le_of_ble_eq_true rfl) k114) rfl (fun v118 h116 p117 => ?_)
                  have k119 : mm_kd h116 a0 = 20 := mm_kd_app p117 k112 (by decide)
                  have k120 : mm_kd h116 a1 = 10 := mm_kd_app p117 k113 (by decide)
                  have k121 : mm_kd h116 a2 = 11 := mm_kd_app p117 k114 (by decide)
                  refine ok_icmp_eq (q := 322) (t := 710) dL_law_319 rfl rfl ?_ ?_
                  · exact oj_L_law_710 ih a0 a1 a2 x3 h116 k119 k120 k121
                  · refine ok_iconst (q := 323) (v := 0) dL_law_322 ci_0 rfl ?_
                    exact ok_iret (t := .boolean) dL_law_323 rfl (by decide)
                · refine mm_sp (fun c122 => ?_) (fun c122 => ?_)
                  · refine ok_tableIn (q := 324) dL_law_33 (by rw [c122]; decide) (by rw [c122]; decide) (by rw [c122]; rfl) rfl ?_
                    refine ok_aload_n (q := 325) dL_law_324 rfl rfl ?_
                    refine ok_aload_n (q := 326) dL_law_325 rfl rfl ?_
                    refine ok_iload_n (q := 327) dL_law_326 rfl rfl ?_
                    refine ok_iconst (q := 328) (v := 1) dL_law_327 ci_1 rfl ?_
                    refine ok_iadd (q := 329) dL_law_328 rfl ?_
                    refine mm_ck (fun c123 => ?_)
                    refine ok_iald (q := 330) dL_law_329 k_a0 c123 rfl ?_
                    refine ok_aload_n (q := 331) dL_law_330 rfl rfl ?_
                    refine ok_iload_n (q := 332) dL_law_331 rfl rfl ?_
                    refine ok_iconst (q := 333) (v := 2) dL_law_332 ci_2 rfl ?_
                    refine ok_iadd (q := 334) dL_law_333 rfl ?_
                    refine mm_ck (fun c124 => ?_)
                    refine ok_iald (q := 335) dL_law_334 k_a0 c124 rfl ?_
                    refine mm_ci (q := 338) (mt_X11_update G a1 (mm_i h a0 (mm_n (x3 + (1 : Int32)))) (mm_i h a0 (mm_n (x3 + (2 : Int32)))) h k_a1) (mm_runV (as := [.int (mm_i h a0 (mm_n (x3 + (1 : Int32)))), .int (mm_i h a0 (mm_n (x3 + (2 : Int32))))]) (st := []) cl_10 lk_L_law_X11_update_42 rfl dL_law_335 rfl (Nat.le_of_ble_eq_true rfl) k_a1) rfl (fun v127 h125 p126 => ?_)
                    have k128 : mm_kd h125 a0 = 20 := mm_kd_app p126 k_a0 (by decide)
                    have k129 : mm_kd h125 a1 = 10 := mm_kd_app p126 k_a1 (by decide)
                    have k130 : mm_kd h125 a2 = 11 := mm_kd_app p126 k_a2 (by decide)
                    refine ok_aload_n (q := 339) dL_law_338 rfl rfl ?_
                    refine ok_aload_n (q := 340) dL_law_339 rfl rfl ?_
                    refine ok_iload_n (q := 341) dL_law_340 rfl rfl ?_
                    refine ok_iconst (q := 342) (v := 1) dL_law_341 ci_1 rfl ?_
                    refine ok_iadd (q := 343) dL_law_342 rfl ?_
                    refine mm_ck (fun c131 => ?_)
                    refine ok_iald (q := 344) dL_law_343 k128 c131 rfl ?_
                    refine ok_aload_n (q := 345) dL_law_344 rfl rfl ?_
                    refine ok_iload_n (q := 346) dL_law_345 rfl rfl ?_
                    refine ok_iconst (q := 347) (v := 2) dL_law_346 ci_2 rfl ?_
                    refine ok_iadd (q := 348) dL_law_347 rfl ?_
                    refine mm_ck (fun c132 => ?_)
                    refine ok_iald (q := 349) dL_law_348 k128 c132 rfl ?_
                    refine mm_ci (q := 352) (mt_X12_update G a2 (mm_i h125 a0 (mm_n (x3 + (1 : Int32)))) (mm_i h125 a0 (mm_n (x3 + (2 : Int32)))) h125 k130) (mm_runV (as := [.int (mm_i h125 a0 (mm_n (x3 + (1 : Int32)))), .int (mm_i h125 a0 (mm_n (x3 + (2 : Int32))))]) (st := [.int v127]) cl_11 lk_L_law_X12_update_46 rfl dL_law_349 rfl (Nat.le_of_ble_eq_true rfl) k130) rfl (fun v135 h133 p134 => ?_)
                    have k136 : mm_kd h133 a0 = 20 := mm_kd_app p134 k128 (by decide)
                    have k137 : mm_kd h133 a1 = 10 := mm_kd_app p134 k129 (by decide)
                    have k138 : mm_kd h133 a2 = 11 := mm_kd_app p134 k130 (by decide)
                    refine ok_icmp_eq (q := 355) (t := 710) dL_law_352 rfl rfl ?_ ?_
                    · exact oj_L_law_710 ih a0 a1 a2 x3 h133 k136 k137 k138
                    · refine ok_iconst (q := 356) (v := 0) dL_law_355 ci_0 rfl ?_
                      exact ok_iret (t := .boolean) dL_law_356 rfl (by decide)
                  · refine mm_sp (fun c139 => ?_) (fun c139 => ?_)
                    · refine ok_tableIn (q := 357) dL_law_33 (by rw [c139]; decide) (by rw [c139]; decide) (by rw [c139]; rfl) rfl ?_
                      refine ok_aload_n (q := 358) dL_law_357 rfl rfl ?_
                      refine ok_aload_n (q := 359) dL_law_358 rfl rfl ?_
                      refine ok_iload_n (q := 360) dL_law_359 rfl rfl ?_
                      refine ok_iconst (q := 361) (v := 1) dL_law_360 ci_1 rfl ?_
                      refine ok_iadd (q := 362) dL_law_361 rfl ?_
                      refine mm_ck (fun c140 => ?_)
                      refine ok_iald (q := 363) dL_law_362 k_a0 c140 rfl ?_
                      refine mm_ci (q := 366) (mt_X11_close G a1 (mm_i h a0 (mm_n (x3 + (1 : Int32)))) h k_a1) (mm_runV (as := [.int (mm_i h a0 (mm_n (x3 + (1 : Int32))))]) (st := []) cl_10 lk_L_law_X11_close_47 rfl dL_law_363 rfl (Nat.le_of_ble_eq_true rfl) k_a1) rfl (fun v143 h141 p142 => ?_)
                      have k144 : mm_kd h141 a0 = 20 := mm_kd_app p142 k_a0 (by decide)
                      have k145 : mm_kd h141 a1 = 10 := mm_kd_app p142 k_a1 (by decide)
                      have k146 : mm_kd h141 a2 = 11 := mm_kd_app p142 k_a2 (by decide)
                      refine ok_aload_n (q := 367) dL_law_366 rfl rfl ?_
                      refine ok_aload_n (q := 368) dL_law_367 rfl rfl ?_
                      refine ok_iload_n (q := 369) dL_law_368 rfl rfl ?_
                      refine ok_iconst (q := 370) (v := 1) dL_law_369 ci_1 rfl ?_
                      refine ok_iadd (q := 371) dL_law_370 rfl ?_
                      refine mm_ck (fun c147 => ?_)
                      refine ok_iald (q := 372) dL_law_371 k144 c147 rfl ?_
                      refine mm_ci (q := 375) (mt_X12_close G a2 (mm_i h141 a0 (mm_n (x3 + (1 : Int32)))) h141 k146) (mm_runV (as := [.int (mm_i h141 a0 (mm_n (x3 + (1 : Int32))))]) (st := [.int v143]) cl_11 lk_L_law_X12_close_50 rfl dL_law_372 rfl (Nat.le_of_ble_eq_true rfl) k146) rfl (fun v150 h148 p149 => ?_)
                      have k151 : mm_kd h148 a0 = 20 := mm_kd_app p149 k144 (by decide)
                      have k152 : mm_kd h148 a1 = 10 := mm_kd_app p149 k145 (by decide)
                      have k153 : mm_kd h148 a2 = 11 := mm_kd_app p149 k146 (by decide)
                      refine ok_icmp_eq (q := 378) (t := 710) dL_law_375 rfl rfl ?_ ?_
                      · exact oj_L_law_710 ih a0 a1 a2 x3 h148 k151 k152 k153
                      · refine ok_iconst (q := 379) (v := 0) dL_law_378 ci_0 rfl ?_
                        exact ok_iret (t := .boolean) dL_law_379 rfl (by decide)
                    · refine mm_sp (fun c154 => ?_) (fun c154 => ?_)
                      · refine ok_tableIn (q := 380) dL_law_33 (by rw [c154]; decide) (by rw [c154]; decide) (by rw [c154]; rfl) rfl ?_
                        refine ok_aload_n (q := 381) dL_law_380 rfl rfl ?_
                        refine ok_aload_n (q := 382) dL_law_381 rfl rfl ?_
                        refine ok_iload_n (q := 383) dL_law_382 rfl rfl ?_
                        refine ok_iconst (q := 384) (v := 1) dL_law_383 ci_1 rfl ?_
                        refine ok_iadd (q := 385) dL_law_384 rfl ?_
                        refine mm_ck (fun c155 => ?_)
                        refine ok_iald (q := 386) dL_law_385 k_a0 c155 rfl ?_
                        refine ok_aload_n (q := 387) dL_law_386 rfl rfl ?_
                        refine ok_iload_n (q := 388) dL_law_387 rfl rfl ?_
                        refine ok_iconst (q := 389) (v := 2) dL_law_388 ci_2 rfl ?_
                        refine ok_iadd (q := 390) dL_law_389 rfl ?_
                        refine mm_ck (fun c156 => ?_)
                        refine ok_iald (q := 391) dL_law_390 k_a0 c156 rfl ?_
                        refine mm_ci (q := 394) (mt_X11_carry G a1 (mm_i h a0 (mm_n (x3 + (1 : Int32)))) (mm_i h a0 (mm_n (x3 + (2 : Int32)))) h k_a1) (mm_runV (as := [.int (mm_i h a0 (mm_n (x3 + (1 : Int32)))), .int (mm_i h a0 (mm_n (x3 + (2 : Int32))))]) (st := []) cl_10 lk_L_law_X11_carry_51 rfl dL_law_391 rfl (Nat.le_of_ble_eq_true rfl) k_a1) rfl (fun v159 h157 p158 => ?_)
                        have k160 : mm_kd h157 a0 = 20 := mm_kd_app p158 k_a0 (by decide)
                        have k161 : mm_kd h157 a1 = 10 := mm_kd_app p158 k_a1 (by decide)
                        have k162 : mm_kd h157 a2 = 11 := mm_kd_app p158 k_a2 (by decide)
                        refine ok_aload_n (q := 395) dL_law_394 rfl rfl ?_
                        refine ok_aload_n (q := 396) dL_law_395 rfl rfl ?_
                        refine ok_iload_n (q := 397) dL_law_396 rfl rfl ?_
                        refine ok_iconst (q := 398) (v := 1) dL_law_397 ci_1 rfl ?_
                        refine ok_iadd (q := 399) dL_law_398 rfl ?_
                        refine mm_ck (fun c163 => ?_)
                        refine ok_iald (q := 400) dL_law_399 k160 c163 rfl ?_
                        refine ok_aload_n (q := 401) dL_law_400 rfl rfl ?_
                        refine ok_iload_n (q := 402) dL_law_401 rfl rfl ?_
                        refine ok_iconst (q := 403) (v := 2) dL_law_402 ci_2 rfl ?_
                        refine ok_iadd (q := 404) dL_law_403 rfl ?_
                        refine mm_ck (fun c164 => ?_)
                        refine ok_iald (q := 405) dL_law_404 k160 c164 rfl ?_
                        refine mm_ci (q := 408) (mt_X12_carry G a2 (mm_i h157 a0 (mm_n (x3 + (1 : Int32)))) (mm_i h157 a0 (mm_n (x3 + (2 : Int32)))) h157 k162) (mm_runV (as := [.int (mm_i h157 a0 (mm_n (x3 + (1 : Int32)))), .int (mm_i h157 a0 (mm_n (x3 + (2 : Int32))))]) (st := [.int v159]) cl_11 lk_L_law_X12_carry_54 rfl dL_law_405 rfl (Nat.le_of_ble_eq_true rfl) k162) rfl (fun v167 h165 p166 => ?_)
                        have k168 : mm_kd h165 a0 = 20 := mm_kd_app p166 k160 (by decide)
                        have k169 : mm_kd h165 a1 = 10 := mm_kd_app p166 k161 (by decide)
                        have k170 : mm_kd h165 a2 = 11 := mm_kd_app p166 k162 (by decide)
                        refine ok_icmp_eq (q := 411) (t := 710) dL_law_408 rfl rfl ?_ ?_
                        · exact oj_L_law_710 ih a0 a1 a2 x3 h165 k168 k169 k170
                        · refine ok_iconst (q := 412) (v := 0) dL_law_411 ci_0 rfl ?_
                          exact ok_iret (t := .boolean) dL_law_412 rfl (by decide)
                      · refine mm_sp (fun c171 => ?_) (fun c171 => ?_)
                        · refine ok_tableIn (q := 413) dL_law_33 (by rw [c171]; decide) (by rw [c171]; decide) (by rw [c171]; rfl) rfl ?_
                          refine ok_aload_n (q := 414) dL_law_413 rfl rfl ?_
                          refine ok_aload_n (q := 415) dL_law_414 rfl rfl ?_
                          refine ok_iload_n (q := 416) dL_law_415 rfl rfl ?_
                          refine ok_iconst (q := 417) (v := 1) dL_law_416 ci_1 rfl ?_
                          refine ok_iadd (q := 418) dL_law_417 rfl ?_
                          refine mm_ck (fun c172 => ?_)
                          refine ok_iald (q := 419) dL_law_418 k_a0 c172 rfl ?_
                          refine mm_ci (q := 422) (mt_X11_give G a1 (mm_i h a0 (mm_n (x3 + (1 : Int32)))) h k_a1) (mm_runV (as := [.int (mm_i h a0 (mm_n (x3 + (1 : Int32))))]) (st := []) cl_10 lk_L_law_X11_give_55 rfl dL_law_419 rfl (Nat.le_of_ble_eq_true rfl) k_a1) rfl (fun v175 h173 p174 => ?_)
                          have k176 : mm_kd h173 a0 = 20 := mm_kd_app p174 k_a0 (by decide)
                          have k177 : mm_kd h173 a1 = 10 := mm_kd_app p174 k_a1 (by decide)
                          have k178 : mm_kd h173 a2 = 11 := mm_kd_app p174 k_a2 (by decide)
                          refine ok_aload_n (q := 423) dL_law_422 rfl rfl ?_
                          refine ok_aload_n (q := 424) dL_law_423 rfl rfl ?_
                          refine ok_iload_n (q := 425) dL_law_424 rfl rfl ?_
                          refine ok_iconst (q := 426) (v := 1) dL_law_425 ci_1 rfl ?_
                          refine ok_iadd (q := 427) dL_law_426 rfl ?_
                          refine mm_ck (fun c179 => ?_)
                          refine ok_iald (q := 428) dL_law_427 k176 c179 rfl ?_
                          refine mm_ci (q := 431) (mt_X12_give G a2 (mm_i h173 a0 (mm_n (x3 + (1 : Int32)))) h173 k178) (mm_runV (as := [.int (mm_i h173 a0 (mm_n (x3 + (1 : Int32))))]) (st := [.int v175]) cl_11 lk_L_law_X12_give_58 rfl dL_law_428 rfl (Nat.le_of_ble_eq_true rfl) k178) rfl (fun v182 h180 p181 => ?_)
                          have k183 : mm_kd h180 a0 = 20 := mm_kd_app p181 k176 (by decide)
                          have k184 : mm_kd h180 a1 = 10 := mm_kd_app p181 k177 (by decide)
                          have k185 : mm_kd h180 a2 = 11 := mm_kd_app p181 k178 (by decide)
                          refine ok_icmp_eq (q := 434) (t := 710) dL_law_431 rfl rfl ?_ ?_
                          · exact oj_L_law_710 ih a0 a1 a2 x3 h180 k183 k184 k185
                          · refine ok_iconst (q := 435) (v := 0) dL_law_434 ci_0 rfl ?_
                            exact ok_iret (t := .boolean) dL_law_435 rfl (by decide)
                        · refine mm_sp (fun c186 => ?_) (fun c186 => ?_)
                          · refine ok_tableIn (q := 436) dL_law_33 (by rw [c186]; decide) (by rw [c186]; decide) (by rw [c186]; rfl) rfl ?_
                            refine ok_aload_n (q := 437) dL_law_436 rfl rfl ?_
                            refine ok_aload_n (q := 438) dL_law_437 rfl rfl ?_
                            refine ok_iload_n (q := 439) dL_law_438 rfl rfl ?_
                            refine ok_iconst (q := 440) (v := 1) dL_law_439 ci_1 rfl ?_
                            refine ok_iadd (q := 441) dL_law_440 rfl ?_
                            refine mm_ck (fun c187 => ?_)
                            refine ok_iald (q := 442) dL_law_441 k_a0 c187 rfl ?_
                            refine ok_aload_n (q := 443) dL_law_442 rfl rfl ?_
                            refine ok_iload_n (q := 444) dL_law_443 rfl rfl ?_
                            refine ok_iconst (q := 445) (v := 2) dL_law_444 ci_2 rfl ?_
                            refine ok_iadd (q := 446) dL_law_445 rfl ?_
                            refine mm_ck (fun c188 => ?_)
                            refine ok_iald (q := 447) dL_law_446 k_a0 c188 rfl ?_
                            refine mm_ci (q := 450) (mt_X11_meddle G a1 (mm_i h a0 (mm_n (x3 + (1 : Int32)))) (mm_i h a0 (mm_n (x3 + (2 : Int32)))) h k_a1) (mm_runV (as := [.int (mm_i h a0 (mm_n (x3 + (1 : Int32)))), .int (mm_i h a0 (mm_n (x3 + (2 : Int32))))]) (st := []) cl_10 lk_L_law_X11_meddle_59 rfl dL_law_447 rfl (Nat.le_of_ble_eq_true rfl) k_a1) rfl (fun v191 h189 p190 => ?_)
                            have k192 : mm_kd h189 a0 = 20 := mm_kd_app p190 k_a0 (by decide)
                            have k193 : mm_kd h189 a1 = 10 := mm_kd_app p190 k_a1 (by decide)
                            have k194 : mm_kd h189 a2 = 11 := mm_kd_app p190 k_a2 (by decide)
                            refine ok_aload_n (q := 451) dL_law_450 rfl rfl ?_
                            refine ok_aload_n (q := 452) dL_law_451 rfl rfl ?_
                            refine ok_iload_n (q := 453) dL_law_452 rfl rfl ?_
                            refine ok_iconst (q := 454) (v := 1) dL_law_453 ci_1 rfl ?_
                            refine ok_iadd (q := 455) dL_law_454 rfl ?_
                            refine mm_ck (fun c195 => ?_)
                            refine ok_iald (q := 456) dL_law_455 k192 c195 rfl ?_
                            refine ok_aload_n (q := 457) dL_law_456 rfl rfl ?_
                            refine ok_iload_n (q := 458) dL_law_457 rfl rfl ?_
                            refine ok_iconst (q := 459) (v := 2) dL_law_458 ci_2 rfl ?_
                            refine ok_iadd (q := 460) dL_law_459 rfl ?_
                            refine mm_ck (fun c196 => ?_)
                            refine ok_iald (q := 461) dL_law_460 k192 c196 rfl ?_
                            refine mm_ci (q := 464) (mt_X12_meddle G a2 (mm_i h189 a0 (mm_n (x3 + (1 : Int32)))) (mm_i h189 a0 (mm_n (x3 + (2 : Int32)))) h189 k194) (mm_runV (as := [.int (mm_i h189 a0 (mm_n (x3 + (1 : Int32)))), .int (mm_i h189 a0 (mm_n (x3 + (2 : Int32))))]) (st := [.int v191]) cl_11 lk_L_law_X12_meddle_62 rfl dL_law_461 rfl (Nat.le_of_ble_eq_true rfl) k194) rfl (fun v199 h197 p198 => ?_)
                            have k200 : mm_kd h197 a0 = 20 := mm_kd_app p198 k192 (by decide)
                            have k201 : mm_kd h197 a1 = 10 := mm_kd_app p198 k193 (by decide)
                            have k202 : mm_kd h197 a2 = 11 := mm_kd_app p198 k194 (by decide)
                            refine ok_icmp_eq (q := 467) (t := 710) dL_law_464 rfl rfl ?_ ?_
                            · exact oj_L_law_710 ih a0 a1 a2 x3 h197 k200 k201 k202
                            · refine ok_iconst (q := 468) (v := 0) dL_law_467 ci_0 rfl ?_
                              exact ok_iret (t := .boolean) dL_law_468 rfl (by decide)
                          · refine mm_sp (fun c203 => ?_) (fun c203 => ?_)
                            · refine ok_tableIn (q := 469) dL_law_33 (by rw [c203]; decide) (by rw [c203]; decide) (by rw [c203]; rfl) rfl ?_
                              refine ok_aload_n (q := 470) dL_law_469 rfl rfl ?_
                              refine ok_aload_n (q := 471) dL_law_470 rfl rfl ?_
                              refine ok_iload_n (q := 472) dL_law_471 rfl rfl ?_
                              refine ok_iconst (q := 473) (v := 1) dL_law_472 ci_1 rfl ?_
                              refine ok_iadd (q := 474) dL_law_473 rfl ?_
                              refine mm_ck (fun c204 => ?_)
                              refine ok_iald (q := 475) dL_law_474 k_a0 c204 rfl ?_
                              refine ok_aload_n (q := 476) dL_law_475 rfl rfl ?_
                              refine ok_iload_n (q := 477) dL_law_476 rfl rfl ?_
                              refine ok_iconst (q := 478) (v := 2) dL_law_477 ci_2 rfl ?_
                              refine ok_iadd (q := 479) dL_law_478 rfl ?_
                              refine mm_ck (fun c205 => ?_)
                              refine ok_iald (q := 480) dL_law_479 k_a0 c205 rfl ?_
                              refine ok_aload_n (q := 481) dL_law_480 rfl rfl ?_
                              refine ok_iload_n (q := 482) dL_law_481 rfl rfl ?_
                              refine ok_iconst (q := 483) (v := 3) dL_law_482 ci_3 rfl ?_
                              refine ok_iadd (q := 484) dL_law_483 rfl ?_
                              refine mm_ck (fun c206 => ?_)
                              refine ok_iald (q := 485) dL_law_484 k_a0 c206 rfl ?_
                              refine mm_ci (q := 488) (mt_X11_alter G a1 (mm_i h a0 (mm_n (x3 + (1 : Int32)))) (mm_i h a0 (mm_n (x3 + (2 : Int32)))) (mm_i h a0 (mm_n (x3 + (3 : Int32)))) h k_a1) (mm_runV (as := [.int (mm_i h a0 (mm_n (x3 + (1 : Int32)))), .int (mm_i h a0 (mm_n (x3 + (2 : Int32)))), .int (mm_i h a0 (mm_n (x3 + (3 : Int32))))]) (st := []) cl_10 lk_L_law_X11_alter_63 rfl dL_law_485 rfl (Nat.le_of_ble_eq_true rfl) k_a1) rfl (fun v209 h207 p208 => ?_)
                              have k210 : mm_kd h207 a0 = 20 := mm_kd_app p208 k_a0 (by decide)
                              have k211 : mm_kd h207 a1 = 10 := mm_kd_app p208 k_a1 (by decide)
                              have k212 : mm_kd h207 a2 = 11 := mm_kd_app p208 k_a2 (by decide)
                              refine ok_aload_n (q := 489) dL_law_488 rfl rfl ?_
                              refine ok_aload_n (q := 490) dL_law_489 rfl rfl ?_
                              refine ok_iload_n (q := 491) dL_law_490 rfl rfl ?_
                              refine ok_iconst (q := 492) (v := 1) dL_law_491 ci_1 rfl ?_
                              refine ok_iadd (q := 493) dL_law_492 rfl ?_
                              refine mm_ck (fun c213 => ?_)
                              refine ok_iald (q := 494) dL_law_493 k210 c213 rfl ?_
                              refine ok_aload_n (q := 495) dL_law_494 rfl rfl ?_
                              refine ok_iload_n (q := 496) dL_law_495 rfl rfl ?_
                              refine ok_iconst (q := 497) (v := 2) dL_law_496 ci_2 rfl ?_
                              refine ok_iadd (q := 498) dL_law_497 rfl ?_
                              refine mm_ck (fun c214 => ?_)
                              refine ok_iald (q := 499) dL_law_498 k210 c214 rfl ?_
                              refine ok_aload_n (q := 500) dL_law_499 rfl rfl ?_
                              refine ok_iload_n (q := 501) dL_law_500 rfl rfl ?_
                              refine ok_iconst (q := 502) (v := 3) dL_law_501 ci_3 rfl ?_
                              refine ok_iadd (q := 503) dL_law_502 rfl ?_
                              refine mm_ck (fun c215 => ?_)
                              refine ok_iald (q := 504) dL_law_503 k210 c215 rfl ?_
                              refine mm_ci (q := 507) (mt_X12_alter G a2 (mm_i h207 a0 (mm_n (x3 + (1 : Int32)))) (mm_i h207 a0 (mm_n (x3 + (2 : Int32)))) (mm_i h207 a0 (mm_n (x3 + (3 : Int32)))) h207 k212) (mm_runV (as := [.int (mm_i h207 a0 (mm_n (x3 + (1 : Int32)))), .int (mm_i h207 a0 (mm_n (x3 + (2 : Int32)))), .int (mm_i h207 a0 (mm_n (x3 + (3 : Int32))))]) (st := [.int v209]) cl_11 lk_L_law_X12_alter_67 rfl dL_law_504 rfl (Nat.le_of_ble_eq_true rfl) k212) rfl (fun v218 h216 p217 => ?_)
                              have k219 : mm_kd h216 a0 = 20 := mm_kd_app p217 k210 (by decide)
                              have k220 : mm_kd h216 a1 = 10 := mm_kd_app p217 k211 (by decide)
                              have k221 : mm_kd h216 a2 = 11 := mm_kd_app p217 k212 (by decide)
                              refine ok_icmp_eq (q := 510) (t := 710) dL_law_507 rfl rfl ?_ ?_
                              · exact oj_L_law_710 ih a0 a1 a2 x3 h216 k219 k220 k221
                              · refine ok_iconst (q := 511) (v := 0) dL_law_510 ci_0 rfl ?_
                                exact ok_iret (t := .boolean) dL_law_511 rfl (by decide)
                            · refine mm_sp (fun c222 => ?_) (fun c222 => ?_)
                              · refine ok_tableIn (q := 512) dL_law_33 (by rw [c222]; decide) (by rw [c222]; decide) (by rw [c222]; rfl) rfl ?_
                                refine ok_aload_n (q := 513) dL_law_512 rfl rfl ?_
                                refine ok_aload_n (q := 514) dL_law_513 rfl rfl ?_
                                refine ok_iload_n (q := 515) dL_law_514 rfl rfl ?_
                                refine ok_iconst (q := 516) (v := 1) dL_law_515 ci_1 rfl ?_
                                refine ok_iadd (q := 517) dL_law_516 rfl ?_
                                refine mm_ck (fun c223 => ?_)
                                refine ok_iald (q := 518) dL_law_517 k_a0 c223 rfl ?_
                                refine ok_aload_n (q := 519) dL_law_518 rfl rfl ?_
                                refine ok_iload_n (q := 520) dL_law_519 rfl rfl ?_
                                refine ok_iconst (q := 521) (v := 2) dL_law_520 ci_2 rfl ?_
                                refine ok_iadd (q := 522) dL_law_521 rfl ?_
                                refine mm_ck (fun c224 => ?_)
                                refine ok_iald (q := 523) dL_law_522 k_a0 c224 rfl ?_
                                refine ok_aload_n (q := 524) dL_law_523 rfl rfl ?_
                                refine ok_iload_n (q := 525) dL_law_524 rfl rfl ?_
                                refine ok_iconst (q := 526) (v := 3) dL_law_525 ci_3 rfl ?_
                                refine ok_iadd (q := 527) dL_law_526 rfl ?_
                                refine mm_ck (fun c225 => ?_)
                                refine ok_iald (q := 528) dL_law_527 k_a0 c225 rfl ?_
                                refine mm_ci (q := 531) (mt_X11_written G a1 (mm_i h a0 (mm_n (x3 + (1 : Int32)))) (mm_i h a0 (mm_n (x3 + (2 : Int32)))) (mm_i h a0 (mm_n (x3 + (3 : Int32)))) h k_a1) (mm_runV (as := [.int (mm_i h a0 (mm_n (x3 + (1 : Int32)))), .int (mm_i h a0 (mm_n (x3 + (2 : Int32)))), .int (mm_i h a0 (mm_n (x3 + (3 : Int32))))]) (st := []) cl_10 lk_L_law_X11_written_68 rfl dL_law_528 rfl (Nat.le_of_ble_eq_true rfl) k_a1) rfl (fun v228 h226 p227 => ?_)
                                have k229 : mm_kd h226 a0 = 20 := mm_kd_app p227 k_a0 (by decide)
                                have k230 : mm_kd h226 a1 = 10 := mm_kd_app p227 k_a1 (by decide)
                                have k231 : mm_kd h226 a2 = 11 := mm_kd_app p227 k_a2 (by decide)
                                refine ok_aload_n (q := 532) dL_law_531 rfl rfl ?_
                                refine ok_aload_n (q := 533) dL_law_532 rfl rfl ?_
                                refine ok_iload_n (q := 534) dL_law_533 rfl rfl ?_
                                refine ok_iconst (q := 535) (v := 1) dL_law_534 ci_1 rfl ?_
                                refine ok_iadd (q := 536) dL_law_535 rfl ?_
                                refine mm_ck (fun c232 => ?_)
                                refine ok_iald (q := 537) dL_law_536 k229 c232 rfl ?_
                                refine ok_aload_n (q := 538) dL_law_537 rfl rfl ?_
                                refine ok_iload_n (q := 539) dL_law_538 rfl rfl ?_
                                refine ok_iconst (q := 540) (v := 2) dL_law_539 ci_2 rfl ?_
                                refine ok_iadd (q := 541) dL_law_540 rfl ?_
                                refine mm_ck (fun c233 => ?_)
                                refine ok_iald (q := 542) dL_law_541 k229 c233 rfl ?_
                                refine ok_aload_n (q := 543) dL_law_542 rfl rfl ?_
                                refine ok_iload_n (q := 544) dL_law_543 rfl rfl ?_
                                refine ok_iconst (q := 545) (v := 3) dL_law_544 ci_3 rfl ?_
                                refine ok_iadd (q := 546) dL_law_545 rfl ?_
                                refine mm_ck (fun c234 => ?_)
                                refine ok_iald (q := 547) dL_law_546 k229 c234 rfl ?_
                                refine mm_ci (q := 550) (mt_X12_written G a2 (mm_i h226 a0 (mm_n (x3 + (1 : Int32)))) (mm_i h226 a0 (mm_n (x3 + (2 : Int32)))) (mm_i h226 a0 (mm_n (x3 + (3 : Int32)))) h226 k231) (mm_runV (as := [.int (mm_i h226 a0 (mm_n (x3 + (1 : Int32)))), .int (mm_i h226 a0 (mm_n (x3 + (2 : Int32)))), .int (mm_i h226 a0 (mm_n (x3 + (3 : Int32))))]) (st := [.int v228]) cl_11 lk_L_law_X12_written_72 rfl dL_law_547 rfl (Nat.le_of_ble_eq_true rfl) k231) rfl (fun v237 h235 p236 => ?_)
                                have k238 : mm_kd h235 a0 = 20 := mm_kd_app p236 k229 (by decide)
                                have k239 : mm_kd h235 a1 = 10 := mm_kd_app p236 k230 (by decide)
                                have k240 : mm_kd h235 a2 = 11 := mm_kd_app p236 k231 (by decide)
                                refine ok_icmp_eq (q := 553) (t := 710) dL_law_550 rfl rfl ?_ ?_
                                · exact oj_L_law_710 ih a0 a1 a2 x3 h235 k238 k239 k240
                                · refine ok_iconst (q := 554) (v := 0) dL_law_553 ci_0 rfl ?_
                                  exact ok_iret (t := .boolean) dL_law_554 rfl (by decide)
                              · refine mm_sp (fun c241 => ?_) (fun c241 => ?_)
                                · refine ok_tableIn (q := 555) dL_law_33 (by rw [c241]; decide) (by rw [c241]; decide) (by rw [c241]; rfl) rfl ?_
                                  refine ok_aload_n (q := 556) dL_law_555 rfl rfl ?_
                                  refine ok_aload_n (q := 557) dL_law_556 rfl rfl ?_
                                  refine ok_iload_n (q := 558) dL_law_557 rfl rfl ?_
                                  refine ok_iconst (q := 559) (v := 1) dL_law_558 ci_1 rfl ?_
                                  refine ok_iadd (q := 560) dL_law_559 rfl ?_
                                  refine mm_ck (fun c242 => ?_)
                                  refine ok_iald (q := 561) dL_law_560 k_a0 c242 rfl ?_
                                  refine ok_aload_n (q := 562) dL_law_561 rfl rfl ?_
                                  refine ok_iload_n (q := 563) dL_law_562 rfl rfl ?_
                                  refine ok_iconst (q := 564) (v := 2) dL_law_563 ci_2 rfl ?_
                                  refine ok_iadd (q := 565) dL_law_564 rfl ?_
                                  refine mm_ck (fun c243 => ?_)
                                  refine ok_iald (q := 566) dL_law_565 k_a0 c243 rfl ?_
                                  refine mm_ci (q := 569) (mt_X11_given G a1 (mm_i h a0 (mm_n (x3 + (1 : Int32)))) (mm_i h a0 (mm_n (x3 + (2 : Int32)))) h k_a1) (mm_runV (as := [.int (mm_i h a0 (mm_n (x3 + (1 : Int32)))), .int (mm_i h a0 (mm_n (x3 + (2 : Int32))))]) (st := []) cl_10 lk_L_law_X11_given_73 rfl dL_law_566 rfl (Nat.le_of_ble_eq_true rfl) k_a1) rfl (fun v246 h244 p245 => ?_)
                                  have k247 : mm_kd h244 a0 = 20 := mm_kd_app p245 k_a0 (by decide)
                                  have k248 : mm_kd h244 a1 = 10 := mm_kd_app p245 k_a1 (by decide)
                                  have k249 : mm_kd h244 a2 = 11 := mm_kd_app p245 k_a2 (by decide)
                                  refine ok_aload_n (q := 570) dL_law_569 rfl rfl ?_
                                  refine ok_aload_n (q := 571) dL_law_570 rfl rfl ?_
                                  refine ok_iload_n (q := 572) dL_law_571 rfl rfl ?_
                                  refine ok_iconst (q := 573) (v := 1) dL_law_572 ci_1 rfl ?_
                                  refine ok_iadd (q := 574) dL_law_573 rfl ?_
                                  refine mm_ck (fun c250 => ?_)
                                  refine ok_iald (q := 575) dL_law_574 k247 c250 rfl ?_
                                  refine ok_aload_n (q := 576) dL_law_575 rfl rfl ?_
                                  refine ok_iload_n (q := 577) dL_law_576 rfl rfl ?_
                                  refine ok_iconst (q := 578) (v := 2) dL_law_577 ci_2 rfl ?_
                                  refine ok_iadd (q := 579) dL_law_578 rfl ?_
                                  refine mm_ck (fun c251 => ?_)
                                  refine ok_iald (q := 580) dL_law_579 k247 c251 rfl ?_
                                  refine mm_ci (q := 583) (mt_X12_given G a2 (mm_i h244 a0 (mm_n (x3 + (1 : Int32)))) (mm_i h244 a0 (mm_n (x3 + (2 : Int32)))) h244 k249) (mm_runV (as := [.int (mm_i h244 a0 (mm_n (x3 + (1 : Int32)))), .int (mm_i h244 a0 (mm_n (x3 + (2 : Int32))))]) (st := [.int v246]) cl_11 lk_L_law_X12_given_76 rfl dL_law_580 rfl (Nat.le_of_ble_eq_true rfl) k249) rfl (fun v254 h252 p253 => ?_)
                                  have k255 : mm_kd h252 a0 = 20 := mm_kd_app p253 k247 (by decide)
                                  have k256 : mm_kd h252 a1 = 10 := mm_kd_app p253 k248 (by decide)
                                  have k257 : mm_kd h252 a2 = 11 := mm_kd_app p253 k249 (by decide)
                                  refine ok_icmp_eq (q := 586) (t := 710) dL_law_583 rfl rfl ?_ ?_
                                  · exact oj_L_law_710 ih a0 a1 a2 x3 h252 k255 k256 k257
                                  · refine ok_iconst (q := 587) (v := 0) dL_law_586 ci_0 rfl ?_
                                    exact ok_iret (t := .boolean) dL_law_587 rfl (by decide)
                                · refine mm_sp (fun c258 => ?_) (fun c258 => ?_)
                                  · refine ok_tableIn (q := 588) dL_law_33 (by rw [c258]; decide) (by rw [c258]; decide) (by rw [c258]; rfl) rfl ?_
                                    refine ok_aload_n (q := 589) dL_law_588 rfl rfl ?_
                                    refine ok_aload_n (q := 590) dL_law_589 rfl rfl ?_
                                    refine ok_iload_n (q := 591) dL_law_590 rfl rfl ?_
                                    refine ok_iconst (q := 592) (v := 1) dL_law_591 ci_1 rfl ?_
                                    refine ok_iadd (q := 593) dL_law_592 rfl ?_
                                    refine mm_ck (fun c259 => ?_)
                                    refine ok_iald (q := 594) dL_law_593 k_a0 c259 rfl ?_
                                    refine ok_aload_n (q := 595) dL_law_594 rfl rfl ?_
                                    refine ok_iload_n (q := 596) dL_law_595 rfl rfl ?_
                                    refine ok_iconst (q := 597) (v := 2) dL_law_596 ci_2 rfl ?_
                                    refine ok_iadd (q := 598) dL_law_597 rfl ?_
                                    refine mm_ck (fun c260 => ?_)
                                    refine ok_iald (q := 599) dL_law_598 k_a0 c260 rfl ?_
                                    refine ok_aload_n (q := 600) dL_law_599 rfl rfl ?_
                                    refine ok_iload_n (q := 601) dL_law_600 rfl rfl ?_
                                    refine ok_iconst (q := 602) (v := 3) dL_law_601 ci_3 rfl ?_
                                    refine ok_iadd (q := 603) dL_law_602 rfl ?_
                                    refine mm_ck (fun c261 => ?_)
                                    refine ok_iald (q := 604) dL_law_603 k_a0 c261 rfl ?_
                                    refine mm_ci (q := 607) (mt_X11_secret G a1 (mm_i h a0 (mm_n (x3 + (1 : Int32)))) (mm_i h a0 (mm_n (x3 + (2 : Int32)))) (mm_i h a0 (mm_n (x3 + (3 : Int32)))) h k_a1) (mm_runV (as := [.int (mm_i h a0 (mm_n (x3 + (1 : Int32)))), .int (mm_i h a0 (mm_n (x3 + (2 : Int32)))), .int (mm_i h a0 (mm_n (x3 + (3 : Int32))))]) (st := []) cl_10 lk_L_law_X11_secret_77 rfl dL_law_604 rfl (Nat.le_of_ble_eq_true rfl) k_a1) rfl (fun v264 h262 p263 => ?_)
                                    have k265 : mm_kd h262 a0 = 20 := mm_kd_app p263 k_a0 (by decide)
                                    have k266 : mm_kd h262 a1 = 10 := mm_kd_app p263 k_a1 (by decide)
                                    have k267 : mm_kd h262 a2 = 11 := mm_kd_app p263 k_a2 (by decide)
                                    refine ok_aload_n (q := 608) dL_law_607 rfl rfl ?_
                                    refine ok_aload_n (q := 609) dL_law_608 rfl rfl ?_
                                    refine ok_iload_n (q := 610) dL_law_609 rfl rfl ?_
                                    refine ok_iconst (q := 611) (v := 1) dL_law_610 ci_1 rfl ?_
                                    refine ok_iadd (q := 612) dL_law_611 rfl ?_
                                    refine mm_ck (fun c268 => ?_)
                                    refine ok_iald (q := 613) dL_law_612 k265 c268 rfl ?_
                                    refine ok_aload_n (q := 614) dL_law_613 rfl rfl ?_
                                    refine ok_iload_n (q := 615) dL_law_614 rfl rfl ?_
                                    refine ok_iconst (q := 616) (v := 2) dL_law_615 ci_2 rfl ?_
                                    refine ok_iadd (q := 617) dL_law_616 rfl ?_
                                    refine mm_ck (fun c269 => ?_)
                                    refine ok_iald (q := 618) dL_law_617 k265 c269 rfl ?_
                                    refine ok_aload_n (q := 619) dL_law_618 rfl rfl ?_
                                    refine ok_iload_n (q := 620) dL_law_619 rfl rfl ?_
                                    refine ok_iconst (q := 621) (v := 3) dL_law_620 ci_3 rfl ?_
                                    refine ok_iadd (q := 622) dL_law_621 rfl ?_
                                    refine mm_ck (fun c270 => ?_)
                                    refine ok_iald (q := 623) dL_law_622 k265 c270 rfl ?_
                                    refine mm_ci (q := 626) (mt_X12_secret G a2 (mm_i h262 a0 (mm_n (x3 + (1 : Int32)))) (mm_i h262 a0 (mm_n (x3 + (2 : Int32)))) (mm_i h262 a0 (mm_n (x3 + (3 : Int32)))) h262 k267) (mm_runV (as := [.int (mm_i h262 a0 (mm_n (x3 + (1 : Int32)))), .int (mm_i h262 a0 (mm_n (x3 + (2 : Int32)))), .int (mm_i h262 a0 (mm_n (x3 + (3 : Int32))))]) (st := [.int v264]) cl_11 lk_L_law_X12_secret_80 rfl dL_law_623 rfl (Nat.le_of_ble_eq_true rfl) k267) rfl (fun v273 h271 p272 => ?_)
                                    have k274 : mm_kd h271 a0 = 20 := mm_kd_app p272 k265 (by decide)
                                    have k275 : mm_kd h271 a1 = 10 := mm_kd_app p272 k266 (by decide)
                                    have k276 : mm_kd h271 a2 = 11 := mm_kd_app p272 k267 (by decide)
                                    refine ok_icmp_eq (q := 629) (t := 710) dL_law_626 rfl rfl ?_ ?_
                                    · exact oj_L_law_710 ih a0 a1 a2 x3 h271 k274 k275 k276
                                    · refine ok_iconst (q := 630) (v := 0) dL_law_629 ci_0 rfl ?_
                                      exact ok_iret (t := .boolean) dL_law_630 rfl (by decide)
                                  · refine mm_sp (fun c277 => ?_) (fun c277 => ?_)
                                    · refine ok_tableIn (q := 631) dL_law_33 (by rw [c277]; decide) (by rw [c277]; decide) (by rw [c277]; rfl) rfl ?_
                                      refine ok_aload_n (q := 632) dL_law_631 rfl rfl ?_
                                      refine ok_aload_n (q := 633) dL_law_632 rfl rfl ?_
                                      refine ok_iload_n (q := 634) dL_law_633 rfl rfl ?_
                                      refine ok_iconst (q := 635) (v := 1) dL_law_634 ci_1 rfl ?_
                                      refine ok_iadd (q := 636) dL_law_635 rfl ?_
                                      refine mm_ck (fun c278 => ?_)
                                      refine ok_iald (q := 637) dL_law_636 k_a0 c278 rfl ?_
                                      refine ok_aload_n (q := 638) dL_law_637 rfl rfl ?_
                                      refine ok_iload_n (q := 639) dL_law_638 rfl rfl ?_
                                      refine ok_iconst (q := 640) (v := 2) dL_law_639 ci_2 rfl ?_
                                      refine ok_iadd (q := 641) dL_law_640 rfl ?_
                                      refine mm_ck (fun c279 => ?_)
                                      refine ok_iald (q := 642) dL_law_641 k_a0 c279 rfl ?_
                                      refine mm_ci (q := 645) (mt_X11_state G a1 (mm_i h a0 (mm_n (x3 + (1 : Int32)))) (mm_i h a0 (mm_n (x3 + (2 : Int32)))) h k_a1) (mm_runV (as := [.int (mm_i h a0 (mm_n (x3 + (1 : Int32)))), .int (mm_i h a0 (mm_n (x3 + (2 : Int32))))]) (st := []) cl_10 lk_L_law_X11_state_81 rfl dL_law_642 rfl (Nat.le_of_ble_eq_true rfl) k_a1) rfl (fun v282 h280 p281 => ?_)
                                      have k283 : mm_kd h280 a0 = 20 := mm_kd_app p281 k_a0 (by decide)
                                      have k284 : mm_kd h280 a1 = 10 := mm_kd_app p281 k_a1 (by decide)
                                      have k285 : mm_kd h280 a2 = 11 := mm_kd_app p281 k_a2 (by decide)
                                      refine ok_aload_n (q := 646) dL_law_645 rfl rfl ?_
                                      refine ok_aload_n (q := 647) dL_law_646 rfl rfl ?_
                                      refine ok_iload_n (q := 648) dL_law_647 rfl rfl ?_
                                      refine ok_iconst (q := 649) (v := 1) dL_law_648 ci_1 rfl ?_
                                      refine ok_iadd (q := 650) dL_law_649 rfl ?_
                                      refine mm_ck (fun c286 => ?_)
                                      refine ok_iald (q := 651) dL_law_650 k283 c286 rfl ?_
                                      refine ok_aload_n (q := 652) dL_law_651 rfl rfl ?_
                                      refine ok_iload_n (q := 653) dL_law_652 rfl rfl ?_
                                      refine ok_iconst (q := 654) (v := 2) dL_law_653 ci_2 rfl ?_
                                      refine ok_iadd (q := 655) dL_law_654 rfl ?_
                                      refine mm_ck (fun c287 => ?_)
                                      refine ok_iald (q := 656) dL_law_655 k283 c287 rfl ?_
                                      refine mm_ci (q := 659) (mt_X12_state G a2 (mm_i h280 a0 (mm_n (x3 + (1 : Int32)))) (mm_i h280 a0 (mm_n (x3 + (2 : Int32)))) h280 k285) (mm_runV (as := [.int (mm_i h280 a0 (mm_n (x3 + (1 : Int32)))), .int (mm_i h280 a0 (mm_n (x3 + (2 : Int32))))]) (st := [.int v282]) cl_11 lk_L_law_X12_state_84 rfl dL_law_656 rfl (Nat.le_of_ble_eq_true rfl) k285) rfl (fun v290 h288 p289 => ?_)
                                      have k291 : mm_kd h288 a0 = 20 := mm_kd_app p289 k283 (by decide)
                                      have k292 : mm_kd h288 a1 = 10 := mm_kd_app p289 k284 (by decide)
                                      have k293 : mm_kd h288 a2 = 11 := mm_kd_app p289 k285 (by decide)
                                      refine ok_icmp_eq (q := 662) (t := 710) dL_law_659 rfl rfl ?_ ?_
                                      · exact oj_L_law_710 ih a0 a1 a2 x3 h288 k291 k292 k293
                                      · refine ok_iconst (q := 663) (v := 0) dL_law_662 ci_0 rfl ?_
                                        exact ok_iret (t := .boolean) dL_law_663 rfl (by decide)
                                    · refine mm_sp (fun c294 => ?_) (fun c294 => ?_)
                                      · refine ok_tableIn (q := 664) dL_law_33 (by rw [c294]; decide) (by rw [c294]; decide) (by rw [c294]; rfl) rfl ?_
                                        refine ok_aload_n (q := 665) dL_law_664 rfl rfl ?_
                                        refine ok_aload_n (q := 666) dL_law_665 rfl rfl ?_
                                        refine ok_iload_n (q := 667) dL_law_666 rfl rfl ?_
                                        refine ok_iconst (q := 668) (v := 1) dL_law_667 ci_1 rfl ?_
                                        refine ok_iadd (q := 669) dL_law_668 rfl ?_
                                        refine mm_ck (fun c295 => ?_)
                                        refine ok_iald (q := 670) dL_law_669 k_a0 c295 rfl ?_
                                        refine mm_ci (q := 673) (mt_X11_hash G a1 (mm_i h a0 (mm_n (x3 + (1 : Int32)))) h k_a1) (mm_runV (as := [.int (mm_i h a0 (mm_n (x3 + (1 : Int32))))]) (st := []) cl_10 lk_L_law_X11_hash_85 rfl dL_law_670 rfl (Nat.le_of_ble_eq_true rfl) k_a1) rfl (fun v298 h296 p297 => ?_)
                                        have k299 : mm_kd h296 a0 = 20 := mm_kd_app p297 k_a0 (by decide)
                                        have k300 : mm_kd h296 a1 = 10 := mm_kd_app p297 k_a1 (by decide)
                                        have k301 : mm_kd h296 a2 = 11 := mm_kd_app p297 k_a2 (by decide)
                                        refine ok_aload_n (q := 674) dL_law_673 rfl rfl ?_
                                        refine ok_aload_n (q := 675) dL_law_674 rfl rfl ?_
                                        refine ok_iload_n (q := 676) dL_law_675 rfl rfl ?_
                                        refine ok_iconst (q := 677) (v := 1) dL_law_676 ci_1 rfl ?_
                                        refine ok_iadd (q := 678) dL_law_677 rfl ?_
                                        refine mm_ck (fun c302 => ?_)
                                        refine ok_iald (q := 679) dL_law_678 k299 c302 rfl ?_
                                        refine mm_ci (q := 682) (mt_X12_hash G a2 (mm_i h296 a0 (mm_n (x3 + (1 : Int32)))) h296 k301) (mm_runV (as := [.int (mm_i h296 a0 (mm_n (x3 + (1 : Int32))))]) (st := [.int v298]) cl_11 lk_L_law_X12_hash_88 rfl dL_law_679 rfl (Nat.le_of_ble_eq_true rfl) k301) rfl (fun v305 h303 p304 => ?_)
                                        have k306 : mm_kd h303 a0 = 20 := mm_kd_app p304 k299 (by decide)
                                        have k307 : mm_kd h303 a1 = 10 := mm_kd_app p304 k300 (by decide)
                                        have k308 : mm_kd h303 a2 = 11 := mm_kd_app p304 k301 (by decide)
                                        refine ok_icmp_eq (q := 685) (t := 710) dL_law_682 rfl rfl ?_ ?_
                                        · exact oj_L_law_710 ih a0 a1 a2 x3 h303 k306 k307 k308
                                        · refine ok_iconst (q := 686) (v := 0) dL_law_685 ci_0 rfl ?_
                                          exact ok_iret (t := .boolean) dL_law_686 rfl (by decide)
                                      · refine mm_sp (fun c309 => ?_) (fun c309 => ?_)
                                        · refine ok_tableIn (q := 687) dL_law_33 (by rw [c309]; decide) (by rw [c309]; decide) (by rw [c309]; rfl) rfl ?_
                                          refine ok_aload_n (q := 688) dL_law_687 rfl rfl ?_
                                          refine ok_aload_n (q := 689) dL_law_688 rfl rfl ?_
                                          refine ok_iload_n (q := 690) dL_law_689 rfl rfl ?_
                                          refine ok_iconst (q := 691) (v := 1) dL_law_690 ci_1 rfl ?_
                                          refine ok_iadd (q := 692) dL_law_691 rfl ?_
                                          refine mm_ck (fun c310 => ?_)
                                          refine ok_iald (q := 693) dL_law_692 k_a0 c310 rfl ?_
                                          refine mm_ci (q := 696) (mt_X11_about G a1 (mm_i h a0 (mm_n (x3 + (1 : Int32)))) h k_a1) (mm_runV (as := [.int (mm_i h a0 (mm_n (x3 + (1 : Int32))))]) (st := []) cl_10 lk_L_law_X11_about_89 rfl dL_law_693 rfl (Nat.le_of_ble_eq_true rfl) k_a1) rfl (fun v313 h311 p312 => ?_)
                                          have k314 : mm_kd h311 a0 = 20 := mm_kd_app p312 k_a0 (by decide)
                                          have k315 : mm_kd h311 a1 = 10 := mm_kd_app p312 k_a1 (by decide)
                                          have k316 : mm_kd h311 a2 = 11 := mm_kd_app p312 k_a2 (by decide)
                                          refine ok_aload_n (q := 697) dL_law_696 rfl rfl ?_
                                          refine ok_aload_n (q := 698) dL_law_697 rfl rfl ?_
                                          refine ok_iload_n (q := 699) dL_law_698 rfl rfl ?_
                                          refine ok_iconst (q := 700) (v := 1) dL_law_699 ci_1 rfl ?_
                                          refine ok_iadd (q := 701) dL_law_700 rfl ?_
                                          refine mm_ck (fun c317 => ?_)
                                          refine ok_iald (q := 702) dL_law_701 k314 c317 rfl ?_
                                          refine mm_ci (q := 705) (mt_X12_about G a2 (mm_i h311 a0 (mm_n (x3 + (1 : Int32)))) h311 k316) (mm_runV (as := [.int (mm_i h311 a0 (mm_n (x3 + (1 : Int32))))]) (st := [.int v313]) cl_11 lk_L_law_X12_about_92 rfl dL_law_702 rfl (Nat.le_of_ble_eq_true rfl) k316) rfl (fun v320 h318 p319 => ?_)
                                          have k321 : mm_kd h318 a0 = 20 := mm_kd_app p319 k314 (by decide)
                                          have k322 : mm_kd h318 a1 = 10 := mm_kd_app p319 k315 (by decide)
                                          have k323 : mm_kd h318 a2 = 11 := mm_kd_app p319 k316 (by decide)
                                          refine ok_icmp_eq (q := 708) (t := 710) dL_law_705 rfl rfl ?_ ?_
                                          · exact oj_L_law_710 ih a0 a1 a2 x3 h318 k321 k322 k323
                                          · refine ok_iconst (q := 709) (v := 0) dL_law_708 ci_0 rfl ?_
                                            exact ok_iret (t := .boolean) dL_law_709 rfl (by decide)
                                        · have tc22 := lv_neT c22 (by decide : (0 : Int32).toInt = 0)
                                          have tc45 := lv_neT c45 (by decide : (1 : Int32).toInt = 1)
                                          have tc60 := lv_neT c60 (by decide : (2 : Int32).toInt = 2)
                                          have tc75 := lv_neT c75 (by decide : (3 : Int32).toInt = 3)
                                          have tc92 := lv_neT c92 (by decide : (4 : Int32).toInt = 4)
                                          have tc107 := lv_neT c107 (by decide : (5 : Int32).toInt = 5)
                                          have tc122 := lv_neT c122 (by decide : (6 : Int32).toInt = 6)
                                          have tc139 := lv_neT c139 (by decide : (7 : Int32).toInt = 7)
                                          have tc154 := lv_neT c154 (by decide : (8 : Int32).toInt = 8)
                                          have tc171 := lv_neT c171 (by decide : (9 : Int32).toInt = 9)
                                          have tc186 := lv_neT c186 (by decide : (10 : Int32).toInt = 10)
                                          have tc203 := lv_neT c203 (by decide : (11 : Int32).toInt = 11)
                                          have tc222 := lv_neT c222 (by decide : (12 : Int32).toInt = 12)
                                          have tc241 := lv_neT c241 (by decide : (13 : Int32).toInt = 13)
                                          have tc258 := lv_neT c258 (by decide : (14 : Int32).toInt = 14)
                                          have tc277 := lv_neT c277 (by decide : (15 : Int32).toInt = 15)
                                          have tc294 := lv_neT c294 (by decide : (16 : Int32).toInt = 16)
                                          have tc309 := lv_neT c309 (by decide : (17 : Int32).toInt = 17)
                                          refine ok_tableOut (q := 710) dL_law_33 (by omega) rfl ?_
                                          exact oj_L_law_710 ih a0 a1 a2 x3 h k_a0 k_a1 k_a2
def bd_L_law (a0 : Nat) (h : mm_H) : mm_O := mm_nw h 10 4 (fun b1 h2 =>
  mm_qv (bd_X11_init b1 h2) (fun h6 =>
  mm_nw h6 11 66 (fun b10 h11 =>
  mm_qv (bd_X12_init b10 h11) (fun h16 =>
  lp_L_law_18  mm_fu a0 b1 b10 0 h16))))
set_option maxHeartbeats 4000000 in
set_option maxRecDepth 100000 in
theorem oc_L_law {G : mm_G} (a0 : Nat) (h : mm_H) (k_a0 : mm_kd h a0 = 20) : mm_Ok G my_L_law 0 [.ref a0, mm_U, mm_U, mm_U] [] h (bd_L_law a0 h) := by
  unfold bd_L_law
  refine ok_new cl_10 (q := 3) dL_law_0 wd_99 wd_100 wd_81 tf_10 rfl (fun hk => nw_ok hk (fun b1 h2 p3 k4 => ?_))
  have k5 : mm_kd h2 a0 = 20 := mm_kd_app p3 k_a0 (by decide)
  refine ok_dup (q := 4) dL_law_3 rfl rfl ?_
  refine mm_cv (q := 7) (mt_X11_init G b1 h2 k4) (mm_runI (as := []) (st := [.ref b1]) (a := b1) lk_L_law_X11_init_9 dL_law_4 rfl (Nat.le_of_ble_eq_true rfl)) rfl (fun h6 p7 => ?_)
  have k8 : mm_kd h6 a0 = 20 := mm_kd_app p7 k5 (by decide)
  have k9 : mm_kd h6 b1 = 10 := mm_kd_app p7 k4 (by decide)
  refine ok_astore_n (q := 8) (ls' := [.ref a0, .ref b1, mm_U, mm_U]) dL_law_7 (Nat.le_of_ble_eq_true rfl) rfl rfl ?_
  refine ok_new cl_11 (q := 11) dL_law_8 wd_957 wd_958 wd_93 tf_11 rfl (fun hk => nw_ok hk (fun b10 h11 p12 k13 => ?_))
  have k14 : mm_kd h11 a0 = 20 := mm_kd_app p12 k8 (by decide)
  have k15 : mm_kd h11 b1 = 10 := mm_kd_app p12 k9 (by decide)
  refine ok_dup (q := 12) dL_law_11 rfl rfl ?_
  refine mm_cv (q := 15) (mt_X12_init G b10 h11 k13) (mm_runI (as := []) (st := [.ref b10]) (a := b10) lk_L_law_X12_init_12 dL_law_12 rfl (Nat.le_of_ble_eq_true rfl)) rfl (fun h16 p17 => ?_)
  have k18 : mm_kd h16 a0 = 20 := mm_kd_app p17 k14 (by decide)
  have k19 : mm_kd h16 b1 = 10 := mm_kd_app p17 k15 (by decide)
  have k20 : mm_kd h16 b10 = 11 := mm_kd_app p17 k13 (by decide)
  refine ok_astore_n (q := 16) (ls' := [.ref a0, .ref b1, .ref b10, mm_U]) dL_law_15 (Nat.le_of_ble_eq_true rfl) rfl rfl ?_
  refine ok_iconst (q := 17) (v := 0) dL_law_16 ci_0 rfl ?_
  refine ok_istore_n (q := 18) (ls' := [.ref a0, .ref b1, .ref b10, .int 0]) dL_law_17 (Nat.le_of_ble_eq_true rfl) rfl rfl ?_
  refine ol_L_law_18  mm_fu a0 b1 b10 0 h16 k18 k19 k20
