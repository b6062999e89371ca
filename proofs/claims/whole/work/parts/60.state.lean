/-! ===== the class's state: rows as lists (M), fields (I), piles' references (P) ===== -/
def sk_rl : List (Nat × List (Option Nat)) := [(32, [some 33, some 81, some 35, none]), (33, [some 34, none]), (35, [some 36, some 39, some 52, some 65, some 67, some 69, some 71, some 73, some 75, some 77, some 79]), (36, [some 37, some 38]), (39, [some 36, some 40, some 42, some 44, some 46, some 48, some 50]), (40, [some 41, none]), (42, [some 43, none]), (44, [some 45, none]), (46, [some 47, none]), (48, [some 49, none]), (50, [some 51, none]), (52, [some 53, some 57, some 58, some 59, some 61, some 63]), (53, [some 54, some 55, some 56]), (59, [some 60, none]), (61, [some 62, none]), (63, [some 64, none]), (65, [some 66, none]), (67, [some 68, none]), (69, [some 70, none]), (71, [some 72, none]), (73, [some 74, none]), (75, [some 76, none]), (77, [some 78, none]), (79, [some 80, none]), (81, [some 82, some 184, some 286, some 388]), (82, [some 83, some 149, some 151, some 158, none, none, some 35, some 165, some 176, some 178, some 180, some 182, none, none, none, none, none, none]), (83, [some 84, none]), (85, [some 86, none]), (87, [some 88, none]), (89, [some 90, none]), (91, [some 92, none]), (93, [some 94, none]), (95, [some 96, none]), (97, [some 98, none]), (99, [some 100, none]), (101, [some 102, none]), (103, [some 104, none]), (105, [some 106, none]), (107, [some 108, none]), (109, [some 110, none]), (111, [some 112, none]), (113, [some 114, none]), (115, [some 116, none]), (117, [some 118, none]), (119, [some 120, none]), (121, [some 122, none]), (123, [some 124, none]), (125, [some 126, none]), (127, [some 128, none]), (129, [some 130, none]), (131, [some 132, none]), (133, [some 134, none]), (135, [some 136, none]), (137, [some 138, none]), (139, [some 140, none]), (141, [some 142, none]), (143, [some 144, none]), (145, [some 146, none]), (147, [some 148, none]), (149, [some 150, none]), (151, [some 152, some 154, some 156, none, none]), (152, [some 153, none]), (154, [some 155, none]), (156, [some 157, none]), (158, [some 159, some 161, some 163, none, none]), (159, [some 160, none]), (161, [some 162, none]), (163, [some 164, none]), (165, [some 166, some 168, some 170, some 39, some 172, some 174]), (166, [some 167, none]), (168, [some 169, none]), (170, [some 171, none]), (172, [some 173, none]), (174, [some 175, none]), (176, [some 177, none]), (178, [some 179, none]), (180, [some 181, none]), (182, [some 183, none]), (184, [some 185, some 251, some 253, some 260, none, none, some 35, some 267, some 278, some 280, some 282, some 284, none, none, none, none, none, none]), (185, [some 186, none]), (187, [some 188, none]), (189, [some 190, none]), (191, [some 192, none]), (193, [some 194, none]), (195, [some 196, none]), (197, [some 198, none]), (199, [some 200, none]), (201, [some 202, none]), (203, [some 204, none]), (205, [some 206, none]), (207, [some 208, none]), (209, [some 210, none]), (211, [some 212, none]), (213, [some 214, none]), (215, [some 216, none]), (217, [some 218, none]), (219, [some 220, none]), (221, [some 222, none]), (223, [some 224, none]), (225, [some 226, none]), (227, [some 228, none]), (229, [some 230, none]), (231, [some 232, none]), (233, [some 234, none]), (235, [some 236, none]), (237, [some 238, none]), (239, [some 240, none]), (241, [some 242, none]), (243, [some 244, none]), (245, [some 246, none]), (247, [some 248, none]), (249, [some 250, none]), (251, [some 252, none]), (253, [some 254, some 256, some 258, none, none]), (254, [some 255, none]), (256, [some 257, none]), (258, [some 259, none]), (260, [some 261, some 263, some 265, none, none]), (261, [some 262, none]), (263, [some 264, none]), (265, [some 266, none]), (267, [some 268, some 270, some 272, some 39, some 274, some 276]), (268, [some 269, none]), (270, [some 271, none]), (272, [some 273, none]), (274, [some 275, none]), (276, [some 277, none]), (278, [some 279, none]), (280, [some 281, none]), (282, [some 283, none]), (284, [some 285, none]), (286, [some 287, some 353, some 355, some 362, none, none, some 35, some 369, some 380, some 382, some 384, some 386, none, none, none, none, none, none]), (287, [some 288, none]), (289, [some 290, none]), (291, [some 292, none]), (293, [some 294, none]), (295, [some 296, none]), (297, [some 298, none]), (299, [some 300, none]), (301, [some 302, none]), (303, [some 304, none]), (305, [some 306, none]), (307, [some 308, none]), (309, [some 310, none]), (311, [some 312, none]), (313, [some 314, none]), (315, [some 316, none]), (317, [some 318, none]), (319, [some 320, none]), (321, [some 322, none]), (323, [some 324, none]), (325, [some 326, none]), (327, [some 328, none]), (329, [some 330, none]), (331, [some 332, none]), (333, [some 334, none]), (335, [some 336, none]), (337, [some 338, none]), (339, [some 340, none]), (341, [some 342, none]), (343, [some 344, none]), (345, [some 346, none]), (347, [some 348, none]), (349, [some 350, none]), (351, [some 352, none]), (353, [some 354, none]), (355, [some 356, some 358, some 360, none, none]), (356, [some 357, none]), (358, [some 359, none]), (360, [some 361, none]), (362, [some 363, some 365, some 367, none, none]), (363, [some 364, none]), (365, [some 366, none]), (367, [some 368, none]), (369, [some 370, some 372, some 374, some 39, some 376, some 378]), (370, [some 371, none]), (372, [some 373, none]), (374, [some 375, none]), (376, [some 377, none]), (378, [some 379, none]), (380, [some 381, none]), (382, [some 383, none]), (384, [some 385, none]), (386, [some 387, none]), (388, [some 389, some 455, some 457, some 464, none, none, some 35, some 471, some 482, some 484, some 486, some 488, none, none, none, none, none, none]), (389, [some 390, none]), (391, [some 392, none]), (393, [some 394, none]), (395, [some 396, none]), (397, [some 398, none]), (399, [some 400, none]), (401, [some 402, none]), (403, [some 404, none]), (405, [some 406, none]), (407, [some 408, none]), (409, [some 410, none]), (411, [some 412, none]), (413, [some 414, none]), (415, [some 416, none]), (417, [some 418, none]), (419, [some 420, none]), (421, [some 422, none]), (423, [some 424, none]), (425, [some 426, none]), (427, [some 428, none]), (429, [some 430, none]), (431, [some 432, none]), (433, [some 434, none]), (435, [some 436, none]), (437, [some 438, none]), (439, [some 440, none]), (441, [some 442, none]), (443, [some 444, none]), (445, [some 446, none]), (447, [some 448, none]), (449, [some 450, none]), (451, [some 452, none]), (453, [some 454, none]), (455, [some 456, none]), (457, [some 458, some 460, some 462, none, none]), (458, [some 459, none]), (460, [some 461, none]), (462, [some 463, none]), (464, [some 465, some 467, some 469, none, none]), (465, [some 466, none]), (467, [some 468, none]), (469, [some 470, none]), (471, [some 472, some 474, some 476, some 39, some 478, some 480]), (472, [some 473, none]), (474, [some 475, none]), (476, [some 477, none]), (478, [some 479, none]), (480, [some 481, none]), (482, [some 483, none]), (484, [some 485, none]), (486, [some 487, none]), (488, [some 489, none]), (490, [some 491, none, none, some 492, some 493, some 494, some 495, some 496, some 497, some 498, some 499, some 500, some 501, some 502, some 503, some 504, some 505, some 506, some 507, some 508, some 509, some 510, some 511, some 512, some 513, some 514, some 515, some 516, some 517, some 518, some 519, some 520, some 521, some 522, some 523, some 524, some 525, none, some 526, some 527, some 528, some 529, some 530, some 531, some 532, some 533, some 534, some 535, some 536, some 537, some 538, some 539, some 540, some 541, some 542, some 543, some 544, some 545, none, some 546, some 547, none, none, none, none, some 548])]
def sk_ref (a k : Nat) : Option Nat := match sk_rl.find? (fun q => q.1 == a) with | some q => q.2.getD k none | none => none
/-- objects whose references never change -/
def sk_fx (a : Nat) : Bool := (sk_rl.find? (fun q => q.1 == a)).isSome
def sk_kz (a : Nat) : Nat := ((sk_sh 0).getD a (99, 0)).1
def sk_cap (r : Nat) : Nat := ((sk_sh 0).getD (r + 1) (99, 0)).2
/-- rows and ints nobody looks at between calls -/
abbrev sk_S : List Nat := [44, 46, 48, 50, 59, 61, 63, 172, 174, 274, 276, 376, 378, 478, 480]
/-- a row that is looked at -/
def sk_row (r : Nat) : Bool := sk_kz r == 5 && !(sk_S.contains r)
/-- where fields are looked at -/
def sk_ob (a : Nat) : Bool := (a == 0 || decide (32 ≤ a)) && !(sk_ish a) && !(sk_X.contains a)
def sk_pa (a : Nat) : Bool := a == 84 || a == 186 || a == 288 || a == 390
def cR (L : Nat) (h : mm_H) (M : Nat → List Int32) (I : Nat → Nat → Int32) (P : Nat → Nat → Option Nat) : Prop :=
  sk_T L h ∧ (∀ a k, sk_fx a = true → mm_r h a k = sk_ref a k) ∧ (∃ M0, rr_M h M0 ∧ ∀ r, r ∉ sk_S → M0 r = M r) ∧ (∀ a, sk_ob a = true → h.2.1 a = I a) ∧ (∀ a, sk_pa a = true → h.2.2.2 a = P a)
/-- a run that ends, and what holds there -/
def tr (o : mm_O) (Q : Option Value → mm_H → Prop) : Prop := ∃ v h', o = some (v, h') ∧ Q v h'
theorem tr_mk {v : Option Value} {h : mm_H} {Q : Option Value → mm_H → Prop} (q : Q v h) : tr (some (v, h)) Q := ⟨v, h, rfl, q⟩
theorem tr_qv {o : mm_O} {f : mm_H → mm_O} {Q R : Option Value → mm_H → Prop} (t : tr o R) (K : ∀ v h', R v h' → v = none ∧ tr (f h') Q) : tr (mm_qv o f) Q := by
  obtain ⟨v, h', e, q⟩ := t
  obtain ⟨e2, t2⟩ := K v h' q
  subst e2
  rw [e, mm_qv_s]; exact t2
theorem tr_qi {o : mm_O} {f : Int32 → mm_H → mm_O} {Q R : Option Value → mm_H → Prop} (t : tr o R) (K : ∀ v h', R v h' → ∃ x, v = some (.int x) ∧ tr (f x h') Q) : tr (mm_qi o f) Q := by
  obtain ⟨v, h', e, q⟩ := t
  obtain ⟨x, e2, t2⟩ := K v h' q
  subst e2
  rw [e, mm_qi_s]; exact t2
theorem tr_gr {h : mm_H} {a k b : Nat} {f : Nat → mm_O} {Q : Option Value → mm_H → Prop} (e : mm_r h a k = some b) (t : tr (f b) Q) : tr (mm_gr h a k f) Q := by
  unfold mm_gr; rw [e]; exact t
theorem tr_mo {o : mm_O} {Q R : Option Value → mm_H → Prop} (t : tr o R) (K : ∀ v h', R v h' → Q v h') : tr o Q := by
  obtain ⟨v, h', e, q⟩ := t
  exact ⟨v, h', e, K v h' q⟩
theorem tr_ip {c : Prop} [Decidable c] {x y : mm_O} {Q : Option Value → mm_H → Prop} (hc : c) (t : tr x Q) : tr (if c then x else y) Q := by rw [if_pos hc]; exact t
theorem tr_in {c : Prop} [Decidable c] {x y : mm_O} {Q : Option Value → mm_H → Prop} (hc : ¬ c) (t : tr y Q) : tr (if c then x else y) Q := by rw [if_neg hc]; exact t
theorem tr_ex {h : mm_H} {o : mm_O} {v : Option Value} {p : mm_H → Prop} (e : ∃ h', o = some (v, h') ∧ p h') : tr o (fun w h' => w = v ∧ p h') := by
  obtain ⟨h', e1, e2⟩ := e
  exact ⟨v, h', e1, rfl, e2⟩
section CST
variable {L : Nat} {h : mm_H} {M : Nat → List Int32} {I : Nat → Nat → Int32} {P : Nat → Nat → Option Nat}
theorem cR.f (C : cR L h M I P) {a k b : Nat} (e : sk_ref a k = some b) : mm_r h a k = some b := by
  rw [C.2.1 a k ?_, e]
  unfold sk_ref at e
  unfold sk_fx
  split at e
  · next q hq => rw [hq]; rfl
  · exact absurd e (by simp)
theorem cR.kd (C : cR L h M I P) {r : Nat} (hr : sk_row r = true) : mm_kd h r = 5 := by
  refine sk_kd C.1.1 ?_
  unfold sk_row at hr
  simp only [Bool.and_eq_true, beq_iff_eq] at hr
  exact hr.1
theorem sk_rS {r : Nat} (hr : sk_row r = true) : r ∉ sk_S := by
  unfold sk_row at hr
  simp only [Bool.and_eq_true, Bool.not_eq_true', List.contains_eq_mem, decide_eq_false_iff_not] at hr
  exact hr.2
theorem cR.cap (C : cR L h M I P) {r c : Nat} (hc : sk_cap r = c) : mm_ln h (r + 1) = c := sk_ln C.1.1 (by omega) hc
theorem sk_obX {a : Nat} (ha : sk_ob a = true) : a ∉ sk_X ∧ (a = 0 ∨ 32 ≤ a) ∧ sk_ish a = false := by
  unfold sk_ob at ha
  simp only [Bool.and_eq_true, Bool.not_eq_true', List.contains_eq_mem, decide_eq_false_iff_not, decide_eq_true_eq, Bool.or_eq_true, beq_iff_eq] at ha
  exact ⟨ha.2, ha.1.1, ha.1.2⟩
/-- what keeps all but rows keeps the state -/
theorem cR.step (C : cR L h M I P) {h' : mm_H} {M0 M' : Nat → List Int32} (R : rr_M h' M0) (X : rr_X sk_X h h') (e : ∀ r, r ∉ sk_S → M0 r = M' r) : cR L h' M' I P := by
  obtain ⟨c1, c2, c3, c4, c5⟩ := C
  refine ⟨c1.X X, fun a k ha => ?_, ⟨M0, R, e⟩, fun a ha => ?_, fun a ha => ?_⟩
  · rw [X.r]; exact c2 a k ha
  · obtain ⟨h1, h2, h3⟩ := sk_obX ha
    rw [X.2.2 a h1 (sk_ni c1.1 h3)]; exact c4 a ha
  · rw [X.2.1]; exact c5 a ha
theorem cR.up (C : cR L h M I P) {h' : mm_H} {M0 : Nat → List Int32} (e0 : ∀ r, r ∉ sk_S → M0 r = M r) {r : Nat} {l l' : List Int32} (R : rr_M h' (va_up M0 r l)) (X : rr_F h h') (e : l = l') : cR L h' (va_up M r l') I P := by
  subst e
  refine C.step R X.X (fun s hs => ?_)
  by_cases q : s = r
  · subst q; rw [vu_at, vu_at]
  · rw [vu_off q, vu_off q]; exact e0 s hs
theorem cR.eq (C : cR L h M I P) {M' : Nat → List Int32} (e : ∀ r, r ∉ sk_S → M r = M' r) : cR L h M' I P := by
  obtain ⟨c1, c2, ⟨M0, c3, c3'⟩, c4, c5⟩ := C
  exact ⟨c1, c2, ⟨M0, c3, fun r hr => (c3' r hr).trans (e r hr)⟩, c4, c5⟩
theorem cR.i (C : cR L h M I P) {a k : Nat} (ha : sk_ob a = true) : mm_i h a k = I a k := by show h.2.1 a k = _; rw [C.2.2.2.1 a ha]
theorem cR.p (C : cR L h M I P) {a k : Nat} (ha : sk_pa a = true) : mm_r h a k = P a k := by show h.2.2.2 a k = _; rw [C.2.2.2.2 a ha]
theorem cR.n (C : cR L h M I P) {r : Nat} (hr : sk_row r = true) : mm_i h r 1 = nI (M r).length := by
  obtain ⟨M0, R, e0⟩ := C.2.2.1
  rw [← e0 r (sk_rS hr)]; exact (R r (C.kd hr)).2.2.2.1
theorem cR.le (C : cR L h M I P) {r c : Nat} (hr : sk_row r = true) (hc : sk_cap r = c) : (M r).length ≤ c := by
  obtain ⟨M0, R, e0⟩ := C.2.2.1
  rw [← e0 r (sk_rS hr), ← C.cap hc]; exact (R.cap (C.kd hr)).1
theorem cR.by (C : cR L h M I P) {r : Nat} (hr : sk_row r = true) : ∀ x ∈ M r, x &&& 255 = x := by
  obtain ⟨M0, R, e0⟩ := C.2.2.1
  rw [← e0 r (sk_rS hr)]; exact (R r (C.kd hr)).2.2.2.2.2.2.2
variable {r o : Nat} {f : mm_H → mm_O} {g : Int32 → mm_H → mm_O} {Q : Option Value → mm_H → Prop}
theorem cs_clear (C : cR L h M I P) (hr : sk_row r = true) (K : ∀ h', cR L h' (va_up M r []) I P → tr (f h') Q) : tr (mm_qv (bd_X6_clear r h) f) Q := by
  obtain ⟨M0, R, e0⟩ := C.2.2.1
  obtain ⟨h', p, R', F⟩ := sp_X6_clear R (C.kd hr)
  rw [p, mm_qv_s]; exact K h' (C.up e0 R' F rfl)
theorem cs_put (c : Nat) (C : cR L h M I P) (hr : sk_row r = true) (hc : sk_cap r = c) (x : Int32) (hl : (M r).length < c) (K : ∀ h', cR L h' (va_up M r (M r ++ [x &&& 255])) I P → tr (f h') Q) : tr (mm_qv (bd_X6_put r x h) f) Q := by
  obtain ⟨M0, R, e0⟩ := C.2.2.1
  obtain ⟨h', p, R', F⟩ := sp_X6_put R (C.kd hr) x
  rw [p, mm_qv_s]; refine K h' (C.up e0 R' F ?_)
  rw [C.cap hc, e0 r (sk_rS hr), List.take_of_length_le (by simp; omega)]
theorem cs_append (c : Nat) (C : cR L h M I P) (hr : sk_row r = true) (hc : sk_cap r = c) (ho : sk_row o = true) (hne : r ≠ o) (K : ∀ h', cR L h' (va_up M r ((M r ++ M o).take c)) I P → tr (f h') Q) : tr (mm_qv (bd_X6_append r o h) f) Q := by
  obtain ⟨M0, R, e0⟩ := C.2.2.1
  obtain ⟨h', p, R', F⟩ := sp_X6_append R (C.kd hr) (C.kd ho) hne
  rw [p, mm_qv_s]; refine K h' (C.up e0 R' F ?_)
  rw [C.cap hc, e0 r (sk_rS hr), e0 o (sk_rS ho)]
theorem cs_appendL (c : Nat) (C : cR L h M I P) (hr : sk_row r = true) (hc : sk_cap r = c) (ho : sk_row o = true) (hne : r ≠ o) (hl : (M r).length + (M o).length ≤ c) (K : ∀ h', cR L h' (va_up M r (M r ++ M o)) I P → tr (f h') Q) : tr (mm_qv (bd_X6_append r o h) f) Q := by
  refine cs_append c C hr hc ho hne (fun h' C' => ?_)
  rw [List.take_of_length_le (by simp; omega)] at C'
  exact K h' C'
theorem cs_copy (c : Nat) (C : cR L h M I P) (hr : sk_row r = true) (hc : sk_cap r = c) (ho : sk_row o = true) (hne : r ≠ o) (hl : (M o).length ≤ c) (K : ∀ h', cR L h' (va_up M r (M o)) I P → tr (f h') Q) : tr (mm_qv (bd_X6_copy r o h) f) Q := by
  obtain ⟨M0, R, e0⟩ := C.2.2.1
  obtain ⟨h', p, R', F⟩ := sp_X6_copy R (C.kd hr) (C.kd ho) hne
  rw [p, mm_qv_s]; refine K h' (C.up e0 R' F ?_)
  rw [C.cap hc, e0 o (sk_rS ho), List.take_of_length_le (by omega)]
theorem cs_copyPart (c : Nat) (k t : Nat) {x y : Int32} (C : cR L h M I P) (hr : sk_row r = true) (hc : sk_cap r = c) (ho : sk_row o = true) (hne : r ≠ o) (ht : t < 2 ^ 31) (hk : k < 2 ^ 30) (ex : x = nI k) (ey : y = nI t) (K : ∀ h', cR L h' (va_up M r ((((M o).take t).drop k).take c)) I P → tr (f h') Q) : tr (mm_qv (bd_X6_copyPart r o x y h) f) Q := by
  obtain ⟨M0, R, e0⟩ := C.2.2.1
  obtain ⟨h', p, R', F⟩ := sp_X6_copyPart R (C.kd hr) (C.kd ho) hne ht hk
  rw [ex, ey, p, mm_qv_s]; refine K h' (C.up e0 R' F ?_)
  rw [C.cap hc, e0 o (sk_rS ho)]
theorem cs_cut (k : Nat) {x : Int32} (C : cR L h M I P) (hr : sk_row r = true) (hk : k < 2 ^ 30) (ex : x = nI k) (K : ∀ h', cR L h' (va_up M r ((M r).take k)) I P → tr (f h') Q) : tr (mm_qv (bd_X6_cut r x h) f) Q := by
  obtain ⟨M0, R, e0⟩ := C.2.2.1
  obtain ⟨h', p, R', F⟩ := sp_X6_cut R (C.kd hr) hk
  rw [ex, p, mm_qv_s]; refine K h' (C.up e0 R' F ?_)
  rw [e0 r (sk_rS hr)]
theorem cs_num (c s : Nat) {x : Int32} (v : Int32) (C : cR L h M I P) (hr : sk_row r = true) (hc : sk_cap r = c) (ex : x = nI s) (hs : s < 1000) (hl : (M r).length + s ≤ c) (K : ∀ h', cR L h' (va_up M r (M r ++ rr_num v s)) I P → tr (f h') Q) : tr (mm_qv (bd_X6_putNumber r v x h) f) Q := by
  obtain ⟨M0, R, e0⟩ := C.2.2.1
  obtain ⟨h', p, R', F⟩ := sp_X6_putNumber v R (C.kd hr) (by rw [C.cap hc, e0 r (sk_rS hr)]; exact hl) hs
  rw [ex, p, mm_qv_s]; refine K h' (C.up e0 R' F ?_)
  rw [e0 r (sk_rS hr)]
/-- the static table a, as a list -/
def sk_tb (a : Nat) : List Int32 := (List.range ((sk_sh 0).getD a (99, 0)).2).map (fun k => st_i (fun _ => 0) a k)
theorem cs_putAll (c : Nat) {a : Nat} (C : cR L h M I P) (hr : sk_row r = true) (hc : sk_cap r = c) (ha : 0 < a) (h32 : a < 32) (hb : (sk_tb a).all (fun x => x &&& 255 == x) = true) (hn : (sk_tb a).length < 1000) (hl : (M r).length + (sk_tb a).length ≤ c) (K : ∀ h', cR L h' (va_up M r (M r ++ sk_tb a)) I P → tr (f h') Q) : tr (mm_qv (bd_X6_putAll r a h) f) Q := by
  obtain ⟨M0, R, e0⟩ := C.2.2.1
  obtain ⟨h', p, R', F⟩ := sp_X6_putAll (a := a) (sk_tb a) R (C.kd hr) (sk_ni C.1.1 (sk_lo a h32)) (by rw [sk_ln C.1.1 (by omega) rfl]; simp [sk_tb]) hn (fun j hj => by
    show h.2.1 a j = _
    rw [C.1.2.1 a ha h32]
    simp only [sk_tb, List.length_map, List.length_range] at hj
    have e9 : (sk_tb a)[j]? = some (st_i (fun _ => 0) a j) := by rw [sk_tb, List.getElem?_map, List.getElem?_range hj]; rfl
    rw [List.getD_eq_getElem?_getD, e9]; rfl) (fun x hx => by simpa using (List.all_eq_true.mp hb) x hx) (by rw [C.cap hc, e0 r (sk_rS hr)]; exact hl)
  rw [p, mm_qv_s]; refine K h' (C.up e0 R' F ?_)
  rw [e0 r (sk_rS hr)]
theorem cs_at (C : cR L h M I P) (hr : sk_row r = true) {x : Int32} (K : tr (g (rr_at (M r) x) h) Q) : tr (mm_qi (bd_X6_at r x h) g) Q := by
  obtain ⟨M0, R, e0⟩ := C.2.2.1
  rw [sp_X6_at R (C.kd hr), mm_qi_s, e0 r (sk_rS hr)]; exact K
theorem cs_twoAt (C : cR L h M I P) (hr : sk_row r = true) (k : Nat) {x : Int32} (ex : x = nI k) (hk : k < 2 ^ 30) (K : tr (g (if k + 1 < (M r).length then mm_shl ((M r).getD k 0) 8 ||| (M r).getD (k + 1) 0 else -1) h) Q) : tr (mm_qi (bd_X6_twoAt r x h) g) Q := by
  obtain ⟨M0, R, e0⟩ := C.2.2.1
  rw [ex, sp_X6_twoAt R (C.kd hr) hk, mm_qi_s, e0 r (sk_rS hr)]; exact K
theorem cs_hasAt (C : cR L h M I P) (hr : sk_row r = true) (ho : sk_row o = true) (p : Nat) {x : Int32} (ex : x = nI p) (hp : p < 2 ^ 30) (K : tr (g (if p + (M o).length ≤ (M r).length ∧ ((M r).drop p).take (M o).length = M o then 1 else 0) h) Q) : tr (mm_qi (bd_X6_hasAt r x o h) g) Q := by
  obtain ⟨M0, R, e0⟩ := C.2.2.1
  rw [ex, sp_X6_hasAt R (C.kd hr) (C.kd ho) hp, mm_qi_s, e0 r (sk_rS hr), e0 o (sk_rS ho)]; exact K
theorem cs_same (C : cR L h M I P) (hr : sk_row r = true) (ho : sk_row o = true) (K : tr (g (if M r = M o then 1 else 0) h) Q) : tr (mm_qi (bd_X6_same r o h) g) Q := by
  obtain ⟨M0, R, e0⟩ := C.2.2.1
  rw [sp_X6_same R (C.kd hr) (C.kd ho), mm_qi_s, e0 r (sk_rS hr), e0 o (sk_rS ho)]; exact K
theorem cs_digest (C : cR L h M I P) (hr : sk_row r = true) (ho : sk_row o = true) (hc : sk_cap o = 32) (K : ∀ h', cR L h' (va_up M o (sh_a (M r))) I P → tr (f h') Q) : tr (mm_qv (bd_X9_digest 36 r o h) f) Q := by
  obtain ⟨M0, R, e0⟩ := C.2.2.1
  obtain ⟨h', p, R', X⟩ := sp_X9_digest (X := sk_X) R (C.kd hr) (C.kd ho) (sk_sha C.1) (sk_1 C.1) (sk_2 C.1) (by decide) (by decide) (by rw [C.cap hc]; omega)
  rw [p, mm_qv_s]; refine K h' (C.step R' X (fun s hs => ?_))
  by_cases q : s = o
  · subst q; rw [vu_at, vu_at, e0 r (sk_rS hr)]
  · rw [vu_off q, vu_off q]; exact e0 s hs
theorem cs_expand (c n : Nat) {a x : Nat} {y : Int32} (C : cR L h M I P) (ha : a < 21) (h10 : 10 ≤ a) (hr : sk_row r = true) (hx : sk_row x = true) (ho : sk_row o = true) (hc : sk_cap o = c) (hl : (M x).length ≤ 32) (ey : y = nI n) (hn : n ≤ 32) (hnc : n ≤ c) (K : ∀ h', cR L h' (va_up M o (hk_e (M r) (tx_l a) (M x) n)) I P → tr (f h') Q) : tr (mm_qv (bd_X1_expand 39 r a x y o h) f) Q := by
  obtain ⟨M0, R, e0⟩ := C.2.2.1
  have qr := sk_rS hr
  have qx := sk_rS hx
  have qo := sk_rS ho
  have qr' := qr
  have qx' := qx
  have qo' := qo
  simp only [sk_S, List.mem_cons, not_or] at qr' qx' qo'
  obtain ⟨h', M', p, R', X, e1, e2⟩ := sp_X1_expand (sec := r) (a := a) (ctx := x) (out := o) (n := n) R C.1 ha h10 (C.kd hr) (C.kd hx) (C.kd ho) ⟨qr'.1, qr'.2.1, qr'.2.2.1, qr'.2.2.2.1⟩ qx'.2.2.1 qo'.2.2.2.1 (by rw [e0 x qx]; exact hl) hn (by rw [C.cap hc]; exact hnc)
  rw [ey, p, mm_qv_s]; refine K h' (C.step R' X (fun s hs => ?_))
  by_cases q : s = o
  · subst q; rw [vu_at, e1, e0 r qr, e0 x qx]
  · rw [vu_off q, ← e0 s hs]
    simp only [sk_S, List.mem_cons, not_or] at hs
    exact e2 s hs.1 hs.2.1 hs.2.2.1 hs.2.2.2.1 q
/-- a field anew -/
theorem cR.si (C : cR L h M I P) {a k : Nat} {v : Int32} (ha : sk_ob a = true) : cR L (mm_si h a k v) M (va_up I a (upd (I a) k v)) P := by
  obtain ⟨c1, c2, ⟨M0, c3, c3'⟩, c4, c5⟩ := C
  obtain ⟨h1, h2, h3⟩ := sk_obX ha
  have hni := sk_ni c1.1 h3
  refine ⟨⟨c1.1, fun b b0 b32 => ?_, c1.2.2⟩, c2, ⟨M0, ?_, c3'⟩, fun b hb => ?_, c5⟩
  · rw [mm_si_ne (by omega)]; exact c1.2.1 b b0 b32
  · intro r hk
    obtain ⟨g1, g2, g3, g4, g5, g6, g7, g8⟩ := c3 r hk
    refine ⟨g1, g2, g3, ?_, g5, g6, fun j hj => ?_, g8⟩
    · rw [mi_na (fun z => hni (Or.inl (by rw [← z]; exact hk)))]; exact g4
    · rw [mi_na (fun z => hni (Or.inr ⟨r, z.symm, hk⟩))]; exact g7 j hj
  · by_cases q : b = a
    · subst q
      rw [mm_si_eq, vu_at, c4 b hb]
    · rw [mm_si_ne q, vu_off q]; exact c4 b hb
theorem cs_si {a k : Nat} {v : Int32} (C : cR L h M I P) (ha : sk_ob a = true) (K : ∀ h', cR L h' M (va_up I a (upd (I a) k v)) P → tr (f h') Q) : tr (mm_bh (mm_si h a k v) f) Q := K _ (C.si ha)
end CST
