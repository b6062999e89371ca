/-! ===== the reference: what is wrong with a CLIENTHELLO ===== -/
theorem nm_at {c : List Int32} {j : Nat} (hj : j + 107 < c.length) : (rd_nm c).getD j 0 = c.getD (68 + j) 0 := by
  unfold rd_nm
  rw [dr_at, List.getD_eq_getElem?_getD, List.getElem?_take_of_lt (by omega), ← List.getD_eq_getElem?_getD]
theorem sq_nm {c : List Int32} (h : 107 ≤ c.length) : sq c 68 (rd_nm c) := by
  unfold sq
  rw [rd_nm_ln]
  unfold rd_nm
  rw [List.drop_take, show c.length - 39 - 68 = c.length - 107 by omega]
theorem neg_in : ∀ m, m < 103 → nI m - 103 < 1 := by decide +kernel
section RHF
variable {L : Nat} {h : mm_H} {s : sT} {e b : Nat} {f : mm_H → mm_O} {g : Int32 → mm_H → mm_O} {Q : Option Value → mm_H → Prop}
/-- is it a CLIENTHELLO, but for NAME and BINDER? -/
def hP (c : List Int32) (N : Nat) : Prop := (((((((((((((((((((((((True ∧ sq c 4 (rr_num 771 2)) ∧ sq c 38 [(0 : Int32) &&& 255]) ∧ sq c 39 (rr_num 2 2)) ∧ sq c 41 (rr_num 4867 2)) ∧ sq c 43 (rr_num 256 2)) ∧ sq c 45 (rr_num (60 + nI N) 2)) ∧ sq c 47 (rr_num 43 2)) ∧ sq c 49 (rr_num 3 2)) ∧ sq c 51 [(2 : Int32) &&& 255]) ∧ sq c 52 (rr_num 772 2)) ∧ sq c 54 (rr_num 45 2)) ∧ sq c 56 (rr_num 2 2)) ∧ sq c 58 (rr_num 256 2)) ∧ sq c 60 (rr_num 41 2)) ∧ sq c 62 (rr_num (nI N + 43) 2)) ∧ sq c 64 (rr_num (nI N + 6) 2)) ∧ sq c 66 (rr_num (nI N) 2)) ∧ sq c (68 + N) (rr_num 0 2)) ∧ sq c (68 + N + 2) (rr_num 0 2)) ∧ sq c (68 + N + 2 + 2) (rr_num 33 2)) ∧ sq c (68 + N + 2 + 2 + 2) [(32 : Int32) &&& 255]) ∧ True) ∧ True)
theorem dr_hm1 {c : List Int32} {N : Nat} {F : mm_H → mm_O} (T : dT L h) (B : bs h 547 5 c) (hb : lby c) (hN : c.length = 107 + N) (h16 : N ≤ 16) (K : ∀ h', mB h' 68 (((((((((((((((((True ∧ sq c 4 (rr_num 771 2)) ∧ sq c 38 [(0 : Int32) &&& 255]) ∧ sq c 39 (rr_num 2 2)) ∧ sq c 41 (rr_num 4867 2)) ∧ sq c 43 (rr_num 256 2)) ∧ sq c 45 (rr_num (60 + nI N) 2)) ∧ sq c 47 (rr_num 43 2)) ∧ sq c 49 (rr_num 3 2)) ∧ sq c 51 [(2 : Int32) &&& 255]) ∧ sq c 52 (rr_num 772 2)) ∧ sq c 54 (rr_num 45 2)) ∧ sq c 56 (rr_num 2 2)) ∧ sq c 58 (rr_num 256 2)) ∧ sq c 60 (rr_num 41 2)) ∧ sq c 62 (rr_num (nI N + 43) 2)) ∧ sq c 64 (rr_num (nI N + 6) 2)) ∧ sq c 66 (rr_num (nI N) 2)) → dF zl h h' → tr (F h') Q) : tr (mm_bh (mm_si h 490 63 9) (fun h6 =>
  mm_bh (mm_si h6 490 64 1) (fun h8 =>
  mm_qv (bd_X12_mustBe 490 771 h8) (fun h10 =>
  mm_bh (mm_si h10 490 63 ((mm_i h10 490 63) + (32 : Int32))) (fun h13 =>
  mm_qv (bd_X12_mustByte 490 0 h13) (fun h15 =>
  mm_qv (bd_X12_mustBe 490 2 h15) (fun h18 =>
  mm_qv (bd_X12_mustBe 490 4867 h18) (fun h21 =>
  mm_qv (bd_X12_mustBe 490 256 h21) (fun h24 =>
  mm_qv (bd_X12_mustBe 490 ((60 : Int32) + nI N) h24) (fun h27 =>
  mm_qv (bd_X12_mustBe 490 43 h27) (fun h30 =>
  mm_qv (bd_X12_mustBe 490 3 h30) (fun h33 =>
  mm_qv (bd_X12_mustByte 490 2 h33) (fun h36 =>
  mm_qv (bd_X12_mustBe 490 772 h36) (fun h39 =>
  mm_qv (bd_X12_mustBe 490 45 h39) (fun h42 =>
  mm_qv (bd_X12_mustBe 490 2 h42) (fun h45 =>
  mm_qv (bd_X12_mustBe 490 256 h45) (fun h48 =>
  mm_qv (bd_X12_mustBe 490 41 h48) (fun h51 =>
  mm_qv (bd_X12_mustBe 490 (nI N + (43 : Int32)) h51) (fun h54 =>
  mm_qv (bd_X12_mustBe 490 (nI N + (6 : Int32)) h54) (fun h57 =>
  mm_qv (bd_X12_mustBe 490 (nI N) h57) F)))))))))))))))))))) Q := by
  have hc : c.length ≤ 600 := (by omega)
  refine dr_look (fun h1 M1 F1 => ?_)
  refine dr_mustBe (T.F F1) (B.F F1 (fun k _ _ => (by omega))) hb (by omega) hc M1 (fun h2 M2 F2 => ?_)
  have U2 := F1.t F2
  refine dr_skip (d := 32) M2 rfl (fun h3 M3 F3 => ?_)
  have U3 := U2.t F3
  refine dr_mustB (T.F U3) (B.F U3 (fun k _ _ => (by omega))) hb (by omega) hc M3 (fun h4 M4 F4 => ?_)
  have U4 := U3.t F4
  refine dr_mustBe (T.F U4) (B.F U4 (fun k _ _ => (by omega))) hb (by omega) hc M4 (fun h5 M5 F5 => ?_)
  have U5 := U4.t F5
  refine dr_mustBe (T.F U5) (B.F U5 (fun k _ _ => (by omega))) hb (by omega) hc M5 (fun h6 M6 F6 => ?_)
  have U6 := U5.t F6
  refine dr_mustBe (T.F U6) (B.F U6 (fun k _ _ => (by omega))) hb (by omega) hc M6 (fun h7 M7 F7 => ?_)
  have U7 := U6.t F7
  refine dr_mustBe (T.F U7) (B.F U7 (fun k _ _ => (by omega))) hb (by omega) hc M7 (fun h8 M8 F8 => ?_)
  have U8 := U7.t F8
  refine dr_mustBe (T.F U8) (B.F U8 (fun k _ _ => (by omega))) hb (by omega) hc M8 (fun h9 M9 F9 => ?_)
  have U9 := U8.t F9
  refine dr_mustBe (T.F U9) (B.F U9 (fun k _ _ => (by omega))) hb (by omega) hc M9 (fun h10 M10 F10 => ?_)
  have U10 := U9.t F10
  refine dr_mustB (T.F U10) (B.F U10 (fun k _ _ => (by omega))) hb (by omega) hc M10 (fun h11 M11 F11 => ?_)
  have U11 := U10.t F11
  refine dr_mustBe (T.F U11) (B.F U11 (fun k _ _ => (by omega))) hb (by omega) hc M11 (fun h12 M12 F12 => ?_)
  have U12 := U11.t F12
  refine dr_mustBe (T.F U12) (B.F U12 (fun k _ _ => (by omega))) hb (by omega) hc M12 (fun h13 M13 F13 => ?_)
  have U13 := U12.t F13
  refine dr_mustBe (T.F U13) (B.F U13 (fun k _ _ => (by omega))) hb (by omega) hc M13 (fun h14 M14 F14 => ?_)
  have U14 := U13.t F14
  refine dr_mustBe (T.F U14) (B.F U14 (fun k _ _ => (by omega))) hb (by omega) hc M14 (fun h15 M15 F15 => ?_)
  have U15 := U14.t F15
  refine dr_mustBe (T.F U15) (B.F U15 (fun k _ _ => (by omega))) hb (by omega) hc M15 (fun h16 M16 F16 => ?_)
  have U16 := U15.t F16
  refine dr_mustBe (T.F U16) (B.F U16 (fun k _ _ => (by omega))) hb (by omega) hc M16 (fun h17 M17 F17 => ?_)
  have U17 := U16.t F17
  refine dr_mustBe (T.F U17) (B.F U17 (fun k _ _ => (by omega))) hb (by omega) hc M17 (fun h18 M18 F18 => ?_)
  have U18 := U17.t F18
  refine dr_mustBe (T.F U18) (B.F U18 (fun k _ _ => (by omega))) hb (by omega) hc M18 (fun h19 M19 F19 => ?_)
  exact K h19 M19 (U18.t F19)
theorem hP_eq {c : List Int32} {N : Nat} (hN : c.length = 107 + N) (h16 : N ≤ 16) (hd : c.take 4 = ms_h 1 (nI (c.length - 4))) : hP c N ↔ c.take (c.length - 32) = ms_ch (rd_rn c) (rd_nm c) ++ sk_tb 6 := by
  have hrn : (rd_rn c).length = 32 := rd_rn_ln (by omega)
  have hnm : (rd_nm c).length = N := by rw [rd_nm_ln]; omega
  have s1 := sq_rn (c := c) (by omega)
  have s2 := sq_nm (c := c) (by omega)
  have hd' : (c.take (c.length - 32)).take 4 = ms_h 1 (nI (103 + N)) := by
    rw [List.take_take, Nat.min_eq_left (by omega), hd, show c.length - 4 = 103 + N by omega]
  have ld : (c.take (c.length - 32)).length = 75 + N := by rw [List.length_take]; omega
  rw [ch_eq, hnm, List.append_assoc, ht_eq (show 4 ≤ (c.take (c.length - 32)).length from (by omega)) hd', ← sq_z (n := 71 + N) (by omega) (by rw [List.length_append, chb_ln, hrn, hnm, tb6]; omega), sq_take (by rw [List.length_append, chb_ln, hrn, hnm, tb6]; omega)]
  unfold ch_b hP
  rw [tb6e, hnm]
  simp only [List.append_assoc, sq_app, rr_num_len, List.length_singleton, hrn, hnm, Nat.reduceAdd]
  simp only [eq_true s1, eq_true s2, true_and, and_true, and_assoc]
theorem dm_hf221 {ke : Nat → Int32 → Int32 → Int32 → mm_H → mm_O} {c name : List Int32} {N : Nat} {x5 : Int32} (he : e < 4) (T : dT L h) (B : bs h 547 5 c) (hb : lby c) (hN : c.length = 107 + N) (h16 : N ≤ 16) (Bn : bs h 496 (16 * e) name) (hbn : lby name) (ln : name.length = N) : ∀ (m i n : Nat), (∀ j, j < i → c.getD (68 + j) 0 = name.getD j 0) → i + m = N → m < n → (lp_X12_helloFault_221 ke n 490 (nI e) (nI N) (nI 73) x5 1 (nI i) h = ke 490 (nI e) x5 1 h ∧ ∀ j, j < N → c.getD (68 + j) 0 = name.getD j 0) ∨ (lp_X12_helloFault_221 ke n 490 (nI e) (nI N) (nI 73) x5 1 (nI i) h = ke 490 (nI e) x5 0 h ∧ ∃ j, j < N ∧ c.getD (68 + j) 0 ≠ name.getD j 0) := by
  intro m
  induction m with
  | zero =>
    intro i n J hi hn
    obtain ⟨n, rfl⟩ : ∃ k, n = k + 1 := ⟨n - 1, by omega⟩
    rw [lp_X12_helloFault_221, if_pos (by rw [nI_leI (by omega) (by omega)]; omega)]
    exact Or.inl ⟨rfl, fun j hj => J j (by omega)⟩
  | succ m ih =>
    intro i n J hi hn
    obtain ⟨n, rfl⟩ : ∃ k, n = k + 1 := ⟨n - 1, by omega⟩
    have v1 : mm_i h 547 (73 + i) = mm_b8 (c.getD (68 + i) 0) := by
      have := B (68 + i) (by omega)
      rw [show 5 + (68 + i) = 73 + i by omega] at this; exact this
    have v2 : mm_i h 496 (16 * e + i) = mm_b8 (name.getD i 0) := Bn i (by omega)
    rw [lp_X12_helloFault_221, if_neg (by rw [nI_leI (by omega) (by omega)]; omega), if_neg (by decide), mm_gr_s T.r60, nI_add, T.l547, if_pos (rr_in (by omega) (by omega)), mm_gr_s T.r7, show (16 : Int32) * nI e = nI (16 * e) from pk_mul 16 e, nI_add, T.l496, if_pos (rr_in (by omega) (by omega)), rr_n (by omega), rr_n (by omega), v1, v2]
    unfold jn_X12_helloFault_262
    rw [nI_1]
    by_cases q : c.getD (68 + i) 0 = name.getD i 0
    · rw [if_pos (by rw [q])]
      exact ih (i + 1) n (fun j hj => by
        by_cases q2 : j = i
        · subst q2; exact q
        · exact J j (by omega)) (by omega) (by omega)
    · rw [if_neg (fun z => q ((b8_qq (hb _ (rr_mem (by omega))) (hbn _ (rr_mem (by omega)))).mp z))]
      refine Or.inr ⟨?_, i, by omega, q⟩
      obtain ⟨n, rfl⟩ : ∃ k, n = k + 1 := ⟨n - 1, by omega⟩
      rw [lp_X12_helloFault_221]
      by_cases q3 : nI N ≤ nI (i + 1)
      · rw [if_pos q3]
      · rw [if_neg q3, if_pos rfl]
theorem dm_hf295 {c bd : List Int32} {p : Nat} (T : dT L h) (B : bs h 547 5 c) (hb : lby c) (Bb : bs h 546 0 bd) (hbb : lby bd) (lb : bd.length = 32) (hp : p + 32 = c.length) (hc : c.length ≤ 600) (il : mm_i h 490 63 = nI (5 + p)) : ∀ (m i n : Nat), (∀ j, j < i → bd.getD j 0 = c.getD (p + j) 0) → i + m = 32 → m < n → (lp_X12_helloFault_295 n 490 (nI i) h = some (some (.int 0), h) ∧ ∀ j, j < 32 → bd.getD j 0 = c.getD (p + j) 0) ∨ (lp_X12_helloFault_295 n 490 (nI i) h = some (some (.int 51), h) ∧ ∃ j, j < 32 ∧ bd.getD j 0 ≠ c.getD (p + j) 0) := by
  intro m
  induction m with
  | zero =>
    intro i n J hi hn
    obtain ⟨n, rfl⟩ : ∃ k, n = k + 1 := ⟨n - 1, by omega⟩
    rw [lp_X12_helloFault_295, if_pos (by rw [show ((32 : Int32)) = nI 32 from rfl, nI_leI (by omega) (by omega)]; omega)]
    exact Or.inl ⟨rfl, fun j hj => J j (by omega)⟩
  | succ m ih =>
    intro i n J hi hn
    obtain ⟨n, rfl⟩ : ∃ k, n = k + 1 := ⟨n - 1, by omega⟩
    have v1 : mm_i h 547 (5 + p + i) = mm_b8 (c.getD (p + i) 0) := by
      have := B (p + i) (by omega)
      rw [← Nat.add_assoc] at this; exact this
    have v2 : mm_i h 546 i = mm_b8 (bd.getD i 0) := by have := Bb i (by omega); rw [Nat.zero_add] at this; exact this
    rw [lp_X12_helloFault_295, if_neg (by rw [show ((32 : Int32)) = nI 32 from rfl, nI_leI (by omega) (by omega)]; omega), mm_gr_s T.r59, T.l546, if_pos (rr_in (by omega) (by omega)), mm_gr_s T.r60, il, nI_add, T.l547, if_pos (rr_in (by omega) (by omega)), rr_n (by omega), rr_n (by omega), v1, v2, nI_1]
    by_cases q : bd.getD i 0 = c.getD (p + i) 0
    · rw [if_pos (by rw [q])]
      exact ih (i + 1) n (fun j hj => by
        by_cases q2 : j = i
        · subst q2; exact q
        · exact J j (by omega)) (by omega) (by omega)
    · rw [if_neg (fun z => q ((b8_qq (hbb _ (rr_mem (by omega))) (hb _ (rr_mem (by omega)))).mp z))]
      exact Or.inr ⟨rfl, i, by omega, q⟩
def hV (c name psk : List Int32) : Int32 := if rd_ch c name = 0 then (if c.drop (c.length - 32) = ks_p (ks_b psk) (c.take (c.length - 35)) then 0 else 51) else rd_ch c name
theorem rd2_66 {c : List Int32} {N : Nat} (hN : c.length = 107 + N) (h16 : N ≤ 16) (hs : sq c 66 (rr_num (nI N) 2)) : rd_2 c 66 = nI (c.length - 107) := by
  rw [num2, sq_2 (by omega)] at hs
  unfold rd_2
  rw [if_pos (by omega), hs.1, hs.2, sh0 _ (by omega), nI_255, Nat.mod_eq_of_lt (by omega), show c.length - 107 = N by omega, show mm_shl 0 8 = 0 from by decide]
  exact Int32.zero_or
theorem dr_helloF {c psk name : List Int32} (Bb : rB L h) (he : e < 4) (bp : bs h 494 (64 * e) psk) (hp : lby psk) (hl : psk.length ≤ 64) (ip : mm_i h 495 e = nI psk.length) (Bn : bs h 496 (16 * e) name) (hbn : lby name) (ln : name.length ≤ 16) (inn : mm_i h 497 e = nI name.length) (B : bs h 547 5 c) (hb : lby c) (hc : c.length ≤ 600) (h4 : 4 ≤ c.length) (hd : c.take 4 = ms_h 1 (nI (c.length - 4))) (K : ∀ h', rB L h' → dF (fun a k => zl a k ∨ zi e a k) h h' → tr (g (hV c name psk) h') Q) : tr (mm_qi (bd_X12_helloFault 490 (nI e) (nI (c.length - 4)) h) g) Q := by
  refine tr_qi (R := fun v h' => v = some (.int (hV c name psk)) ∧ rB L h' ∧ dF (fun a k => zl a k ∨ zi e a k) h h') ?_ (fun v h' q => ⟨_, q.1, K h' q.2.1 q.2.2⟩)
  unfold bd_X12_helloFault
  rw [mm_bi, dr_isIn]
  have bad : ¬ (108 ≤ c.length ∧ c.length ≤ 123) → hV c name psk = 47 := fun z => by
    have e1 : rd_ch c name = 47 := by unfold rd_ch; rw [if_neg (fun w => z ⟨w.1, w.2.1⟩)]
    unfold hV
    rw [e1, if_neg (by decide)]
  by_cases k1 : 108 ≤ c.length ∧ c.length ≤ 123
  · obtain ⟨N, hN⟩ : ∃ N, c.length = 107 + N := ⟨c.length - 107, by omega⟩
    have h16 : N ≤ 16 := (by omega)
    rw [show nI (c.length - 4) - 103 = nI N from by rw [show ((103 : Int32)) = nI 103 from rfl, nI_sb (by omega)]; congr 1; omega]
    rw [if_neg (show ¬ nI N < 1 from by rw [show ((1 : Int32)) = nI 1 from rfl, nI_ltI (by omega) (by omega)]; omega), if_neg (show ¬ 16 < nI N from by rw [show ((16 : Int32)) = nI 16 from rfl, nI_ltI (by omega) (by omega)]; omega), if_neg (show ¬ (1 : Int32) = 0 by decide)]
    refine dr_hm1 Bb.1 B hb hN h16 (fun h1 M1 F1 => ?_)
    rw [M1.1, mm_bi]
    have T1 := Bb.1.F F1
    have B1 := B.F F1 (fun k _ _ => (by omega))
    rw [← M1.1]
    refine dr_skip (d := N) M1 rfl (fun h2 M2 F2 => ?_)
    have U2 := F1.t F2
    refine dr_mustBe (Bb.1.F U2) (B.F U2 (fun k _ _ => (by omega))) hb (by omega) hc M2 (fun h3 M3 F3 => ?_)
    have U3 := U2.t F3
    refine dr_mustBe (Bb.1.F U3) (B.F U3 (fun k _ _ => (by omega))) hb (by omega) hc M3 (fun h4 M4 F4 => ?_)
    have U4 := U3.t F4
    rw [M1.1, M4.1, mm_bi]
    refine dr_mustBe (Bb.1.F U4) (B.F U4 (fun k _ _ => (by omega))) hb (by omega) hc M4 (fun h5 M5 F5 => ?_)
    have U5 := U4.t F5
    refine dr_mustB (Bb.1.F U5) (B.F U5 (fun k _ _ => (by omega))) hb (by omega) hc M5 (fun h6 M6 F6 => ?_)
    have U6 := U5.t F6
    have B6 : rB L h6 := Bb.F U6 (fun a k z => by omega)
    have M6' : mB h6 (c.length - 32) (hP c N) := by
      have := M6.iff (R := hP c N) (by unfold hP; simp only [and_true])
      rw [show 68 + N + 2 + 2 + 2 + 1 = c.length - 32 by omega] at this
      exact this
    have V6 : dF (fun a k => zl a k ∨ zi e a k) h h6 := U6.mo (fun a k z => Or.inl z)
    rcases M6'.2 with ⟨ia, pp⟩ | ⟨ia, pp⟩
    · rw [if_neg (by rw [ia]; decide)]
      have e47 := (hP_eq hN h16 hd).mp pp
      have s66 : sq c 66 (rr_num (nI N) 2) := by unfold hP at pp; exact pp.1.1.1.1.1.1.2
      have ech : rd_ch c name = if name = rd_nm c then 0 else 115 := by
        unfold rd_ch
        rw [if_pos ⟨k1.1, k1.2, rd2_66 hN h16 s66⟩, if_pos e47]
      have T6 := B6.1
      have i6 := B.F U6 (fun k _ _ => (by omega))
      have n6 := Bn.F U6 (fun k _ _ => (by omega))
      refine tr_gr T6.r8 (tr_ip (dq_in T6.l497 rfl he (by decide)) ?_)
      rw [rr_n (n := e) (by omega), show mm_i h6 497 e = nI name.length from by rw [U6.i (by omega)]; exact inn]
      have lnm : (rd_nm c).length = N := by rw [rd_nm_ln]; omega
      unfold jn_X12_helloFault_216
      rw [show nI (5 + 68) = nI 73 from rfl]
      by_cases q1 : N = name.length
      · rw [if_pos (by rw [q1]), show ((0 : Int32)) = nI 0 from rfl]
        rcases dm_hf221 (ke := fun b89 v90 v91 v92 h88 => if v92 = nI 0 then (some (some (.int 115), h88)) else (mm_gr h88 b89 60 (fun b93 => mm_qv (bd_X12_bind b89 v90 b93 5 (v91 - (5 : Int32)) h88) (fun h95 => lp_X12_helloFault_295 mm_fu b89 (nI 0) h95)))) (x5 := nI (5 + (68 + N + 2 + 2))) he T6 i6 hb hN h16 n6 hbn q1.symm N 0 mm_fu (fun j hj => absurd hj (Nat.not_lt_zero _)) (by omega) (by unfold mm_fu; omega) with ⟨p, q⟩ | ⟨p, j, hj, q⟩
        · rw [p]
          have same : name = rd_nm c := ls_ext (by rw [lnm, q1]) (fun j hj => by rw [nm_at (by omega)]; exact (q j (by omega)).symm)
          have e0 : hV c name psk = if c.drop (c.length - 32) = ks_p (ks_b psk) (c.take (c.length - 35)) then 0 else 51 := by
            unfold hV
            rw [ech, if_pos same, if_pos rfl]
          refine tr_in (by decide) (tr_gr T6.r60 ?_)
          rw [show nI (5 + (68 + N + 2 + 2)) - 5 = nI (72 + N) from by rw [show ((5 : Int32)) = nI 5 from rfl, nI_sb (by omega)]; congr 1; omega]
          have lm : (c.take (c.length - 35)).length = 72 + N := by rw [List.length_take]; omega
          refine dr_bind (fr := 5) (msg := c.take (c.length - 35)) B6 he (bp.F U6 (fun k _ _ => (by omega))) hp hl (by rw [U6.i (by omega)]; exact ip) i6.take (lby.take hb) (by omega) (Or.inr rfl) T6.l547 (by omega) (by decide) rfl (by rw [lm]) (fun h7 B7 b7 m7 F7 => ?_)
          have V7 : dF (fun a k => zl a k ∨ zi e a k) h h7 := (U6.c F7)
          have ld : (c.drop (c.length - 32)).length = 32 := by rw [List.length_drop]; omega
          rcases dm_hf295 (L := L) (p := c.length - 32) B7.1 (i6.F F7 (fun k _ _ => (by omega))) hb b7 (ksp_by _ _) (ksp_ln _ _) (by omega) hc (by rw [F7.i (by omega)]; exact M6'.1) 32 0 mm_fu (fun j hj => absurd hj (Nat.not_lt_zero _)) (by omega) (by unfold mm_fu; omega) with ⟨p2, q2⟩ | ⟨p2, j, hj, q2⟩
          · rw [p2]
            refine tr_mk ⟨?_, B7, V7⟩
            rw [e0, if_pos (ls_ext (by rw [ld, ksp_ln]) (fun j hj => by rw [ld] at hj; rw [dr_at]; exact (q2 j hj).symm))]
          · rw [p2]
            refine tr_mk ⟨?_, B7, V7⟩
            rw [e0, if_neg (fun z => q2 (by rw [← z, dr_at]))]
        · rw [p]
          refine tr_ip rfl (tr_mk ⟨?_, B6, V6⟩)
          have ns : name ≠ rd_nm c := fun z => q (by rw [← nm_at (by omega), ← z])
          unfold hV
          rw [ech, if_neg ns, if_neg (by decide)]
      · rw [if_neg (by rw [nI_eq (by omega) (by omega)]; exact q1)]
        have e9 : mm_fu = 99999 + 1 := rfl
        rw [e9, lp_X12_helloFault_221, if_neg (by rw [show ((0 : Int32)) = nI 0 from rfl, nI_leI (by omega) (by omega)]; omega), if_pos rfl]
        refine tr_ip rfl (tr_mk ⟨?_, B6, V6⟩)
        have ns : name ≠ rd_nm c := fun z => q1 (by rw [z, lnm])
        unfold hV
        rw [ech, if_neg ns, if_neg (by decide)]
    · rw [if_pos ia]
      refine tr_mk ⟨?_, B6, V6⟩
      have e47 : rd_ch c name = 47 := by
        unfold rd_ch
        by_cases w : 108 ≤ c.length ∧ c.length ≤ 123 ∧ rd_2 c 66 = nI (c.length - 107)
        · rw [if_pos w, if_neg (fun z => pp ((hP_eq hN h16 hd).mpr z))]
        · rw [if_neg w]
      unfold hV
      rw [e47, if_neg (by decide)]
  · have fin : tr (some (some (Value.int 47), h)) (fun v h' => v = some (.int (hV c name psk)) ∧ rB L h' ∧ dF (fun a k => zl a k ∨ zi e a k) h h') := tr_mk ⟨by rw [bad k1], Bb, dF.rf⟩
    by_cases k2 : c.length < 107
    · rw [if_pos (neg_in (c.length - 4) (by omega)), if_pos rfl]; exact fin
    · rw [show nI (c.length - 4) - 103 = nI (c.length - 107) from by rw [show ((103 : Int32)) = nI 103 from rfl, nI_sb (by omega), Nat.sub_sub]]
      by_cases k3 : c.length = 107
      · rw [if_pos (show nI (c.length - 107) < 1 from by rw [k3]; decide), if_pos rfl]; exact fin
      · rw [if_neg (show ¬ nI (c.length - 107) < 1 from by rw [show ((1 : Int32)) = nI 1 from rfl, nI_ltI (by omega) (by omega)]; omega), if_pos (show 16 < nI (c.length - 107) from by rw [show ((16 : Int32)) = nI 16 from rfl, nI_ltI (by omega) (by omega)]; omega), if_pos rfl]; exact fin
end RHF
