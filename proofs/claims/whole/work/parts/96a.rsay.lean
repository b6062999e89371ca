/-! ===== the reference writes: bytes that go, records ===== -/
abbrev zy (a k : Nat) : Prop := a = 545 ∨ (a = 490 ∧ k = 58)
def gO (h : mm_H) (l : List Int32) : Prop := bs h 545 0 l ∧ mm_i h 490 58 = nI l.length
theorem gO.F {S : Nat → Nat → Prop} {h h' : mm_H} {l : List Int32} (G : gO h l) (F : dF S h h') (n : ∀ a k, zy a k → ¬ S a k) : gO h' l := ⟨G.1.F F (fun k _ _ => n _ _ (Or.inl rfl)), by rw [F.i (n _ _ (Or.inr ⟨rfl, rfl⟩))]; exact G.2⟩
theorem shr8 (v : Int32) : mm_shr v 8 &&& 255 = mm_ush v (nI 8) &&& 255 := by
  have := b8_eq.mp (b8_sh v (n := 8) (by decide))
  rw [and255] at this
  exact this
theorem ush0 (v : Int32) : mm_ush v (nI 0) = v := b_ext (fun i _ => by rw [b_us 0 (by decide), Nat.zero_add])
theorem num2 (v : Int32) : rr_num v 2 = [mm_shr v 8 &&& 255] ++ [v &&& 255] := by
  rw [shr8]
  show [mm_ush v ((8 : Int32) * nI 1) &&& 255, mm_ush v ((8 : Int32) * nI 0) &&& 255] = _
  rw [show (8 : Int32) * nI 1 = nI 8 from rfl, show (8 : Int32) * nI 0 = nI 0 from rfl, ush0]
  rfl
theorem num_0 : rr_num 0 2 = [0, 0] := by decide
set_option maxRecDepth 100000 in
theorem ush16 : ∀ m, m < 1000 → mm_ush (nI m) ((8 : Int32) * nI 2) &&& 255 = 0 := by decide +kernel
theorem msh_eq {k : Int32} {m : Nat} (hm : m < 1000) : ms_h k (nI m) = [k &&& 255, 0, mm_shr (nI m) 8 &&& 255, nI m &&& 255] := by
  have e : rr_num (nI m) 3 = (mm_ush (nI m) ((8 : Int32) * nI 2) &&& 255) :: rr_num (nI m) 2 := rfl
  unfold ms_h
  rw [e, ush16 m hm, num2]
  rfl
section RSY
variable {L : Nat} {h : mm_H} {s : sT} {f : mm_H → mm_O} {g : Int32 → mm_H → mm_O} {Q : Option Value → mm_H → Prop}
theorem dr_sayB {x : Int32} {l : List Int32} (T : dT L h) (G : gO h l) (hl : l.length < 500) (K : ∀ h', gO h' (l ++ [x &&& 255]) → dF zy h h' → tr (f h') Q) : tr (mm_qv (bd_X12_sayByte 490 x h) f) Q := by
  refine tr_v (p := fun h' => gO h' (l ++ [x &&& 255]) ∧ dF zy h h') ?_ (fun h' q => K h' q.1 q.2)
  unfold bd_X12_sayByte
  refine tr_gr T.r57 (dq_st (by decide) T.l545 G.2 hl (by decide) (fun h1 F1 v1 => ?_))
  rw [F1.i (a := 490) (k := 58) (by omega), G.2, nI_1]
  refine dq_fd (fun h2 F2 v2 => ?_)
  refine tr_mk ⟨rfl, ⟨(G.1.F (F1.c F2) (fun k z1 z2 => (by omega))).app (bs.one ?_), ?_⟩, (F1.c F2).mo (fun a k z => by omega)⟩
  · rw [Nat.zero_add, F2.2.2 545 _ (by omega), v1, b8_b8, b8_a]
  · rw [List.length_append]; exact v2
theorem dr_sayT {v : Int32} {l : List Int32} (T : dT L h) (G : gO h l) (hl : l.length + 2 ≤ 500) (K : ∀ h', gO h' (l ++ rr_num v 2) → dF zy h h' → tr (f h') Q) : tr (mm_qv (bd_X12_sayTwo 490 v h) f) Q := by
  refine tr_v (p := fun h' => gO h' (l ++ rr_num v 2) ∧ dF zy h h') ?_ (fun h' q => K h' q.1 q.2)
  unfold bd_X12_sayTwo
  refine dr_sayB T G (by omega) (fun h1 G1 F1 => ?_)
  refine dr_sayB (T.F F1) G1 (by rw [List.length_append, List.length_singleton]; omega) (fun h2 G2 F2 => ?_)
  rw [List.append_assoc, ← num2] at G2
  exact tr_mk ⟨rfl, G2, F1.t F2⟩
theorem dm_row {a1 fr na : Nat} {r l0 : List Int32} (hr : lby r) (n1 : a1 ≠ 545 ∧ a1 ≠ 490) (la : fr + r.length ≤ na) (la2 : na ≤ 90000) (hl : l0.length + r.length ≤ 500) : ∀ (m i n : Nat) (h : mm_H), dT L h → mm_ln h a1 = na → bs h a1 fr r → gO h (l0 ++ r.take i) → i + m = r.length → m < n → ∃ h', lp_X12_sayRow_3 n 490 a1 (nI fr) (nI r.length) (nI i) h = some (none, h') ∧ gO h' (l0 ++ r) ∧ dF zy h h' := by
  intro m
  induction m with
  | zero =>
    intro i n h T e1 B G hi hn
    obtain ⟨n, rfl⟩ : ∃ k, n = k + 1 := ⟨n - 1, by omega⟩
    rw [lp_X12_sayRow_3, if_pos (by rw [nI_leI (by omega) (by omega)]; omega)]
    rw [List.take_of_length_le (by omega)] at G
    exact ⟨h, rfl, G, dF.rf⟩
  | succ m ih =>
    intro i n h T e1 B G hi hn
    obtain ⟨n, rfl⟩ : ∃ k, n = k + 1 := ⟨n - 1, by omega⟩
    rw [lp_X12_sayRow_3, if_neg (by rw [nI_leI (by omega) (by omega)]; omega), nI_add, if_pos (dq_in e1 rfl (by omega) (by omega)), rr_n (by omega), B.at (by omega), nI_1]
    have t : tr (mm_qv (bd_X12_sayByte 490 (mm_b8 (r.getD i 0)) h) (fun h2 => lp_X12_sayRow_3 n 490 a1 (nI fr) (nI r.length) (nI (i + 1)) h2)) (fun v h' => v = none ∧ gO h' (l0 ++ r) ∧ dF zy h h') := by
      refine dr_sayB T G (by rw [List.length_append, List.length_take]; omega) (fun h1 G1 F1 => ?_)
      rw [b8_by (hr _ (rr_mem (by omega))), List.append_assoc, show r.take i ++ [r.getD i 0] = r.take (i + 1) from by
        rw [List.take_add_one, List.getD_eq_getElem?_getD, List.getElem?_eq_getElem (by omega)]; rfl] at G1
      obtain ⟨h', q1, q2, q3⟩ := ih (i + 1) n h1 (T.F F1) (by rw [F1.ln]; exact e1) (B.F F1 (fun k _ _ => by omega)) G1 (by omega) (by omega)
      rw [q1]
      exact tr_mk ⟨rfl, q2, F1.t q3⟩
    obtain ⟨v, h', q1, q2, q3, q4⟩ := t
    subst q2
    exact ⟨h', q1, q3, q4⟩
theorem dr_sayR {a1 fr : Nat} {x y : Int32} {r l : List Int32} (na : Nat) (T : dT L h) (e1 : mm_ln h a1 = na) (B : bs h a1 fr r) (hr : lby r) (n1 : a1 ≠ 545 ∧ a1 ≠ 490) (la : fr + r.length ≤ na) (la2 : na ≤ 90000) (G : gO h l) (hl : l.length + r.length ≤ 500) (ex : x = nI fr) (ey : y = nI r.length) (K : ∀ h', gO h' (l ++ r) → dF zy h h' → tr (f h') Q) : tr (mm_qv (bd_X12_sayRow 490 a1 x y h) f) Q := by
  obtain ⟨h', q1, q2, q3⟩ := dm_row (L := L) hr n1 la la2 hl r.length 0 mm_fu h T e1 B (by rw [List.take_zero, List.append_nil]; exact G) (by omega) (by unfold mm_fu; omega)
  unfold bd_X12_sayRow
  rw [ex, ey, show ((0 : Int32)) = nI 0 from rfl, q1, mm_qv_s]
  exact K h' q2 q3
/-- nothing goes yet -/
theorem dr_go0 (K : ∀ h', gO h' [] → dF zy h h' → tr (f h') Q) : tr (mm_bh (mm_si h 490 58 0) f) Q := dq_fd (fun h1 F1 v1 => K h1 ⟨bs.nil, v1⟩ (F1.mo (fun a k z => by omega)))
theorem dr_begM {k : Int32} (T : dT L h) (K : ∀ h', gO h' [k &&& 255, 0, 0, 0] → dF zy h h' → tr (f h') Q) : tr (mm_qv (bd_X12_beginMessage 490 k h) f) Q := by
  refine tr_v (p := fun h' => gO h' [k &&& 255, 0, 0, 0] ∧ dF zy h h') ?_ (fun h' q => K h' q.1 q.2)
  unfold bd_X12_beginMessage
  refine dr_go0 (fun h1 G1 F1 => ?_)
  refine dr_sayB (T.F F1) G1 (by decide) (fun h2 G2 F2 => ?_)
  refine dr_sayB ((T.F F1).F F2) G2 (by simp) (fun h3 G3 F3 => ?_)
  refine dr_sayT (((T.F F1).F F2).F F3) G3 (by simp) (fun h4 G4 F4 => ?_)
  exact tr_mk ⟨rfl, G4, ((F1.t F2).t F3).t F4⟩
theorem go_fix {h1 h2 : mm_H} {k z1 z2 z3 y2 y3 : Int32} {body : List Int32} (G : gO h ([k, z1, z2, z3] ++ body)) (F1 : dF (zo 545 2) h h1) (v1 : h1.2.1 545 2 = mm_b8 y2) (F2 : dF (zo 545 3) h1 h2) (v2 : h2.2.1 545 3 = mm_b8 y3) : gO h2 ([k, z1, y2, y3] ++ body) := by
  have F := F1.c F2
  refine ⟨?_, by rw [F.i (by omega)]; exact G.2⟩
  have b0 := G.1.left
  have b1 : bs h2 545 (0 + 4) body := (G.1.right (l := [k, z1, z2, z3])).F F (fun j z1 z2 => by simp only [List.length_cons, List.length_nil] at z1; omega)
  refine bs.app (fun j hj => ?_) b1
  have hj4 : j < 4 := hj
  rcases (by omega : j = 0 ∨ j = 1 ∨ j = 2 ∨ j = 3) with rfl | rfl | rfl | rfl
  · rw [F.2.2 545 _ (by omega)]; exact b0 0 (by simp)
  · rw [F.2.2 545 _ (by omega)]; exact b0 1 (by simp)
  · rw [F2.2.2 545 _ (by omega)]; exact v1
  · exact v2
/-! records -/
abbrev zw (e a k : Nat) : Prop := (520 ≤ a ∧ a ≤ 526) ∨ (534 ≤ a ∧ a ≤ 544) ∨ (a = 490 ∧ k = 37) ∨ (a = 504 ∧ 21120 * e ≤ k ∧ k < 21120 * e + 21120) ∨ (a = 505 ∧ 33 * e ≤ k ∧ k < 33 * e + 33) ∨ ((a = 506 ∨ a = 517) ∧ k = e)
theorem slc_eq {F : Nat → Int32} {hd body : List Int32} (lh : hd.length = 5) : sl_c F (hd ++ body) = hd ++ sl_o F body := by
  apply List.ext_getElem?
  intro i
  unfold sl_c sl_o ch_m
  by_cases c : i < 5
  · rw [List.getElem?_append_left (by omega), List.getElem?_map, List.getElem?_range (by rw [List.length_append]; omega), List.getElem?_eq_getElem (by omega)]
    simp only [Option.map_some]
    rw [if_neg (by omega), rr_getL (by omega), List.getD_eq_getElem?_getD, List.getElem?_eq_getElem (by omega)]; rfl
  · rw [List.getElem?_append_right (by omega), lh]
    by_cases c2 : i - 5 < body.length
    · rw [List.getElem?_map, List.getElem?_range (by rw [List.length_append]; omega), List.getElem?_map, List.getElem?_range c2]
      simp only [Option.map_some]
      rw [if_pos ⟨by omega, by rw [List.length_append]; omega⟩, if_pos ⟨by omega, c2⟩, List.getD_eq_getElem?_getD, List.getElem?_append_right (by omega), lh, ← List.getD_eq_getElem?_getD, Nat.sub_zero]
    · rw [List.getElem?_eq_none (by simp; omega), List.getElem?_eq_none (by simp; omega)]
theorem pot_eq {hd body rest : List Int32} {n : Nat} (lh : hd.length = 5) (hn : n = 5 + body.length) : po_t (hd ++ (body ++ rest)) n = pd hd ++ pd body ++ po_Ln body.length := by
  unfold po_t po_Ln pd
  have e1 : (hd ++ (body ++ rest)).take 5 = hd := by rw [List.take_append_of_le_length (by omega), List.take_of_length_le (by omega)]
  have e2 : ((hd ++ (body ++ rest)).take n).drop 5 = body := by
    rw [← List.append_assoc, List.take_append_of_le_length (by rw [List.length_append]; omega), List.take_of_length_le (by rw [List.length_append]; omega), List.drop_append_of_le_length (by omega), List.drop_of_length_le (by omega), List.nil_append]
  rw [e1, e2, lh, show n - 5 = body.length by omega, show rr_pad 5 = 11 from by decide]
  simp only [List.append_assoc]
theorem sls_eq {F : Nat → Int32} {hd body : List Int32} (lh : hd.length = 5) : sl_s F (hd ++ body) = hd ++ sl_o F body ++ po_tag (ch_o F) (pd hd ++ pd (sl_o F body) ++ po_Ln body.length) := by
  unfold sl_s sl_t
  rw [slc_eq lh]
  have := pot_eq (hd := hd) (body := sl_o F body) (rest := []) (n := (hd ++ body).length) lh (by rw [List.length_append, sl_o_ln]; omega)
  rw [List.append_nil, sl_o_ln] at this
  rw [this]
theorem tag_by (k t : List Int32) : lby (po_tag k t) := by
  unfold po_tag
  generalize po_re _ = a
  generalize po_cl k = kl
  have : ∀ m i c, lby (po_out a kl m i c) := by
    intro m
    induction m with
    | zero => intro i c; exact lby.nil
    | succ m ih =>
      intro i c x hx
      rw [po_out] at hx
      rcases List.mem_cons.mp hx with z | z
      · rw [z, nI_255, Nat.mod_mod]
      · exact ih _ _ x z
  exact this _ _ _
theorem chm_by {F : Nat → Int32} {l : List Int32} (hl : lby l) : lby (sl_o F l) := fun x hx => by
  unfold sl_o ch_m at hx
  obtain ⟨k, -, rfl⟩ := List.mem_map.mp hx
  by_cases c : 0 ≤ k ∧ k < l.length
  · rw [if_pos c, xor255, rd_gb hl k]
    unfold ch_G ch_y
    rw [and255]
  · rw [if_neg c]; exact rd_gb hl k
theorem sdI_o {I : Nat → Nat → Int32} {b a : Nat} (ha : a ≠ b + 69) : sd_I I b a = I a := by
  unfold sd_I
  by_cases c : I (b + 69) 4 = 0
  · rw [if_pos c]
  · rw [if_neg c, vu_off ha]
theorem dr_w232 {e N : Nat} {x4 : Int32} (T : dT L h) (he : e < 4) (hN : N < 33) (i6 : mm_i h 506 e = nI N) (K : ∀ h', dF (fun a k => (a = 505 ∧ k = 33 * e + N) ∨ (a = 506 ∧ k = e)) h h' → mm_i h' 505 (33 * e + N) = x4 + 5 → mm_i h' 506 e = nI (N + 1) → Q none h') : tr (jn_X12_writeRecord_232 490 (nI e) x4 h) Q := by
  unfold jn_X12_writeRecord_232
  refine tr_gr T.r16 (tr_gr T.r17 (tr_ip (dq_in T.l506 rfl he (by decide)) ?_))
  rw [rr_n (n := e) (by omega), i6, show (33 : Int32) * nI e = nI (33 * e) from pk_mul 33 e, nI_add, rr_n (n := 33 * e + N) (by omega)]
  refine dq_sk (by decide) T.l505 rfl (by omega) (by decide) (fun h1 F1 v1 => ?_)
  have T1 := T.F F1
  refine tr_gr T1.r17 (tr_ip (dq_in T1.l506 rfl he (by decide)) ?_)
  rw [F1.i (a := 506) (k := e) (by omega), i6, nI_1]
  refine dq_sk (by decide) T1.l506 rfl he (by decide) (fun h2 F2 v2 => ?_)
  refine tr_mk (K h2 ((F1.c F2).mo (fun a k z => by omega)) ?_ v2)
  rw [F2.i (by omega)]; exact v1
theorem rA.send {h h' : mm_H} {e b : Nat} {x : Int32} {l : List Int32} (A : rA h s e b) (he : e < 4) (hp : (s.2.2 b).length < 32) (hz : ∀ z ∈ s.2.2 b, z.length ≤ 600) (F : dF (fun a k => (520 ≤ a ∧ a ≤ 526) ∨ (534 ≤ a ∧ a ≤ 544) ∨ (a = 490 ∧ k = 37) ∨ (a = 504 ∧ 640 * (33 * e + (s.2.2 b).length) ≤ k ∧ k < 640 * (33 * e + (s.2.2 b).length) + 640) ∨ (a = 505 ∧ k = 33 * e + (s.2.2 b).length) ∨ ((a = 506 ∨ a = 517) ∧ k = e)) h h') (v5 : mm_i h' 505 (33 * e + (s.2.2 b).length) = nI (sd_r s.1 s.2.1 b x l).length) (v4 : bs h' 504 (640 * (33 * e + (s.2.2 b).length)) (sd_r s.1 s.2.1 b x l)) (v6 : mm_i h' 506 e = nI ((s.2.2 b).length + 1)) (v7 : mm_i h' 517 e = sd_I s.2.1 b (b + 69) 3) : rA h' (mSend s b x l) e b := by
  obtain ⟨c0, c1, c2, c3, c4, c5, c6, c7, c8, c9, c10, c11, c12, c13, c14, c15, c16, c17, c18, c19, c20, c21⟩ := A
  have eb : (mSend s b x l).2.1 b = s.2.1 b := sdI_o (by omega)
  have e76 : (mSend s b x l).2.1 (b + 76) = s.2.1 (b + 76) := sdI_o (by omega)
  have e4 : (mSend s b x l).2.1 (b + 69) 4 = s.2.1 (b + 69) 4 := sd_I4
  have ez : (mSend s b x l).2.2 b = s.2.2 b ++ [sd_r s.1 s.2.1 b x l] := vu_at
  unfold rA
  rw [eb, e76, e4, ez]
  refine ⟨by rw [F.i (by omega)]; exact c0, by rw [F.i (by omega)]; exact c1, by rw [F.i (by omega)]; exact c2, c3.F F (fun k z1 z2 => (by omega)), by rw [F.i (by omega)]; exact c4, c5.F F (fun k z1 z2 => (by omega)), by rw [F.i (by omega)]; exact c6, c7.F F (fun k z1 z2 => (by omega)), by rw [F.i (by omega)]; exact c8, by rw [F.i (by omega)]; exact c9, by rw [F.i (by omega)]; exact c10, by rw [F.i (by omega)]; exact c11, by rw [List.length_append]; exact v6, fun k r z => ?_, by rw [F.i (by omega)]; exact c14, c15.F F (fun k z1 z2 => (by omega)), by rw [F.i (by omega)]; exact c16, v7, fun z => ⟨(c18 z).1.F F (fun k z1 z2 => (by omega)), (c18 z).2⟩, by rw [F.i (by omega)]; exact c19, by rw [F.i (by omega)]; exact c20, fun z => ⟨(c21 z).1.F F (fun k z1 z2 => (by omega)), (c21 z).2⟩⟩
  by_cases c : k < (s.2.2 b).length
  · rw [List.getElem?_append_left c] at z
    obtain ⟨q1, q2⟩ := c13 k r z
    have q3 := hz r (zi_get z).2
    exact ⟨by rw [F.i (by omega)]; exact q1, q2.F F (fun j z1 z2 => (by omega))⟩
  · rw [List.getElem?_append_right (Nat.not_lt.mp c)] at z
    obtain ⟨q1, -⟩ := zi_get z
    rw [List.length_singleton] at q1
    have q4 : k = (s.2.2 b).length := by omega
    subst q4
    rw [Nat.sub_self] at z
    have : sd_r s.1 s.2.1 b x l = r := by simpa using z
    rw [← this]
    exact ⟨v5, v4⟩
theorem dr_w61 {e b : Nat} {x : Int32} {l : List Int32} {n0 : Nat} {s0 : Int32} (B : rB L h) (he : e < 4) (A : rA h s e b) (G : gO h l) (hl : l.length ≤ 400) (hb : lby l) (hp : (s.2.2 b).length < 32) (hz : ∀ z ∈ s.2.2 b, z.length ≤ 600) (ky : kI s (b + 69)) (en : n0 = if s.2.1 (b + 69) 4 = 0 then l.length else l.length + 17) (es : s0 = if s.2.1 (b + 69) 4 = 0 then x else 23) : tr (jn_X12_writeRecord_61 490 (nI e) x (nI (640 * (33 * e + (s.2.2 b).length))) (nI n0) s0 (nI (640 * (33 * e + (s.2.2 b).length))) 504 h) (fun v h' => v = none ∧ rB L h' ∧ rA h' (mSend s b x l) e b ∧ dF (zw e) h h') := by
  have A' := A
  obtain ⟨c0, c1, c2, c3, c4, c5, c6, c7, c8, c9, c10, c11, c12, c13, c14, c15, c16, c17, c18, c19, c20, c21⟩ := A'
  generalize hN : (s.2.2 b).length = N at hp c12
  generalize hat : 640 * (33 * e + N) = p
  have T := B.1
  unfold jn_X12_writeRecord_61
  refine dq_st (by decide) T.l504 rfl (by omega) (by decide) (fun h1 F1 v1 => ?_)
  have T1 := T.F F1
  refine tr_gr T1.r15 (dq_st (by decide) T1.l504 (k := p + 1) (nI_add p 1) (by omega) (by decide) (fun h2 F2 v2 => ?_))
  have T2 := T1.F F2
  refine tr_gr T2.r15 (dq_st (by decide) T2.l504 (k := p + 2) (nI_add p 2) (by omega) (by decide) (fun h3 F3 v3 => ?_))
  have T3 := T2.F F3
  refine tr_gr T3.r15 (dq_st (by decide) T3.l504 (k := p + 3) (nI_add p 3) (by omega) (by decide) (fun h4 F4 v4 => ?_))
  have T4 := T3.F F4
  refine tr_gr T4.r15 (dq_st (by decide) T4.l504 (k := p + 4) (nI_add p 4) (by omega) (by decide) (fun h5 F5 v5 => ?_))
  have T5 := T4.F F5
  have G5 : dF (fun a k => a = 504 ∧ p ≤ k ∧ k < p + 5) h h5 := ((((F1.c F2).c F3).c F4).c F5).mo (fun a k z => by omega)
  have g5 := G.F G5 (fun a k z => by omega)
  have bh5 : bs h5 504 p ([s0 &&& 255] ++ [3] ++ [3] ++ rr_num (nI n0) 2) := by
    rw [num2]
    have q1 : bs h5 504 p ([s0 &&& 255] ++ [3] ++ [3]) := ((bs.one (by rw [F5.2.2 504 _ (by omega), F4.2.2 504 _ (by omega), F3.2.2 504 _ (by omega), F2.2.2 504 _ (by omega), v1, b8_b8, b8_a])).app (bs.one (by rw [List.length_singleton, F5.2.2 504 _ (by omega), F4.2.2 504 _ (by omega), F3.2.2 504 _ (by omega)]; exact v2))).app (bs.one (by rw [List.length_append, List.length_singleton, List.length_singleton, F5.2.2 504 _ (by omega), F4.2.2 504 _ (by omega)]; exact v3))
    refine q1.app (bs.app (bs.one ?_) (bs.one ?_))
    · simp only [List.length_append, List.length_singleton, Nat.reduceAdd]; rw [F5.2.2 504 _ (by omega), v4, b8_b8, b8_a]
    · simp only [List.length_append, List.length_singleton, Nat.reduceAdd]; rw [show p + 3 + 1 = p + 4 by omega, v5, b8_b8, b8_a]
  generalize hhd : [s0 &&& 255] ++ [3] ++ [3] ++ rr_num (nI n0) 2 = hd at bh5
  have lh : hd.length = 5 := by rw [← hhd]; simp [rr_num_len]
  have hhb : lby hd := by
    rw [← hhd]
    exact (((lby.one (and255 _)).app (lby.one (by decide))).app (lby.one (by decide))).app (num_by _ _)
  refine tr_gr T5.r57 (tr_gr T5.r15 ?_)
  refine dr_mv (j := p + 5) g5.1 (Or.inl (by decide)) (by decide) 500 84480 T5.l545 T5.l504 (by omega) (by omega) (by decide) (by decide) rfl (nI_add p 5) g5.2 (by omega) (fun h6 b6 F6 => ?_)
  have T6 := T5.F F6
  have G6 : dF (fun a k => a = 504 ∧ p ≤ k ∧ k < p + 640) h h6 := (G5.c F6).mo (fun a k z => by omega)
  have g6 := G.F G6 (fun a k z => by omega)
  have bh6 : bs h6 504 p hd := bh5.F F6 (fun k z1 z2 => (by omega))
  have i615 : mm_i h6 515 e = s.2.1 (b + 69) 4 := by rw [G6.i (by omega)]; exact c16
  have i606 : mm_i h6 506 e = nI N := by rw [G6.i (by omega)]; exact c12
  refine tr_gr T6.r26 (tr_ip (dq_in T6.l515 rfl he (by decide)) ?_)
  rw [rr_n (n := e) (by omega), i615]
  by_cases w : s.2.1 (b + 69) 4 = 0
  · rw [if_pos w] at en es
    rw [if_pos w]
    refine dr_w232 T6 he (by omega) i606 (fun h7 F7 v7 v8 => ?_)
    have Fz : dF (fun a k => (520 ≤ a ∧ a ≤ 526) ∨ (534 ≤ a ∧ a ≤ 544) ∨ (a = 490 ∧ k = 37) ∨ (a = 504 ∧ 640 * (33 * e + N) ≤ k ∧ k < 640 * (33 * e + N) + 640) ∨ (a = 505 ∧ k = 33 * e + N) ∨ ((a = 506 ∨ a = 517) ∧ k = e)) h h7 := (G6.c F7).mo (fun a k z => by omega)
    have er : sd_r s.1 s.2.1 b x l = hd ++ l := by
      unfold sd_r
      rw [if_pos w, ← hhd, es, en]; rfl
    refine ⟨rfl, B.F Fz (fun a k z => by omega), ?_, Fz.mo (fun a k z => by omega)⟩
    refine A.send he (by rw [hN]; exact hp) hz (by rw [hN]; exact Fz) ?_ ?_ (by rw [hN]; exact v8) ?_
    · rw [hN, er, v7, List.length_append, lh, en, show ((5 : Int32)) = nI 5 from rfl, nI_add, Nat.add_comm]
    · rw [hN, er, hat]
      exact (bh6.F F7 (fun k z1 z2 => (by omega))).app (by rw [lh]; exact b6.F F7 (fun k z1 z2 => (by omega)))
    · unfold sd_I
      rw [if_pos w, (G6.c F7).i (by omega)]; exact c17
  · rw [if_neg w] at en es
    rw [if_neg w]
    obtain ⟨k18, l18⟩ := c18 w
    rw [g6.2, show nI p + 5 = nI (p + 5) from nI_add p 5, nI_add]
    refine tr_gr T6.r15 (dq_st (by decide) T6.l504 rfl (by omega) (by decide) (fun h7 F7 v7 => ?_))
    have T7 := T6.F F7
    have G7 : dF (fun a k => a = 504 ∧ p ≤ k ∧ k < p + 640) h h7 := (G6.c F7).mo (fun a k z => by omega)
    have B7 : rB L h7 := B.F G7 (fun a k z => by omega)
    have i717 : mm_i h7 517 e = s.2.1 (b + 69) 3 := by rw [G7.i (by omega)]; exact c17
    refine tr_gr T7.r22 (tr_gr T7.r28 (tr_ip (dq_in T7.l517 rfl he (by decide)) ?_))
    rw [i717]
    refine dr_keys B7 he (k18.F G7 (fun k z1 z2 => (by omega))) l18 (Or.inl rfl) (fun h8 W8 F8 => ?_)
    obtain ⟨y1, y2⟩ := ky w
    rw [← y1, ← y2] at W8
    generalize hF : ch_i (s.1 (b + 69 + 3)) (s.1 (b + 69 + 5)) (s.2.1 (b + 69) 3) = F at W8
    have F12 : F 12 = 0 := by rw [← hF]; exact chi_12 _ _ _
    have T8 := T7.F F8
    have g8 : gO h8 l := (G.F G7 (fun a k z => by omega)).F F8 (fun a k z => by omega)
    have bb8 : bs h8 504 (p + 5) (l ++ [x &&& 255]) := ((b6.F F7 (fun k z1 z2 => (by omega))).app (bs.one (by rw [v7, b8_b8, b8_a]))).F F8 (fun k z1 z2 => (by omega))
    have hbb : lby (l ++ [x &&& 255]) := hb.app (lby.one (and255 _))
    have lbb : (l ++ [x &&& 255]).length = l.length + 1 := by simp
    refine tr_gr T8.r15 ?_
    rw [g8.2]
    refine dr_cover 84480 T8 W8 (by decide) T8.l504 bb8 (by rw [lbb]; omega) (by rw [lbb]; omega) (by decide) rfl (by rw [lbb, nI_1]) (fun h9 b9 F9 => ?_)
    have T9 := T8.F F9
    have lo9 : (sl_o F (l ++ [x &&& 255])).length = l.length + 1 := by rw [sl_o_ln, lbb]
    rw [lbb] at F9
    refine tr_gr T9.r15 ?_
    have g9 : gO h9 l := g8.F F9 (fun a k z => by omega)
    rw [g9.2]
    have bh9 : bs h9 504 p hd := (bh6.F (F7.c F8) (fun k z1 z2 => (by omega))).F F9 (fun k z1 z2 => (by omega))
    refine dr_seal T9 (W8.F F9 (fun a k z => by omega)) F12 (by decide) T9.l504 (by decide) bh9 hhb lh b9 (chm_by hbb) (by rw [lo9]; omega) (by omega) (by rw [lo9]; omega) rfl rfl (by rw [lo9, nI_1]) (fun h10 b10 F10 => ?_)
    have T10 := T9.F F10
    rw [lo9] at b10
    refine tr_gr T10.r55 (tr_gr T10.r15 ?_)
    have g10 : gO h10 l := g9.F F10 (fun a k z => by omega)
    rw [g10.2, show nI p + 6 = nI (p + 6) from nI_add p 6, nI_add]
    refine dr_mv (l := po_tag (ch_o F) (pd hd ++ pd (sl_o F (l ++ [x &&& 255])) ++ po_Ln (l.length + 1))) (i := 0) b10 (Or.inl (by decide)) (by decide) 16 84480 T10.l543 T10.l504 (by rw [po_tag_len]; decide) (by rw [po_tag_len]; omega) (by decide) (by decide) rfl rfl (by rw [po_tag_len]; rfl) (by rw [po_tag_len]; decide) (fun h11 b11 F11 => ?_)
    rw [po_tag_len] at F11
    have T11 := T10.F F11
    have G11 : dF (fun a k => (520 ≤ a ∧ a ≤ 526) ∨ (534 ≤ a ∧ a ≤ 544) ∨ (a = 490 ∧ k = 37) ∨ (a = 504 ∧ p ≤ k ∧ k < p + 640)) h h11 := ((((G7.c F8).c F9).c F10).c F11).mo (fun a k z => by omega)
    have i1117 : mm_i h11 517 e = s.2.1 (b + 69) 3 := by rw [G11.i (by omega)]; exact c17
    refine tr_gr T11.r28 (tr_ip (dq_in T11.l517 rfl he (by decide)) ?_)
    rw [i1117]
    refine dq_sk (by decide) T11.l517 rfl he (by decide) (fun h12 F12 v12 => ?_)
    have T12 := T11.F F12
    refine dr_w232 (N := N) T12 he (by omega) (by rw [F12.i (by omega), G11.i (by omega)]; exact c12) (fun h13 F13 v13 v14 => ?_)
    have Fz : dF (fun a k => (520 ≤ a ∧ a ≤ 526) ∨ (534 ≤ a ∧ a ≤ 544) ∨ (a = 490 ∧ k = 37) ∨ (a = 504 ∧ 640 * (33 * e + N) ≤ k ∧ k < 640 * (33 * e + N) + 640) ∨ (a = 505 ∧ k = 33 * e + N) ∨ ((a = 506 ∨ a = 517) ∧ k = e)) h h13 := ((G11.c F12).c F13).mo (fun a k z => by omega)
    have er : sd_r s.1 s.2.1 b x l = hd ++ sl_o F (l ++ [x &&& 255]) ++ po_tag (ch_o F) (pd hd ++ pd (sl_o F (l ++ [x &&& 255])) ++ po_Ln (l.length + 1)) := by
      have e1 : sd_r s.1 s.2.1 b x l = sl_s F (rc_b x l) := by
        unfold sd_r
        rw [if_neg w, ← hF]
      have e2 : rc_b x l = hd ++ (l ++ [x &&& 255]) := by
        unfold rc_b
        rw [← hhd, es, en, show (23 : Int32) &&& 255 = 23 from by decide]
        simp only [List.append_assoc]
      rw [e1, e2, sls_eq lh, lbb]
    refine ⟨rfl, B.F Fz (fun a k z => by omega), ?_, Fz.mo (fun a k z => by omega)⟩
    refine A.send he (by rw [hN]; exact hp) hz (by rw [hN]; exact Fz) ?_ ?_ (by rw [hN]; exact v14) ?_
    · rw [hN, er, v13, List.length_append, List.length_append, lh, lo9, po_tag_len, en, show ((5 : Int32)) = nI 5 from rfl, nI_add]; congr 1; omega
    · rw [hN, er, hat]
      have q1 : bs h13 504 p hd := bh9.F ((F10.c F11).c (F12.c F13)) (fun k z1 z2 => (by omega))
      have q2 : bs h13 504 (p + 5) (sl_o F (l ++ [x &&& 255])) := b9.F ((F10.c F11).c (F12.c F13)) (fun k z1 z2 => by rw [lo9] at z2; omega)
      have q3 := b11.F (F12.c F13) (fun k z1 z2 => (by omega))
      refine (q1.app (by rw [lh]; exact q2)).app ?_
      rw [List.length_append, lh, lo9, show p + (5 + (l.length + 1)) = p + 6 + l.length by omega]
      exact q3
    · unfold sd_I
      rw [if_neg w, vu_at, upd_at, F13.i (by omega)]; exact v12
theorem dr_write {e b : Nat} {x : Int32} {l : List Int32} (B : rB L h) (he : e < 4) (A : rA h s e b) (G : gO h l) (hl : l.length ≤ 400) (hb : lby l) (hp : (s.2.2 b).length < 32) (hz : ∀ z ∈ s.2.2 b, z.length ≤ 600) (ky : kI s (b + 69)) (K : ∀ h', rB L h' → rA h' (mSend s b x l) e b → dF (zw e) h h' → tr (f h') Q) : tr (mm_qv (bd_X12_writeRecord 490 (nI e) x h) f) Q := by
  refine tr_v (p := fun h' => rB L h' ∧ rA h' (mSend s b x l) e b ∧ dF (zw e) h h') ?_ (fun h' q => K h' q.1 q.2.1 q.2.2)
  have A' := A
  obtain ⟨c0, c1, c2, c3, c4, c5, c6, c7, c8, c9, c10, c11, c12, c13, c14, c15, c16, c17, c18, c19, c20, c21⟩ := A'
  have T := B.1
  unfold bd_X12_writeRecord
  refine tr_gr T.r17 (tr_ip (dq_in T.l506 rfl he (by decide)) ?_)
  rw [rr_n (n := e) (by omega), c12, show (33 : Int32) * nI e = nI (33 * e) from pk_mul 33 e, nI_add, show (640 : Int32) * nI (33 * e + (s.2.2 b).length) = nI (640 * (33 * e + (s.2.2 b).length)) from pk_mul 640 _, mm_bi]
  refine tr_gr T.r26 (tr_ip (dq_in T.l515 rfl he (by decide)) ?_)
  rw [c16, G.2]
  unfold jn_X12_writeRecord_39
  by_cases w : s.2.1 (b + 69) 4 = 0
  · rw [if_pos w]
    refine tr_gr T.r15 (tr_gr T.r26 (tr_ip (dq_in T.l515 rfl he (by decide)) ?_))
    rw [rr_n (n := e) (by omega), c16, if_pos w]
    exact dr_w61 B he A G hl hb hp hz ky (by rw [if_pos w]) (by rw [if_pos w])
  · rw [if_neg w]
    refine tr_gr T.r15 (tr_gr T.r26 (tr_ip (dq_in T.l515 rfl he (by decide)) ?_))
    rw [rr_n (n := e) (by omega), c16, if_neg w, show nI l.length + 17 = nI (l.length + 17) from nI_add _ 17]
    exact dr_w61 B he A G hl hb hp hz ky (by rw [if_neg w]) (by rw [if_neg w])
end RSY
