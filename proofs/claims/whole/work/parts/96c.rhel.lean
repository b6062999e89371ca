/-! ===== the reference: hellos, FINISHED, alerts, UPDATE, secrets, failing ===== -/
theorem mSend_z {s : sT} {b : Nat} {x : Int32} {l : List Int32} : (mSend s b x l).2.2 b = s.2.2 b ++ [sd_r s.1 s.2.1 b x l] := vu_at
theorem send_hz {s : sT} {b : Nat} {x : Int32} {l : List Int32} (hz : ∀ z ∈ s.2.2 b, z.length ≤ 600) (hl : l.length ≤ 400) : ∀ z ∈ (mSend s b x l).2.2 b, z.length ≤ 600 := by
  rw [mSend_z]
  intro z hz'
  rcases List.mem_append.mp hz' with q | q
  · exact hz z q
  · rw [List.mem_singleton.mp q]
    have := sdr_ln (M := s.1) (I := s.2.1) (b := b) (x := x) (l := l)
    omega
theorem rA.l69s {h h' : mm_H} {s : sT} {e b : Nat} {x : List Int32} (A : rA h s e b) (F : dF (fun a k => (520 ≤ a ∧ a ≤ 526) ∨ (a = 490 ∧ k = 37) ∨ (a = 511 ∧ 32 * e ≤ k ∧ k < 32 * e + 32) ∨ (a = 517 ∧ k = e)) h h') (wb : bs h' 511 (32 * e) x) (lx : x.length = 32) (w4 : mm_i h' 515 e = 1) (w3 : mm_i h' 517 e = 0) : rA h' (mLoad s (b + 69) x) e b := by
  obtain ⟨c0, c1, c2, c3, c4, c5, c6, c7, c8, c9, c10, c11, c12, c13, c14, c15, c16, c17, c18, c19, c20, c21⟩ := A
  exact ⟨by rw [F.i (by omega), mlo (by omega)]; exact c0, by rw [F.i (by omega), mlo (by omega)]; exact c1, by rw [F.i (by omega), mLoad_off (by omega) (by omega) (by omega)]; exact c2, by rw [mLoad_off (by omega) (by omega) (by omega)]; exact c3.F F (fun k z1 z2 => (by omega)), by rw [F.i (by omega), mLoad_off (by omega) (by omega) (by omega)]; exact c4, by rw [mLoad_off (by omega) (by omega) (by omega)]; exact c5.F F (fun k z1 z2 => (by omega)), by rw [F.i (by omega), mLoad_off (by omega) (by omega) (by omega)]; exact c6, by rw [mLoad_off (by omega) (by omega) (by omega)]; exact c7.F F (fun k z1 z2 => (by omega)), by rw [F.i (by omega), mlo (by omega)]; exact c8, by rw [F.i (by omega), mlo (by omega)]; exact c9, by rw [F.i (by omega), mlo (by omega)]; exact c10, by rw [F.i (by omega), mlo (by omega)]; exact c11, by rw [F.i (by omega)]; exact c12, fun k l z => ⟨by rw [F.i (by omega)]; exact (c13 k l z).1, (c13 k l z).2.F F (fun j z3 z4 => (by omega))⟩, by rw [F.i (by omega), mLoad_off (by omega) (by omega) (by omega)]; exact c14, by rw [mLoad_off (by omega) (by omega) (by omega)]; exact c15.F F (fun k z1 z2 => (by omega)), by rw [ml4]; exact w4, by rw [ml3]; exact w3, fun z => by rw [show (mLoad s (b + 69) x).1 (b + 70) = x from mLoad_1]; exact ⟨wb, lx⟩, by rw [F.i (by omega), mlo (by omega)]; exact c19, by rw [F.i (by omega), mlo (by omega)]; exact c20, fun z => by rw [mlo (by omega)] at z; rw [mLoad_off (by omega) (by omega) (by omega)]; exact ⟨(c21 z).1.F F (fun k z1 z2 => (by omega)), (c21 z).2⟩⟩
theorem rA.l76s {h h' : mm_H} {s : sT} {e b : Nat} {x : List Int32} (A : rA h s e b) (F : dF (fun a k => (520 ≤ a ∧ a ≤ 526) ∨ (a = 490 ∧ k = 37) ∨ (a = 512 ∧ 32 * e ≤ k ∧ k < 32 * e + 32) ∨ (a = 518 ∧ k = e)) h h') (wb : bs h' 512 (32 * e) x) (lx : x.length = 32) (w4 : mm_i h' 516 e = 1) (w3 : mm_i h' 518 e = 0) : rA h' (mLoad s (b + 76) x) e b := by
  obtain ⟨c0, c1, c2, c3, c4, c5, c6, c7, c8, c9, c10, c11, c12, c13, c14, c15, c16, c17, c18, c19, c20, c21⟩ := A
  exact ⟨by rw [F.i (by omega), mlo (by omega)]; exact c0, by rw [F.i (by omega), mlo (by omega)]; exact c1, by rw [F.i (by omega), mLoad_off (by omega) (by omega) (by omega)]; exact c2, by rw [mLoad_off (by omega) (by omega) (by omega)]; exact c3.F F (fun k z1 z2 => (by omega)), by rw [F.i (by omega), mLoad_off (by omega) (by omega) (by omega)]; exact c4, by rw [mLoad_off (by omega) (by omega) (by omega)]; exact c5.F F (fun k z1 z2 => (by omega)), by rw [F.i (by omega), mLoad_off (by omega) (by omega) (by omega)]; exact c6, by rw [mLoad_off (by omega) (by omega) (by omega)]; exact c7.F F (fun k z1 z2 => (by omega)), by rw [F.i (by omega), mlo (by omega)]; exact c8, by rw [F.i (by omega), mlo (by omega)]; exact c9, by rw [F.i (by omega), mlo (by omega)]; exact c10, by rw [F.i (by omega), mlo (by omega)]; exact c11, by rw [F.i (by omega)]; exact c12, fun k l z => ⟨by rw [F.i (by omega)]; exact (c13 k l z).1, (c13 k l z).2.F F (fun j z3 z4 => (by omega))⟩, by rw [F.i (by omega), mLoad_off (by omega) (by omega) (by omega)]; exact c14, by rw [mLoad_off (by omega) (by omega) (by omega)]; exact c15.F F (fun k z1 z2 => (by omega)), by rw [F.i (by omega), mlo (by omega)]; exact c16, by rw [F.i (by omega), mlo (by omega)]; exact c17, fun z => by rw [mlo (by omega)] at z; rw [mLoad_off (by omega) (by omega) (by omega)]; exact ⟨(c18 z).1.F F (fun k z1 z2 => (by omega)), (c18 z).2⟩, by rw [ml4]; exact w4, by rw [ml3]; exact w3, fun z => by rw [show (mLoad s (b + 76) x).1 (b + 77) = x from mLoad_1]; exact ⟨wb, lx⟩⟩
abbrev zH (e a k : Nat) : Prop := zM e a k ∨ zi e a k
section RHL
variable {L : Nat} {h : mm_H} {s : sT} {e b : Nat} {f : mm_H → mm_O} {g : Int32 → mm_H → mm_O} {Q : Option Value → mm_H → Prop}
theorem dr_hel1 {rnd name : List Int32} (T : dT L h) (he : e < 4) (c7 : bs h 498 (32 * e) rnd) (y98 : lby rnd) (hr : rnd.length = 32) (c5 : bs h 496 (16 * e) name) (y96 : lby name) (z96 : name.length ≤ 16) (K : ∀ h', gO h' ([(1 : Int32) &&& 255, 0, 0, 0] ++ ch_b rnd name) → dF zy h h' → tr (f h') Q) : tr (mm_qv (bd_X12_beginMessage 490 1 h) (fun h5 =>
  mm_qv (bd_X12_sayTwo 490 771 h5) (fun h8 =>
  mm_gr h8 490 9 (fun b11 =>
  mm_qv (bd_X12_sayRow 490 b11 (nI (32 * e)) 32 h8) (fun h13 =>
  mm_qv (bd_X12_sayByte 490 0 h13) (fun h16 =>
  mm_qv (bd_X12_sayTwo 490 2 h16) (fun h19 =>
  mm_qv (bd_X12_sayTwo 490 4867 h19) (fun h22 =>
  mm_qv (bd_X12_sayTwo 490 256 h22) (fun h25 =>
  mm_qv (bd_X12_sayTwo 490 ((60 : Int32) + nI name.length) h25) (fun h28 =>
  mm_qv (bd_X12_sayTwo 490 43 h28) (fun h31 =>
  mm_qv (bd_X12_sayTwo 490 3 h31) (fun h34 =>
  mm_qv (bd_X12_sayByte 490 2 h34) (fun h37 =>
  mm_qv (bd_X12_sayTwo 490 772 h37) (fun h40 =>
  mm_qv (bd_X12_sayTwo 490 45 h40) (fun h43 =>
  mm_qv (bd_X12_sayTwo 490 2 h43) (fun h46 =>
  mm_qv (bd_X12_sayTwo 490 256 h46) (fun h49 =>
  mm_qv (bd_X12_sayTwo 490 41 h49) (fun h52 =>
  mm_qv (bd_X12_sayTwo 490 (nI name.length + (43 : Int32)) h52) (fun h55 =>
  mm_qv (bd_X12_sayTwo 490 (nI name.length + (6 : Int32)) h55) (fun h58 =>
  mm_qv (bd_X12_sayTwo 490 (nI name.length) h58) (fun h61 =>
  mm_gr h61 490 7 (fun b64 =>
  mm_qv (bd_X12_sayRow 490 b64 (nI (16 * e)) (nI name.length) h61) (fun h66 =>
  mm_qv (bd_X12_sayTwo 490 0 h66) (fun h69 =>
  mm_qv (bd_X12_sayTwo 490 0 h69) f)))))))))))))))))))))))) Q := by
  refine dr_begM T (fun h1 G1 F1 => ?_)
  refine dr_sayT (T.F F1) G1 (by simp) (fun h2 G2 F2 => ?_)
  have U2 := F1.t F2
  refine tr_gr (T.F U2).r9 ?_
  refine dr_sayR 128 (T.F U2) (T.F U2).l498 (c7.F U2 (fun k _ _ => (by omega))) y98 (by decide) (by omega) (by decide) G2 (by simp [rr_num_len, hr]) rfl (by rw [hr]; rfl) (fun h3 G3 F3 => ?_)
  have U3 := U2.t F3
  refine dr_sayB (T.F U3) G3 (by simp [rr_num_len, hr]) (fun h4 G4 F4 => ?_)
  have U4 := U3.t F4
  refine dr_sayT (T.F U4) G4 (by simp [rr_num_len, hr]) (fun h5 G5 F5 => ?_)
  have U5 := U4.t F5
  refine dr_sayT (T.F U5) G5 (by simp [rr_num_len, hr]) (fun h6 G6 F6 => ?_)
  have U6 := U5.t F6
  refine dr_sayT (T.F U6) G6 (by simp [rr_num_len, hr]) (fun h7 G7 F7 => ?_)
  have U7 := U6.t F7
  refine dr_sayT (T.F U7) G7 (by simp [rr_num_len, hr]) (fun h8 G8 F8 => ?_)
  have U8 := U7.t F8
  refine dr_sayT (T.F U8) G8 (by simp [rr_num_len, hr]) (fun h9 G9 F9 => ?_)
  have U9 := U8.t F9
  refine dr_sayT (T.F U9) G9 (by simp [rr_num_len, hr]) (fun h10 G10 F10 => ?_)
  have U10 := U9.t F10
  refine dr_sayB (T.F U10) G10 (by simp [rr_num_len, hr]) (fun h11 G11 F11 => ?_)
  have U11 := U10.t F11
  refine dr_sayT (T.F U11) G11 (by simp [rr_num_len, hr]) (fun h12 G12 F12 => ?_)
  have U12 := U11.t F12
  refine dr_sayT (T.F U12) G12 (by simp [rr_num_len, hr]) (fun h13 G13 F13 => ?_)
  have U13 := U12.t F13
  refine dr_sayT (T.F U13) G13 (by simp [rr_num_len, hr]) (fun h14 G14 F14 => ?_)
  have U14 := U13.t F14
  refine dr_sayT (T.F U14) G14 (by simp [rr_num_len, hr]) (fun h15 G15 F15 => ?_)
  have U15 := U14.t F15
  refine dr_sayT (T.F U15) G15 (by simp [rr_num_len, hr]) (fun h16 G16 F16 => ?_)
  have U16 := U15.t F16
  refine dr_sayT (T.F U16) G16 (by simp [rr_num_len, hr]) (fun h17 G17 F17 => ?_)
  have U17 := U16.t F17
  refine dr_sayT (T.F U17) G17 (by simp [rr_num_len, hr]) (fun h18 G18 F18 => ?_)
  have U18 := U17.t F18
  refine dr_sayT (T.F U18) G18 (by simp [rr_num_len, hr]) (fun h19 G19 F19 => ?_)
  have U19 := U18.t F19
  refine tr_gr (T.F U19).r7 ?_
  refine dr_sayR 64 (T.F U19) (T.F U19).l496 (c5.F U19 (fun k _ _ => (by omega))) y96 (by decide) (by omega) (by decide) G19 (by simp [rr_num_len, hr]; omega) rfl rfl (fun h20 G20 F20 => ?_)
  have U20 := U19.t F20
  refine dr_sayT (T.F U20) G20 (by simp [rr_num_len, hr]; omega) (fun h21 G21 F21 => ?_)
  have U21 := U20.t F21
  refine dr_sayT (T.F U21) G21 (by simp [rr_num_len, hr]; omega) (fun h22 G22 F22 => ?_)
  have U22 := U21.t F22
  refine K _ ?_ U22
  unfold ch_b
  simp only [List.append_assoc] at G22
  exact G22
theorem dr_hello {psk rnd name : List Int32} (B : rB L h) (he : e < 4) (A : rA h s e b) (e94 : s.1 (b + 94) = psk) (e96 : s.1 (b + 96) = name) (e98 : s.1 (b + 98) = rnd) (Z : rZ s b) (hr : rnd.length = 32) (R : rT h [] e) (hp : (s.2.2 b).length < 32) (ky : kI s (b + 69)) (K : ∀ h', rB L h' → rA h' (mSend s b 22 (ms_cb psk rnd name)) e b → rT h' (ms_cb psk rnd name) e → bs h' 514 (32 * e) (ks_m psk) → dF (zH e) h h' → tr (f h') Q) : tr (mm_qv (bd_X12_sayHello 490 (nI e) h) f) Q := by
  refine tr_v (p := fun h' => rB L h' ∧ rA h' (mSend s b 22 (ms_cb psk rnd name)) e b ∧ rT h' (ms_cb psk rnd name) e ∧ bs h' 514 (32 * e) (ks_m psk) ∧ dF (zH e) h h') ?_ (fun h' q => K h' q.1 q.2.1 q.2.2.1 q.2.2.2.1 q.2.2.2.2)
  have A' := A
  obtain ⟨c0, c1, c2, c3, c4, c5, c6, c7, c8, c9, c10, c11, c12, c13, c14, c15, c16, c17, c18, c19, c20, c21⟩ := A'
  obtain ⟨⟨z94, y94⟩, ⟨z96, y96⟩, ⟨z98, y98⟩, -, -, -, -, zl⟩ := Z
  rw [e94] at c2 c3 z94 y94
  rw [e96] at c4 c5 z96 y96
  rw [e98] at c7 z98 y98
  have hz : ∀ z ∈ s.2.2 b, z.length ≤ 600 := fun z hz => (zl z hz).1
  have T := B.1
  unfold bd_X12_sayHello
  refine tr_gr T.r8 (tr_ip (dq_in T.l497 rfl he (by decide)) ?_)
  rw [rr_n (n := e) (by omega), c4, mm_bi, show (32 : Int32) * nI e = nI (32 * e) from pk_mul 32 e, show (16 : Int32) * nI e = nI (16 * e) from pk_mul 16 e]
  refine dr_hel1 T he c7 y98 hr c5 y96 z96 (fun h22 G22' U22 => ?_)
  have lb4 : ([(1 : Int32) &&& 255, 0, 0, 0] ++ ch_b rnd name).length = 72 + name.length := by rw [List.length_append, chb_ln, hr]; simp; omega
  have T22 := T.F U22
  refine tr_gr T22.r57 (dq_st (by decide) T22.l545 (k := 2) rfl (by decide) (by decide) (fun h23 F23 v23 => ?_))
  have T23 := T22.F F23
  rw [F23.i (a := 490) (k := 58) (by omega), G22'.2, lb4]
  refine tr_gr T23.r57 (dq_st (by decide) T23.l545 (k := 3) rfl (by decide) (by decide) (fun h24 F24 v24 => ?_))
  have U24 : dF zy h h24 := (U22.c (F23.c F24)).mo (fun a k z => by omega)
  have B24 : rB L h24 := B.F U24 (fun a k z => by omega)
  have G24 : gO h24 (ms_ch rnd name) := by
    rw [ch_eq, msh_eq (by omega), sh0 _ (by omega)]
    refine go_fix G22' F23 v23 F24 ?_
    rw [v24, b8_b8, b8_a, show nI (72 + name.length) + 35 - 4 = nI (103 + name.length) from by rw [show ((35 : Int32)) = nI 35 from rfl, nI_add, show ((4 : Int32)) = nI 4 from rfl, nI_sb (by omega)]; congr 1; omega]
  have lch : (ms_ch rnd name).length = 72 + name.length := by rw [ms_ch_ln, hr]
  have hch : lby (ms_ch rnd name) := by
    rw [ch_eq]
    unfold ms_h
    exact ((lby.one (and255 _)).app (num_by _ _)).app (chb_by y98 y96)
  refine tr_gr B24.1.r57 ?_
  refine dr_bind B24 he (c3.F U24 (fun k _ _ => (by omega))) y94 z94 (by rw [U24.i (by omega)]; exact c2) G24.1 hch (by rw [lch]; omega) (Or.inl rfl) B24.1.l545 (by rw [lch]; omega) (by decide) rfl G24.2 (fun h25 B25 b25 m25 F25 => ?_)
  have G25 : gO h25 (ms_ch rnd name) := G24.F F25 (fun a k z => by omega)
  refine dr_sayT B25.1 G25 (by rw [lch]; omega) (fun h26 G26 F26 => ?_)
  refine dr_sayB (B25.1.F F26) G26 (by rw [List.length_append, lch, rr_num_len]; omega) (fun h27 G27 F27 => ?_)
  have U27 := F26.t F27
  have T27 := B25.1.F U27
  refine tr_gr T27.r59 ?_
  refine dr_sayR 32 T27 T27.l546 (b25.F U27 (fun k _ _ => (by omega))) (ksp_by _ _) (by decide) (by rw [ksp_ln]; decide) (by decide) G27 (by rw [List.length_append, List.length_append, lch, rr_num_len, List.length_singleton, ksp_ln]; omega) rfl (by rw [ksp_ln]; rfl) (fun h28 G28 F28 => ?_)
  have U28 := U27.t F28
  have B28 : rB L h28 := B25.F U28 (fun a k z => by omega)
  have V28 := (U24.c F25).c U28
  have A28 : rA h28 s e b := A.S V28 (fun a k z => by omega)
  have R28 : rT h28 [] e := R.F V28 (by decide) (fun a k z => by omega)
  have hbd : lby (ch_b rnd name ++ (rr_num 33 2 ++ ([(32 : Int32) &&& 255] ++ ks_p (ks_b psk) (ms_ch rnd name)))) := (chb_by y98 y96).app ((num_by _ _).app ((lby.one (and255 _)).app (ksp_by _ _)))
  have lbd : (ch_b rnd name ++ (rr_num 33 2 ++ ([(32 : Int32) &&& 255] ++ ks_p (ks_b psk) (ms_ch rnd name)))).length = 103 + name.length := by
    simp only [List.length_append, chb_ln, rr_num_len, List.length_singleton, ksp_ln]; omega
  have G28' : gO h28 ([(1 : Int32) &&& 255, 0, mm_shr (nI (103 + name.length)) 8 &&& 255, nI (103 + name.length) &&& 255] ++ (ch_b rnd name ++ (rr_num 33 2 ++ ([(32 : Int32) &&& 255] ++ ks_p (ks_b psk) (ms_ch rnd name))))) := by
    generalize ks_p (ks_b psk) (ms_ch rnd name) = P at G28 ⊢
    rw [ch_eq, msh_eq (by omega)] at G28
    simp only [List.append_assoc] at G28 ⊢
    exact G28
  refine dr_endM1 B28 he A28 R28 (by rw [lbd]; simp; omega) G28' hbd hp hz ky (fun h29 B29 A29 R29 F29 => ?_)
  rw [← cb_eq psk rnd name hr z96] at A29 R29
  rw [List.nil_append] at R29
  refine tr_mk ⟨rfl, B29, A29, R29, m25.F (U28.c F29) (fun k _ _ => (by omega)), (V28.c F29).mo (fun a k z => by
    rcases z with ((z | z) | z) | z
    · exact Or.inl (by omega)
    · exact Or.inr z
    · exact Or.inl (by omega)
    · exact Or.inl z)⟩
end RHL
