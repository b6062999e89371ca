/-! ===== the law's start, in the words of the small machine ===== -/
def st_ad (b : Nat) (ts adK adV : Nat → Nat) (z : Nat) (a : Nat) : Nat := if a = 0 then b else if a < 10 then ts a else if a < 21 then adK (a - 10) else if a < 32 then adV (a - 21) else z + (a - 32)
theorem st_wf (L : Nat) (xs : Nat → Int32) : mm_Wf (st_h L xs) := by
  refine ⟨fun a h1 h2 => ?_, fun a ha => ?_, Nat.le_refl _⟩
  · have h2 : a < 32 := h2
    omega
  · rcases (by omega : a = 0 ∨ a = 1 ∨ a = 2 ∨ a = 3 ∨ a = 4 ∨ a = 5 ∨ a = 6 ∨ a = 7 ∨ a = 8 ∨ a = 9 ∨ a = 10 ∨ a = 11 ∨ a = 12 ∨ a = 13 ∨ a = 14 ∨ a = 15 ∨ a = 16 ∨ a = 17 ∨ a = 18 ∨ a = 19 ∨ a = 20 ∨ a = 21 ∨ a = 22 ∨ a = 23 ∨ a = 24 ∨ a = 25 ∨ a = 26 ∨ a = 27 ∨ a = 28 ∨ a = 29 ∨ a = 30 ∨ a = 31) with rfl | rfl | rfl | rfl | rfl | rfl | rfl | rfl | rfl | rfl | rfl | rfl | rfl | rfl | rfl | rfl | rfl | rfl | rfl | rfl | rfl | rfl | rfl | rfl | rfl | rfl | rfl | rfl | rfl | rfl | rfl | rfl
    · exact Or.inl ⟨by decide, rfl⟩
    · exact Or.inl ⟨by decide, rfl⟩
    · exact Or.inl ⟨by decide, rfl⟩
    · exact Or.inl ⟨by decide, rfl⟩
    · exact Or.inl ⟨by decide, rfl⟩
    · exact Or.inl ⟨by decide, rfl⟩
    · exact Or.inl ⟨by decide, rfl⟩
    · exact Or.inl ⟨by decide, rfl⟩
    · exact Or.inl ⟨by decide, rfl⟩
    · exact Or.inl ⟨by decide, rfl⟩
    · exact Or.inr (Or.inl ⟨by decide, by decide, rfl⟩)
    · exact Or.inr (Or.inl ⟨by decide, by decide, rfl⟩)
    · exact Or.inr (Or.inl ⟨by decide, by decide, rfl⟩)
    · exact Or.inr (Or.inl ⟨by decide, by decide, rfl⟩)
    · exact Or.inr (Or.inl ⟨by decide, by decide, rfl⟩)
    · exact Or.inr (Or.inl ⟨by decide, by decide, rfl⟩)
    · exact Or.inr (Or.inl ⟨by decide, by decide, rfl⟩)
    · exact Or.inr (Or.inl ⟨by decide, by decide, rfl⟩)
    · exact Or.inr (Or.inl ⟨by decide, by decide, rfl⟩)
    · exact Or.inr (Or.inl ⟨by decide, by decide, rfl⟩)
    · exact Or.inr (Or.inl ⟨by decide, by decide, rfl⟩)
    · exact Or.inr (Or.inr ⟨by decide, rfl⟩)
    · exact Or.inr (Or.inr ⟨by decide, rfl⟩)
    · exact Or.inr (Or.inr ⟨by decide, rfl⟩)
    · exact Or.inr (Or.inr ⟨by decide, rfl⟩)
    · exact Or.inr (Or.inr ⟨by decide, rfl⟩)
    · exact Or.inr (Or.inr ⟨by decide, rfl⟩)
    · exact Or.inr (Or.inr ⟨by decide, rfl⟩)
    · exact Or.inr (Or.inr ⟨by decide, rfl⟩)
    · exact Or.inr (Or.inr ⟨by decide, rfl⟩)
    · exact Or.inr (Or.inr ⟨by decide, rfl⟩)
    · exact Or.inr (Or.inr ⟨by decide, rfl⟩)
theorem su_0 : ∀ w ∈ u_ws RX0 TX0 18, w ∈ lw_tbl := fun w hw => (List.mem_filter.mp (cl_0.2.1 w hw)).1
theorem su_1 : ∀ w ∈ u_ws RX1 TX1 7, w ∈ lw_tbl := fun w hw => (List.mem_filter.mp (cl_1.2.1 w hw)).1
theorem su_2 : ∀ w ∈ u_ws RX2 TX2 5, w ∈ lw_tbl := fun w hw => (List.mem_filter.mp (cl_2.2.1 w hw)).1
theorem su_3 : ∀ w ∈ u_ws RX4 TX4 2, w ∈ lw_tbl := fun w hw => (List.mem_filter.mp (cl_3.2.1 w hw)).1
theorem su_4 : ∀ w ∈ u_ws RX5 TX5 3, w ∈ lw_tbl := fun w hw => (List.mem_filter.mp (cl_4.2.1 w hw)).1
theorem su_5 : ∀ w ∈ u_ws RX6 TX6 2, w ∈ lw_tbl := fun w hw => (List.mem_filter.mp (cl_5.2.1 w hw)).1
theorem su_6 : ∀ w ∈ u_ws RX7 TX7 6, w ∈ lw_tbl := fun w hw => (List.mem_filter.mp (cl_6.2.1 w hw)).1
theorem su_7 : ∀ w ∈ u_ws RX8 TX8 6, w ∈ lw_tbl := fun w hw => (List.mem_filter.mp (cl_7.2.1 w hw)).1
theorem su_8 : ∀ w ∈ u_ws RX9 TX9 2, w ∈ lw_tbl := fun w hw => (List.mem_filter.mp (cl_8.2.1 w hw)).1
theorem su_9 : ∀ w ∈ u_ws RX10 TX10 11, w ∈ lw_tbl := fun w hw => (List.mem_filter.mp (cl_9.2.1 w hw)).1
theorem su_10 : ∀ w ∈ u_ws RX11 TX11 4, w ∈ lw_tbl := fun w hw => (List.mem_filter.mp (cl_10.2.1 w hw)).1
theorem su_11 : ∀ w ∈ u_ws RX12 TX12 66, w ∈ lw_tbl := fun w hw => (List.mem_filter.mp (cl_11.2.1 w hw)).1
set_option maxHeartbeats 4000000 in
set_option maxRecDepth 100000 in
theorem st_all {p : Program} {s : State} {m : MethodId} {meth : Method} {c : Code} (l : Launch) {b L : Nat} {xs : Nat → Int32} (hL : L ≤ 3072) (C0 : lw_At p s m meth c b L xs) : ∃ G : mm_G, G.1 = l ∧ G.2.1 0 = b ∧ G.2.2.2.2.1 = s.heap.size ∧ G.2.2.2.2.2 = st_h L xs ∧ mm_Ctx G my_L_law p room_1 s m #[Value.ref b] meth c ∧ mm_Now G (st_h L xs) s s.heap [] := by
  obtain ⟨hx, hb, hr, hml, hown, hts, hX, hbl, hlocks, hgv⟩ := C0
  have hn := cb_r hgv
  have hA : ∀ a : Nat, a < s.heap.size → ¬ (fun q : Nat => s.heap.size ≤ q) a := fun a h => Nat.not_le.mpr h
  obtain ⟨t1, z1, T1⟩ := sz_1 hn hts hA
  obtain ⟨t2, z2, T2⟩ := sz_2 hn hts hA
  obtain ⟨t3, z3, T3⟩ := sz_3 hn hts hA
  obtain ⟨t4, z4, T4⟩ := sz_4 hn hts hA
  obtain ⟨t5, z5, T5⟩ := sz_5 hn hts hA
  obtain ⟨t6, z6, T6⟩ := sz_6 hn hts hA
  obtain ⟨t7, z7, T7⟩ := sz_7 hn hts hA
  obtain ⟨t8, z8, T8⟩ := sz_8 hn hts hA
  obtain ⟨t9, z9, T9⟩ := sz_9 hn hts hA
  obtain ⟨adK, adV, hS, hE⟩ := st_S hn hA
  obtain ⟨c0, i0, u0⟩ := u_known (C := RX0) (T := TX0) (N := 18) (n := 18) hts su_0 (hts _ (List.mem_filter.mp wd_289).1)
  obtain ⟨c1, i1, u1⟩ := u_known (C := RX1) (T := TX1) (N := 7) (n := 7) hts su_1 (hts _ (List.mem_filter.mp wd_160).1)
  obtain ⟨c2, i2, u2⟩ := u_known (C := RX2) (T := TX2) (N := 5) (n := 5) hts su_2 (hts _ (List.mem_filter.mp wd_315).1)
  obtain ⟨c3, i3, u3⟩ := u_known (C := RX4) (T := TX4) (N := 2) (n := 2) hts su_3 (hts _ (List.mem_filter.mp wd_295).1)
  obtain ⟨c4, i4, u4⟩ := u_known (C := RX5) (T := TX5) (N := 3) (n := 3) hts su_4 (hts _ (List.mem_filter.mp wd_201).1)
  obtain ⟨c5, i5, u5⟩ := u_known (C := RX6) (T := TX6) (N := 2) (n := 2) hts su_5 (hts _ (List.mem_filter.mp wd_108).1)
  obtain ⟨c6, i6, u6⟩ := u_known (C := RX7) (T := TX7) (N := 6) (n := 6) hts su_6 (hts _ (List.mem_filter.mp wd_347).1)
  obtain ⟨c7, i7, u7⟩ := u_known (C := RX8) (T := TX8) (N := 6) (n := 6) hts su_7 (hts _ (List.mem_filter.mp wd_195).1)
  obtain ⟨c8, i8, u8⟩ := u_known (C := RX9) (T := TX9) (N := 2) (n := 2) hts su_8 (hts _ (List.mem_filter.mp wd_143).1)
  obtain ⟨c9, i9, u9⟩ := u_known (C := RX10) (T := TX10) (N := 11) (n := 11) hts su_9 (hts _ (List.mem_filter.mp wd_137).1)
  obtain ⟨c10, i10, u10⟩ := u_known (C := RX11) (T := TX11) (N := 4) (n := 4) hts su_10 (hts _ (List.mem_filter.mp wd_100).1)
  obtain ⟨c11, i11, u11⟩ := u_known (C := RX12) (T := TX12) (N := 66) (n := 66) hts su_11 (hts _ (List.mem_filter.mp wd_958).1)
  obtain ⟨r20, e20, f20, g20, j20, k20⟩ := Cond.arrayClass_spec (hts _ (List.mem_filter.mp wd_135).1)
  obtain ⟨r21, e21, f21, g21, j21, k21⟩ := Cond.arrayClass_spec (hts _ (List.mem_filter.mp wd_725).1)
  obtain ⟨r22, e22, f22, g22, j22, k22⟩ := Cond.arrayClass_spec (hts _ (List.mem_filter.mp wd_1231).1)
  obtain ⟨r23, e23, f23, g23, j23, k23⟩ := Cond.arrayClass_spec (hts _ (List.mem_filter.mp wd_216).1)
  have ao24 : (Cond.arrayOver (.object RX6)).before #[Value.ref b] s = true := hts _ (List.mem_of_getElem? (i := 301) (by decide +kernel))
  obtain ⟨e24, r24, f24, q24, w24, g24, j24, k24⟩ := Cond.arrayOver_spec ao24
  have ao25 : (Cond.arrayOver (.object RX0)).before #[Value.ref b] s = true := hts _ (List.mem_of_getElem? (i := 288) (by decide +kernel))
  obtain ⟨e25, r25, f25, q25, w25, g25, j25, k25⟩ := Cond.arrayOver_spec ao25
  obtain ⟨v9, h9, h9r⟩ := Cond.isRef_spec (st_F hn)
  have zF := va_Zof (A := fun q : Nat => s.heap.size ≤ q) (hts _ (List.mem_of_getElem? (i := 578) (by decide +kernel))) (hts _ (List.mem_filter.mp wd_96).1) h9 hA
  have zC := va_Zof (A := fun q : Nat => s.heap.size ≤ q) (hts _ (List.mem_of_getElem? (i := 557) (by decide +kernel))) (hts _ (List.mem_filter.mp wd_94).1) (va_eqt (st_P hn)) hA
  let G : mm_G := (l, st_ad b (fun a => match a with | 1 => t1 | 2 => t2 | 3 => t3 | 4 => t4 | 5 => t5 | 6 => t6 | 7 => t7 | 8 => t8 | _ => t9) adK adV s.heap.size, (fun c => match c with | 0 => c0 | 1 => c1 | 2 => c2 | 3 => c3 | 4 => c4 | 5 => c5 | 6 => c6 | 7 => c7 | 8 => c8 | 9 => c9 | 10 => c10 | _ => c11, fun c => match c with | 0 => i0 | 1 => i1 | 2 => i2 | 3 => i3 | 4 => i4 | 5 => i5 | 6 => i6 | 7 => i7 | 8 => i8 | 9 => i9 | 10 => i10 | _ => i11), fun k => match k with | 20 => r20 | 21 => r21 | 22 => r22 | 23 => r23 | 24 => r24 | _ => r25, s.heap.size, st_h L xs)
  have hK : va_K G.2.2.1 vwCl (mm_tys G) s := by
    refine ⟨fun n q hq => ?_, fun n q hq => ?_⟩
    · match n, hq with
      | 0, hq => cases hq; exact u0
      | 1, hq => cases hq; exact u1
      | 2, hq => cases hq; exact u2
      | 3, hq => cases hq; exact u3
      | 4, hq => cases hq; exact u4
      | 5, hq => cases hq; exact u5
      | 6, hq => cases hq; exact u6
      | 7, hq => cases hq; exact u7
      | 8, hq => cases hq; exact u8
      | 9, hq => cases hq; exact u9
      | 10, hq => cases hq; exact u10
      | 11, hq => cases hq; exact u11
      | n + 12, hq => cases hq
    · match n, hq with
      | 0, hq => cases hq; exact ⟨fun N z => ⟨fun k h => (by cases h), e20, j20, f20, k20⟩, g20⟩
      | 1, hq => cases hq; exact ⟨fun N z => ⟨fun k h => (by cases h), e21, j21, f21, k21⟩, g21⟩
      | 2, hq => cases hq; exact ⟨fun N z => ⟨fun k h => (by cases h), e22, j22, f22, k22⟩, g22⟩
      | 3, hq => cases hq; exact ⟨fun N z => ⟨fun k h => (by cases h), e23, j23, f23, k23⟩, g23⟩
      | 4, hq => cases hq; exact ⟨fun N z => ⟨fun k h => (by cases h), f24, g24, e24, j24⟩, f24, e24, g24, j24, q24, k24⟩
      | 5, hq => cases hq; exact ⟨fun N z => ⟨fun k h => (by cases h), f25, g25, e25, j25⟩, f25, e25, g25, j25, q25, k25⟩
      | n + 6, hq => cases hq
  have hR : mm_RO G mm_strs s s.heap := by
    refine ⟨fun q hq => ?_, fun a ha => ?_, fun q hq => ?_, fun i hi => ?_, zC, ⟨ao24, ao25⟩, v9, zF, ?_⟩
    · simp only [mm_sta, List.mem_cons, List.not_mem_nil, or_false] at hq
      rcases hq with rfl | rfl | rfl | rfl | rfl | rfl | rfl | rfl | rfl
      · exact z1
      · exact z2
      · exact z3
      · exact z4
      · exact z5
      · exact z6
      · exact z7
      · exact z8
      · exact z9
    · rcases (by omega : a = 0 ∨ a = 1 ∨ a = 2 ∨ a = 3 ∨ a = 4 ∨ a = 5 ∨ a = 6 ∨ a = 7 ∨ a = 8 ∨ a = 9) with rfl | rfl | rfl | rfl | rfl | rfl | rfl | rfl | rfl | rfl
      · obtain ⟨scr, x1, x2, x3, x4, x5⟩ := hX
        exact ⟨scr, x1, x2, x3, by rw [x4]; exact Nat.le_refl _, by rw [x4]; rfl, x5, hA b hbl⟩
      · exact T1
      · exact T2
      · exact T3
      · exact T4
      · exact T5
      · exact T6
      · exact T7
      · exact T8
      · exact T9
    · simp only [mm_strs, List.mem_cons, List.not_mem_nil, or_false] at hq
      rcases hq with rfl | rfl | rfl | rfl | rfl | rfl | rfl | rfl | rfl | rfl | rfl
      · exact vk_R.of (hts _ (List.mem_of_getElem? (i := 541) (by decide +kernel))) (hE 0 (by decide))
      · exact vk_R.of (hts _ (List.mem_of_getElem? (i := 547) (by decide +kernel))) (hE 1 (by decide))
      · exact vk_R.of (hts _ (List.mem_of_getElem? (i := 607) (by decide +kernel))) (hE 2 (by decide))
      · exact vk_R.of (hts _ (List.mem_of_getElem? (i := 630) (by decide +kernel))) (hE 3 (by decide))
      · exact vk_R.of (hts _ (List.mem_of_getElem? (i := 745) (by decide +kernel))) (hE 4 (by decide))
      · exact vk_R.of (hts _ (List.mem_of_getElem? (i := 751) (by decide +kernel))) (hE 5 (by decide))
      · exact vk_R.of (hts _ (List.mem_of_getElem? (i := 752) (by decide +kernel))) (hE 6 (by decide))
      · exact vk_R.of (hts _ (List.mem_of_getElem? (i := 877) (by decide +kernel))) (hE 7 (by decide))
      · exact vk_R.of (hts _ (List.mem_of_getElem? (i := 878) (by decide +kernel))) (hE 8 (by decide))
      · exact vk_R.of (hts _ (List.mem_of_getElem? (i := 882) (by decide +kernel))) (hE 9 (by decide))
      · exact vk_R.of (hts _ (List.mem_of_getElem? (i := 891) (by decide +kernel))) (hE 10 (by decide))
    · rcases (by omega : i = 0 ∨ i = 1 ∨ i = 2 ∨ i = 3 ∨ i = 4 ∨ i = 5 ∨ i = 6 ∨ i = 7 ∨ i = 8 ∨ i = 9 ∨ i = 10) with rfl | rfl | rfl | rfl | rfl | rfl | rfl | rfl | rfl | rfl | rfl
      · exact hS.1 0 (by decide)
      · exact hS.1 1 (by decide)
      · exact hS.1 2 (by decide)
      · exact hS.1 3 (by decide)
      · exact hS.1 4 (by decide)
      · exact hS.1 5 (by decide)
      · exact hS.1 6 (by decide)
      · exact hS.1 7 (by decide)
      · exact hS.1 8 (by decide)
      · exact hS.1 9 (by decide)
      · exact hS.1 10 (by decide)
    · cases v9 <;> first | exact Or.inl rfl | exact Or.inr ⟨_, rfl⟩ | (exact absurd h9r (by simp [Value.isRef]))
  refine ⟨G, rfl, rfl, rfl, rfl, ⟨⟨hx, hb, hml, hown, fun w hw => hts w (List.mem_filter.mp hw).1, by decide, by decide⟩, ⟨hr, hlocks, fun z => absurd z (by decide)⟩, hR, hK, fun a ha => ?_, (st_wf L xs).2.1, Nat.le_refl _⟩, ?_⟩
  · change st_ad b (fun a => match a with | 1 => t1 | 2 => t2 | 3 => t3 | 4 => t4 | 5 => t5 | 6 => t6 | 7 => t7 | 8 => t8 | _ => t9) adK adV s.heap.size a = s.heap.size + (a - 32)
    unfold st_ad
    rw [if_neg (by omega), if_neg (by omega), if_neg (by omega), if_neg (by omega)]
  · refine ⟨fun k q hk => ?_, ⟨fun i j x y hi => ?_, fun k q hk => ?_⟩, va_S.rf, rfl, fun a ha => ⟨rfl, rfl⟩⟩
    · exact absurd hk (by simp [mm_ws, st_h, st_sh])
    · exact absurd hi (by simp [mm_ws, st_h, st_sh])
    · exact absurd hk (by simp [mm_ws, st_h, st_sh])
