/-! ===== the reference's HMAC, labels, HKDF ===== -/
theorem dm_sign3 {ke : Nat → Nat → Int32 → Int32 → Nat → Int32 → mm_H → mm_O} {a1 a4 a7 fr na : Nat} {x5 x6 x8 : Int32} {l : List Int32} (n1 : a1 < 523 ∨ 524 < a1) (hl : l.length ≤ 64) (la : fr + l.length ≤ na) (la2 : na ≤ 90000) : ∀ (m i n : Nat) (h : mm_H), mm_r h 490 34 = some 523 → mm_r h 490 35 = some 524 → mm_ln h 523 = 1200 → mm_ln h 524 = 96 → mm_ln h a1 = na → bs h a1 fr l → (∀ j, j < i → h.2.1 523 j = mm_b8 (l.getD j 0 ^^^ 54) ∧ h.2.1 524 j = mm_b8 (l.getD j 0 ^^^ 92)) → i + m = 64 → m < n → ∃ h', lp_X12_sign_3 ke n 490 a1 (nI fr) (nI l.length) a4 x5 x6 a7 x8 (nI i) h = ke 490 a4 x5 x6 a7 x8 h' ∧ dF (fun a _ => a = 523 ∨ a = 524) h h' ∧ ∀ j, j < 64 → h'.2.1 523 j = mm_b8 (l.getD j 0 ^^^ 54) ∧ h'.2.1 524 j = mm_b8 (l.getD j 0 ^^^ 92) := by
  intro m
  induction m with
  | zero =>
    intro i n h r3 r4 l3 l4 e1 B J hi hn
    obtain ⟨n, rfl⟩ : ∃ k, n = k + 1 := ⟨n - 1, by omega⟩
    rw [lp_X12_sign_3, if_pos (by rw [show ((64 : Int32)) = nI 64 from rfl, nI_leI (by omega) (by omega)]; omega)]
    exact ⟨h, rfl, dF.rf, fun j hj => J j (by omega)⟩
  | succ m ih =>
    intro i n h r3 r4 l3 l4 e1 B J hi hn
    obtain ⟨n, rfl⟩ : ∃ k, n = k + 1 := ⟨n - 1, by omega⟩
    have key : ∀ s0 : Int32, (∀ z : Int32, mm_b8 (s0 ^^^ z) = mm_b8 (l.getD i 0 ^^^ z)) → ∃ h', jn_X12_sign_26 (lp_X12_sign_3 ke n) ke 490 a1 (nI fr) (nI l.length) a4 x5 x6 a7 x8 (nI i) s0 h = ke 490 a4 x5 x6 a7 x8 h' ∧ dF (fun a _ => a = 523 ∨ a = 524) h h' ∧ ∀ j, j < 64 → h'.2.1 523 j = mm_b8 (l.getD j 0 ^^^ 54) ∧ h'.2.1 524 j = mm_b8 (l.getD j 0 ^^^ 92) := by
      intro s0 es
      unfold jn_X12_sign_26
      rw [mm_gr_s r3, l3, if_pos ⟨by decide, rr_in (by omega) (by omega)⟩, rr_n (by omega), mm_bh, b8_b8, es]
      have F1 : dF (zo 523 i) h (mm_si h 523 i (mm_b8 (l.getD i 0 ^^^ 54))) := dF.si
      have v1 : (mm_si h 523 i (mm_b8 (l.getD i 0 ^^^ 54))).2.1 523 i = mm_b8 (l.getD i 0 ^^^ 54) := mi_eq
      generalize mm_si h 523 i (mm_b8 (l.getD i 0 ^^^ 54)) = h1 at F1 v1
      have q4 : mm_r h1 490 35 = some 524 := by rw [show mm_r h1 490 35 = mm_r h 490 35 from by simp [mm_r, F1.2.1]]; exact r4
      rw [mm_gr_s q4, F1.ln, l4, if_pos ⟨by decide, rr_in (by omega) (by omega)⟩, mm_bh, b8_b8, es]
      have F2 : dF (zo 524 i) h1 (mm_si h1 524 i (mm_b8 (l.getD i 0 ^^^ 92))) := dF.si
      have v2 : (mm_si h1 524 i (mm_b8 (l.getD i 0 ^^^ 92))).2.1 524 i = mm_b8 (l.getD i 0 ^^^ 92) := mi_eq
      generalize mm_si h1 524 i (mm_b8 (l.getD i 0 ^^^ 92)) = h2 at F2 v2
      have F := F1.c F2
      rw [nI_1]
      obtain ⟨h', p1, p2, p3⟩ := ih (i + 1) n h2 (by rw [show mm_r h2 490 34 = mm_r h 490 34 from by simp [mm_r, F.2.1]]; exact r3) (by rw [show mm_r h2 490 35 = mm_r h 490 35 from by simp [mm_r, F.2.1]]; exact r4) (by rw [F.ln]; exact l3) (by rw [F.ln]; exact l4) (by rw [F.ln]; exact e1) (B.F F (fun k _ _ => by omega)) (fun j hj => by
        by_cases e : j = i
        · subst e; exact ⟨by rw [F2.2.2 523 j (by omega)]; exact v1, v2⟩
        · rw [F.2.2 523 j (by omega), F.2.2 524 j (by omega)]; exact J j (by omega)) (by omega) (by omega)
      exact ⟨h', p1, F.tr p2 (fun a k z => by omega) (fun a k z => z), p3⟩
    rw [lp_X12_sign_3, if_neg (by rw [show ((64 : Int32)) = nI 64 from rfl, nI_leI (by omega) (by omega)]; omega)]
    by_cases c : i < l.length
    · rw [if_neg (by rw [nI_leI (by omega) (by omega)]; omega), nI_add, if_pos (dq_in e1 rfl (by omega) (by omega)), rr_n (by omega), B.at c]
      exact key _ (fun z => b8_xor _ _)
    · rw [if_pos (by rw [nI_leI (by omega) (by omega)]; omega)]
      refine key 0 (fun z => ?_)
      rw [show l.getD i 0 = 0 from by simp [List.getD_eq_getElem?_getD, List.getElem?_eq_none (Nat.not_lt.mp c)]]
section RSG
variable {L : Nat} {h : mm_H} {f : mm_H → mm_O} {g : Int32 → mm_H → mm_O} {Q : Option Value → mm_H → Prop}
theorem dr_sign {a1 a4 a7 fr q p : Nat} {x2 x3 x5 x6 x8 : Int32} {l m : List Int32} (B : rB L h) (bl : bs h a1 fr l) (hl : l.length ≤ 64) (bm : bs h a4 q m) (hm : lby m) (hml : m.length ≤ 1000) (n1 : a1 < 520 ∨ 524 < a1) (n4 : a4 < 520 ∨ 524 < a4) (n7 : a7 < 520 ∨ 526 < a7 ∨ a7 = 526) (n7' : 490 < a7 ∧ a7 ≠ 519 ∧ a7 ≠ 527) (na nm nb : Nat) (e1 : mm_ln h a1 = na) (la : fr + l.length ≤ na) (la2 : na ≤ 90000) (e4 : mm_ln h a4 = nm) (lm : q + m.length ≤ nm) (lm2 : nm ≤ 90000) (e7 : mm_ln h a7 = nb) (lb : p + 32 ≤ nb) (lb2 : nb ≤ 90000) (ex2 : x2 = nI fr) (ex3 : x3 = nI l.length) (ex5 : x5 = nI q) (ex6 : x6 = nI m.length) (ex8 : x8 = nI p) (K : ∀ h', bs h' a7 p (hm_m l m) → dF (zz a7 p 32) h h' → tr (f h') Q) : tr (mm_qv (bd_X12_sign 490 a1 x2 x3 a4 x5 x6 a7 x8 h) f) Q := by
  refine tr_v (p := fun h' => bs h' a7 p (hm_m l m) ∧ dF (zz a7 p 32) h h') ?_ (fun h' q => K h' q.1 q.2)
  unfold bd_X12_sign
  rw [ex2, ex3, ex5, ex6, ex8, show ((0 : Int32)) = nI 0 from rfl]
  obtain ⟨h1, p1, F1, J1⟩ := dm_sign3 (ke := fun b13 b14 v15 v16 b17 v18 h12 => mm_gr h12 b13 34 (fun b19 => mm_qv (bd_X12_move b14 v15 b19 64 v16 h12) (fun h21 => mm_gr h21 b13 34 (fun b26 => mm_gr h21 b13 35 (fun b28 => mm_qv (bd_X12_sum b13 b26 (nI 0) ((64 : Int32) + v16) b28 64 h21) (fun h30 => mm_gr h30 b13 35 (fun b35 => mm_qv (bd_X12_sum b13 b35 (nI 0) 96 b17 v18 h30) (fun h37 => some (none, h37))))))))) (a4 := a4) (a7 := a7) (x5 := nI q) (x6 := nI m.length) (x8 := nI p) (a1 := a1) (by omega) hl la la2 64 0 mm_fu h B.1.r34 B.1.r35 B.1.l523 B.1.l524 e1 bl (fun j hj => absurd hj (Nat.not_lt_zero _)) (by omega) (by unfold mm_fu; omega)
  rw [p1]
  have B1 : rB L h1 := B.F F1 (fun a k z => by omega)
  have b3 : bs h1 523 0 (hm_k l 54 64 0) := fun k hk => by
    rw [hm_k_len] at hk
    rw [hmk_at _ _ _ _ _ hk, b8_a, Nat.zero_add]; exact (J1 k hk).1
  have b4 : bs h1 524 0 (hm_k l 92 64 0) := fun k hk => by
    rw [hm_k_len] at hk
    rw [hmk_at _ _ _ _ _ hk, b8_a, Nat.zero_add]; exact (J1 k hk).2
  refine tr_gr B1.1.r34 ?_
  refine dr_mv (j := 64) (bm.F F1 (fun k _ _ => by omega)) (Or.inl (by omega)) (by decide) nm 1200 (by rw [F1.ln]; exact e4) B1.1.l523 (by omega) (by omega) (by omega) (by decide) rfl rfl rfl (by omega) (fun h2 b2 F2 => ?_)
  have B2 : rB L h2 := B1.F F2 (fun a k z => by omega)
  refine tr_gr B2.1.r34 (tr_gr B2.1.r35 ?_)
  have b32 : bs h2 523 0 (hm_k l 54 64 0 ++ m) := (b3.F F2 (fun k _ z => by rw [hm_k_len] at z; omega)).app (by rw [hm_k_len]; exact b2)
  have b42 := b4.F F2 (fun k _ z => by omega)
  refine dr_sumz (p := 64) B2 b32 ((hmk_by _ _ _ _).app hm) (by decide) (by decide) (by decide) (by rw [List.length_append, hm_k_len]; omega) 1200 96 B2.1.l523 (by rw [List.length_append, hm_k_len]; omega) (by decide) B2.1.l524 (by decide) (by decide) rfl (by rw [List.length_append, hm_k_len, ← nI_add]; rfl) rfl (fun h3 b5 F3 => ?_)
  have B3 : rB L h3 := B2.F F3 (fun a k z => by omega)
  refine tr_gr B3.1.r35 ?_
  have b43 : bs h3 524 0 (hm_k l 92 64 0 ++ sh_a (hm_k l 54 64 0 ++ m)) := (b42.F F3 (fun k _ z => by rw [hm_k_len] at z; omega)).app (by rw [hm_k_len]; exact b5)
  refine dr_sumz B3 b43 ((hmk_by _ _ _ _).app (sha_by _)) (by decide) (by omega) (by omega) (by rw [List.length_append, hm_k_len, sh_a_len]; decide) 96 nb B3.1.l524 (by rw [List.length_append, hm_k_len, sh_a_len]; decide) (by decide) (by rw [F3.ln, F2.ln, F1.ln]; exact e7) lb lb2 rfl (by rw [List.length_append, hm_k_len, sh_a_len]; rfl) rfl (fun h4 b6 F4 => ?_)
  exact tr_mk ⟨rfl, b6, (((F1.c F2).c F3).c F4).mo (fun a k z => by omega)⟩
/-- the little end first -/
def tv : List Nat → Nat
  | [] => 0
  | x :: l => x + 256 * tv l
theorem nI_255 (n : Nat) : nI n &&& 255 = nI (n % 256) := by
  apply Int32.toBitVec_inj.mp
  apply BitVec.eq_of_toNat_eq
  show (nI n &&& 255).toBitVec.toNat = (BitVec.ofNat 32 (n % 256)).toNat
  rw [Int32.toBitVec_and, BitVec.toNat_and]
  show (BitVec.ofNat 32 n).toNat &&& (2 ^ 8 - 1) = _
  rw [Nat.and_two_pow_sub_one_eq_mod, BitVec.toNat_ofNat, BitVec.toNat_ofNat]
  omega
theorem lg_z {n : Nat} (h : n < 2 ^ 63) : (lg_cmp (nL n) 0 = 0) ↔ n = 0 := by
  constructor
  · intro e
    exact (nL_cmp h).mp (by rw [e]; decide)
  · intro e; subst e; decide
theorem dm_text : ∀ (l : List Nat) (n p : Nat) (h : mm_H), dT L h → (∀ x ∈ l, 0 < x ∧ x < 256) → tv l < 2 ^ 63 → mm_i h 490 37 = nI p → p + l.length ≤ 90 → l.length < n → ∃ h', lp_X12_text_2 n 490 (nL (tv l)) h = some (none, h') ∧ dF (fun a k => (a = 490 ∧ k = 37) ∨ (a = 525 ∧ p ≤ k ∧ k < p + l.length)) h h' ∧ mm_i h' 490 37 = nI (p + l.length) ∧ bs h' 525 p (l.map nI) := by
  intro l
  induction l with
  | nil =>
    intro n p h T hx hv hp hl hn
    obtain ⟨n, rfl⟩ : ∃ k, n = k + 1 := ⟨n - 1, by omega⟩
    rw [lp_X12_text_2, if_pos (by rw [lg_z (by decide)]; rfl)]
    exact ⟨h, rfl, dF.rf, hp, bs.nil⟩
  | cons x l ih =>
    intro n p h T hx hv hp hl hn
    obtain ⟨n, rfl⟩ : ∃ k, n = k + 1 := ⟨n - 1, by omega⟩
    obtain ⟨x0, x1⟩ := hx x (List.mem_cons_self)
    rw [List.length_cons] at hl hn
    have ev : tv (x :: l) = x + 256 * tv l := rfl
    rw [lp_X12_text_2, if_neg (by rw [lg_z hv, ev]; omega), mm_gr_s T.r36, hp, T.l525, if_pos ⟨by decide, rr_in (by omega) (by omega)⟩, rr_n (by omega), mm_bh, nL_narrow, b8_b8, ← b8_a, nI_255, show tv (x :: l) % 256 = x by rw [ev]; omega]
    have F1 : dF (zo 525 p) h (mm_si h 525 p (mm_b8 (nI x))) := dF.si
    have v1 : (mm_si h 525 p (mm_b8 (nI x))).2.1 525 p = mm_b8 (nI x) := mi_eq
    generalize mm_si h 525 p (mm_b8 (nI x)) = h1 at F1 v1
    rw [mm_bh, F1.i (a := 490) (k := 37) (by omega), hp, nI_1]
    have F2 : dF (zo 490 37) h1 (mm_si h1 490 37 (nI (p + 1))) := dF.si
    have v2 : mm_i (mm_si h1 490 37 (nI (p + 1))) 490 37 = nI (p + 1) := mi_eq
    generalize mm_si h1 490 37 (nI (p + 1)) = h2 at F2 v2
    rw [mm_bl, show ((8 : Int32)) = nI 8 from rfl, nL_ush 8 (by omega) (by omega), show tv (x :: l) / 2 ^ 8 = tv l by rw [ev]; omega]
    have F := F1.c F2
    obtain ⟨h', q1, q2, q3, q4⟩ := ih n (p + 1) h2 (T.F F) (fun y hy => hx y (List.mem_cons_of_mem _ hy)) (by omega) v2 (by omega) (by omega)
    refine ⟨h', q1, (F.c q2).mo (fun a k z => by rw [List.length_cons]; omega), by rw [q3, List.length_cons]; congr 1; omega, ?_⟩
    rw [List.map_cons]
    refine bs.app (l := [nI x]) (bs.one ?_) q4
    rw [q2.2.2 525 p (by omega), F2.2.2 525 p (by omega)]; exact v1
theorem dr_text (l : List Nat) {p : Nat} {x : Int64} (T : dT L h) (hx : ∀ x ∈ l, 0 < x ∧ x < 256) (hv : tv l < 2 ^ 63) (ev : x = nL (tv l)) (hp : mm_i h 490 37 = nI p) (hl : p + l.length ≤ 90) (K : ∀ h', dF (fun a k => (a = 490 ∧ k = 37) ∨ (a = 525 ∧ p ≤ k ∧ k < p + l.length)) h h' → mm_i h' 490 37 = nI (p + l.length) → bs h' 525 p (l.map nI) → tr (f h') Q) : tr (mm_qv (bd_X12_text 490 x h) f) Q := by
  obtain ⟨h', q1, q2, q3, q4⟩ := dm_text (L := L) l mm_fu p h T hx hv hp hl (by unfold mm_fu; omega)
  unfold bd_X12_text
  rw [ev, q1, mm_qv_s]
  exact K h' q2 q3 q4
def lb (x : Int32) : Nat := if x = 0 then 12 else if x = 1 then 17 else if x = 2 then 18 else if x = 3 then 20 else if x = 4 then 19 else if x = 5 then 15 else if x = 6 then 16 else if x = 7 then 13 else if x = 8 then 14 else 10
theorem dr_label {x : Int32} (T : dT L h) (hp : mm_i h 490 37 = nI 3) (K : ∀ h', dF (fun a k => (a = 490 ∧ k = 37) ∨ (a = 525 ∧ 3 ≤ k)) h h' → mm_i h' 490 37 = nI (9 + (tx_l (lb x)).length) → bs h' 525 3 (tx_l 11 ++ tx_l (lb x)) → tr (f h') Q) : tr (mm_qv (bd_X12_label 490 x h) f) Q := by
  refine tr_v (p := fun h' => dF (fun a k => (a = 490 ∧ k = 37) ∨ (a = 525 ∧ 3 ≤ k)) h h' ∧ mm_i h' 490 37 = nI (9 + (tx_l (lb x)).length) ∧ bs h' 525 3 (tx_l 11 ++ tx_l (lb x))) ?_ (fun h' q => K h' q.1 q.2.1 q.2.2)
  unfold bd_X12_label
  refine dr_text [116, 108, 115, 49, 51, 32] T (by decide) (by decide) (by decide +kernel) hp (by decide) (fun h1 F1 v1 b1 => ?_)
  have b1' : bs h1 525 3 (tx_l 11) := b1
  have T1 := T.F F1
  have t6 : (tx_l 11).length = 6 := by decide +kernel
  have fin1 : ∀ (h2 : mm_H) (l : List Nat) (n : Nat), dF (fun a k => (a = 490 ∧ k = 37) ∨ (a = 525 ∧ 9 ≤ k ∧ k < 9 + n)) h1 h2 → mm_i h2 490 37 = nI (9 + l.length) → bs h2 525 9 (l.map nI) → tx_l (lb x) = l.map nI → dF (fun a k => (a = 490 ∧ k = 37) ∨ (a = 525 ∧ 3 ≤ k)) h h2 ∧ mm_i h2 490 37 = nI (9 + (tx_l (lb x)).length) ∧ bs h2 525 3 (tx_l 11 ++ tx_l (lb x)) := fun h2 l n F2 v2 b2 e => by
    refine ⟨(F1.c F2).mo (fun a k z => by omega), by rw [v2, e, List.length_map], ?_⟩
    refine (b1'.F F2 (fun k z1 z2 => by rw [t6] at z2; omega)).app ?_
    rw [t6, e]; exact b2
  by_cases c0 : x = 0
  · rw [if_pos c0]
    have eC : lb x = 12 := by rw [c0]; decide
    refine dr_text (p := 9) [100, 101, 114, 105, 118, 101, 100] T1 (by decide) (by decide) (by decide +kernel) v1 (by decide) (fun h2 F2 v2 b2 => ?_)
    exact tr_mk ⟨rfl, fin1 h2 [100, 101, 114, 105, 118, 101, 100] _ F2 v2 b2 (by rw [eC]; decide +kernel)⟩
  rw [if_neg c0]
  by_cases c1 : x = 1
  · rw [if_pos c1]
    have eC : lb x = 17 := by rw [c1]; decide
    refine dr_text (p := 9) [99, 32, 104, 115, 32, 116, 114, 97] T1 (by decide) (by decide) (by decide +kernel) v1 (by decide) (fun h2 F2 v2 b2 => ?_)
    unfold jn_X12_label_162
    refine dr_text (p := 17) [102, 102, 105, 99] (T1.F F2) (by decide) (by decide) (by decide +kernel) v2 (by decide) (fun h3 F3 v3 b3 => ?_)
    exact tr_mk ⟨rfl, fin1 h3 ([99, 32, 104, 115, 32, 116, 114, 97] ++ [102, 102, 105, 99]) 12 ((F2.c F3).mo (fun a k z => by simp only [List.length_cons, List.length_nil] at z; omega)) (by rw [v3]; rfl) (by rw [List.map_append]; exact (b2.F F3 (fun k z1 z2 => by simp only [List.length_map, List.length_cons, List.length_nil] at z2; omega)).app b3) (by rw [eC]; decide +kernel)⟩
  rw [if_neg c1]
  by_cases c2 : x = 2
  · rw [if_pos c2]
    have eC : lb x = 18 := by rw [c2]; decide
    refine dr_text (p := 9) [115, 32, 104, 115, 32, 116, 114, 97] T1 (by decide) (by decide) (by decide +kernel) v1 (by decide) (fun h2 F2 v2 b2 => ?_)
    unfold jn_X12_label_162
    refine dr_text (p := 17) [102, 102, 105, 99] (T1.F F2) (by decide) (by decide) (by decide +kernel) v2 (by decide) (fun h3 F3 v3 b3 => ?_)
    exact tr_mk ⟨rfl, fin1 h3 ([115, 32, 104, 115, 32, 116, 114, 97] ++ [102, 102, 105, 99]) 12 ((F2.c F3).mo (fun a k z => by simp only [List.length_cons, List.length_nil] at z; omega)) (by rw [v3]; rfl) (by rw [List.map_append]; exact (b2.F F3 (fun k z1 z2 => by simp only [List.length_map, List.length_cons, List.length_nil] at z2; omega)).app b3) (by rw [eC]; decide +kernel)⟩
  rw [if_neg c2]
  by_cases c3 : x = 3
  · rw [if_pos c3]
    have eC : lb x = 20 := by rw [c3]; decide
    refine dr_text (p := 9) [99, 32, 97, 112, 32, 116, 114, 97] T1 (by decide) (by decide) (by decide +kernel) v1 (by decide) (fun h2 F2 v2 b2 => ?_)
    unfold jn_X12_label_162
    refine dr_text (p := 17) [102, 102, 105, 99] (T1.F F2) (by decide) (by decide) (by decide +kernel) v2 (by decide) (fun h3 F3 v3 b3 => ?_)
    exact tr_mk ⟨rfl, fin1 h3 ([99, 32, 97, 112, 32, 116, 114, 97] ++ [102, 102, 105, 99]) 12 ((F2.c F3).mo (fun a k z => by simp only [List.length_cons, List.length_nil] at z; omega)) (by rw [v3]; rfl) (by rw [List.map_append]; exact (b2.F F3 (fun k z1 z2 => by simp only [List.length_map, List.length_cons, List.length_nil] at z2; omega)).app b3) (by rw [eC]; decide +kernel)⟩
  rw [if_neg c3]
  by_cases c4 : x = 4
  · rw [if_pos c4]
    have eC : lb x = 19 := by rw [c4]; decide
    refine dr_text (p := 9) [115, 32, 97, 112, 32, 116, 114, 97] T1 (by decide) (by decide) (by decide +kernel) v1 (by decide) (fun h2 F2 v2 b2 => ?_)
    unfold jn_X12_label_162
    refine dr_text (p := 17) [102, 102, 105, 99] (T1.F F2) (by decide) (by decide) (by decide +kernel) v2 (by decide) (fun h3 F3 v3 b3 => ?_)
    exact tr_mk ⟨rfl, fin1 h3 ([115, 32, 97, 112, 32, 116, 114, 97] ++ [102, 102, 105, 99]) 12 ((F2.c F3).mo (fun a k z => by simp only [List.length_cons, List.length_nil] at z; omega)) (by rw [v3]; rfl) (by rw [List.map_append]; exact (b2.F F3 (fun k z1 z2 => by simp only [List.length_map, List.length_cons, List.length_nil] at z2; omega)).app b3) (by rw [eC]; decide +kernel)⟩
  rw [if_neg c4]
  by_cases c5 : x = 5
  · rw [if_pos c5]
    have eC : lb x = 15 := by rw [c5]; decide
    refine dr_text (p := 9) [107, 101, 121] T1 (by decide) (by decide) (by decide +kernel) v1 (by decide) (fun h2 F2 v2 b2 => ?_)
    exact tr_mk ⟨rfl, fin1 h2 [107, 101, 121] _ F2 v2 b2 (by rw [eC]; decide +kernel)⟩
  rw [if_neg c5]
  by_cases c6 : x = 6
  · rw [if_pos c6]
    have eC : lb x = 16 := by rw [c6]; decide
    refine dr_text (p := 9) [105, 118] T1 (by decide) (by decide) (by decide +kernel) v1 (by decide) (fun h2 F2 v2 b2 => ?_)
    exact tr_mk ⟨rfl, fin1 h2 [105, 118] _ F2 v2 b2 (by rw [eC]; decide +kernel)⟩
  rw [if_neg c6]
  by_cases c7 : x = 7
  · rw [if_pos c7]
    have eC : lb x = 13 := by rw [c7]; decide
    refine dr_text (p := 9) [102, 105, 110, 105, 115, 104, 101, 100] T1 (by decide) (by decide) (by decide +kernel) v1 (by decide) (fun h2 F2 v2 b2 => ?_)
    exact tr_mk ⟨rfl, fin1 h2 [102, 105, 110, 105, 115, 104, 101, 100] _ F2 v2 b2 (by rw [eC]; decide +kernel)⟩
  rw [if_neg c7]
  by_cases c8 : x = 8
  · rw [if_pos c8]
    have eC : lb x = 14 := by rw [c8]; decide
    refine dr_text (p := 9) [116, 114, 97, 102, 102, 105, 99, 32] T1 (by decide) (by decide) (by decide +kernel) v1 (by decide) (fun h2 F2 v2 b2 => ?_)
    refine dr_text (p := 17) [117, 112, 100] (T1.F F2) (by decide) (by decide) (by decide +kernel) v2 (by decide) (fun h3 F3 v3 b3 => ?_)
    exact tr_mk ⟨rfl, fin1 h3 ([116, 114, 97, 102, 102, 105, 99, 32] ++ [117, 112, 100]) 11 ((F2.c F3).mo (fun a k z => by simp only [List.length_cons, List.length_nil] at z; omega)) (by rw [v3]; rfl) (by rw [List.map_append]; exact (b2.F F3 (fun k z1 z2 => by simp only [List.length_map, List.length_cons, List.length_nil] at z2; omega)).app b3) (by rw [eC]; decide +kernel)⟩
  rw [if_neg c8]
  have eC : lb x = 10 := by unfold lb; rw [if_neg c0, if_neg c1, if_neg c2, if_neg c3, if_neg c4, if_neg c5, if_neg c6, if_neg c7, if_neg c8]
  refine dr_text (p := 9) [101, 120, 116, 32, 98, 105, 110, 100] T1 (by decide) (by decide) (by decide +kernel) v1 (by decide) (fun h2 F2 v2 b2 => ?_)
  refine dr_text (p := 17) [101, 114] (T1.F F2) (by decide) (by decide) (by decide +kernel) v2 (by decide) (fun h3 F3 v3 b3 => ?_)
  exact tr_mk ⟨rfl, fin1 h3 ([101, 120, 116, 32, 98, 105, 110, 100] ++ [101, 114]) 10 ((F2.c F3).mo (fun a k z => by simp only [List.length_cons, List.length_nil] at z; omega)) (by rw [v3]; rfl) (by rw [List.map_append]; exact (b2.F F3 (fun k z1 z2 => by simp only [List.length_map, List.length_cons, List.length_nil] at z2; omega)).app b3) (by rw [eC]; decide +kernel)⟩
end RSG
