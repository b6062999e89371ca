/-! ===== SHA-256 does not look at what its scratch rows held ===== -/
theorem upd_at {f : Nat → Int32} {k : Nat} {x : Int32} : upd f k x k = x := pk_us
theorem upd_off {f : Nat → Int32} {k j : Nat} {x : Int32} (h : j ≠ k) : upd f k x j = f j := pk_un h
theorem sh_lw_at (l : List Int32) (p : Nat) : ∀ (m i : Nat) (f : Nat → Int32) (j : Nat), sh_lw l p m i f j = if i ≤ j ∧ j < i + m then sh_wd l (p + 4 * j) else f j := by
  intro m
  induction m with
  | zero => intro i f j; rw [sh_lw, if_neg (by omega)]
  | succ m ih =>
    intro i f j
    rw [sh_lw, ih]
    by_cases c : i + 1 ≤ j ∧ j < i + 1 + m
    · rw [if_pos c, if_pos (by omega)]
    · rw [if_neg c]
      by_cases e : j = i
      · subst e; rw [upd_at, if_pos (by omega)]
      · rw [upd_off e, if_neg (by omega)]
theorem sh_ex_cg : ∀ (m i : Nat) (f g : Nat → Int32), 16 ≤ i → (∀ j, j < i → f j = g j) → ∀ j, j < i + m → sh_ex f m i j = sh_ex g m i j := by
  intro m
  induction m with
  | zero => intro i f g _ h j hj; exact h j hj
  | succ m ih =>
    intro i f g hi h j hj
    rw [sh_ex, sh_ex]
    refine ih (i + 1) _ _ (by omega) (fun k hk => ?_) j (by omega)
    by_cases e : k = i
    · subst e
      rw [upd_at, upd_at]
      unfold sh_nx
      rw [h _ (by omega), h _ (by omega), h _ (by omega), h _ (by omega)]
    · rw [upd_off e, upd_off e]; exact h k (by omega)
theorem sh_rd_cg (K : Nat → Int32) : ∀ (m i : Nat) (f g : Nat → Int32) (x : sh_S), (∀ j, j < i + m → f j = g j) → sh_rd K f m i x = sh_rd K g m i x := by
  intro m
  induction m with
  | zero => intro i f g x _; rfl
  | succ m ih =>
    intro i f g x h
    rw [sh_rd, sh_rd, h i (by omega)]
    exact ih (i + 1) f g _ (fun j hj => h j (by omega))
theorem sh_ad_cg {S S' : Nat → Int32} {x : sh_S} (h : ∀ j, j < 8 → S j = S' j) : ∀ j, j < 8 → sh_ad S x j = sh_ad S' x j := by
  intro j hj
  unfold sh_ad
  simp only [upd]
  rw [h 0 (by omega), h 1 (by omega), h 2 (by omega), h 3 (by omega), h 4 (by omega), h 5 (by omega), h 6 (by omega), h 7 (by omega)]
  rcases (by omega : j = 0 ∨ j = 1 ∨ j = 2 ∨ j = 3 ∨ j = 4 ∨ j = 5 ∨ j = 6 ∨ j = 7) with rfl | rfl | rfl | rfl | rfl | rfl | rfl | rfl <;> simp
theorem sh_go_cg (K : Nat → Int32) (l : List Int32) (T : Nat) : ∀ (m p : Nat) (x y : (Nat → Int32) × (Nat → Int32)), (∀ j, j < 8 → x.1 j = y.1 j) → ∀ j, j < 8 → (sh_go K l T m p x).1 j = (sh_go K l T m p y).1 j := by
  intro m
  induction m with
  | zero => intro p x y h; exact h
  | succ m ih =>
    intro p x y h
    rw [sh_go, sh_go]
    refine ih (p + 64) _ _ (fun j hj => ?_)
    have e16 : ∀ j, j < 16 → sh_ld l T p x.2 j = sh_ld l T p y.2 j := by
      intro j hj
      unfold sh_ld
      by_cases c : p + 64 = T
      · rw [if_pos c, if_pos c]
        by_cases e : j = 15
        · subst e; rw [upd_at, upd_at]
        · rw [upd_off e, upd_off e, sh_lw_at, sh_lw_at, if_pos (by omega), if_pos (by omega)]
      · rw [if_neg c, if_neg c, sh_lw_at, sh_lw_at, if_pos (by omega), if_pos (by omega)]
    have e64 := sh_ex_cg 48 16 _ _ (by omega) e16
    show sh_cp K x.1 (sh_ex (sh_ld l T p x.2) 48 16) j = sh_cp K y.1 (sh_ex (sh_ld l T p y.2) 48 16) j
    unfold sh_cp
    have es : sh_of x.1 = sh_of y.1 := by unfold sh_of; rw [h 0 (by omega), h 1 (by omega), h 2 (by omega), h 3 (by omega), h 4 (by omega), h 5 (by omega), h 6 (by omega), h 7 (by omega)]
    rw [es, sh_rd_cg K 64 0 _ _ _ (fun j hj => e64 j (by omega))]
    exact sh_ad_cg h j hj
theorem sh_in_at (I : Nat → Int32) : ∀ (m i : Nat) (f : Nat → Int32) (j : Nat), sh_in I m i f j = if i ≤ j ∧ j < i + m then I j else f j := by
  intro m
  induction m with
  | zero => intro i f j; rw [sh_in, if_neg (by omega)]
  | succ m ih =>
    intro i f j
    rw [sh_in, ih]
    by_cases c : i + 1 ≤ j ∧ j < i + 1 + m
    · rw [if_pos c, if_pos (by omega)]
    · rw [if_neg c]
      by_cases e : j = i
      · subst e; rw [upd_at, if_pos (by omega)]
      · rw [upd_off e, if_neg (by omega)]
theorem sh_ou_cg : ∀ (m i : Nat) (S S' : Nat → Int32), (∀ j, j < i + m → S j = S' j) → sh_ou S m i = sh_ou S' m i := by
  intro m
  induction m with
  | zero => intro i S S' _; rfl
  | succ m ih =>
    intro i S S' h
    rw [sh_ou, sh_ou, h i (by omega), ih (i + 1) S S' (fun j hj => h j (by omega))]
def sh_I : Nat → Int32 := fun j => sv_1.getD j 0
def sh_K : Nat → Int32 := fun j => sv_2.getD j 0
/-- SHA-256 -/
def sh_a (l : List Int32) : List Int32 := sh_ou (sh_go sh_K l (64 * sh_nb l.length) (sh_nb l.length) 0 (sh_I, fun _ => 0)).1 8 0
theorem sh_ou_len (S : Nat → Int32) : ∀ m i, (sh_ou S m i).length = 4 * m := by
  intro m
  induction m with
  | zero => intro i; rfl
  | succ m ih => intro i; rw [sh_ou, List.length_append, rr_num_len, ih]; omega
theorem sh_a_len (l : List Int32) : (sh_a l).length = 32 := sh_ou_len _ 8 0
section SHC
variable {a0 a1 a2 w s : Nat}
theorem sp_dig80 : ∀ (m i n : Nat) (h : mm_H) (M : Nat → List Int32), rr_M h M → mm_kd h a2 = 5 → mm_r h a0 0 = some s → mm_ln h s = 8 → ¬ rr_ish h s → (M a2).length + 4 * m ≤ mm_ln h (a2 + 1) → i + m = 8 → m < n → ∃ h', lp_X9_digest_80 n a0 a2 (nI i) h = some (none, h') ∧ rr_M h' (va_up M a2 (M a2 ++ sh_ou (h.2.1 s) m i)) ∧ rr_F h h' := by
  intro m
  induction m with
  | zero =>
    intro i n h M R h2 hs hl hsi hc hi hn
    obtain ⟨n, rfl⟩ : ∃ k, n = k + 1 := ⟨n - 1, by omega⟩
    rw [lp_X9_digest_80]
    simp only [mm_gr, hs, Option.bind_some, hl]
    rw [if_pos (by rw [nI_leI (by omega) (by omega)]; omega)]
    refine ⟨h, rfl, ?_, rr_F.rf⟩
    rw [sh_ou, List.append_nil, vu_self]; exact R
  | succ m ih =>
    intro i n h M R h2 hs hl hsi hc hi hn
    obtain ⟨n, rfl⟩ : ∃ k, n = k + 1 := ⟨n - 1, by omega⟩
    rw [lp_X9_digest_80]
    simp only [mm_gr, hs, Option.bind_some, hl]
    rw [if_neg (by rw [nI_leI (by omega) (by omega)]; omega), if_pos (rr_in (by omega) (by omega)), rr_n (by omega)]
    obtain ⟨h1, p1, R1, F1⟩ := sp_X6_putNumber (s := 4) (mm_i h s i) R h2 (by omega) (by omega)
    rw [show ((4 : Int32)) = nI 4 from rfl, p1, mm_qv_s, nI_1]
    obtain ⟨h', q1, q2, q3⟩ := ih (i + 1) n h1 _ R1 (by rw [F1.kd]; exact h2) (by rw [F1.r]; exact hs) (by rw [F1.ln]; exact hl) (fun z => hsi ((rr_ish_F F1 s).mp z)) (by rw [F1.ln, vu_at, List.length_append, rr_num_len]; omega) (by omega) (by omega)
    refine ⟨h', q1, ?_, F1.tr q3⟩
    rw [vu_at, vu_uu, F1.2.2 s hsi, List.append_assoc] at q2
    exact q2
/-- since h, rows and the addresses of X alone were changed (longs are nobody's) -/
def rr_X (X : List Nat) (h h' : mm_H) : Prop := h'.1 = h.1 ∧ h'.2.2.2 = h.2.2.2 ∧ ∀ a, a ∉ X → ¬ rr_ish h a → h'.2.1 a = h.2.1 a
theorem rr_F.X {X : List Nat} {h h' : mm_H} (F : rr_F h h') : rr_X X h h' := ⟨F.1, by rw [F.2.1], fun a _ ha => F.2.2 a ha⟩
theorem rr_X.kd {X : List Nat} {h h' : mm_H} (F : rr_X X h h') (a : Nat) : mm_kd h' a = mm_kd h a := by simp [mm_kd, F.1]
theorem rr_X.ln {X : List Nat} {h h' : mm_H} (F : rr_X X h h') (a : Nat) : mm_ln h' a = mm_ln h a := by simp [mm_ln, F.1]
theorem rr_X.r {X : List Nat} {h h' : mm_H} (F : rr_X X h h') (a k : Nat) : mm_r h' a k = mm_r h a k := by simp [mm_r, F.2.1]
theorem rr_X.ish {X : List Nat} {h h' : mm_H} (F : rr_X X h h') (a : Nat) : rr_ish h' a ↔ rr_ish h a := by
  unfold rr_ish
  constructor
  · rintro (z | ⟨r, z1, z2⟩)
    · exact Or.inl (by rw [← F.kd]; exact z)
    · exact Or.inr ⟨r, z1, by rw [← F.kd]; exact z2⟩
  · rintro (z | ⟨r, z1, z2⟩)
    · exact Or.inl (by rw [F.kd]; exact z)
    · exact Or.inr ⟨r, z1, by rw [F.kd]; exact z2⟩
theorem rr_X.tr {X : List Nat} {h h1 h2 : mm_H} (F : rr_X X h h1) (F2 : rr_X X h1 h2) : rr_X X h h2 :=
  ⟨F2.1.trans F.1, F2.2.1.trans F.2.1, fun a ha hi => by rw [F2.2.2 a ha (fun z => hi ((F.ish a).mp z)), F.2.2 a ha hi]⟩
theorem rr_X.sw {X : List Nat} {h : mm_H} {b : Nat} {f : Nat → Int32} (hb : b ∈ X) : rr_X X h (mm_sw h b f) := ⟨rfl, rfl, fun a ha _ => sw_off (fun z => ha (by rw [z]; exact hb))⟩
theorem sp_X9_digest {X : List Nat} {h : mm_H} {M : Nat → List Int32} (R : rr_M h M) (h1 : mm_kd h a1 = 5) (h2 : mm_kd h a2 = 5) (o : sh_ok h a0 s w) (hI : h.2.1 1 = sh_I) (hK : h.2.1 2 = sh_K) (hs : s ∈ X) (hw : w ∈ X) (hc : 32 ≤ mm_ln h (a2 + 1)) : ∃ h', bd_X9_digest a0 a1 a2 h = some (none, h') ∧ rr_M h' (va_up M a2 (sh_a (M a1))) ∧ rr_X X h h' := by
  have cp := R.cap h1
  have o' := o
  obtain ⟨o1, o2, o3, o4, o5, o6, o7, o8, o9, oa, ob, oc, od⟩ := o
  unfold bd_X9_digest
  rw [show (0 : Int32) = nI 0 from rfl, sp_dig2 o7 8 0 mm_fu h o1 o3 o5 (by omega) (by unfold mm_fu; omega)]
  generalize hg : mm_sw h s (sh_in (h.2.1 1) 8 0 (h.2.1 s)) = g
  have Rg : rr_M g M := by rw [← hg]; exact R.sw oa
  have og : sh_ok g a0 s w := by rw [← hg]; exact o'
  have g1 : mm_kd g a1 = 5 := by rw [← hg]; exact h1
  have gX : rr_X X h g := by rw [← hg]; exact rr_X.sw hs
  have gK : g.2.1 2 = sh_K := by rw [← hg, sw_off (by omega)]; exact hK
  have gS : g.2.1 s = sh_in (h.2.1 1) 8 0 (h.2.1 s) := by rw [← hg, sw_at]
  have e1 : mm_i g a1 1 = nI (M a1).length := (Rg a1 g1).2.2.2.1
  have eT : (mm_i g a1 1 + (9 : Int32) + (64 : Int32) - (1 : Int32)) / (64 : Int32) * (64 : Int32) = nI (64 * sh_nb (M a1).length) := by
    rw [e1, show ((9 : Int32)) = nI 9 from rfl, show ((64 : Int32)) = nI 64 from rfl, show ((1 : Int32)) = nI 1 from rfl, nI_add, nI_add, pk_sub (by omega), pk_div (by omega) (by omega) (by omega), pk_mul]
    unfold sh_nb
    congr 1
    omega
  have hnb : sh_nb (M a1).length < 200 := by unfold sh_nb; omega
  simp only [mm_bi, eT]
  rw [sp_dig49 (by omega) (sh_nb (M a1).length) 0 mm_fu g Rg g1 og (by omega) (by unfold mm_fu; omega)]
  generalize hk : mm_sw (mm_sw g w (sh_go (g.2.1 2) (M a1) (64 * sh_nb (M a1).length) (sh_nb (M a1).length) 0 (g.2.1 s, g.2.1 w)).2) s (sh_go (g.2.1 2) (M a1) (64 * sh_nb (M a1).length) (sh_nb (M a1).length) 0 (g.2.1 s, g.2.1 w)).1 = k
  have Rk : rr_M k M := by rw [← hk]; exact (Rg.sw og.2.2.2.2.2.2.2.2.2.2.1).sw og.2.2.2.2.2.2.2.2.2.1
  have kX : rr_X X h k := by rw [← hk]; exact (gX.tr (rr_X.sw hw)).tr (rr_X.sw hs)
  have k2 : mm_kd k a2 = 5 := by rw [kX.kd]; exact h2
  have kS : k.2.1 s = (sh_go sh_K (M a1) (64 * sh_nb (M a1).length) (sh_nb (M a1).length) 0 (g.2.1 s, g.2.1 w)).1 := by rw [← hk, sw_at, gK]
  obtain ⟨h3, p3, R3, F3⟩ := sp_X6_clear Rk k2
  rw [p3, mm_qv_s]
  obtain ⟨h', q1, q2, q3⟩ := sp_dig80 (a0 := a0) (a2 := a2) (s := s) 8 0 mm_fu h3 _ R3 (by rw [F3.kd]; exact k2) (by rw [F3.r, kX.r]; exact o1) (by rw [F3.ln, kX.ln]; exact o3) (fun z => oa ((kX.ish s).mp ((rr_ish_F F3 s).mp z))) (by rw [F3.ln, kX.ln, vu_at]; simp; exact hc) (by omega) (by unfold mm_fu; omega)
  refine ⟨h', q1, ?_, (kX.tr F3.X).tr q3.X⟩
  rw [vu_at, vu_uu, List.nil_append, F3.2.2 s (fun z => oa ((kX.ish s).mp z)), kS] at q2
  have ee : sh_ou (sh_go sh_K (M a1) (64 * sh_nb (M a1).length) (sh_nb (M a1).length) 0 (g.2.1 s, g.2.1 w)).1 8 0 = sh_a (M a1) := by
    unfold sh_a
    refine sh_ou_cg 8 0 _ _ (sh_go_cg sh_K (M a1) _ _ 0 _ _ (fun j hj => ?_))
    show g.2.1 s j = sh_I j
    rw [gS, sh_in_at, if_pos (by omega), hI]
  rw [ee] at q2
  exact q2
end SHC
