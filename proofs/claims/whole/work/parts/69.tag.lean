/-! ===== Poly.tag; Sealer.seal and Sealer.open ===== -/
def po_cl (l : List Int32) : List Int32 := (List.range l.length).map (fun k => if k < 16 then l.getD k 0 &&& st_i (fun _ => 0) 3 k else l.getD k 0)
def po_cf (C : Nat → Int32) (s : Nat) (f : Nat → Int32) : Nat → Int32 := fun k => if s ≤ k ∧ k < 16 then f k &&& C k else f k
/-- 2 to the 128th, as it stands in the highest limb -/
def po_M : Nat := 16777216
theorem po_Mle : po_M ≤ 33554432 := by decide
theorem po_ML : (16777216 : Int64) = nL po_M := rfl
def po_bl (q : Nat → Nat) (l : List Int32) : Nat → Nat → (Nat → Nat) → (Nat → Nat)
  | 0, _, a => a
  | m + 1, p, a => po_bl q l m (p + 16) (po_se (po_mu (fun k => a k + po_d l p k + (if k = 4 then po_M else 0)) q))
/-- the seal of a text, by a key of 32 bytes -/
def po_tag (key text : List Int32) : List Int32 := po_out (po_re (po_se (po_se (po_bl (po_d (po_cl key) 0) text (text.length / 16) 0 (fun _ => 0))))) (po_cl key) 16 0 0
theorem po_tag_len (k t : List Int32) : (po_tag k t).length = 16 := po_out_len _ _ _ _ _
theorem po_cl_len (l : List Int32) : (po_cl l).length = l.length := by simp [po_cl]
theorem po_d_lt (l : List Int32) (p : Nat) : ∀ k, k < 5 → po_d l p k < 2 ^ 26 := fun k _ => dg_lt _ _
theorem po_sm_28 {a : Nat → Nat} {l : List Int32} {p : Nat} (ha : po_sm a) : ∀ k, k < 5 → a k + po_d l p k + (if k = 4 then po_M else 0) < 2 ^ 28 := by
  intro k hk
  have h1 : po_d l p k < 67108864 := dg_lt _ _
  have h2 := po_Mle
  have h3 : (if k = 4 then po_M else 0) ≤ 33554432 := by
    by_cases c : k = 4
    · rw [if_pos c]; exact h2
    · rw [if_neg c]; exact Nat.zero_le _
  have h4 : a k < 134217728 := by
    obtain ⟨b0, b1, b2, b3, b4⟩ := ha
    rcases (by omega : k = 0 ∨ k = 1 ∨ k = 2 ∨ k = 3 ∨ k = 4) with rfl | rfl | rfl | rfl | rfl <;> omega
  generalize (if k = 4 then po_M else 0) = z at h3 ⊢
  omega
theorem po_bl_sm {q : Nat → Nat} (hq : ∀ k, k < 5 → q k < 2 ^ 26) (l : List Int32) : ∀ m p a, po_sm a → po_sm (po_bl q l m p a) := by
  intro m
  induction m with
  | zero => intro p a h; exact h
  | succ m ih =>
    intro p a h
    rw [po_bl]
    exact ih (p + 16) _ (po_se_sm (po_mu_lt (po_sm_28 h) hq))
section TAG
variable {a1 a2 a3 : Nat}
theorem po_cf_0 {C f : Nat → Int32} : po_cf C 16 f = f := by funext k; unfold po_cf; rw [if_neg (by omega)]
theorem po_cf_1 {C f : Nat → Int32} {s : Nat} (h : s < 16) : po_cf C (s + 1) (upd f s (f s &&& C s)) = po_cf C s f := by
  funext k; unfold po_cf
  by_cases e : k = s
  · subst e; rw [if_neg (by omega), if_pos (by omega), upd_at]
  · rw [upd_off e]
    by_cases c : s + 1 ≤ k ∧ k < 16
    · rw [if_pos c, if_pos (by omega)]
    · rw [if_neg c, if_neg (by omega)]
theorem sp_tag34 {ke : Nat → Nat → Nat → Nat → mm_H → mm_O} : ∀ (m i n : Nat) (h : mm_H), mm_r h 59 0 = some 60 → mm_i h 59 1 = nI 32 → mm_ln h 60 = 32 → mm_ln h 3 = 16 → i + m = 16 → m < n → lp_X5_tag_34 ke n 53 59 a2 a3 (nI i) h = ke 53 59 a2 a3 (mm_sw h 60 (po_cf (h.2.1 3) i (h.2.1 60))) := by
  intro m
  induction m with
  | zero =>
    intro i n h g1 g4 g5 l3 hi hn
    obtain ⟨n, rfl⟩ : ∃ k, n = k + 1 := ⟨n - 1, by omega⟩
    rw [lp_X5_tag_34, if_pos (by rw [show ((16 : Int32)) = nI 16 from rfl, nI_leI (by omega) (by omega)]; omega), show i = 16 by omega, po_cf_0, sw_self]
  | succ m ih =>
    intro i n h g1 g4 g5 l3 hi hn
    obtain ⟨n, rfl⟩ : ∃ k, n = k + 1 := ⟨n - 1, by omega⟩
    rw [lp_X5_tag_34, if_neg (by rw [show ((16 : Int32)) = nI 16 from rfl, nI_leI (by omega) (by omega)]; omega), g4, if_neg (by rw [nI_leI (by omega) (by omega)]; omega)]
    simp only [mm_gr, g1, Option.bind_some, g5, l3]
    rw [if_pos (rr_in (by omega) (by omega)), if_pos (rr_in (by omega) (by omega)), if_pos ⟨by omega, rr_in (by omega) (by omega)⟩, rr_n (by omega), nI_1]
    simp only [mm_bh]
    rw [sw_si]
    refine (ih (i + 1) n (mm_sw h 60 _) g1 (by rw [sw_io (by decide)]; exact g4) g5 l3 (by omega) (by omega)).trans ?_
    rw [sw_at, sw_sw, sw_off (by decide)]
    congr 2
    exact po_cf_1 (C := h.2.1 3) (f := h.2.1 60) (by omega)
theorem sp_tag3 {ke : Nat → Nat → Nat → Nat → mm_H → mm_O} : ∀ (m i n : Nat) (h : mm_H), po_ok h → (∀ k, k < i → h.2.2.1 54 k = nL 0 ∧ h.2.2.1 55 k = nL 0) → i + m = 5 → m < n → ∃ h', lp_X5_tag_3 ke n 53 a1 a2 a3 (nI i) h = ke 53 a1 a2 a3 h' ∧ h'.1 = h.1 ∧ h'.2.1 = h.2.1 ∧ h'.2.2.2 = h.2.2.2 ∧ po_h h' 54 (fun _ => 0) ∧ po_h h' 55 (fun _ => 0) := by
  intro m
  induction m with
  | zero =>
    intro i n h o hz hi hn
    obtain ⟨n, rfl⟩ : ∃ k, n = k + 1 := ⟨n - 1, by omega⟩
    rw [lp_X5_tag_3, if_pos (by rw [show ((5 : Int32)) = nI 5 from rfl, nI_leI (by omega) (by omega)]; omega)]
    exact ⟨h, rfl, rfl, rfl, rfl, fun k hk => (hz k (by omega)).1, fun k hk => (hz k (by omega)).2⟩
  | succ m ih =>
    intro i n h o hz hi hn
    obtain ⟨n, rfl⟩ : ∃ k, n = k + 1 := ⟨n - 1, by omega⟩
    have o' := o
    obtain ⟨r0, r1, r2, l4, l5, l6⟩ := o
    rw [lp_X5_tag_3, if_neg (by rw [show ((5 : Int32)) = nI 5 from rfl, nI_leI (by omega) (by omega)]; omega)]
    simp only [mm_gr, r0, Option.bind_some, l4]
    rw [if_pos (rr_in (by omega) (by omega)), rr_n (by omega)]
    simp only [mm_bh]
    rw [sq_sl, sq_r, r1]
    simp only [Option.bind_some, sq_ln, l5]
    rw [if_pos (rr_in (by omega) (by omega)), sq_sl, nI_1]
    obtain ⟨h', p1, p2, p3, p4, p5, p6⟩ := ih (i + 1) n (mm_sq (mm_sq h 54 (vp_updL (h.2.2.1 54) i 0)) 55 (vp_updL ((mm_sq h 54 (vp_updL (h.2.2.1 54) i 0)).2.2.1 55) i 0)) o' (fun k hk => by
      rw [sq_at, sq_off (by decide), sq_at, sq_off (by decide)]
      by_cases e : k = i
      · subst e; rw [updL_at, updL_at]; exact ⟨rfl, rfl⟩
      · rw [updL_off e, updL_off e]; exact hz k (by omega)) (by omega) (by omega)
    exact ⟨h', p1, p2, p3, p4, p5, p6⟩
theorem po_h.cg {h : mm_H} {b : Nat} {a a' : Nat → Nat} (H : po_h h b a) (e : ∀ k, k < 5 → a k = a' k) : po_h h b a' := fun k hk => by rw [H k hk, e k hk]
theorem sp_tag84 {ke : Nat → Nat → Nat → mm_H → mm_O} {M : Nat → List Int32} {q : Nat → Nat} (hq : ∀ k, k < 5 → q k < 2 ^ 26) (hl : (M 61).length ≤ 700) : ∀ (m p n : Nat) (a : Nat → Nat) (h : mm_H), rr_M h M → mm_kd h 61 = 5 → po_ok h → po_h h 54 q → po_h h 55 a → po_sm a → p + 16 * m = (M 61).length → m < n → ∃ h', lp_X5_tag_84 ke n 53 a1 61 a3 (nI p) h = ke 53 a1 a3 h' ∧ h'.1 = h.1 ∧ h'.2.1 = h.2.1 ∧ h'.2.2.2 = h.2.2.2 ∧ po_h h' 55 (po_bl q (M 61) m p a) := by
  intro m
  induction m with
  | zero =>
    intro p n a h R k1 o h4 h5 hs hp hn
    obtain ⟨n, rfl⟩ : ∃ k, n = k + 1 := ⟨n - 1, by omega⟩
    rw [lp_X5_tag_84, (R 61 k1).2.2.2.1, if_pos (by rw [nI_leI (by omega) (by omega)]; omega)]
    exact ⟨h, rfl, rfl, rfl, rfl, h5⟩
  | succ m ih =>
    intro p n a h R k1 o h4 h5 hs hp hn
    obtain ⟨n, rfl⟩ : ∃ k, n = k + 1 := ⟨n - 1, by omega⟩
    have o' := o
    obtain ⟨r0, r1, r2, l4, l5, l6⟩ := o
    rw [lp_X5_tag_84, (R 61 k1).2.2.2.1, if_neg (by rw [nI_leI (by omega) (by omega)]; omega)]
    simp only [mm_gr, r1, Option.bind_some]
    obtain ⟨F, e1, e2⟩ := sp_X5_addBytes (b := 55) (p := p) a R k1 l5 (by omega) h5
    rw [e1, mm_qv_s, sq_r, r1]
    simp only [Option.bind_some, sq_ln, l5]
    rw [if_pos (by decide), if_pos (by decide), show mm_n (4 : Int32) = 4 from by decide, sq_l, e2 4 (by omega), po_ML, nL_add]
    simp only [mm_bh]
    rw [sq_sl, sq_at, sq_sq]
    generalize hG : vp_updL F 4 (nL (a 4 + po_d (M 61) p 4 + po_M)) = G
    have hGk : ∀ k, k < 5 → G k = nL (a k + po_d (M 61) p k + (if k = 4 then po_M else 0)) := by
      intro k hk
      rw [← hG]
      by_cases e : k = 4
      · subst e; rw [updL_at, if_pos rfl]
      · rw [updL_off e, if_neg e, e2 k hk, Nat.add_zero]
    obtain ⟨W, S, e3, e4⟩ := sp_X5_multiply (h := mm_sq h 55 G) (fun k => a k + po_d (M 61) p k + (if k = 4 then po_M else 0)) q o' (fun k hk => by rw [sq_at]; exact hGk k hk) (fun k hk => by rw [sq_off (by decide)]; exact h4 k hk)
    rw [e3, mm_qv_s, sq_r, sq_r, sq_r, r1]
    simp only [Option.bind_some]
    have hb := po_mu_lt (po_sm_28 (l := M 61) (p := p) hs) hq
    obtain ⟨W2, e5, e6⟩ := sp_X5_settle (b := 55) (h := mm_sq (mm_sq (mm_sq h 55 G) 56 W) 55 S) (po_mu (fun k => a k + po_d (M 61) p k + (if k = 4 then po_M else 0)) q) l5 (fun k hk => by rw [sq_at]; exact e4 k hk) hb
    rw [e5, mm_qv_s, show nI p + 16 = nI (p + 16) from by rw [show ((16 : Int32)) = nI 16 from rfl, nI_add]]
    obtain ⟨h', q1, q2, q3, q4, q5⟩ := ih (p + 16) n (po_se (po_mu (fun k => a k + po_d (M 61) p k + (if k = 4 then po_M else 0)) q)) (mm_sq (mm_sq (mm_sq (mm_sq h 55 G) 56 W) 55 S) 55 W2) R k1 o' (fun k hk => by rw [sq_off (by decide), sq_off (by decide), sq_off (by decide), sq_off (by decide)]; exact h4 k hk) (fun k hk => by rw [sq_at]; exact e6 k hk) (po_se_sm hb) (by omega) (by omega)
    exact ⟨h', q1, q2, q3, q4, q5⟩
theorem rr_M.lo {h h' : mm_H} {M : Nat → List Int32} (R : rr_M h M) (h1 : h'.1 = h.1) (h2 : h'.2.1 = h.2.1) (h3 : h'.2.2.2 = h.2.2.2) : rr_M h' M := by
  intro r hr
  have ek : ∀ a, mm_kd h' a = mm_kd h a := fun a => by simp [mm_kd, h1]
  have el : ∀ a, mm_ln h' a = mm_ln h a := fun a => by simp [mm_ln, h1]
  have er : ∀ a k, mm_r h' a k = mm_r h a k := fun a k => by simp [mm_r, h3]
  have ei : ∀ a k, mm_i h' a k = mm_i h a k := fun a k => by simp [mm_i, h2]
  rw [ek] at hr
  obtain ⟨g1, g2, g3, g4, g5, g6, g7, g8⟩ := R r hr
  exact ⟨by rw [er]; exact g1, by rw [ek]; exact g2, g3, by rw [ei]; exact g4, by rw [el]; exact g5, by rw [el]; exact g6, fun j hj => by rw [ei]; exact g7 j hj, g8⟩
theorem po_ok.lo {h h' : mm_H} (o : po_ok h) (h1 : h'.1 = h.1) (h3 : h'.2.2.2 = h.2.2.2) : po_ok h' := by
  have el : ∀ a, mm_ln h' a = mm_ln h a := fun a => by simp [mm_ln, h1]
  have er : ∀ a k, mm_r h' a k = mm_r h a k := fun a k => by simp [mm_r, h3]
  obtain ⟨r0, r1, r2, l4, l5, l6⟩ := o
  exact ⟨by rw [er]; exact r0, by rw [er]; exact r1, by rw [er]; exact r2, by rw [el]; exact l4, by rw [el]; exact l5, by rw [el]; exact l6⟩
theorem sp_X5_tag {L : Nat} {h : mm_H} {M : Nat → List Int32} (T : sk_T L h) (R : rr_M h M) (o : po_ok h) (h9 : (M 59).length = 32) (hl : (M 61).length ≤ 664) (h16 : (M 61).length % 16 = 0) : ∃ h', bd_X5_tag 53 59 61 63 h = some (none, h') ∧ rr_M h' (va_up (va_up M 59 (po_cl (M 59))) 63 (po_tag (M 59) (M 61))) ∧ rr_X [] h h' := by
  have k9 : mm_kd h 59 = 5 := sk_kd T.1 (by decide +kernel)
  have k1 : mm_kd h 61 = 5 := sk_kd T.1 (by decide +kernel)
  have k3 : mm_kd h 63 = 5 := sk_kd T.1 (by decide +kernel)
  have l9 : mm_ln h 60 = 32 := sk_ln T.1 (by decide) (by decide +kernel)
  have l63 : mm_ln h (63 + 1) = 16 := sk_ln T.1 (by decide) (by decide +kernel)
  have l3 : mm_ln h 3 = 16 := sk_ln T.1 (by decide) (by decide +kernel)
  have t3 : h.2.1 3 = st_i (fun _ => 0) 3 := T.2.1 3 (by decide) (by decide)
  obtain ⟨g1, g2, g3, g4, g5, g6, g7, g8⟩ := R 59 k9
  unfold bd_X5_tag po_tag
  rw [show ((0 : Int32)) = nI 0 from rfl]
  obtain ⟨h0, p1, p2, p3, p4, p5, p6⟩ := sp_tag3 (ke := fun b12 b13 b14 b15 h11 => lp_X5_tag_34 (fun b25 b26 b27 b28 h24 => mm_gr h24 b25 0 (fun b29 => mm_qv (bd_X5_addBytes b26 (nI 0) b29 h24) (fun h31 => lp_X5_tag_84 (fun b66 b67 b68 h65 => mm_gr h65 b66 1 (fun b69 => mm_qv (bd_X5_settle b69 h65) (fun h71 => mm_gr h71 b66 1 (fun b76 => mm_qv (bd_X5_settle b76 h71) (fun h78 => mm_qv (bd_X5_reduce b66 h78) (fun h83 => mm_qv (bd_X5_putSum b66 b67 b68 h83) (fun h88 => some (none, h88)))))))) mm_fu b25 b26 b27 b28 (nI 0) h31))) mm_fu b12 b13 b14 b15 (nI 0) h11) (a1 := 59) (a2 := 61) (a3 := 63) 5 0 mm_fu h o (fun k hk => absurd hk (Nat.not_lt_zero _)) (by omega) (by unfold mm_fu; omega)
  rw [p1]
  have R0 := R.lo p2 p3 p4
  have o0 := o.lo p2 p4
  have e9 : mm_i h0 59 1 = nI 32 := by show h0.2.1 59 1 = _; rw [p3]; exact g4.trans (by rw [h9])
  have ln0 : ∀ a, mm_ln h0 a = mm_ln h a := fun a => by simp [mm_ln, p2]
  have kd0 : ∀ a, mm_kd h0 a = mm_kd h a := fun a => by simp [mm_kd, p2]
  have r90 : mm_r h0 59 0 = some 60 := by rw [show mm_r h0 59 0 = mm_r h 59 0 from by simp [mm_r, p4]]; exact g1
  rw [sp_tag34 16 0 mm_fu h0 r90 e9 (by rw [ln0]; exact l9) (by rw [ln0]; exact l3) (by omega) (by unfold mm_fu; omega)]
  have f3 : h0.2.1 3 = st_i (fun _ => 0) 3 := by rw [p3]; exact t3
  rw [f3]
  generalize hg : mm_sw h0 60 (po_cf (st_i (fun _ => 0) 3) 0 (h0.2.1 60)) = g
  obtain ⟨Rg, Fg⟩ : rr_M g (va_up M 59 (po_cl (M 59))) ∧ rr_F h0 g := by
    rw [← hg]
    refine rr_sw R0 (by rw [kd0]; exact k9) (po_cl_len _) (fun j hj => ?_) (fun x hx => ?_)
    · rw [po_cl_len] at hj
      have e : (po_cl (M 59))[j]? = some (if j < 16 then (M 59).getD j 0 &&& st_i (fun _ => 0) 3 j else (M 59).getD j 0) := by rw [po_cl, List.getElem?_map, List.getElem?_range hj]; rfl
      rw [List.getD_eq_getElem?_getD, e]
      unfold po_cf
      rw [show h0.2.1 60 j = (M 59).getD j 0 from by rw [p3]; exact g7 j hj]
      by_cases c : j < 16
      · rw [if_pos (by omega)]; simp [c]
      · rw [if_neg (by omega)]; simp [c]
    · unfold po_cl at hx
      obtain ⟨k, hk1, rfl⟩ := List.mem_map.mp hx
      have hb := g8 _ (rr_mem (List.mem_range.mp hk1))
      by_cases c : k < 16
      · rw [if_pos c, Int32.and_assoc, Int32.and_comm _ 255, ← Int32.and_assoc, hb]
      · rw [if_neg c]; exact hb
  have og := o0.lo Fg.1 (by rw [Fg.2.1])
  have g54 : po_h g 54 (fun _ => 0) := fun k hk => by rw [Fg.2.1]; exact p5 k hk
  have g55 : po_h g 55 (fun _ => 0) := fun k hk => by rw [Fg.2.1]; exact p6 k hk
  simp only [mm_gr, og.1, Option.bind_some]
  obtain ⟨F, e1, e2⟩ := sp_X5_addBytes (r := 59) (b := 54) (p := 0) (fun _ => 0) Rg (by rw [Fg.kd, kd0]; exact k9) og.2.2.2.1 (by rw [vu_at, po_cl_len, h9]; omega) g54
  rw [e1, mm_qv_s]
  rw [vu_at] at e2
  have hsm : po_sm (fun _ => 0) := ⟨by decide, by decide, by decide, by decide, by decide⟩
  have e61 : va_up M 59 (po_cl (M 59)) 61 = M 61 := vu_off (by decide)
  obtain ⟨w, q1, q2, q3, q4, q5⟩ := sp_tag84 (ke := fun b66 b67 b68 h65 => (mm_r h65 b66 1).bind (fun b69 => mm_qv (bd_X5_settle b69 h65) (fun h71 => (mm_r h71 b66 1).bind (fun b76 => mm_qv (bd_X5_settle b76 h71) (fun h78 => mm_qv (bd_X5_reduce b66 h78) (fun h83 => mm_qv (bd_X5_putSum b66 b67 b68 h83) (fun h88 => some (none, h88)))))))) (M := va_up M 59 (po_cl (M 59))) (a1 := 59) (a3 := 63) (q := po_d (po_cl (M 59)) 0) (po_d_lt _ _) (by rw [e61]; omega) ((M 61).length / 16) 0 mm_fu (fun _ => 0) (mm_sq g 54 F) Rg (by rw [sq_kd, Fg.kd, kd0]; exact k1) (og.lo rfl rfl) (fun k hk => by rw [sq_at, e2 k hk, Nat.zero_add]) (fun k hk => by rw [sq_off (by decide)]; exact g55 k hk) hsm (by rw [e61]; omega) (by unfold mm_fu; omega)
  rw [q1]
  rw [e61] at q5
  have Rw : rr_M w (va_up M 59 (po_cl (M 59))) := Rg.sq.lo q2 q3 q4
  have ow : po_ok w := og.lo q2 q4
  simp only [ow.2.1, Option.bind_some]
  have sm1 := po_bl_sm (po_d_lt (po_cl (M 59)) 0) (M 61) ((M 61).length / 16) 0 _ hsm
  have lt1 : ∀ k, k < 5 → po_bl (po_d (po_cl (M 59)) 0) (M 61) ((M 61).length / 16) 0 (fun _ => 0) k < 2 ^ 60 := by
    obtain ⟨b0, b1, b2, b3, b4⟩ := sm1
    intro k hk
    rcases (by omega : k = 0 ∨ k = 1 ∨ k = 2 ∨ k = 3 ∨ k = 4) with rfl | rfl | rfl | rfl | rfl <;> omega
  generalize po_bl (po_d (po_cl (M 59)) 0) (M 61) ((M 61).length / 16) 0 (fun _ => 0) = A at q5 sm1 lt1 ⊢
  obtain ⟨W1, e3, e4⟩ := sp_X5_settle (b := 55) A ow.2.2.2.2.1 q5 lt1
  rw [e3, mm_qv_s, sq_r, ow.2.1]
  simp only [Option.bind_some]
  have sm2 := po_se_sm lt1
  have lt2 : ∀ k, k < 5 → po_se A k < 2 ^ 60 := by
    obtain ⟨b0, b1, b2, b3, b4⟩ := sm2
    intro k hk
    rcases (by omega : k = 0 ∨ k = 1 ∨ k = 2 ∨ k = 3 ∨ k = 4) with rfl | rfl | rfl | rfl | rfl <;> omega
  obtain ⟨W2, e5, e6⟩ := sp_X5_settle (b := 55) (h := mm_sq w 55 W1) (po_se A) ow.2.2.2.2.1 (fun k hk => by rw [sq_at]; exact e4 k hk) lt2
  rw [e5, mm_qv_s]
  have lt3 : ∀ k, k < 5 → po_se (po_se A) k < 67108864 := fun k hk => by
    have := po_end sm1 k hk
    omega
  obtain ⟨W3, S3, e7, e8⟩ := sp_X5_reduce (h := mm_sq (mm_sq w 55 W1) 55 W2) (po_se (po_se A)) (ow.lo rfl rfl) (fun k hk => by rw [sq_at]; exact e6 k hk) (fun k hk => by have := lt3 k hk; omega)
  rw [e7, mm_qv_s]
  obtain ⟨h', f1, f2, f3⟩ := sp_X5_putSum (h := mm_sq (mm_sq (mm_sq (mm_sq w 55 W1) 55 W2) 56 W3) 55 S3) (a := po_re (po_se (po_se A))) (po_re_lt lt3) Rw (by rw [sq_kd, sq_kd, sq_kd, sq_kd, show mm_kd w 59 = mm_kd (mm_sq g 54 F) 59 from by simp [mm_kd, q2], sq_kd, Fg.kd, kd0]; exact k9) (by rw [sq_kd, sq_kd, sq_kd, sq_kd, show mm_kd w 63 = mm_kd (mm_sq g 54 F) 63 from by simp [mm_kd, q2], sq_kd, Fg.kd, kd0]; exact k3) (by rw [sq_ln, sq_ln, sq_ln, sq_ln, show mm_ln w (63 + 1) = mm_ln (mm_sq g 54 F) (63 + 1) from by simp [mm_ln, q2], sq_ln, Fg.ln, ln0]; exact l63) (ow.lo rfl rfl) (fun k hk => by rw [sq_at]; exact e8 k hk) (by rw [vu_at, po_cl_len]; exact h9)
  rw [f1, mm_qv_s]
  refine ⟨h', rfl, ?_, ?_⟩
  · rw [vu_at] at f2
    exact f2
  · have X1 : rr_X [] h h0 := ⟨p2, p4, fun a _ _ => by rw [p3]⟩
    have X2 : rr_X [] g w := ⟨q2, q4, fun a _ _ => by rw [q3]; rfl⟩
    have X3 : rr_X [] w (mm_sq (mm_sq (mm_sq (mm_sq w 55 W1) 55 W2) 56 W3) 55 S3) := ⟨rfl, rfl, fun a _ _ => rfl⟩
    exact ((((X1.tr Fg.X).tr X2).tr X3).tr f3.X)
end TAG
