/-! ===== SHA-256 of a row: Sha.load, Sha.digest ===== -/
def sh_by (l : List Int32) (p : Nat) : Int32 := if p < l.length then l.getD p 0 else if p = l.length then 128 else 0
def sh_ac (l : List Int32) (p : Nat) : Nat → Nat → Int32 → Int32
  | 0, _, a => a
  | m + 1, j, a => sh_ac l p m (j + 1) (mm_shl a 8 ||| sh_by l (p + j))
def sh_wd (l : List Int32) (p : Nat) : Int32 := sh_ac l p 4 0 0
def sh_lw (l : List Int32) (p : Nat) : Nat → Nat → (Nat → Int32) → (Nat → Int32)
  | 0, _, f => f
  | m + 1, i, f => sh_lw l p m (i + 1) (upd f i (sh_wd l (p + 4 * i)))
def sh_ld (l : List Int32) (T p : Nat) (f : Nat → Int32) : Nat → Int32 := if p + 64 = T then upd (sh_lw l p 16 0 f) 15 ((8 : Int32) * nI l.length) else sh_lw l p 16 0 f
def sh_go (K : Nat → Int32) (l : List Int32) (T : Nat) : Nat → Nat → (Nat → Int32) × (Nat → Int32) → (Nat → Int32) × (Nat → Int32)
  | 0, _, x => x
  | m + 1, p, x => sh_go K l T m (p + 64) (sh_cp K x.1 (sh_ex (sh_ld l T p x.2) 48 16), sh_ex (sh_ld l T p x.2) 48 16)
def sh_in (I : Nat → Int32) : Nat → Nat → (Nat → Int32) → (Nat → Int32)
  | 0, _, f => f
  | m + 1, i, f => sh_in I m (i + 1) (upd f i (I i))
def sh_ou (S : Nat → Int32) : Nat → Nat → List Int32
  | 0, _ => []
  | m + 1, i => rr_num (S i) 4 ++ sh_ou S m (i + 1)
def sh_nb (n : Nat) : Nat := (n + 72) / 64
theorem sw_cm {h : mm_H} {a b : Nat} {f g : Nat → Int32} (hab : a ≠ b) : mm_sw (mm_sw h a f) b g = mm_sw (mm_sw h b g) a f := by
  unfold mm_sw
  congr 1
  congr 1
  funext z
  by_cases e : z = a
  · subst e; simp [va_up, hab]
  · by_cases e2 : z = b
    · subst e2; simp [va_up, e]
    · simp [va_up, e, e2]
section SHB
variable {a0 a1 a2 w s : Nat}
theorem sp_load16 {ke : Nat → Nat → Int32 → Int32 → Int32 → Int32 → mm_H → mm_O} {h : mm_H} {M : Nat → List Int32} (R : rr_M h M) (h1 : mm_kd h a1 = 5) {p i : Nat} (hp : p < 100000) (hi : i < 100) (x3 : Int32) : ∀ (m j n : Nat) (a : Int32), j + m = 4 → m < n → lp_X9_load_16 ke n a0 a1 (nI p) x3 (nI i) a (nI j) h = ke a0 a1 (nI p) x3 (nI i) (sh_ac (M a1) (p + 4 * i) m j a) h := by
  intro m
  obtain ⟨g1, g2, g3, g4, g5, g6, g7, g8⟩ := R a1 h1
  induction m with
  | zero =>
    intro j n a hj hn
    obtain ⟨n, rfl⟩ : ∃ k, n = k + 1 := ⟨n - 1, by omega⟩
    rw [lp_X9_load_16, if_pos (by rw [show ((4 : Int32)) = nI 4 from rfl, nI_leI (by omega) (by omega)]; omega), sh_ac]
  | succ m ih =>
    intro j n a hj hn
    obtain ⟨n, rfl⟩ : ∃ k, n = k + 1 := ⟨n - 1, by omega⟩
    rw [lp_X9_load_16, if_neg (by rw [show ((4 : Int32)) = nI 4 from rfl, nI_leI (by omega) (by omega)]; omega)]
    have ev : (nI p + (4 : Int32) * nI i) + nI j = nI (p + 4 * i + j) := by rw [show ((4 : Int32)) = nI 4 from rfl, pk_mul, nI_add, nI_add]
    simp only [mm_bi, ev, g4, jn_X9_load_68]
    by_cases c : p + 4 * i + j < (M a1).length
    · rw [if_neg (by rw [nI_leI (by omega) (by omega)]; omega)]
      simp only [mm_gr, g1, Option.bind_some]
      rw [if_pos (rr_in (by omega) (by omega)), rr_n (by omega), g7 _ c, nI_1, ih (j + 1) n _ (by omega) (by omega)]
      rw [sh_ac, sh_by, if_pos c]
    · rw [if_pos (by rw [nI_leI (by omega) (by omega)]; omega)]
      by_cases c2 : p + 4 * i + j = (M a1).length
      · rw [if_pos (by rw [c2]), nI_1, ih (j + 1) n _ (by omega) (by omega), sh_ac, sh_by, if_neg c, if_pos c2]
      · rw [if_neg (by rw [nI_eq (by omega) (by omega)]; exact c2), nI_1, ih (j + 1) n _ (by omega) (by omega), sh_ac, sh_by, if_neg c, if_neg c2]
theorem sp_load3 {ke : Nat → Nat → Int32 → Int32 → mm_H → mm_O} {M : Nat → List Int32} {p : Nat} (hp : p < 100000) (x3 : Int32) (hw : 32 ≤ w) : ∀ (m i n : Nat) (h : mm_H), rr_M h M → mm_kd h a1 = 5 → mm_r h a0 1 = some w → mm_ln h w = 64 → ¬ rr_ish h w → i + m = 16 → m < n → lp_X9_load_3 ke n a0 a1 (nI p) x3 (nI i) h = ke a0 a1 (nI p) x3 (mm_sw h w (sh_lw (M a1) p m i (h.2.1 w))) := by
  intro m
  induction m with
  | zero =>
    intro i n h R h1 hr hl hwi hi hn
    obtain ⟨n, rfl⟩ : ∃ k, n = k + 1 := ⟨n - 1, by omega⟩
    rw [lp_X9_load_3, if_pos (by rw [show ((16 : Int32)) = nI 16 from rfl, nI_leI (by omega) (by omega)]; omega), sh_lw, sw_self]
  | succ m ih =>
    intro i n h R h1 hr hl hwi hi hn
    obtain ⟨n, rfl⟩ : ∃ k, n = k + 1 := ⟨n - 1, by omega⟩
    rw [lp_X9_load_3, if_neg (by rw [show ((16 : Int32)) = nI 16 from rfl, nI_leI (by omega) (by omega)]; omega)]
    refine (sp_load16 R h1 hp (by omega) x3 4 0 mm_fu 0 (by omega) (by unfold mm_fu; omega)).trans ?_
    simp only [mm_gr, hr, Option.bind_some, hl, mm_bh]
    rw [if_pos ⟨hw, rr_in (by omega) (by omega)⟩, rr_n (by omega), nI_1, sw_si]
    refine (ih (i + 1) n (mm_sw h w _) (R.sw hwi) h1 hr hl hwi (by omega) (by omega)).trans ?_
    rw [sw_at, sw_sw]
    rfl
theorem sp_X9_load {h : mm_H} {M : Nat → List Int32} {p T : Nat} (R : rr_M h M) (h1 : mm_kd h a1 = 5) (hr : mm_r h a0 1 = some w) (hl : mm_ln h w = 64) (hw : 32 ≤ w) (hwi : ¬ rr_ish h w) (hp : p < 100000) (hT : T < 200000) : bd_X9_load a0 a1 (nI p) (nI T) h = some (none, mm_sw h w (sh_ld (M a1) T p (h.2.1 w))) := by
  unfold bd_X9_load
  refine (sp_load3 hp (nI T) hw 16 0 mm_fu h R h1 hr hl hwi (by omega) (by unfold mm_fu; omega)).trans ?_
  show (if nI p + (64 : Int32) = nI T then _ else _) = _
  rw [show ((64 : Int32)) = nI 64 from rfl, nI_add]
  unfold sh_ld
  by_cases c : p + 64 = T
  · rw [if_pos (by rw [c]), if_pos c]
    have hr2 : ∀ f, mm_r (mm_sw h w f) a0 1 = some w := fun f => hr
    have hl2 : ∀ f, mm_ln (mm_sw h w f) w = 64 := fun f => hl
    simp only [mm_gr, hr2, Option.bind_some, hl2, mm_bh]
    rw [if_pos ⟨hw, by decide⟩, show mm_n (15 : Int32) = 15 by decide, sw_si, sw_at, sw_sw]
    have e : mm_i (mm_sw h w (sh_lw (M a1) p 16 0 (h.2.1 w))) a1 1 = nI (M a1).length := by
      rw [sw_io (fun z => hwi (Or.inl (by rw [← z]; exact h1)))]; exact (R a1 h1).2.2.2.1
    rw [e]
  · rw [if_neg (by rw [nI_eq (by omega) (by omega)]; exact c), if_neg c]
theorem sp_dig2 {ke : Nat → Nat → Nat → mm_H → mm_O} (h32 : 32 ≤ s) : ∀ (m i n : Nat) (h : mm_H), mm_r h a0 0 = some s → mm_ln h s = 8 → mm_ln h 1 = 8 → i + m = 8 → m < n → lp_X9_digest_2 ke n a0 a1 a2 (nI i) h = ke a0 a1 a2 (mm_sw h s (sh_in (h.2.1 1) m i (h.2.1 s))) := by
  intro m
  induction m with
  | zero =>
    intro i n h hs hl h8 hi hn
    obtain ⟨n, rfl⟩ : ∃ k, n = k + 1 := ⟨n - 1, by omega⟩
    rw [lp_X9_digest_2, h8, if_pos (by rw [nI_leI (by omega) (by omega)]; omega), sh_in, sw_self]
  | succ m ih =>
    intro i n h hs hl h8 hi hn
    obtain ⟨n, rfl⟩ : ∃ k, n = k + 1 := ⟨n - 1, by omega⟩
    rw [lp_X9_digest_2, h8, if_neg (by rw [nI_leI (by omega) (by omega)]; omega)]
    simp only [mm_gr, hs, Option.bind_some, hl, mm_bh]
    rw [if_pos (rr_in (by omega) (by omega)), if_pos ⟨h32, rr_in (by omega) (by omega)⟩, rr_n (by omega), nI_1, sw_si]
    refine (ih (i + 1) n (mm_sw h s _) hs hl h8 (by omega) (by omega)).trans ?_
    rw [sw_at, sw_sw, sw_off (by omega)]
    rfl
/-- what Sha's methods need of the heap -/
def sh_ok (h : mm_H) (a0 s w : Nat) : Prop := mm_r h a0 0 = some s ∧ mm_r h a0 1 = some w ∧ mm_ln h s = 8 ∧ mm_ln h w = 64 ∧ mm_ln h 1 = 8 ∧ mm_ln h 2 = 64 ∧ 32 ≤ s ∧ 32 ≤ w ∧ w ≠ s ∧ ¬ rr_ish h s ∧ ¬ rr_ish h w ∧ ¬ rr_ish h 1 ∧ ¬ rr_ish h 2
theorem sh_ok.sw {h : mm_H} {b : Nat} {f : Nat → Int32} (o : sh_ok h a0 s w) : sh_ok (mm_sw h b f) a0 s w := o
theorem rr_ish_F {h h' : mm_H} (F : rr_F h h') (a : Nat) : rr_ish h' a ↔ rr_ish h a := by
  unfold rr_ish
  constructor
  · rintro (z | ⟨r, z1, z2⟩)
    · exact Or.inl (by rw [← F.kd]; exact z)
    · exact Or.inr ⟨r, z1, by rw [← F.kd]; exact z2⟩
  · rintro (z | ⟨r, z1, z2⟩)
    · exact Or.inl (by rw [F.kd]; exact z)
    · exact Or.inr ⟨r, z1, by rw [F.kd]; exact z2⟩
theorem rr_F.r {h h' : mm_H} (F : rr_F h h') (a k : Nat) : mm_r h' a k = mm_r h a k := by simp [mm_r, F.2.1]
theorem sh_ok.F {h h' : mm_H} (F : rr_F h h') (o : sh_ok h a0 s w) : sh_ok h' a0 s w := by
  obtain ⟨o1, o2, o3, o4, o5, o6, o7, o8, o9, oa, ob, oc, od⟩ := o
  exact ⟨by rw [F.r]; exact o1, by rw [F.r]; exact o2, by rw [F.ln]; exact o3, by rw [F.ln]; exact o4, by rw [F.ln]; exact o5, by rw [F.ln]; exact o6, o7, o8, o9, fun z => oa ((rr_ish_F F _).mp z), fun z => ob ((rr_ish_F F _).mp z), fun z => oc ((rr_ish_F F _).mp z), fun z => od ((rr_ish_F F _).mp z)⟩
theorem sp_dig49 {ke : Nat → Nat → mm_H → mm_O} {M : Nat → List Int32} {T : Nat} (hT : T < 90000) : ∀ (m p n : Nat) (h : mm_H), rr_M h M → mm_kd h a1 = 5 → sh_ok h a0 s w → p + 64 * m = T → m < n → lp_X9_digest_49 ke n a0 a1 a2 (nI T) (nI p) h = ke a0 a2 (mm_sw (mm_sw h w (sh_go (h.2.1 2) (M a1) T m p (h.2.1 s, h.2.1 w)).2) s (sh_go (h.2.1 2) (M a1) T m p (h.2.1 s, h.2.1 w)).1) := by
  intro m
  induction m with
  | zero =>
    intro p n h R h1 o hp hn
    obtain ⟨n, rfl⟩ : ∃ k, n = k + 1 := ⟨n - 1, by omega⟩
    rw [lp_X9_digest_49, if_pos (by rw [nI_leI (by omega) (by omega)]; omega)]
    simp only [sh_go]
    rw [sw_self, sw_self]
  | succ m ih =>
    intro p n h R h1 o hp hn
    obtain ⟨n, rfl⟩ : ∃ k, n = k + 1 := ⟨n - 1, by omega⟩
    obtain ⟨o1, o2, o3, o4, o5, o6, o7, o8, o9, oa, ob, oc, od⟩ := o
    rw [lp_X9_digest_49, if_neg (by rw [nI_leI (by omega) (by omega)]; omega)]
    rw [sp_X9_load R h1 o2 o4 o8 ob (by omega) (by omega), mm_qv_s]
    rw [sp_X9_compress (h := mm_sw h w (sh_ld (M a1) T p (h.2.1 w))) o1 o2 o4 o3 o6 o8 o7 o9, mm_qv_s]
    rw [sw_at, sw_off (Ne.symm o9), sw_off (show (2 : Nat) ≠ w by omega), sw_sw, show nI p + (64 : Int32) = nI (p + 64) from nI_add p 64]
    refine (ih (p + 64) n _ ((R.sw ob).sw oa) h1 ⟨o1, o2, o3, o4, o5, o6, o7, o8, o9, oa, ob, oc, od⟩ (by omega) (by omega)).trans ?_
    rw [sw_at, sw_off o9, sw_at, sw_off (show (2 : Nat) ≠ s by omega), sw_off (show (2 : Nat) ≠ w by omega)]
    rw [sw_cm (a := s) (b := w) (Ne.symm o9), sw_sw, sw_sw]
    rfl
end SHB
