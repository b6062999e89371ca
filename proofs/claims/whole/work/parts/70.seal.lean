/-! ===== Sealer.seal and Sealer.open ===== -/
theorem rr_X.mo {X Y : List Nat} {h h' : mm_H} (F : rr_X X h h') (s : ∀ a, a ∈ X → a ∈ Y) : rr_X Y h h' := ⟨F.1, F.2.1, fun a ha hi => F.2.2 a (fun z => ha (s a z)) hi⟩
def sl_c (F : Nat → Int32) (l : List Int32) : List Int32 := ch_m (fun k => ch_G F (k - 5)) 5 l.length l
def sl_t (F : Nat → Int32) (l : List Int32) (n : Nat) : List Int32 := po_tag (ch_o F) (po_t l n)
/-- a record, sealed -/
def sl_s (F : Nat → Int32) (l : List Int32) : List Int32 := sl_c F l ++ sl_t F (sl_c F l) l.length
/-- what lies in a sealed record -/
def sl_o (F : Nat → Int32) (l : List Int32) : List Int32 := ch_m (fun k => ch_G F (k - 0)) 0 l.length l
theorem ch_m_ln (G : Nat → Int32) (s t : Nat) (l : List Int32) : (ch_m G s t l).length = l.length := by simp [ch_m]
theorem sl_c_ln (F : Nat → Int32) (l : List Int32) : (sl_c F l).length = l.length := ch_m_ln _ _ _ _
theorem sl_o_ln (F : Nat → Int32) (l : List Int32) : (sl_o F l).length = l.length := ch_m_ln _ _ _ _
theorem sl_t_ln (F : Nat → Int32) (l : List Int32) (n : Nat) : (sl_t F l n).length = 16 := po_tag_len _ _
theorem sl_s_ln (F : Nat → Int32) (l : List Int32) : (sl_s F l).length = l.length + 16 := by simp [sl_s, sl_c_ln, sl_t_ln]
theorem rr_low_ln (v : Int32) : ∀ s k, (rr_low v s k).length = s := by
  intro s
  induction s with
  | zero => intro k; rfl
  | succ s ih => intro k; rw [rr_low]; simp [ih]
theorem sl_21 : ∀ n, n < 22 → ¬ (5 : Int32) < nI n - 16 := by decide +kernel
section SEAL
variable {L : Nat} {h : mm_H} {M : Nat → List Int32} {I : Nat → Nat → Int32} {P : Nat → Nat → Option Nat}
theorem cX.ch (C : cX L h M I P) : ch_ok h := ⟨C.f (by decide +kernel), C.f (by decide +kernel), sk_ln C.1.1 (by decide) (by decide +kernel), sk_ln C.1.1 (by decide) (by decide +kernel), sk_ln C.1.1 (by decide) (by decide +kernel), C.1.2.1 5 (by decide) (by decide)⟩
theorem cX.po (C : cX L h M I P) : po_ok h := ⟨C.f (by decide +kernel), C.f (by decide +kernel), C.f (by decide +kernel), sk_ln C.1.1 (by decide) (by decide +kernel), sk_ln C.1.1 (by decide) (by decide +kernel), sk_ln C.1.1 (by decide) (by decide +kernel)⟩
theorem cX.n57 (C : cX L h M I P) : ¬ rr_ish h 57 := sk_ni C.1.1 (by decide +kernel)
theorem cX.n58 (C : cX L h M I P) : ¬ rr_ish h 58 := sk_ni C.1.1 (by decide +kernel)
theorem cX.n5 (C : cX L h M I P) : ¬ rr_ish h 5 := sk_ni C.1.1 (by decide +kernel)
variable {r o w : Nat} {f : mm_H → mm_O} {g : Int32 → mm_H → mm_O} {Q : Option Value → mm_H → Prop}
def sl_J (F : Nat → Int32) (h : mm_H) : Prop := ∀ j, j < 16 → j ≠ 12 → h.2.1 57 j = F j
theorem cx_aim {k y z : Nat} (C : cX L h M I P) (ok : sk_ob k = true) (f1 : sk_ref k 1 = some y) (f2 : sk_ref k 2 = some z) (ky : sk_kz y = 5) (kz : sk_kz z = 5) (ly : (M y).length = 32) (lz : (M z).length = 12) (K : ∀ h' M', cX L h' M' I P → M' 59 = ch_o (ch_i (M y) (M z) (I k 3)) → (∀ s, s ≠ 59 → M' s = M s) → sl_J (ch_i (M y) (M z) (I k 3)) h' → tr (f h') Q) : tr (mm_qv (bd_X8_aim 52 k h) f) Q := by
  have hk : k ≠ 57 ∧ k ≠ 58 := by
    have := (sk_obX ok).1
    simp only [sk_X, List.mem_cons, not_or] at this
    exact ⟨this.2.2.1, this.2.2.2.1⟩
  obtain ⟨h', p, R', X, J, -⟩ := sp_X8_aim (k := k) C.1 C.2.2.1 C.ch (C.f (by decide +kernel)) (C.f f1) (C.f f2) (C.kd ky) (C.kd kz) ly lz hk
  rw [C.c.i ok] at R' J
  rw [p, mm_qv_s]
  exact K h' _ (C.step R' (X.mo (by decide))) vu_at (fun s hs => vu_off hs) J
theorem cx_mix {s : Nat} {x : Int32} {F : Nat → Int32} (C : cX L h M I P) (hr : sk_kz r = 5) (J : sl_J F h) (ex : x = nI s) (hs : s ≤ (M r).length) (K : ∀ h' M', cX L h' M' I P → M' r = ch_m (fun k => ch_G F (k - s)) s (M r).length (M r) → (∀ q, q ≠ r → M' q = M q) → tr (f h') Q) : tr (mm_qv (bd_X8_mix 52 r x h) f) Q := by
  obtain ⟨h', p, R', X, -, -⟩ := sp_X8_mix (r := r) C.2.2.1 (C.kd hr) C.ch C.n57 C.n58 C.n5 J hs
  rw [ex, p, mm_qv_s]
  exact K h' _ (C.step R' (X.mo (by decide))) vu_at (fun s hs => vu_off hs)
theorem cx_gather {n : Nat} {x : Int32} {F : Nat → Int32} (C : cX L h M I P) (hr : sk_kz r = 5) (hne : r ≠ 61) (ex : x = nI n) (h5 : 5 ≤ n) (hn : n ≤ (M r).length) (hn6 : n ≤ 600) (K : ∀ h' M', cX L h' M' I P → M' 61 = po_t (M r) n → (∀ q, q ≠ 61 → M' q = M q) → (sl_J F h → sl_J F h') → tr (f h') Q) : tr (mm_qv (bd_X8_gather 52 r x h) f) Q := by
  obtain ⟨h', p, R', X⟩ := sp_X8_gather (r := r) C.1 C.2.2.1 (C.f (by decide +kernel)) (C.kd hr) hne h5 hn hn6
  rw [ex, p, mm_qv_s]
  exact K h' _ (C.step R' X.X) vu_at (fun s hs => vu_off hs) (fun J j h1 h2 => by rw [X.2.2 57 C.n57]; exact J j h1 h2)
theorem cx_tag {F : Nat → Int32} (C : cX L h M I P) (h9 : (M 59).length = 32) (hl : (M 61).length ≤ 664) (h16 : (M 61).length % 16 = 0) (K : ∀ h' M', cX L h' M' I P → M' 63 = po_tag (M 59) (M 61) → (∀ q, q ≠ 59 → q ≠ 63 → M' q = M q) → (sl_J F h → sl_J F h') → tr (f h') Q) : tr (mm_qv (bd_X5_tag 53 59 61 63 h) f) Q := by
  obtain ⟨h', p, R', X⟩ := sp_X5_tag C.1 C.2.2.1 C.po h9 hl h16
  rw [p, mm_qv_s]
  exact K h' _ (C.step R' (X.mo (by simp))) vu_at (fun s h1 h2 => by rw [vu_off h2, vu_off h1]) (fun J j h1 h2 => by rw [X.2.2 57 (by simp) C.n57]; exact J j h1 h2)
theorem po_t_ln {l : List Int32} {n : Nat} (h5 : 5 ≤ n) (hn : n ≤ l.length) : (po_t l n).length = 32 + (n - 5) + rr_pad (n - 5) := by
  unfold po_t
  simp only [List.length_append, List.length_take, List.length_drop, List.length_replicate, rr_low_ln]
  omega
theorem cX.si (C : cX L h M I P) {a k : Nat} {v : Int32} (ha : sk_ob a = true) : cR L (mm_si h a k v) M (va_up I a (upd (I a) k v)) P := C.c.si ha
theorem cs_seal {c k y z : Nat} (C : cR L h M I P) (hr : sk_row r = true) (hc : sk_cap r = c) (ok : sk_ob k = true) (f1 : sk_ref k 1 = some y) (f2 : sk_ref k 2 = some z) (hy : sk_row y = true) (hz : sk_row z = true) (ly : (M y).length = 32) (lz : (M z).length = 12) (h5 : 5 ≤ (M r).length) (hl : (M r).length + 16 ≤ c) (hc6 : c ≤ 600) (K : ∀ h', cR L h' (va_up M r (sl_s (ch_i (M y) (M z) (I k 3)) (M r))) (va_up I k (upd (I k) 3 (I k 3 + 1))) P → tr (f h') Q) : tr (mm_qv (bd_X8_seal 52 k r h) f) Q := by
  obtain ⟨M0, C0, e0⟩ := C.X
  have qr := sk_rS hr
  have ey := e0 y (sk_rS hy)
  have ez := e0 z (sk_rS hz)
  have er := e0 r qr
  have kr := sk_rk hr
  simp only [sk_S, List.mem_cons, not_or] at qr
  have r9 : r ≠ 59 := qr.2.2.2.2.1
  have r1 : r ≠ 61 := qr.2.2.2.2.2.1
  have r3 : r ≠ 63 := qr.2.2.2.2.2.2.1
  refine tr_qv (R := fun v h' => v = none ∧ cR L h' (va_up M r (sl_s (ch_i (M y) (M z) (I k 3)) (M r))) (va_up I k (upd (I k) 3 (I k 3 + 1))) P) ?_ (fun v h' q => ⟨q.1, K h' q.2⟩)
  unfold bd_X8_seal
  refine cx_aim C0 ok f1 f2 (sk_rk hy) (sk_rk hz) (by rw [ey]; exact ly) (by rw [ez]; exact lz) (fun h1 M1 C1 a1 u1 J1 => ?_)
  rw [ey, ez] at a1 J1
  generalize ch_i (M y) (M z) (I k 3) = F at a1 J1 ⊢
  refine cx_mix (s := 5) C1 kr J1 rfl (by rw [u1 r r9, er]; exact h5) (fun h2 M2 C2 a2 u2 => ?_)
  rw [u1 r r9, er] at a2
  have a2' : M2 r = sl_c F (M r) := a2
  have n2 : (M2 r).length = (M r).length := by rw [a2', sl_c_ln]
  have b2 : M2 59 = ch_o F := by rw [u2 59 (Ne.symm r9)]; exact a1
  refine cx_gather (n := (M r).length) (F := F) C2 kr r1 (by rw [C2.n kr, n2]) h5 (by rw [n2]; exact Nat.le_refl _) (by omega) (fun h3 M3 C3 a3 u3 _ => ?_)
  rw [a2'] at a3
  have g0 : sk_ref 52 0 = some 53 := (by decide +kernel)
  have g3 : sk_ref 52 3 = some 59 := (by decide +kernel)
  have g4 : sk_ref 52 4 = some 61 := (by decide +kernel)
  have g5 : sk_ref 52 5 = some 63 := (by decide +kernel)
  simp only [mm_gr, C3.f g0, C3.f g3, C3.f g4, C3.f g5, Option.bind_some]
  have b3 : M3 59 = ch_o F := by rw [u3 59 (by decide)]; exact b2
  have l3 : (M3 61).length = 32 + ((M r).length - 5) + rr_pad ((M r).length - 5) := by rw [a3, po_t_ln h5 (by rw [sl_c_ln]; exact Nat.le_refl _)]
  have pd : rr_pad ((M r).length - 5) < 16 ∧ ((M r).length - 5 + rr_pad ((M r).length - 5)) % 16 = 0 := by unfold rr_pad; omega
  refine cx_tag (F := F) C3 (by rw [b3]; simp [ch_o]) (by rw [l3]; omega) (by rw [l3]; omega) (fun h4 M4 C4 a4 u4 _ => ?_)
  rw [b3, a3] at a4
  have a4' : M4 63 = sl_t F (sl_c F (M r)) (M r).length := a4
  simp only [C4.f g5, Option.bind_some]
  have b4 : M4 r = sl_c F (M r) := by rw [u4 r r9 r3, u3 r r1]; exact a2'
  obtain ⟨h5', p, R5, F5⟩ := sp_X6_append C4.2.2.1 (C4.kd kr) (C4.kd (r := 63) (by decide +kernel)) r3
  rw [C4.cap hc, b4, a4', List.take_of_length_le (by rw [List.length_append, sl_c_ln, sl_t_ln]; exact hl)] at R5
  rw [p, mm_qv_s]
  have C5 := C4.step R5 F5.X
  rw [mm_bh, C5.c.i ok]
  refine tr_mk ⟨rfl, (C5.R (fun s hs => ?_)).si ok⟩
  by_cases q : s = r
  · subst q; rw [vu_at, vu_at]; rfl
  · have hs' := hs
    simp only [sk_S, List.mem_cons, not_or] at hs'
    rw [vu_off q, vu_off q, u4 s hs'.2.2.2.2.1 hs'.2.2.2.2.2.2.1, u3 s hs'.2.2.2.2.2.1, u2 s q, u1 s hs'.2.2.2.2.1]
    exact e0 s hs
/-- is this record's seal right? -/
def sl_ok (F : Nat → Int32) (l : List Int32) : Prop := 21 < l.length ∧ l.drop (l.length - 16) = sl_t F l (l.length - 16)
theorem cs_open {k y z : Nat} (C : cR L h M I P) (hr : sk_row r = true) (ho : sk_row o = true) (hne : o ≠ r) (hl : (M r).length ≤ 600) (hc : sk_cap o = 600) (ok : sk_ob k = true) (f1 : sk_ref k 1 = some y) (f2 : sk_ref k 2 = some z) (hy : sk_row y = true) (hz : sk_row z = true) (ly : (M y).length = 32) (lz : (M z).length = 12) (K0 : ∀ h', ¬ sl_ok (ch_i (M y) (M z) (I k 3)) (M r) → cR L h' M I P → tr (g 0 h') Q) (K1 : ∀ h', sl_ok (ch_i (M y) (M z) (I k 3)) (M r) → cR L h' (va_up M o (sl_o (ch_i (M y) (M z) (I k 3)) (((M r).take ((M r).length - 16)).drop 5))) (va_up I k (upd (I k) 3 (I k 3 + 1))) P → tr (g 1 h') Q) : tr (mm_qi (bd_X8_open 52 k r o h) g) Q := by
  obtain ⟨M0, C0, e0⟩ := C.X
  have qr := sk_rS hr
  have qo := sk_rS ho
  have ey := e0 y (sk_rS hy)
  have ez := e0 z (sk_rS hz)
  have er := e0 r qr
  have kr := sk_rk hr
  simp only [sk_S, List.mem_cons, not_or] at qr qo
  have r9 : r ≠ 59 := qr.2.2.2.2.1
  have r1 : r ≠ 61 := qr.2.2.2.2.2.1
  have r3 : r ≠ 63 := qr.2.2.2.2.2.2.1
  generalize hF : ch_i (M y) (M z) (I k 3) = F at K0 K1
  refine tr_qi (R := fun v h' => (v = some (.int 0) ∧ ¬ sl_ok F (M r) ∧ cR L h' M I P) ∨ (v = some (.int 1) ∧ sl_ok F (M r) ∧ cR L h' (va_up M o (sl_o F (((M r).take ((M r).length - 16)).drop 5))) (va_up I k (upd (I k) 3 (I k 3 + 1))) P)) ?_ (fun v h' q => by
    rcases q with ⟨e, q1, q2⟩ | ⟨e, q1, q2⟩
    · exact ⟨0, e, K0 h' q1 q2⟩
    · exact ⟨1, e, K1 h' q1 q2⟩)
  unfold bd_X8_open
  rw [mm_bi, C0.n kr, er]
  by_cases c1 : 21 < (M r).length
  · rw [show nI (M r).length - 16 = nI ((M r).length - 16) from by rw [show ((16 : Int32)) = nI 16 from rfl, nI_sb (by omega)]]
    generalize hn : (M r).length - 16 = n
    have hn' : n + 16 = (M r).length := by omega
    rw [if_pos (by rw [show ((5 : Int32)) = nI 5 from rfl, nI_ltI (by omega) (by omega)]; omega)]
    refine cx_aim C0 ok f1 f2 (sk_rk hy) (sk_rk hz) (by rw [ey]; exact ly) (by rw [ez]; exact lz) (fun h1 M1 C1 a1 u1 J1 => ?_)
    rw [ey, ez, hF] at a1 J1
    have b1 : M1 r = M r := by rw [u1 r r9, er]
    refine cx_gather (n := n) (F := F) C1 kr r1 rfl (by omega) (by rw [b1]; omega) (by omega) (fun h3 M3 C3 a3 u3 J3 => ?_)
    rw [b1] at a3
    have g0 : sk_ref 52 0 = some 53 := (by decide +kernel)
    have g3 : sk_ref 52 3 = some 59 := (by decide +kernel)
    have g4 : sk_ref 52 4 = some 61 := (by decide +kernel)
    have g5 : sk_ref 52 5 = some 63 := (by decide +kernel)
    simp only [mm_gr, C3.f g0, C3.f g3, C3.f g4, C3.f g5, Option.bind_some]
    have b3 : M3 59 = ch_o F := by rw [u3 59 (by decide)]; exact a1
    have l3 : (M3 61).length = 32 + (n - 5) + rr_pad (n - 5) := by rw [a3, po_t_ln (by omega) (by omega)]
    have pd : rr_pad (n - 5) < 16 ∧ (n - 5 + rr_pad (n - 5)) % 16 = 0 := by unfold rr_pad; omega
    refine cx_tag (F := F) C3 (by rw [b3]; simp [ch_o]) (by rw [l3]; omega) (by rw [l3]; omega) (fun h4 M4 C4 a4 u4 J4 => ?_)
    rw [b3, a3] at a4
    have a4' : M4 63 = sl_t F (M r) n := a4
    simp only [C4.f g5, Option.bind_some]
    have b4 : M4 r = M r := by rw [u4 r r9 r3, u3 r r1]; exact b1
    have w4 : ∀ s, s ∉ sk_S → M4 s = M s := fun s hs => by
      have hs' := hs
      simp only [sk_S, List.mem_cons, not_or] at hs'
      rw [u4 s hs'.2.2.2.2.1 hs'.2.2.2.2.2.2.1, u3 s hs'.2.2.2.2.2.1, u1 s hs'.2.2.2.2.1]
      exact e0 s hs
    rw [sp_X6_hasAt C4.2.2.1 (C4.kd kr) (C4.kd (r := 63) (by decide +kernel)) (by omega), mm_qi_s, b4, a4', sl_t_ln]
    have ee : (n + 16 ≤ (M r).length ∧ ((M r).drop n).take 16 = sl_t F (M r) n) ↔ sl_ok F (M r) := by
      unfold sl_ok
      rw [hn, List.take_of_length_le (by rw [List.length_drop]; omega)]
      constructor
      · rintro ⟨-, q⟩; exact ⟨c1, q⟩
      · rintro ⟨-, q⟩; exact ⟨by omega, q⟩
    by_cases c2 : sl_ok F (M r)
    · rw [if_pos (ee.mpr c2), if_neg (by decide)]
      obtain ⟨h5, p5, R5, F5⟩ := sp_X6_copyPart (k := 5) (t := n) C4.2.2.1 (C4.kd (sk_rk ho)) (C4.kd kr) hne (by omega) (by omega)
      rw [show ((5 : Int32)) = nI 5 from rfl, p5, mm_qv_s]
      rw [C4.cap hc, b4, List.take_of_length_le (by rw [List.length_drop, List.length_take]; omega)] at R5
      have C5 := C4.step R5 F5.X
      refine cx_mix (s := 0) (F := F) C5 (sk_rk ho) (fun j j1 j2 => by rw [F5.2.2 57 C4.n57]; exact J4 (J3 J1) j j1 j2) rfl (Nat.zero_le _) (fun h6 M6 C6 a6 u6 => ?_)
      rw [vu_at] at a6
      rw [mm_bh, C6.c.i ok]
      refine tr_mk (Or.inr ⟨rfl, c2, (C6.R (fun s hs => ?_)).si ok⟩)
      by_cases q : s = o
      · subst q; rw [vu_at, a6]; rfl
      · rw [vu_off q, u6 s q, vu_off q]; exact w4 s hs
    · rw [if_neg (fun z => c2 (ee.mp z)), if_pos rfl]
      exact tr_mk (Or.inl ⟨rfl, c2, C4.R w4⟩)
  · rw [if_neg (sl_21 _ (by omega))]
    exact tr_mk (Or.inl ⟨rfl, fun z => c1 z.1, C⟩)
end SEAL
