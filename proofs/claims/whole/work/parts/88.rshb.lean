/-! ===== the reference's SHA-256: whole ===== -/
theorem wd_eq (a b c d : Int32) : mm_shl (mm_shl (mm_shl (mm_shl 0 8 ||| a) 8 ||| b) 8 ||| c) 8 ||| d = ((mm_shl a 24 ||| mm_shl b 16) ||| mm_shl c 8) ||| d := by
  refine b_ext (fun i hi => ?_)
  unfold mm_shl
  simp only [b_or]
  rw [b_shl8 _ hi, b_shl24 _ hi, b_shl16 _ hi, b_shl8 _ hi, b_or, b_shl8 _ (show i - 8 < 32 by omega), b_or, b_shl8 _ (show i - 8 - 8 < 32 by omega), b_or, b_shl8 _ (show i - 8 - 8 - 8 < 32 by omega), b_0]
  by_cases c1 : i < 8
  · simp [show ¬ 8 ≤ i by omega, show ¬ 16 ≤ i by omega, show ¬ 24 ≤ i by omega]
  · by_cases c2 : i < 16
    · simp [show 8 ≤ i by omega, show ¬ 16 ≤ i by omega, show ¬ 24 ≤ i by omega, show ¬ 8 ≤ i - 8 by omega]
    · by_cases c3 : i < 24
      · simp [show 8 ≤ i by omega, show 16 ≤ i by omega, show ¬ 24 ≤ i by omega, show 8 ≤ i - 8 by omega, show ¬ 8 ≤ i - 16 by omega, show i - 8 - 8 = i - 16 by omega]
      · simp [show 8 ≤ i by omega, show 16 ≤ i by omega, show 24 ≤ i by omega, show 8 ≤ i - 8 by omega, show 8 ≤ i - 16 by omega, show i - 8 - 8 = i - 16 by omega, show i - 16 - 8 = i - 24 by omega, Bool.or_assoc]
theorem wd_len (x : Int32) : ((mm_shl (mm_shr x (nI 24) &&& 255) 24 ||| mm_shl (mm_shr x (nI 16) &&& 255) 16) ||| mm_shl (mm_shr x (nI 8) &&& 255) 8) ||| (mm_shr x (nI 0) &&& 255) = x := by
  refine b_ext (fun i hi => ?_)
  unfold mm_shl mm_shr
  simp only [b_or]
  rw [b_shl24 _ hi, b_shl16 _ hi, b_shl8 _ hi, b_and, b_and, b_and, b_and, b_255, b_255, b_255, b_255, b_sshr 24 (by omega) _ (show i - 24 < 32 by omega), b_sshr 16 (by omega) _ (show i - 16 < 32 by omega), b_sshr 8 (by omega) _ (show i - 8 < 32 by omega), b_sshr 0 (by omega) _ hi]
  by_cases c1 : i < 8
  · simp [show ¬ 8 ≤ i by omega, show ¬ 16 ≤ i by omega, show ¬ 24 ≤ i by omega, c1, hi]
  · by_cases c2 : i < 16
    · simp [show 8 ≤ i by omega, show ¬ 16 ≤ i by omega, show ¬ 24 ≤ i by omega, show ¬ i < 8 by omega, show i - 8 < 8 by omega, show 8 + (i - 8) < 32 by omega, show 8 + (i - 8) = i by omega, hi]
    · by_cases c3 : i < 24
      · simp [show 8 ≤ i by omega, show 16 ≤ i by omega, show ¬ 24 ≤ i by omega, show ¬ i < 8 by omega, show ¬ i - 8 < 8 by omega, show i - 16 < 8 by omega, show 16 + (i - 16) < 32 by omega, show 16 + (i - 16) = i by omega, hi]
      · simp [show 8 ≤ i by omega, show 16 ≤ i by omega, show 24 ≤ i by omega, show ¬ i < 8 by omega, show ¬ i - 8 < 8 by omega, show ¬ i - 16 < 8 by omega, show i - 24 < 8 by omega, show 24 + (i - 24) < 32 by omega, show 24 + (i - 24) = i by omega, hi]
theorem sh_by_b {l : List Int32} (hb : ∀ x ∈ l, x &&& 255 = x) (p : Nat) : sh_by l p &&& 255 = sh_by l p := by
  unfold sh_by
  by_cases c : p < l.length
  · rw [if_pos c]; exact rd_gb hb p
  · rw [if_neg c]
    by_cases c2 : p = l.length
    · rw [if_pos c2]; decide
    · rw [if_neg c2]; decide
theorem sb_by {l : List Int32} {al q : Nat} (hq : 4 ≤ 64 * al - 1 - q ∨ q ≤ l.length) : sb_x l al q = sh_by l q := by
  unfold sb_x sh_by
  by_cases c : q < l.length
  · rw [if_pos c, if_pos c]
  · rw [if_neg c, if_neg c]
    by_cases c2 : q = l.length
    · rw [if_pos c2, if_pos c2]
    · rw [if_neg c2, if_neg c2, if_neg (by omega)]
theorem sb_word {l : List Int32} {k t : Nat} {B f : Nat → Int32} (hb : ∀ x ∈ l, x &&& 255 = x) (hk : k < sh_nb l.length) (ht : t < 16) (hB : ∀ j, j < 64 → B j = mm_b8 (sb_x l (sh_nb l.length) (64 * k + j))) : mb_x B t = sh_ld l (64 * sh_nb l.length) (64 * k) f t := by
  have hn : l.length + 9 ≤ 64 * sh_nb l.length := by unfold sh_nb; omega
  generalize hal : sh_nb l.length = al at hk hB hn
  unfold mb_x sh_ld
  rw [hB _ (by omega), hB _ (by omega), hB _ (by omega), hB _ (by omega), b8_255, b8_255, b8_255, b8_255]
  by_cases c : 64 * k + 64 = 64 * al ∧ t = 15
  · obtain ⟨c1, rfl⟩ := c
    rw [if_pos c1, upd_at]
    have e : ∀ j, j < 4 → sb_x l al (64 * k + (4 * 15 + j)) = mm_shr (nI (8 * l.length)) (nI (8 * (3 - j))) := fun j hj => by
      unfold sb_x
      rw [if_neg (by omega), if_neg (by omega), if_pos (by omega), show 64 * al - 1 - (64 * k + (4 * 15 + j)) = 3 - j by omega]
    rw [show 64 * k + 4 * 15 = 64 * k + (4 * 15 + 0) by omega, e 0 (by omega), e 1 (by omega), e 2 (by omega), e 3 (by omega)]
    rw [show (8 : Int32) * nI l.length = nI (8 * l.length) from pk_mul 8 _]
    exact wd_len _
  · have e : ∀ j, j < 4 → sb_x l al (64 * k + (4 * t + j)) = sh_by l (64 * k + 4 * t + j) := fun j hj => by
      rw [sb_by (by omega), show 64 * k + (4 * t + j) = 64 * k + 4 * t + j by omega]
    rw [show 64 * k + 4 * t = 64 * k + (4 * t + 0) by omega, e 0 (by omega), e 1 (by omega), e 2 (by omega), e 3 (by omega), sh_by_b hb, sh_by_b hb, sh_by_b hb, sh_by_b hb]
    have e2 : sh_lw l (64 * k) 16 0 f t = sh_wd l (64 * k + 4 * t) := by rw [sh_lw_at, if_pos (by omega)]
    have e3 : sh_wd l (64 * k + 4 * t) = ((mm_shl (sh_by l (64 * k + 4 * t + 0)) 24 ||| mm_shl (sh_by l (64 * k + 4 * t + 1)) 16) ||| mm_shl (sh_by l (64 * k + 4 * t + 2)) 8) ||| sh_by l (64 * k + 4 * t + 3) := wd_eq _ _ _ _
    by_cases c1 : 64 * k + 64 = 64 * al
    · rw [if_pos c1, upd_off (fun z => c ⟨c1, z⟩), e2, e3]
    · rw [if_neg c1, e2, e3]
theorem dm_sum88 {L : Nat} {ke : Nat → Nat → Int32 → mm_H → mm_O} {a1 a4 fr : Nat} {x5 : Int32} {l : List Int32} (ha : a1 < 520 ∨ 522 < a1) (hb : ∀ x ∈ l, x &&& 255 = x) (hl : l.length ≤ 2000) (hf : fr ≤ 90000) : ∀ (m k n : Nat) (h : mm_H), dT L h → h.2.1 519 = sh_K → bs h a1 fr l → fr + l.length ≤ mm_ln h a1 → mm_ln h a1 ≤ 100000 → k + m = sh_nb l.length → m < n → ∃ h', lp_X12_sum_88 ke n 490 a1 (nI fr) (nI l.length) a4 x5 (nI (sh_nb l.length)) (nI k) h = ke 490 a4 x5 h' ∧ dF (fun a _ => 520 ≤ a ∧ a ≤ 522) h h' ∧ ∀ j, j < 8 → h'.2.1 521 j = (sh_go sh_K l (64 * sh_nb l.length) m (64 * k) (h.2.1 521, fun _ => 0)).1 j := by
  have hnb : sh_nb l.length ≤ 60 := by unfold sh_nb; omega
  intro m
  induction m with
  | zero =>
    intro k n h T hK B la la2 hk hn
    obtain ⟨n, rfl⟩ : ∃ k, n = k + 1 := ⟨n - 1, by omega⟩
    rw [lp_X12_sum_88, if_pos (by rw [nI_leI (by omega) (by omega)]; omega)]
    exact ⟨h, rfl, dF.rf, fun j _ => rfl⟩
  | succ m ih =>
    intro k n h T hK B la la2 hk hn
    obtain ⟨n, rfl⟩ : ∃ k, n = k + 1 := ⟨n - 1, by omega⟩
    rw [lp_X12_sum_88, if_neg (by rw [nI_leI (by omega) (by omega)]; omega), show ((0 : Int32)) = nI 0 from rfl]
    rw [dm_sum98 (al := sh_nb l.length) (by omega) (by omega) hf hnb (by omega) 64 0 mm_fu h (T.f (by decide +kernel)) (T.ln (by decide) (by decide +kernel)) B la la2 (by omega) (by unfold mm_fu; omega)]
    have T1 : dT L (mm_sw h 522 (sb_f l (sh_nb l.length) k 0 (h.2.1 522))) := T
    rw [dm_mixBlock T1, mm_qv_s]
    have e22 : (mm_sw h 522 (sb_f l (sh_nb l.length) k 0 (h.2.1 522))).2.1 522 = sb_f l (sh_nb l.length) k 0 (h.2.1 522) := sw_at
    have e20 : (mm_sw h 522 (sb_f l (sh_nb l.length) k 0 (h.2.1 522))).2.1 520 = h.2.1 520 := sw_off (by decide)
    have e21 : (mm_sw h 522 (sb_f l (sh_nb l.length) k 0 (h.2.1 522))).2.1 521 = h.2.1 521 := sw_off (by decide)
    have e19 : (mm_sw h 522 (sb_f l (sh_nb l.length) k 0 (h.2.1 522))).2.1 519 = sh_K := (sw_off (by decide)).trans hK
    rw [e22, e20, e21, e19, nI_1]
    generalize hW : sh_ex (mb_w (sb_f l (sh_nb l.length) k 0 (h.2.1 522)) 16 0 (h.2.1 520)) 48 16 = W
    generalize hh1 : mm_sw (mm_sw (mm_sw h 522 (sb_f l (sh_nb l.length) k 0 (h.2.1 522))) 520 W) 521 (sh_cp sh_K (h.2.1 521) W) = h1
    have F1 : dF (fun a _ => 520 ≤ a ∧ a ≤ 522) h h1 := by
      rw [← hh1]
      exact (dF.sw.tr dF.sw (S := fun a _ => 520 ≤ a ∧ a ≤ 522) (fun a _ z => by rw [z]; decide) (fun a _ z => by rw [z]; decide)).tr dF.sw (fun _ _ z => z) (fun a _ z => by rw [z]; decide)
    obtain ⟨h', q1, q2, q3⟩ := ih (k + 1) n h1 (T.F F1) (by funext j; rw [F1.2.2 519 j (by omega), hK]) (B.F F1 (fun _ _ _ => by omega)) (by rw [F1.ln]; exact la) (by rw [F1.ln]; exact la2) (by omega) (by omega)
    refine ⟨h', q1, F1.t q2, fun j hj => ?_⟩
    rw [q3 j hj, show 64 * (k + 1) = 64 * k + 64 by omega]
    rw [sh_go]
    refine sh_go_cg _ _ _ _ _ _ _ (fun i hi => ?_) j hj
    show h1.2.1 521 i = sh_cp sh_K (h.2.1 521) (sh_ex (sh_ld l (64 * sh_nb l.length) (64 * k) (fun _ => 0)) 48 16) i
    have : h1.2.1 521 = sh_cp sh_K (h.2.1 521) W := by rw [← hh1]; exact sw_at
    rw [this]
    unfold sh_cp
    rw [sh_rd_cg sh_K 64 0 W (sh_ex (sh_ld l (64 * sh_nb l.length) (64 * k) (fun _ => 0)) 48 16) _ (fun q hq => ?_)]
    rw [← hW]
    refine sh_ex_cg 48 16 _ _ (by omega) (fun t ht => ?_) q (by omega)
    rw [mb_w_at, if_pos (by omega)]
    refine sb_word hb (by omega) ht (fun j hj => ?_)
    unfold sb_f
    rw [if_pos (by omega)]
theorem sh_ou_at (S : Nat → Int32) : ∀ (m i k : Nat), k < 4 * m → (sh_ou S m i).getD k 0 = mm_ush (S (i + k / 4)) ((8 : Int32) * nI (3 - k % 4)) &&& 255 := by
  intro m
  induction m with
  | zero => intro i k hk; omega
  | succ m ih =>
    intro i k hk
    rw [sh_ou]
    by_cases c : k < 4
    · rw [List.getD_eq_getElem?_getD, List.getElem?_append_left (by rw [rr_num_len]; exact c), show k / 4 = 0 by omega, show k % 4 = k by omega, Nat.add_zero]
      rcases (by omega : k = 0 ∨ k = 1 ∨ k = 2 ∨ k = 3) with rfl | rfl | rfl | rfl <;> rfl
    · rw [List.getD_eq_getElem?_getD, List.getElem?_append_right (by rw [rr_num_len]; omega), rr_num_len, ← List.getD_eq_getElem?_getD, ih (i + 1) (k - 4) (by omega), show i + 1 + (k - 4) / 4 = i + k / 4 by omega, show (k - 4) % 4 = k % 4 by omega]
theorem b8_sh (x : Int32) {n : Nat} (hn : n ≤ 24) : mm_b8 (mm_shr x (nI n)) = mm_b8 (mm_ush x (nI n) &&& 255) := by
  rw [b8_a, b8_eq]
  refine b_ext (fun i hi => ?_)
  rw [b_and, b_and, b_255]
  by_cases c : i < 8
  · unfold mm_shr mm_ush
    rw [b_sshr n (by omega) _ hi, b_ushr n (by omega), if_pos (by omega)]
  · rw [decide_eq_false c, Bool.and_false, Bool.and_false]
def so_f (S : Nat → Int32) (p s : Nat) (g : Nat → Int32) : Nat → Int32 := fun k => if p + s ≤ k ∧ k < p + 32 then mm_b8 ((sh_ou S 8 0).getD (k - p) 0) else g k
theorem so_f0 {S g : Nat → Int32} {p : Nat} : so_f S p 32 g = g := by funext j; unfold so_f; rw [if_neg (by omega)]
theorem dm_sum201 {a4 p : Nat} (h4 : a4 ≠ 521) (h32 : 32 ≤ a4) (hp : p ≤ 90000) : ∀ (m s n : Nat) (h : mm_H), mm_r h 490 32 = some 521 → mm_ln h 521 = 8 → p + 32 ≤ mm_ln h a4 → mm_ln h a4 ≤ 100000 → s + m = 32 → m < n → lp_X12_sum_201 n 490 a4 (nI p) (nI s) h = some (none, mm_sw h a4 (so_f (h.2.1 521) p s (h.2.1 a4))) := by
  intro m
  induction m with
  | zero =>
    intro s n h r l la la2 hs hn
    obtain ⟨n, rfl⟩ : ∃ k, n = k + 1 := ⟨n - 1, by omega⟩
    rw [lp_X12_sum_201, if_pos (by rw [show ((32 : Int32)) = nI 32 from rfl, nI_leI (by omega) (by omega)]; omega), show s = 32 by omega, so_f0, sw_self]
  | succ m ih =>
    intro s n h r l la la2 hs hn
    obtain ⟨n, rfl⟩ : ∃ k, n = k + 1 := ⟨n - 1, by omega⟩
    rw [lp_X12_sum_201, if_neg (by rw [show ((32 : Int32)) = nI 32 from rfl, nI_leI (by omega) (by omega)]; omega)]
    simp only [mm_gr, r, Option.bind_some, l]
    rw [show nI s / (4 : Int32) = nI (s / 4) from pk_div (d := 4) (by omega) (by omega) (by omega), nI_add, if_pos (rr_in (by omega) (by omega)), if_pos ⟨h32, rr_in (by omega) (by omega)⟩, rr_n (by omega), rr_n (by omega), show mm_rem (nI s) (4 : Int32) = nI (s % 4) from pk_rem (d := 4) (by omega) (by omega) (by omega), nI_1]
    rw [show (24 : Int32) - (8 : Int32) * nI (s % 4) = nI (24 - 8 * (s % 4)) from by rw [show ((8 : Int32)) = nI 8 from rfl, pk_mul, show ((24 : Int32)) = nI 24 from rfl, nI_sb (by omega)]]
    simp only [mm_bh]
    rw [sw_si]
    refine (ih (s + 1) n (mm_sw h a4 _) r l la la2 (by omega) (by omega)).trans ?_
    rw [sw_at, sw_sw, sw_off (Ne.symm h4)]
    congr 3
    funext k
    unfold so_f
    by_cases c : p + (s + 1) ≤ k ∧ k < p + 32
    · rw [if_pos c, if_pos (by omega)]
    · rw [if_neg c]
      by_cases e : k = p + s
      · subst e
        rw [upd_at, if_pos (by omega), Nat.add_sub_cancel_left, sh_ou_at _ 8 0 s (by omega), Nat.zero_add, b8_b8, show (8 : Int32) * nI (3 - s % 4) = nI (24 - 8 * (s % 4)) from by rw [show ((8 : Int32)) = nI 8 from rfl, pk_mul, show 8 * (3 - s % 4) = 24 - 8 * (s % 4) by omega]]
        exact b8_sh _ (by omega)
      · rw [upd_off e, if_neg (by omega)]
section RSB
variable {L : Nat} {h : mm_H} {f : mm_H → mm_O} {g : Int32 → mm_H → mm_O} {Q : Option Value → mm_H → Prop}
/-- where SHA-256 works -/
def zS (b p n : Nat) (a k : Nat) : Prop := (520 ≤ a ∧ a ≤ 522) ∨ (a = b ∧ p ≤ k ∧ k < p + n)
theorem dm_put {k v : Int32} {F : mm_H → mm_O} (r : mm_r h 490 32 = some 521) (l : mm_ln h 521 = 8) (hk : mm_in k 8 = true) : mm_gr h 490 32 (fun b => if 32 ≤ b ∧ mm_in k (mm_ln h b) = true then mm_bh (mm_si h b (mm_n k) v) F else none) = F (mm_si h 521 (mm_n k) v) := by
  rw [mm_gr_s r, l, if_pos ⟨by decide, hk⟩, mm_bh]
theorem dr_sum {a1 a4 fr p : Nat} {x y z : Int32} {l : List Int32} (T : dT L h) (hK : h.2.1 519 = sh_K) (B : bs h a1 fr l) (hb : ∀ x ∈ l, x &&& 255 = x) (ha : a1 < 520 ∨ 522 < a1) (h4 : a4 < 520 ∨ 522 < a4) (h32 : 32 ≤ a4) (hl : l.length ≤ 2000) (la : fr + l.length ≤ mm_ln h a1) (la2 : mm_ln h a1 ≤ 90000) (lb : p + 32 ≤ mm_ln h a4) (lb2 : mm_ln h a4 ≤ 90000) (ex : x = nI fr) (ey : y = nI l.length) (ez : z = nI p) (K : ∀ h', bs h' a4 p (sh_a l) → dF (zS a4 p 32) h h' → tr (f h') Q) : tr (mm_qv (bd_X12_sum 490 a1 x y a4 z h) f) Q := by
  have r32 : mm_r h 490 32 = some 521 := T.f (by decide +kernel)
  have l21 : mm_ln h 521 = 8 := T.ln (by decide) (by decide +kernel)
  unfold bd_X12_sum
  rw [dm_put r32 l21 (by decide), dm_put (by exact r32) (by exact l21) (by decide), dm_put (by exact r32) (by exact l21) (by decide), dm_put (by exact r32) (by exact l21) (by decide), dm_put (by exact r32) (by exact l21) (by decide), dm_put (by exact r32) (by exact l21) (by decide), dm_put (by exact r32) (by exact l21) (by decide), dm_put (by exact r32) (by exact l21) (by decide)]
  rw [show mm_n (0 : Int32) = 0 from by decide, show mm_n (1 : Int32) = 1 from by decide, show mm_n (2 : Int32) = 2 from by decide, show mm_n (3 : Int32) = 3 from by decide, show mm_n (4 : Int32) = 4 from by decide, show mm_n (5 : Int32) = 5 from by decide, show mm_n (6 : Int32) = 6 from by decide, show mm_n (7 : Int32) = 7 from by decide]
  simp only [sw_si, sw_at, sw_sw]
  generalize hS : upd (upd (upd (upd (upd (upd (upd (upd (h.2.1 521) 0 1779033703) 1 (-1150833019)) 2 1013904242) 3 (-1521486534)) 4 1359893119) 5 (-1694144372)) 6 528734635) 7 1541459225 = S
  have eS : ∀ j, j < 8 → S j = sh_I j := by
    rw [← hS]
    intro j hj
    have u : ∀ (f : Nat → Int32) (k j : Nat) (v : Int32), j ≠ k → upd f k v j = f j := fun f k j v hj => pk_un hj
    rcases (by omega : j = 0 ∨ j = 1 ∨ j = 2 ∨ j = 3 ∨ j = 4 ∨ j = 5 ∨ j = 6 ∨ j = 7) with rfl | rfl | rfl | rfl | rfl | rfl | rfl | rfl
    · rw [u _ 7 0 _ (by decide), u _ 6 0 _ (by decide), u _ 5 0 _ (by decide), u _ 4 0 _ (by decide), u _ 3 0 _ (by decide), u _ 2 0 _ (by decide), u _ 1 0 _ (by decide), upd_at]; decide +kernel
    · rw [u _ 7 1 _ (by decide), u _ 6 1 _ (by decide), u _ 5 1 _ (by decide), u _ 4 1 _ (by decide), u _ 3 1 _ (by decide), u _ 2 1 _ (by decide), upd_at]; decide +kernel
    · rw [u _ 7 2 _ (by decide), u _ 6 2 _ (by decide), u _ 5 2 _ (by decide), u _ 4 2 _ (by decide), u _ 3 2 _ (by decide), upd_at]; decide +kernel
    · rw [u _ 7 3 _ (by decide), u _ 6 3 _ (by decide), u _ 5 3 _ (by decide), u _ 4 3 _ (by decide), upd_at]; decide +kernel
    · rw [u _ 7 4 _ (by decide), u _ 6 4 _ (by decide), u _ 5 4 _ (by decide), upd_at]; decide +kernel
    · rw [u _ 7 5 _ (by decide), u _ 6 5 _ (by decide), upd_at]; decide +kernel
    · rw [u _ 7 6 _ (by decide), upd_at]; decide +kernel
    · rw [upd_at]; decide +kernel
  have F0 : dF (fun a _ => 520 ≤ a ∧ a ≤ 522) h (mm_sw h 521 S) := dF.sw.mo (fun a _ z => by rw [z]; decide)
  have S0 : (mm_sw h 521 S).2.1 521 = S := sw_at
  generalize mm_sw h 521 S = h0 at F0 S0
  have enb : ((y + (8 : Int32)) / (64 : Int32)) + (1 : Int32) = nI (sh_nb l.length) := by
    rw [ey, show ((8 : Int32)) = nI 8 from rfl, nI_add, show nI (l.length + 8) / (64 : Int32) = nI ((l.length + 8) / 64) from pk_div (d := 64) (by omega) (by omega) (by omega), nI_1]
    unfold sh_nb
    rw [show (l.length + 8) / 64 + 1 = (l.length + 72) / 64 by omega]
  rw [mm_bi, enb, ex, ey, ez, show ((0 : Int32)) = nI 0 from rfl]
  obtain ⟨h1, q1, q2, q3⟩ := dm_sum88 (L := L) (a4 := a4) (x5 := nI p) (ke := fun b65 b66 v67 h64 => lp_X12_sum_201 mm_fu b65 b66 v67 (nI 0) h64) ha hb hl (by omega) (sh_nb l.length) 0 mm_fu h0 (T.F F0) (by funext j; rw [F0.2.2 519 j (by omega), hK]) (B.F F0 (fun _ _ _ => by omega)) (by rw [F0.ln]; exact la) (by rw [F0.ln]; omega) (by omega) (by unfold mm_fu sh_nb; omega)
  rw [q1]
  have F1 := F0.t q2
  rw [dm_sum201 (by omega) h32 (by omega) 32 0 mm_fu h1 ((T.F F1).f (by decide +kernel)) ((T.F F1).ln (by decide) (by decide +kernel)) (by rw [F1.ln]; exact lb) (by rw [F1.ln]; omega) (by omega) (by unfold mm_fu; omega), mm_qv_s]
  have eo : sh_ou (h1.2.1 521) 8 0 = sh_a l := by
    unfold sh_a
    refine sh_ou_cg 8 0 _ _ (fun j hj => ?_)
    rw [q3 j (by omega), S0, Nat.mul_zero]
    exact sh_go_cg _ _ _ _ _ _ _ (fun i hi => eS i hi) j (by omega)
  refine K _ (fun k hk => ?_) ?_
  · rw [sh_a_len] at hk
    rw [sw_at]
    unfold so_f
    rw [if_pos (by omega), Nat.add_sub_cancel_left, eo]
  · refine F1.tr (S2 := fun a k => a = a4 ∧ p ≤ k ∧ k < p + 32) ⟨rfl, rfl, fun a k n => ?_⟩ (fun a k z => Or.inl z) (fun a k z => Or.inr z)
    by_cases e : a = a4
    · subst e
      rw [sw_at]
      unfold so_f
      rw [if_neg (fun z => n ⟨rfl, by omega, by omega⟩)]
    · rw [sw_off e]
end RSB
