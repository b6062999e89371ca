/-! ===== the reference's memory: byte arrays as lists of bytes ===== -/
theorem b_b8 (x : Int32) {i : Nat} (hi : i < 32) : bt (mm_b8 x) i = if i < 8 then bt x i else bt x 7 := by
  unfold bt mm_b8
  rw [Int8.toBitVec_toInt32, Int32.toBitVec_toInt8, BitVec.getLsbD_signExtend]
  simp only [hi, decide_true, Bool.true_and]
  by_cases c : i < 8
  · rw [if_pos c, if_pos c, BitVec.getLsbD_signExtend, if_pos hi]; simp [c]
  · rw [if_neg c, if_neg c, BitVec.msb_eq_getLsbD_last, BitVec.getLsbD_signExtend, if_pos (by omega)]; simp
theorem b8_b8 (x : Int32) : mm_b8 (mm_b8 x) = mm_b8 x := b_ext (fun i hi => by
  rw [b_b8 (mm_b8 x) hi, b_b8 x hi, b_b8 x (by omega : 7 < 32)]
  by_cases c : i < 8
  · rw [if_pos c, if_pos c]
  · rw [if_neg c, if_neg c, if_pos (by omega)])
theorem b8_255 (x : Int32) : mm_b8 x &&& 255 = x &&& 255 := b_ext (fun i hi => by
  rw [b_and, b_and, b_255, b_b8 _ hi]
  by_cases c : i < 8
  · rw [if_pos c]
  · rw [decide_eq_false c, Bool.and_false, Bool.and_false])
theorem b8_a (x : Int32) : mm_b8 (x &&& 255) = mm_b8 x := b_ext (fun i hi => by
  rw [b_b8 _ hi, b_b8 _ hi, b_and, b_and, b_255, b_255]
  by_cases c : i < 8
  · rw [if_pos c, if_pos c, decide_eq_true c, Bool.and_true]
  · rw [if_neg c, if_neg c]; simp)
theorem b8_eq {x y : Int32} : mm_b8 x = mm_b8 y ↔ x &&& 255 = y &&& 255 := by
  constructor
  · intro e; rw [← b8_255, e, b8_255]
  · intro e; rw [← b8_a, e, b8_a]
theorem b8_by {x : Int32} (hx : x &&& 255 = x) : mm_b8 x &&& 255 = x := by rw [b8_255, hx]
/-- shape and references of the reference's object -/
def dT (L : Nat) (h : mm_H) : Prop := h.1 = sk_sh L ∧ ∀ k, mm_r h 490 k = sk_ref 490 k
/-- all that a method of the reference changes lies in S -/
def dF (S : Nat → Nat → Prop) (h h' : mm_H) : Prop := h'.1 = h.1 ∧ h'.2.2.2 = h.2.2.2 ∧ ∀ a k, ¬ S a k → h'.2.1 a k = h.2.1 a k
/-- array a holds the bytes l from i on -/
def bs (h : mm_H) (a i : Nat) (l : List Int32) : Prop := ∀ k, k < l.length → h.2.1 a (i + k) = mm_b8 (l.getD k 0)
theorem dT.f {L : Nat} {h : mm_H} (T : dT L h) {k b : Nat} (e : sk_ref 490 k = some b) : mm_r h 490 k = some b := (T.2 k).trans e
theorem dT.ln {L : Nat} {h : mm_H} (T : dT L h) {a c : Nat} (ha : a ≠ 0) (hc : ((sk_sh 0).getD a (99, 0)).2 = c) : mm_ln h a = c := sk_ln T.1 ha hc
theorem dT.F {L : Nat} {S : Nat → Nat → Prop} {h h' : mm_H} (T : dT L h) (F : dF S h h') : dT L h' := ⟨F.1.trans T.1, fun k => by rw [show mm_r h' 490 k = mm_r h 490 k from by simp [mm_r, F.2.1]]; exact T.2 k⟩
theorem dF.rf {S : Nat → Nat → Prop} {h : mm_H} : dF S h h := ⟨rfl, rfl, fun _ _ _ => rfl⟩
theorem dF.tr {S1 S2 S : Nat → Nat → Prop} {h h1 h2 : mm_H} (F : dF S1 h h1) (G : dF S2 h1 h2) (s1 : ∀ a k, S1 a k → S a k) (s2 : ∀ a k, S2 a k → S a k) : dF S h h2 :=
  ⟨G.1.trans F.1, G.2.1.trans F.2.1, fun a k n => (G.2.2 a k (fun z => n (s2 a k z))).trans (F.2.2 a k (fun z => n (s1 a k z)))⟩
theorem dF.mo {S1 S : Nat → Nat → Prop} {h h1 : mm_H} (F : dF S1 h h1) (s1 : ∀ a k, S1 a k → S a k) : dF S h h1 := ⟨F.1, F.2.1, fun a k n => F.2.2 a k (fun z => n (s1 a k z))⟩
theorem dF.t {S : Nat → Nat → Prop} {h h1 h2 : mm_H} (F : dF S h h1) (G : dF S h1 h2) : dF S h h2 := F.tr G (fun _ _ z => z) (fun _ _ z => z)
theorem dF.i {S : Nat → Nat → Prop} {h h' : mm_H} (F : dF S h h') {a k : Nat} (n : ¬ S a k) : mm_i h' a k = mm_i h a k := F.2.2 a k n
theorem dF.ln {S : Nat → Nat → Prop} {h h' : mm_H} (F : dF S h h') (a : Nat) : mm_ln h' a = mm_ln h a := by simp [mm_ln, F.1]
theorem bs.F {S : Nat → Nat → Prop} {h h' : mm_H} {a i : Nat} {l : List Int32} (B : bs h a i l) (F : dF S h h') (n : ∀ k, i ≤ k → k < i + l.length → ¬ S a k) : bs h' a i l := fun k hk => by
  rw [F.2.2 a (i + k) (n (i + k) (by omega) (by omega))]; exact B k hk
theorem dF.si {h : mm_H} {a k : Nat} {v : Int32} : dF (fun a' k' => a' = a ∧ k' = k) h (mm_si h a k v) := ⟨rfl, rfl, fun a' k' n => by
  by_cases e : a' = a
  · subst e
    rw [mm_si_eq]
    exact upd_off (fun z => n ⟨rfl, z⟩)
  · rw [mm_si_ne e]⟩
theorem dF.sw {h : mm_H} {a : Nat} {f : Nat → Int32} : dF (fun a' _ => a' = a) h (mm_sw h a f) := ⟨rfl, rfl, fun a' k' n => by rw [sw_off n]⟩
theorem bs.nil {h : mm_H} {a i : Nat} : bs h a i [] := fun k hk => absurd hk (Nat.not_lt_zero _)
theorem bs.app {h : mm_H} {a i : Nat} {l m : List Int32} (B : bs h a i l) (C : bs h a (i + l.length) m) : bs h a i (l ++ m) := fun k hk => by
  rw [List.length_append] at hk
  by_cases c : k < l.length
  · rw [B k c, List.getD_eq_getElem?_getD, List.getD_eq_getElem?_getD, List.getElem?_append_left c]
  · have := C (k - l.length) (by omega)
    rw [show i + l.length + (k - l.length) = i + k by omega] at this
    rw [this, List.getD_eq_getElem?_getD, List.getD_eq_getElem?_getD, List.getElem?_append_right (by omega)]
theorem bs.left {h : mm_H} {a i : Nat} {l m : List Int32} (B : bs h a i (l ++ m)) : bs h a i l := fun k hk => by
  rw [B k (by rw [List.length_append]; omega), List.getD_eq_getElem?_getD, List.getD_eq_getElem?_getD, List.getElem?_append_left hk]
theorem bs.right {h : mm_H} {a i : Nat} {l m : List Int32} (B : bs h a i (l ++ m)) : bs h a (i + l.length) m := fun k hk => by
  have := B (l.length + k) (by rw [List.length_append]; omega)
  rw [show i + (l.length + k) = i + l.length + k by omega] at this
  rw [this, List.getD_eq_getElem?_getD, List.getD_eq_getElem?_getD, List.getElem?_append_right (by omega), Nat.add_sub_cancel_left]
theorem bs.one {h : mm_H} {a i : Nat} {x : Int32} (e : h.2.1 a i = mm_b8 x) : bs h a i [x] := fun k hk => by
  have : k = 0 := by simpa using hk
  subst this
  exact e
theorem bs.take {h : mm_H} {a i n : Nat} {l : List Int32} (B : bs h a i l) : bs h a i (l.take n) := fun k hk => by
  rw [List.length_take] at hk
  rw [B k (by omega), List.getD_eq_getElem?_getD, List.getD_eq_getElem?_getD, List.getElem?_take_of_lt (by omega)]
theorem bs.drop {h : mm_H} {a i n : Nat} {l : List Int32} (B : bs h a i l) : bs h a (i + n) (l.drop n) := fun k hk => by
  rw [List.length_drop] at hk
  rw [show i + n + k = i + (n + k) by omega, B (n + k) (by omega), List.getD_eq_getElem?_getD, List.getD_eq_getElem?_getD, List.getElem?_drop]
theorem bs.at {h : mm_H} {a i : Nat} {l : List Int32} (B : bs h a i l) {k : Nat} (hk : k < l.length) : mm_i h a (i + k) = mm_b8 (l.getD k 0) := B k hk
/-- what `move` leaves in the array that it fills -/
def mv (f g : Nat → Int32) (i j s n : Nat) : Nat → Int32 := fun k => if j + s ≤ k ∧ k < j + n then mm_b8 (f (i + (k - j))) else g k
theorem mv_0 {f g : Nat → Int32} {i j n : Nat} : mv f g i j n n = g := by funext k; unfold mv; rw [if_neg (by omega)]
theorem dm_move3 {a b i j n0 : Nat} (hab : a ≠ b ∨ i + n0 ≤ j ∨ j + n0 ≤ i) (h32 : 32 ≤ b) (hi : i + n0 ≤ 100000) (hj : j + n0 ≤ 100000) : ∀ (m s n : Nat) (h : mm_H), i + n0 ≤ mm_ln h a → j + n0 ≤ mm_ln h b → mm_ln h a ≤ 1000000 → mm_ln h b ≤ 1000000 → s + m = n0 → m < n → lp_X12_move_3 n a (nI i) b (nI j) (nI n0) (nI s) h = some (none, mm_sw h b (mv (h.2.1 a) (h.2.1 b) i j s n0)) := by
  intro m
  induction m with
  | zero =>
    intro s n h la lb la2 lb2 hs hn
    obtain ⟨n, rfl⟩ : ∃ k, n = k + 1 := ⟨n - 1, by omega⟩
    rw [lp_X12_move_3, if_pos (by rw [nI_leI (by omega) (by omega)]; omega), show s = n0 by omega, mv_0, sw_self]
  | succ m ih =>
    intro s n h la lb la2 lb2 hs hn
    obtain ⟨n, rfl⟩ : ∃ k, n = k + 1 := ⟨n - 1, by omega⟩
    rw [lp_X12_move_3, if_neg (by rw [nI_leI (by omega) (by omega)]; omega), nI_add, nI_add, if_pos (rr_in (by omega) la2), if_pos ⟨h32, rr_in (by omega) lb2⟩, rr_n (by omega), rr_n (by omega), nI_1]
    simp only [mm_bh]
    rw [sw_si]
    refine (ih (s + 1) n (mm_sw h b _) la lb la2 lb2 (by omega) (by omega)).trans ?_
    rw [sw_at, sw_sw]
    congr 3
    funext k
    unfold mv
    by_cases c : j + (s + 1) ≤ k ∧ k < j + n0
    · rw [if_pos c, if_pos (by omega)]
      by_cases e : a = b
      · subst e
        rw [sw_at, upd_off (by omega)]
      · rw [sw_off e]
    · rw [if_neg c]
      by_cases e : k = j + s
      · subst e; rw [upd_at, if_pos (by omega), Nat.add_sub_cancel_left]; rfl
      · rw [upd_off e, if_neg (by omega)]
section REF
variable {L : Nat} {h : mm_H} {f : mm_H → mm_O} {g : Int32 → mm_H → mm_O} {Q : Option Value → mm_H → Prop}
theorem dr_move {a b i j : Nat} {x y z : Int32} {l : List Int32} (B : bs h a i l) (hab : a ≠ b ∨ i + l.length ≤ j ∨ j + l.length ≤ i) (h32 : 32 ≤ b) (la : i + l.length ≤ mm_ln h a) (lb : j + l.length ≤ mm_ln h b) (la2 : mm_ln h a ≤ 100000) (lb2 : mm_ln h b ≤ 100000) (ex : x = nI i) (ey : y = nI j) (ez : z = nI l.length) (hl : l.length ≤ 2000) (K : ∀ h', bs h' b j l → dF (fun a' k => a' = b ∧ j ≤ k ∧ k < j + l.length) h h' → tr (f h') Q) : tr (mm_qv (bd_X12_move a x b y z h) f) Q := by
  unfold bd_X12_move
  rw [ex, ey, ez, show ((0 : Int32)) = nI 0 from rfl, dm_move3 hab h32 (by omega) (by omega) l.length 0 mm_fu h la lb (by omega) (by omega) (by omega) (by unfold mm_fu; omega), mm_qv_s]
  refine K _ (fun k hk => ?_) ⟨rfl, rfl, fun a' k n => ?_⟩
  · rw [sw_at]
    unfold mv
    rw [if_pos (by omega), show i + (j + k - j) = i + k by omega, B k hk, b8_b8]
  · by_cases e : a' = b
    · subst e
      rw [sw_at]
      unfold mv
      rw [if_neg (fun z => n ⟨rfl, by omega, by omega⟩)]
    · rw [sw_off e]
end REF
