/-! ===== rules: arrays ===== -/
section MMR8
variable {G : mm_G} {y : mm_Y} {pc q : Nat} {ls ls' st st' : List Value} {h h1 : mm_H} {o o1 o2 : Option (Option Value × mm_H)}
theorem mm_arr_i {a kn : Nat} (ha : mm_kd h a = kn) (hk : 12 ≤ kn ∧ kn < 23) : mm_cell G h a = .inl (G.2.2.2.1 kn, (mm_ln h a, .inl (h.2.1 a))) := by
  unfold mm_cell; rw [if_neg (by omega), if_pos (by omega), ha]
theorem mm_arr_l {a : Nat} (ha : mm_kd h a = 23) : mm_cell G h a = .inl (G.2.2.2.1 23, (mm_ln h a, .inr (.inl (h.2.2.1 a)))) := by
  unfold mm_cell; rw [if_neg (by omega), if_neg (by omega), if_pos ha, ha]
theorem mm_arr_r {a kn : Nat} (ha : mm_kd h a = kn) (hk : 23 < kn) : mm_cell G h a = .inl (G.2.2.2.1 kn, (mm_ln h a, .inr (.inr (.inr (.inr (fun k => (h.2.2.2 a k).map G.2.1)))))) := by
  unfold mm_cell; rw [if_neg (by omega), if_neg (by omega), if_neg (by omega), ha]
theorem mm_len99 {a : Nat} (ha : mm_kd h a ≠ 99) : a < h.1.length := mm_kd_lt ha
/-- the rows below 32 are the ones that were there -/
theorem mm_Now.ro {s : State} {H : Heap} {locs : List Loc} {a : Nat} (N : mm_Now G h s H locs) (ha : a < 32) : mm_ln h a = mm_ln G.2.2.2.2.2 a ∧ h.2.1 a = G.2.2.2.2.2.2.1 a := by
  obtain ⟨e1, e2⟩ := N.2.2.2.2 a ha
  exact ⟨by simp [mm_ln, List.getD_eq_getElem?_getD, e1], e2⟩
theorem ok_iald {a : Nat} {i : Int32} (hd : decode y.2.1 pc = .ok (.iaload, 1)) (ha : mm_kd h a = 20) (hi : mm_in i (mm_ln h a) = true) (hq : pc + 1 = q) (k : mm_Ok G y q ls (.int (mm_i h a (mm_n i)) :: st) h o) : mm_Ok G y pc ls (.int i :: .ref a :: st) h o := by
  subst hq
  refine mm_st (fun p e R s m args below meth c H locs cells slots Q lsA C hx hb L Nw w k9 => ?_) k
  rcases Nat.lt_or_ge a 32 with h32 | h32
  · obtain ⟨e1, e2⟩ := Nw.ro h32
    have h10 : a < 10 := by rcases w.2.1 a h32 with x | x | x <;> omega
    refine va_ti hx hb (C.2.2.1.2.1 a h10) Nw.2.2.1 (by rw [← e1]; exact mm_in_of hi) (v := .int (mm_i h a (mm_n i))) ?_ hd k9
    show Value.int (G.2.2.2.2.2.2.1 a _) = Value.int (h.2.1 a _)
    rw [e2]; rfl
  · have g := mm_ws_get (G := G) h32 (mm_len99 (h := h) (a := a) (by omega))
    rw [mm_arr_i ha (by omega)] at g
    exact va_iald hx hb C.2.2.2.1 Nw.1 (a - 32) 0 g rfl (mm_in_of hi) hd k9
theorem ok_bald {a : Nat} {i : Int32} (hd : decode y.2.1 pc = .ok (.baload, 1)) (ha : mm_kd h a = 21) (hi : mm_in i (mm_ln h a) = true) (hq : pc + 1 = q) (k : mm_Ok G y q ls (.int (mm_i h a (mm_n i)) :: st) h o) : mm_Ok G y pc ls (.int i :: .ref a :: st) h o := by
  subst hq
  refine mm_st (fun p e R s m args below meth c H locs cells slots Q lsA C hx hb L Nw w k9 => ?_) k
  rcases Nat.lt_or_ge a 32 with h32 | h32
  · obtain ⟨e1, e2⟩ := Nw.ro h32
    have h10 : 21 ≤ a := by rcases w.2.1 a h32 with x | x | x <;> omega
    have hT := (C.2.2.1.2.2.2.1 (a - 21) (by omega)).2.2.2
    rw [show 21 + (a - 21) = a by omega] at hT
    refine va_tb hx hb hT Nw.2.2.1 (by rw [← e1]; exact mm_in_of hi) (v := .int (mm_i h a (mm_n i))) ?_ hd k9
    show Value.int (G.2.2.2.2.2.2.1 a _) = Value.int (h.2.1 a _)
    rw [e2]; rfl
  · have g := mm_ws_get (G := G) h32 (mm_len99 (h := h) (a := a) (by omega))
    rw [mm_arr_i ha (by omega)] at g
    exact va_bald hx hb C.2.2.2.1 Nw.1 (a - 32) 1 g rfl (mm_in_of hi) hd k9
theorem ok_zald {a : Nat} {i : Int32} (hd : decode y.2.1 pc = .ok (.baload, 1)) (ha : mm_kd h a = 22) (hi : mm_in i (mm_ln h a) = true) (hq : pc + 1 = q) (k : mm_Ok G y q ls (.int (mm_i h a (mm_n i)) :: st) h o) : mm_Ok G y pc ls (.int i :: .ref a :: st) h o := by
  subst hq
  refine mm_st (fun p e R s m args below meth c H locs cells slots Q lsA C hx hb L Nw w k9 => ?_) k
  have h32 : 32 ≤ a := w.2.1.obj (by omega)
  have g := mm_ws_get (G := G) h32 (mm_len99 (h := h) (a := a) (by omega))
  rw [mm_arr_i ha (by omega)] at g
  exact va_zald hx hb C.2.2.2.1 Nw.1 (a - 32) 2 g rfl (mm_in_of hi) hd k9
theorem ok_lald {a : Nat} {i : Int32} (hd : decode y.2.1 pc = .ok (.laload, 1)) (ha : mm_kd h a = 23) (hi : mm_in i (mm_ln h a) = true) (hq : pc + 1 = q) (k : mm_Ok G y q ls (.long (mm_l h a (mm_n i)) :: st) h o) : mm_Ok G y pc ls (.int i :: .ref a :: st) h o := by
  subst hq
  refine mm_st (fun p e R s m args below meth c H locs cells slots Q lsA C hx hb L Nw w k9 => ?_) k
  have h32 : 32 ≤ a := w.2.1.obj (by omega)
  have g := mm_ws_get (G := G) h32 (mm_len99 (h := h) (a := a) (by omega))
  rw [mm_arr_l ha] at g
  exact va_lald hx hb C.2.2.2.1 Nw.1 (a - 32) 3 g rfl (mm_in_of hi) hd k9
/-- reading an array of references: none is a null that the program does not look at -/
theorem ok_aald {a kn kb : Nat} {i : Int32} {f : Nat → Option (Option Value × mm_H)} (hd : decode y.2.1 pc = .ok (.aaload, 1)) (ha : mm_kd h a = kn) (hk : (kn = 24 ∧ kb = 5) ∨ (kn = 25 ∧ kb = 0)) (hi : mm_in i (mm_ln h a) = true) (hq : pc + 1 = q) (k : ∀ b, mm_kd h b = kb → mm_Ok G y q ls (.ref b :: st) h (f b)) : mm_Ok G y pc ls (.int i :: .ref a :: st) h ((mm_r h a (mm_n i)).bind f) := by
  subst hq
  intro w r h' ho
  have h32 : 32 ≤ a := w.2.1.obj (by omega)
  cases hm : mm_r h a (mm_n i) with
  | none => rw [hm] at ho; cases ho
  | some b =>
    rw [hm] at ho
    have ho : f b = some (r, h') := ho
    have hb9 : mm_kd h b = kb := by
      obtain ⟨-, -, w2, w3⟩ := w.1 a h32 (mm_len99 (h := h) (a := a) (by omega))
      rcases hk with ⟨k1, k2⟩ | ⟨k1, k2⟩
      · rw [k2]; exact w2 (by omega) _ b hm
      · rw [k2]; exact w3 (by omega) _ b hm
    refine mm_st (o := f b) (fun p e R s m args below meth c H locs cells slots Q lsA C hx hb L Nw w k9 => ?_) (k b hb9) w r h' ho
    have g := mm_ws_get (G := G) h32 (mm_len99 (h := h) (a := a) (by omega))
    rw [mm_arr_r ha (by omega)] at g
    have e9 : va_rf ((fun k => (h.2.2.2 a k).map G.2.1) i.toNatClampNeg) = .ref (G.2.1 b) := by
      show va_rf ((mm_r h a (mm_n i)).map G.2.1) = _
      rw [hm]; rfl
    rcases hk with ⟨k1, k2⟩ | ⟨k1, k2⟩
    · subst k1
      exact va_aldq hx hb C.2.2.2.1 Nw.1 (a - 32) 4 g rfl (mm_in_of hi) hd (by rw [e9]; exact k9)
    · subst k1
      exact va_aldq hx hb C.2.2.2.1 Nw.1 (a - 32) 5 g rfl (mm_in_of hi) hd (by rw [e9]; exact k9)
theorem ok_alen {a : Nat} (hd : decode y.2.1 pc = .ok (.arraylength, 1)) (ha : 20 ≤ mm_kd h a ∧ mm_kd h a < 26) (hq : pc + 1 = q) (k : mm_Ok G y q ls (.int (nI (mm_ln h a)) :: st) h o) : mm_Ok G y pc ls (.ref a :: st) h o := by
  subst hq
  refine mm_st (fun p e R s m args below meth c H locs cells slots Q lsA C hx hb L Nw w k9 => ?_) k
  rcases Nat.lt_or_ge a 32 with h32 | h32
  · obtain ⟨e1, e2⟩ := Nw.ro h32
    rcases w.2.1 a h32 with x | x | x
    · exact va_tlen hx hb (C.2.2.1.2.1 a x.1) Nw.2.2.1 (by rw [← e1]; rfl) hd k9
    · omega
    · have hT := (C.2.2.1.2.2.2.1 (a - 21) (by omega)).2.2.2
      rw [show 21 + (a - 21) = a by omega] at hT
      exact va_tlen hx hb hT Nw.2.2.1 (by rw [← e1]; rfl) hd k9
  · have g := mm_ws_get (G := G) h32 (mm_len99 (h := h) (a := a) (by omega))
    rcases (by omega : mm_kd h a = 20 ∨ mm_kd h a = 21 ∨ mm_kd h a = 22 ∨ mm_kd h a = 23 ∨ mm_kd h a = 24 ∨ mm_kd h a = 25) with e | e | e | e | e | e
    · rw [mm_arr_i e (by omega)] at g; exact va_alen hx hb C.2.2.2.1 Nw.1 (a - 32) 0 g rfl rfl hd k9
    · rw [mm_arr_i e (by omega)] at g; exact va_alen hx hb C.2.2.2.1 Nw.1 (a - 32) 1 g rfl rfl hd k9
    · rw [mm_arr_i e (by omega)] at g; exact va_alen hx hb C.2.2.2.1 Nw.1 (a - 32) 2 g rfl rfl hd k9
    · rw [mm_arr_l e] at g; exact va_alen hx hb C.2.2.2.1 Nw.1 (a - 32) 3 g rfl rfl hd k9
    · rw [mm_arr_r e (by omega)] at g; exact va_alen hx hb C.2.2.2.1 Nw.1 (a - 32) 4 g rfl rfl hd k9
    · rw [mm_arr_r e (by omega)] at g; exact va_alen hx hb C.2.2.2.1 Nw.1 (a - 32) 5 g rfl rfl hd k9
theorem ok_iast {a : Nat} {i x : Int32} (hd : decode y.2.1 pc = .ok (.iastore, 1)) (ha : mm_kd h a = 20) (h32 : 32 ≤ a) (hi : mm_in i (mm_ln h a) = true) (hq : pc + 1 = q) (k : mm_Ok G y q ls st (mm_si h a (mm_n i) (x)) o) : mm_Ok G y pc ls (.int x :: .int i :: .ref a :: st) h o := by
  subst hq
  refine mm_wr (h1 := mm_si h a (mm_n i) (x)) rfl mm_WT_i (fun p e R s m args below meth c H locs cells slots Q lsA C hx hb Nw w k9 => ?_) k
  have hl := mm_len99 (h := h) (a := a) (by omega)
  have g := mm_ws_get (G := G) h32 hl
  rw [mm_arr_i ha (by omega)] at g
  refine W.iast hx hb (Nw.1 _ _ g) ((C.2.2.2.1.2 0 _ rfl).1 (mm_ln h a) (fun j => .int (h.2.1 a j))) (fun q => by cases q) (by show ¬ (i < 0 ∨ (arrV _ _ _).slots.size ≤ _); rw [arrV_size]; exact mm_in_of hi) rfl rfl hd fun H1 e1 z1 o1 => ?_
  refine k9 H1 _ (Nw.put h32 hl rfl (fun b hb => mm_si_ne hb) (fun _ _ => rfl) (fun _ _ => rfl) ?_ z1 o1)
  rw [mm_arr_i (h := mm_si h a (mm_n i) (x)) (kn := 20) ha (by omega), mm_si_eq]
  show H1[G.2.1 a]? = some (vp_cell _ _)
  rw [e1]
  rw [vp_cell_i, vp_cell_i, arrV_store]
  congr 2
  funext z
  by_cases hz : z = i.toNatClampNeg
  · subst hz
    simp [updV, upd, mm_n, narrow, mm_b8]
  · simp [updV, upd, mm_n, hz]
theorem ok_bast {a : Nat} {i x : Int32} (hd : decode y.2.1 pc = .ok (.bastore, 1)) (ha : mm_kd h a = 21) (h32 : 32 ≤ a) (hi : mm_in i (mm_ln h a) = true) (hq : pc + 1 = q) (k : mm_Ok G y q ls st (mm_si h a (mm_n i) (mm_b8 x)) o) : mm_Ok G y pc ls (.int x :: .int i :: .ref a :: st) h o := by
  subst hq
  refine mm_wr (h1 := mm_si h a (mm_n i) (mm_b8 x)) rfl mm_WT_i (fun p e R s m args below meth c H locs cells slots Q lsA C hx hb Nw w k9 => ?_) k
  have hl := mm_len99 (h := h) (a := a) (by omega)
  have g := mm_ws_get (G := G) h32 hl
  rw [mm_arr_i ha (by omega)] at g
  refine W.bast hx hb (Nw.1 _ _ g) ((C.2.2.2.1.2 1 _ rfl).1 (mm_ln h a) (fun j => .int (h.2.1 a j))) (fun q => by cases q) (by show ¬ (i < 0 ∨ (arrV _ _ _).slots.size ≤ _); rw [arrV_size]; exact mm_in_of hi) rfl rfl hd fun H1 e1 z1 o1 => ?_
  refine k9 H1 _ (Nw.put h32 hl rfl (fun b hb => mm_si_ne hb) (fun _ _ => rfl) (fun _ _ => rfl) ?_ z1 o1)
  rw [mm_arr_i (h := mm_si h a (mm_n i) (mm_b8 x)) (kn := 21) ha (by omega), mm_si_eq]
  show H1[G.2.1 a]? = some (vp_cell _ _)
  rw [e1]
  rw [vp_cell_i, vp_cell_i, arrV_store]
  congr 2
  funext z
  by_cases hz : z = i.toNatClampNeg
  · subst hz
    simp [updV, upd, mm_n, narrow, mm_b8]
  · simp [updV, upd, mm_n, hz]
theorem ok_zast {a : Nat} {i x : Int32} (hd : decode y.2.1 pc = .ok (.bastore, 1)) (ha : mm_kd h a = 22) (h32 : 32 ≤ a) (hi : mm_in i (mm_ln h a) = true) (hq : pc + 1 = q) (k : mm_Ok G y q ls st (mm_si h a (mm_n i) (x &&& 1)) o) : mm_Ok G y pc ls (.int x :: .int i :: .ref a :: st) h o := by
  subst hq
  refine mm_wr (h1 := mm_si h a (mm_n i) (x &&& 1)) rfl mm_WT_i (fun p e R s m args below meth c H locs cells slots Q lsA C hx hb Nw w k9 => ?_) k
  have hl := mm_len99 (h := h) (a := a) (by omega)
  have g := mm_ws_get (G := G) h32 hl
  rw [mm_arr_i ha (by omega)] at g
  refine W.zast hx hb (Nw.1 _ _ g) ((C.2.2.2.1.2 2 _ rfl).1 (mm_ln h a) (fun j => .int (h.2.1 a j))) (fun q => by cases q) (by show ¬ (i < 0 ∨ (arrV _ _ _).slots.size ≤ _); rw [arrV_size]; exact mm_in_of hi) rfl rfl hd fun H1 e1 z1 o1 => ?_
  refine k9 H1 _ (Nw.put h32 hl rfl (fun b hb => mm_si_ne hb) (fun _ _ => rfl) (fun _ _ => rfl) ?_ z1 o1)
  rw [mm_arr_i (h := mm_si h a (mm_n i) (x &&& 1)) (kn := 22) ha (by omega), mm_si_eq]
  show H1[G.2.1 a]? = some (vp_cell _ _)
  rw [e1]
  rw [vp_cell_i, vp_cell_i, arrV_store]
  congr 2
  funext z
  by_cases hz : z = i.toNatClampNeg
  · subst hz
    simp [updV, upd, mm_n, narrow, mm_b8]
  · simp [updV, upd, mm_n, hz]
theorem ok_last {a : Nat} {i : Int32} {x : Int64} (hd : decode y.2.1 pc = .ok (.lastore, 1)) (ha : mm_kd h a = 23) (hi : mm_in i (mm_ln h a) = true) (hq : pc + 1 = q) (k : mm_Ok G y q ls st (mm_sl h a (mm_n i) x) o) : mm_Ok G y pc ls (.long x :: .int i :: .ref a :: st) h o := by
  subst hq
  refine mm_wr (h1 := mm_sl h a (mm_n i) x) rfl mm_WT_l (fun p e R s m args below meth c H locs cells slots Q lsA C hx hb Nw w k9 => ?_) k
  have h32 : 32 ≤ a := w.2.1.obj (by omega)
  have hl := mm_len99 (h := h) (a := a) (by omega)
  have g := mm_ws_get (G := G) h32 hl
  rw [mm_arr_l ha] at g
  refine W.last hx hb (Nw.1 _ _ g) ((C.2.2.2.1.2 3 _ rfl).1 (mm_ln h a) (fun j => .long (h.2.2.1 a j))) (fun q => by cases q) (by show ¬ (i < 0 ∨ (arrV _ _ _).slots.size ≤ _); rw [arrV_size]; exact mm_in_of hi) rfl rfl hd fun H1 e1 z1 o1 => ?_
  refine k9 H1 _ (Nw.put h32 hl rfl (fun _ _ => rfl) (fun b hb => mm_sl_ne hb) (fun _ _ => rfl) ?_ z1 o1)
  rw [mm_arr_l (h := mm_sl h a (mm_n i) x) ha, mm_sl_eq]
  show H1[G.2.1 a]? = some (vp_cell _ _)
  rw [e1]
  rw [vp_cell_l, vp_cell_l, arrV_store]
  congr 2
  funext z
  by_cases hz : z = i.toNatClampNeg
  · subst hz
    simp [updV, vp_updL, mm_n]
  · simp [updV, vp_updL, mm_n, hz]
theorem ok_aast {a b kn kb : Nat} {i : Int32} (hd : decode y.2.1 pc = .ok (.aastore, 1)) (ha : mm_kd h a = kn) (hk : (kn = 24 ∧ kb = 5) ∨ (kn = 25 ∧ kb = 0)) (hb2 : mm_kd h b = kb) (hi : mm_in i (mm_ln h a) = true) (hq : pc + 1 = q) (k : mm_Ok G y q ls st (mm_sr h a (mm_n i) (some b)) o) : mm_Ok G y pc ls (.ref b :: .int i :: .ref a :: st) h o := by
  subst hq
  refine mm_wr (h1 := mm_sr h a (mm_n i) (some b)) rfl (fun w => mm_WT_r w (mm_kd_lt (by omega)) (fun z => by omega) (fun z => by omega) (fun z => by omega)) (fun p e R s m args below meth c H locs cells slots Q lsA C hx hb Nw w k9 => ?_) k
  have h32 : 32 ≤ a := w.2.1.obj (by omega)
  have hl := mm_len99 (h := h) (a := a) (by omega)
  have g := mm_ws_get (G := G) h32 hl
  rw [mm_arr_r ha (by omega)] at g
  have fin : ∀ H1 : Heap, H1[G.2.1 a]? = some ((vp_cell (G.2.2.2.1 kn) (mm_ln h a, .inr (.inr (.inr (.inr (fun k => (h.2.2.2 a k).map G.2.1)))))).setSlot i.toNatClampNeg (.ref (G.2.1 b))) → va_at G.2.2.1 vwCl (G.2.1 a, mm_cell G (mm_sr h a (mm_n i) (some b)) a) H1 := by
    intro H1 e1
    rw [mm_arr_r (h := mm_sr h a (mm_n i) (some b)) (kn := kn) ha (by omega), mm_sr_eq]
    show H1[G.2.1 a]? = some (vp_cell _ _)
    rw [e1]
    rw [vp_cell_q, vp_cell_q, arrV_store]
    congr 2
    funext z
    by_cases hz : z = i.toNatClampNeg
    · subst hz
      simp [updV, va_up, mm_n, va_rf]
    · simp [updV, va_up, mm_n, hz]
  have hlt : i.toNatClampNeg < mm_ln h a := Nat.not_le.mp fun q => (mm_in_of hi) (Or.inr q)
  have h0 : ¬ i < 0 := fun q => (mm_in_of hi) (Or.inl q)
  rcases hk with ⟨k1, k2⟩ | ⟨k1, k2⟩
  · subst k1; subst k2
    obtain ⟨v1, v2, v3, v4, v5⟩ := mm_obj (G := G) cl_5 w hb2
    obtain ⟨r', hr', cellV, g1, g2, g3, -⟩ := Nw.1 _ _ v5
    have hcls := (C.2.2.2.1.1 5 _ cl_5.1).2
    obtain ⟨kA, comp, c1, c2, c3, -⟩ := (C.2.2.2.1.2 4 _ rfl).2
    have hcomp : comp = G.2.2.1.1 5 := Option.some.inj (c3.symm.trans hcls.1)
    subst hcomp
    obtain ⟨kC, hkC, -⟩ := hcls.2
    refine W.aast hx hb (Nw.1 _ _ g) (fun q h => by cases h) (fun h => by cases h) c1 c2 rfl hkC ⟨h0, by show _ < (arrV _ _ _).slots.size; rw [arrV_size]; exact hlt⟩ g1 (fun q h => by rw [g3] at h; cases h) (by rw [g2]; exact hkC) (by rw [g2]; exact va_assign hcls) rfl rfl hd fun H1 e z oq => ?_
    exact k9 H1 _ (Nw.put h32 hl rfl (fun _ _ => rfl) (fun _ _ => rfl) (fun b hb => mm_sr_ne hb) (fin H1 e) z oq)
  · subst k1; subst k2
    obtain ⟨v1, v2, v3, v4, v5⟩ := mm_obj (G := G) cl_0 w hb2
    obtain ⟨r', hr', cellV, g1, g2, g3, -⟩ := Nw.1 _ _ v5
    have hcls := (C.2.2.2.1.1 0 _ cl_0.1).2
    obtain ⟨kA, comp, c1, c2, c3, -⟩ := (C.2.2.2.1.2 5 _ rfl).2
    have hcomp : comp = G.2.2.1.1 0 := Option.some.inj (c3.symm.trans hcls.1)
    subst hcomp
    obtain ⟨kC, hkC, -⟩ := hcls.2
    refine W.aast hx hb (Nw.1 _ _ g) (fun q h => by cases h) (fun h => by cases h) c1 c2 rfl hkC ⟨h0, by show _ < (arrV _ _ _).slots.size; rw [arrV_size]; exact hlt⟩ g1 (fun q h => by rw [g3] at h; cases h) (by rw [g2]; exact hkC) (by rw [g2]; exact va_assign hcls) rfl rfl hd fun H1 e z oq => ?_
    exact k9 H1 _ (Nw.put h32 hl rfl (fun _ _ => rfl) (fun _ _ => rfl) (fun b hb => mm_sr_ne hb) (fin H1 e) z oq)
end MMR8
