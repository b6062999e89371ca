def mm_n (i : Int32) : Nat := i.toNatClampNeg
def mm_in (i : Int32) (n : Nat) : Bool := decide (¬ (i < 0 ∨ n ≤ i.toNatClampNeg))
theorem mm_in_of {i : Int32} {n : Nat} (h : mm_in i n = true) : vp_in i n := by
  unfold mm_in at h
  unfold vp_in
  exact of_decide_eq_true h
theorem mm_si_ne {h : mm_H} {a k b : Nat} {v : Int32} (hb : b ≠ a) : (mm_si h a k v).2.1 b = h.2.1 b := by simp [mm_si, va_up, hb]
theorem mm_si_eq {h : mm_H} {a k : Nat} {v : Int32} : (mm_si h a k v).2.1 a = upd (h.2.1 a) k v := by simp [mm_si, va_up]
theorem mm_sl_ne {h : mm_H} {a k b : Nat} {v : Int64} (hb : b ≠ a) : (mm_sl h a k v).2.2.1 b = h.2.2.1 b := by simp [mm_sl, va_up, hb]
theorem mm_sl_eq {h : mm_H} {a k : Nat} {v : Int64} : (mm_sl h a k v).2.2.1 a = vp_updL (h.2.2.1 a) k v := by simp [mm_sl, va_up]
theorem mm_sr_ne {h : mm_H} {a k b : Nat} {v : Option Nat} (hb : b ≠ a) : (mm_sr h a k v).2.2.2 b = h.2.2.2 b := by simp [mm_sr, va_up, hb]
theorem mm_sr_eq {h : mm_H} {a k : Nat} {v : Option Nat} : (mm_sr h a k v).2.2.2 a = va_up (h.2.2.2 a) k v := by simp [mm_sr, va_up]
/-- the cell of another address stays, where the rows of that address stay -/
theorem mm_cell_of {G : mm_G} {h h' : mm_H} {b : Nat} (h0 : h'.1[b]? = h.1[b]?) (h1 : h'.2.1 b = h.2.1 b) (h2 : h'.2.2.1 b = h.2.2.1 b) (h3 : h'.2.2.2 b = h.2.2.2 b) : mm_cell G h' b = mm_cell G h b := by
  have e1 : mm_kd h' b = mm_kd h b := by simp [mm_kd, List.getD_eq_getElem?_getD, h0]
  have e2 : mm_ln h' b = mm_ln h b := by simp [mm_ln, List.getD_eq_getElem?_getD, h0]
  have e3 : mm_fs G.2.1 h' b = mm_fs G.2.1 h b := by
    unfold mm_fs
    rw [e1, e2]
    apply List.map_congr_left
    intro k _
    unfold mm_fv mm_l mm_r mm_i
    rw [h1, h2, h3]
  unfold mm_cell
  rw [e1, e2, e3, h1, h2, h3]
theorem mm_fs_get {adr : Nat → Nat} {h : mm_H} {a k : Nat} (hk : k < mm_ln h a) : (mm_fs adr h a)[k]? = some (mm_fv adr h a (mm_ty (mm_kd h a) k) k) := by
  simp [mm_fs, List.getElem?_map, List.getElem?_range hk]
theorem mm_fs_set {adr : Nat → Nat} {h h' : mm_H} {a k : Nat} {v : Value} (hk : k < mm_ln h a) (hs : h'.1 = h.1) (hv : mm_fv adr h' a (mm_ty (mm_kd h a) k) k = v) (ho : ∀ j, j ≠ k → mm_fv adr h' a (mm_ty (mm_kd h a) j) j = mm_fv adr h a (mm_ty (mm_kd h a) j) j) : (mm_fs adr h a).set k v = mm_fs adr h' a := by
  have e1 : mm_kd h' a = mm_kd h a := by simp [mm_kd, hs]
  have e2 : mm_ln h' a = mm_ln h a := by simp [mm_ln, hs]
  apply List.ext_getElem?
  intro j
  by_cases hj : k = j
  · subst hj
    rw [List.getElem?_set_self (by simp [mm_fs]; exact hk), mm_fs_get (by rw [e2]; exact hk), e1, hv]
  · rw [List.getElem?_set_ne hj]
    by_cases hl : j < mm_ln h a
    · rw [mm_fs_get hl, mm_fs_get (by rw [e2]; exact hl), e1, ho j (Ne.symm hj)]
    · rw [List.getElem?_eq_none (by simp [mm_fs]; omega), List.getElem?_eq_none (by simp [mm_fs, e2]; omega)]
section MMR7
variable {G : mm_G} {y : mm_Y} {pc q : Nat} {ls ls' st st' : List Value} {h h1 : mm_H} {o o1 o2 : Option (Option Value × mm_H)}
/-- a step that changes cells, and makes none -/
theorem mm_wr (hs : h1.1 = h.1) (hw : mm_Wf h → mm_WT h1) (f : ∀ (p : Program) (e : Env) (R : Room) (s : State) (m : MethodId) (args : Array Value) (below : List Frame) (meth : Method) (c : Code) (H : Heap) (locs : List Loc) (cells slots : Nat) (Q : State → Prop) (lsA : Array Slot), mm_Ctx G y p R s m args meth c → p.tables.exec = Jvm.exec → c.code = y.2.1 → mm_Now G h s H locs → mm_Wf h →
      (∀ H1 locs1, mm_Now G h1 s H1 locs1 → W p G.1 e R s m args below meth c H1 locs1 cells slots Q (F0 m q lsA (st'.map (mm_v G.2.1)))) → W p G.1 e R s m args below meth c H locs cells slots Q (F0 m pc lsA (st.map (mm_v G.2.1))))
    (k : mm_Ok G y q ls st' h1 o) : mm_Ok G y pc ls st h o := by
  intro w r h' ho
  have w1 : mm_Wf h1 := ⟨hw w, fun a ha => by have e : mm_kd h1 a = mm_kd h a := by simp [mm_kd, hs]
                                              rw [e]; exact w.2.1 a ha, by rw [hs]; exact w.2.2⟩
  obtain ⟨k1, k3⟩ := k w1 r h' ho
  have hz : mm_sz h1 = mm_sz h := by simp [mm_sz, hs]
  rw [hs] at k1 k3
  rw [hz] at k3
  refine ⟨k1, fun p e R s m args below meth c C H locs cells slots Q lsA N L hc hs he => ?_⟩
  exact f p e R s m args below meth c H locs cells slots Q lsA C C.1.1 C.1.2.1 N w (fun H1 locs1 N1 => k3 p e R s m args below meth c C H1 locs1 cells slots Q lsA N1 L hc hs he)
/-- what a write leaves: the world, where one address's rows changed -/
theorem mm_Now.put {s : State} {H H1 : Heap} {locs : List Loc} {a k : Nat} (N : mm_Now G h s H locs) (ha : 32 ≤ a) (hl : a < h.1.length) (hs : h1.1 = h.1) (hi : ∀ b, b ≠ a → h1.2.1 b = h.2.1 b) (hj : ∀ b, b ≠ a → h1.2.2.1 b = h.2.2.1 b) (hr : ∀ b, b ≠ a → h1.2.2.2 b = h.2.2.2 b)
    (he : va_at G.2.2.1 vwCl (G.2.1 a, mm_cell G h1 a) H1) (hz : H1.size = H.size) (oq : ∀ q : Nat, q ≠ G.2.1 a → H1[q]? = H[q]?) : mm_Now G h1 s H1 (locs ++ [⟨G.2.1 a, k⟩]) := by
  have e := mm_ws_set (G := G) ha hl hs (fun b hb => mm_cell_of (G := G) (h := h) (h' := h1) (b := b) (by rw [hs]) (hi b hb) (hj b hb) (hr b hb))
  have g := mm_ws_get (G := G) ha hl
  have hP := N.1.set N.2.1 g he oq
  have hD : va_D (mm_A G) ((mm_ws G h).set (a - 32) (G.2.1 a, mm_cell G h1 a)) := N.2.1.set g
  rw [e] at hP hD
  refine ⟨hP, hD, N.2.2.1.put hz oq (N.2.1.2 _ _ g), by rw [hz, hs]; exact N.2.2.2.1, fun b hb => ?_⟩
  rw [hs, hi b (by omega)]
  exact N.2.2.2.2 b hb
theorem mm_obj {cn : Nat} {Cn : String} {T : u_T} {N : Nat} {ty : Nat → FieldType} (K : mm_Cl cn Cn T N ty) (w : mm_Wf h) {a : Nat} (ha : mm_kd h a = cn) :
    32 ≤ a ∧ a < h.1.length ∧ mm_ln h a = N ∧ mm_cell G h a = .inr (cn, mm_fs G.2.1 h a) ∧ (mm_ws G h)[a - 32]? = some (G.2.1 a, .inr (cn, mm_fs G.2.1 h a)) := by
  obtain ⟨-, -, -, -, k5, -, k7⟩ := K
  have h1 : 32 ≤ a := w.2.1.obj (Or.inl (by omega))
  have h2 : a < h.1.length := mm_kd_lt (by omega)
  have h3 := ((w.1 a h1 h2).2.1 (by omega)).1
  have h4 : mm_cell G h a = .inr (cn, mm_fs G.2.1 h a) := by unfold mm_cell; rw [if_pos (by omega), ha]
  refine ⟨h1, h2, by rw [h3, ha, k5], h4, ?_⟩
  rw [← h4]
  exact mm_ws_get h1 h2
theorem ok_getI {cn : Nat} {Cn : String} {T : u_T} {N : Nat} {ty : Nat → FieldType} (K : mm_Cl cn Cn T N ty) {i k a : Nat} (hd : decode y.2.1 pc = .ok (.getfield i, 3)) (hk : k < N) (hw : Cond.fieldLink y.1.cls i (T k).1 (T k).2.1 (T k).2.2.1 ∈ mm_T) (hv : ∀ adr h a, mm_fv adr h a (ty k) k = .int (mm_i h a k)) (ha : mm_kd h a = cn) (hq : pc + 3 = q)
    (kk : mm_Ok G y q ls (.int (mm_i h a k) :: st) h o) : mm_Ok G y pc ls (.ref a :: st) h o := by
  subst hq
  refine mm_st (fun p e R s m args below meth c H locs cells slots Q lsA C hx hb L Nw w k9 => ?_) kk
  obtain ⟨h1, h2, h3, h4, h5⟩ := mm_obj (G := G) K w ha
  refine va_get hx hb C.1.2.2.2.2.1 K.2.1 C.1.2.2.2.1 C.2.2.2.1 Nw.1 (a - 32) h5 K.1 k hk (C.1.2.2.2.2.1 _ hw) (fun _ h9 => h9) (v := .int (mm_i h a k)) ?_ hd k9
  rw [mm_fs_get (by rw [h3]; exact hk), ha, K.2.2.2.2.2.1, hv]
theorem ok_getR {cn : Nat} {Cn : String} {T : u_T} {N : Nat} {ty : Nat → FieldType} (K : mm_Cl cn Cn T N ty) {i k a kn : Nat} {f : Nat → Option (Option Value × mm_H)} (hd : decode y.2.1 pc = .ok (.getfield i, 3)) (hk : k < N) (hw : Cond.fieldLink y.1.cls i (T k).1 (T k).2.1 (T k).2.2.1 ∈ mm_T) (hv : ∀ adr h a, mm_fv adr h a (ty k) k = va_rf ((mm_r h a k).map adr)) (hkn : mm_kt (ty k) = kn) (ha : mm_kd h a = cn) (hq : pc + 3 = q)
    (kk : ∀ b, mm_kd h b = kn → mm_Ok G y q ls (.ref b :: st) h (f b)) : mm_Ok G y pc ls (.ref a :: st) h ((mm_r h a k).bind f) := by
  subst hq
  intro w r h' ho
  cases hm : mm_r h a k with
  | none => rw [hm] at ho; cases ho
  | some b =>
    rw [hm] at ho
    have ho : f b = some (r, h') := ho
    have hb9 : mm_kd h b = kn := by
      obtain ⟨h1, h2, h3, h4, h5⟩ := mm_obj (G := G) K w ha
      have h6 := ((w.1 a h1 h2).2.1 (by rw [ha]; exact K.2.2.2.2.2.2)).2 k b hm
      rw [h6, ha, K.2.2.2.2.2.1, hkn]
    refine mm_st (o := f b) (fun p e R s m args below meth c H locs cells slots Q lsA C hx hb L Nw w k9 => ?_) (kk b hb9) w r h' ho
    obtain ⟨h1, h2, h3, h4, h5⟩ := mm_obj (G := G) K w ha
    refine va_get hx hb C.1.2.2.2.2.1 K.2.1 C.1.2.2.2.1 C.2.2.2.1 Nw.1 (a - 32) h5 K.1 k hk (C.1.2.2.2.2.1 _ hw) (fun _ h9 => h9) (v := .ref (G.2.1 b)) ?_ hd k9
    rw [mm_fs_get (by rw [h3]; exact hk), ha, K.2.2.2.2.2.1, hv, hm]
    rfl
theorem mm_WT_i {a k : Nat} {v : Int32} (w : mm_Wf h) : mm_WT (mm_si h a k v) := w.1
theorem mm_WT_l {a k : Nat} {v : Int64} (w : mm_Wf h) : mm_WT (mm_sl h a k v) := w.1
theorem mm_put_obj {cn : Nat} {Cn : String} {T : u_T} {N : Nat} {ty : Nat → FieldType} (K : mm_Cl cn Cn T N ty) {a k : Nat} {v : Value} (hk : k < N) (ha : mm_kd h a = cn) (hl : mm_ln h a = N) (hs : h1.1 = h.1) (hv : mm_fv G.2.1 h1 a (ty k) k = v) (ho : ∀ j, j ≠ k → mm_fv G.2.1 h1 a (ty j) j = mm_fv G.2.1 h a (ty j) j) : (.inr (cn, (mm_fs G.2.1 h a).set k v) : va_E) = mm_cell G h1 a := by
  have e1 : mm_kd h1 a = cn := by rw [← ha]; simp [mm_kd, hs]
  have e2 := mm_fs_set (adr := G.2.1) (h := h) (h' := h1) (a := a) (k := k) (v := v) (by rw [hl]; exact hk) hs (by rw [ha, K.2.2.2.2.2.1]; exact hv) (fun j hj => by rw [ha, K.2.2.2.2.2.1]; exact ho j hj)
  unfold mm_cell
  rw [if_pos (by rw [e1]; exact K.2.2.2.2.2.2), e1, e2]
theorem mm_fv_si {adr : Nat → Nat} {a k j : Nat} {v : Int32} {t : FieldType} (hj : j ≠ k) : mm_fv adr (mm_si h a k v) a t j = mm_fv adr h a t j := by
  have e : mm_i (mm_si h a k v) a j = mm_i h a j := by show (mm_si h a k v).2.1 a j = _; rw [mm_si_eq]; exact pk_un hj
  cases t <;> first | rfl | (show Value.int _ = Value.int _; rw [e])
theorem mm_fv_sr {adr : Nat → Nat} {a k j : Nat} {v : Option Nat} {t : FieldType} (hj : j ≠ k) : mm_fv adr (mm_sr h a k v) a t j = mm_fv adr h a t j := by
  have e : mm_r (mm_sr h a k v) a j = mm_r h a j := by show (mm_sr h a k v).2.2.2 a j = _; rw [mm_sr_eq]; simp [va_up, hj]; rfl
  cases t <;> first | rfl | (show va_rf _ = va_rf _; rw [e])
/-- putfield, over the machine: the cell that it leaves -/
theorem mm_putf {p : Program} {l : Launch} {e : Env} {R : Room} {s : State} {m : MethodId} {args : Array Value} {below : List Frame} {meth : Method} {c : Code} {H : Heap} {locs : List Loc} {cells slots : Nat} {Q : State → Prop} {cn : Nat} {Cn : String} {T : u_T} {N : Nat} {ty : Nat → FieldType} (K : mm_Cl cn Cn T N ty) {i k a : Nat} {v : Value} {fs : List Value} {lsA : Array Slot} {stA : List Value} (hx : p.tables.exec = Jvm.exec) (hb : c.code = y.2.1) (hts : ∀ w ∈ mm_T, w.before args s = true) (hown : s.vm.findClass y.1.cls = some m.cls) (hK : va_K G.2.2.1 vwCl (mm_tys G) s) (hat : va_at G.2.2.1 vwCl (a, .inr (cn, fs)) H) (hk : k < N) (hl : k < fs.length) (hw : Cond.fieldLink y.1.cls i (T k).1 (T k).2.1 (T k).2.2.1 ∈ mm_T) (hfin : (T k).2.2.2 = false ∨ (meth.name = "<init>" ∧ (T k).2.2.2 = true ∧ (T k).1 = y.1.cls)) (hn : narrow (ty k) v = v) (hf : fits (ty k) v = true) (hd : decode y.2.1 pc = .ok (.putfield i, 3))
    (kk : ∀ (H1 : Heap) (j : Nat), va_at G.2.2.1 vwCl (a, .inr (cn, fs.set k v)) H1 → H1.size = H.size → (∀ q : Nat, q ≠ a → H1[q]? = H[q]?) → W p l e R s m args below meth c H1 (locs ++ [⟨a, j⟩]) cells slots Q (F0 m (pc + 3) lsA stA)) : W p l e R s m args below meth c H locs cells slots Q (F0 m pc lsA (v :: .ref a :: stA)) := by
  have hap := va_apart (own := y.1.cls) hts K.2.1 ty K.2.2.1 K.2.2.2.1 hK K.1
  obtain ⟨r, h1, cell, q1, q2, q3, q4⟩ := hat
  have hr : r = (Cn, T, N) := Option.some.inj (h1.symm.trans K.1)
  subst hr
  obtain ⟨hS, hfc, kC, hkC, hkind⟩ := hK.1 cn _ K.1
  obtain ⟨cf, kf, fi, f, hi, hsl⟩ := hS k hk
  have hlay := hts _ (K.2.1 _ (u_in_lay hk))
  unfold u_lay at hlay
  have hst := (u_facts hfc hkC (u_lays hts K.2.1 hk) hi).1
  have fin : ∀ H' : Heap, H'[a]? = some (cell.setSlot (G.2.2.1.2 cn k) v) → va_at G.2.2.1 vwCl (a, .inr (cn, fs.set k v)) H' := fun H' e1 =>
    ⟨_, K.1, t_OB.to (V := updV (vp_V fs) k v) ⟨_, e1, q2, q3, t_set q4 hap hk v⟩ (fun j _ => vp_updV_set hl v j)⟩
  rcases hfin with hfin | ⟨hin2, hfin, hdecl⟩
  · rw [if_neg (by rw [hfin]; decide)] at hlay
    have h6 := u_store hfc hkC hkind hlay hi (K.2.2.1 k hk) hn hf
    refine W.putK hx hb (f := f) ⟨hown, hts _ hw, ⟨_, _, _, hi⟩, hst⟩ (by rw [q2]; exact h6) q1 q3 (by rw [hsl]; exact k2_hasslot (q4 k hk)) rfl rfl hd fun H' e1 e2 e3 => ?_
    rw [hsl] at e1
    exact kk H' _ (fin H' e1) e2 e3
  · rw [if_pos hfin] at hlay
    have hcf : m.cls = cf := by
      obtain ⟨_, _, c', _, _, _, -, -, hf', -, -, -, hown2, -⟩ := Cond.laysFinal_spec hlay
      have e1 : c' = cf := by have := hi.symm.trans hf'; simp at this; exact this.1.symm
      rw [hdecl] at hown2
      rw [← e1]; exact Option.some.inj (hown.symm.trans hown2)
    have h6 := u_fits hfc hkC hkind (Or.inr hlay) hi (K.2.2.1 k hk) hn hf
    refine W.putFinK hx hb hown (hts _ hw) hi hst hcf hin2 (by rw [q2]; exact h6) q1 q3 (by rw [hsl]; exact k2_hasslot (q4 k hk)) rfl rfl hd fun H' e1 e2 e3 => ?_
    rw [hsl] at e1
    exact kk H' _ (fin H' e1) e2 e3
/-- may this method put that field -/
def mm_may (y : mm_Y) (q : String × String × String × Bool) : Prop := q.2.2.2 = false ∨ (y.1.name = "<init>" ∧ q.2.2.2 = true ∧ q.1 = y.1.cls)
theorem mm_may.on {q : String × String × String × Bool} {p : Program} {R : Room} {s : State} {m : MethodId} {args : Array Value} {meth : Method} {c : Code} (hm : mm_may y q) (C : mm_Ctx G y p R s m args meth c) : q.2.2.2 = false ∨ (meth.name = "<init>" ∧ q.2.2.2 = true ∧ q.1 = y.1.cls) := by
  rcases hm with h | ⟨h1, h2⟩
  · exact Or.inl h
  · exact Or.inr ⟨C.2.1.2.2 h1, h2⟩
theorem ok_putI {cn : Nat} {Cn : String} {T : u_T} {N : Nat} {ty : Nat → FieldType} (K : mm_Cl cn Cn T N ty) {i k a : Nat} {v : Int32} (hd : decode y.2.1 pc = .ok (.putfield i, 3)) (hk : k < N) (hw : Cond.fieldLink y.1.cls i (T k).1 (T k).2.1 (T k).2.2.1 ∈ mm_T) (hfin : mm_may y (T k)) (hv : ∀ adr h a, mm_fv adr h a (ty k) k = .int (mm_i h a k)) (hn : narrow (ty k) (.int v) = .int v) (hf : fits (ty k) (.int v) = true) (ha : mm_kd h a = cn) (hq : pc + 3 = q)
    (kk : mm_Ok G y q ls st (mm_si h a k v) o) : mm_Ok G y pc ls (.int v :: .ref a :: st) h o := by
  subst hq
  refine mm_wr (h1 := mm_si h a k v) rfl mm_WT_i (fun p e R s m args below meth c H locs cells slots Q lsA C hx hb Nw w k9 => ?_) kk
  obtain ⟨h1, h2, h3, h4, h5⟩ := mm_obj (G := G) K w ha
  refine mm_putf (G := G) (y := y) K (v := .int v) hx hb C.1.2.2.2.2.1 C.1.2.2.2.1 C.2.2.2.1 (Nw.1 _ _ h5) hk (by simp [mm_fs, h3]; exact hk) hw (hfin.on C) hn hf hd (fun H1 j e1 z1 o1 => ?_)
  rw [mm_put_obj (G := G) (h := h) (h1 := mm_si h a k v) (v := .int v) K hk ha h3 rfl (by rw [hv]; show Value.int ((mm_si h a k v).2.1 a k) = _; rw [mm_si_eq, pk_us]) (fun j hj => mm_fv_si hj)] at e1
  exact k9 H1 _ (Nw.put h1 h2 rfl (fun b hb => mm_si_ne hb) (fun _ _ => rfl) (fun _ _ => rfl) e1 z1 o1)
theorem mm_WT_r {a k b : Nat} (w : mm_Wf h) (hlt : b < h.1.length) (hb : mm_kd h a < 12 → mm_kd h b = mm_kt (mm_ty (mm_kd h a) k)) (h24 : mm_kd h a = 24 → mm_kd h b = 5) (h25 : mm_kd h a = 25 → mm_kd h b = 0) : mm_WT (mm_sr h a k (some b)) := by
  intro x hx hl
  have e : ∀ z, mm_kd (mm_sr h a k (some b)) z = mm_kd h z := fun z => rfl
  have e2 : mm_ln (mm_sr h a k (some b)) x = mm_ln h x := rfl
  have e3 : ∀ j c, mm_r (mm_sr h a k (some b)) x j = some c → mm_r h x j = some c ∨ (x = a ∧ j = k ∧ c = b) := by
    intro j c hc
    by_cases hxa : x = a
    · subst hxa
      have hc : (mm_sr h x k (some b)).2.2.2 x j = some c := hc
      rw [mm_sr_eq] at hc
      by_cases hj : j = k
      · subst hj
        simp [va_up] at hc
        exact Or.inr ⟨rfl, rfl, hc.symm⟩
      · simp [va_up, hj] at hc
        exact Or.inl hc
    · have hc : (mm_sr h a k (some b)).2.2.2 x j = some c := hc
      rw [mm_sr_ne hxa] at hc
      exact Or.inl hc
  have hl : x < h.1.length := hl
  obtain ⟨w0, w1, w2, w3⟩ := w.1 x hx hl
  refine ⟨fun j c hj => ?_, fun hc => ⟨(w1 hc).1, fun j c hj => ?_⟩, fun hc j c hj => ?_, fun hc j c hj => ?_⟩
  · rcases e3 j c hj with g | ⟨rfl, rfl, rfl⟩
    · exact w0 j c g
    · exact hlt
  · rcases e3 j c hj with g | ⟨rfl, rfl, rfl⟩
    · exact (w1 hc).2 j c g
    · exact hb hc
  · rcases e3 j c hj with g | ⟨rfl, rfl, rfl⟩
    · exact w2 hc j c g
    · exact h24 hc
  · rcases e3 j c hj with g | ⟨rfl, rfl, rfl⟩
    · exact w3 hc j c g
    · exact h25 hc
theorem ok_putR {cn : Nat} {Cn : String} {T : u_T} {N : Nat} {ty : Nat → FieldType} (K : mm_Cl cn Cn T N ty) {i k a b kn : Nat} (hd : decode y.2.1 pc = .ok (.putfield i, 3)) (hk : k < N) (hw : Cond.fieldLink y.1.cls i (T k).1 (T k).2.1 (T k).2.2.1 ∈ mm_T) (hfin : mm_may y (T k)) (hv : ∀ adr h a, mm_fv adr h a (ty k) k = va_rf ((mm_r h a k).map adr)) (hn : ∀ x, narrow (ty k) (.ref x) = .ref x) (hf : ∀ x, fits (ty k) (.ref x) = true) (hkn : mm_kt (ty k) = kn) (h99 : kn ≠ 99) (ha : mm_kd h a = cn) (hb2 : mm_kd h b = kn) (hq : pc + 3 = q)
    (kk : mm_Ok G y q ls st (mm_sr h a k (some b)) o) : mm_Ok G y pc ls (.ref b :: .ref a :: st) h o := by
  subst hq
  refine mm_wr (h1 := mm_sr h a k (some b)) rfl (fun w => mm_WT_r w (mm_kd_lt (by rw [hb2]; exact h99)) (fun _ => by rw [ha, K.2.2.2.2.2.1, hkn]; exact hb2) (fun z => absurd z (by rw [ha]; have := K.2.2.2.2.2.2; omega)) (fun z => absurd z (by rw [ha]; have := K.2.2.2.2.2.2; omega))) (fun p e R s m args below meth c H locs cells slots Q lsA C hx hb Nw w k9 => ?_) kk
  obtain ⟨h1, h2, h3, h4, h5⟩ := mm_obj (G := G) K w ha
  refine mm_putf (G := G) (y := y) K (v := .ref (G.2.1 b)) hx hb C.1.2.2.2.2.1 C.1.2.2.2.1 C.2.2.2.1 (Nw.1 _ _ h5) hk (by simp [mm_fs, h3]; exact hk) hw (hfin.on C) (hn _) (hf _) hd (fun H1 j e1 z1 o1 => ?_)
  rw [mm_put_obj (G := G) (h := h) (h1 := mm_sr h a k (some b)) (v := .ref (G.2.1 b)) K hk ha h3 rfl (by rw [hv]; show va_rf (((mm_sr h a k (some b)).2.2.2 a k).map _) = _; rw [mm_sr_eq]; simp [va_up]; rfl) (fun j hj => mm_fv_sr hj)] at e1
  exact k9 H1 _ (Nw.put h1 h2 rfl (fun _ _ => rfl) (fun _ _ => rfl) (fun b hb => mm_sr_ne hb) e1 z1 o1)
end MMR7
