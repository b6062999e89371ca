/-! ===== rules: making, statics, texts, Math.max, Object.<init>, handing back ===== -/
section MMR9
variable {G : mm_G} {y : mm_Y} {pc q : Nat} {ls ls' st st' : List Value} {h h1 : mm_H} {o o1 o2 : Option (Option Value × mm_H)}
theorem mm_al_kd {kn n a : Nat} : mm_kd (mm_al h kn n) a = if a = h.1.length then kn else mm_kd h a := by
  unfold mm_kd mm_al
  simp only [List.getD_eq_getElem?_getD]
  by_cases e : a = h.1.length
  · subst e; simp
  · rw [if_neg e]
    rcases Nat.lt_or_ge a h.1.length with q | q
    · rw [List.getElem?_append_left q]
    · rw [List.getElem?_eq_none (by simp; omega), List.getElem?_eq_none q]
theorem mm_al_ln {kn n a : Nat} : mm_ln (mm_al h kn n) a = if a = h.1.length then n else mm_ln h a := by
  unfold mm_ln mm_al
  simp only [List.getD_eq_getElem?_getD]
  by_cases e : a = h.1.length
  · subst e; simp
  · rw [if_neg e]
    rcases Nat.lt_or_ge a h.1.length with q | q
    · rw [List.getElem?_append_left q]
    · rw [List.getElem?_eq_none (by simp; omega), List.getElem?_eq_none q]
theorem mm_al_wf {kn n : Nat} (w : mm_Wf h) (hn : kn < 12 → n = mm_N kn) : mm_Wf (mm_al h kn n) := by
  refine ⟨fun a ha hl => ?_, fun a ha => ?_, by show 32 ≤ (h.1 ++ [(kn, n)]).length; simp; have := w.2.2; omega⟩
  · have hr : ∀ k b, mm_r (mm_al h kn n) a k = some b → a ≠ h.1.length ∧ mm_r h a k = some b := by
      intro k b hb
      by_cases e : a = h.1.length
      · subst e; simp [mm_r, mm_al, va_up] at hb
      · simp [mm_r, mm_al, va_up, e] at hb; exact ⟨e, hb⟩
    have hlen : (mm_al h kn n).1.length = h.1.length + 1 := by show (h.1 ++ [(kn, n)]).length = _; simp
    by_cases e : a = h.1.length
    · refine ⟨fun k b hb => absurd e (hr k b hb).1, fun hc => ⟨?_, fun k b hb => absurd e (hr k b hb).1⟩, fun _ k b hb => absurd e (hr k b hb).1, fun _ k b hb => absurd e (hr k b hb).1⟩
      rw [mm_al_kd, if_pos e] at hc ⊢
      rw [mm_al_ln, if_pos e]
      exact hn hc
    · have hl2 : a < h.1.length := by omega
      obtain ⟨w0, w1, w2, w3⟩ := w.1 a ha hl2
      have ek : mm_kd (mm_al h kn n) a = mm_kd h a := by rw [mm_al_kd, if_neg e]
      have el : mm_ln (mm_al h kn n) a = mm_ln h a := by rw [mm_al_ln, if_neg e]
      rw [ek, el]
      have hnn : ∀ k b, mm_r h a k = some b → mm_kd (mm_al h kn n) b = mm_kd h b := fun k b hb => by
        have := w0 k b hb
        rw [mm_al_kd, if_neg (by omega)]
      exact ⟨fun k b hb => by have := w0 k b (hr k b hb).2; omega, fun hc => ⟨(w1 hc).1, fun k b hb => by rw [hnn k b (hr k b hb).2]; exact (w1 hc).2 k b (hr k b hb).2⟩, fun hc k b hb => by rw [hnn k b (hr k b hb).2]; exact w2 hc k b (hr k b hb).2, fun hc k b hb => by rw [hnn k b (hr k b hb).2]; exact w3 hc k b (hr k b hb).2⟩
  · rw [mm_al_kd, if_neg (by have := w.2.2; omega)]
    exact w.2.1 a ha
theorem mm_sz_le {h' : mm_H} (hp : h.1 <+: h'.1) : mm_sz h ≤ mm_sz h' := by
  obtain ⟨t, ht⟩ := hp
  unfold mm_sz
  rw [← ht]
  simp
theorem mm_al_sz {kn n : Nat} : mm_sz (mm_al h kn n) = mm_sz h + n := by
  unfold mm_sz mm_al
  simp
theorem mm_al_cell {kn n b : Nat} (hb : b ≠ h.1.length) : mm_cell G (mm_al h kn n) b = mm_cell G h b := by
  rcases Nat.lt_or_ge b h.1.length with q | q
  · exact mm_cell_of (by show (h.1 ++ [(kn, n)])[b]? = _; rw [List.getElem?_append_left q]) (by simp [mm_al, va_up, hb]) (by simp [mm_al, va_up, hb]) (by simp [mm_al, va_up, hb])
  · exact mm_cell_of (by show (h.1 ++ [(kn, n)])[b]? = _; rw [List.getElem?_eq_none (by simp; omega), List.getElem?_eq_none q]) (by simp [mm_al, va_up, hb]) (by simp [mm_al, va_up, hb]) (by simp [mm_al, va_up, hb])
/-- a step that makes one cell of n places -/
theorem mm_mk {kn n : Nat} (hn : kn < 12 → n = mm_N kn) (f : ∀ (p : Program) (e : Env) (R : Room) (s : State) (m : MethodId) (args : Array Value) (below : List Frame) (meth : Method) (c : Code) (H : Heap) (locs : List Loc) (cells slots : Nat) (Q : State → Prop) (lsA : Array Slot), mm_Ctx G y p R s m args meth c → p.tables.exec = Jvm.exec → c.code = y.2.1 → mm_Now G h s H locs → mm_Wf h → cells + 1 ≤ R.cells → slots + n ≤ R.slots → G.2.1 h.1.length = H.size →
      (∀ H1, mm_Now G (mm_al h kn n) s H1 locs → W p G.1 e R s m args below meth c H1 locs (cells + 1) (slots + n) Q (F0 m q lsA (.ref H.size :: st'.map (mm_v G.2.1)))) → W p G.1 e R s m args below meth c H locs cells slots Q (F0 m pc lsA (st.map (mm_v G.2.1))))
    (k : mm_Ok G y q ls (.ref h.1.length :: st') (mm_al h kn n) o) : mm_Ok G y pc ls st h o := by
  intro w r h' ho
  obtain ⟨⟨k1, k2, k4⟩, k3⟩ := k (mm_al_wf w hn) r h' ho
  have hlen : (mm_al h kn n).1.length = h.1.length + 1 := by show (h.1 ++ [(kn, n)]).length = _; simp
  have hle := k1.length_le
  have hsl := mm_sz_le k1
  rw [mm_al_sz] at hsl
  rw [hlen] at hle
  refine ⟨⟨(List.prefix_append _ _ : h.1 <+: (mm_al h kn n).1).trans k1, k2, k4⟩, fun p e R s m args below meth c C H locs cells slots Q lsA N L hc hs he => ?_⟩
  have had : G.2.1 h.1.length = H.size := by
    rw [C.2.2.2.2.1 h.1.length w.2.2]
    have := N.2.2.2.1
    have := w.2.2
    omega
  refine f p e R s m args below meth c H locs cells slots Q lsA C C.1.1 C.1.2.1 N w (by omega) (by omega) had (fun H1 N1 => ?_)
  have e1 : cells + 1 + (h'.1.length - (mm_al h kn n).1.length) = cells + (h'.1.length - h.1.length) := by rw [hlen]; omega
  have e2 : slots + n + (mm_sz h' - mm_sz (mm_al h kn n)) = slots + (mm_sz h' - mm_sz h) := by rw [mm_al_sz]; omega
  have k5 := k3 p e R s m args below meth c C H1 locs (cells + 1) (slots + n) Q lsA N1 L
  rw [e1, e2] at k5
  have k6 := k5 hc hs he
  rw [← had]
  exact k6
theorem mm_Now.mk {s : State} {H H1 : Heap} {locs : List Loc} {kn n : Nat} (C9 : G.2.2.2.2.1 ≤ s.heap.size) (w : mm_Wf h) (N : mm_Now G h s H locs) (had : G.2.1 h.1.length = H.size) (he : va_at G.2.2.1 vwCl (H.size, mm_cell G (mm_al h kn n) h.1.length) H1) (hz : H1.size = H.size + 1) (oq : ∀ q : Nat, q < H.size → H1[q]? = H[q]?) : mm_Now G (mm_al h kn n) s H1 locs := by
  have e := mm_ws_push (G := G) (h := h) (h' := mm_al h kn n) (q := (kn, n)) w.2.2 rfl (fun b hb => mm_al_cell hb)
  have hlen : (mm_al h kn n).1.length = h.1.length + 1 := by show (h.1 ++ [(kn, n)]).length = _; simp
  have hA : ∀ q, s.heap.size ≤ q → mm_A G q := fun q hq => Nat.le_trans C9 hq
  refine ⟨?_, ?_, ⟨Nat.le_trans N.2.2.1.1 (by omega), fun x h1 h2 => (oq x (Nat.lt_of_lt_of_le h1 N.2.2.1.1)).trans (N.2.2.1.2.1 x h1 h2), N.2.2.1.2.2⟩, by rw [hz, hlen]; have := N.2.2.2.1; omega, fun b hb => ?_⟩
  · rw [e]
    refine (N.1.kept (fun k x hx => oq x.1 ((N.1 k x hx).lt))).app (fun k x hx => ?_)
    have hz : k < 1 := (List.getElem?_eq_some_iff.mp hx).1
    rw [show k = 0 by omega] at hx
    cases hx
    rw [had]
    exact he
  · rw [e, had]
    exact N.2.1.push N.1 rfl (hA _ N.2.2.1.1)
  · have hb2 : b ≠ h.1.length := by have := w.2.2; omega
    refine ⟨?_, ?_⟩
    · show (h.1 ++ [(kn, n)])[b]? = _
      rw [List.getElem?_append_left (by have := w.2.2; omega)]
      exact (N.2.2.2.2 b hb).1
    · simp only [mm_al, va_up, hb2, if_false]
      exact (N.2.2.2.2 b hb).2
/-- new -/
theorem ok_new {cn : Nat} {Cn : String} {T : u_T} {N : Nat} {ty : Nat → FieldType} (K : mm_Cl cn Cn T N ty) {i : Nat} (hd : decode y.2.1 pc = .ok (.new i, 3)) (hw : Cond.classLink y.1.cls i Cn ∈ mm_T) (hw2 : Cond.instantiable Cn N ∈ mm_T) (hw3 : Cond.initialized Cn ∈ mm_T) (hty : ∀ k, k < N → ty k ≠ .float ∧ ty k ≠ .double) (hq : pc + 3 = q) (k : mm_kd (mm_al h cn N) h.1.length = cn → mm_Ok G y q ls (.ref h.1.length :: st) (mm_al h cn N) o) : mm_Ok G y pc ls st h o := by
  subst hq
  have hkd : mm_kd (mm_al h cn N) h.1.length = cn := by rw [mm_al_kd, if_pos rfl]
  refine mm_mk (kn := cn) (n := N) (fun _ => K.2.2.2.2.1.symm) (fun p e R s m args below meth c H locs cells slots Q lsA C hx hb Nw w hc hs had k9 => ?_) (k hkd)
  have hKn := C.2.2.2.1.1 cn _ K.1
  refine W.newcK hx hb C.1.2.2.2.1 (C.1.2.2.2.2.1 _ hw) (C.1.2.2.2.2.1 _ hw2) (C.1.2.2.2.2.1 _ hw3) rfl hd hc hs hKn.2.1 rfl fun H1 kC hkC e1 z1 o1 => ?_
  refine k9 H1 (Nw.mk C.2.2.2.2.2.2 w had ?_ z1 o1)
  have e4 : mm_cell G (mm_al h cn N) h.1.length = .inr (cn, mm_fs G.2.1 (mm_al h cn N) h.1.length) := by unfold mm_cell; rw [hkd, if_pos K.2.2.2.2.2.2]
  have e5 : mm_ln (mm_al h cn N) h.1.length = N := by rw [mm_al_ln, if_pos rfl]
  rw [e4]
  refine ⟨_, K.1, (u_born ty C.1.2.2.2.2.1 K.2.1 hKn hkC e1 K.2.2.1).to fun j hj => ?_⟩
  have e6 := mm_fs_get (adr := G.2.1) (h := mm_al h cn N) (a := h.1.length) (k := j) (by rw [e5]; exact hj)
  rw [hkd, K.2.2.2.2.2.1] at e6
  simp only [vp_V, List.getD_eq_getElem?_getD, e6, Option.getD_some]
  obtain ⟨t1, t2⟩ := hty j hj
  have z1 : mm_i (mm_al h cn N) h.1.length j = 0 := by simp [mm_i, mm_al, va_up]
  have z2 : mm_l (mm_al h cn N) h.1.length j = 0 := by simp [mm_l, mm_al, va_up]
  have z3 : mm_r (mm_al h cn N) h.1.length j = none := by simp [mm_r, mm_al, va_up]
  cases hT : ty j <;> simp_all [mm_fv, defaultValue, va_rf]
end MMR9
