/-! ===== methods and calls ===== -/
/-- what a callee finds: the tables, what was there before, the world -/
def mm_Pre (G : mm_G) (h : mm_H) (U : State) : Prop := mm_RO G mm_strs U U.heap ∧ va_K G.2.2.1 vwCl (mm_tys G) U ∧ (∀ a, 32 ≤ a → G.2.1 a = G.2.2.2.2.1 + (a - 32)) ∧ mm_RK G.2.2.2.2.2 ∧ G.2.2.2.2.1 ≤ U.heap.size ∧ mm_Now G h U U.heap []
def mm_Qc (G : mm_G) (r : Option Value) (h : mm_H) : Array Value → State → Outcome → State → Prop := fun _ st oc t =>
  oc = .returned (r.map (mm_v G.2.1)) ∧ va_P G.2.2.1 vwCl (mm_ws G h) t.heap ∧ va_D (mm_A G) (mm_ws G h) ∧ t.heap.size + 32 = G.2.2.2.2.1 + h.1.length ∧ (∀ a, a < 32 → h.1[a]? = G.2.2.2.2.2.1[a]? ∧ h.2.1 a = G.2.2.2.2.2.2.1 a) ∧ va_F (mm_A G) st t
def mm_wsy (y : mm_Y) : List Cond := Cond.code y.1 y.2.1 y.2.2.1 y.2.2.2.1 :: mm_T
def mm_rm (y : mm_Y) (h h' : mm_H) : Room := { frames := y.2.2.2.2.1, cells := h'.1.length - h.1.length, slots := mm_sz h' - mm_sz h, locals := y.2.2.2.2.2 }
def mm_Met (G : mm_G) (y : mm_Y) (as : List Value) (h : mm_H) (o : Option (Option Value × mm_H)) : Prop :=
  mm_Wf h → ∀ r h', o = some (r, h') → (h.1 <+: h'.1 ∧ mm_Wf h' ∧ mm_rt y r h') ∧ Met G.1 y.1 (mm_wsy y) (mm_rm y h h') (va_Pc (as.map (mm_v G.2.1)) (mm_Pre G h)) (mm_Qc G r h') (h'.1.length - h.1.length) (mm_sz h' - mm_sz h) (mm_A G)
theorem mm_RO.on {G : mm_G} {sr : List (String × Nat × String × Nat)} {s U : State} {H0 H : Heap} (hW : s.WarmedH U.vm) (hq : ∀ a : Nat, a < H0.size → ¬ mm_A G a → H[a]? = H0[a]?) (r : mm_RO G sr s H0) : mm_RO G sr U H := by
  obtain ⟨r1, r2, r3, r4, r5, r6, v, r7, r8⟩ := r
  exact ⟨fun q h => ((r1 q h).moved hW.alike).kept hq, fun a h => ((r2 a h).moved hW.alike).kept hq, fun q h => (r3 q h).warm hW, fun i h => ⟨((r4 i h).1.moved hW.alike).kept hq, ((r4 i h).2.1.moved hW.alike).kept hq, ((r4 i h).2.2.1.moved hW.alike).kept hq, ((r4 i h).2.2.2.moved hW.alike).kept hq⟩, (r5.moved hW.alike).kept hq, ⟨r6.1.moved hW.alike, r6.2.moved hW.alike⟩, v, (r7.moved hW.alike).kept hq, r8⟩
theorem mm_Pre.at {G : mm_G} {y : mm_Y} {h : mm_H} {p : Program} {R : Room} {s : State} {m : MethodId} {args : Array Value} {meth : Method} {c : Code} {H : Heap} {locs : List Loc} (C : mm_Ctx G y p R s m args meth c) (N : mm_Now G h s H locs) (U : State) (hU : U.heap = H) (hW : s.WarmedH U.vm) : mm_Pre G h U := by
  obtain ⟨n1, n2, n3, n4, n5⟩ := N
  refine ⟨?_, va_K.moved hW.alike C.2.2.2.1, C.2.2.2.2.1, C.2.2.2.2.2.1, by rw [hU]; exact Nat.le_trans C.2.2.2.2.2.2 n3.1, by rw [hU]; exact n1, n2, va_S.rf, by rw [hU]; exact n4, n5⟩
  rw [hU]
  exact C.2.2.1.on hW n3.2.1
theorem mm_blind (G : mm_G) (h : mm_H) (av : List Value) : FrameBlind (va_Pc av (mm_Pre G h)) := by
  intro a U g mk q
  obtain ⟨q0, ⟨r1, r2, r3, r4, r5, r6, v, r7, r8⟩, q2, q3, q4, q5, q6⟩ := q
  have hal := Vm.Alike.refl U.vm
  exact ⟨q0, ⟨fun q h => (r1 q h).moved (U := U.calling g mk a) hal, fun z h => (r2 z h).moved (U := U.calling g mk a) hal, fun q h => (r3 q h).same (U := U.calling g mk a) rfl, fun i h => ⟨(r4 i h).1.moved (U := U.calling g mk a) hal, (r4 i h).2.1.moved (U := U.calling g mk a) hal, (r4 i h).2.2.1.moved (U := U.calling g mk a) hal, (r4 i h).2.2.2.moved (U := U.calling g mk a) hal⟩, r5.moved (U := U.calling g mk a) hal, ⟨r6.1.moved (U := U.calling g mk a) hal, r6.2.moved (U := U.calling g mk a) hal⟩, v, r7.moved (U := U.calling g mk a) hal, r8⟩, va_K.moved (u := U) (U := U.calling g mk a) hal q2, q3, q4, q5, q6⟩
/-- the locals with which a method begins -/
def mm_fl (as : List Value) : List Value := as.flatMap (fun v => if v.category = 2 then [v, mm_U] else [v])
def mm_en (as : List Value) (n : Nat) : List Value := mm_fl as ++ List.replicate (n - (mm_fl as).length) mm_U
theorem mm_fl_sl {adr : Nat → Nat} : ∀ (as : List Value) (i : Nat) (v : Value), (mm_fl as)[i]? = some v → v ≠ mm_U → (lg_sl (as.map (mm_v adr)))[i]? = some (.val (mm_v adr v)) := by
  intro as
  induction as with
  | nil => intro i v h; simp [mm_fl] at h
  | cons a t ih =>
    intro i v h hu
    by_cases hc : a.category = 2
    · have e1 : mm_fl (a :: t) = a :: mm_U :: mm_fl t := by simp [mm_fl, hc]
      have e2 : lg_sl ((a :: t).map (mm_v adr)) = .val (mm_v adr a) :: .second :: lg_sl (t.map (mm_v adr)) := by simp [lg_sl, mm_vcat, hc]
      rw [e1] at h
      rw [e2]
      match i, h with
      | 0, h => simp at h; subst h; simp
      | 1, h => simp at h; exact absurd h.symm hu
      | j + 2, h => simp at h ⊢; exact ih j v h hu
    · have e1 : mm_fl (a :: t) = a :: mm_fl t := by simp [mm_fl, hc]
      have e2 : lg_sl ((a :: t).map (mm_v adr)) = .val (mm_v adr a) :: lg_sl (t.map (mm_v adr)) := by simp [lg_sl, mm_vcat, hc]
      rw [e1] at h
      rw [e2]
      match i, h with
      | 0, h => simp at h; subst h; simp
      | j + 1, h => simp at h ⊢; exact ih j v h hu
theorem mm_fl_len {adr : Nat → Nat} (as : List Value) : (lg_sl (as.map (mm_v adr))).length = (mm_fl as).length := by
  induction as with
  | nil => rfl
  | cons a t ih =>
    by_cases hc : a.category = 2
    · have e1 : mm_fl (a :: t) = a :: mm_U :: mm_fl t := by simp [mm_fl, hc]
      have e2 : lg_sl ((a :: t).map (mm_v adr)) = .val (mm_v adr a) :: .second :: lg_sl (t.map (mm_v adr)) := by simp [lg_sl, mm_vcat, hc]
      rw [e1, e2]; simp [ih]
    · have e1 : mm_fl (a :: t) = a :: mm_fl t := by simp [mm_fl, hc]
      have e2 : lg_sl ((a :: t).map (mm_v adr)) = .val (mm_v adr a) :: lg_sl (t.map (mm_v adr)) := by simp [lg_sl, mm_vcat, hc]
      rw [e1, e2]; simp [ih]
theorem mm_en_loc {G : mm_G} {y : mm_Y} {as : List Value} (hn : (mm_fl as).length ≤ y.2.2.1) : mm_Loc G y (mm_en as y.2.2.1) ((lg_sl (as.map (mm_v G.2.1)) ++ List.replicate (y.2.2.1 - (lg_sl (as.map (mm_v G.2.1))).length) Slot.unset).toArray) := by
  have hl := lv_entry (as.map (mm_v G.2.1)) (n := y.2.2.1) (by rw [mm_fl_len]; exact hn)
  refine ⟨⟨hl.1, hl.2.1, fun q hq => by cases hq⟩, fun i v h hu => ?_⟩
  rw [List.getElem?_toArray]
  have hi : i < (mm_fl as).length := by
    rcases Nat.lt_or_ge i (mm_fl as).length with q | q
    · exact q
    · unfold mm_en at h
      rw [List.getElem?_append_right q] at h
      exact absurd (List.eq_of_mem_replicate (List.mem_of_getElem? h)) hu
  unfold mm_en at h
  rw [List.getElem?_append_left hi] at h
  rw [List.getElem?_append_left (by rw [mm_fl_len]; exact hi)]
  exact mm_fl_sl as i v h hu
/-- a body is a method -/
theorem mm_met {G : mm_G} {y : mm_Y} {as ls : List Value} {h : mm_H} {o : Option (Option Value × mm_H)} (hy : plainName y.1.cls = true) (hn : (mm_fl as).length ≤ y.2.2.1) (he : mm_en as y.2.2.1 = ls) (k : mm_Ok G y 0 ls [] h o) : mm_Met G y as h o := by
  subst he
  intro w r h' ho
  obtain ⟨k1, k3⟩ := k w r h' ho
  refine ⟨k1, ?_⟩
  refine Met.ofW (cc := y.2.1) (maxL := y.2.2.1) (ret := y.2.2.2.1) hy rfl ?_
  intro p e s m args below meth c s₁ B hml hv
  obtain ⟨rfl, P1, P2, P3, P4, P5, P6⟩ := hv
  have hts := atoms_spec (ws := mm_wsy y) B.pre
  have C : mm_Ctx G y p (headSpec (mm_wsy y) (mm_rm y h h')).room s m (as.map (mm_v G.2.1)).toArray meth c :=
    ⟨⟨B.exec, B.bytes, hml, findClass_of_methodNamed B.named, fun w hw => hts w (List.mem_cons_of_mem _ hw), Nat.le_refl _, Nat.le_refl _⟩, ⟨B.returns, B.notSynchronized, fun hi => by rw [(name_of_methodNamed B.named B.method).1]; exact hi⟩, P1, P2, P3, P4, P5⟩
  rw [lg_entry_eq]
  refine k3 p e _ s m _ below meth c C s.heap [] 0 0 _ _ P6 (mm_en_loc hn) (by show 0 + _ ≤ h'.1.length - h.1.length; omega) (by show 0 + _ ≤ mm_sz h' - mm_sz h; omega) ?_
  intro H1 locs1 pc1 ls1 N1 hls1 hret
  have e1 : 0 + (h'.1.length - h.1.length) = h'.1.length - h.1.length := by omega
  have e2 : 0 + (mm_sz h' - mm_sz h) = mm_sz h' - mm_sz h := by omega
  rw [e1, e2]
  have hq : ∀ t : State, t.heap = H1 → s.WarmedH t.vm → mm_Qc G r h' (as.map (mm_v G.2.1)).toArray s (.returned (r.map (mm_v G.2.1))) t := fun t ht hW => ⟨rfl, by rw [ht]; exact N1.1, N1.2.1, by rw [ht]; exact N1.2.2.2.1, N1.2.2.2.2, N1.2.2.1.F ht⟩
  have hlocks := B.notSynchronized
  cases r with
  | none => exact W.vret B.exec B.bytes (B.returns.trans hret.2) hq N1.2.2.1.2.2 hret.1
  | some v =>
    cases v with
    | int x =>
      obtain ⟨d1, t, d2, d3⟩ := hret
      exact W.zret B.exec B.bytes (B.returns.trans d2) d3 hq N1.2.2.1.2.2 d1
    | long x => exact W.lret B.exec B.bytes (B.returns.trans hret.2) hq N1.2.2.1.2.2 hret.1
    | ref x =>
      obtain ⟨d1, t, d2, d3⟩ := hret
      exact W.aret (v := .ref (G.2.1 x)) B.exec B.bytes (B.returns.trans d2) d3 (Or.inr ⟨_, rfl⟩) hq N1.2.2.1.2.2 d1
    | null =>
      obtain ⟨d1, t, d2, d3⟩ := hret
      exact W.aret (v := .null) B.exec B.bytes (B.returns.trans d2) d3 (Or.inl rfl) hq N1.2.2.1.2.2 d1
    | float x => exact absurd hret id
    | double x => exact absurd hret id
    | retAddr x => exact absurd hret id
