/-! ===== rules: calls ===== -/
section MMRC
variable {G : mm_G} {y z : mm_Y} {pc q : Nat} {ls st st0 as : List Value} {h h1 : mm_H}
theorem mm_good : GoodIn mm_T mm_T := fun w hw => ⟨hw, good_of_word (List.mem_filter.mp hw).2⟩
theorem mm_goodT {w : Cond} (hw : w ∈ mm_T) : w ∈ mm_T ∧ ((w.onTables && w.keeps) = true ∨ ∃ ty, w = .arrayClass ty) := mm_good w hw
/-- a call, by what its run says -/
theorem mm_cc {oc : Option (Option Value × mm_H)} {f : Option Value → mm_H → Option (Option Value × mm_H)} (hz : mm_Met G z as h oc)
    (run : ∀ (p : Program) (e : Env) (R : Room) (s : State) (m : MethodId) (args : Array Value) (below : List Frame) (meth : Method) (c : Code) (H : Heap) (locs : List Loc) (cells slots : Nat) (lsA : Array Slot) (r : Option Value) (h1 : mm_H), mm_Ctx G y p R s m args meth c → mm_Now G h s H locs → mm_Wf h → mm_Loc G y ls lsA → Met G.1 z.1 (mm_wsy z) (mm_rm z h h1) (va_Pc (as.map (mm_v G.2.1)) (mm_Pre G h)) (mm_Qc G r h1) (h1.1.length - h.1.length) (mm_sz h1 - mm_sz h) (mm_A G) → cells + (h1.1.length - h.1.length) ≤ R.cells ∧ slots + (mm_sz h1 - mm_sz h) ≤ R.slots →
      va_Run p G.1 e R s m args below meth c H locs cells slots (h1.1.length - h.1.length) (mm_sz h1 - mm_sz h) (F0 m pc lsA (st0.map (mm_v G.2.1))) (st.map (mm_v G.2.1)) (mm_Qc G r h1 (as.map (mm_v G.2.1)).toArray) (mm_A G))
    (hq : pc + 3 = q) (k : ∀ r h1, oc = some (r, h1) → h.1 <+: h1.1 → mm_rt z r h1 → mm_Ok G y q ls (r.toList ++ st) h1 (f r h1)) : mm_Ok G y pc ls st0 h (oc.bind (fun x => f x.1 x.2)) := by
  subst hq
  intro w r h' ho
  cases hoc : oc with
  | none => rw [hoc] at ho; cases ho
  | some x =>
    obtain ⟨rc, h1⟩ := x
    rw [hoc] at ho
    have ho : f rc h1 = some (r, h') := ho
    obtain ⟨⟨c1, c2, c3⟩, cM⟩ := hz w rc h1 hoc
    obtain ⟨⟨k1, k2, k4⟩, k3⟩ := k rc h1 hoc c1 c3 c2 r h' ho
    refine ⟨⟨c1.trans k1, k2, k4⟩, fun p e R s m args below meth c C H locs cells slots Q lsA N L hc hs he => ?_⟩
    have l1 := c1.length_le
    have l2 := k1.length_le
    have s1 := mm_sz_le c1
    have s2 := mm_sz_le k1
    have hrun := run p e R s m args below meth c H locs cells slots lsA rc h1 C N w L cM ⟨by omega, by omega⟩
    intro T hT X
    obtain ⟨v, st₀, t, T', L', g0, X', hL, g1, g2, hQ, go⟩ := hrun T hT X
    obtain ⟨q1, q2, q3, q4, q5, q6⟩ := hQ
    have hv : v = rc.map (mm_v G.2.1) := Outcome.returned.inj q1
    subst hv
    have N1 : mm_Now G h1 s T'.heap (locs ++ L') := by
      refine ⟨by rw [g1]; exact q2, q3, ⟨?_, fun a ha hA => ?_, fun l hl => ?_⟩, by rw [g1]; exact q4, q5⟩
      · rw [g1]; exact Nat.le_trans N.2.2.1.1 (by rw [← g0]; exact q6.1)
      · rw [g1, q6.2 a (by rw [g0]; exact Nat.lt_of_lt_of_le ha N.2.2.1.1) hA, g0]
        exact N.2.2.1.2.1 a ha hA
      · rcases List.mem_append.mp hl with z | z
        · exact N.2.2.1.2.2 l z
        · exact hL l z
    have e1 : cells + (h1.1.length - h.1.length) + (h'.1.length - h1.1.length) = cells + (h'.1.length - h.1.length) := by omega
    have e2 : slots + (mm_sz h1 - mm_sz h) + (mm_sz h' - mm_sz h1) = slots + (mm_sz h' - mm_sz h) := by omega
    have k5 := k3 p e R s m args below meth c C T'.heap (locs ++ L') (cells + (h1.1.length - h.1.length)) (slots + (mm_sz h1 - mm_sz h)) Q lsA N1 L
    rw [e1, e2] at k5
    obtain ⟨t2, a1, b1⟩ := k5 hc hs he T' rfl X'
    refine ⟨t2, go t2 ?_, b1⟩
    have e3 : (rc.map (mm_v G.2.1)).toList ++ st.map (mm_v G.2.1) = (rc.toList ++ st).map (mm_v G.2.1) := by cases rc <;> rfl
    rw [← e3] at a1
    exact a1
/-- the facts of a call that the tables decide -/
def mm_LB (y z : mm_Y) (i n : Nat) : Prop := Cond.methodLink y.1.cls i z.1 ∈ mm_T ∧ Cond.code z.1 z.2.1 z.2.2.1 z.2.2.2.1 ∈ mm_T ∧ Cond.initialized z.1.cls ∈ mm_T ∧ (z.1.cls ≠ "java/lang/invoke/MethodHandle" ∧ z.1.cls ≠ "java/lang/invoke/VarHandle" ∧ (parseMethodDescriptor z.1.desc).map (fun d => d.parameters.length) = some n) ∧ (z.2.2.2.2.1 + 1 ≤ y.2.2.2.2.1 ∧ 8 + (z.2.2.1 + 11) + z.2.2.2.2.2 ≤ y.2.2.2.2.2)
def mm_LV (y z : mm_Y) (i n : Nat) : Prop := mm_LB y z i n ∧ Cond.instanceMethod z.1 ∈ mm_T ∧ Cond.selects z.1.cls z.1 z.1 ∈ mm_T
def mm_LS (y z : mm_Y) (i n : Nat) : Prop := mm_LB y z i n ∧ Cond.static z.1 ∈ mm_T
def mm_LI (y z : mm_Y) (i n : Nat) : Prop := mm_LB y z i n ∧ Cond.instanceMethod z.1 ∈ mm_T ∧ z.1.name = "<init>" ∧ z.2.2.2.1 = none
theorem mm_LB.on {i n : Nat} {p : Program} {R : Room} {s : State} {m : MethodId} {args : Array Value} {meth : Method} {c : Code} (l : mm_LB y z i n) (C : mm_Ctx G y p R s m args meth c) : CallB R s args y.1.cls i z.1 z.2.1 z.2.2.1 z.2.2.2.1 (mm_wsy z) (mm_rm z h h1) (h1.1.length - h.1.length) (mm_sz h1 - mm_sz h) n := by
  obtain ⟨l1, l2, l3, l4, l5, l6⟩ := l
  have ht := C.1.2.2.2.2.1
  refine callB_of (Ts := mm_T) n ht (fun w hw => ?_) rfl rfl rfl (ht _ l3) (ht _ l1) l4 ⟨Nat.le_trans l5 C.1.2.2.2.2.2.1, Nat.le_trans l6 C.1.2.2.2.2.2.2⟩
  rcases List.mem_cons.mp hw with e | e
  · rw [e]; exact mm_goodT l2
  · exact mm_goodT e
theorem mm_rest (hst : (st.map fun v => v.category).sum ≤ 8) {m : MethodId} {lsA : Array Slot} {stA : List Value} : 2 * (F0 m pc lsA stA).monitorRoom + ((st.map (mm_v G.2.1)).map fun v => v.category).sum ≤ 8 := by
  rw [mm_cats]; show 2 * 0 + _ ≤ 8; omega
theorem mm_runV {i n : Nat} {a cn : Nat} {Cn : String} {T : u_T} {N : Nat} {ty : Nat → FieldType} (K : mm_Cl cn Cn T N ty) (l : mm_LV y z i n) (hC : z.1.cls = Cn) (hd : decode y.2.1 pc = .ok (.invokevirtual i, 3)) (hn : as.length = n) (hst : (st.map fun v => v.category).sum ≤ 8) (ha : mm_kd h a = cn) :
    ∀ (p : Program) (e : Env) (R : Room) (s : State) (m : MethodId) (args : Array Value) (below : List Frame) (meth : Method) (c : Code) (H : Heap) (locs : List Loc) (cells slots : Nat) (lsA : Array Slot) (r : Option Value) (h1 : mm_H), mm_Ctx G y p R s m args meth c → mm_Now G h s H locs → mm_Wf h → mm_Loc G y ls lsA → Met G.1 z.1 (mm_wsy z) (mm_rm z h h1) (va_Pc ((.ref a :: as).map (mm_v G.2.1)) (mm_Pre G h)) (mm_Qc G r h1) (h1.1.length - h.1.length) (mm_sz h1 - mm_sz h) (mm_A G) → cells + (h1.1.length - h.1.length) ≤ R.cells ∧ slots + (mm_sz h1 - mm_sz h) ≤ R.slots →
      va_Run p G.1 e R s m args below meth c H locs cells slots (h1.1.length - h.1.length) (mm_sz h1 - mm_sz h) (F0 m pc lsA ((as.reverse ++ .ref a :: st).map (mm_v G.2.1))) (st.map (mm_v G.2.1)) (mm_Qc G r h1 ((.ref a :: as).map (mm_v G.2.1)).toArray) (mm_A G) := by
  intro p e R s m args below meth c H locs cells slots lsA r h1 C Nw w L hM hf
  subst hC
  obtain ⟨v1, v2, v3, v4, v5⟩ := mm_obj (G := G) K w ha
  refine va_runV (As := as.map (mm_v G.2.1)) (b := G.2.1 a) (C := z.1.cls) (n := n) ⟨C.1.1, C.1.2.1, C.1.2.2.1, C.1.2.2.2.1, C.1.2.2.2.2.1⟩ hM ⟨l.1.on C, C.1.2.2.2.2.1 _ l.2.1, C.1.2.2.2.2.1 _ l.2.2⟩ ⟨mm_blind G h _, va_recv C.2.2.2.1 Nw.1 K.1 v5, fun U hU hW => ⟨rfl, mm_Pre.at C Nw U hU hW⟩⟩ rfl (by rw [List.length_map]; exact hn) L.1.1 (by show (as.reverse ++ .ref a :: st).map (mm_v G.2.1) = _; simp [mm_v]) (mm_rest hst) hd hf
theorem mm_runVS {i n : Nat} {a : Nat} (l : mm_LV y z i n) (hC : z.1.cls = "java/lang/String") (hd : decode y.2.1 pc = .ok (.invokevirtual i, 3)) (hn : as.length = n) (hst : (st.map fun v => v.category).sum ≤ 8) (ha : mm_kd h a = 26) (h32 : a < 32) :
    ∀ (p : Program) (e : Env) (R : Room) (s : State) (m : MethodId) (args : Array Value) (below : List Frame) (meth : Method) (c : Code) (H : Heap) (locs : List Loc) (cells slots : Nat) (lsA : Array Slot) (r : Option Value) (h1 : mm_H), mm_Ctx G y p R s m args meth c → mm_Now G h s H locs → mm_Wf h → mm_Loc G y ls lsA → Met G.1 z.1 (mm_wsy z) (mm_rm z h h1) (va_Pc ((.ref a :: as).map (mm_v G.2.1)) (mm_Pre G h)) (mm_Qc G r h1) (h1.1.length - h.1.length) (mm_sz h1 - mm_sz h) (mm_A G) → cells + (h1.1.length - h.1.length) ≤ R.cells ∧ slots + (mm_sz h1 - mm_sz h) ≤ R.slots →
      va_Run p G.1 e R s m args below meth c H locs cells slots (h1.1.length - h.1.length) (mm_sz h1 - mm_sz h) (F0 m pc lsA ((as.reverse ++ .ref a :: st).map (mm_v G.2.1))) (st.map (mm_v G.2.1)) (mm_Qc G r h1 ((.ref a :: as).map (mm_v G.2.1)).toArray) (mm_A G) := by
  intro p e R s m args below meth c H locs cells slots lsA r h1 C Nw w L hM hf
  have hs := mm_str w ha h32
  have hO := ((C.2.2.1.2.2.2.1 (a - 10) (by omega)).1).kept Nw.2.2.1.2.1
  rw [show 10 + (a - 10) = a by omega] at hO
  obtain ⟨cell, o1, o2, o3, -⟩ := hO
  refine va_runV (As := as.map (mm_v G.2.1)) (b := G.2.1 a) (C := z.1.cls) (n := n) ⟨C.1.1, C.1.2.1, C.1.2.2.1, C.1.2.2.2.1, C.1.2.2.2.2.1⟩ hM ⟨l.1.on C, C.1.2.2.2.2.1 _ l.2.1, C.1.2.2.2.2.1 _ l.2.2⟩ ⟨mm_blind G h _, ⟨cell, o1, o2, by rw [hC]; exact o3⟩, fun U hU hW => ⟨rfl, mm_Pre.at C Nw U hU hW⟩⟩ rfl (by rw [List.length_map]; exact hn) L.1.1 (by show (as.reverse ++ .ref a :: st).map (mm_v G.2.1) = _; simp [mm_v]) (mm_rest hst) hd hf
theorem mm_runS {i n : Nat} (l : mm_LS y z i n) (hd : decode y.2.1 pc = .ok (.invokestatic i, 3)) (hn : as.length = n) (hst : (st.map fun v => v.category).sum ≤ 8) :
    ∀ (p : Program) (e : Env) (R : Room) (s : State) (m : MethodId) (args : Array Value) (below : List Frame) (meth : Method) (c : Code) (H : Heap) (locs : List Loc) (cells slots : Nat) (lsA : Array Slot) (r : Option Value) (h1 : mm_H), mm_Ctx G y p R s m args meth c → mm_Now G h s H locs → mm_Wf h → mm_Loc G y ls lsA → Met G.1 z.1 (mm_wsy z) (mm_rm z h h1) (va_Pc (as.map (mm_v G.2.1)) (mm_Pre G h)) (mm_Qc G r h1) (h1.1.length - h.1.length) (mm_sz h1 - mm_sz h) (mm_A G) → cells + (h1.1.length - h.1.length) ≤ R.cells ∧ slots + (mm_sz h1 - mm_sz h) ≤ R.slots →
      va_Run p G.1 e R s m args below meth c H locs cells slots (h1.1.length - h.1.length) (mm_sz h1 - mm_sz h) (F0 m pc lsA ((as.reverse ++ st).map (mm_v G.2.1))) (st.map (mm_v G.2.1)) (mm_Qc G r h1 (as.map (mm_v G.2.1)).toArray) (mm_A G) := by
  intro p e R s m args below meth c H locs cells slots lsA r h1 C Nw w L hM hf
  refine va_runS (As := as.map (mm_v G.2.1)) (n := n) ⟨C.1.1, C.1.2.1, C.1.2.2.1, C.1.2.2.2.1, C.1.2.2.2.2.1⟩ hM ⟨l.1.on C, C.1.2.2.2.2.1 _ l.2⟩ ⟨mm_blind G h _, fun U hU hW => ⟨rfl, mm_Pre.at C Nw U hU hW⟩⟩ rfl (by rw [List.length_map]; exact hn) L.1.1 (by show (as.reverse ++ st).map (mm_v G.2.1) = _; simp) (mm_rest hst) hd hf
theorem mm_runI {i n : Nat} {a : Nat} (l : mm_LI y z i n) (hd : decode y.2.1 pc = .ok (.invokespecial i, 3)) (hn : as.length = n) (hst : (st.map fun v => v.category).sum ≤ 8) :
    ∀ (p : Program) (e : Env) (R : Room) (s : State) (m : MethodId) (args : Array Value) (below : List Frame) (meth : Method) (c : Code) (H : Heap) (locs : List Loc) (cells slots : Nat) (lsA : Array Slot) (r : Option Value) (h1 : mm_H), mm_Ctx G y p R s m args meth c → mm_Now G h s H locs → mm_Wf h → mm_Loc G y ls lsA → Met G.1 z.1 (mm_wsy z) (mm_rm z h h1) (va_Pc ((.ref a :: as).map (mm_v G.2.1)) (mm_Pre G h)) (mm_Qc G r h1) (h1.1.length - h.1.length) (mm_sz h1 - mm_sz h) (mm_A G) → cells + (h1.1.length - h.1.length) ≤ R.cells ∧ slots + (mm_sz h1 - mm_sz h) ≤ R.slots →
      va_Run p G.1 e R s m args below meth c H locs cells slots (h1.1.length - h.1.length) (mm_sz h1 - mm_sz h) (F0 m pc lsA ((as.reverse ++ .ref a :: st).map (mm_v G.2.1))) (st.map (mm_v G.2.1)) (mm_Qc G r h1 ((.ref a :: as).map (mm_v G.2.1)).toArray) (mm_A G) := by
  intro p e R s m args below meth c H locs cells slots lsA r h1 C Nw w L hM hf
  have lB := l.1.on (h := h) (h1 := h1) C
  rw [l.2.2.2] at lB
  refine va_runI (As := as.map (mm_v G.2.1)) (b := G.2.1 a) (n := n) ⟨C.1.1, C.1.2.1, C.1.2.2.1, C.1.2.2.2.1, C.1.2.2.2.2.1⟩ hM ⟨lB, l.2.2.1, C.1.2.2.2.2.1 _ l.2.1⟩ ⟨mm_blind G h _, fun U hU hW => ⟨rfl, mm_Pre.at C Nw U hU hW⟩⟩ rfl (by rw [List.length_map]; exact hn) L.1.1 (by show (as.reverse ++ .ref a :: st).map (mm_v G.2.1) = _; simp [mm_v]) (mm_rest hst) hd hf
end MMRC
