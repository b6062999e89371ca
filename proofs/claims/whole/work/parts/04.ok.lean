/-! ===== what holds at a place of a method, and the judgement mm_Ok ===== -/
/-- name, bytes, maxLocals, return type, frames and locals' words that it needs -/
abbrev mm_Y : Type := MethodName × ByteArray × Nat × Option FieldType × Nat × Nat
def mm_A (G : mm_G) : Nat → Prop := fun q => G.2.2.2.2.1 ≤ q
def mm_tys (G : mm_G) : List (ClassId × FieldType) := [(G.2.2.2.1 20, .int), (G.2.2.2.1 21, .byte), (G.2.2.2.1 22, .boolean), (G.2.2.2.1 23, .long), (G.2.2.2.1 24, .object RX6), (G.2.2.2.1 25, .object RX0)]
def mm_sta : List (String × String × Nat) := [(RX9, "FIRST", 1), (RX9, "ROUNDS", 2), (RX5, "CLAMP", 3), (RX8, "FIRST", 4), (RX8, "QUARTERS", 5), (RX3, "BINDER_AHEAD", 6), (RX3, "CLIENT_CHOICE", 7), (RX3, "CLIENT_EXTENSIONS", 8), (RX3, "SERVER_CHOICE", 9)]
def mm_RO (G : mm_G) (strs : List (String × Nat × String × Nat)) (U : State) (H : Heap) : Prop :=
  (∀ q ∈ mm_sta, va_Z q.1 q.2.1 "[I" (.ref (G.2.1 q.2.2)) (mm_A G) U H)
  ∧ (∀ a, a < 10 → va_T .int (G.2.1 a) (mm_ln G.2.2.2.2.2 a) (fun j => .int (mm_i G.2.2.2.2.2 a j)) (mm_A G) U H)
  ∧ (∀ q ∈ strs, vk_R q.1 q.2.1 q.2.2.1 (G.2.1 q.2.2.2) U)
  ∧ (∀ i, i < 11 → va_O "java/lang/String" (G.2.1 (10 + i)) (mm_A G) U H ∧ va_OF "java/lang/String" "coder" "B" (.int 0) (G.2.1 (10 + i)) (mm_A G) U H ∧ va_OF "java/lang/String" "value" "[B" (.ref (G.2.1 (21 + i))) (G.2.1 (10 + i)) (mm_A G) U H ∧ va_T .byte (G.2.1 (21 + i)) (mm_ln G.2.2.2.2.2 (21 + i)) (fun j => .int (mm_i G.2.2.2.2.2 (21 + i) j)) (mm_A G) U H)
  ∧ va_Z "java/lang/String" "COMPACT_STRINGS" "Z" (.int 1) (mm_A G) U H
  ∧ (va_AO RX6 U ∧ va_AO RX0 U) ∧ ∃ v, va_Z "jdk/internal/util/Preconditions" "SIOOBE_FORMATTER" "Ljava/util/function/BiFunction;" v (mm_A G) U H ∧ (v = .null ∨ ∃ a, v = .ref a)
def mm_strs : List (String × Nat × String × Nat) := [(RX7, 58, "ext binder", 10), (RX1, 71, "tls13 ", 11), (RX7, 64, "derived", 12), (RX7, 66, "finished", 13), (RX0, 151, "traffic upd", 14), (RX2, 40, "key", 15), (RX2, 44, "iv", 16), (RX0, 307, "c hs traffic", 17), (RX0, 309, "s hs traffic", 18), (RX0, 317, "s ap traffic", 19), (RX0, 319, "c ap traffic", 20)]
def mm_Ctx (G : mm_G) (y : mm_Y) (p : Program) (R : Room) (s : State) (m : MethodId) (args : Array Value) (meth : Method) (c : Code) : Prop :=
  (p.tables.exec = Jvm.exec ∧ c.code = y.2.1 ∧ c.maxLocals = y.2.2.1 ∧ s.vm.findClass y.1.cls = some m.cls ∧ (∀ w ∈ mm_T, w.before args s = true) ∧ y.2.2.2.2.1 ≤ R.frames ∧ y.2.2.2.2.2 ≤ R.locals)
  ∧ (meth.sig.returnType = y.2.2.2.1 ∧ meth.locks = false ∧ (y.1.name = "<init>" → meth.name = "<init>"))
  ∧ mm_RO G mm_strs s s.heap ∧ va_K G.2.2.1 vwCl (mm_tys G) s ∧ (∀ a, 32 ≤ a → G.2.1 a = G.2.2.2.2.1 + (a - 32)) ∧ mm_RK G.2.2.2.2.2 ∧ G.2.2.2.2.1 ≤ s.heap.size
def mm_Now (G : mm_G) (h : mm_H) (s : State) (H : Heap) (locs : List Loc) : Prop :=
  va_P G.2.2.1 vwCl (mm_ws G h) H ∧ va_D (mm_A G) (mm_ws G h) ∧ va_S (mm_A G) s.heap H locs ∧ H.size + 32 = G.2.2.2.2.1 + h.1.length ∧ (∀ a, a < 32 → h.1[a]? = G.2.2.2.2.2.1[a]? ∧ h.2.1 a = G.2.2.2.2.2.2.1 a)
/-- an unset local -/
abbrev mm_U : Value := .retAddr 0
def mm_Loc (G : mm_G) (y : mm_Y) (ls : List Value) (lsA : Array Slot) : Prop := lv_has lsA y.2.2.1 [] ∧ ∀ (i : Nat) (v : Value), ls[i]? = some v → v ≠ mm_U → lsA[i]? = some (.val (mm_v G.2.1 v))
/-- the instruction that hands back r -/
def mm_Ret (y : mm_Y) (pc : Nat) (r : Option Value) : Prop := match r with
  | none => decode y.2.1 pc = .ok (.return_, 1) ∧ y.2.2.2.1 = none
  | some (.int v) => decode y.2.1 pc = .ok (.ireturn, 1) ∧ ∃ t, y.2.2.2.1 = some t ∧ narrow t (.int v) = .int v
  | some (.long _) => decode y.2.1 pc = .ok (.lreturn, 1) ∧ y.2.2.2.1 = some .long
  | some (.ref _) => decode y.2.1 pc = .ok (.areturn, 1) ∧ ∃ t, y.2.2.2.1 = some t ∧ ((∃ n, t = .object n) ∨ ∃ u, t = .array u)
  | some .null => decode y.2.1 pc = .ok (.areturn, 1) ∧ ∃ t, y.2.2.2.1 = some t ∧ ((∃ n, t = .object n) ∨ ∃ u, t = .array u)
  | _ => False
/-- a reference that is handed back is of the kind that the method's head says -/
def mm_rt (y : mm_Y) (r : Option Value) (h : mm_H) : Prop := ∀ b, r = some (.ref b) → ∃ t, y.2.2.2.1 = some t ∧ mm_kd h b = mm_kt t
/-- a heap whose references are of their kinds -/
def mm_Wf (h : mm_H) : Prop := mm_WT h ∧ mm_RK h ∧ 32 ≤ h.1.length
def mm_Ok (G : mm_G) (y : mm_Y) (pc : Nat) (ls st : List Value) (h : mm_H) (o : Option (Option Value × mm_H)) : Prop :=
  mm_Wf h → ∀ r h', o = some (r, h') → (h.1 <+: h'.1 ∧ mm_Wf h' ∧ mm_rt y r h') ∧ ∀ (p : Program) (e : Env) (R : Room) (s : State) (m : MethodId) (args : Array Value) (below : List Frame) (meth : Method) (c : Code), mm_Ctx G y p R s m args meth c → ∀ (H : Heap) (locs : List Loc) (cells slots : Nat) (Q : State → Prop) (lsA : Array Slot), mm_Now G h s H locs → mm_Loc G y ls lsA →
    cells + (h'.1.length - h.1.length) ≤ R.cells → slots + (mm_sz h' - mm_sz h) ≤ R.slots →
    (∀ (H1 : Heap) (locs1 : List Loc) (pc1 : Nat) (ls1 : Array Slot), mm_Now G h' s H1 locs1 → ls1.size = y.2.2.1 → mm_Ret y pc1 r → W p G.1 e R s m args below meth c H1 locs1 (cells + (h'.1.length - h.1.length)) (slots + (mm_sz h' - mm_sz h)) Q (F0 m pc1 ls1 (r.map (mm_v G.2.1)).toList)) →
    W p G.1 e R s m args below meth c H locs cells slots Q (F0 m pc lsA (st.map (mm_v G.2.1)))
theorem mm_no {G : mm_G} {y : mm_Y} {pc : Nat} {ls st : List Value} {h : mm_H} : mm_Ok G y pc ls st h none := fun _ _ _ h => by cases h
section MMR
variable {G : mm_G} {y : mm_Y} {pc q : Nat} {ls ls' st st' : List Value} {h : mm_H} {o o1 o2 : Option (Option Value × mm_H)}
/-- a step that leaves heap and locals as they are -/
theorem mm_st (f : ∀ (p : Program) (e : Env) (R : Room) (s : State) (m : MethodId) (args : Array Value) (below : List Frame) (meth : Method) (c : Code) (H : Heap) (locs : List Loc) (cells slots : Nat) (Q : State → Prop) (lsA : Array Slot), mm_Ctx G y p R s m args meth c → p.tables.exec = Jvm.exec → c.code = y.2.1 → mm_Loc G y ls lsA → mm_Now G h s H locs → mm_Wf h →
      W p G.1 e R s m args below meth c H locs cells slots Q (F0 m q lsA (st'.map (mm_v G.2.1))) → W p G.1 e R s m args below meth c H locs cells slots Q (F0 m pc lsA (st.map (mm_v G.2.1))))
    (k : mm_Ok G y q ls st' h o) : mm_Ok G y pc ls st h o := by
  intro w r h' ho
  obtain ⟨k1, k3⟩ := k w r h' ho
  refine ⟨k1, fun p e R s m args below meth c C H locs cells slots Q lsA N L hc hs he => ?_⟩
  exact f p e R s m args below meth c H locs cells slots Q lsA C C.1.1 C.1.2.1 L N w (k3 p e R s m args below meth c C H locs cells slots Q lsA N L hc hs he)
/-- a step that goes two ways -/
theorem mm_br {b : Prop} [Decidable b] {q1 q2 : Nat} (f : ∀ (p : Program) (e : Env) (R : Room) (s : State) (m : MethodId) (args : Array Value) (below : List Frame) (meth : Method) (c : Code) (H : Heap) (locs : List Loc) (cells slots : Nat) (Q : State → Prop) (lsA : Array Slot), p.tables.exec = Jvm.exec → c.code = y.2.1 →
      (b → W p G.1 e R s m args below meth c H locs cells slots Q (F0 m q1 lsA (st'.map (mm_v G.2.1)))) → (¬ b → W p G.1 e R s m args below meth c H locs cells slots Q (F0 m q2 lsA (st'.map (mm_v G.2.1)))) → W p G.1 e R s m args below meth c H locs cells slots Q (F0 m pc lsA (st.map (mm_v G.2.1))))
    (k1 : mm_Ok G y q1 ls st' h o1) (k2 : mm_Ok G y q2 ls st' h o2) : mm_Ok G y pc ls st h (if b then o1 else o2) := by
  intro w r h' ho
  by_cases hb : b
  · rw [if_pos hb] at ho
    obtain ⟨a1, a3⟩ := k1 w r h' ho
    refine ⟨a1, fun p e R s m args below meth c C H locs cells slots Q lsA N L hc hs he => ?_⟩
    exact f p e R s m args below meth c H locs cells slots Q lsA C.1.1 C.1.2.1 (fun _ => a3 p e R s m args below meth c C H locs cells slots Q lsA N L hc hs he) (fun n => absurd hb n)
  · rw [if_neg hb] at ho
    obtain ⟨a1, a3⟩ := k2 w r h' ho
    refine ⟨a1, fun p e R s m args below meth c C H locs cells slots Q lsA N L hc hs he => ?_⟩
    exact f p e R s m args below meth c H locs cells slots Q lsA C.1.1 C.1.2.1 (fun n => absurd n hb) (fun _ => a3 p e R s m args below meth c C H locs cells slots Q lsA N L hc hs he)
/-- a check that the function makes and the machine needs -/
theorem mm_ck {b : Prop} [Decidable b] (k : b → mm_Ok G y pc ls st h o) : mm_Ok G y pc ls st h (if b then o else none) := by
  by_cases hb : b
  · rw [if_pos hb]; exact k hb
  · rw [if_neg hb]; exact mm_no
theorem mm_let {α : Type} {v : α} {f : α → Option (Option Value × mm_H)} (k : ∀ x, mm_Ok G y pc ls st h (f x)) : mm_Ok G y pc ls st h (f v) := k v
/-! numbers and the stack -/
theorem ok_iconst {n : Int} {v : Int32} (hd : decode y.2.1 pc = .ok (.iconst n, 1)) (hv : Int32.ofInt n = v) (hq : pc + 1 = q) (k : mm_Ok G y q ls (.int v :: st) h o) : mm_Ok G y pc ls st h o := by
  subst hq; exact mm_st (fun p e R s m args below meth c H locs cells slots Q lsA C hx hb L N w k => lv_iconst hx hb hd hv k) k
theorem ok_bipush {n : Int} {v : Int32} (hd : decode y.2.1 pc = .ok (.bipush n, 2)) (hv : (Int8.ofInt n).toInt32 = v) (hq : pc + 2 = q) (k : mm_Ok G y q ls (.int v :: st) h o) : mm_Ok G y pc ls st h o := by
  subst hq; exact mm_st (fun p e R s m args below meth c H locs cells slots Q lsA C hx hb L N w k => lv_bipush hx hb hd hv k) k
theorem ok_sipush {n : Int} {v : Int32} (hd : decode y.2.1 pc = .ok (.sipush n, 3)) (hv : (Int16.ofInt n).toInt32 = v) (hq : pc + 3 = q) (k : mm_Ok G y q ls (.int v :: st) h o) : mm_Ok G y pc ls st h o := by
  subst hq; exact mm_st (fun p e R s m args below meth c H locs cells slots Q lsA C hx hb L N w k => lv_sipush hx hb hd hv k) k
theorem ok_lconst {n : Fin 2} {v : Int64} (hd : decode y.2.1 pc = .ok (.lconst n, 1)) (hv : Int64.ofNat (n : Nat) = v) (hq : pc + 1 = q) (k : mm_Ok G y q ls (.long v :: st) h o) : mm_Ok G y pc ls st h o := by
  subst hq; exact mm_st (fun p e R s m args below meth c H locs cells slots Q lsA C hx hb L N w k => lv_lconst hx hb hd hv k) k
theorem ok_ldc {i : Nat} {v : Int32} (hd : decode y.2.1 pc = .ok (.ldc i, 2)) (hw : Cond.constant y.1.cls i v ∈ mm_T) (hq : pc + 2 = q) (k : mm_Ok G y q ls (.int v :: st) h o) : mm_Ok G y pc ls st h o := by
  subst hq; exact mm_st (fun p e R s m args below meth c H locs cells slots Q lsA C hx hb L N w k => lv_ldc hx hb C.1.2.2.2.1 (C.1.2.2.2.2.1 _ hw) hd k) k
theorem ok_ldcw {i : Nat} {v : Int32} (hd : decode y.2.1 pc = .ok (.ldc_w i, 3)) (hw : Cond.constant y.1.cls i v ∈ mm_T) (hq : pc + 3 = q) (k : mm_Ok G y q ls (.int v :: st) h o) : mm_Ok G y pc ls st h o := by
  subst hq; exact mm_st (fun p e R s m args below meth c H locs cells slots Q lsA C hx hb L N w k => lv_ldcw hx hb C.1.2.2.2.1 (C.1.2.2.2.2.1 _ hw) hd k) k
theorem ok_ldc2 {i : Nat} {v : Int64} (hd : decode y.2.1 pc = .ok (.ldc2_w i, 3)) (hw : Cond.constantLong y.1.cls i v ∈ mm_T) (hq : pc + 3 = q) (k : mm_Ok G y q ls (.long v :: st) h o) : mm_Ok G y pc ls st h o := by
  subst hq; exact mm_st (fun p e R s m args below meth c H locs cells slots Q lsA C hx hb L N w k => lv_ldc2 hx hb C.1.2.2.2.1 (C.1.2.2.2.2.1 _ hw) hd k) k
theorem ok_null (hd : decode y.2.1 pc = .ok (.aconst_null, 1)) (hq : pc + 1 = q) (k : mm_Ok G y q ls (.null :: st) h o) : mm_Ok G y pc ls st h o := by
  subst hq; exact mm_st (fun p e R s m args below meth c H locs cells slots Q lsA C hx hb L N w k => lv_null hx hb hd k) k
theorem ok_iload {i : Nat} {x : Int32} (hd : decode y.2.1 pc = .ok (.iload i, 2)) (hl : ls[i]? = some (.int x)) (hq : pc + 2 = q) (k : mm_Ok G y q ls (.int x :: st) h o) : mm_Ok G y pc ls st h o := by
  subst hq; exact mm_st (fun p e R s m args below meth c H locs cells slots Q lsA C hx hb L N w k => lv_iload hx hb hd (L.2 i _ hl (by intro z; cases z)) k) k
theorem ok_iload_n {i : Fin 4} {x : Int32} (hd : decode y.2.1 pc = .ok (.iload_n i, 1)) (hl : ls[(i : Nat)]? = some (.int x)) (hq : pc + 1 = q) (k : mm_Ok G y q ls (.int x :: st) h o) : mm_Ok G y pc ls st h o := by
  subst hq; exact mm_st (fun p e R s m args below meth c H locs cells slots Q lsA C hx hb L N w k => lv_iload_n hx hb hd rfl (L.2 i _ hl (by intro z; cases z)) k) k
theorem ok_lload {i : Nat} {x : Int64} (hd : decode y.2.1 pc = .ok (.lload i, 2)) (hl : ls[i]? = some (.long x)) (hq : pc + 2 = q) (k : mm_Ok G y q ls (.long x :: st) h o) : mm_Ok G y pc ls st h o := by
  subst hq; exact mm_st (fun p e R s m args below meth c H locs cells slots Q lsA C hx hb L N w k => lv_lload hx hb hd (L.2 i _ hl (by intro z; cases z)) k) k
theorem ok_lload_n {i : Fin 4} {x : Int64} (hd : decode y.2.1 pc = .ok (.lload_n i, 1)) (hl : ls[(i : Nat)]? = some (.long x)) (hq : pc + 1 = q) (k : mm_Ok G y q ls (.long x :: st) h o) : mm_Ok G y pc ls st h o := by
  subst hq; exact mm_st (fun p e R s m args below meth c H locs cells slots Q lsA C hx hb L N w k => lv_lload_n hx hb hd rfl (L.2 i _ hl (by intro z; cases z)) k) k
theorem ok_aload {i : Nat} {x : Nat} (hd : decode y.2.1 pc = .ok (.aload i, 2)) (hl : ls[i]? = some (.ref x)) (hq : pc + 2 = q) (k : mm_Ok G y q ls (.ref x :: st) h o) : mm_Ok G y pc ls st h o := by
  subst hq; exact mm_st (fun p e R s m args below meth c H locs cells slots Q lsA C hx hb L N w k => lv_aload hx hb hd (L.2 i _ hl (by intro z; cases z)) k) k
theorem ok_aload_n {i : Fin 4} {x : Nat} (hd : decode y.2.1 pc = .ok (.aload_n i, 1)) (hl : ls[(i : Nat)]? = some (.ref x)) (hq : pc + 1 = q) (k : mm_Ok G y q ls (.ref x :: st) h o) : mm_Ok G y pc ls st h o := by
  subst hq; exact mm_st (fun p e R s m args below meth c H locs cells slots Q lsA C hx hb L N w k => lv_aload_n hx hb hd rfl (L.2 i _ hl (by intro z; cases z)) k) k
theorem ok_aloadN {i : Nat} (hd : decode y.2.1 pc = .ok (.aload i, 2)) (hl : ls[i]? = some .null) (hq : pc + 2 = q) (k : mm_Ok G y q ls (.null :: st) h o) : mm_Ok G y pc ls st h o := by
  subst hq; exact mm_st (fun p e R s m args below meth c H locs cells slots Q lsA C hx hb L N w k => lv_aloadN hx hb hd (L.2 i _ hl (by intro z; cases z)) k) k
theorem ok_aload_nN {i : Fin 4} (hd : decode y.2.1 pc = .ok (.aload_n i, 1)) (hl : ls[(i : Nat)]? = some .null) (hq : pc + 1 = q) (k : mm_Ok G y q ls (.null :: st) h o) : mm_Ok G y pc ls st h o := by
  subst hq; exact mm_st (fun p e R s m args below meth c H locs cells slots Q lsA C hx hb L N w k => lv_aload_nN hx hb hd rfl (L.2 i _ hl (by intro z; cases z)) k) k
end MMR
