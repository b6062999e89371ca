section MMRD
variable {G : mm_G} {y z : mm_Y} {pc q : Nat} {ls st st0 as : List Value} {h h1 : mm_H}
theorem mm_ci {oc : Option (Option Value × mm_H)} {f : Int32 → mm_H → Option (Option Value × mm_H)} (hz : mm_Met G z as h oc) (run : ∀ (p : Program) (e : Env) (R : Room) (s : State) (m : MethodId) (args : Array Value) (below : List Frame) (meth : Method) (c : Code) (H : Heap) (locs : List Loc) (cells slots : Nat) (lsA : Array Slot) (r : Option Value) (h1 : mm_H), mm_Ctx G y p R s m args meth c → mm_Now G h s H locs → mm_Wf h → mm_Loc G y ls lsA → Met G.1 z.1 (mm_wsy z) (mm_rm z h h1) (va_Pc (as.map (mm_v G.2.1)) (mm_Pre G h)) (mm_Qc G r h1) (h1.1.length - h.1.length) (mm_sz h1 - mm_sz h) (mm_A G) → cells + (h1.1.length - h.1.length) ≤ R.cells ∧ slots + (mm_sz h1 - mm_sz h) ≤ R.slots →
      va_Run p G.1 e R s m args below meth c H locs cells slots (h1.1.length - h.1.length) (mm_sz h1 - mm_sz h) (F0 m pc lsA (st0.map (mm_v G.2.1))) (st.map (mm_v G.2.1)) (mm_Qc G r h1 (as.map (mm_v G.2.1)).toArray) (mm_A G)) (hq : pc + 3 = q) (k : ∀ x h1, h.1 <+: h1.1 → mm_Ok G y q ls (.int x :: st) h1 (f x h1)) : mm_Ok G y pc ls st0 h (mm_qi oc f) := by
  rcases oc with _ | ⟨_ | v, h1⟩
  · exact mm_no
  · exact mm_no
  · cases v <;> first | exact mm_no | exact mm_cc (f := fun _ h1 => f _ h1) hz run hq (fun r h2 hr hp _ => by cases hr; exact k _ h1 hp)
theorem mm_cl {oc : Option (Option Value × mm_H)} {f : Int64 → mm_H → Option (Option Value × mm_H)} (hz : mm_Met G z as h oc) (run : ∀ (p : Program) (e : Env) (R : Room) (s : State) (m : MethodId) (args : Array Value) (below : List Frame) (meth : Method) (c : Code) (H : Heap) (locs : List Loc) (cells slots : Nat) (lsA : Array Slot) (r : Option Value) (h1 : mm_H), mm_Ctx G y p R s m args meth c → mm_Now G h s H locs → mm_Wf h → mm_Loc G y ls lsA → Met G.1 z.1 (mm_wsy z) (mm_rm z h h1) (va_Pc (as.map (mm_v G.2.1)) (mm_Pre G h)) (mm_Qc G r h1) (h1.1.length - h.1.length) (mm_sz h1 - mm_sz h) (mm_A G) → cells + (h1.1.length - h.1.length) ≤ R.cells ∧ slots + (mm_sz h1 - mm_sz h) ≤ R.slots →
      va_Run p G.1 e R s m args below meth c H locs cells slots (h1.1.length - h.1.length) (mm_sz h1 - mm_sz h) (F0 m pc lsA (st0.map (mm_v G.2.1))) (st.map (mm_v G.2.1)) (mm_Qc G r h1 (as.map (mm_v G.2.1)).toArray) (mm_A G)) (hq : pc + 3 = q) (k : ∀ x h1, h.1 <+: h1.1 → mm_Ok G y q ls (.long x :: st) h1 (f x h1)) : mm_Ok G y pc ls st0 h (mm_ql oc f) := by
  rcases oc with _ | ⟨_ | v, h1⟩
  · exact mm_no
  · exact mm_no
  · cases v <;> first | exact mm_no | exact mm_cc (f := fun _ h1 => f _ h1) hz run hq (fun r h2 hr hp _ => by cases hr; exact k _ h1 hp)
theorem mm_cv {oc : Option (Option Value × mm_H)} {f : mm_H → Option (Option Value × mm_H)} (hz : mm_Met G z as h oc) (run : ∀ (p : Program) (e : Env) (R : Room) (s : State) (m : MethodId) (args : Array Value) (below : List Frame) (meth : Method) (c : Code) (H : Heap) (locs : List Loc) (cells slots : Nat) (lsA : Array Slot) (r : Option Value) (h1 : mm_H), mm_Ctx G y p R s m args meth c → mm_Now G h s H locs → mm_Wf h → mm_Loc G y ls lsA → Met G.1 z.1 (mm_wsy z) (mm_rm z h h1) (va_Pc (as.map (mm_v G.2.1)) (mm_Pre G h)) (mm_Qc G r h1) (h1.1.length - h.1.length) (mm_sz h1 - mm_sz h) (mm_A G) → cells + (h1.1.length - h.1.length) ≤ R.cells ∧ slots + (mm_sz h1 - mm_sz h) ≤ R.slots →
      va_Run p G.1 e R s m args below meth c H locs cells slots (h1.1.length - h.1.length) (mm_sz h1 - mm_sz h) (F0 m pc lsA (st0.map (mm_v G.2.1))) (st.map (mm_v G.2.1)) (mm_Qc G r h1 (as.map (mm_v G.2.1)).toArray) (mm_A G)) (hq : pc + 3 = q) (k : ∀ h1, h.1 <+: h1.1 → mm_Ok G y q ls st h1 (f h1)) : mm_Ok G y pc ls st0 h (mm_qv oc f) := by
  rcases oc with _ | ⟨_ | v, h1⟩
  · exact mm_no
  · exact mm_cc (f := fun _ h1 => f h1) hz run hq (fun r h2 hr hp _ => by cases hr; exact k h1 hp)
  · exact mm_no
theorem mm_ca {oc : Option (Option Value × mm_H)} {fN : mm_H → Option (Option Value × mm_H)} {fS : Nat → mm_H → Option (Option Value × mm_H)} {t : FieldType} {kn : Nat} (hz : mm_Met G z as h oc) (ht : z.2.2.2.1 = some t) (hk : mm_kt t = kn) (run : ∀ (p : Program) (e : Env) (R : Room) (s : State) (m : MethodId) (args : Array Value) (below : List Frame) (meth : Method) (c : Code) (H : Heap) (locs : List Loc) (cells slots : Nat) (lsA : Array Slot) (r : Option Value) (h1 : mm_H), mm_Ctx G y p R s m args meth c → mm_Now G h s H locs → mm_Wf h → mm_Loc G y ls lsA → Met G.1 z.1 (mm_wsy z) (mm_rm z h h1) (va_Pc (as.map (mm_v G.2.1)) (mm_Pre G h)) (mm_Qc G r h1) (h1.1.length - h.1.length) (mm_sz h1 - mm_sz h) (mm_A G) → cells + (h1.1.length - h.1.length) ≤ R.cells ∧ slots + (mm_sz h1 - mm_sz h) ≤ R.slots →
      va_Run p G.1 e R s m args below meth c H locs cells slots (h1.1.length - h.1.length) (mm_sz h1 - mm_sz h) (F0 m pc lsA (st0.map (mm_v G.2.1))) (st.map (mm_v G.2.1)) (mm_Qc G r h1 (as.map (mm_v G.2.1)).toArray) (mm_A G)) (hq : pc + 3 = q) (kN : ∀ h1, h.1 <+: h1.1 → mm_Ok G y q ls (.null :: st) h1 (fN h1)) (kS : ∀ b h1, h.1 <+: h1.1 → mm_kd h1 b = kn → mm_Ok G y q ls (.ref b :: st) h1 (fS b h1)) : mm_Ok G y pc ls st0 h (mm_qa oc fN fS) := by
  rcases oc with _ | ⟨_ | v, h1⟩
  · exact mm_no
  · exact mm_no
  · cases v with
    | null => exact mm_cc (f := fun _ h1 => fN h1) hz run hq (fun r h2 hr hp _ => by cases hr; exact kN h1 hp)
    | ref b => exact mm_cc (f := fun _ h1 => fS b h1) hz run hq (fun r h2 hr hp hrt => by
        cases hr
        obtain ⟨t2, g1, g2⟩ := hrt b rfl
        cases ht.symm.trans g1
        exact kS b h1 hp (g2.trans hk))
    | int x => exact mm_no
    | long x => exact mm_no
    | float x => exact mm_no
    | double x => exact mm_no
    | retAddr x => exact mm_no
end MMRD
