/-! ===== rules: making arrays, statics, texts, Math.max, Object.<init>, handing back ===== -/
section MMRA
variable {G : mm_G} {y : mm_Y} {pc q : Nat} {ls ls' st st' : List Value} {h h1 : mm_H} {o o1 o2 : Option (Option Value × mm_H)}
theorem mm_RAf {U : State} {cA cB : ClassId} {ty : FieldType} (h : va_RA U cA ty) (hf : U.vm.findClass ("[" ++ ty.toString) = some cB) : cB = cA := by
  cases ty with
  | object C =>
    obtain ⟨_, _, -, -, -, h4⟩ := h
    exact Option.some.inj (hf.symm.trans h4)
  | _ => exact Option.some.inj (hf.symm.trans h)
theorem ok_new_i {n : Int32} (hd : decode y.2.1 pc = .ok (.newarray .int, 2)) (hw : Cond.arrayClass .int ∈ mm_T) (hn : ¬ n < 0) (hm : mm_n n ≤ 100000) (hq : pc + 2 = q) (k : mm_kd (mm_al h 20 (mm_n n)) h.1.length = 20 → mm_Ok G y q ls (.ref h.1.length :: st) (mm_al h 20 (mm_n n)) o) : mm_Ok G y pc ls (.int n :: st) h o := by
  subst hq
  have hkd : mm_kd (mm_al h 20 (mm_n n)) h.1.length = 20 := by rw [mm_al_kd, if_pos rfl]
  refine mm_mk (kn := 20) (n := mm_n n) (fun z => absurd z (by omega)) (fun p e R s m args below meth c H locs cells slots Q lsA C hx hb Nw w hc hs had k9 => ?_) (k hkd)
  refine va_newaK (atype := .int) (N := mm_n n) hx hb (C.1.2.2.2.2.1 _ hw) rfl hd rfl hn rfl (by show mm_n n * 4 ≤ 536870912; omega) hc hs rfl fun H1 cA e1 z1 o1 hAr hNm => ?_
  refine k9 H1 (Nw.mk C.2.2.2.2.2.2 w had ?_ z1 o1)
  have hcA := mm_RAf (C.2.2.2.1.2 0 _ rfl).2 hNm
  rw [mm_arr_i (h := mm_al h 20 (mm_n n)) (a := h.1.length) (kn := 20) hkd (by omega), mm_al_ln, if_pos rfl, show (mm_al h 20 (mm_n n)).2.1 h.1.length = fun _ => 0 by simp [mm_al, va_up]]
  show H1[H.size]? = some (vp_cell _ _)
  rw [vp_cell_i, e1, hcA]
  rfl
theorem ok_new_b {n : Int32} (hd : decode y.2.1 pc = .ok (.newarray .byte, 2)) (hw : Cond.arrayClass .byte ∈ mm_T) (hn : ¬ n < 0) (hm : mm_n n ≤ 100000) (hq : pc + 2 = q) (k : mm_kd (mm_al h 21 (mm_n n)) h.1.length = 21 → mm_Ok G y q ls (.ref h.1.length :: st) (mm_al h 21 (mm_n n)) o) : mm_Ok G y pc ls (.int n :: st) h o := by
  subst hq
  have hkd : mm_kd (mm_al h 21 (mm_n n)) h.1.length = 21 := by rw [mm_al_kd, if_pos rfl]
  refine mm_mk (kn := 21) (n := mm_n n) (fun z => absurd z (by omega)) (fun p e R s m args below meth c H locs cells slots Q lsA C hx hb Nw w hc hs had k9 => ?_) (k hkd)
  refine va_newaK (atype := .byte) (N := mm_n n) hx hb (C.1.2.2.2.2.1 _ hw) rfl hd rfl hn rfl (by show mm_n n * 1 ≤ 536870912; omega) hc hs rfl fun H1 cA e1 z1 o1 hAr hNm => ?_
  refine k9 H1 (Nw.mk C.2.2.2.2.2.2 w had ?_ z1 o1)
  have hcA := mm_RAf (C.2.2.2.1.2 1 _ rfl).2 hNm
  rw [mm_arr_i (h := mm_al h 21 (mm_n n)) (a := h.1.length) (kn := 21) hkd (by omega), mm_al_ln, if_pos rfl, show (mm_al h 21 (mm_n n)).2.1 h.1.length = fun _ => 0 by simp [mm_al, va_up]]
  show H1[H.size]? = some (vp_cell _ _)
  rw [vp_cell_i, e1, hcA]
  rfl
theorem ok_new_z {n : Int32} (hd : decode y.2.1 pc = .ok (.newarray .boolean, 2)) (hw : Cond.arrayClass .boolean ∈ mm_T) (hn : ¬ n < 0) (hm : mm_n n ≤ 100000) (hq : pc + 2 = q) (k : mm_kd (mm_al h 22 (mm_n n)) h.1.length = 22 → mm_Ok G y q ls (.ref h.1.length :: st) (mm_al h 22 (mm_n n)) o) : mm_Ok G y pc ls (.int n :: st) h o := by
  subst hq
  have hkd : mm_kd (mm_al h 22 (mm_n n)) h.1.length = 22 := by rw [mm_al_kd, if_pos rfl]
  refine mm_mk (kn := 22) (n := mm_n n) (fun z => absurd z (by omega)) (fun p e R s m args below meth c H locs cells slots Q lsA C hx hb Nw w hc hs had k9 => ?_) (k hkd)
  refine va_newaK (atype := .boolean) (N := mm_n n) hx hb (C.1.2.2.2.2.1 _ hw) rfl hd rfl hn rfl (by show mm_n n * 1 ≤ 536870912; omega) hc hs rfl fun H1 cA e1 z1 o1 hAr hNm => ?_
  refine k9 H1 (Nw.mk C.2.2.2.2.2.2 w had ?_ z1 o1)
  have hcA := mm_RAf (C.2.2.2.1.2 2 _ rfl).2 hNm
  rw [mm_arr_i (h := mm_al h 22 (mm_n n)) (a := h.1.length) (kn := 22) hkd (by omega), mm_al_ln, if_pos rfl, show (mm_al h 22 (mm_n n)).2.1 h.1.length = fun _ => 0 by simp [mm_al, va_up]]
  show H1[H.size]? = some (vp_cell _ _)
  rw [vp_cell_i, e1, hcA]
  rfl
theorem ok_new_l {n : Int32} (hd : decode y.2.1 pc = .ok (.newarray .long, 2)) (hw : Cond.arrayClass .long ∈ mm_T) (hn : ¬ n < 0) (hm : mm_n n ≤ 100000) (hq : pc + 2 = q) (k : mm_kd (mm_al h 23 (mm_n n)) h.1.length = 23 → mm_Ok G y q ls (.ref h.1.length :: st) (mm_al h 23 (mm_n n)) o) : mm_Ok G y pc ls (.int n :: st) h o := by
  subst hq
  have hkd : mm_kd (mm_al h 23 (mm_n n)) h.1.length = 23 := by rw [mm_al_kd, if_pos rfl]
  refine mm_mk (kn := 23) (n := mm_n n) (fun z => absurd z (by omega)) (fun p e R s m args below meth c H locs cells slots Q lsA C hx hb Nw w hc hs had k9 => ?_) (k hkd)
  refine va_newaK (atype := .long) (N := mm_n n) hx hb (C.1.2.2.2.2.1 _ hw) rfl hd rfl hn rfl (by show mm_n n * 8 ≤ 536870912; omega) hc hs rfl fun H1 cA e1 z1 o1 hAr hNm => ?_
  refine k9 H1 (Nw.mk C.2.2.2.2.2.2 w had ?_ z1 o1)
  have hcA := mm_RAf (C.2.2.2.1.2 3 _ rfl).2 hNm
  rw [mm_arr_l (h := mm_al h 23 (mm_n n)) (a := h.1.length) hkd, mm_al_ln, if_pos rfl, show (mm_al h 23 (mm_n n)).2.2.1 h.1.length = fun _ => 0 by simp [mm_al, va_up]]
  show H1[H.size]? = some (vp_cell _ _)
  rw [vp_cell_l, e1, hcA]
  rfl
theorem ok_new_r {i : Nat} {n : Int32} (hd : decode y.2.1 pc = .ok (.anewarray i, 3)) (hw : Cond.classLink y.1.cls i RX6 ∈ mm_T) (hn : ¬ n < 0) (hm : mm_n n ≤ 100000) (hq : pc + 3 = q) (k : mm_kd (mm_al h 24 (mm_n n)) h.1.length = 24 → mm_Ok G y q ls (.ref h.1.length :: st) (mm_al h 24 (mm_n n)) o) : mm_Ok G y pc ls (.int n :: st) h o := by
  subst hq
  have hkd : mm_kd (mm_al h 24 (mm_n n)) h.1.length = 24 := by rw [mm_al_kd, if_pos rfl]
  refine mm_mk (kn := 24) (n := mm_n n) (fun z => absurd z (by omega)) (fun p e R s m args below meth c H locs cells slots Q lsA C hx hb Nw w hc hs had k9 => ?_) (k hkd)
  refine W.anew hx hb C.1.2.2.2.1 (C.1.2.2.2.2.1 _ hw) (va_AO.use C.2.2.1.2.2.2.2.2.1.1) rfl hd rfl hn (by show mm_n n * 4 ≤ 536870912; omega) hc hs fun cA kA comp f1 f2 f3 f4 => ?_
  generalize hH1 : H.push ({ cls := cA, slots := Array.replicate n.toNatClampNeg .null, vm := .none } : Cell) = H1
  have z1 : H1.size = H.size + 1 := by rw [← hH1, Array.size_push]
  have e1 : H1[H.size]? = some (arrV cA (mm_n n) (fun _ => .null)) := by rw [← hH1, Array.getElem?_push_size, mm_n, ← arrV_new]
  have o1 : ∀ q : Nat, q < H.size → H1[q]? = H[q]? := fun q hq => by rw [← hH1, Array.getElem?_push, if_neg (Nat.ne_of_lt hq)]
  refine k9 H1 (Nw.mk C.2.2.2.2.2.2 w had ?_ z1 o1)
  have hcA := mm_RAf (C.2.2.2.1.2 4 _ rfl).2 f1
  rw [mm_arr_r (h := mm_al h 24 (mm_n n)) (a := h.1.length) (kn := 24) hkd (by omega), mm_al_ln, if_pos rfl, show (mm_al h 24 (mm_n n)).2.2.2 h.1.length = fun _ => none by simp [mm_al, va_up]]
  show H1[H.size]? = some (vp_cell _ _)
  rw [vp_cell_q, e1, hcA]
  rfl
theorem ok_new_e {i : Nat} {n : Int32} (hd : decode y.2.1 pc = .ok (.anewarray i, 3)) (hw : Cond.classLink y.1.cls i RX0 ∈ mm_T) (hn : ¬ n < 0) (hm : mm_n n ≤ 100000) (hq : pc + 3 = q) (k : mm_kd (mm_al h 25 (mm_n n)) h.1.length = 25 → mm_Ok G y q ls (.ref h.1.length :: st) (mm_al h 25 (mm_n n)) o) : mm_Ok G y pc ls (.int n :: st) h o := by
  subst hq
  have hkd : mm_kd (mm_al h 25 (mm_n n)) h.1.length = 25 := by rw [mm_al_kd, if_pos rfl]
  refine mm_mk (kn := 25) (n := mm_n n) (fun z => absurd z (by omega)) (fun p e R s m args below meth c H locs cells slots Q lsA C hx hb Nw w hc hs had k9 => ?_) (k hkd)
  refine W.anew hx hb C.1.2.2.2.1 (C.1.2.2.2.2.1 _ hw) (va_AO.use C.2.2.1.2.2.2.2.2.1.2) rfl hd rfl hn (by show mm_n n * 4 ≤ 536870912; omega) hc hs fun cA kA comp f1 f2 f3 f4 => ?_
  generalize hH1 : H.push ({ cls := cA, slots := Array.replicate n.toNatClampNeg .null, vm := .none } : Cell) = H1
  have z1 : H1.size = H.size + 1 := by rw [← hH1, Array.size_push]
  have e1 : H1[H.size]? = some (arrV cA (mm_n n) (fun _ => .null)) := by rw [← hH1, Array.getElem?_push_size, mm_n, ← arrV_new]
  have o1 : ∀ q : Nat, q < H.size → H1[q]? = H[q]? := fun q hq => by rw [← hH1, Array.getElem?_push, if_neg (Nat.ne_of_lt hq)]
  refine k9 H1 (Nw.mk C.2.2.2.2.2.2 w had ?_ z1 o1)
  have hcA := mm_RAf (C.2.2.2.1.2 5 _ rfl).2 f1
  rw [mm_arr_r (h := mm_al h 25 (mm_n n)) (a := h.1.length) (kn := 25) hkd (by omega), mm_al_ln, if_pos rfl, show (mm_al h 25 (mm_n n)).2.2.2 h.1.length = fun _ => none by simp [mm_al, va_up]]
  show H1[H.size]? = some (vp_cell _ _)
  rw [vp_cell_q, e1, hcA]
  rfl
/-- a static table -/
theorem ok_gets {C n : String} {a i : Nat} (hm : (C, n, a) ∈ mm_sta) (hd : decode y.2.1 pc = .ok (.getstatic i, 3)) (hw : Cond.fieldLink y.1.cls i C n "[I" ∈ mm_T) (ha : a < 10) (hq : pc + 3 = q) (k : mm_kd h a = 20 → mm_Ok G y q ls (.ref a :: st) h o) : mm_Ok G y pc ls st h o := by
  subst hq
  intro w0
  have hk : mm_kd h a = 20 := by rcases w0.2.1 a (by omega) with x | x | x <;> omega
  exact mm_st (fun p e R s m args below meth c H locs cells slots Q lsA C hx hb L Nw w k => va_gets hx hb (C.2.2.1.1 _ hm) Nw.2.2.1 C.1.2.2.2.1 (C.1.2.2.2.2.1 _ hw) (fun _ h9 => h9) hd k) (k hk) w0
theorem ok_getsC {i : Nat} (hd : decode y.2.1 pc = .ok (.getstatic i, 3)) (hw : Cond.fieldLink y.1.cls i "java/lang/String" "COMPACT_STRINGS" "Z" ∈ mm_T) (hq : pc + 3 = q) (k : mm_Ok G y q ls (.int 1 :: st) h o) : mm_Ok G y pc ls st h o := by
  subst hq
  exact mm_st (fun p e R s m args below meth c H locs cells slots Q lsA C hx hb L Nw w k => va_gets hx hb C.2.2.1.2.2.2.2.1 Nw.2.2.1 C.1.2.2.2.1 (C.1.2.2.2.2.1 _ hw) (fun _ h9 => h9) hd k) k
/-- a text by ldc_w -/
theorem mm_ldcw {p : Program} {l : Launch} {e : Env} {R : Room} {s : State} {m : MethodId} {args : Array Value} {below : List Frame} {meth : Method} {c : Code} {H : Heap} {locs : List Loc} {cells slots : Nat} {Q : State → Prop} {cc : ByteArray} {ls : Array Slot} {rest : List Value} (hexec : p.tables.exec = Jvm.exec) (hb : c.code = cc) {own tx : String} {index a : Nat} (hown : s.vm.findClass own = some m.cls) (hZ : vk_R own index tx a s) (hdg : decode cc pc = .ok (.ldc_w index, 3))
    (kk : W p l e R s m args below meth c H locs cells slots Q (F0 m (pc + 3) ls (.ref a :: rest))) : W p l e R s m args below meth c H locs cells slots Q (F0 m pc ls rest) := by
  intro T hT X
  obtain ⟨t, a1, b1⟩ := kk T hT X
  refine ⟨t, ?_, b1⟩
  obtain ⟨k, cf, i, a', hk, hcf, hcp, -, hr, hev'⟩ := Cond.stringRef_spec hown hZ.1
  cases hZ.2.symm.trans hev'
  obtain ⟨k', hk', he⟩ := X.warmed.alike.2.2 _ _ hk
  have hr' : k'.resolved[index]? = some (some (.string a)) := by
    rcases X.warmed.entry hk hk' index with h | ⟨h, -⟩
    · rw [h]; exact hr
    · rw [hr] at h; cases h
  jvm_step X.here [hexec, hb, hdg, ldc_w.wp_string (s := T) (f := F0 m pc ls rest) X.here.top hk' (by rw [he]; exact hcf) hcp hr']
  exact a1
/-- a text -/
theorem ok_ldcS {i a : Nat} {tx : String} (hm : (y.1.cls, i, tx, a) ∈ mm_strs) (hd : decode y.2.1 pc = .ok (.ldc i, 2)) (ha : 10 ≤ a ∧ a < 21) (hq : pc + 2 = q) (k : mm_kd h a = 26 → mm_Ok G y q ls (.ref a :: st) h o) : mm_Ok G y pc ls st h o := by
  subst hq
  intro w0
  have hk : mm_kd h a = 26 := by rcases w0.2.1 a (by omega) with x | x | x <;> omega
  exact mm_st (fun p e R s m args below meth c H locs cells slots Q lsA C hx hb L Nw w k => va_ldcS hx hb C.1.2.2.2.1 (C.2.2.1.2.2.1 _ hm) hd k) (k hk) w0
theorem ok_ldcSw {i a : Nat} {tx : String} (hm : (y.1.cls, i, tx, a) ∈ mm_strs) (hd : decode y.2.1 pc = .ok (.ldc_w i, 3)) (ha : 10 ≤ a ∧ a < 21) (hq : pc + 3 = q) (k : mm_kd h a = 26 → mm_Ok G y q ls (.ref a :: st) h o) : mm_Ok G y pc ls st h o := by
  subst hq
  intro w0
  have hk : mm_kd h a = 26 := by rcases w0.2.1 a (by omega) with x | x | x <;> omega
  exact mm_st (fun p e R s m args below meth c H locs cells slots Q lsA C hx hb L Nw w k => mm_ldcw hx hb C.1.2.2.2.1 (C.2.2.1.2.2.1 _ hm) hd k) (k hk) w0
theorem mm_str (w : mm_Wf h) {a : Nat} (ha : mm_kd h a = 26) (h32 : a < 32) : 10 ≤ a ∧ a < 21 := by
  rcases w.2.1 a h32 with x | x | x <;> omega
theorem ok_getSc {i a : Nat} (hd : decode y.2.1 pc = .ok (.getfield i, 3)) (hw : Cond.fieldLink y.1.cls i "java/lang/String" "coder" "B" ∈ mm_T) (ha : mm_kd h a = 26) (h32 : a < 32) (hq : pc + 3 = q) (k : mm_Ok G y q ls (.int 0 :: st) h o) : mm_Ok G y pc ls (.ref a :: st) h o := by
  subst hq
  refine mm_st (fun p e R s m args below meth c H locs cells slots Q lsA C hx hb L Nw w k => ?_) k
  have hs := mm_str w ha h32
  have hE := (C.2.2.1.2.2.2.1 (a - 10) (by omega)).2.1
  rw [show 10 + (a - 10) = a by omega] at hE
  exact vk_getf hx hb hE Nw.2.2.1 C.1.2.2.2.1 (C.1.2.2.2.2.1 _ hw) (fun _ h9 => h9) hd k
theorem ok_getSv {i a : Nat} (hd : decode y.2.1 pc = .ok (.getfield i, 3)) (hw : Cond.fieldLink y.1.cls i "java/lang/String" "value" "[B" ∈ mm_T) (ha : mm_kd h a = 26) (h32 : a < 32) (hq : pc + 3 = q) (k : mm_kd h (a + 11) = 21 → mm_Ok G y q ls (.ref (a + 11) :: st) h o) : mm_Ok G y pc ls (.ref a :: st) h o := by
  subst hq
  intro w0
  have hs0 := mm_str w0 ha h32
  have hk : mm_kd h (a + 11) = 21 := by rcases w0.2.1 (a + 11) (by omega) with x | x | x <;> omega
  refine mm_st (fun p e R s m args below meth c H locs cells slots Q lsA C hx hb L Nw w k => ?_) (k hk) w0
  have hE := (C.2.2.1.2.2.2.1 (a - 10) (by omega)).2.2.1
  rw [show 10 + (a - 10) = a by omega, show 21 + (a - 10) = a + 11 by omega] at hE
  exact vk_getf hx hb hE Nw.2.2.1 C.1.2.2.2.1 (C.1.2.2.2.2.1 _ hw) (fun _ h9 => h9) hd k
theorem mm_cats {adr : Nat → Nat} (st : List Value) : ((st.map (mm_v adr)).map fun v => v.category).sum = (st.map fun v => v.category).sum := by
  rw [List.map_map]
  congr 1
  apply List.map_congr_left
  intro v _
  exact mm_vcat adr v
/-- Math.max -/
theorem ok_max {i : Nat} {a b : Int32} (hd : decode y.2.1 pc = .ok (.invokestatic i, 3)) (hw : Cond.methodLink y.1.cls i Lib.Math.max.name ∈ mm_T) (hw2 : Cond.static Lib.Math.max.name ∈ mm_T) (hw3 : Cond.initialized "java/lang/Math" ∈ mm_T) (hw4 : Cond.code Lib.Math.max.name Lib.Math.max.code 2 (some .int) ∈ mm_T) (hr : 1 ≤ y.2.2.2.2.1 ∧ (st.map fun v => v.category).sum + 13 ≤ y.2.2.2.2.2) (hq : pc + 3 = q) (k : mm_Ok G y q ls (.int (if a < b then b else a) :: st) h o) : mm_Ok G y pc ls (.int b :: .int a :: st) h o := by
  subst hq
  intro w r h' ho
  obtain ⟨k1, k3⟩ := k w r h' ho
  refine ⟨k1, fun p e R s m args below meth c C H locs cells slots Q lsA N L hc hs he => ?_⟩
  refine va_mmax C.1.1 C.1.2.1 (by rw [C.1.2.2.1, L.1.1]) C.1.2.2.2.1 (C.1.2.2.2.2.1 _ hw) (C.1.2.2.2.2.1 _ hw2) (C.1.2.2.2.2.1 _ hw3) (C.1.2.2.2.2.1 _ hw4) (Nat.le_trans hr.1 C.1.2.2.2.2.2.1) (by rw [mm_cats]; exact Nat.le_trans hr.2 C.1.2.2.2.2.2.2) (by omega) (by omega) hd (k3 p e R s m args below meth c C H locs cells slots Q lsA N L hc hs he)
theorem ok_objInit {i a : Nat} (hd : decode y.2.1 pc = .ok (.invokespecial i, 3)) (hw : Cond.methodLink y.1.cls i Lib.objectInit ∈ mm_T) (hw2 : Cond.instanceMethod Lib.objectInit ∈ mm_T) (hw3 : Cond.code Lib.objectInit ⟨#[0xb1]⟩ 1 none ∈ mm_T) (hr : 1 ≤ y.2.2.2.2.1 ∧ (st.map fun v => v.category).sum + 12 ≤ y.2.2.2.2.2) (hq : pc + 3 = q) (k : mm_Ok G y q ls st h o) : mm_Ok G y pc ls (.ref a :: st) h o := by
  subst hq
  refine mm_st (fun p e R s m args below meth c H locs cells slots Q lsA C hx hb L Nw w k => ?_) k
  exact W.objInit hx hb C.1.2.2.2.1 (C.1.2.2.2.2.1 _ hw) (C.1.2.2.2.2.1 _ hw2) (C.1.2.2.2.2.1 _ hw3) rfl (by rw [C.1.2.2.1]; exact L.1.1) rfl hd (Nat.le_trans hr.1 C.1.2.2.2.2.2.1) (by rw [mm_cats]; show 2 * 0 + _ + 12 ≤ _; have := C.1.2.2.2.2.2.2; omega) k
/-! handing back -/
theorem mm_end {r : Option Value} (hrt : mm_rt y r h) (hr : mm_Ret y pc r) : mm_Ok G y pc ls r.toList h (some (r, h)) := by
  intro w r' h' ho
  cases ho
  refine ⟨⟨List.prefix_refl _, w, hrt⟩, fun p e R s m args below meth c C H locs cells slots Q lsA N L hc hs he => ?_⟩
  have k := he H locs pc lsA N L.1.1 hr
  rw [Nat.sub_self, Nat.sub_self, Nat.add_zero, Nat.add_zero] at k
  cases r with
  | none => exact k
  | some v => exact k
theorem ok_ret (hd : decode y.2.1 pc = .ok (.return_, 1)) (hy : y.2.2.2.1 = none) : mm_Ok G y pc ls [] h (some (none, h)) := mm_end (r := none) (fun b hb => by cases hb) ⟨hd, hy⟩
theorem ok_iret {t : FieldType} {v : Int32} (hd : decode y.2.1 pc = .ok (.ireturn, 1)) (hy : y.2.2.2.1 = some t) (hn : narrow t (.int v) = .int v) : mm_Ok G y pc ls [.int v] h (some (some (.int v), h)) := mm_end (r := some (.int v)) (fun b hb => by cases hb) ⟨hd, t, hy, hn⟩
theorem ok_lret {v : Int64} (hd : decode y.2.1 pc = .ok (.lreturn, 1)) (hy : y.2.2.2.1 = some .long) : mm_Ok G y pc ls [.long v] h (some (some (.long v), h)) := mm_end (r := some (.long v)) (fun b hb => by cases hb) ⟨hd, hy⟩
theorem ok_aret {t : FieldType} {b kn : Nat} (hd : decode y.2.1 pc = .ok (.areturn, 1)) (hy : y.2.2.2.1 = some t) (ht : (∃ n, t = .object n) ∨ ∃ u, t = .array u) (hk : mm_kt t = kn) (hb : mm_kd h b = kn) : mm_Ok G y pc ls [.ref b] h (some (some (.ref b), h)) := mm_end (r := some (.ref b)) (fun b2 hb2 => by cases hb2; exact ⟨t, hy, by rw [hb, hk]⟩) ⟨hd, t, hy, ht⟩
theorem ok_nret {t : FieldType} (hd : decode y.2.1 pc = .ok (.areturn, 1)) (hy : y.2.2.2.1 = some t) (ht : (∃ n, t = .object n) ∨ ∃ u, t = .array u) : mm_Ok G y pc ls [.null] h (some (some .null, h)) := mm_end (r := some .null) (fun b hb => by cases hb) ⟨hd, t, hy, ht⟩
end MMRA
