/-! ===== binders of the printed functions, and their rules ===== -/
abbrev mm_O : Type := Option (Option Value × mm_H)
def mm_bi (v : Int32) (f : Int32 → mm_O) : mm_O := f v
def mm_bl (v : Int64) (f : Int64 → mm_O) : mm_O := f v
def mm_bh (h : mm_H) (f : mm_H → mm_O) : mm_O := f h
def mm_nw (h : mm_H) (kn n : Nat) (f : Nat → mm_H → mm_O) : mm_O := f h.1.length (mm_al h kn n)
def mm_ui (o : mm_O) : Option (Int32 × mm_H) := match o with
  | some (some (.int v), h) => some (v, h)
  | _ => none
def mm_ul (o : mm_O) : Option (Int64 × mm_H) := match o with
  | some (some (.long v), h) => some (v, h)
  | _ => none
def mm_ua (o : mm_O) : Option (Option Nat × mm_H) := match o with
  | some (some (.ref a), h) => some (some a, h)
  | some (some .null, h) => some (none, h)
  | _ => none
def mm_uv (o : mm_O) : Option mm_H := match o with
  | some (none, h) => some h
  | _ => none
/-- how often a loop may turn: more than any of them does -/
def mm_fu : Nat := 100000
theorem mm_ke {h h2 : mm_H} {a c : Nat} (e : h2.1 = h.1) (k : mm_kd h a = c) : mm_kd h2 a = c := by
  unfold mm_kd at k ⊢; rw [e]; exact k
section MMRE
variable {G : mm_G} {y z : mm_Y} {pc q : Nat} {ls ls' st st0 as : List Value} {h h1 : mm_H} {o o1 o2 : mm_O}
theorem bi_ok {v : Int32} {f : Int32 → mm_O} (k : ∀ x, mm_Ok G y pc ls (.int x :: st) h (f x)) : mm_Ok G y pc ls (.int v :: st) h (mm_bi v f) := k v
theorem bl_ok {v : Int64} {f : Int64 → mm_O} (k : ∀ x, mm_Ok G y pc ls (.long x :: st) h (f x)) : mm_Ok G y pc ls (.long v :: st) h (mm_bl v f) := k v
theorem bh_ok {f : mm_H → mm_O} (k : ∀ h2, h2.1 = h.1 → mm_Ok G y pc ls st h2 (f h2)) : mm_Ok G y pc ls st h (mm_bh h f) := k h rfl
theorem nw_ok {kn n : Nat} {f : Nat → mm_H → mm_O} (hk : mm_kd (mm_al h kn n) h.1.length = kn) (k : ∀ a h2, h.1 <+: h2.1 → mm_kd h2 a = kn → mm_Ok G y pc ls (.ref a :: st) h2 (f a h2)) : mm_Ok G y pc ls (.ref h.1.length :: st) (mm_al h kn n) (mm_nw h kn n f) := k _ _ (List.prefix_append _ _) hk
/-- two ways that the function goes, at one place of the machine -/
theorem mm_sp {b : Prop} [Decidable b] (k1 : b → mm_Ok G y pc ls st h o1) (k2 : ¬ b → mm_Ok G y pc ls st h o2) : mm_Ok G y pc ls st h (if b then o1 else o2) := by
  by_cases hb : b
  · rw [if_pos hb]; exact k1 hb
  · rw [if_neg hb]; exact k2 hb
/-- locals that nobody reads any more -/
theorem mm_wk (ks : List Bool) (hs : List.zipWith (fun v b => if b = true then v else mm_U) ls ks = ls') (k : mm_Ok G y pc ls' st h o) : mm_Ok G y pc ls st h o := by
  subst hs
  refine mm_lo (fun p e R s m args below meth c H locs cells slots Q lsA hx hb L kk => kk lsA ⟨L.1, fun i v hv hu => ?_⟩) k
  rw [List.getElem?_zipWith] at hv
  cases h1 : ls[i]? with
  | none => rw [h1] at hv; simp at hv
  | some a =>
    cases h2 : ks[i]? with
    | none => rw [h1, h2] at hv; simp at hv
    | some b =>
      rw [h1, h2] at hv
      simp at hv
      by_cases hb : b = true
      · rw [if_pos hb] at hv; subst hv; exact L.2 i _ h1 hu
      · rw [if_neg hb] at hv; exact absurd hv.symm hu
theorem mm_isb {x : Int32} (hx : x = 0 ∨ x = 1) : narrow .boolean (.int x) = .int x ∧ fits .boolean (.int x) = true := by
  rcases hx with rfl | rfl <;> decide
end MMRE
def mm_qi (o : mm_O) (f : Int32 → mm_H → mm_O) : mm_O := (mm_ui o).bind (fun x => f x.1 x.2)
def mm_ql (o : mm_O) (f : Int64 → mm_H → mm_O) : mm_O := (mm_ul o).bind (fun x => f x.1 x.2)
def mm_qv (o : mm_O) (f : mm_H → mm_O) : mm_O := (mm_uv o).bind f
def mm_qa (o : mm_O) (fN : mm_H → mm_O) (fS : Nat → mm_H → mm_O) : mm_O := (mm_ua o).bind (fun x => x.1.elim (fN x.2) (fun b => fS b x.2))
def mm_gr (h : mm_H) (a k : Nat) (f : Nat → mm_O) : mm_O := (mm_r h a k).bind f
theorem mm_qi_s {v : Int32} {h : mm_H} {f : Int32 → mm_H → mm_O} : mm_qi (some (some (.int v), h)) f = f v h := rfl
theorem mm_ql_s {v : Int64} {h : mm_H} {f : Int64 → mm_H → mm_O} : mm_ql (some (some (.long v), h)) f = f v h := rfl
theorem mm_qv_s {h : mm_H} {f : mm_H → mm_O} : mm_qv (some (none, h)) f = f h := rfl
theorem mm_qa_s {a : Nat} {h : mm_H} {fN : mm_H → mm_O} {fS : Nat → mm_H → mm_O} : mm_qa (some (some (.ref a), h)) fN fS = fS a h := rfl
theorem mm_qa_n {h : mm_H} {fN : mm_H → mm_O} {fS : Nat → mm_H → mm_O} : mm_qa (some (some .null, h)) fN fS = fN h := rfl
