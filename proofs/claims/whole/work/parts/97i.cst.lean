/-! ===== the constructors: how they are walked ===== -/
def fR (a k : Nat) : Option Nat := if sk_pa a = true then (if k < 32 then some (a + 1 + 2 * k) else none) else sk_ref a k
/-- n objects are there; those in op are not yet done, but for D -/
def bS (L n : Nat) (op : List Nat) (D : List (Nat × Nat)) (f : Nat → Nat → Int32) (h : mm_H) : Prop :=
  h.1 = (sk_sh L).take n ∧ h.2.1 = f ∧ (∀ a k, h.2.2.2 a k = if a < n ∧ (a ∉ op ∨ (a, k) ∈ D) then fR a k else none) ∧ (∀ a, n ≤ a → f a = fun _ => 0) ∧ ∀ p ∈ D, p.1 < n
def shB (n kn c : Nat) : Bool := decide (32 ≤ n) && decide (n < 549) && (sk_c.getD (n - 32) (99, 0) == (kn, c))
def lfB (n : Nat) : Bool := !sk_pa n && (sk_rl.find? (fun q => q.1 == n)).isNone
def fuB (a : Nat) (ks : List Nat) : Bool := !sk_pa a && match sk_rl.find? (fun q => q.1 == a) with | some q => (List.range q.2.length).all (fun k => (q.2.getD k none).isNone || ks.contains k) | none => true
def roB (n c : Nat) : Bool := shB n 5 2 && shB (n + 1) 20 c && fuB n [0] && (fR n 0 == some (n + 1)) && lfB (n + 1)
def uf (f : Nat → Nat → Int32) (a k : Nat) (v : Int32) : Nat → Nat → Int32 := va_up f a (upd (f a) k v)
section CST
variable {L n : Nat} {op : List Nat} {D : List (Nat × Nat)} {f : Nat → Nat → Int32} {h h' : mm_H} {Q : Option Value → mm_H → Prop}
theorem sk_lenL : (sk_sh L).length = 549 := by
  have := sk_len
  unfold sk_sh at this ⊢
  rw [List.length_append] at this ⊢
  exact this
theorem bS.len (S : bS L n op D f h) (hn : n ≤ 549) : h.1.length = n := by
  rw [S.1, List.length_take, sk_lenL]; omega
theorem sh_get {kn c : Nat} (b : shB n kn c = true) : n < 549 ∧ (sk_sh L).take (n + 1) = (sk_sh L).take n ++ [(kn, c)] := by
  unfold shB at b
  simp only [Bool.and_eq_true, decide_eq_true_eq, beq_iff_eq] at b
  obtain ⟨⟨b1, b2⟩, b3⟩ := b
  refine ⟨b2, ?_⟩
  have g : (sk_sh L)[n]? = some (kn, c) := by
    unfold sk_sh
    rw [List.getElem?_append_right (show (st_sh L).length ≤ n from b1)]
    rw [show (st_sh L).length = 32 from rfl]
    have l : sk_c.length = 517 := by
      have := sk_len
      unfold sk_sh at this
      rw [List.length_append, show (st_sh 0).length = 32 from rfl] at this; omega
    rw [List.getElem?_eq_getElem (by omega)]
    rw [List.getD_eq_getElem?_getD, List.getElem?_eq_getElem (by omega)] at b3
    exact congrArg some b3
  rw [List.take_succ, g]; rfl
theorem lf_n (b : lfB n = true) (k : Nat) : fR n k = none := by
  unfold lfB at b
  simp only [Bool.and_eq_true, Bool.not_eq_true', Option.isNone_iff_eq_none] at b
  unfold fR sk_ref
  rw [if_neg (by rw [b.1]; decide), b.2]
theorem fu_n {ks : List Nat} (b : fuB n ks = true) (k : Nat) (z : fR n k ≠ none) : k ∈ ks := by
  unfold fuB at b
  simp only [Bool.and_eq_true, Bool.not_eq_true'] at b
  unfold fR sk_ref at z
  rw [if_neg (by rw [b.1]; decide)] at z
  cases hf : sk_rl.find? (fun q => q.1 == n) with
  | none => rw [hf] at z; exact absurd rfl z
  | some q =>
    rw [hf] at z b
    have z' : q.2.getD k none ≠ none := z
    have b' : (List.range q.2.length).all (fun k => (q.2.getD k none).isNone || ks.contains k) = true := b.2
    by_cases lk : k < q.2.length
    · rw [List.all_eq_true] at b'
      have := b' k (List.mem_range.mpr lk)
      rw [Bool.or_eq_true] at this
      rcases this with w | w
      · exact absurd (Option.isNone_iff_eq_none.mp w) z'
      · exact List.contains_iff_mem.mp w
    · rw [List.getD_eq_getElem?_getD, List.getElem?_eq_none (by omega)] at z'
      exact absurd rfl z'
theorem vu_id {α : Type} {g : Nat → α} {a : Nat} {x : α} (e : g a = x) : va_up g a x = g := funext (fun j => by
  by_cases q : j = a
  · subst q; rw [vu_at, e]
  · rw [vu_off q])
theorem bS.al {kn c : Nat} (S : bS L n op D f h) (b : shB n kn c = true) : (mm_al h kn c).1 = (sk_sh L).take (n + 1) ∧ (mm_al h kn c).2.1 = f ∧ (mm_al h kn c).2.2.2 = va_up h.2.2.2 n (fun _ => none) ∧ h.1.length = n := by
  obtain ⟨g1, g2⟩ := sh_get (L := L) b
  have l := S.len (by omega)
  obtain ⟨s1, s2, s3, s4, s5⟩ := S
  refine ⟨?_, ?_, ?_, l⟩
  · show h.1 ++ [(kn, c)] = _
    rw [g2, s1]
  · show va_up h.2.1 h.1.length (fun _ => 0) = f
    rw [l, s2]; exact vu_id (s4 n (Nat.le_refl _))
  · show va_up h.2.2.2 h.1.length (fun _ => none) = _
    rw [l]
theorem bs_leaf {kn c : Nat} {g : Nat → mm_H → mm_O} (S : bS L n op D f h) (b : shB n kn c = true) (lf : lfB n = true) (K : ∀ h', bS L (n + 1) op D f h' → tr (g n h') Q) : tr (mm_nw h kn c g) Q := by
  obtain ⟨a1, a2, a3, a4⟩ := S.al b
  obtain ⟨s1, s2, s3, s4, s5⟩ := S
  show tr (g h.1.length (mm_al h kn c)) Q
  rw [a4]
  refine K _ ⟨a1, a2, fun a k => ?_, fun a ha => s4 a (by omega), fun p hp => Nat.lt_succ_of_lt (s5 p hp)⟩
  rw [a3]
  by_cases q : a = n
  · subst q
    rw [vu_at, lf_n lf]
    by_cases z : a < a + 1 ∧ (a ∉ op ∨ (a, k) ∈ D)
    · rw [if_pos z]
    · rw [if_neg z]
  · rw [vu_off q, s3]
    have e : (a < n ∧ (a ∉ op ∨ (a, k) ∈ D)) = (a < n + 1 ∧ (a ∉ op ∨ (a, k) ∈ D)) := by
      rw [show (a < n) = (a < n + 1) from propext ⟨fun z => (by omega), fun z => (by omega)⟩]
    simp only [e]
theorem bs_open {kn c : Nat} {g : Nat → mm_H → mm_O} (S : bS L n op D f h) (b : shB n kn c = true) (K : ∀ h', bS L (n + 1) (n :: op) D f h' → tr (g n h') Q) : tr (mm_nw h kn c g) Q := by
  obtain ⟨a1, a2, a3, a4⟩ := S.al b
  obtain ⟨s1, s2, s3, s4, s5⟩ := S
  show tr (g h.1.length (mm_al h kn c)) Q
  rw [a4]
  refine K _ ⟨a1, a2, fun a k => ?_, fun a ha => s4 a (by omega), fun p hp => Nat.lt_succ_of_lt (s5 p hp)⟩
  rw [a3]
  by_cases q : a = n
  · subst q
    rw [vu_at, if_neg (fun z => by
      rcases z.2 with w | w
      · exact w (List.mem_cons_self ..)
      · exact absurd (s5 _ w) (Nat.lt_irrefl _))]
  · rw [vu_off q, s3]
    have e : (a < n ∧ (a ∉ op ∨ (a, k) ∈ D)) = (a < n + 1 ∧ (a ∉ n :: op ∨ (a, k) ∈ D)) := by
      rw [show (a < n) = (a < n + 1) from propext ⟨fun z => (by omega), fun z => (by omega)⟩, show (a ∉ n :: op) = (a ∉ op) from by rw [List.mem_cons, not_or]; exact propext ⟨fun z => z.2, fun z => ⟨q, z⟩⟩]
    simp only [e]
theorem bs_sr {a k b : Nat} {g : mm_H → mm_O} (S : bS L n op D f h) (e : fR a k = some b) (ha : a < n) (K : ∀ h', bS L n op ((a, k) :: D) f h' → tr (g h') Q) : tr (mm_bh (mm_sr h a k (some b)) g) Q := by
  obtain ⟨s1, s2, s3, s4, s5⟩ := S
  refine K _ ⟨s1, s2, fun x y => ?_, s4, fun p hp => by
    rcases List.mem_cons.mp hp with rfl | hp
    · exact ha
    · exact s5 p hp⟩
  show va_up h.2.2.2 a (va_up (h.2.2.2 a) k (some b)) x y = _
  by_cases q : x = a
  · subst q
    rw [vu_at]
    by_cases q2 : y = k
    · subst q2
      rw [vu_at, if_pos ⟨ha, Or.inr (List.mem_cons_self ..)⟩, e]
    · rw [vu_off q2, s3]
      have e : ((x, y) ∈ (x, k) :: D) = ((x, y) ∈ D) := by
        rw [List.mem_cons]; exact propext ⟨fun z => z.resolve_left (fun w => q2 (Prod.mk.inj w).2), Or.inr⟩
      simp only [e]
  · rw [vu_off q, s3]
    have e : ((x, y) ∈ (a, k) :: D) = ((x, y) ∈ D) := by
      rw [List.mem_cons]; exact propext ⟨fun z => z.resolve_left (fun w => q (Prod.mk.inj w).1), Or.inr⟩
    simp only [e]
theorem bs_s0 {a k : Nat} {g : mm_H → mm_O} (S : bS L n op D f h) (e : f a k = 0) (K : ∀ h', bS L n op D f h' → tr (g h') Q) : tr (mm_bh (mm_si h a k 0) g) Q := by
  obtain ⟨s1, s2, s3, s4, s5⟩ := S
  refine K _ ⟨s1, ?_, s3, s4, s5⟩
  show va_up h.2.1 a (upd (h.2.1 a) k 0) = f
  rw [s2]
  refine vu_id (funext (fun j => ?_))
  by_cases q : j = k
  · subst q; rw [upd_at, e]
  · rw [upd_off q]
theorem bs_si {a k : Nat} {v : Int32} {g : mm_H → mm_O} (S : bS L n op D f h) (ha : a < n) (K : ∀ h', bS L n op D (uf f a k v) h' → tr (g h') Q) : tr (mm_bh (mm_si h a k v) g) Q := by
  obtain ⟨s1, s2, s3, s4, s5⟩ := S
  refine K _ ⟨s1, ?_, s3, fun x hx => ?_, s5⟩
  · show va_up h.2.1 a (upd (h.2.1 a) k v) = uf f a k v
    rw [s2]; rfl
  · unfold uf
    rw [vu_off (by omega)]; exact s4 x hx
theorem bs_gr {a k b : Nat} {g : Nat → mm_O} (S : bS L n op D f h) (e : fR a k = some b) (ha : a < n ∧ (a ∉ op ∨ (a, k) ∈ D)) (K : tr (g b) Q) : tr (mm_gr h a k g) Q := by
  refine tr_gr ?_ K
  show h.2.2.2 a k = some b
  rw [S.2.2.1, if_pos ha, e]
theorem bS.close {a : Nat} {ks : List Nat} (S : bS L n (a :: op) (ks.map (fun k => (a, k)) ++ D) f h) (ho : a ∉ op) (b : ∀ k, fR a k ≠ none → k ∈ ks) : bS L n op D f h := by
  obtain ⟨s1, s2, s3, s4, s5⟩ := S
  refine ⟨s1, s2, fun x y => ?_, s4, fun p hp => s5 p (List.mem_append_right _ hp)⟩
  rw [s3]
  by_cases q : x = a
  · subst q
    by_cases z : x < n
    · rw [if_pos (show x < n ∧ (x ∉ op ∨ (x, y) ∈ D) from ⟨z, Or.inl ho⟩)]
      by_cases w : fR x y = none
      · rw [w]
        by_cases v : x < n ∧ (x ∉ x :: op ∨ (x, y) ∈ List.map (fun k => (x, k)) ks ++ D)
        · rw [if_pos v]
        · rw [if_neg v]
      · rw [if_pos ⟨z, Or.inr (List.mem_append_left _ (List.mem_map.mpr ⟨y, b y w, rfl⟩))⟩]
    · rw [if_neg (fun v => z v.1), if_neg (fun v => z v.1)]
  · have e1 : (x ∉ a :: op) = (x ∉ op) := by rw [List.mem_cons, not_or]; exact propext ⟨fun z => z.2, fun z => ⟨q, z⟩⟩
    have e2 : ((x, y) ∈ ks.map (fun k => (a, k)) ++ D) = ((x, y) ∈ D) := by
      rw [List.mem_append]
      refine propext ⟨fun z => z.resolve_left (fun w => ?_), Or.inr⟩
      obtain ⟨k, -, e⟩ := List.mem_map.mp w
      exact q (Prod.mk.inj e).1.symm
    simp only [e1, e2]
theorem bs_row {c : Nat} {x : Int32} {g : Nat → mm_H → mm_O} (S : bS L n op D f h) (b : roB n c = true) (ho : n ∉ op) (ex : x = nI c) (hc : c ≤ 100000) (K : ∀ h', bS L (n + 2) op D f h' → tr (g n h') Q) : tr (mm_nw h 5 2 (fun b h1 => mm_qv (bd_X6_init b x h1) (fun h2 => g b h2))) Q := by
  unfold roB at b
  simp only [Bool.and_eq_true, beq_iff_eq] at b
  obtain ⟨⟨⟨⟨b1, b2⟩, b3⟩, b4⟩, b5⟩ := b
  have z0 := S.2.2.2.1 n (Nat.le_refl _)
  refine bs_open S b1 (fun h1 S1 => ?_)
  refine tr_v (p := fun h' => bS L (n + 2) op D f h') ?_ (fun h' q => K h' q)
  unfold bd_X6_init
  have e0 : (if x < 0 then 0 else x) = nI c := by rw [ex, if_neg (nI_pos (by omega))]
  rw [e0, rr_n (by omega)]
  refine tr_ip ⟨nI_pos (by omega), hc⟩ ?_
  refine bs_leaf S1 b2 b5 (fun h2 S2 => ?_)
  refine bs_sr S2 b4 (by omega) (fun h3 S3 => ?_)
  refine bs_s0 S3 (by rw [z0]) (fun h4 S4 => ?_)
  exact tr_mk ⟨rfl, bS.close (ks := [0]) S4 ho (fu_n b3)⟩
theorem bS.ln {a c : Nat} (S : bS L n op D f h) (ha : a ≠ 0) (hn : a < n) (hc : ((sk_sh 0).getD a (99, 0)).2 = c) : mm_ln h a = c := by
  rw [← sk_ln (h := (sk_sh L, h.2)) rfl ha hc]
  unfold mm_ln
  rw [S.1, List.getD_eq_getElem?_getD, List.getElem?_take, if_pos hn, ← List.getD_eq_getElem?_getD]
end CST
