/-! ===== the constructors ===== -/
section CTS
variable {L : Nat} {op : List Nat} {D : List (Nat × Nat)} {f : Nat → Nat → Int32} {h : mm_H} {Q : Option Value → mm_H → Prop} {a0 b : Nat} {g : mm_H → mm_O}
theorem uf_k {a k j : Nat} {v : Int32} (q : j ≠ k) : uf f a k v a j = f a j := by unfold uf; rw [vu_at, upd_off q]
theorem uf_o {a k x : Nat} {v : Int32} (q : x ≠ a) : uf f a k v x = f x := by unfold uf; rw [vu_off q]
theorem uf_at {a k : Nat} {v : Int32} : uf f a k v a k = v := by unfold uf; rw [vu_at, upd_at]
theorem nop {n : Nat} (ho : ∀ x ∈ op, x < a0) (hn : a0 < n := by decide) : n ∉ a0 :: op := fun z => by
  rcases List.mem_cons.mp z with z | z
  · omega
  · have := ho n z; omega
theorem opn (ho : ∀ x ∈ op, x < a0) : a0 ∉ op := fun z => Nat.lt_irrefl _ (ho _ z)
theorem opc {n : Nat} (ho : ∀ x ∈ op, x < a0) (hn : a0 < n := by decide) : ∀ x ∈ a0 :: op, x < n := fun x z => by
  rcases List.mem_cons.mp z with z | z
  · omega
  · have := ho x z; omega
theorem ci_X5 (ha : a0 = 53) (ho : ∀ x ∈ op, x < a0) (S : bS L (a0 + 1) (a0 :: op) D f h) (K : ∀ h', bS L (a0 + 4) op D f h' → tr (g h') Q) : tr (mm_qv (bd_X5_init a0 h) g) Q := by
  subst ha
  refine tr_v (p := fun h' => bS L (_ + 4) op D f h') ?_ (fun h' q => K h' q)
  unfold bd_X5_init
  refine bs_leaf S (by decide +kernel) (by decide +kernel) (fun h S => ?_)
  refine bs_sr S (by decide +kernel) (by decide) (fun h S => ?_)
  refine bs_leaf S (by decide +kernel) (by decide +kernel) (fun h S => ?_)
  refine bs_sr S (by decide +kernel) (by decide) (fun h S => ?_)
  refine bs_leaf S (by decide +kernel) (by decide +kernel) (fun h S => ?_)
  refine bs_sr S (by decide +kernel) (by decide) (fun h S => ?_)
  exact tr_mk ⟨rfl, bS.close (ks := [2, 1, 0]) S (opn ho) (fu_n (by decide +kernel))⟩
theorem ci_X9 (ha : a0 = 36) (ho : ∀ x ∈ op, x < a0) (S : bS L (a0 + 1) (a0 :: op) D f h) (K : ∀ h', bS L (a0 + 3) op D f h' → tr (g h') Q) : tr (mm_qv (bd_X9_init a0 h) g) Q := by
  subst ha
  refine tr_v (p := fun h' => bS L (_ + 3) op D f h') ?_ (fun h' q => K h' q)
  unfold bd_X9_init
  rw [S.ln (a := 1) (c := 8) (by decide) (by decide) (by decide +kernel)]
  refine tr_ip (by decide) ?_
  refine bs_leaf S (by decide +kernel) (by decide +kernel) (fun h S => ?_)
  refine bs_sr S (by decide +kernel) (by decide) (fun h S => ?_)
  rw [S.ln (a := 2) (c := 64) (by decide) (by decide) (by decide +kernel)]
  refine tr_ip (by decide) ?_
  refine bs_leaf S (by decide +kernel) (by decide +kernel) (fun h S => ?_)
  refine bs_sr S (by decide +kernel) (by decide) (fun h S => ?_)
  exact tr_mk ⟨rfl, bS.close (ks := [1, 0]) S (opn ho) (fu_n (by decide +kernel))⟩
theorem ci_X8 (ha : a0 = 52) (ho : ∀ x ∈ op, x < a0) (S : bS L (a0 + 1) (a0 :: op) D f h) (K : ∀ h', bS L (a0 + 13) op D f h' → tr (g h') Q) : tr (mm_qv (bd_X8_init a0 h) g) Q := by
  subst ha
  refine tr_v (p := fun h' => bS L (_ + 13) op D f h') ?_ (fun h' q => K h' q)
  unfold bd_X8_init
  refine bs_open S (by decide +kernel) (fun h S => ?_)
  refine ci_X5 rfl (opc ho) S (fun h S => ?_)
  refine bs_sr S (by decide +kernel) (by decide) (fun h S => ?_)
  refine bs_leaf S (by decide +kernel) (by decide +kernel) (fun h S => ?_)
  refine bs_sr S (by decide +kernel) (by decide) (fun h S => ?_)
  refine bs_leaf S (by decide +kernel) (by decide +kernel) (fun h S => ?_)
  refine bs_sr S (by decide +kernel) (by decide) (fun h S => ?_)
  refine bs_row (c := 32) S (by decide +kernel) (nop ho) rfl (by decide) (fun h S => ?_)
  refine bs_sr S (by decide +kernel) (by decide) (fun h S => ?_)
  refine bs_row (c := 664) S (by decide +kernel) (nop ho) rfl (by decide) (fun h S => ?_)
  refine bs_sr S (by decide +kernel) (by decide) (fun h S => ?_)
  refine bs_row (c := 16) S (by decide +kernel) (nop ho) rfl (by decide) (fun h S => ?_)
  refine bs_sr S (by decide +kernel) (by decide) (fun h S => ?_)
  exact tr_mk ⟨rfl, bS.close (ks := [5, 4, 3, 2, 1, 0]) S (opn ho) (fu_n (by decide +kernel))⟩
theorem ci_X1 (ha : a0 = 39) (ho : ∀ x ∈ op, x < a0) (S : bS L (a0 + 1) (a0 :: op) D f h) (K : ∀ h', bS L (a0 + 13) op D (uf f 42 1 32) h' → tr (g h') Q) : tr (mm_qv (bd_X1_init a0 36 h) g) Q := by
  subst ha
  refine tr_v (p := fun h' => bS L (_ + 13) op D (uf f 42 1 32) h') ?_ (fun h' q => K h' q)
  unfold bd_X1_init
  refine bs_sr S (by decide +kernel) (by decide) (fun h S => ?_)
  refine bs_row (c := 0) S (by decide +kernel) (nop ho) rfl (by decide) (fun h S => ?_)
  refine bs_sr S (by decide +kernel) (by decide) (fun h S => ?_)
  refine bs_row (c := 32) S (by decide +kernel) (nop ho) rfl (by decide) (fun h S => ?_)
  refine bs_sr S (by decide +kernel) (by decide) (fun h S => ?_)
  refine bs_gr (b := 42) S (by decide +kernel) ⟨by decide, Or.inr (by simp)⟩ ?_
  refine bs_si S (by decide) (fun h S => ?_)
  refine bs_row (c := 128) S (by decide +kernel) (nop ho) rfl (by decide) (fun h S => ?_)
  refine bs_sr S (by decide +kernel) (by decide) (fun h S => ?_)
  refine bs_row (c := 32) S (by decide +kernel) (nop ho) rfl (by decide) (fun h S => ?_)
  refine bs_sr S (by decide +kernel) (by decide) (fun h S => ?_)
  refine bs_row (c := 55) S (by decide +kernel) (nop ho) rfl (by decide) (fun h S => ?_)
  refine bs_sr S (by decide +kernel) (by decide) (fun h S => ?_)
  refine bs_row (c := 32) S (by decide +kernel) (nop ho) rfl (by decide) (fun h S => ?_)
  refine bs_sr S (by decide +kernel) (by decide) (fun h S => ?_)
  exact tr_mk ⟨rfl, bS.close (ks := [6, 5, 4, 3, 2, 1, 0]) S (opn ho) (fu_n (by decide +kernel))⟩
theorem ci_X10 (ha : a0 = 35) (ho : ∀ x ∈ op, x < a0) (S : bS L (a0 + 1) (a0 :: op) D f h) (K : ∀ h', bS L (a0 + 46) op D (uf f 42 1 32) h' → tr (g h') Q) : tr (mm_qv (bd_X10_init a0 h) g) Q := by
  subst ha
  refine tr_v (p := fun h' => bS L (_ + 46) op D (uf f 42 1 32) h') ?_ (fun h' q => K h' q)
  unfold bd_X10_init
  refine bs_open S (by decide +kernel) (fun h S => ?_)
  refine ci_X9 rfl (opc ho) S (fun h S => ?_)
  refine bs_sr S (by decide +kernel) (by decide) (fun h S => ?_)
  refine bs_open S (by decide +kernel) (fun h S => ?_)
  refine bs_gr (b := 36) S (by decide +kernel) ⟨by decide, Or.inr (by simp)⟩ ?_
  refine ci_X1 rfl (opc ho) S (fun h S => ?_)
  refine bs_sr S (by decide +kernel) (by decide) (fun h S => ?_)
  refine bs_open S (by decide +kernel) (fun h S => ?_)
  refine ci_X8 rfl (opc ho) S (fun h S => ?_)
  refine bs_sr S (by decide +kernel) (by decide) (fun h S => ?_)
  refine bs_row (c := 600) S (by decide +kernel) (nop ho) rfl (by decide) (fun h S => ?_)
  refine bs_sr S (by decide +kernel) (by decide) (fun h S => ?_)
  refine bs_row (c := 600) S (by decide +kernel) (nop ho) rfl (by decide) (fun h S => ?_)
  refine bs_sr S (by decide +kernel) (by decide) (fun h S => ?_)
  refine bs_row (c := 123) S (by decide +kernel) (nop ho) rfl (by decide) (fun h S => ?_)
  refine bs_sr S (by decide +kernel) (by decide) (fun h S => ?_)
  refine bs_row (c := 123) S (by decide +kernel) (nop ho) rfl (by decide) (fun h S => ?_)
  refine bs_sr S (by decide +kernel) (by decide) (fun h S => ?_)
  refine bs_row (c := 32) S (by decide +kernel) (nop ho) rfl (by decide) (fun h S => ?_)
  refine bs_sr S (by decide +kernel) (by decide) (fun h S => ?_)
  refine bs_row (c := 32) S (by decide +kernel) (nop ho) rfl (by decide) (fun h S => ?_)
  refine bs_sr S (by decide +kernel) (by decide) (fun h S => ?_)
  refine bs_row (c := 32) S (by decide +kernel) (nop ho) rfl (by decide) (fun h S => ?_)
  refine bs_sr S (by decide +kernel) (by decide) (fun h S => ?_)
  refine bs_row (c := 16) S (by decide +kernel) (nop ho) rfl (by decide) (fun h S => ?_)
  refine bs_sr S (by decide +kernel) (by decide) (fun h S => ?_)
  exact tr_mk ⟨rfl, bS.close (ks := [10, 9, 8, 7, 6, 5, 4, 3, 2, 1, 0]) S (opn ho) (fu_n (by decide +kernel))⟩
theorem ci_X2 (ha : a0 = 151 ∨ a0 = 158 ∨ a0 = 253 ∨ a0 = 260 ∨ a0 = 355 ∨ a0 = 362 ∨ a0 = 457 ∨ a0 = 464) (ho : ∀ x ∈ op, x < a0) (S : bS L (a0 + 1) (a0 :: op) D f h) (z0 : f a0 = fun _ => 0) (K : ∀ h', bS L (a0 + 7) op D f h' → tr (g h') Q) : tr (mm_qv (bd_X2_init a0 h) g) Q := by
  rcases ha with rfl | rfl | rfl | rfl | rfl | rfl | rfl | rfl
  all_goals
    refine tr_v (p := fun h' => bS L (_ + 7) op D f h') ?_ (fun h' q => K h' q)
    unfold bd_X2_init
    refine bs_row (c := 32) S (by decide +kernel) (nop ho) rfl (by decide) (fun h S => ?_)
    refine bs_sr S (by decide +kernel) (by decide) (fun h S => ?_)
    refine bs_row (c := 32) S (by decide +kernel) (nop ho) rfl (by decide) (fun h S => ?_)
    refine bs_sr S (by decide +kernel) (by decide) (fun h S => ?_)
    refine bs_row (c := 12) S (by decide +kernel) (nop ho) rfl (by decide) (fun h S => ?_)
    refine bs_sr S (by decide +kernel) (by decide) (fun h S => ?_)
    refine bs_s0 S (by rw [z0]) (fun h S => ?_)
    refine bs_s0 S (by rw [z0]) (fun h S => ?_)
    exact tr_mk ⟨rfl, bS.close (ks := [2, 1, 0]) S (opn ho) (fu_n (by decide +kernel))⟩
theorem ci_X7 (ha : a0 = 165 ∨ a0 = 267 ∨ a0 = 369 ∨ a0 = 471) (ho : ∀ x ∈ op, x < a0) (S : bS L (a0 + 1) (a0 :: op) D f h) (K : ∀ h', bS L (a0 + 11) op D f h' → tr (g h') Q) : tr (mm_qv (bd_X7_init a0 39 h) g) Q := by
  rcases ha with rfl | rfl | rfl | rfl
  all_goals
    refine tr_v (p := fun h' => bS L (_ + 11) op D f h') ?_ (fun h' q => K h' q)
    unfold bd_X7_init
    refine bs_sr S (by decide +kernel) (by decide) (fun h S => ?_)
    refine bs_row (c := 32) S (by decide +kernel) (nop ho) rfl (by decide) (fun h S => ?_)
    refine bs_sr S (by decide +kernel) (by decide) (fun h S => ?_)
    refine bs_row (c := 32) S (by decide +kernel) (nop ho) rfl (by decide) (fun h S => ?_)
    refine bs_sr S (by decide +kernel) (by decide) (fun h S => ?_)
    refine bs_row (c := 32) S (by decide +kernel) (nop ho) rfl (by decide) (fun h S => ?_)
    refine bs_sr S (by decide +kernel) (by decide) (fun h S => ?_)
    refine bs_row (c := 32) S (by decide +kernel) (nop ho) rfl (by decide) (fun h S => ?_)
    refine bs_sr S (by decide +kernel) (by decide) (fun h S => ?_)
    refine bs_row (c := 32) S (by decide +kernel) (nop ho) rfl (by decide) (fun h S => ?_)
    refine bs_sr S (by decide +kernel) (by decide) (fun h S => ?_)
    exact tr_mk ⟨rfl, bS.close (ks := [5, 4, 2, 1, 0, 3]) S (opn ho) (fu_n (by decide +kernel))⟩
def dl (a : Nat) : Nat → List Nat
  | 0 => []
  | j + 1 => j :: dl a j
theorem dl_m {a : Nat} : ∀ {j k : Nat}, k < j → k ∈ dl a j
  | 0, _, h => absurd h (Nat.not_lt_zero _)
  | j + 1, k, h => by
    rw [dl, List.mem_cons]
    by_cases q : k = j
    · exact Or.inl q
    · exact Or.inr (dl_m (by omega))
theorem pb_r : ∀ j, j < 32 → roB (82 + 3 + 2 * j) 422 = true ∧ roB (184 + 3 + 2 * j) 422 = true ∧ roB (286 + 3 + 2 * j) 422 = true ∧ roB (388 + 3 + 2 * j) 422 = true := by decide +kernel
theorem pb_f : ∀ j, j < 32 → fR (82 + 2) j = some (82 + 3 + 2 * j) ∧ fR (184 + 2) j = some (184 + 3 + 2 * j) ∧ fR (286 + 2) j = some (286 + 3 + 2 * j) ∧ fR (388 + 2) j = some (388 + 3 + 2 * j) := by decide +kernel
theorem pb_n {k : Nat} (hb : sk_b b) (z : fR (b + 2) k ≠ none) : k < 32 := by
  unfold fR at z
  rw [if_pos (show sk_pa (b + 2) = true from by rcases hb with rfl | rfl | rfl | rfl <;> decide)] at z
  by_cases q : k < 32
  · exact q
  · rw [if_neg q] at z; exact absurd rfl z
theorem cl_X4 {ke : Nat → mm_H → mm_O} (hb : sk_b b) (ho : ∀ x ∈ op, x < b + 2) : ∀ (m j n : Nat) (h : mm_H), j + m = 32 → m < n → bS L (b + 3 + 2 * j) ((b + 2) :: op) ((dl 0 j).map (fun k => (b + 2, k)) ++ D) f h → (b + 1, 0) ∈ D → (b + 1) ∈ op → (∀ h', bS L (b + 67) op D f h' → tr (ke (b + 1) h') Q) → tr (lp_X4_init_15 ke n (b + 1) (nI j) h) Q := by
  intro m
  induction m with
  | zero =>
    intro j n h hj hn S d1 d2 K
    obtain ⟨n, rfl⟩ : ∃ k, n = k + 1 := ⟨n - 1, by omega⟩
    have : j = 32 := by omega
    subst this
    rw [lp_X4_init_15]
    refine tr_ip (by decide) (K h ?_)
    exact bS.close S (opn ho) (fun k z => dl_m (pb_n hb z))
  | succ m ih =>
    intro j n h hj hn S d1 d2 K
    obtain ⟨n, rfl⟩ : ∃ k, n = k + 1 := ⟨n - 1, by omega⟩
    rw [lp_X4_init_15]
    have b490 : b < 490 := by rcases hb with rfl | rfl | rfl | rfl <;> decide
    refine tr_in (show ¬ (32 : Int32) ≤ nI j from by rw [show ((32 : Int32)) = nI 32 from rfl, nI_leI (by omega) (by omega)]; omega) ?_
    refine bs_gr (b := b + 2) S (by rcases hb with rfl | rfl | rfl | rfl <;> decide +kernel) ⟨(by omega), Or.inr (List.mem_append_right _ d1)⟩ ?_
    have rj : roB (b + 3 + 2 * j) 422 = true := by
      have := pb_r j (by omega)
      rcases hb with rfl | rfl | rfl | rfl
      · exact this.1
      · exact this.2.1
      · exact this.2.2.1
      · exact this.2.2.2
    have fj : fR (b + 2) j = some (b + 3 + 2 * j) := by
      have := pb_f j (by omega)
      rcases hb with rfl | rfl | rfl | rfl
      · exact this.1
      · exact this.2.1
      · exact this.2.2.1
      · exact this.2.2.2
    refine bs_row (c := 422) S rj (nop ho (by omega)) rfl (by decide) (fun h S => ?_)
    refine tr_ip (dq_in (k := j) (n := 32) (S.ln (by omega) (by omega) (by rcases hb with rfl | rfl | rfl | rfl <;> decide +kernel)) rfl (by omega) (by decide)) ?_
    rw [rr_n (by omega)]
    refine bs_sr S fj (by omega) (fun h S => ?_)
    rw [nI_1]
    exact ih (j + 1) n h (by omega) (by omega) S d1 d2 K
theorem ci_X4 (ha : sk_b b) (ho : ∀ x ∈ op, x < b + 1) (S : bS L (b + 1 + 1) ((b + 1) :: op) D f h) (z0 : f (b + 1) = fun _ => 0) (K : ∀ h', bS L (b + 1 + 66) op D f h' → tr (g h') Q) : tr (mm_qv (bd_X4_init (b + 1) h) g) Q := by
  refine tr_v (p := fun h' => bS L (b + 1 + 66) op D f h') ?_ (fun h' q => K h' q)
  unfold bd_X4_init
  refine bs_open S (by rcases ha with rfl | rfl | rfl | rfl <;> decide +kernel) (fun h S => ?_)
  refine bs_sr S (by rcases ha with rfl | rfl | rfl | rfl <;> decide +kernel) (by omega) (fun h S => ?_)
  refine cl_X4 (D := (b + 1, 0) :: D) ha (opc ho (by omega)) 32 0 mm_fu h rfl (by unfold mm_fu; omega) S (List.mem_cons_self ..) (List.mem_cons_self ..) (fun h S => ?_)
  refine bs_s0 S (by rw [z0]) (fun h S => ?_)
  exact tr_mk ⟨rfl, bS.close (ks := [0]) S (opn ho) (fu_n (by rcases ha with rfl | rfl | rfl | rfl <;> decide +kernel))⟩
end CTS
