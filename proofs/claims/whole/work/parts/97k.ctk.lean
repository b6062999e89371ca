/-! ===== the ENDS' constructor, and the class's ===== -/
section CTK
variable {L : Nat} {D : List (Nat × Nat)} {f : Nat → Nat → Int32} {h : mm_H} {Q : Option Value → mm_H → Prop} {a0 b : Nat} {g : mm_H → mm_O}
def u3 (f : Nat → Nat → Int32) (b : Nat) : Nat → Nat → Int32 := uf (uf (uf f b 12 256) b 14 (-1)) b 15 (-1)
theorem ci_X0 (ha : sk_b b) (S : bS L (b + 1) [b, 81, 32] D f h) (z0 : f b = fun _ => 0) (K : ∀ h', bS L (b + 102) [81, 32] D (u3 f b) h' → tr (g h') Q) : tr (mm_qv (bd_X0_init b 35 h) g) Q := by
  have ho : ∀ x ∈ [81, 32], x < b := by rcases ha with rfl | rfl | rfl | rfl <;> decide
  have zz : ∀ a, b < a → f a = fun _ => 0 := S.2.2.2.1
  rcases ha with rfl | rfl | rfl | rfl
  all_goals
    refine tr_v (p := fun h' => bS L (_ + 102) [81, 32] D (u3 f _) h') ?_ (fun h' q => K h' q)
    unfold bd_X0_init
    refine bs_sr S (by decide +kernel) (by decide) (fun h S => ?_)
    refine bs_open S (by decide +kernel) (fun h S => ?_)
    refine ci_X4 (by unfold sk_b; decide) (opc ho) S (zz _ (by decide)) (fun h S => ?_)
    refine bs_sr S (by decide +kernel) (by decide) (fun h S => ?_)
    refine bs_row (c := 2000) S (by decide +kernel) (nop ho) rfl (by decide) (fun h S => ?_)
    refine bs_sr S (by decide +kernel) (by decide) (fun h S => ?_)
    refine bs_open S (by decide +kernel) (fun h S => ?_)
    refine ci_X2 (by decide) (opc ho) S (zz _ (by decide)) (fun h S => ?_)
    refine bs_sr S (by decide +kernel) (by decide) (fun h S => ?_)
    refine bs_open S (by decide +kernel) (fun h S => ?_)
    refine ci_X2 (by decide) (opc ho) S (zz _ (by decide)) (fun h S => ?_)
    refine bs_sr S (by decide +kernel) (by decide) (fun h S => ?_)
    refine bs_open S (by decide +kernel) (fun h S => ?_)
    refine bs_gr (b := 39) S (by decide +kernel) ⟨by decide, Or.inl (by decide)⟩ ?_
    refine ci_X7 (by decide) (opc ho) S (fun h S => ?_)
    refine bs_sr S (by decide +kernel) (by decide) (fun h S => ?_)
    refine bs_row (c := 64) S (by decide +kernel) (nop ho) rfl (by decide) (fun h S => ?_)
    refine bs_sr S (by decide +kernel) (by decide) (fun h S => ?_)
    refine bs_row (c := 16) S (by decide +kernel) (nop ho) rfl (by decide) (fun h S => ?_)
    refine bs_sr S (by decide +kernel) (by decide) (fun h S => ?_)
    refine bs_row (c := 32) S (by decide +kernel) (nop ho) rfl (by decide) (fun h S => ?_)
    refine bs_sr S (by decide +kernel) (by decide) (fun h S => ?_)
    refine bs_row (c := 278) S (by decide +kernel) (nop ho) rfl (by decide) (fun h S => ?_)
    refine bs_sr S (by decide +kernel) (by decide) (fun h S => ?_)
    refine bs_s0 S (by rw [z0]) (fun h S => ?_)
    refine bs_s0 S (by rw [z0]) (fun h S => ?_)
    refine bs_si S (by decide) (fun h S => ?_)
    refine bs_s0 S (by rw [uf_k (by decide), z0]) (fun h S => ?_)
    refine bs_si S (by decide) (fun h S => ?_)
    refine bs_si S (by decide) (fun h S => ?_)
    refine bs_s0 S (by rw [uf_k (by decide), uf_k (by decide), uf_k (by decide), z0]) (fun h S => ?_)
    refine bs_s0 S (by rw [uf_k (by decide), uf_k (by decide), uf_k (by decide), z0]) (fun h S => ?_)
    exact tr_mk ⟨rfl, bS.close (ks := [11, 10, 9, 8, 7, 3, 2, 1, 0, 6]) S (opn ho) (fu_n (by decide +kernel))⟩
theorem cl_X11 {ke : Nat → mm_H → mm_O} {j n : Nat} (hj : j < 4) (S : bS L (82 + 102 * j) [81, 32] ((dl 0 j).map (fun k => (81, k)) ++ D) f h) (d1 : (32, 1) ∈ D) (d2 : (32, 2) ∈ D) (K : ∀ h', bS L (82 + 102 * (j + 1)) [81, 32] ((dl 0 (j + 1)).map (fun k => (81, k)) ++ D) (u3 f (82 + 102 * j)) h' → tr (lp_X11_init_39 ke n 32 (nI (j + 1)) h') Q) : tr (lp_X11_init_39 ke (n + 1) 32 (nI j) h) Q := by
  have z0 := S.2.2.2.1 _ (Nat.le_refl _)
  have hb := sk_bk hj
  rw [lp_X11_init_39]
  refine tr_in (show ¬ (4 : Int32) ≤ nI j from by rw [show ((4 : Int32)) = nI 4 from rfl, nI_leI (by omega) (by omega)]; omega) ?_
  refine bs_gr (b := 81) S (by decide +kernel) ⟨(by omega), Or.inr (List.mem_append_right _ d1)⟩ ?_
  refine bs_open S (by rcases (by omega : j = 0 ∨ j = 1 ∨ j = 2 ∨ j = 3) with rfl | rfl | rfl | rfl <;> decide +kernel) (fun h S => ?_)
  refine bs_gr (b := 35) S (by decide +kernel) ⟨(by omega), Or.inr (List.mem_append_right _ d2)⟩ ?_
  refine ci_X0 hb S z0 (fun h S => ?_)
  refine tr_ip (dq_in (k := j) (n := 4) (S.ln (by decide) (by omega) (by decide +kernel)) rfl hj (by decide)) ?_
  rw [rr_n (by omega)]
  refine bs_sr S (by rcases (by omega : j = 0 ∨ j = 1 ∨ j = 2 ∨ j = 3) with rfl | rfl | rfl | rfl <;> decide +kernel) (by omega) (fun h S => ?_)
  rw [nI_1]
  exact K h S
def fC (f : Nat → Nat → Int32) : Nat → Nat → Int32 := u3 (u3 (u3 (u3 (uf f 42 1 32) 82) 184) 286) 388
theorem ci_X11 (S : bS L 33 [32] [] f h) (z0 : f 32 = fun _ => 0) (K : ∀ h', bS L 490 [] [] (fC f) h' → tr (g h') Q) : tr (mm_qv (bd_X11_init 32 h) g) Q := by
  refine tr_v (p := fun h' => bS L 490 [] [] (fC f) h') ?_ (fun h' q => K h' q)
  have ho : ∀ x ∈ ([] : List Nat), x < 32 := fun x hx => absurd hx (by simp)
  unfold bd_X11_init
  refine bs_row (c := 600) S (by decide +kernel) (nop ho) rfl (by decide) (fun h S => ?_)
  refine bs_sr S (by decide +kernel) (by decide) (fun h S => ?_)
  refine bs_open S (by decide +kernel) (fun h S => ?_)
  refine ci_X10 rfl (opc ho) S (fun h S => ?_)
  refine bs_sr S (by decide +kernel) (by decide) (fun h S => ?_)
  refine bs_open S (by decide +kernel) (fun h S => ?_)
  refine bs_sr S (by decide +kernel) (by decide) (fun h S => ?_)
  rw [show mm_fu = 99995 + 1 + 1 + 1 + 1 + 1 from rfl]
  refine cl_X11 (j := 0) (D := [(32, 1), (32, 2), (32, 0)]) (by decide) S (by simp) (by simp) (fun h S => ?_)
  refine cl_X11 (j := 1) (D := [(32, 1), (32, 2), (32, 0)]) (by decide) S (by simp) (by simp) (fun h S => ?_)
  refine cl_X11 (j := 2) (D := [(32, 1), (32, 2), (32, 0)]) (by decide) S (by simp) (by simp) (fun h S => ?_)
  refine cl_X11 (j := 3) (D := [(32, 1), (32, 2), (32, 0)]) (by decide) S (by simp) (by simp) (fun h S => ?_)
  rw [lp_X11_init_39]
  refine tr_ip (by decide) ?_
  have S' := bS.close (ks := dl 0 4) S (by decide) (fu_n (by decide +kernel))
  refine bs_s0 S' ?_ (fun h S => ?_)
  · unfold u3
    rw [uf_o (by decide), uf_o (by decide), uf_o (by decide), uf_o (by decide), uf_o (by decide), uf_o (by decide), uf_o (by decide), uf_o (by decide), uf_o (by decide), uf_o (by decide), uf_o (by decide), uf_o (by decide), uf_o (by decide), z0]
  · exact tr_mk ⟨rfl, bS.close (ks := [1, 2, 0]) S (by decide) (fu_n (by decide +kernel))⟩
end CTK
