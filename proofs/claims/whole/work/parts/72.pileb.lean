/-! ===== Pile's methods, and End.send ===== -/
theorem pl_fx {a c : Nat} (ha : sk_pa a = true) (hc : sk_fx c = true) : c ≠ a := by
  intro e
  subst e
  have : c = 84 ∨ c = 186 ∨ c = 288 ∨ c = 390 := by
    unfold sk_pa at ha
    simp only [Bool.or_eq_true, beq_iff_eq] at ha
    omega
  rcases this with rfl | rfl | rfl | rfl <;> exact absurd hc (by decide +kernel)
theorem pl_pa {a : Nat} (ha : sk_pa a = true) : a = 84 ∨ a = 186 ∨ a = 288 ∨ a = 390 := by
  unfold sk_pa at ha
  simp only [Bool.or_eq_true, beq_iff_eq] at ha
  omega
section PLB
variable {L : Nat} {h : mm_H} {M M1 : Nat → List Int32} {I I1 : Nat → Nat → Int32} {P : Nat → Nat → Option Nat} {Z : Nat → List (List Int32)}
theorem mr_sr {a k c j : Nat} {v : Option Nat} (hc : c ≠ a) : mm_r (mm_sr h a k v) c j = mm_r h c j := by show (mm_sr h a k v).2.2.2 c j = _; rw [mm_sr_ne hc]; rfl
theorem cR.sr (C : cR L h M I P) {a k : Nat} {v : Option Nat} (ha : sk_pa a = true) : cR L (mm_sr h a k v) M I (va_up P a (va_up (P a) k v)) := by
  obtain ⟨c1, c2, ⟨M0, c3, c3'⟩, c4, c5⟩ := C
  have a1 := pl_pa ha
  have n36 : 36 ≠ a := by omega
  have n39 : 39 ≠ a := by omega
  refine ⟨⟨c1.1, c1.2.1, ?_, ?_⟩, fun c j hc => ?_, ⟨M0, ?_, c3'⟩, c4, fun c hc => ?_⟩
  · rw [mr_sr n36, mr_sr n36]; exact c1.2.2.1
  · rw [mr_sr n39, mr_sr n39, mr_sr n39, mr_sr n39, mr_sr n39, mr_sr n39, mr_sr n39]; exact c1.2.2.2
  · rw [mr_sr (pl_fx ha hc)]; exact c2 c j hc
  · intro r hk
    obtain ⟨g1, g2, g3, g4, g5, g6, g7, g8⟩ := c3 r hk
    refine ⟨?_, g2, g3, g4, g5, g6, g7, g8⟩
    rw [mr_sr]
    · exact g1
    · intro z
      subst z
      have hk' : mm_kd h r = 5 := hk
      have : mm_kd h r = 24 := by
        rcases a1 with rfl | rfl | rfl | rfl <;> exact sk_kd c1.1 (by decide +kernel)
      omega
  · by_cases q : c = a
    · subst q; rw [mm_sr_eq, vu_at, c5 c hc]
    · rw [mm_sr_ne q, vu_off q]; exact c5 c hc
variable {r o b : Nat} {f : mm_H → mm_O} {g : Int32 → mm_H → mm_O} {Q : Option Value → mm_H → Prop}
theorem pl_S.cg {z : List (List Int32)} (S : pl_S M I P b z) (e : I1 (b + 1) 1 = I (b + 1) 1) : pl_S M I1 P b z := by
  obtain ⟨s1, s2, s3⟩ := S
  exact ⟨e.trans s1, s2, s3⟩
theorem pl_S.oth {c : Nat} {p : Nat → Nat} {z : List (List Int32)} {k : Nat} {l : List Int32} (hb : sk_b b) (hc : sk_b c) (hne : c ≠ b) (H : pl_p b p) (hk : k < 32) (S : pl_S M I P c z) : pl_S (va_up M (p k) l) I P c z := by
  obtain ⟨s1, s2, q, s3, s4, s5⟩ := S
  refine ⟨s1, s2, q, s3, s4, fun j hj => ?_⟩
  rw [vu_off (fun e => hne (s3.d hc hb H (by omega) hk e))]
  exact s5 j hj
theorem pl_S.otP {c : Nat} {z : List (List Int32)} {F : Nat → Option Nat} (hne : c ≠ b) (S : pl_S M I P c z) : pl_S M I (va_up P (b + 2) F) c z := by
  obtain ⟨s1, s2, q, s3, s4, s5⟩ := S
  exact ⟨s1, s2, q, s3, fun k hk => by rw [vu_off (by omega)]; exact s4 k hk, s5⟩
theorem pl_g {l : List (List Int32)} {x : List Int32} {k : Nat} (h : k < l.length) : (l ++ [x]).getD k [] = l.getD k [] := by
  rw [List.getD_eq_getElem?_getD, List.getD_eq_getElem?_getD, List.getElem?_append_left h]
theorem pl_ge {l : List (List Int32)} {x : List Int32} : (l ++ [x]).getD l.length [] = x := by
  rw [List.getD_eq_getElem?_getD, List.getElem?_append_right (Nat.le_refl _), Nat.sub_self]; rfl
theorem cs_full {b : Nat} {z : List (List Int32)} (hb : sk_b b) (C : cR L h M I P) (S : pl_S M I P b z) : bd_X4_isFull (b + 1) h = some (some (.int (if z.length < 32 then 0 else 1)), h) := by
  unfold bd_X4_isFull
  rw [C.i (by rcases hb with rfl | rfl | rfl | rfl <;> decide +kernel), S.1]
  have s2 := S.2.1
  by_cases c : z.length < 32
  · rw [if_pos (by rw [show ((32 : Int32)) = nI 32 from rfl, nI_ltI (by omega) (by omega)]; exact c), if_pos c]
  · rw [if_neg (by rw [show ((32 : Int32)) = nI 32 from rfl, nI_ltI (by omega) (by omega)]; exact c), if_neg c]
theorem cs_add {fN : mm_H → mm_O} {fS : Nat → mm_H → mm_O} {z : List (List Int32)} (hb : sk_b b) (C : cR L h M I P) (S : pl_S M I P b z) (K0 : z.length = 32 → tr (fN h) Q) (K1 : ∀ h' p, z.length < 32 → pl_p b p → (∀ k, k < 32 → P (b + 2) k = some (p k)) → (∀ k, k < z.length → M (p k) = z.getD k []) → cR L h' (va_up M (p z.length) []) (va_up I (b + 1) (upd (I (b + 1)) 1 (nI (z.length + 1)))) P → tr (fS (p z.length) h') Q) : tr (mm_qa (bd_X4_add (b + 1) h) fN fS) Q := by
  unfold bd_X4_add
  rw [cs_full hb C S, mm_qi_s]
  obtain ⟨s1, s2, p, s3, s4, s5⟩ := S
  by_cases c : z.length < 32
  · rw [if_pos c, if_pos rfl]
    have f0 : sk_ref (b + 1) 0 = some (b + 2) := (by rcases hb with rfl | rfl | rfl | rfl <;> decide +kernel)
    have lb : mm_ln h (b + 2) = 32 := sk_ln C.1.1 (by omega) (by rcases hb with rfl | rfl | rfl | rfl <;> decide +kernel)
    have oi : sk_ob (b + 1) = true := (by rcases hb with rfl | rfl | rfl | rfl <;> decide +kernel)
    simp only [mm_gr, C.f f0, Option.bind_some, lb]
    rw [C.i oi, s1, if_pos (rr_in c (by omega)), rr_n (by omega), C.p (by rcases hb with rfl | rfl | rfl | rfl <;> decide +kernel), s4 _ c]
    simp only [Option.bind_some]
    have hr : sk_row (p z.length) = true := s3.u hb c
    obtain ⟨M0, R, e0⟩ := C.2.2.1
    obtain ⟨h', q, R', F⟩ := sp_X6_clear R (C.kd hr)
    have C' := C.up e0 R' F rfl
    rw [q, mm_qv_s]
    simp only [mm_bh]
    rw [mm_qa_s, C'.i oi, s1, show nI z.length + 1 = nI (z.length + 1) from nI_1 _]
    exact K1 _ p c s3 s4 s5 (C'.si oi)
  · rw [if_neg c, if_neg (by decide), mm_qa_n]
    exact K0 (by omega)
/-- a record in the open -/
def rc_p (x : Int32) (l : List Int32) : List Int32 := [x &&& 255] ++ [3] ++ [3] ++ rr_num (nI l.length) 2 ++ l
/-- a sealed record, before the sealing -/
def rc_b (x : Int32) (l : List Int32) : List Int32 := [23] ++ [3] ++ [3] ++ rr_num (nI (l.length + 17)) 2 ++ l ++ [x &&& 255]
def sd_I (I : Nat → Nat → Int32) (b : Nat) : Nat → Nat → Int32 := if I (b + 69) 4 = 0 then I else va_up I (b + 69) (upd (I (b + 69)) 3 (I (b + 69) 3 + 1))
def sd_r (M : Nat → List Int32) (I : Nat → Nat → Int32) (b : Nat) (x : Int32) (l : List Int32) : List Int32 := if I (b + 69) 4 = 0 then rc_p x l else sl_s (ch_i (M (b + 72)) (M (b + 74)) (I (b + 69) 3)) (rc_b x l)
theorem rc_p_ln (x : Int32) (l : List Int32) : (rc_p x l).length = l.length + 5 := by simp [rc_p, rr_num_len]; omega
theorem rc_b_ln (x : Int32) (l : List Int32) : (rc_b x l).length = l.length + 6 := by simp [rc_b, rr_num_len]; omega
theorem cs_pk (C : cR L h (va_up M r []) I P) (K : cR L h (va_up M r []) I P → tr (f h) Q) : tr (f h) Q := K C
/-- the head and the body of a record -/
theorem cs_rec {x y : Int32} (C : cR L h (va_up M r []) I P) (hr : sk_row r = true) (hc : sk_cap r = 422) (ho : sk_row o = true) (hne : r ≠ o) (hl : (M o).length ≤ 400) {k : mm_H → mm_O} (e : ∀ h', cR L h' (va_up M r ([x &&& 255] ++ [3] ++ [3])) I P → k h' = mm_qv (bd_X6_putNumber r y 2 h') (fun h29 => mm_qv (bd_X6_append r o h29) f)) (K : ∀ h', cR L h' (va_up M r ([x &&& 255] ++ [3] ++ [3] ++ rr_num y 2 ++ M o)) I P → tr (f h') Q) : tr (mm_qv (bd_X6_put r x h) (fun h14 => mm_qv (bd_X6_put r 3 h14) (fun h19 => mm_qv (bd_X6_put r 3 h19) k))) Q := by
  refine cs_put 422 C hr hc x (by rw [vu_at]; simp) (fun h1 C1 => ?_)
  rw [vu_uu, vu_at, List.nil_append] at C1
  refine cs_put 422 C1 hr hc 3 (by rw [vu_at]; simp) (fun h2 C2 => ?_)
  rw [vu_uu, vu_at, show (3 : Int32) &&& 255 = 3 from by decide] at C2
  refine cs_put 422 C2 hr hc 3 (by rw [vu_at]; simp) (fun h3 C3 => ?_)
  rw [vu_uu, vu_at, show (3 : Int32) &&& 255 = 3 from by decide] at C3
  rw [e h3 C3]
  refine cs_num 422 2 y C3 hr hc rfl (by decide) (by rw [vu_at]; simp) (fun h4 C4 => ?_)
  rw [vu_uu, vu_at] at C4
  refine cs_appendL 422 C4 hr hc ho hne (by rw [vu_at, vu_off (Ne.symm hne)]; simp [rr_num_len]; omega) (fun h5 C5 => ?_)
  rw [vu_uu, vu_at, vu_off (Ne.symm hne)] at C5
  exact K h5 C5
theorem ce_send {x : Int32} (hb : sk_b b) (E : cE L h M I Z) (ho : sk_nr o = true) (hl : (M o).length ≤ 400) (ly : I (b + 69) 4 ≠ 0 → (M (b + 72)).length = 32 ∧ (M (b + 74)).length = 12) (K0 : ∀ h', (I b 16 ≠ 0 ∨ (Z b).length = 32) → cE L h' M I Z → tr (g 0 h') Q) (K1 : ∀ h', I b 16 = 0 → (Z b).length < 32 → cE L h' M (sd_I I b) (va_up Z b (Z b ++ [sd_r M I b x (M o)])) → tr (g 1 h') Q) : tr (mm_qi (bd_X0_send b x o h) g) Q := by
  have E0 := E
  obtain ⟨M1, I1, P, C, e, i, p⟩ := E
  have S := p b hb
  have ob : sk_ob b = true := (by rcases hb with rfl | rfl | rfl | rfl <;> decide +kernel)
  have pb : sk_pp b = false := (by rcases hb with rfl | rfl | rfl | rfl <;> decide +kernel)
  have ok : sk_ob (b + 69) = true := (by rcases hb with rfl | rfl | rfl | rfl <;> decide +kernel)
  have pk : sk_pp (b + 69) = false := (by rcases hb with rfl | rfl | rfl | rfl <;> decide +kernel)
  have f0 : sk_ref b 0 = some (b + 1) := (by rcases hb with rfl | rfl | rfl | rfl <;> decide +kernel)
  have f2 : sk_ref b 2 = some (b + 69) := (by rcases hb with rfl | rfl | rfl | rfl <;> decide +kernel)
  have f6 : sk_ref b 6 = some 35 := (by rcases hb with rfl | rfl | rfl | rfl <;> decide +kernel)
  have g2 : sk_ref 35 2 = some 52 := (by decide +kernel)
  have y1 : sk_ref (b + 69) 1 = some (b + 72) := (by rcases hb with rfl | rfl | rfl | rfl <;> decide +kernel)
  have y2 : sk_ref (b + 69) 2 = some (b + 74) := (by rcases hb with rfl | rfl | rfl | rfl <;> decide +kernel)
  have ny : sk_nr (b + 72) = true := (by rcases hb with rfl | rfl | rfl | rfl <;> decide +kernel)
  have nz : sk_nr (b + 74) = true := (by rcases hb with rfl | rfl | rfl | rfl <;> decide +kernel)
  refine tr_qi (R := fun v h' => (v = some (.int 0) ∧ (I b 16 ≠ 0 ∨ (Z b).length = 32) ∧ cE L h' M I Z) ∨ (v = some (.int 1) ∧ I b 16 = 0 ∧ (Z b).length < 32 ∧ cE L h' M (sd_I I b) (va_up Z b (Z b ++ [sd_r M I b x (M o)])))) ?_ (fun v h' q => by
    rcases q with ⟨e, q1, q2⟩ | ⟨e, q1, q2, q3⟩
    · exact ⟨0, e, K0 h' q1 q2⟩
    · exact ⟨1, e, K1 h' q1 q2 q3⟩)
  unfold bd_X0_send
  rw [C.i ob, i b pb]
  by_cases c : I b 16 = 0
  · rw [if_pos c]
    simp only [mm_gr, C.f f0, Option.bind_some]
    refine cs_add hb C S (fun w => tr_mk (Or.inl ⟨rfl, Or.inr w, E0⟩)) (fun h1 q w s3 s4 s5 C1 => ?_)
    generalize hrr : q (Z b).length = r at C1
    have tr' : pl_r r = true := by rw [← hrr]; exact s3.t hb w
    have hr : sk_row r = true := by rw [← hrr]; exact s3.u hb w
    have hc : sk_cap r = 422 := by rw [← hrr]; exact s3.v hb w
    have hne : r ≠ o := fun z => by rw [z, nr_p ho] at tr'; exact absurd tr' (by decide)
    have hny : r ≠ b + 72 := fun z => by rw [z, nr_p ny] at tr'; exact absurd tr' (by decide)
    have hnz : r ≠ b + 74 := fun z => by rw [z, nr_p nz] at tr'; exact absurd tr' (by decide)
    -- how the state looks in the end
    have fin : ∀ (h' : mm_H) (I2 : Nat → Nat → Int32) (l : List Int32), cR L h' (va_up M1 r l) (va_up I2 (b + 1) (upd (I1 (b + 1)) 1 (nI ((Z b).length + 1)))) P → (∀ a, sk_pp a = false → I2 a = sd_I I b a) → (∀ c, sk_b c → I2 (c + 1) = I1 (c + 1)) → l = sd_r M I b x (M o) → cE L h' M (sd_I I b) (va_up Z b (Z b ++ [sd_r M I b x (M o)])) := by
      intro h' I2 l C2 i2 j2 el
      subst el
      refine ⟨_, _, P, C2, e.pl tr', fun a ha => ?_, fun d hd => ?_⟩
      · rw [vu_off (sk_pb hb ha)]; exact i2 a ha
      · by_cases cb : d = b
        · subst cb
          rw [vu_at]
          refine ⟨by rw [vu_at, upd_at]; simp, by simp; omega, q, s3, s4, fun k hk => ?_⟩
          rw [List.length_append, List.length_singleton] at hk
          by_cases kk : k = (Z d).length
          · subst kk; rw [hrr, vu_at, pl_ge]
          · rw [vu_off (fun z => kk (s3.2 k (Z d).length (by omega) w (by rw [z, hrr]))), pl_g (by omega)]
            exact s5 k (by omega)
        · rw [vu_off cb, ← hrr]
          refine ((p d hd).oth hb hd cb s3 w).cg ?_
          rw [vu_off (by unfold sk_b at hb hd; omega), j2 d hd]
    unfold jn_X0_send_18_1
    simp only [mm_gr, C1.f f2, Option.bind_some, mm_bi]
    have hh : mm_i h1 (b + 69) 4 = I (b + 69) 4 := by rw [C1.i ok, vu_off (Ne.symm (by omega)), i _ pk]
    rw [hh]
    have on : ∀ (h' : mm_H) (l : List Int32) (I2 : Nat → Nat → Int32), cR L h' (va_up M1 r l) I2 P → mm_i h' o 1 = nI (M o).length := fun h' l I2 C' => by rw [C'.n (nr_r ho), vu_off (Ne.symm hne), e.r ho]
    by_cases c2 : I (b + 69) 4 = 0
    · rw [if_pos c2]
      unfold jn_X0_send_46
      refine cs_rec (y := nI (M o).length) (f := fun h34 => if I (b + 69) 4 = 0 then some (some (.int 1), h34) else mm_qv (bd_X6_put r x h34) (fun h39 => mm_gr h39 b 6 (fun b44 => mm_gr h39 b44 2 (fun b46 => mm_gr h39 b 2 (fun b48 => mm_qv (bd_X8_seal b46 b48 r h39) (fun h50 => some (some (.int 1), h50))))))) C1 hr hc (nr_r ho) hne (by rw [e.r ho]; exact hl) (fun h' C' => ?_) (fun h' C' => ?_)
      · rw [if_pos c2, on h' _ _ C']; rfl
      · show tr (if I (b + 69) 4 = 0 then some (some (.int 1), h') else _) _
        rw [if_pos c2]
        refine tr_mk (Or.inr ⟨rfl, c, w, fin h' I1 _ C' (fun a ha => ?_) (fun _ _ => rfl) ?_⟩)
        · unfold sd_I; rw [if_pos c2]; exact i a ha
        · unfold sd_r rc_p; rw [if_pos c2, e.r ho]
    · rw [if_neg c2]
      unfold jn_X0_send_46
      refine cs_rec (y := nI ((M o).length + 17)) (f := fun h34 => if I (b + 69) 4 = 0 then some (some (.int 1), h34) else mm_qv (bd_X6_put r x h34) (fun h39 => mm_gr h39 b 6 (fun b44 => mm_gr h39 b44 2 (fun b46 => mm_gr h39 b 2 (fun b48 => mm_qv (bd_X8_seal b46 b48 r h39) (fun h50 => some (some (.int 1), h50))))))) C1 hr hc (nr_r ho) hne (by rw [e.r ho]; exact hl) (fun h' C' => ?_) (fun h' C' => ?_)
      · rw [if_neg c2, on h' _ _ C', show nI (M o).length + 1 + 16 = nI ((M o).length + 17) from by rw [nI_1, show ((16 : Int32)) = nI 16 from rfl, nI_add]]; rfl
      · show tr (if I (b + 69) 4 = 0 then some (some (.int 1), h') else _) _
        rw [if_neg c2]
        rw [show (23 : Int32) &&& 255 = 23 from by decide, e.r ho] at C'
        refine cs_put 422 C' hr hc x (by rw [vu_at]; simp [rr_num_len]; omega) (fun h2 C2 => ?_)
        rw [vu_uu, vu_at] at C2
        have C2' : cR L h2 (va_up M1 r (rc_b x (M o))) (va_up I1 (b + 1) (upd (I1 (b + 1)) 1 (nI ((Z b).length + 1)))) P := C2
        simp only [mm_gr, C2'.f f6, C2'.f g2, C2'.f f2, Option.bind_some]
        obtain ⟨l1, l2⟩ := ly c2
        refine cs_seal (c := 422) C2' hr hc ok y1 y2 (nr_r ny) (nr_r nz) (by rw [vu_off (Ne.symm hny), e.r ny]; exact l1) (by rw [vu_off (Ne.symm hnz), e.r nz]; exact l2) (by rw [vu_at, rc_b_ln]; omega) (by rw [vu_at, rc_b_ln]; omega) (by decide) (fun h3 C3 => ?_)
        have nb : b + 69 ≠ b + 1 := by omega
        rw [vu_uu, vu_off (Ne.symm hny), vu_off (Ne.symm hnz), vu_at, vu_off nb, e.r ny, e.r nz, i _ pk] at C3
        refine tr_mk (Or.inr ⟨rfl, c, w, fin h3 (sd_I I1 b) (sl_s (ch_i (M (b + 72)) (M (b + 74)) (I (b + 69) 3)) (rc_b x (M o))) ?_ (fun a ha => ?_) (fun c' hc' => ?_) ?_⟩)
        · have e9 : va_up (va_up I1 (b + 1) (upd (I1 (b + 1)) 1 (nI ((Z b).length + 1)))) (b + 69) (upd (I (b + 69)) 3 (I (b + 69) 3 + 1)) = va_up (sd_I I1 b) (b + 1) (upd (I1 (b + 1)) 1 (nI ((Z b).length + 1))) := by
            unfold sd_I
            rw [i _ pk, if_neg c2]
            funext a
            by_cases q1 : a = b + 69
            · subst q1; rw [vu_at, vu_off nb, vu_at]
            · rw [vu_off q1]
              by_cases q2 : a = b + 1
              · subst q2; rw [vu_at, vu_at]
              · rw [vu_off q2, vu_off q2, vu_off q1]
          rw [e9] at C3
          exact C3
        · unfold sd_I
          rw [i _ pk, if_neg c2, if_neg c2]
          by_cases q1 : a = b + 69
          · subst q1; rw [vu_at, vu_at]
          · rw [vu_off q1, vu_off q1]; exact i a ha
        · unfold sd_I
          rw [i _ pk, if_neg c2, vu_off (by unfold sk_b at hb hc'; omega)]
        · unfold sd_r; rw [if_neg c2]
  · rw [if_neg c]
    exact tr_mk (Or.inl ⟨rfl, Or.inl c, E0⟩)
end PLB
