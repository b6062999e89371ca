/-! ===== END.read: the frame, and what lies in it ===== -/
def rd_2 (l : List Int32) (k : Nat) : Int32 := if k + 1 < l.length then mm_shl (l.getD k 0) 8 ||| l.getD (k + 1) 0 else -1
/-- what is wrong with the frame -/
def rd_f (l : List Int32) : Int32 := if 5 ≤ l.length then (if rd_2 l 3 ≤ (if l.getD 0 0 = 23 then 16640 else 16384) then (if nI l.length = 5 + rd_2 l 3 then (if l.getD 1 0 = 3 then (if l.getD 2 0 = 3 then 0 else 70) else 70) else 50) else 22) else 50
/-- a change of ciphers that does no harm -/
def rd_c (l : List Int32) (st : Int32) : Prop := l.length = 6 ∧ l.getD 5 0 = 1 ∧ st ≠ 4 ∧ st ≠ 6
/-- how many of the first n bytes there are up to the last that is not zero -/
def rd_k (c : List Int32) : Nat → Nat
  | 0 => 0
  | n + 1 => if c.getD n 0 = 0 then rd_k c n else n + 1
theorem rd_k_le (c : List Int32) : ∀ n, rd_k c n ≤ n := by
  intro n
  induction n with
  | zero => exact Nat.le_refl _
  | succ n ih =>
    rw [rd_k]
    by_cases e : c.getD n 0 = 0
    · rw [if_pos e]; omega
    · rw [if_neg e]; omega
def rd_t (c : List Int32) : Int32 := if rd_k c c.length = 0 then -1 else c.getD (rd_k c c.length - 1) 0
def rd_i (c : List Int32) : List Int32 := c.take (rd_k c c.length - 1)
theorem rr_at_o {l : List Int32} {x : Int32} (h : x < 0) : rr_at l x = -1 := by unfold rr_at; rw [if_pos h]
section RDA
variable {L : Nat} {h h' : mm_H} {M : Nat → List Int32} {I : Nat → Nat → Int32} {s : sT} {Z : Nat → List (List Int32)}
variable {r o b : Nat} {f : mm_H → mm_O} {g : Int32 → mm_H → mm_O} {Q : Option Value → mm_H → Prop}
theorem ce_frame (E : cE L h M I Z) (K : tr (g (rd_f (M 65)) h) Q) : tr (mm_qi (bd_X0_lookAtFrame 65 h) g) Q := by
  refine tr_qi (R := fun v h' => v = some (.int (rd_f (M 65))) ∧ h' = h) ?_ (fun v h' q => ⟨_, q.1, by rw [q.2]; exact K⟩)
  have n65 : sk_nr 65 = true := (by decide +kernel)
  have le : (M 65).length ≤ 600 := E.le n65 (by decide +kernel)
  unfold bd_X0_lookAtFrame rd_f
  rw [E.n n65]
  by_cases c0 : 5 ≤ (M 65).length
  · rw [if_pos (by rw [show ((5 : Int32)) = nI 5 from rfl, nI_leI (by omega) (by omega)]; exact c0), if_pos c0]
    refine ce_twoAt E n65 3 rfl (by decide) ?_
    refine ce_at E n65 ?_
    rw [show rr_at (M 65) 0 = (M 65).getD 0 0 from rr_at_k (k := 0) (by omega) (by omega), show (if 3 + 1 < (M 65).length then mm_shl ((M 65).getD 3 0) 8 ||| (M 65).getD (3 + 1) 0 else -1) = rd_2 (M 65) 3 from rfl]
    have fin : ∀ y, tr (jn_X0_lookAtFrame_37 65 (rd_2 (M 65) 3) y (rd_2 (M 65) 3) h) (fun v h' => v = some (.int (if rd_2 (M 65) 3 ≤ y then (if nI (M 65).length = 5 + rd_2 (M 65) 3 then (if (M 65).getD 1 0 = 3 then (if (M 65).getD 2 0 = 3 then 0 else 70) else 70) else 50) else 22)) ∧ h' = h) := by
      intro y
      unfold jn_X0_lookAtFrame_37
      by_cases c1 : rd_2 (M 65) 3 ≤ y
      · rw [if_pos c1, if_pos c1, E.n n65]
        by_cases c2 : nI (M 65).length = 5 + rd_2 (M 65) 3
        · rw [if_pos c2, if_pos c2]
          refine ce_at E n65 ?_
          rw [show rr_at (M 65) 1 = (M 65).getD 1 0 from rr_at_k (k := 1) (by omega) (by omega)]
          by_cases c3 : (M 65).getD 1 0 = 3
          · rw [if_pos c3, if_pos c3]
            refine ce_at E n65 ?_
            rw [show rr_at (M 65) 2 = (M 65).getD 2 0 from rr_at_k (k := 2) (by omega) (by omega)]
            by_cases c4 : (M 65).getD 2 0 = 3
            · rw [if_pos c4, if_pos c4]; exact tr_mk ⟨rfl, rfl⟩
            · rw [if_neg c4, if_neg c4]; exact tr_mk ⟨rfl, rfl⟩
          · rw [if_neg c3, if_neg c3]; exact tr_mk ⟨rfl, rfl⟩
        · rw [if_neg c2, if_neg c2]; exact tr_mk ⟨rfl, rfl⟩
      · rw [if_neg c1, if_neg c1]; exact tr_mk ⟨rfl, rfl⟩
    by_cases c1 : (M 65).getD 0 0 = 23
    · rw [if_pos c1, if_pos c1]; exact fin _
    · rw [if_neg c1, if_neg c1]; exact fin _
  · rw [if_neg (by rw [show ((5 : Int32)) = nI 5 from rfl, nI_leI (by omega) (by omega)]; exact c0), if_neg c0]
    exact tr_mk ⟨rfl, rfl⟩
theorem ce_inner7 {ke : Nat → Int32 → mm_H → mm_O} (E : cE L h M I Z) : ∀ (m n : Nat), m ≤ (M 67).length → m < n → tr (ke 67 (nI (rd_k (M 67) m) - 1) h) Q → tr (lp_X0_takeInnerType_7 ke n 67 (nI m - 1) h) Q := by
  have n67 : sk_nr 67 = true := (by decide +kernel)
  have le : (M 67).length ≤ 600 := E.le n67 (by decide +kernel)
  intro m
  induction m with
  | zero =>
    intro n hm hn K
    obtain ⟨n, rfl⟩ : ∃ k, n = k + 1 := ⟨n - 1, by omega⟩
    rw [lp_X0_takeInnerType_7, if_pos (by decide)]
    exact K
  | succ m ih =>
    intro n hm hn K
    obtain ⟨n, rfl⟩ : ∃ k, n = k + 1 := ⟨n - 1, by omega⟩
    rw [nI_pred, lp_X0_takeInnerType_7, if_neg (nI_pos (by omega))]
    refine ce_at E n67 ?_
    rw [rr_at_k (by omega) (by omega)]
    rw [rd_k] at K
    by_cases c : (M 67).getD m 0 = 0
    · rw [if_pos c]
      rw [if_pos c] at K
      rw [show nI m + (-1) = nI m - 1 from by rw [Int32.sub_eq_add_neg]]
      exact ih n (by omega) (by omega) K
    · rw [if_neg c]
      rw [if_neg c, nI_pred] at K
      exact K
theorem ce_inner (E : cE L h M I Z) (K : ∀ h', cE L h' (va_up M 67 (rd_i (M 67))) I Z → tr (g (rd_t (M 67)) h') Q) : tr (mm_qi (bd_X0_takeInnerType 67 h) g) Q := by
  have n67 : sk_nr 67 = true := (by decide +kernel)
  have le : (M 67).length ≤ 600 := E.le n67 (by decide +kernel)
  refine tr_qi (R := fun v h' => v = some (.int (rd_t (M 67))) ∧ cE L h' (va_up M 67 (rd_i (M 67))) I Z) ?_ (fun v h' q => ⟨_, q.1, K h' q.2⟩)
  unfold bd_X0_takeInnerType
  rw [mm_bi, E.n n67]
  refine ce_inner7 E (M 67).length mm_fu (Nat.le_refl _) (by unfold mm_fu; omega) ?_
  have kl := rd_k_le (M 67) (M 67).length
  unfold rd_i rd_t
  refine ce_at E n67 ?_
  by_cases c : rd_k (M 67) (M 67).length = 0
  · rw [if_pos c, c, show nI 0 - 1 = -1 from by decide, rr_at_o (by decide)]
    exact ce_cut 0 E n67 (by decide) (by decide) (fun h' E' => tr_mk ⟨rfl, E'⟩)
  · rw [if_neg c]
    obtain ⟨k, hk⟩ : ∃ k, rd_k (M 67) (M 67).length = k + 1 := ⟨rd_k (M 67) (M 67).length - 1, by omega⟩
    rw [hk, nI_pred, rr_at_k (by omega) (by omega), if_neg (nI_pos (by omega)), Nat.add_sub_cancel]
    exact ce_cut k E n67 (by omega) rfl (fun h' E' => tr_mk ⟨rfl, E'⟩)
theorem ce_harm (hb : sk_b b) (E : cE L h M I Z) (K0 : ¬ rd_c (M 65) (I b 5) → tr (g 0 h) Q) (K1 : rd_c (M 65) (I b 5) → tr (g 1 h) Q) : tr (mm_qi (bd_X0_isHarmlessChange b 65 h) g) Q := by
  have n65 : sk_nr 65 = true := (by decide +kernel)
  have le : (M 65).length ≤ 600 := E.le n65 (by decide +kernel)
  refine tr_qi (R := fun v h' => h' = h ∧ ((v = some (.int 0) ∧ ¬ rd_c (M 65) (I b 5)) ∨ (v = some (.int 1) ∧ rd_c (M 65) (I b 5)))) ?_ (fun v h' q => by
    obtain ⟨rfl, q⟩ := q
    rcases q with ⟨e, q⟩ | ⟨e, q⟩
    · exact ⟨0, e, K0 q⟩
    · exact ⟨1, e, K1 q⟩)
  have no : ¬ rd_c (M 65) (I b 5) → tr (jn_X0_isHarmlessChange_22 b h) (fun v h' => h' = h ∧ ((v = some (.int 0) ∧ ¬ rd_c (M 65) (I b 5)) ∨ (v = some (.int 1) ∧ rd_c (M 65) (I b 5)))) := fun n => by
    unfold jn_X0_isHarmlessChange_22 jn_X0_isHarmlessChange_23
    exact tr_ip rfl (tr_mk ⟨rfl, Or.inl ⟨rfl, n⟩⟩)
  unfold bd_X0_isHarmlessChange
  rw [E.n n65]
  by_cases c1 : (M 65).length = 6
  · rw [if_pos (by rw [c1]; rfl)]
    refine ce_at E n65 ?_
    rw [show rr_at (M 65) 5 = (M 65).getD 5 0 from rr_at_k (k := 5) (by omega) (by omega)]
    by_cases c2 : (M 65).getD 5 0 = 1
    · rw [if_pos c2]
      unfold jn_X0_isHarmlessChange_23
      refine tr_in (by decide) ?_
      rw [E.i (by rcases hb with rfl | rfl | rfl | rfl <;> decide +kernel) (by rcases hb with rfl | rfl | rfl | rfl <;> decide +kernel)]
      by_cases c3 : I b 5 = 4
      · rw [if_pos c3]; exact tr_mk ⟨rfl, Or.inl ⟨rfl, fun z => z.2.2.1 c3⟩⟩
      · rw [if_neg c3]
        by_cases c4 : I b 5 = 6
        · rw [if_pos c4]; exact tr_mk ⟨rfl, Or.inl ⟨rfl, fun z => z.2.2.2 c4⟩⟩
        · rw [if_neg c4]; exact tr_mk ⟨rfl, Or.inr ⟨rfl, c1, c2, c3, c4⟩⟩
    · rw [if_neg c2]; exact no (fun z => c2 z.2.1)
  · rw [if_neg (by rw [show ((6 : Int32)) = nI 6 from rfl, nI_eq (by omega) (by omega)]; exact c1)]
    exact no (fun z => c1 z.1)
/-- what END b can open a record with -/
def rd_F (s : sT) (b : Nat) : Nat → Int32 := ch_i (s.1 (b + 79)) (s.1 (b + 81)) (s.2.1 (b + 76) 3)
def rd_o (s : sT) (b : Nat) (l : List Int32) : List Int32 := sl_o (rd_F s b) ((l.take (l.length - 16)).drop 5)
theorem upd_ne0 {I : Nat → Int32} {k : Nat} {v : Int32} : upd I k v k = v := upd_at
/-- unwrap: v = 0 where it brings content of type I b 12 -/
theorem co_unwrap (hb : sk_b b) (O : cO L h M I s) (h5 : 5 ≤ (M 65).length) (kr : kI s (b + 76)) (h01 : s.2.1 (b + 76) 4 = 0 ∨ s.2.1 (b + 76) 4 = 1)
    (KA : ∀ h' I', (M 65).getD 0 0 = 20 → rd_c (M 65) (s.2.1 b 5) → cO L h' M I' s → I' b 12 = 256 → tr (g 0 h') Q)
    (KB : ∀ h' I', (M 65).getD 0 0 = 20 → ¬ rd_c (M 65) (s.2.1 b 5) → cO L h' M I' s → tr (g 10 h') Q)
    (KC : ∀ h' I', (M 65).getD 0 0 ≠ 20 → ¬ ((M 65).getD 0 0 = 23 ↔ s.2.1 (b + 76) 4 = 1) → cO L h' M I' s → tr (g 10 h') Q)
    (KD : ∀ h' M' I', (M 65).getD 0 0 ≠ 20 → (M 65).getD 0 0 ≠ 23 → s.2.1 (b + 76) 4 = 0 → cO L h' M' I' s → M' 67 = (M 65).drop 5 → I' b 12 = (M 65).getD 0 0 → tr (g 0 h') Q)
    (KE : ∀ h' I', (M 65).getD 0 0 = 23 → s.2.1 (b + 76) 4 = 1 → ¬ sl_ok (rd_F s b) (M 65) → cO L h' M I' s → tr (g 20 h') Q)
    (KF : ∀ h' M' I', (M 65).getD 0 0 = 23 → s.2.1 (b + 76) 4 = 1 → sl_ok (rd_F s b) (M 65) → cO L h' M' I' (mI s (b + 76) 3 (s.2.1 (b + 76) 3 + 1)) → M' 67 = rd_i (rd_o s b (M 65)) → I' b 12 = rd_t (rd_o s b (M 65)) → tr (g (if rd_t (rd_o s b (M 65)) = -1 then 10 else 0) h') Q) : tr (mm_qi (bd_X0_unwrap b 65 h) g) Q := by
  have b1 : 82 ≤ b := by unfold sk_b at hb; omega
  have n65 : sk_nr 65 = true := (by decide +kernel)
  have le : (M 65).length ≤ 600 := O.1.le n65 (by decide +kernel)
  have ob : sk_ob b = true := (by rcases hb with rfl | rfl | rfl | rfl <;> decide +kernel)
  have pb : sk_pp b = false := (by rcases hb with rfl | rfl | rfl | rfl <;> decide +kernel)
  have o12 : ob_i b 12 = false := (by rcases hb with rfl | rfl | rfl | rfl <;> decide +kernel)
  have f3 : sk_ref b 3 = some (b + 76) := (by rcases hb with rfl | rfl | rfl | rfl <;> decide +kernel)
  have f6 : sk_ref b 6 = some 35 := (by rcases hb with rfl | rfl | rfl | rfl <;> decide +kernel)
  have g2 : sk_ref 35 2 = some 52 := (by decide +kernel)
  have g4 : sk_ref 35 4 = some 67 := (by decide +kernel)
  have ok : sk_ob (b + 76) = true := (by rcases hb with rfl | rfl | rfl | rfl <;> decide +kernel)
  have pk : sk_pp (b + 76) = false := (by rcases hb with rfl | rfl | rfl | rfl <;> decide +kernel)
  have oi4 : ob_i (b + 76) 4 = true := (by rcases hb with rfl | rfl | rfl | rfl <;> decide +kernel)
  have oi3 : ob_i (b + 76) 3 = true := (by rcases hb with rfl | rfl | rfl | rfl <;> decide +kernel)
  refine tr_qi (R := fun v h' => ∃ x, v = some (.int x) ∧ tr (g x h') Q) ?_ (fun v h' q => q)
  unfold bd_X0_unwrap
  refine ce_at O.1 n65 ?_
  rw [show rr_at (M 65) 0 = (M 65).getD 0 0 from rr_at_k (k := 0) (by omega) (by omega)]
  refine ce_si O.1 ob pb (fun h1 E1 => ?_)
  have O1 := O.g E1 o12
  have j12 : va_up I b (upd (I b) 12 ((M 65).getD 0 0)) b 12 = (M 65).getD 0 0 := by rw [vu_at, upd_at]
  generalize va_up I b (upd (I b) 12 ((M 65).getD 0 0)) = I1 at E1 O1 j12
  have i12 : mm_i h1 b 12 = (M 65).getD 0 0 := by rw [E1.i ob pb, j12]
  rw [i12]
  by_cases c1 : (M 65).getD 0 0 = 20
  · rw [if_pos c1]
    refine ce_si E1 ob pb (fun h2 E2 => ?_)
    have O2 := O1.g E2 o12
    have e5 : va_up I1 b (upd (I1 b) 12 256) b 5 = s.2.1 b 5 := O2.k (by rcases hb with rfl | rfl | rfl | rfl <;> decide +kernel)
    refine ce_harm hb E2 (fun w => ?_) (fun w => ?_)
    · rw [e5] at w
      exact tr_ip rfl (tr_mk ⟨10, rfl, KB h2 _ c1 w O2⟩)
    · rw [e5] at w
      refine tr_in (by decide) (tr_mk ⟨0, rfl, KA h2 _ c1 w O2 ?_⟩)
      rw [vu_at, upd_at]
  · rw [if_neg c1]
    refine tr_gr (O1.1.f f3) ?_
    have i4 : mm_i h1 (b + 76) 4 = s.2.1 (b + 76) 4 := O1.i ok oi4
    rw [i4]
    have bad : ∀ x : Int32, s.2.1 (b + 76) 4 ≠ x → ((M 65).getD 0 0 = 23 ∧ x = 1 ∨ (M 65).getD 0 0 ≠ 23 ∧ x = 0) → tr (jn_X0_unwrap_61 b 65 x (s.2.1 (b + 76) 4) h1) (fun v h' => ∃ x, v = some (.int x) ∧ tr (g x h') Q) := by
      intro x hx w
      unfold jn_X0_unwrap_61
      rw [if_neg hx]
      refine tr_mk ⟨10, rfl, KC h1 _ c1 (fun z => ?_) O1⟩
      rcases w with ⟨w1, w2⟩ | ⟨w1, w2⟩
      · exact hx (by rw [w2]; exact z.mp w1)
      · rcases h01 with e | e
        · exact hx (by rw [w2]; exact e)
        · exact w1 (z.mpr e)
    by_cases c2 : (M 65).getD 0 0 = 23
    · rw [if_pos c2]
      by_cases c3 : s.2.1 (b + 76) 4 = 1
      · unfold jn_X0_unwrap_61
        rw [if_pos c3]
        refine tr_gr (O1.1.f f3) ?_
        rw [i4, if_neg (by rw [c3]; decide)]
        simp only [mm_gr, O1.1.f f6, O1.1.f g2, O1.1.f f3, O1.1.f g4, Option.bind_some]
        obtain ⟨k1, k2⟩ := kr (by rw [c3]; decide)
        have m3 : M (b + 79) = s.1 (b + 79) := O1.r (by rcases hb with rfl | rfl | rfl | rfl <;> decide +kernel)
        have m5 : M (b + 81) = s.1 (b + 81) := O1.r (by rcases hb with rfl | rfl | rfl | rfl <;> decide +kernel)
        have eF : ch_i (M (b + 79)) (M (b + 81)) (I1 (b + 76) 3) = rd_F s b := by
          rw [m3, m5, O1.k oi3]; rfl
        have y1 : sk_ref (b + 76) 1 = some (b + 79) := (by rcases hb with rfl | rfl | rfl | rfl <;> decide +kernel)
        have y2 : sk_ref (b + 76) 2 = some (b + 81) := (by rcases hb with rfl | rfl | rfl | rfl <;> decide +kernel)
        have nn1 : sk_nr (b + 79) = true := (by rcases hb with rfl | rfl | rfl | rfl <;> decide +kernel)
        have nn2 : sk_nr (b + 81) = true := (by rcases hb with rfl | rfl | rfl | rfl <;> decide +kernel)
        refine ce_open O1.1 n65 (by decide +kernel) (by decide) le (by decide +kernel) ok pk y1 y2 nn1 nn2 (by rw [m3, k1]; exact ky_k_ln _) (by rw [m5, k2]; exact ky_n_ln _) (fun h2 w E2 => ?_) (fun h2 w E2 => ?_)
        · rw [eF] at w
          exact tr_ip rfl (tr_mk ⟨20, rfl, KE h2 _ c2 c3 w ⟨E2, O1.2⟩⟩)
        · rw [eF] at w E2
          rw [show I1 (b + 76) 3 = s.2.1 (b + 76) 3 from O1.k oi3] at E2
          have O2 : cO L h2 (va_up M 67 (rd_o s b (M 65))) (va_up I1 (b + 76) (upd (I1 (b + 76)) 3 (s.2.1 (b + 76) 3 + 1))) (mI s (b + 76) 3 (s.2.1 (b + 76) 3 + 1)) := by
            refine ⟨E2, fun q hq => ?_, fun a k hk => ?_⟩
            · rw [vu_off (fun e => by rw [e] at hq; exact absurd hq (by decide +kernel))]; exact O1.r hq
            · show _ = va_up s.2.1 (b + 76) (upd (s.2.1 (b + 76)) 3 (s.2.1 (b + 76) 3 + 1)) a k
              by_cases q1 : a = b + 76
              · subst q1
                rw [vu_at, vu_at]
                by_cases q2 : k = 3
                · subst q2; rw [upd_at, upd_at]
                · rw [upd_off q2, upd_off q2]; exact O1.k hk
              · rw [vu_off q1, vu_off q1]; exact O1.k hk
          refine tr_in (by decide) ?_
          simp only [O2.1.f f6, O2.1.f g4, Option.bind_some]
          refine ce_inner O2.1 (fun h3 E3 => ?_)
          rw [vu_uu, vu_at] at E3
          refine ce_si E3 ob pb (fun h4 E4 => ?_)
          have O3 : cO L h4 _ _ (mI s (b + 76) 3 (s.2.1 (b + 76) 3 + 1)) := cO.g (h := h3) (M := va_up M 67 (rd_i (rd_o s b (M 65)))) ⟨E3, fun q hq => by
            rw [vu_off (fun e => by rw [e] at hq; exact absurd hq (by decide +kernel))]; exact O1.r hq, O2.2.2⟩ E4 o12
          rw [E4.i ob pb]
          rw [show ∀ (F : Nat → Nat → Int32) (w : Int32), va_up F b (upd (F b) 12 w) b 12 = w from fun F w => by rw [vu_at, upd_at], vu_at]
          have fin := fun e1 e2 => KF h4 _ _ c2 c3 w O3 e1 e2
          by_cases c4 : rd_t (rd_o s b (M 65)) = -1
          · rw [if_pos c4]
            refine tr_mk ⟨10, rfl, ?_⟩
            have := fin (by rw [vu_at]) (by rw [vu_at, upd_at, vu_at])
            rw [if_pos c4] at this
            exact this
          · rw [if_neg c4]
            refine tr_mk ⟨0, rfl, ?_⟩
            have := fin (by rw [vu_at]) (by rw [vu_at, upd_at, vu_at])
            rw [if_neg c4] at this
            exact this
      · exact bad 1 c3 (Or.inl ⟨c2, rfl⟩)
    · rw [if_neg c2]
      by_cases c3 : s.2.1 (b + 76) 4 = 0
      · unfold jn_X0_unwrap_61
        rw [if_pos c3]
        refine tr_gr (O1.1.f f3) ?_
        rw [i4, if_pos c3]
        simp only [mm_gr, O1.1.f f6, O1.1.f g4, Option.bind_some]
        rw [E1.n n65]
        refine ce_copyPart 600 5 (M 65).length E1 (by decide +kernel) (by decide +kernel) n65 (by decide) (by omega) (by decide) rfl rfl (fun h2 E2 => ?_)
        rw [List.take_length, List.take_of_length_le (by rw [List.length_drop]; omega)] at E2
        have O2 := O1.t E2 (by decide +kernel)
        refine tr_mk ⟨0, rfl, KD h2 _ _ c1 c2 c3 O2 vu_at j12⟩
      · exact bad 0 c3 (Or.inr ⟨c2, rfl⟩)
end RDA
