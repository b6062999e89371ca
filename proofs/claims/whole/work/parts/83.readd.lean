/-! ===== END.read, whole ===== -/
section RDD
variable {L : Nat} {h h' : mm_H} {M : Nat → List Int32} {I : Nat → Nat → Int32} {s : sT} {Z : Nat → List (List Int32)}
variable {r o b : Nat} {f : mm_H → mm_O} {g : Int32 → mm_H → mm_O} {Q : Option Value → mm_H → Prop}
/-- no proof is wanted for this task -/
theorem co_free (hb : sk_b b) (O : cO L h M I s) (h40 : s.1 40 = []) (n1 : I b 13 ≠ 1) (n20 : I b 13 ≠ 20) (K : ∀ h' M', cO L h' M' I s → M' 67 = M 67 → tr (jn_X0_read_62 b 0 h') Q) : tr (jn_X0_read_48 b 0 h) Q := by
  unfold jn_X0_read_48
  rw [if_pos rfl]
  refine co_proven hb O h40 (fun e => absurd e n1) (fun e => absurd e n20) (fun h' M' O' e' => ?_)
  rw [if_pos (show rd_p s b (I b 13) (M 67) = true from by unfold rd_p; rw [if_neg n1, if_neg n20]), if_neg (by decide)]
  exact K h' M' O' e'
theorem co_body (hb : sk_b b) (O : cO L h M I s) (i : iR s b) : tr (jn_X0_read_39 b 0 h) (fun v h' => v = none ∧ ∃ M' I', cO L h' M' I' (mBody s b (I b 12) (M 67))) := by
  have b1 : 82 ≤ b := by unfold sk_b at hb; omega
  have n67 : sk_nr 67 = true := (by decide +kernel)
  have le : (M 67).length ≤ 600 := O.1.le n67 (by decide +kernel)
  have ob : sk_ob b = true := (by rcases hb with rfl | rfl | rfl | rfl <;> decide +kernel)
  have pb : sk_pp b = false := (by rcases hb with rfl | rfl | rfl | rfl <;> decide +kernel)
  have o13 : ob_i b 13 = false := (by rcases hb with rfl | rfl | rfl | rfl <;> decide +kernel)
  have f1 : sk_ref b 1 = some (b + 67) := (by rcases hb with rfl | rfl | rfl | rfl <;> decide +kernel)
  have f6 : sk_ref b 6 = some 35 := (by rcases hb with rfl | rfl | rfl | rfl <;> decide +kernel)
  have g4 : sk_ref 35 4 = some 67 := (by decide +kernel)
  have i1 := i.1
  have ky := i.2.1
  unfold jn_X0_read_39
  rw [if_pos rfl]
  refine tr_qi (R := fun v h' => ∃ x, v = some (.int x) ∧ tr (jn_X0_read_48 b x h') (fun v h' => v = none ∧ ∃ M' I', cO L h' M' I' (mBody s b (I b 12) (M 67)))) ?_ (fun v h' q => q)
  unfold bd_X0_lookAtContent
  refine ce_si O.1 ob pb (fun h1 E1 => ?_)
  have O1 := O.g E1 o13
  have j13 : va_up I b (upd (I b) 13 0) b 13 = 0 := by rw [vu_at, upd_at]
  have j12 : va_up I b (upd (I b) 13 0) b 12 = I b 12 := by rw [vu_at, upd_off (by decide)]
  generalize va_up I b (upd (I b) 13 0) = I1 at E1 O1 j13 j12
  rw [E1.i ob pb, j12]
  unfold mBody
  by_cases c1 : I b 12 = 21
  · rw [if_pos c1, if_pos c1]
    refine ce_si E1 ob pb (fun h2 E2 => ?_)
    have O2 := O1.g E2 o13
    have j13 : va_up I1 b (upd (I1 b) 13 256) b 13 = 256 := by rw [vu_at, upd_at]
    generalize va_up I1 b (upd (I1 b) 13 256) = I2 at E2 O2 j13
    simp only [mm_gr, E2.f f6, E2.f g4, Option.bind_some]
    rw [E2.n n67]
    by_cases c2 : (M 67).length = 2
    · rw [if_pos c2, if_pos (by rw [c2]; rfl)]
      refine tr_mk ⟨0, rfl, ?_⟩
      refine co_free hb O2 i1 (by rw [j13]; decide) (by rw [j13]; decide) (fun h3 M3 O3 e3 => ?_)
      unfold jn_X0_read_62
      rw [if_pos rfl, O3.1.i ob pb, j13, if_neg (by decide), if_neg (by decide), if_neg (by decide), if_neg (by decide), if_neg (by decide), if_pos rfl]
      refine co_heed hb O3 (by rw [e3]; exact c2) (fun h4 I4 O4 => tr_mk ⟨rfl, M3, I4, ?_⟩)
      rw [e3] at O4; exact O4
    · rw [if_neg c2, if_neg (by rw [show ((2 : Int32)) = nI 2 from rfl, nI_eq (by omega) (by omega)]; exact c2)]
      exact tr_mk ⟨50, rfl, co_no48 hb O2 ky (by decide)⟩
  · rw [if_neg c1, if_neg c1]
    by_cases c2 : I b 12 = 22
    · rw [if_pos c2, if_pos c2]
      simp only [mm_gr, E1.f f6, E1.f g4, Option.bind_some]
      unfold mMsg
      refine co_msg hb O1 (fun h2 I2 w O2 => ?_) (fun h2 I2 w w2 O2 => ?_) (fun h2 M2 I2 w w2 O2 e2 e3 => ?_)
      · unfold rd_w at w
        rw [if_neg w]
        exact tr_mk ⟨50, rfl, co_no48 hb O2 ky (by decide)⟩
      · unfold rd_w at w
        rw [if_pos w, if_neg w2]
        exact tr_mk ⟨10, rfl, co_no48 hb O2 ky (by decide)⟩
      · unfold rd_w at w
        rw [if_pos w, if_pos w2]
        by_cases c3 : rd_m s b (M 67) = 0
        · rw [if_pos c3]
          refine tr_mk ⟨_, rfl, ?_⟩
          rw [c3]
          unfold jn_X0_read_48
          rw [if_pos rfl]
          refine co_proven hb O2 i1 (fun e => ?_) (fun e => ?_) (fun h3 M3 O3 e3' => ?_)
          · rw [e2]
            rw [e3] at e
            have c3' := c3
            unfold rd_m at c3'
            rw [if_pos e] at c3'
            have := rd_ch_ln c3'
            omega
          · rw [e2]
            rw [e3] at e
            have c3' := c3
            unfold rd_m at c3'
            rw [if_neg (by rw [e]; decide), if_neg (by rw [e]; decide), if_neg (by rw [e]; decide), if_pos e] at c3'
            by_cases l6 : (M 67).length = 36
            · omega
            · rw [if_neg l6] at c3'; exact absurd c3' (by decide)
          · rw [e3, e2]
            have e37 : M3 67 = M 67 := e3'.trans e2
            by_cases c4 : rd_p s b ((M 67).getD 0 0) (M 67) = true
            · rw [if_pos c4, if_pos c4, if_neg (by decide)]
              have := co_go hb O3 i (by rw [e37]; exact w2) (by rw [e37]; exact c3) (by rw [e37]; exact e3)
              rw [e37] at this
              exact this
            · rw [if_neg c4, if_neg c4, if_pos rfl]
              exact co_no62 hb O3 ky (by decide)
        · rw [if_neg c3]
          exact tr_mk ⟨_, rfl, co_no48 hb O2 ky c3⟩
    · rw [if_neg c2, if_neg c2]
      by_cases c3 : I b 12 = 23
      · rw [if_pos c3, if_pos c3]
        refine ce_si E1 ob pb (fun h2 E2 => ?_)
        have O2 := O1.g E2 o13
        have j13 : va_up I1 b (upd (I1 b) 13 257) b 13 = 257 := by rw [vu_at, upd_at]
        generalize va_up I1 b (upd (I1 b) 13 257) = I2 at E2 O2 j13
        rw [O2.i ob (by rcases hb with rfl | rfl | rfl | rfl <;> decide +kernel)]
        by_cases c4 : s.2.1 b 5 = 6
        · rw [if_pos c4, if_pos c4]
          refine tr_mk ⟨0, rfl, ?_⟩
          refine co_free hb O2 i1 (by rw [j13]; decide) (by rw [j13]; decide) (fun h3 M3 O3 e3 => ?_)
          unfold jn_X0_read_62
          rw [if_pos rfl, O3.1.i ob pb, j13, if_neg (by decide), if_neg (by decide), if_neg (by decide), if_neg (by decide), if_neg (by decide), if_neg (by decide), if_pos rfl]
          simp only [mm_gr, O3.1.f f1, O3.1.f f6, O3.1.f g4, Option.bind_some]
          refine co_append 2000 O3 (by rcases hb with rfl | rfl | rfl | rfl <;> decide +kernel) (by rcases hb with rfl | rfl | rfl | rfl <;> decide +kernel) (by decide +kernel) (by omega) (fun h4 O4 => tr_mk ⟨rfl, va_up M3 (b + 67) ((M3 (b + 67) ++ M3 67).take 2000), I2, ?_⟩)
          rw [e3] at O4 ⊢; exact O4
        · rw [if_neg c4, if_neg c4]
          exact tr_mk ⟨10, rfl, co_no48 hb O2 ky (by decide)⟩
      · rw [if_neg c3, if_neg c3]
        by_cases c4 : I b 12 = 256
        · rw [if_pos c4, if_pos c4]
          refine tr_mk ⟨0, rfl, ?_⟩
          refine co_free hb O1 i1 (by rw [j13]; decide) (by rw [j13]; decide) (fun h3 M3 O3 e3 => ?_)
          unfold jn_X0_read_62
          rw [if_pos rfl, O3.1.i ob pb, j13, if_neg (by decide), if_neg (by decide), if_neg (by decide), if_neg (by decide), if_neg (by decide), if_neg (by decide), if_neg (by decide)]
          exact tr_mk ⟨rfl, M3, I1, O3⟩
        · rw [if_neg c4, if_neg c4]
          exact tr_mk ⟨10, rfl, co_no48 hb O1 ky (by decide)⟩
theorem co_read {l : List Int32} (hb : sk_b b) (O : cO L h M I s) (hl : M 65 = l) (i : s.2.1 b 5 ≠ 0 → s.2.1 b 5 ≠ 7 → iR s b) (K : ∀ h' M' I', cO L h' M' I' (mRead s b l) → tr (f h') Q) : tr (mm_qv (bd_X0_read b 65 h) f) Q := by
  have b1 : 82 ≤ b := by unfold sk_b at hb; omega
  have ob : sk_ob b = true := (by rcases hb with rfl | rfl | rfl | rfl <;> decide +kernel)
  refine tr_v (p := fun h' => ∃ M' I', cO L h' M' I' (mRead s b l)) ?_ (fun h' q => by obtain ⟨M', I', q⟩ := q; exact K h' M' I' q)
  unfold bd_X0_read mRead
  rw [O.i ob (by rcases hb with rfl | rfl | rfl | rfl <;> decide +kernel), O.i ob (by rcases hb with rfl | rfl | rfl | rfl <;> decide +kernel)]
  by_cases c0 : s.2.1 b 5 = 0
  · rw [if_pos c0, if_pos c0]; exact tr_mk ⟨rfl, M, I, O⟩
  · rw [if_neg c0, if_neg c0]
    by_cases c7 : s.2.1 b 5 = 7
    · rw [if_pos c7, if_pos c7]; exact tr_mk ⟨rfl, M, I, O⟩
    · rw [if_neg c7, if_neg c7]
      have i := i c0 c7
      have ky := i.2.1
      by_cases c17 : s.2.1 b 17 = 0
      · rw [if_pos c17, if_pos c17]
        refine ce_frame O.1 ?_
        rw [hl]
        by_cases cf : rd_f l = 0
        · rw [if_pos cf, if_pos cf]
          have l5 : 5 ≤ (M 65).length := by
            rw [hl]
            unfold rd_f at cf
            by_cases c : 5 ≤ l.length
            · exact c
            · rw [if_neg c] at cf; exact absurd cf (by decide)
          subst hl
          refine co_unwrap hb O l5 i.2.2.1 i.2.2.2.1 (fun h1 I1 w1 w2 O1 e1 => ?_) (fun h1 I1 w1 w2 O1 => ?_) (fun h1 I1 w1 w2 O1 => ?_) (fun h1 M1 I1 w1 w2 w3 O1 e1 e2 => ?_) (fun h1 I1 w1 w2 w3 O1 => ?_) (fun h1 M1 I1 w1 w2 w3 O1 e1 e2 => ?_)
          · rw [if_pos w1]
            unfold rd_c at w2
            rw [if_pos w2]
            have := co_body hb O1 i
            rw [e1] at this
            unfold mBody at this
            rw [if_neg (by decide), if_neg (by decide), if_neg (by decide), if_pos rfl] at this
            exact this
          · rw [if_pos w1]
            unfold rd_c at w2
            rw [if_neg w2]
            exact co_no39 hb O1 ky (by decide)
          · rw [if_neg w1, if_neg w2]
            exact co_no39 hb O1 ky (by decide)
          · rw [if_neg w1, if_pos (show (M 65).getD 0 0 = 23 ↔ s.2.1 (b + 76) 4 = 1 from ⟨fun z => absurd z w2, fun z => by rw [w3] at z; exact absurd z (by decide)⟩), if_neg w2]
            have := co_body hb O1 i
            rw [e1, e2] at this
            exact this
          · rw [if_neg (show ¬ (M 65).getD 0 0 = 20 from by rw [w1]; decide), if_pos (show (M 65).getD 0 0 = 23 ↔ s.2.1 (b + 76) 4 = 1 from ⟨fun _ => w2, fun _ => w1⟩), if_pos w1]
            unfold mSeal
            unfold sl_ok at w3
            rw [if_neg w3]
            exact co_no39 hb O1 ky (by decide)
          · rw [if_neg (show ¬ (M 65).getD 0 0 = 20 from by rw [w1]; decide), if_pos (show (M 65).getD 0 0 = 23 ↔ s.2.1 (b + 76) 4 = 1 from ⟨fun _ => w2, fun _ => w1⟩), if_pos w1]
            unfold mSeal
            unfold sl_ok at w3
            rw [if_pos w3]
            by_cases ct : rd_t (rd_o s b (M 65)) = -1
            · rw [if_pos ct, if_pos ct]
              exact co_no39 hb O1 (ky.i (by omega)) (by decide)
            · rw [if_neg ct, if_neg ct]
              have := co_body hb O1 (i.up b1)
              rw [e1, e2] at this
              exact this
        · rw [if_neg cf, if_neg cf]
          exact co_no39 hb O ky cf
      · rw [if_neg c17, if_neg c17]
        exact tr_mk ⟨rfl, M, I, O⟩
end RDD
