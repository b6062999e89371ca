/-! ===== the reference: what is wrong with a message ===== -/
def bV (s : sT) (b : Nat) (c : List Int32) : Int32 := if rd_m s b c = 0 then (if rd_p s b (c.getD 0 0) c = true then 0 else 51) else rd_m s b c
theorem by_le1 {x : Int32} (hx : x &&& 255 = x) : x ≤ 1 ↔ x = 0 ∨ x = 1 := by
  have hn := nb_lt x
  rw [nb_eq hx, show ((1 : Int32)) = nI 1 from rfl, show ((0 : Int32)) = nI 0 from rfl, nI_leI (by omega) (by omega), nI_eq (by omega) (by omega), nI_eq (by omega) (by omega)]
  omega
theorem rdm_2 {s : sT} {b : Nat} {c : List Int32} (q : c.getD 0 0 = 2) : rd_m s b c = if c = ms_sh (rd_rn c) then 0 else 47 := by
  unfold rd_m; rw [q, if_neg (show ¬ (2 : Int32) = 1 by decide), if_pos rfl]
theorem rdm_8 {s : sT} {b : Nat} {c : List Int32} (q : c.getD 0 0 = 8) : rd_m s b c = if c = ms_ex then 0 else 47 := by
  unfold rd_m; rw [q, if_neg (show ¬ (8 : Int32) = 1 by decide), if_neg (show ¬ (8 : Int32) = 2 by decide), if_pos rfl]
theorem rdm_20 {s : sT} {b : Nat} {c : List Int32} (q : c.getD 0 0 = 20) : rd_m s b c = if c.length = 36 then 0 else 50 := by
  unfold rd_m; rw [q, if_neg (show ¬ (20 : Int32) = 1 by decide), if_neg (show ¬ (20 : Int32) = 2 by decide), if_neg (show ¬ (20 : Int32) = 8 by decide), if_pos rfl]
theorem rdm_24 {s : sT} {b : Nat} {c : List Int32} (q : c.getD 0 0 = 24) : rd_m s b c = rd_u c := by
  unfold rd_m; rw [q, if_neg (show ¬ (24 : Int32) = 1 by decide), if_neg (show ¬ (24 : Int32) = 2 by decide), if_neg (show ¬ (24 : Int32) = 8 by decide), if_neg (show ¬ (24 : Int32) = 20 by decide)]
theorem rdp_t {s : sT} {b : Nat} {k : Int32} {c : List Int32} (h1 : k ≠ 1) (h2 : k ≠ 20) : rd_p s b k c = true := by
  unfold rd_p; rw [if_neg h1, if_neg h2]
theorem rdp_20 {s : sT} {b : Nat} {c : List Int32} : rd_p s b 20 c = decide (c.drop (c.length - 32) = ks_p (s.1 (b + 77)) (s.1 (b + 100))) := by
  unfold rd_p; rw [if_neg (show ¬ (20 : Int32) = 1 by decide), if_pos rfl]
section RBO
variable {L : Nat} {h : mm_H} {s : sT} {e b : Nat} {f : mm_H → mm_O} {g : Int32 → mm_H → mm_O} {Q : Option Value → mm_H → Prop}
theorem dm_bf124 {c bd : List Int32} (T : dT L h) (B : bs h 547 5 c) (hb : lby c) (Bb : bs h 531 0 bd) (hbb : lby bd) (lb : bd.length = 32) (hc : c.length = 36) : ∀ (m i n : Nat), (∀ j, j < i → bd.getD j 0 = c.getD (4 + j) 0) → i + m = 32 → m < n → (lp_X12_bodyFault_124 n 490 (nI i) h = some (some (.int 0), h) ∧ ∀ j, j < 32 → bd.getD j 0 = c.getD (4 + j) 0) ∨ (lp_X12_bodyFault_124 n 490 (nI i) h = some (some (.int 51), h) ∧ ∃ j, j < 32 ∧ bd.getD j 0 ≠ c.getD (4 + j) 0) := by
  intro m
  induction m with
  | zero =>
    intro i n J hi hn
    obtain ⟨n, rfl⟩ : ∃ k, n = k + 1 := ⟨n - 1, by omega⟩
    rw [lp_X12_bodyFault_124, if_pos (by rw [show ((32 : Int32)) = nI 32 from rfl, nI_leI (by omega) (by omega)]; omega)]
    exact Or.inl ⟨rfl, fun j hj => J j (by omega)⟩
  | succ m ih =>
    intro i n J hi hn
    obtain ⟨n, rfl⟩ : ∃ k, n = k + 1 := ⟨n - 1, by omega⟩
    have v1 : mm_i h 547 (9 + i) = mm_b8 (c.getD (4 + i) 0) := by
      have := B (4 + i) (by omega)
      rw [show 5 + (4 + i) = 9 + i by omega] at this; exact this
    have v2 : mm_i h 531 i = mm_b8 (bd.getD i 0) := by have := Bb i (by omega); rw [Nat.zero_add] at this; exact this
    rw [lp_X12_bodyFault_124, if_neg (by rw [show ((32 : Int32)) = nI 32 from rfl, nI_leI (by omega) (by omega)]; omega), mm_gr_s T.r43, T.l531, if_pos (rr_in (by omega) (by omega)), mm_gr_s T.r60, show (9 : Int32) + nI i = nI (9 + i) from nI_add 9 i, T.l547, if_pos (rr_in (by omega) (by omega)), rr_n (by omega), rr_n (by omega), v1, v2, nI_1]
    by_cases q : bd.getD i 0 = c.getD (4 + i) 0
    · rw [if_pos (by rw [q])]
      exact ih (i + 1) n (fun j hj => by
        by_cases q2 : j = i
        · subst q2; exact q
        · exact J j (by omega)) (by omega) (by omega)
    · rw [if_neg (fun z => q ((b8_qq (hbb _ (rr_mem (by omega))) (hb _ (rr_mem (by omega)))).mp z))]
      exact Or.inr ⟨rfl, i, by omega, q⟩
abbrev zn (e a k : Nat) : Prop := zl a k ∨ zi e a k
theorem dr_bodyF {c : List Int32} (Bb : rB L h) (he : e < 4) (A : rA h s e b) (Z : rZ s b) (B : bs h 547 5 c) (hb : lby c) (hc : c.length ≤ 600) (h4 : 4 ≤ c.length) (hd : c.take 4 = ms_h (c.getD 0 0) (nI (c.length - 4))) (ks : c.getD 0 0 = 1 ∨ c.getD 0 0 = 2 ∨ c.getD 0 0 = 8 ∨ c.getD 0 0 = 20 ∨ c.getD 0 0 = 24) (k1 : c.getD 0 0 = 1 → s.1 (b + 84) = ks_b (s.1 (b + 94))) (k20 : c.getD 0 0 = 20 → s.2.1 (b + 76) 4 ≠ 0 ∧ rT h (s.1 (b + 100)) e) (K : ∀ h', rB L h' → dF (zn e) h h' → (c.getD 0 0 ≠ 1 → ∀ l, bs h 514 (32 * e) l → bs h' 514 (32 * e) l) → tr (g (bV s b c) h') Q) : tr (mm_qi (bd_X12_bodyFault 490 (nI e) (c.getD 0 0) (nI (c.length - 4)) h) g) Q := by
  obtain ⟨ne1, hne1⟩ : ∃ P : Prop, P = (c.getD 0 0 ≠ 1) := ⟨_, rfl⟩
  refine tr_qi (R := fun v h' => v = some (.int (bV s b c)) ∧ rB L h' ∧ dF (zn e) h h' ∧ (ne1 → ∀ l, bs h 514 (32 * e) l → bs h' 514 (32 * e) l)) ?_ (fun v h' q => ⟨_, q.1, K h' q.2.1 q.2.2.1 (fun z => q.2.2.2 (by rw [hne1]; exact z))⟩)
  have A' := A
  obtain ⟨c0, c1, c2, c3, c4, c5, c6, c7, c8, c9, c10, c11, c12, c13, c14, c15, c16, c17, c18, c19, c20, c21⟩ := A'
  obtain ⟨⟨z94, y94⟩, ⟨z96, y96⟩, -, -, ⟨z100, y100⟩, -, -, -⟩ := Z
  have T := Bb.1
  have at9 : ∀ j, j + 4 < c.length → mm_i h 547 (9 + j) = mm_b8 (c.getD (4 + j) 0) := fun j hj => by
    have := B (4 + j) (by omega)
    rw [show 5 + (4 + j) = 9 + j by omega] at this; exact this
  unfold bd_X12_bodyFault
  rcases ks with q | q | q | q | q
  · rw [q] at hd ⊢
    rw [if_pos rfl]
    refine dr_helloF Bb he c3 y94 z94 c2 c5 y96 z96 c4 B hb hc h4 hd (fun h1 B1 F1 => tr_mk ⟨?_, B1, F1, fun z => by rw [hne1] at z; exact absurd q z⟩)
    unfold hV bV rd_m rd_p
    rw [q, if_pos rfl, if_pos rfl, k1 q]
    simp only [decide_eq_true_eq]
  · rw [q] at hd ⊢
    rw [if_neg (by decide), if_pos rfl]
    have e1 : bV s b c = if c = ms_sh (rd_rn c) then 0 else 47 := by
      unfold bV
      rw [rdm_2 q, q, rdp_t (by decide) (by decide)]
      by_cases w : c = ms_sh (rd_rn c)
      · rw [if_pos w, if_pos rfl, if_pos rfl]
      · rw [if_neg w, if_neg (by decide)]
    refine dr_isAns T B hb hc h4 hd (fun h1 F1 => ⟨fun w => ?_, fun w => ?_⟩)
    · refine tr_in (by decide) (tr_mk ⟨by rw [e1, if_pos w], Bb.F F1 (fun a k z => by omega), F1.mo (fun a k z => Or.inl z), fun _ l w => w.F F1 (fun k _ _ => (by omega))⟩)
    · refine tr_ip rfl (tr_mk ⟨by rw [e1, if_neg w], Bb.F F1 (fun a k z => by omega), F1.mo (fun a k z => Or.inl z), fun _ l w => w.F F1 (fun k _ _ => (by omega))⟩)
  · rw [q] at hd ⊢
    rw [if_neg (by decide), if_neg (by decide), if_pos rfl]
    have e1 : bV s b c = if c = ms_ex then 0 else 47 := by
      unfold bV
      rw [rdm_8 q, q, rdp_t (by decide) (by decide)]
      by_cases w : c = ms_ex
      · rw [if_pos w, if_pos rfl, if_pos rfl]
      · rw [if_neg w, if_neg (by decide)]
    have fin : ∀ v : Int32, v = bV s b c → tr (some (some (.int v), h)) (fun v h' => v = some (.int (bV s b c)) ∧ rB L h' ∧ dF (zn e) h h' ∧ (ne1 → ∀ l, bs h 514 (32 * e) l → bs h' 514 (32 * e) l)) := fun v hv => tr_mk ⟨by rw [hv], Bb, dF.rf, fun _ _ w => w⟩
    by_cases l6 : c.length = 6
    · rw [if_pos (by rw [l6]; rfl)]
      have ex : c = ms_ex ↔ c.getD 4 0 = 0 ∧ c.getD 5 0 = 0 := by
        rw [show ms_ex = ms_h 8 (nI (c.length - 4)) ++ ([0] ++ [0]) from by rw [l6]; decide, ht_eq h4 hd, ← sq_z (n := 2) (by omega) rfl]
        exact sq_2 (by omega)
      have y4 := hb _ (rr_mem (show 4 < c.length from (by omega)))
      have y5 := hb _ (rr_mem (show 5 < c.length from (by omega)))
      refine tr_gr T.r60 (tr_ip (dq_in T.l547 (k := 9) rfl (by decide) (by decide)) ?_)
      rw [show mm_n (9 : Int32) = 9 + 0 from by decide, at9 0 (by omega)]
      by_cases w1 : c.getD 4 0 = 0
      · rw [if_pos ((b8_is y4 (by decide)).mpr w1)]
        refine tr_gr T.r60 (tr_ip (dq_in T.l547 (k := 10) rfl (by decide) (by decide)) ?_)
        rw [show mm_n (10 : Int32) = 9 + 1 from by decide, at9 1 (by omega)]
        by_cases w2 : c.getD 5 0 = 0
        · rw [if_pos ((b8_is y5 (by decide)).mpr w2)]
          exact fin 0 (by rw [e1, if_pos (ex.mpr ⟨w1, w2⟩)])
        · rw [if_neg (fun z => w2 ((b8_is y5 (by decide)).mp z))]
          exact fin 47 (by rw [e1, if_neg (fun z => w2 (ex.mp z).2)])
      · rw [if_neg (fun z => w1 ((b8_is y4 (by decide)).mp z))]
        exact fin 47 (by rw [e1, if_neg (fun z => w1 (ex.mp z).1)])
    · rw [if_neg (show ¬ nI (c.length - 4) = 2 from by rw [show ((2 : Int32)) = nI 2 from rfl, nI_eq (by omega) (by omega)]; omega)]
      exact fin 47 (by rw [e1, if_neg (fun z => l6 (by rw [z, ms_ex_ln]))])
  · obtain ⟨hr, R⟩ := k20 q
    rw [q] at hd ⊢
    rw [if_neg (by decide), if_neg (by decide), if_neg (by decide), if_pos rfl]
    by_cases l36 : c.length = 36
    · rw [if_pos (by rw [l36]; rfl)]
      have e1 : bV s b c = if c.drop 4 = ks_p (s.1 (b + 77)) (s.1 (b + 100)) then 0 else 51 := by
        unfold bV
        rw [rdm_20 q, q, rdp_20, if_pos l36, if_pos rfl, l36]
        simp only [decide_eq_true_eq]
      obtain ⟨k21, l21⟩ := c21 hr
      refine tr_gr T.r23 (tr_gr T.r43 ?_)
      refine dr_prove (p := 0) Bb he R.2 y100 (by omega) R.1 k21 l21 (Or.inr rfl) rfl T.l531 (by decide) (by decide) rfl (fun h1 b1 F1 => ?_)
      have B1 : rB L h1 := Bb.F F1 (fun a k z => by omega)
      have V1 : dF (zn e) h h1 := F1.mo (fun a k z => by
        rcases z with z | z | z | z
        · exact Or.inr (Or.inl z)
        · exact Or.inr (Or.inr (Or.inl z))
        · exact Or.inr (Or.inr (Or.inr (Or.inl (by omega))))
        · exact Or.inr (Or.inr (Or.inr (Or.inl (by omega)))))
      have ld : (c.drop 4).length = 32 := by rw [List.length_drop]; omega
      rw [show ((0 : Int32)) = nI 0 from rfl]
      rcases dm_bf124 (L := L) B1.1 (B.F F1 (fun k _ _ => (by omega))) hb b1 (ksp_by _ _) (ksp_ln _ _) l36 32 0 mm_fu (fun j hj => absurd hj (Nat.not_lt_zero _)) (by omega) (by unfold mm_fu; omega) with ⟨p2, q2⟩ | ⟨p2, j, hj, q2⟩
      · rw [p2]
        refine tr_mk ⟨?_, B1, V1, fun _ l w => w.F F1 (fun k _ _ => (by omega))⟩
        rw [e1, if_pos (ls_ext (by rw [ld, ksp_ln]) (fun j hj => by rw [ld] at hj; rw [dr_at]; exact (q2 j hj).symm))]
      · rw [p2]
        refine tr_mk ⟨?_, B1, V1, fun _ l w => w.F F1 (fun k _ _ => (by omega))⟩
        rw [e1, if_neg (fun z => q2 (by rw [← z, dr_at]))]
    · rw [if_neg (show ¬ nI (c.length - 4) = 32 from by rw [show ((32 : Int32)) = nI 32 from rfl, nI_eq (by omega) (by omega)]; omega)]
      refine tr_mk ⟨?_, Bb, dF.rf, fun _ _ w => w⟩
      unfold bV
      rw [rdm_20 q, if_neg l36, if_neg (by decide)]
  · rw [q] at hd ⊢
    rw [if_neg (by decide), if_neg (by decide), if_neg (by decide), if_neg (by decide)]
    have e1 : bV s b c = rd_u c := by
      unfold bV
      rw [rdm_24 q, q, rdp_t (by decide) (by decide), if_pos rfl]
      by_cases w : rd_u c = 0
      · rw [if_pos w, w]
      · rw [if_neg w]
    have fin : ∀ v : Int32, v = bV s b c → tr (some (some (.int v), h)) (fun v h' => v = some (.int (bV s b c)) ∧ rB L h' ∧ dF (zn e) h h' ∧ (ne1 → ∀ l, bs h 514 (32 * e) l → bs h' 514 (32 * e) l)) := fun v hv => tr_mk ⟨by rw [hv], Bb, dF.rf, fun _ _ w => w⟩
    by_cases l5 : c.length = 5
    · rw [if_pos (by rw [l5]; rfl)]
      have y4 := hb _ (rr_mem (show 4 < c.length from (by omega)))
      refine tr_gr T.r60 (tr_ip (dq_in T.l547 (k := 9) rfl (by decide) (by decide)) ?_)
      rw [show mm_n (9 : Int32) = 9 + 0 from by decide, at9 0 (by omega)]
      unfold jn_X12_bodyFault_191
      by_cases w1 : c.getD 4 0 = 0
      · rw [if_pos ((b8_is y4 (by decide)).mpr w1)]
        refine fin 0 ?_
        rw [e1]; unfold rd_u
        rw [if_pos l5, if_pos ((by_le1 y4).mpr (Or.inl w1))]
      · rw [if_neg (fun z => w1 ((b8_is y4 (by decide)).mp z))]
        refine tr_gr T.r60 (tr_ip (dq_in T.l547 (k := 9) rfl (by decide) (by decide)) ?_)
        rw [at9 0 (by omega)]
        by_cases w2 : c.getD 4 0 = 1
        · rw [if_pos ((b8_is y4 (by decide)).mpr w2)]
          refine fin 0 ?_
          rw [e1]; unfold rd_u
          rw [if_pos l5, if_pos ((by_le1 y4).mpr (Or.inr w2))]
        · rw [if_neg (fun z => w2 ((b8_is y4 (by decide)).mp z))]
          refine fin 47 ?_
          rw [e1]; unfold rd_u
          rw [if_pos l5, if_neg (fun z => ((by_le1 y4).mp z).elim w1 w2)]
    · rw [if_neg (show ¬ nI (c.length - 4) = 1 from by rw [show ((1 : Int32)) = nI 1 from rfl, nI_eq (by omega) (by omega)]; omega)]
      refine fin 50 ?_
      rw [e1]; unfold rd_u
      rw [if_neg l5]
end RBO
