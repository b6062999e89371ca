/-! ===== the reference reads a record ===== -/
theorem shl16n : ∀ x, x < 256 → mm_shl (nI x) 16 = nI (x * 65536) := by decide +kernel
theorem shl8n : ∀ x, x < 256 → mm_shl (nI x) 8 = nI (x * 256) := by decide +kernel
theorem by_2 {x y : Int32} (hx : x &&& 255 = x) (hy : y &&& 255 = y) : mm_shl x 8 ||| y = nI (nb x * 256 + nb y) := by
  have h1 := nb_lt x
  have h2 := nb_lt y
  rw [nb_eq hx, nb_eq hy, nb_nI h1, nb_nI h2, shl8n _ h1, nI_or (by omega) (by omega), Nat.or_comm, show nb x * 256 = nb x * 2 ^ 8 from rfl, nor_add (by omega)]
  congr 1; omega
theorem by_3 {w x y : Int32} (hw : w &&& 255 = w) (hx : x &&& 255 = x) (hy : y &&& 255 = y) : (mm_shl w 16 ||| mm_shl x 8) ||| y = nI (nb w * 65536 + (nb x * 256 + nb y)) := by
  have h0 := nb_lt w
  have h1 := nb_lt x
  have h2 := nb_lt y
  rw [Int32.or_assoc, by_2 hx hy, nb_eq hw, nb_nI h0, shl16n _ h0, nI_or (by omega) (by omega), Nat.or_comm, show nb w * 65536 = nb w * 2 ^ 16 from rfl, nor_add (by omega)]
  exact congrArg nI (by omega)
theorem ush8n {m : Nat} (hm : m < 65536) : mm_shr (nI m) 8 &&& 255 = nI (m / 256) := by
  rw [shr8, show nI 8 = 8 from rfl, nI_ush8 (by omega), nI_255, Nat.mod_eq_of_lt (by omega)]
/-- a message's head -/
theorem hd_eq {c : List Int32} (hb : lby c) (h4 : 4 ≤ c.length) (hc : c.length ≤ 600) (n : Nat) (en : n = nb (c.getD 1 0) * 65536 + (nb (c.getD 2 0) * 256 + nb (c.getD 3 0))) : (n = c.length - 4 ↔ c.getD 1 0 = 0 ∧ rd_2 c 2 = nI c.length - 4) ∧ (n = c.length - 4 → c.take 4 = ms_h (c.getD 0 0) (nI (c.length - 4))) := by
  have y0 := hb _ (rr_mem (show 0 < c.length from (by omega)))
  have y1 := hb _ (rr_mem (show 1 < c.length from (by omega)))
  have y2 := hb _ (rr_mem (show 2 < c.length from (by omega)))
  have y3 := hb _ (rr_mem (show 3 < c.length from (by omega)))
  have l1 := nb_lt (c.getD 1 0)
  have l2 := nb_lt (c.getD 2 0)
  have l3 := nb_lt (c.getD 3 0)
  have e2 : rd_2 c 2 = nI (nb (c.getD 2 0) * 256 + nb (c.getD 3 0)) := by
    unfold rd_2
    rw [if_pos (by omega)]; exact by_2 y2 y3
  have e4 : nI c.length - 4 = nI (c.length - 4) := by rw [show ((4 : Int32)) = nI 4 from rfl, nI_sb h4]
  have z1 : c.getD 1 0 = 0 ↔ nb (c.getD 1 0) = 0 := by
    constructor
    · intro z; rw [z]; decide
    · intro z; rw [nb_eq y1, z]; rfl
  refine ⟨?_, fun z => ?_⟩
  · rw [z1, e2, e4, nI_eq (by omega) (by omega), en]
    omega
  · have w1 : nb (c.getD 1 0) = 0 := by omega
    have w2 : nb (c.getD 2 0) * 256 + nb (c.getD 3 0) = c.length - 4 := by omega
    rw [msh_eq (by omega), ush8n (by omega), nI_255, y0]
    have q : c.take 4 = [c.getD 0 0, c.getD 1 0, c.getD 2 0, c.getD 3 0] := by
      conv => lhs; rw [← List.drop_zero (l := c), rr_drop (show 0 < c.length from (by omega)), rr_drop (show 0 + 1 < c.length from (by omega)), rr_drop (show 0 + 1 + 1 < c.length from (by omega)), rr_drop (show 0 + 1 + 1 + 1 < c.length from (by omega))]
      simp
    rw [q, z1.mpr w1, show c.getD 2 0 = nI ((c.length - 4) / 256) from by rw [nb_eq y2]; congr 1; omega, show c.getD 3 0 = nI ((c.length - 4) % 256) from by rw [nb_eq y3]; congr 1; omega]
theorem bV_v {s : sT} {b : Nat} {c : List Int32} : bV s b c = 0 ∨ ¬ bV s b c ≤ 0 := by
  have hm : rd_m s b c = 0 ∨ rd_m s b c = 47 ∨ rd_m s b c = 50 ∨ rd_m s b c = 115 := by
    unfold rd_m rd_ch rd_u
    (repeat' split) <;> simp
  unfold bV
  rcases hm with q | q | q | q
  · rw [q, if_pos rfl]
    by_cases w : rd_p s b (c.getD 0 0) c = true
    · rw [if_pos w]; exact Or.inl rfl
    · rw [if_neg w]; exact Or.inr (by decide)
  · rw [q, if_neg (by decide)]; exact Or.inr (by decide)
  · rw [q, if_neg (by decide)]; exact Or.inr (by decide)
  · rw [q, if_neg (by decide)]; exact Or.inr (by decide)
theorem bV_0 {s : sT} {b : Nat} {c : List Int32} (h : bV s b c = 0) : rd_m s b c = 0 ∧ rd_p s b (c.getD 0 0) c = true := by
  unfold bV at h
  by_cases w : rd_m s b c = 0
  · rw [if_pos w] at h
    by_cases w2 : rd_p s b (c.getD 0 0) c = true
    · exact ⟨w, w2⟩
    · rw [if_neg w2] at h; exact absurd h (by decide)
  · rw [if_neg w] at h; exact absurd h w
theorem ml_le {s : sT} {b : Nat} {c : List Int32} (ks : c.getD 0 0 = 1 ∨ c.getD 0 0 = 2 ∨ c.getD 0 0 = 8 ∨ c.getD 0 0 = 20 ∨ c.getD 0 0 = 24) (k24 : c.getD 0 0 ≠ 24) (m0 : rd_m s b c = 0) : c.length ≤ 123 ∧ (c.getD 0 0 ≠ 1 → c.length ≤ 56) := by
  rcases ks with q | q | q | q | q
  · unfold rd_m at m0
    rw [q, if_pos rfl] at m0
    unfold rd_ch at m0
    by_cases w : 108 ≤ c.length ∧ c.length ≤ 123 ∧ rd_2 c 66 = nI (c.length - 107)
    · exact ⟨w.2.1, fun z => absurd q z⟩
    · rw [if_neg w] at m0; exact absurd m0 (by decide)
  · rw [rdm_2 q] at m0
    by_cases w : c = ms_sh (rd_rn c)
    · have e1 := congrArg List.length w
      rw [ms_sh_ln] at e1
      have e2 : (rd_rn c).length = min 38 c.length - 6 := by unfold rd_rn; rw [List.length_drop, List.length_take]
      exact ⟨(by omega), fun _ => (by omega)⟩
    · rw [if_neg w] at m0; exact absurd m0 (by decide)
  · rw [rdm_8 q] at m0
    by_cases w : c = ms_ex
    · have : c.length = 6 := by rw [w, ms_ex_ln]
      exact ⟨(by omega), fun _ => (by omega)⟩
    · rw [if_neg w] at m0; exact absurd m0 (by decide)
  · rw [rdm_20 q] at m0
    by_cases w : c.length = 36
    · exact ⟨(by omega), fun _ => (by omega)⟩
    · rw [if_neg w] at m0; exact absurd m0 (by decide)
  · exact absurd q k24
section RRD
variable {L : Nat} {h : mm_H} {s : sT} {e b : Nat} {f : mm_H → mm_O} {g : Int32 → mm_H → mm_O} {Q : Option Value → mm_H → Prop}
theorem dr_waited {x : Int32} (st : sS x) : mm_qi (bd_X12_waited x h) g = g (rd_wait x) h := by
  unfold bd_X12_waited jn_X12_waited_29
  rcases st with q | q | q | q | q | q <;> subst q <;> rfl
theorem dm_data {c g0 : List Int32} (he : e < 4) (hb : lby c) (hc : c.length ≤ 600) : ∀ (m i n : Nat) (h : mm_H), dT L h → bs h 547 5 c → mm_i h 490 62 = nI c.length → bs h 507 (2000 * e) ((g0 ++ c.take i).take 2000) → mm_i h 508 e = nI ((g0 ++ c.take i).take 2000).length → i + m = c.length → m < n → ∃ h', lp_X12_readData_21 n 490 (nI e) (nI i) h = some (none, h') ∧ dF (fun a k => (a = 507 ∧ 2000 * e ≤ k ∧ k < 2000 * e + 2000) ∨ (a = 508 ∧ k = e)) h h' ∧ bs h' 507 (2000 * e) ((g0 ++ c).take 2000) ∧ mm_i h' 508 e = nI ((g0 ++ c).take 2000).length := by
  intro m
  induction m with
  | zero =>
    intro i n h T B i62 B7 i8 hi hn
    obtain ⟨n, rfl⟩ : ∃ k, n = k + 1 := ⟨n - 1, by omega⟩
    rw [lp_X12_readData_21, i62, if_pos (by rw [nI_leI (by omega) (by omega)]; omega)]
    rw [List.take_of_length_le (show c.length ≤ i by omega)] at B7 i8
    exact ⟨h, rfl, dF.rf, B7, i8⟩
  | succ m ih =>
    intro i n h T B i62 B7 i8 hi hn
    obtain ⟨n, rfl⟩ : ∃ k, n = k + 1 := ⟨n - 1, by omega⟩
    have lg : ((g0 ++ c.take i).take 2000).length ≤ 2000 := by rw [List.length_take]; omega
    rw [lp_X12_readData_21, i62, if_neg (by rw [nI_leI (by omega) (by omega)]; omega), mm_gr_s T.r19, T.l508, if_pos (rr_in he (by decide)), rr_n (show e < 2 ^ 31 by omega), i8]
    by_cases c1 : 2000 ≤ ((g0 ++ c.take i).take 2000).length
    · rw [if_pos (by rw [show ((2000 : Int32)) = nI 2000 from rfl, nI_leI (by omega) (by omega)]; exact c1)]
      have lf : 2000 ≤ (g0 ++ c.take i).length := by rw [List.length_take] at c1; omega
      have e1 : (g0 ++ c.take i).take 2000 = (g0 ++ c).take 2000 := by
        conv => rhs; rw [← List.take_append_drop i c, ← List.append_assoc]
        rw [List.take_append_of_le_length lf]
      rw [e1] at B7 i8
      exact ⟨h, rfl, dF.rf, B7, i8⟩
    · rw [if_neg (by rw [show ((2000 : Int32)) = nI 2000 from rfl, nI_leI (by omega) (by omega)]; exact c1)]
      have ls : (g0 ++ c.take i).length < 2000 := by rw [List.length_take] at c1; omega
      rw [List.take_of_length_le (Nat.le_of_lt ls)] at B7 i8
      obtain ⟨G, hG⟩ : ∃ G, G = g0 ++ c.take i := ⟨_, rfl⟩
      rw [← hG] at B7 i8 ls
      have v5 : mm_i h 547 (5 + i) = mm_b8 (c.getD i 0) := B i (by omega)
      rw [mm_gr_s T.r18, mm_gr_s T.r19, T.l508, if_pos (rr_in he (by decide)), mm_gr_s T.r60, show (5 : Int32) + nI i = nI (5 + i) from nI_add 5 i, T.l547, if_pos (rr_in (by omega) (by omega)), i8, show (2000 : Int32) * nI e = nI (2000 * e) from pk_mul 2000 e, nI_add, T.l507, if_pos ⟨by decide, rr_in (by omega) (by omega)⟩, rr_n (show 2000 * e + G.length < 2 ^ 31 by omega), rr_n (show 5 + i < 2 ^ 31 by omega), v5, b8_b8, mm_bh]
      have F1 : dF (zo 507 (2000 * e + G.length)) h (mm_si h 507 (2000 * e + G.length) (mm_b8 (c.getD i 0))) := dF.si
      have v1 : (mm_si h 507 (2000 * e + G.length) (mm_b8 (c.getD i 0))).2.1 507 (2000 * e + G.length) = mm_b8 (c.getD i 0) := mi_eq
      generalize mm_si h 507 (2000 * e + G.length) (mm_b8 (c.getD i 0)) = h1 at F1 v1
      have T1 := T.F F1
      rw [mm_gr_s T1.r19, T1.l508, if_pos (rr_in he (by decide)), if_pos ⟨by decide, rr_in he (by decide)⟩, mm_bh, F1.i (a := 508) (k := e) (by omega), i8, nI_1, nI_1]
      have F2 : dF (zo 508 e) h1 (mm_si h1 508 e (nI (G.length + 1))) := dF.si
      have v2 : mm_i (mm_si h1 508 e (nI (G.length + 1))) 508 e = nI (G.length + 1) := mi_eq
      generalize mm_si h1 508 e (nI (G.length + 1)) = h2 at F2 v2
      have F := F1.c F2
      have eG : g0 ++ c.take (i + 1) = G ++ [c.getD i 0] := by
        rw [hG, List.append_assoc, List.take_add_one, List.getD_eq_getElem?_getD, List.getElem?_eq_getElem (show i < c.length by omega)]; rfl
      obtain ⟨h', q1, q2, q3, q4⟩ := ih (i + 1) n h2 (T.F F) (B.F F (fun k _ _ => by omega)) (by rw [F.i (by omega)]; exact i62) (by
        rw [eG, List.take_of_length_le (by rw [List.length_append, List.length_singleton]; omega)]
        refine (B7.F F (fun k z1 z2 => by omega)).app (bs.one ?_)
        rw [F2.2.2 507 _ (by omega)]; exact v1) (by
        rw [eG, List.take_of_length_le (by rw [List.length_append, List.length_singleton]; omega), List.length_append]; exact v2) (by omega) (by omega)
      exact ⟨h', q1, (F.c q2).mo (fun a k z => by omega), q3, q4⟩
theorem rS.F {S : Nat → Nat → Prop} {h h' : mm_H} (R : rS h s e b) (l100 : (s.1 (b + 100)).length ≤ 400) (l88 : (s.1 (b + 88)).length ≤ 32) (F : dF S h h') (n : ∀ a k, (a = 510 ∧ k = e) ∨ (a = 509 ∧ 400 * e ≤ k ∧ k < 400 * e + 400) ∨ ((a = 513 ∨ a = 514) ∧ 32 * e ≤ k ∧ k < 32 * e + 32) → ¬ S a k) : rS h' s e b := by
  obtain ⟨r1, r2, r3⟩ := R
  refine ⟨fun a1 a2 => (r1 a1 a2).F F l100 (fun a k z => n a k (by omega)), fun z => (r2 z).F F (fun k z1 z2 => n _ _ (by omega)), fun z => (r3 z).F F (fun k z1 z2 => n _ _ ?_)⟩
  rw [hk_e_ln _ _ _ (by omega)] at z2
  omega
theorem dr_dataR {c : List Int32} (B : rB L h) (he : e < 4) (A : rA h s e b) (Z : rZ s b) (ky : kI s (b + 69)) (Bi : bs h 547 5 c) (hb : lby c) (hc : c.length ≤ 600) (i62 : mm_i h 490 62 = nI c.length) (K : ∀ h', rB L h' → rA h' (if s.2.1 b 5 = 6 then mM s (b + 67) ((s.1 (b + 67) ++ c).take 2000) else mFail s b 10) e b → rS h' (if s.2.1 b 5 = 6 then mM s (b + 67) ((s.1 (b + 67) ++ c).take 2000) else mFail s b 10) e b → dF (zR e) h h' → tr (f h') Q) : tr (mm_qv (bd_X12_readData 490 (nI e) h) f) Q := by
  refine tr_v (p := fun h' => rB L h' ∧ rA h' (if s.2.1 b 5 = 6 then mM s (b + 67) ((s.1 (b + 67) ++ c).take 2000) else mFail s b 10) e b ∧ rS h' (if s.2.1 b 5 = 6 then mM s (b + 67) ((s.1 (b + 67) ++ c).take 2000) else mFail s b 10) e b ∧ dF (zR e) h h') ?_ (fun h' q => K h' q.1 q.2.1 q.2.2.1 q.2.2.2)
  obtain ⟨-, -, -, ⟨z67, -⟩, -, -, zn, zl⟩ := Z
  have hz : ∀ z ∈ s.2.2 b, z.length ≤ 600 := fun z hz => (zl z hz).1
  have c1 := A.2.1
  have c14 := A.2.2.2.2.2.2.2.2.2.2.2.2.2.2.1
  have c15 := A.2.2.2.2.2.2.2.2.2.2.2.2.2.2.2.1
  unfold bd_X12_readData
  refine tr_gr B.1.r4 (tr_ip (dq_in B.1.l493 rfl he (by decide)) ?_)
  rw [rr_n (n := e) (by omega), c1]
  by_cases w : s.2.1 b 5 = 6
  · rw [if_pos w, if_pos w]
    obtain ⟨h', q1, q2, q3, q4⟩ := dm_data (L := L) (g0 := s.1 (b + 67)) he hb hc c.length 0 mm_fu h B.1 Bi i62 (by rw [List.take_zero, List.append_nil, List.take_of_length_le z67]; exact c15) (by rw [List.take_zero, List.append_nil, List.take_of_length_le z67]; exact c14) (by omega) (by unfold mm_fu; omega)
    rw [show ((0 : Int32)) = nI 0 from rfl, q1]
    exact tr_mk ⟨rfl, B.F q2 (fun a k z => by omega), A.gv q2 q4 q3, rS.t (Or.inl w), q2.R (fun z => z.elim re7 (fun z => re1 (by omega)))⟩
  · rw [if_neg w, if_neg w]
    refine dr_fail B he A zn hz ky (fun h1 B1 A1 F1 => ?_)
    exact tr_mk ⟨rfl, B1, A1, rS.t (Or.inr mI_at), F1.R zx_R⟩
theorem dr_msgR {c : List Int32} (B : rB L h) (he : e < 4) (A : rA h s e b) (Z : rZ s b) (J : jE s b) (S : rS h s e b) (st : sS (s.2.1 b 5)) (Bi : bs h 547 5 c) (hb : lby c) (hc : c.length ≤ 600) (i62 : mm_i h 490 62 = nI c.length) (K : ∀ h', rB L h' → rA h' (mMsg s b c) e b → rS h' (mMsg s b c) e b → dF (zR e) h h' → tr (f h') Q) : tr (mm_qv (bd_X12_readHandshake 490 (nI e) h) f) Q := by
  refine tr_v (p := fun h' => rB L h' ∧ rA h' (mMsg s b c) e b ∧ rS h' (mMsg s b c) e b ∧ dF (zR e) h h') ?_ (fun h' q => K h' q.1 q.2.1 q.2.2.1 q.2.2.2)
  have J' := J
  obtain ⟨⟨j1, j1'⟩, -, -, j4, -, -, j7, j8, -, j10, j10', j10''⟩ := J'
  have Z' := Z
  obtain ⟨-, -, -, -, ⟨z100, y100⟩, -, zn, zl⟩ := Z'
  have hz : ∀ z ∈ s.2.2 b, z.length ≤ 600 := fun z hz => (zl z hz).1
  have st0 : s.2.1 b 5 ≠ 0 := fun z => by rw [z] at st; unfold sS at st; revert st; decide
  have st7 : s.2.1 b 5 ≠ 7 := fun z => by rw [z] at st; unfold sS at st; revert st; decide
  obtain ⟨e84, e86, e88, -⟩ := j7 st0
  have l88 : (s.1 (b + 88)).length ≤ 32 := by rw [e88]; exact Nat.le_of_eq (hm_m_len _ _)
  have fl : ∀ (h1 : mm_H) (x : Int32), rB L h1 → rA h1 s e b → dF (zR e) h h1 → tr (mm_qv (bd_X12_fail 490 (nI e) x h1) (fun h2 => some (none, h2))) (fun v h' => v = none ∧ rB L h' ∧ rA h' (mFail s b x) e b ∧ rS h' (mFail s b x) e b ∧ dF (zR e) h h') := fun h1 x B1 A1 V1 => dr_fail B1 he A1 zn hz j1 (fun h2 B2 A2 F2 => tr_mk ⟨rfl, B2, A2, rS.t (Or.inr mI_at), V1.t (F2.R zx_R)⟩)
  unfold bd_X12_readHandshake
  rw [i62]
  by_cases h4 : 4 ≤ c.length
  · rw [if_pos (by rw [show ((4 : Int32)) = nI 4 from rfl, nI_leI (by omega) (by omega)]; exact h4)]
    have y0 := hb _ (rr_mem (show 0 < c.length from (by omega)))
    have y1 := hb _ (rr_mem (show 1 < c.length from (by omega)))
    have y2 := hb _ (rr_mem (show 2 < c.length from (by omega)))
    have y3 := hb _ (rr_mem (show 3 < c.length from (by omega)))
    have v5 : mm_i h 547 5 = mm_b8 (c.getD 0 0) := Bi 0 (by omega)
    have v6 : mm_i h 547 6 = mm_b8 (c.getD 1 0) := Bi 1 (by omega)
    have v7 : mm_i h 547 7 = mm_b8 (c.getD 2 0) := Bi 2 (by omega)
    have v8 : mm_i h 547 8 = mm_b8 (c.getD 3 0) := Bi 3 (by omega)
    refine tr_gr B.1.r60 (tr_ip (dq_in B.1.l547 (k := 6) rfl (by decide) (by decide)) ?_)
    refine tr_gr B.1.r60 (tr_ip (dq_in B.1.l547 (k := 7) rfl (by decide) (by decide)) ?_)
    refine tr_gr B.1.r60 (tr_ip (dq_in B.1.l547 (k := 8) rfl (by decide) (by decide)) ?_)
    rw [show mm_n (6 : Int32) = 6 from by decide, show mm_n (7 : Int32) = 7 from by decide, show mm_n (8 : Int32) = 8 from by decide, v6, v7, v8, b8_by y1, b8_by y2, b8_by y3, by_3 y1 y2 y3]
    have l1 := nb_lt (c.getD 1 0)
    have l2 := nb_lt (c.getD 2 0)
    have l3 := nb_lt (c.getD 3 0)
    obtain ⟨n, en⟩ : ∃ n, n = nb (c.getD 1 0) * 65536 + (nb (c.getD 2 0) * 256 + nb (c.getD 3 0)) := ⟨_, rfl⟩
    obtain ⟨q1, q2⟩ := hd_eq hb h4 hc n en
    rw [← en]
    have ln : n < 2 ^ 31 := (by omega)
    unfold jn_X12_readHandshake_53 jn_X12_readHandshake_72 jn_X12_readHandshake_154
    rw [i62, if_neg (show ¬ nI c.length < 4 from by rw [show ((4 : Int32)) = nI 4 from rfl, nI_ltI (by omega) (by omega)]; omega), show nI c.length - 4 = nI (c.length - 4) from by rw [show ((4 : Int32)) = nI 4 from rfl, nI_sb h4]]
    unfold mMsg
    by_cases w1 : n = c.length - 4
    · have hd := q2 w1
      rw [if_pos (show nI n = nI (c.length - 4) from by rw [w1]), if_pos ⟨h4, q1.mp w1⟩]
      refine tr_gr B.1.r60 (tr_ip (dq_in B.1.l547 (k := 5) rfl (by decide) (by decide)) ?_)
      rw [show mm_n (5 : Int32) = 5 from by decide, v5, b8_by y0, mm_bi]
      refine tr_gr B.1.r4 (tr_ip (dq_in B.1.l493 rfl he (by decide)) ?_)
      rw [rr_n (n := e) (by omega), A.2.1, dr_waited st]
      by_cases w2 : c.getD 0 0 = rd_wait (s.2.1 b 5)
      · rw [if_pos w2, if_pos w2]
        have kw : (c.getD 0 0 = 2 ∧ s.2.1 b 5 = 1) ∨ (c.getD 0 0 = 8 ∧ s.2.1 b 5 = 2) ∨ (c.getD 0 0 = 20 ∧ s.2.1 b 5 = 3) ∨ (c.getD 0 0 = 1 ∧ s.2.1 b 5 = 4) ∨ (c.getD 0 0 = 20 ∧ s.2.1 b 5 = 5) ∨ (c.getD 0 0 = 24 ∧ s.2.1 b 5 = 6) := by
          rw [w2]
          rcases st with q | q | q | q | q | q <;> rw [q] <;> decide
        have ks : c.getD 0 0 = 1 ∨ c.getD 0 0 = 2 ∨ c.getD 0 0 = 8 ∨ c.getD 0 0 = 20 ∨ c.getD 0 0 = 24 := by
          rcases kw with ⟨q, -⟩ | ⟨q, -⟩ | ⟨q, -⟩ | ⟨q, -⟩ | ⟨q, -⟩ | ⟨q, -⟩ <;> rw [q] <;> decide
        have s20 : c.getD 0 0 = 20 → s.2.1 b 5 = 3 ∨ s.2.1 b 5 = 5 := fun z => by
          rcases kw with ⟨q, t⟩ | ⟨q, t⟩ | ⟨q, t⟩ | ⟨q, t⟩ | ⟨q, t⟩ | ⟨q, t⟩
          · rw [q] at z; exact absurd z (by decide)
          · rw [q] at z; exact absurd z (by decide)
          · exact Or.inl t
          · rw [q] at z; exact absurd z (by decide)
          · exact Or.inr t
          · rw [q] at z; exact absurd z (by decide)
        rw [w1]
        refine dr_bodyF B he A Z Bi hb hc h4 hd ks (fun _ => e84) (fun z => ⟨?_, S.1 (fun w => ?_) st7⟩) (fun h1 B1 F1 kp => ?_)
        · rcases s20 z with q | q
          · rw [(j8 (Or.inr (Or.inl q))).2]; decide
          · rw [(j8 (Or.inr (Or.inr (Or.inl q)))).2]; decide
        · rcases s20 z with q | q <;> (rw [q] at w; exact absurd w (by decide))
        · have A1 : rA h1 s e b := A.S F1 (fun a k z => by omega)
          have V1 := F1.R (e := e) zn_R
          rcases bV_v (s := s) (b := b) (c := c) with q | q
          · rw [q, if_pos (by decide)]
            obtain ⟨m0, p0⟩ := bV_0 q
            rw [if_pos m0, if_pos p0]
            have B1i := Bi.F F1 (fun k _ _ => (by omega))
            have lt1 : s.2.1 b 5 = 5 → bs h1 513 (32 * e) (hk_e (s.1 (b + 88)) (tx_l 20) (sh_a (s.1 (b + 100))) 32) := fun z => (S.2.2 z).F F1 (fun k _ _ => (by omega))
            have i62' : mm_i h1 490 62 = nI c.length := by rw [F1.i (by omega)]; exact i62
            have mn1 : s.2.1 b 5 = 1 ∨ s.2.1 b 5 = 2 ∨ s.2.1 b 5 = 3 ∨ s.2.1 b 5 = 5 → bs h1 514 (32 * e) (s.1 (b + 88)) := fun z => kp (fun w => by
              rcases kw with ⟨q, t⟩ | ⟨q, t⟩ | ⟨q, t⟩ | ⟨q, t⟩ | ⟨q, t⟩ | ⟨q, t⟩
              · rw [q] at w; exact absurd w (by decide)
              · rw [q] at w; exact absurd w (by decide)
              · rw [q] at w; exact absurd w (by decide)
              · rw [t] at z; exact absurd z (by decide)
              · rw [q] at w; exact absurd w (by decide)
              · rw [q] at w; exact absurd w (by decide)) _ (S.2.1 z)
            by_cases k24 : c.getD 0 0 = 24
            · rw [if_pos k24]
              refine dr_goOn B1 he A1 Z J kw m0 B1i hb hc (fun z => absurd k24 z) mn1 lt1 (fun h2 B2 A2 S2 F2 => ?_)
              exact tr_mk ⟨rfl, B2, A2, S2, V1.t F2⟩
            · rw [if_neg k24]
              have st6 : s.2.1 b 5 ≠ 6 := fun z => by
                rcases kw with ⟨q, t⟩ | ⟨q, t⟩ | ⟨q, t⟩ | ⟨q, t⟩ | ⟨q, t⟩ | ⟨q, t⟩
                · rw [t] at z; exact absurd z (by decide)
                · rw [t] at z; exact absurd z (by decide)
                · rw [t] at z; exact absurd z (by decide)
                · rw [t] at z; exact absurd z (by decide)
                · rw [t] at z; exact absurd z (by decide)
                · exact k24 q
              have lc : (s.1 (b + 100)).length + c.length ≤ 400 := by
                obtain ⟨u1, u2⟩ := ml_le ks k24 m0
                by_cases k1 : c.getD 0 0 = 1
                · have t4 : s.2.1 b 5 = 4 := by
                    rcases kw with ⟨q, t⟩ | ⟨q, t⟩ | ⟨q, t⟩ | ⟨q, t⟩ | ⟨q, t⟩ | ⟨q, t⟩
                    · rw [q] at k1; exact absurd k1 (by decide)
                    · rw [q] at k1; exact absurd k1 (by decide)
                    · rw [q] at k1; exact absurd k1 (by decide)
                    · exact t
                    · rw [q] at k1; exact absurd k1 (by decide)
                    · rw [q] at k1; exact absurd k1 (by decide)
                  rw [(j4 (Or.inr t4)).1, List.length_nil]; omega
                · have := u2 k1; omega
              have R1 : rT h1 (s.1 (b + 100)) e := (S.1 st6 st7).F F1 (by omega) (fun a k z => by omega)
              refine tr_gr B1.1.r60 ?_
              refine dr_append B1 he R1.2 lc R1.1 B1i (by decide) B1.1.l547 (by omega) (by decide) rfl i62' (fun h2 b2 i2 F2 => ?_)
              refine dr_goOn (B1.F F2 (fun a k z => by omega)) he (A1.S F2 (fun a k z => by omega)) Z J kw m0 (B1i.F F2 (fun k _ _ => (by omega))) hb hc (fun _ => ⟨i2, b2⟩) (fun z => (mn1 z).F F2 (fun k _ _ => (by omega))) (fun z => (lt1 z).F F2 (fun k _ _ => (by omega))) (fun h3 B3 A3 S3 F3 => ?_)
              refine tr_mk ⟨rfl, B3, A3, S3, (V1.t (F2.R (fun z => ?_))).t F3⟩
              rcases z with z | z
              · exact re8 (by omega)
              · exact re1 (by omega)
          · rw [if_neg q]
            have eq : (if rd_m s b c = 0 then (if rd_p s b (c.getD 0 0) c = true then mGo s b c else mFail s b 51) else mFail s b (rd_m s b c)) = mFail s b (bV s b c) := by
              unfold bV at q ⊢
              by_cases u : rd_m s b c = 0
              · rw [if_pos u] at q ⊢
                by_cases u2 : rd_p s b (c.getD 0 0) c = true
                · rw [if_pos u2] at q; exact absurd (by decide) q
                · rw [if_neg u2, if_pos u, if_neg u2]
              · rw [if_neg u, if_neg u]
            rw [eq]
            exact fl h1 _ B1 A1 V1
      · rw [if_neg w2, if_neg w2]
        exact fl h 10 B A dF.rf
    · rw [if_neg (show ¬ nI n = nI (c.length - 4) from by rw [nI_eq (by omega) (by omega)]; exact w1), if_neg (fun z => w1 (q1.mpr z.2))]
      exact fl h 50 B A dF.rf
  · rw [if_neg (by rw [show ((4 : Int32)) = nI 4 from rfl, nI_leI (by omega) (by omega)]; exact h4)]
    unfold jn_X12_readHandshake_53 jn_X12_readHandshake_72 mMsg
    rw [i62, if_pos (show nI c.length < 4 from by rw [show ((4 : Int32)) = nI 4 from rfl, nI_ltI (by omega) (by omega)]; omega), if_neg (fun z => h4 z.1)]
    exact fl h 50 B A dF.rf
end RRD
