/-! ===== the walk of the law's body, out of what the printed function of the law answers ===== -/
theorem whole_open (PL : ∀ (L : Nat) (xs : Nat → Int32), L ≤ 3072 → ∃ hF : mm_H, bd_L_law 0 (st_h L xs) = some (some (.int 1), hF) ∧ hF.1.length ≤ 600000 ∧ mm_sz hF ≤ 7302250) {p : Program} {e : Env} {s : State} {m : MethodId} {below : List Frame} {meth : Method} {c : Code} (l : Launch) {b L : Nat} {xs : Nat → Int32} (hL : L ≤ 3072) (C0 : lw_At p s m meth c b L xs) : W p l e room_1 s m #[Value.ref b] below meth c s.heap [] 0 0 (lw_Z below #[Value.ref b] s) (entryFrame m ([Value.ref b] : List Value).toArray 4) := by
  obtain ⟨G, g1, g2, g3, g4, C, N⟩ := st_all l hL C0
  obtain ⟨hF, e1, e2, e3⟩ := PL L xs hL
  obtain ⟨⟨k1, k2, k4⟩, k3⟩ := oc_L_law (G := G) 0 (st_h L xs) rfl (st_wf L xs) _ _ e1
  have hloc := mm_en_loc (G := G) (y := my_L_law) (as := [.ref 0]) (Nat.le_of_ble_eq_true rfl)
  have ev : ([.ref 0] : List Value).map (mm_v G.2.1) = [Value.ref b] := by rw [← g2]; rfl
  rw [ev] at hloc
  rw [lg_entry_eq]
  have k5 := k3 p e room_1 s m #[Value.ref b] below meth c C s.heap [] 0 0 (lw_Z below #[Value.ref b] s) _ N hloc (by show 0 + _ ≤ 600000; omega) (by show 0 + _ ≤ 7302250; omega)
  rw [g1] at k5
  refine k5 (fun H1 locs1 pc1 ls1 N1 hls hret => ?_)
  refine va_forget (fun q hq => ?_) ?_
  · have := N1.2.2.1.2.2 q hq
    unfold mm_A at this
    rw [g3] at this
    exact this
  refine W.widen (k := 600000) (n := 7302250) (by omega) (by omega) ?_
  obtain ⟨hx, hb, hr, hml, hown, hts, hX, hbl, hlocks, hgv⟩ := C0
  exact lw_ret hx hb hr hlocks hret.1
