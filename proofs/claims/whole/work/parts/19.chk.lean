/-! ===== String.checkIndex, by hand: it hands on a reference of which nothing is known ===== -/
theorem pn_RJ3 : plainName RJ3 = true := by decide +kernel
set_option maxRecDepth 100000 in
theorem mt_J3 (l : Launch) (i n : Int32) (v : Value) (H0 : Heap) (hi : ¬ i < 0) (hn : i < n) (hv : v = .null ∨ ∃ a, v = .ref a) : Met l yJ3_checkIndex_8e157 (Cond.code yJ3_checkIndex_8e157 cJ3_checkIndex_8e157 3 (some .int) :: mm_T) ({ frames := 0, cells := 0, slots := 0, locals := 0 }) (va_Pc [.int i, .int n, v] (fun U => U.heap = H0)) (va_Qi (fun r (_ : Unit) => r = i) (fun _ t => t.heap = H0) (fun _ => False)) 0 0 (fun _ => False) := by
  refine Met.ofW (cc := cJ3_checkIndex_8e157) (maxL := 3) (ret := some .int) pn_RJ3 rfl ?_
  intro p e s m args below meth c s₁ B hml hp
  obtain ⟨rfl, hh⟩ := hp
  have hx := B.exec
  have hb := B.bytes
  have hr := B.returns
  have hlocks := B.notSynchronized
  have hc1 : v.category = 1 := by rcases hv with rfl | ⟨a, rfl⟩ <;> rfl
  have hl := lv_entry ([.int i, .int n, v]) (n := 3) (by rcases hv with rfl | ⟨a, rfl⟩ <;> simp [lg_sl, Value.category])
  rw [lg_entry_eq]
  generalize (lg_sl ([.int i, .int n, v]) ++ List.replicate (3 - (lg_sl ([.int i, .int n, v])).length) Slot.unset).toArray = ls at hl ⊢
  have hl : lv_has ls 3 [(0, .int i), (1, .int n), (2, v)] := hl
  refine lv_iload_n hx hb dJ3_checkIndex_8e157_0 rfl (lv_at hl 0 rfl) ?_
  refine lv_if_lt (tgt := 9) hx hb dJ3_checkIndex_8e157_1 (by decide) (fun c => absurd c hi) (fun _ => ?_)
  refine lv_iload_n hx hb dJ3_checkIndex_8e157_4 rfl (lv_at hl 0 rfl) ?_
  refine lv_iload_n hx hb dJ3_checkIndex_8e157_5 rfl (lv_at hl 1 rfl) ?_
  refine lv_icmp_lt (tgt := 16) hx hb dJ3_checkIndex_8e157_6 (by decide) (fun _ => ?_) (fun c => absurd hn c)
  refine lv_iload_n hx hb dJ3_checkIndex_8e157_16 rfl (lv_at hl 0 rfl) ?_
  exact W.iret (v := i) hx hb hr (fun t ht hW => ⟨⟨i, (), rfl, rfl, ht.trans hh⟩, by rw [ht]; exact Nat.le_refl _, fun q _ _ => by rw [ht]⟩) (fun q hq => by cases hq) dJ3_checkIndex_8e157_17
def bd_J0_checkIndex_df160 (x0 x1 : Int32) (h : mm_H) : mm_O := if ¬ x0 < 0 ∧ x0 < x1 then some (none, h) else none
set_option maxRecDepth 100000 in
theorem mt_J0_checkIndex_df160 (G : mm_G) (x0 x1 : Int32) (h : mm_H) : mm_Met G my_J0_checkIndex_df160 [.int x0, .int x1] h (bd_J0_checkIndex_df160 x0 x1 h) := by
  refine mm_met (ls := [.int x0, .int x1]) pn_RJ0 (Nat.le_of_ble_eq_true rfl) rfl ?_
  unfold bd_J0_checkIndex_df160
  refine mm_ck (fun c0 => ?_)
  intro w r h' ho
  cases ho
  refine ⟨⟨List.prefix_refl _, w, fun b hb => by cases hb⟩, fun p e R s m args below meth c C H locs cells slots Q lsA N L hc hs he => ?_⟩
  have hx := C.1.1
  have hb : c.code = cJ0_checkIndex_df160 := C.1.2.1
  have hts := C.1.2.2.2.2.1
  have hown : s.vm.findClass RJ0 = some m.cls := C.1.2.2.2.1
  obtain ⟨v, hZ, hv⟩ := C.2.2.1.2.2.2.2.2.2
  refine lv_iload_n hx hb dJ0_checkIndex_df160_0 rfl (L.2 0 (.int x0) rfl (by intro z; cases z)) ?_
  refine lv_iload_n hx hb dJ0_checkIndex_df160_1 rfl (L.2 1 (.int x1) rfl (by intro z; cases z)) ?_
  refine va_gets hx hb hZ N.2.2.1 hown (hts _ wd_577) (fun _ h9 => h9) dJ0_checkIndex_df160_2 ?_
  have cw : CallB R s args RJ0 1059 yJ3_checkIndex_8e157 cJ3_checkIndex_8e157 3 (some .int) (Cond.code yJ3_checkIndex_8e157 cJ3_checkIndex_8e157 3 (some .int) :: mm_T) ({ frames := 0, cells := 0, slots := 0, locals := 0 }) 0 0 3 := by
    refine callB_of (Ts := mm_T) 3 hts (fun w hw => ?_) rfl rfl rfl (hts _ wd_96) (hts _ wd_579) ⟨by decide +kernel, by decide +kernel, by decide +kernel⟩ ⟨?_, ?_⟩
    · rcases List.mem_cons.mp hw with e | e
      · rw [e]; exact mm_goodT wd_581
      · exact mm_goodT e
    · have := C.1.2.2.2.2.2.1
      have h2 : my_J0_checkIndex_df160.2.2.2.2.1 = 2 := rfl
      show 0 + 1 ≤ R.frames
      omega
    · have := C.1.2.2.2.2.2.2
      have h2 : my_J0_checkIndex_df160.2.2.2.2.2 = 102 := rfl
      show 8 + (3 + 11) + 0 ≤ R.locals
      omega
  refine va_calli (va_runS (As := [.int x0, .int x1, v]) (rest := []) (n := 3) ⟨hx, hb, C.1.2.2.1, hown, hts⟩ (mt_J3 G.1 x0 x1 v H c0.1 c0.2 hv) ⟨cw, hts _ wd_580⟩ ⟨fun a U g mk q => q, fun U hU hW => ⟨rfl, hU⟩⟩ rfl rfl L.1.1 rfl (Nat.zero_le 8) dJ0_checkIndex_df160_5 ⟨by omega, by omega⟩) N.2.2.1 (fun q _ hq => absurd hq id) (fun q hq => absurd hq id) (fun r u t H1 locs1 ht hvm hp hB hz hk hS => ?_)
  have e1 : H1 = H := ht.symm.trans hB
  subst e1
  refine lv_pop hx hb dJ0_checkIndex_df160_8 rfl ?_
  have k := he H1 locs1 9 lsA ⟨N.1, N.2.1, hS, N.2.2.2.1, N.2.2.2.2⟩ L.1.1 ⟨dJ0_checkIndex_df160_9, rfl⟩
  rw [Nat.sub_self, Nat.sub_self] at k
  exact k
