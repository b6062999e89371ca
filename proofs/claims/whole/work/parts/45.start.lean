/-! ===== what is there before the law begins ===== -/
def sv_1 : List Int32 := [1779033703, -1150833019, 1013904242, -1521486534, 1359893119, -1694144372, 528734635, 1541459225]
def sv_2 : List Int32 := [1116352408, 1899447441, -1245643825, -373957723, 961987163, 1508970993, -1841331548, -1424204075, -670586216, 310598401, 607225278, 1426881987, 1925078388, -2132889090, -1680079193, -1046744716, -459576895, -272742522, 264347078, 604807628, 770255983, 1249150122, 1555081692, 1996064986, -1740746414, -1473132947, -1341970488, -1084653625, -958395405, -710438585, 113926993, 338241895, 666307205, 773529912, 1294757372, 1396182291, 1695183700, 1986661051, -2117940946, -1838011259, -1564481375, -1474664885, -1035236496, -949202525, -778901479, -694614492, -200395387, 275423344, 430227734, 506948616, 659060556, 883997877, 958139571, 1322822218, 1537002063, 1747873779, 1955562222, 2024104815, -2067236844, -1933114872, -1866530822, -1538233109, -1090935817, -965641998]
def sv_3 : List Int32 := [255, 255, 255, 15, 252, 255, 255, 15, 252, 255, 255, 15, 252, 255, 255, 15]
def sv_4 : List Int32 := [1634760805, 857760878, 2036477234, 1797285236]
def sv_5 : List Int32 := [0, 4, 8, 12, 1, 5, 9, 13, 2, 6, 10, 14, 3, 7, 11, 15, 0, 5, 10, 15, 1, 6, 11, 12, 2, 7, 8, 13, 3, 4, 9, 14]
def sv_6 : List Int32 := [0, 33, 32]
def sv_7 : List Int32 := [0, 0, 2, 19, 3, 1, 0]
def sv_8 : List Int32 := [0, 43, 0, 3, 2, 3, 4, 0, 45, 0, 2, 1, 0, 0, 41]
def sv_9 : List Int32 := [0, 19, 3, 0, 0, 12, 0, 43, 0, 2, 3, 4, 0, 41, 0, 2, 0, 0]
def sv_21 : List Int32 := [101, 120, 116, 32, 98, 105, 110, 100, 101, 114]
def sv_22 : List Int32 := [116, 108, 115, 49, 51, 32]
def sv_23 : List Int32 := [100, 101, 114, 105, 118, 101, 100]
def sv_24 : List Int32 := [102, 105, 110, 105, 115, 104, 101, 100]
def sv_25 : List Int32 := [116, 114, 97, 102, 102, 105, 99, 32, 117, 112, 100]
def sv_26 : List Int32 := [107, 101, 121]
def sv_27 : List Int32 := [105, 118]
def sv_28 : List Int32 := [99, 32, 104, 115, 32, 116, 114, 97, 102, 102, 105, 99]
def sv_29 : List Int32 := [115, 32, 104, 115, 32, 116, 114, 97, 102, 102, 105, 99]
def sv_30 : List Int32 := [115, 32, 97, 112, 32, 116, 114, 97, 102, 102, 105, 99]
def sv_31 : List Int32 := [99, 32, 97, 112, 32, 116, 114, 97, 102, 102, 105, 99]
def st_sh (L : Nat) : List (Nat × Nat) := [(20, L), (20, 8), (20, 64), (20, 16), (20, 4), (20, 32), (20, 3), (20, 7), (20, 15), (20, 18), (26, 0), (26, 0), (26, 0), (26, 0), (26, 0), (26, 0), (26, 0), (26, 0), (26, 0), (26, 0), (26, 0), (21, 10), (21, 6), (21, 7), (21, 8), (21, 11), (21, 3), (21, 2), (21, 12), (21, 12), (21, 12), (21, 12)]
def st_i (xs : Nat → Int32) (a j : Nat) : Int32 := match a with
  | 0 => xs j
  | 1 => sv_1.getD j 0
  | 2 => sv_2.getD j 0
  | 3 => sv_3.getD j 0
  | 4 => sv_4.getD j 0
  | 5 => sv_5.getD j 0
  | 6 => sv_6.getD j 0
  | 7 => sv_7.getD j 0
  | 8 => sv_8.getD j 0
  | 9 => sv_9.getD j 0
  | 21 => sv_21.getD j 0
  | 22 => sv_22.getD j 0
  | 23 => sv_23.getD j 0
  | 24 => sv_24.getD j 0
  | 25 => sv_25.getD j 0
  | 26 => sv_26.getD j 0
  | 27 => sv_27.getD j 0
  | 28 => sv_28.getD j 0
  | 29 => sv_29.getD j 0
  | 30 => sv_30.getD j 0
  | 31 => sv_31.getD j 0
  | _ => 0
def st_h (L : Nat) (xs : Nat → Int32) : mm_H := (st_sh L, st_i xs, fun _ _ => 0, fun _ _ => none)
abbrev st_C : Jvm.Cond := Jvm.Cond.and given_1 narrow_1
set_option maxRecDepth 100000 in
theorem cb_l {a b : Jvm.Cond} {x : Array Value} {s : State} (h : (Jvm.Cond.and a b).before x s = true) : a.before x s = true := by rw [Cond.before_and, Bool.and_eq_true] at h; exact h.1
set_option maxRecDepth 100000 in
theorem cb_r {a b : Jvm.Cond} {x : Array Value} {s : State} (h : (Jvm.Cond.and a b).before x s = true) : b.before x s = true := by rw [Cond.before_and, Bool.and_eq_true] at h; exact h.2
set_option maxRecDepth 100000 in
theorem se_1 {s : State} {b : Nat} (hn : narrow_1.before #[Value.ref b] s = true) : ∀ j : Nat, j < 8 → (Term.elem (.static "SecretEnds$Sha" "FIRST" "[I") (.int (Int32.ofNat j))).eval #[Value.ref b] s none [] s = some (.int (sv_1.getD j 0)) := fun j hj => match j, hj with
  | 0, _ => va_eqt (cb_r (cb_r (cb_r (cb_l (cb_l (cb_l (cb_l (cb_l (cb_l hn)))))))))
  | 1, _ => va_eqt (cb_l (cb_l (cb_r (cb_l (cb_l (cb_l (cb_l (cb_l hn))))))))
  | 2, _ => va_eqt (cb_l (cb_r (cb_l (cb_r (cb_l (cb_l (cb_l (cb_l (cb_l hn)))))))))
  | 3, _ => va_eqt (cb_r (cb_r (cb_l (cb_r (cb_l (cb_l (cb_l (cb_l (cb_l hn)))))))))
  | 4, _ => va_eqt (cb_l (cb_r (cb_r (cb_l (cb_l (cb_l (cb_l (cb_l hn))))))))
  | 5, _ => va_eqt (cb_l (cb_r (cb_r (cb_r (cb_l (cb_l (cb_l (cb_l (cb_l hn)))))))))
  | 6, _ => va_eqt (cb_r (cb_r (cb_r (cb_r (cb_l (cb_l (cb_l (cb_l (cb_l hn)))))))))
  | 7, _ => va_eqt (cb_l (cb_l (cb_l (cb_r (cb_l (cb_l (cb_l (cb_l hn))))))))
  | n + 8, hj => absurd hj (by omega)
set_option maxRecDepth 100000 in
theorem sz_1 {s : State} {b : Nat} (hn : narrow_1.before #[Value.ref b] s = true) {A : Nat → Prop} (hts : ∀ w ∈ lw_tbl, w.before #[Value.ref b] s = true) (hA : ∀ a : Nat, a < s.heap.size → ¬ A a) : ∃ t : Nat, va_Z RX9 "FIRST" "[I" (.ref t) A s s.heap ∧ va_T .int t 8 (fun j => .int (sv_1.getD j 0)) A s s.heap := by
  obtain ⟨t, h1, h2⟩ := va_Tof (tm := (.static "SecretEnds$Sha" "FIRST" "[I")) (ty := .int) (N := 8) (f := fun j => .int (sv_1.getD j 0)) (A := A) (by decide) (cb_l (cb_r (cb_l (cb_l (cb_l (cb_l (cb_l (cb_l hn)))))))) (va_eqt (z := Int32.ofNat 8) (cb_l (cb_r (cb_r (cb_l (cb_l (cb_l (cb_l (cb_l (cb_l hn)))))))))) (se_1 hn) hA
  exact ⟨t, va_Zof (hts _ (List.mem_of_getElem? (i := 149) (by decide +kernel))) (hts _ (List.mem_filter.mp wd_85).1) h1 hA, h2⟩
set_option maxRecDepth 100000 in
theorem se_2 {s : State} {b : Nat} (hn : narrow_1.before #[Value.ref b] s = true) : ∀ j : Nat, j < 64 → (Term.elem (.static "SecretEnds$Sha" "ROUNDS" "[I") (.int (Int32.ofNat j))).eval #[Value.ref b] s none [] s = some (.int (sv_2.getD j 0)) := fun j hj => match j, hj with
  | 0, _ => va_eqt (cb_l (cb_r (cb_r (cb_l (cb_r (cb_l (cb_l (cb_l (cb_l hn)))))))))
  | 1, _ => va_eqt (cb_r (cb_r (cb_r (cb_l (cb_r (cb_l (cb_l (cb_l (cb_l hn)))))))))
  | 2, _ => va_eqt (cb_l (cb_l (cb_r (cb_r (cb_l (cb_l (cb_l (cb_l hn))))))))
  | 3, _ => va_eqt (cb_l (cb_r (cb_l (cb_r (cb_r (cb_l (cb_l (cb_l (cb_l hn)))))))))
  | 4, _ => va_eqt (cb_r (cb_r (cb_l (cb_r (cb_r (cb_l (cb_l (cb_l (cb_l hn)))))))))
  | 5, _ => va_eqt (cb_l (cb_l (cb_r (cb_r (cb_r (cb_l (cb_l (cb_l (cb_l hn)))))))))
  | 6, _ => va_eqt (cb_r (cb_l (cb_r (cb_r (cb_r (cb_l (cb_l (cb_l (cb_l hn)))))))))
  | 7, _ => va_eqt (cb_l (cb_r (cb_r (cb_r (cb_r (cb_l (cb_l (cb_l (cb_l hn)))))))))
  | 8, _ => va_eqt (cb_r (cb_r (cb_r (cb_r (cb_r (cb_l (cb_l (cb_l (cb_l hn)))))))))
  | 9, _ => va_eqt (cb_l (cb_l (cb_l (cb_l (cb_r (cb_l (cb_l (cb_l hn))))))))
  | 10, _ => va_eqt (cb_l (cb_r (cb_l (cb_l (cb_l (cb_r (cb_l (cb_l (cb_l hn)))))))))
  | 11, _ => va_eqt (cb_r (cb_r (cb_l (cb_l (cb_l (cb_r (cb_l (cb_l (cb_l hn)))))))))
  | 12, _ => va_eqt (cb_l (cb_r (cb_l (cb_l (cb_r (cb_l (cb_l (cb_l hn))))))))
  | 13, _ => va_eqt (cb_l (cb_r (cb_r (cb_l (cb_l (cb_r (cb_l (cb_l (cb_l hn)))))))))
  | 14, _ => va_eqt (cb_r (cb_r (cb_r (cb_l (cb_l (cb_r (cb_l (cb_l (cb_l hn)))))))))
  | 15, _ => va_eqt (cb_l (cb_l (cb_r (cb_l (cb_r (cb_l (cb_l (cb_l hn))))))))
  | 16, _ => va_eqt (cb_l (cb_r (cb_l (cb_r (cb_l (cb_r (cb_l (cb_l (cb_l hn)))))))))
  | 17, _ => va_eqt (cb_r (cb_r (cb_l (cb_r (cb_l (cb_r (cb_l (cb_l (cb_l hn)))))))))
  | 18, _ => va_eqt (cb_l (cb_r (cb_r (cb_l (cb_r (cb_l (cb_l (cb_l hn))))))))
  | 19, _ => va_eqt (cb_l (cb_r (cb_r (cb_r (cb_l (cb_r (cb_l (cb_l (cb_l hn)))))))))
  | 20, _ => va_eqt (cb_r (cb_r (cb_r (cb_r (cb_l (cb_r (cb_l (cb_l (cb_l hn)))))))))
  | 21, _ => va_eqt (cb_l (cb_l (cb_l (cb_r (cb_r (cb_l (cb_l (cb_l hn))))))))
  | 22, _ => va_eqt (cb_l (cb_r (cb_l (cb_l (cb_r (cb_r (cb_l (cb_l (cb_l hn)))))))))
  | 23, _ => va_eqt (cb_r (cb_r (cb_l (cb_l (cb_r (cb_r (cb_l (cb_l (cb_l hn)))))))))
  | 24, _ => va_eqt (cb_l (cb_r (cb_l (cb_r (cb_r (cb_l (cb_l (cb_l hn))))))))
  | 25, _ => va_eqt (cb_l (cb_r (cb_r (cb_l (cb_r (cb_r (cb_l (cb_l (cb_l hn)))))))))
  | 26, _ => va_eqt (cb_r (cb_r (cb_r (cb_l (cb_r (cb_r (cb_l (cb_l (cb_l hn)))))))))
  | 27, _ => va_eqt (cb_l (cb_l (cb_r (cb_r (cb_r (cb_l (cb_l (cb_l hn))))))))
  | 28, _ => va_eqt (cb_l (cb_r (cb_l (cb_r (cb_r (cb_r (cb_l (cb_l (cb_l hn)))))))))
  | 29, _ => va_eqt (cb_r (cb_r (cb_l (cb_r (cb_r (cb_r (cb_l (cb_l (cb_l hn)))))))))
  | 30, _ => va_eqt (cb_l (cb_l (cb_r (cb_r (cb_r (cb_r (cb_l (cb_l (cb_l hn)))))))))
  | 31, _ => va_eqt (cb_r (cb_l (cb_r (cb_r (cb_r (cb_r (cb_l (cb_l (cb_l hn)))))))))
  | 32, _ => va_eqt (cb_l (cb_r (cb_r (cb_r (cb_r (cb_r (cb_l (cb_l (cb_l hn)))))))))
  | 33, _ => va_eqt (cb_r (cb_r (cb_r (cb_r (cb_r (cb_r (cb_l (cb_l (cb_l hn)))))))))
  | 34, _ => va_eqt (cb_l (cb_l (cb_l (cb_l (cb_l (cb_r (cb_l (cb_l hn))))))))
  | 35, _ => va_eqt (cb_l (cb_r (cb_l (cb_l (cb_l (cb_l (cb_r (cb_l (cb_l hn)))))))))
  | 36, _ => va_eqt (cb_r (cb_r (cb_l (cb_l (cb_l (cb_l (cb_r (cb_l (cb_l hn)))))))))
  | 37, _ => va_eqt (cb_l (cb_r (cb_l (cb_l (cb_l (cb_r (cb_l (cb_l hn))))))))
  | 38, _ => va_eqt (cb_l (cb_r (cb_r (cb_l (cb_l (cb_l (cb_r (cb_l (cb_l hn)))))))))
  | 39, _ => va_eqt (cb_r (cb_r (cb_r (cb_l (cb_l (cb_l (cb_r (cb_l (cb_l hn)))))))))
  | 40, _ => va_eqt (cb_l (cb_l (cb_r (cb_l (cb_l (cb_r (cb_l (cb_l hn))))))))
  | 41, _ => va_eqt (cb_l (cb_r (cb_l (cb_r (cb_l (cb_l (cb_r (cb_l (cb_l hn)))))))))
  | 42, _ => va_eqt (cb_r (cb_r (cb_l (cb_r (cb_l (cb_l (cb_r (cb_l (cb_l hn)))))))))
  | 43, _ => va_eqt (cb_l (cb_r (cb_r (cb_l (cb_l (cb_r (cb_l (cb_l hn))))))))
  | 44, _ => va_eqt (cb_l (cb_r (cb_r (cb_r (cb_l (cb_l (cb_r (cb_l (cb_l hn)))))))))
  | 45, _ => va_eqt (cb_r (cb_r (cb_r (cb_r (cb_l (cb_l (cb_r (cb_l (cb_l hn)))))))))
  | 46, _ => va_eqt (cb_l (cb_l (cb_l (cb_r (cb_l (cb_r (cb_l (cb_l hn))))))))
  | 47, _ => va_eqt (cb_l (cb_r (cb_l (cb_l (cb_r (cb_l (cb_r (cb_l (cb_l hn)))))))))
  | 48, _ => va_eqt (cb_r (cb_r (cb_l (cb_l (cb_r (cb_l (cb_r (cb_l (cb_l hn)))))))))
  | 49, _ => va_eqt (cb_l (cb_r (cb_l (cb_r (cb_l (cb_r (cb_l (cb_l hn))))))))
  | 50, _ => va_eqt (cb_l (cb_r (cb_r (cb_l (cb_r (cb_l (cb_r (cb_l (cb_l hn)))))))))
  | 51, _ => va_eqt (cb_r (cb_r (cb_r (cb_l (cb_r (cb_l (cb_r (cb_l (cb_l hn)))))))))
  | 52, _ => va_eqt (cb_l (cb_l (cb_r (cb_r (cb_l (cb_r (cb_l (cb_l hn))))))))
  | 53, _ => va_eqt (cb_l (cb_r (cb_l (cb_r (cb_r (cb_l (cb_r (cb_l (cb_l hn)))))))))
  | 54, _ => va_eqt (cb_r (cb_r (cb_l (cb_r (cb_r (cb_l (cb_r (cb_l (cb_l hn)))))))))
  | 55, _ => va_eqt (cb_l (cb_l (cb_r (cb_r (cb_r (cb_l (cb_r (cb_l (cb_l hn)))))))))
  | 56, _ => va_eqt (cb_r (cb_l (cb_r (cb_r (cb_r (cb_l (cb_r (cb_l (cb_l hn)))))))))
  | 57, _ => va_eqt (cb_l (cb_r (cb_r (cb_r (cb_r (cb_l (cb_r (cb_l (cb_l hn)))))))))
  | 58, _ => va_eqt (cb_r (cb_r (cb_r (cb_r (cb_r (cb_l (cb_r (cb_l (cb_l hn)))))))))
  | 59, _ => va_eqt (cb_l (cb_l (cb_l (cb_l (cb_r (cb_r (cb_l (cb_l hn))))))))
  | 60, _ => va_eqt (cb_l (cb_r (cb_l (cb_l (cb_l (cb_r (cb_r (cb_l (cb_l hn)))))))))
  | 61, _ => va_eqt (cb_r (cb_r (cb_l (cb_l (cb_l (cb_r (cb_r (cb_l (cb_l hn)))))))))
  | 62, _ => va_eqt (cb_l (cb_r (cb_l (cb_l (cb_r (cb_r (cb_l (cb_l hn))))))))
  | 63, _ => va_eqt (cb_l (cb_r (cb_r (cb_l (cb_l (cb_r (cb_r (cb_l (cb_l hn)))))))))
  | n + 64, hj => absurd hj (by omega)
set_option maxRecDepth 100000 in
theorem sz_2 {s : State} {b : Nat} (hn : narrow_1.before #[Value.ref b] s = true) {A : Nat → Prop} (hts : ∀ w ∈ lw_tbl, w.before #[Value.ref b] s = true) (hA : ∀ a : Nat, a < s.heap.size → ¬ A a) : ∃ t : Nat, va_Z RX9 "ROUNDS" "[I" (.ref t) A s s.heap ∧ va_T .int t 64 (fun j => .int (sv_2.getD j 0)) A s s.heap := by
  obtain ⟨t, h1, h2⟩ := va_Tof (tm := (.static "SecretEnds$Sha" "ROUNDS" "[I")) (ty := .int) (N := 64) (f := fun j => .int (sv_2.getD j 0)) (A := A) (by decide) (cb_r (cb_r (cb_l (cb_l (cb_r (cb_l (cb_l (cb_l (cb_l hn))))))))) (va_eqt (z := Int32.ofNat 64) (cb_l (cb_r (cb_l (cb_r (cb_l (cb_l (cb_l (cb_l hn))))))))) (se_2 hn) hA
  exact ⟨t, va_Zof (hts _ (List.mem_of_getElem? (i := 151) (by decide +kernel))) (hts _ (List.mem_filter.mp wd_85).1) h1 hA, h2⟩
set_option maxRecDepth 100000 in
theorem se_3 {s : State} {b : Nat} (hn : narrow_1.before #[Value.ref b] s = true) : ∀ j : Nat, j < 16 → (Term.elem (.static "SecretEnds$Poly" "CLAMP" "[I") (.int (Int32.ofNat j))).eval #[Value.ref b] s none [] s = some (.int (sv_3.getD j 0)) := fun j hj => match j, hj with
  | 0, _ => va_eqt (cb_l (cb_r (cb_l (cb_l (cb_r (cb_l (cb_r (cb_r (cb_l hn)))))))))
  | 1, _ => va_eqt (cb_r (cb_r (cb_l (cb_l (cb_r (cb_l (cb_r (cb_r (cb_l hn)))))))))
  | 2, _ => va_eqt (cb_l (cb_r (cb_l (cb_r (cb_l (cb_r (cb_r (cb_l hn))))))))
  | 3, _ => va_eqt (cb_l (cb_r (cb_r (cb_l (cb_r (cb_l (cb_r (cb_r (cb_l hn)))))))))
  | 4, _ => va_eqt (cb_r (cb_r (cb_r (cb_l (cb_r (cb_l (cb_r (cb_r (cb_l hn)))))))))
  | 5, _ => va_eqt (cb_l (cb_l (cb_r (cb_r (cb_l (cb_r (cb_r (cb_l hn))))))))
  | 6, _ => va_eqt (cb_l (cb_r (cb_l (cb_r (cb_r (cb_l (cb_r (cb_r (cb_l hn)))))))))
  | 7, _ => va_eqt (cb_r (cb_r (cb_l (cb_r (cb_r (cb_l (cb_r (cb_r (cb_l hn)))))))))
  | 8, _ => va_eqt (cb_l (cb_l (cb_r (cb_r (cb_r (cb_l (cb_r (cb_r (cb_l hn)))))))))
  | 9, _ => va_eqt (cb_r (cb_l (cb_r (cb_r (cb_r (cb_l (cb_r (cb_r (cb_l hn)))))))))
  | 10, _ => va_eqt (cb_l (cb_r (cb_r (cb_r (cb_r (cb_l (cb_r (cb_r (cb_l hn)))))))))
  | 11, _ => va_eqt (cb_r (cb_r (cb_r (cb_r (cb_r (cb_l (cb_r (cb_r (cb_l hn)))))))))
  | 12, _ => va_eqt (cb_l (cb_l (cb_l (cb_l (cb_r (cb_r (cb_r (cb_l hn))))))))
  | 13, _ => va_eqt (cb_l (cb_r (cb_l (cb_l (cb_l (cb_r (cb_r (cb_r (cb_l hn)))))))))
  | 14, _ => va_eqt (cb_r (cb_r (cb_l (cb_l (cb_l (cb_r (cb_r (cb_r (cb_l hn)))))))))
  | 15, _ => va_eqt (cb_l (cb_r (cb_l (cb_l (cb_r (cb_r (cb_r (cb_l hn))))))))
  | n + 16, hj => absurd hj (by omega)
set_option maxRecDepth 100000 in
theorem sz_3 {s : State} {b : Nat} (hn : narrow_1.before #[Value.ref b] s = true) {A : Nat → Prop} (hts : ∀ w ∈ lw_tbl, w.before #[Value.ref b] s = true) (hA : ∀ a : Nat, a < s.heap.size → ¬ A a) : ∃ t : Nat, va_Z RX5 "CLAMP" "[I" (.ref t) A s s.heap ∧ va_T .int t 16 (fun j => .int (sv_3.getD j 0)) A s s.heap := by
  obtain ⟨t, h1, h2⟩ := va_Tof (tm := (.static "SecretEnds$Poly" "CLAMP" "[I")) (ty := .int) (N := 16) (f := fun j => .int (sv_3.getD j 0)) (A := A) (by decide) (cb_r (cb_r (cb_r (cb_r (cb_l (cb_l (cb_r (cb_r (cb_l hn))))))))) (va_eqt (z := Int32.ofNat 16) (cb_l (cb_l (cb_l (cb_r (cb_l (cb_r (cb_r (cb_l hn))))))))) (se_3 hn) hA
  exact ⟨t, va_Zof (hts _ (List.mem_of_getElem? (i := 699) (by decide +kernel))) (hts _ (List.mem_filter.mp wd_88).1) h1 hA, h2⟩
set_option maxRecDepth 100000 in
theorem se_4 {s : State} {b : Nat} (hn : narrow_1.before #[Value.ref b] s = true) : ∀ j : Nat, j < 4 → (Term.elem (.static "SecretEnds$Sealer" "FIRST" "[I") (.int (Int32.ofNat j))).eval #[Value.ref b] s none [] s = some (.int (sv_4.getD j 0)) := fun j hj => match j, hj with
  | 0, _ => va_eqt (cb_l (cb_l (cb_r (cb_r (cb_r (cb_l (cb_l (cb_r (cb_l hn)))))))))
  | 1, _ => va_eqt (cb_r (cb_l (cb_r (cb_r (cb_r (cb_l (cb_l (cb_r (cb_l hn)))))))))
  | 2, _ => va_eqt (cb_l (cb_r (cb_r (cb_r (cb_r (cb_l (cb_l (cb_r (cb_l hn)))))))))
  | 3, _ => va_eqt (cb_r (cb_r (cb_r (cb_r (cb_r (cb_l (cb_l (cb_r (cb_l hn)))))))))
  | n + 4, hj => absurd hj (by omega)
set_option maxRecDepth 100000 in
theorem sz_4 {s : State} {b : Nat} (hn : narrow_1.before #[Value.ref b] s = true) {A : Nat → Prop} (hts : ∀ w ∈ lw_tbl, w.before #[Value.ref b] s = true) (hA : ∀ a : Nat, a < s.heap.size → ¬ A a) : ∃ t : Nat, va_Z RX8 "FIRST" "[I" (.ref t) A s s.heap ∧ va_T .int t 4 (fun j => .int (sv_4.getD j 0)) A s s.heap := by
  obtain ⟨t, h1, h2⟩ := va_Tof (tm := (.static "SecretEnds$Sealer" "FIRST" "[I")) (ty := .int) (N := 4) (f := fun j => .int (sv_4.getD j 0)) (A := A) (by decide) (cb_l (cb_r (cb_l (cb_r (cb_r (cb_l (cb_l (cb_r (cb_l hn))))))))) (va_eqt (z := Int32.ofNat 4) (cb_r (cb_r (cb_l (cb_r (cb_r (cb_l (cb_l (cb_r (cb_l hn)))))))))) (se_4 hn) hA
  exact ⟨t, va_Zof (hts _ (List.mem_of_getElem? (i := 659) (by decide +kernel))) (hts _ (List.mem_filter.mp wd_87).1) h1 hA, h2⟩
set_option maxRecDepth 100000 in
theorem se_5 {s : State} {b : Nat} (hn : narrow_1.before #[Value.ref b] s = true) : ∀ j : Nat, j < 32 → (Term.elem (.static "SecretEnds$Sealer" "QUARTERS" "[I") (.int (Int32.ofNat j))).eval #[Value.ref b] s none [] s = some (.int (sv_5.getD j 0)) := fun j hj => match j, hj with
  | 0, _ => va_eqt (cb_l (cb_r (cb_l (cb_l (cb_r (cb_l (cb_r (cb_l hn))))))))
  | 1, _ => va_eqt (cb_l (cb_r (cb_r (cb_l (cb_l (cb_r (cb_l (cb_r (cb_l hn)))))))))
  | 2, _ => va_eqt (cb_r (cb_r (cb_r (cb_l (cb_l (cb_r (cb_l (cb_r (cb_l hn)))))))))
  | 3, _ => va_eqt (cb_l (cb_l (cb_r (cb_l (cb_r (cb_l (cb_r (cb_l hn))))))))
  | 4, _ => va_eqt (cb_l (cb_r (cb_l (cb_r (cb_l (cb_r (cb_l (cb_r (cb_l hn)))))))))
  | 5, _ => va_eqt (cb_r (cb_r (cb_l (cb_r (cb_l (cb_r (cb_l (cb_r (cb_l hn)))))))))
  | 6, _ => va_eqt (cb_l (cb_r (cb_r (cb_l (cb_r (cb_l (cb_r (cb_l hn))))))))
  | 7, _ => va_eqt (cb_l (cb_r (cb_r (cb_r (cb_l (cb_r (cb_l (cb_r (cb_l hn)))))))))
  | 8, _ => va_eqt (cb_r (cb_r (cb_r (cb_r (cb_l (cb_r (cb_l (cb_r (cb_l hn)))))))))
  | 9, _ => va_eqt (cb_l (cb_l (cb_l (cb_r (cb_r (cb_l (cb_r (cb_l hn))))))))
  | 10, _ => va_eqt (cb_l (cb_r (cb_l (cb_l (cb_r (cb_r (cb_l (cb_r (cb_l hn)))))))))
  | 11, _ => va_eqt (cb_r (cb_r (cb_l (cb_l (cb_r (cb_r (cb_l (cb_r (cb_l hn)))))))))
  | 12, _ => va_eqt (cb_l (cb_r (cb_l (cb_r (cb_r (cb_l (cb_r (cb_l hn))))))))
  | 13, _ => va_eqt (cb_l (cb_r (cb_r (cb_l (cb_r (cb_r (cb_l (cb_r (cb_l hn)))))))))
  | 14, _ => va_eqt (cb_r (cb_r (cb_r (cb_l (cb_r (cb_r (cb_l (cb_r (cb_l hn)))))))))
  | 15, _ => va_eqt (cb_l (cb_l (cb_r (cb_r (cb_r (cb_l (cb_r (cb_l hn))))))))
  | 16, _ => va_eqt (cb_l (cb_r (cb_l (cb_r (cb_r (cb_r (cb_l (cb_r (cb_l hn)))))))))
  | 17, _ => va_eqt (cb_r (cb_r (cb_l (cb_r (cb_r (cb_r (cb_l (cb_r (cb_l hn)))))))))
  | 18, _ => va_eqt (cb_l (cb_l (cb_r (cb_r (cb_r (cb_r (cb_l (cb_r (cb_l hn)))))))))
  | 19, _ => va_eqt (cb_r (cb_l (cb_r (cb_r (cb_r (cb_r (cb_l (cb_r (cb_l hn)))))))))
  | 20, _ => va_eqt (cb_l (cb_r (cb_r (cb_r (cb_r (cb_r (cb_l (cb_r (cb_l hn)))))))))
  | 21, _ => va_eqt (cb_r (cb_r (cb_r (cb_r (cb_r (cb_r (cb_l (cb_r (cb_l hn)))))))))
  | 22, _ => va_eqt (cb_l (cb_l (cb_l (cb_l (cb_l (cb_r (cb_r (cb_l hn))))))))
  | 23, _ => va_eqt (cb_l (cb_r (cb_l (cb_l (cb_l (cb_l (cb_r (cb_r (cb_l hn)))))))))
  | 24, _ => va_eqt (cb_r (cb_r (cb_l (cb_l (cb_l (cb_l (cb_r (cb_r (cb_l hn)))))))))
  | 25, _ => va_eqt (cb_l (cb_r (cb_l (cb_l (cb_l (cb_r (cb_r (cb_l hn))))))))
  | 26, _ => va_eqt (cb_l (cb_r (cb_r (cb_l (cb_l (cb_l (cb_r (cb_r (cb_l hn)))))))))
  | 27, _ => va_eqt (cb_r (cb_r (cb_r (cb_l (cb_l (cb_l (cb_r (cb_r (cb_l hn)))))))))
  | 28, _ => va_eqt (cb_l (cb_l (cb_r (cb_l (cb_l (cb_r (cb_r (cb_l hn))))))))
  | 29, _ => va_eqt (cb_l (cb_r (cb_l (cb_r (cb_l (cb_l (cb_r (cb_r (cb_l hn)))))))))
  | 30, _ => va_eqt (cb_r (cb_r (cb_l (cb_r (cb_l (cb_l (cb_r (cb_r (cb_l hn)))))))))
  | 31, _ => va_eqt (cb_l (cb_r (cb_r (cb_l (cb_l (cb_r (cb_r (cb_l hn))))))))
  | n + 32, hj => absurd hj (by omega)
set_option maxRecDepth 100000 in
theorem sz_5 {s : State} {b : Nat} (hn : narrow_1.before #[Value.ref b] s = true) {A : Nat → Prop} (hts : ∀ w ∈ lw_tbl, w.before #[Value.ref b] s = true) (hA : ∀ a : Nat, a < s.heap.size → ¬ A a) : ∃ t : Nat, va_Z RX8 "QUARTERS" "[I" (.ref t) A s s.heap ∧ va_T .int t 32 (fun j => .int (sv_5.getD j 0)) A s s.heap := by
  obtain ⟨t, h1, h2⟩ := va_Tof (tm := (.static "SecretEnds$Sealer" "QUARTERS" "[I")) (ty := .int) (N := 32) (f := fun j => .int (sv_5.getD j 0)) (A := A) (by decide) (cb_l (cb_r (cb_l (cb_l (cb_l (cb_r (cb_l (cb_r (cb_l hn))))))))) (va_eqt (z := Int32.ofNat 32) (cb_r (cb_r (cb_l (cb_l (cb_l (cb_r (cb_l (cb_r (cb_l hn)))))))))) (se_5 hn) hA
  exact ⟨t, va_Zof (hts _ (List.mem_of_getElem? (i := 674) (by decide +kernel))) (hts _ (List.mem_filter.mp wd_87).1) h1 hA, h2⟩
set_option maxRecDepth 100000 in
theorem se_6 {s : State} {b : Nat} (hn : narrow_1.before #[Value.ref b] s = true) : ∀ j : Nat, j < 3 → (Term.elem (.static "SecretEnds$Messages" "BINDER_AHEAD" "[I") (.int (Int32.ofNat j))).eval #[Value.ref b] s none [] s = some (.int (sv_6.getD j 0)) := fun j hj => match j, hj with
  | 0, _ => va_eqt (cb_l (cb_r (cb_l (cb_r (cb_l (cb_l (cb_r (cb_l hn))))))))
  | 1, _ => va_eqt (cb_l (cb_r (cb_r (cb_l (cb_r (cb_l (cb_l (cb_r (cb_l hn)))))))))
  | 2, _ => va_eqt (cb_r (cb_r (cb_r (cb_l (cb_r (cb_l (cb_l (cb_r (cb_l hn)))))))))
  | n + 3, hj => absurd hj (by omega)
set_option maxRecDepth 100000 in
theorem sz_6 {s : State} {b : Nat} (hn : narrow_1.before #[Value.ref b] s = true) {A : Nat → Prop} (hts : ∀ w ∈ lw_tbl, w.before #[Value.ref b] s = true) (hA : ∀ a : Nat, a < s.heap.size → ¬ A a) : ∃ t : Nat, va_Z RX3 "BINDER_AHEAD" "[I" (.ref t) A s s.heap ∧ va_T .int t 3 (fun j => .int (sv_6.getD j 0)) A s s.heap := by
  obtain ⟨t, h1, h2⟩ := va_Tof (tm := (.static "SecretEnds$Messages" "BINDER_AHEAD" "[I")) (ty := .int) (N := 3) (f := fun j => .int (sv_6.getD j 0)) (A := A) (by decide) (cb_l (cb_r (cb_l (cb_l (cb_r (cb_l (cb_l (cb_r (cb_l hn))))))))) (va_eqt (z := Int32.ofNat 3) (cb_r (cb_r (cb_l (cb_l (cb_r (cb_l (cb_l (cb_r (cb_l hn)))))))))) (se_6 hn) hA
  exact ⟨t, va_Zof (hts _ (List.mem_of_getElem? (i := 632) (by decide +kernel))) (hts _ (List.mem_filter.mp wd_98).1) h1 hA, h2⟩
set_option maxRecDepth 100000 in
theorem se_7 {s : State} {b : Nat} (hn : narrow_1.before #[Value.ref b] s = true) : ∀ j : Nat, j < 7 → (Term.elem (.static "SecretEnds$Messages" "CLIENT_CHOICE" "[I") (.int (Int32.ofNat j))).eval #[Value.ref b] s none [] s = some (.int (sv_7.getD j 0)) := fun j hj => match j, hj with
  | 0, _ => va_eqt (cb_l (cb_l (cb_l (cb_r (cb_r (cb_r (cb_l (cb_l hn))))))))
  | 1, _ => va_eqt (cb_l (cb_r (cb_l (cb_l (cb_r (cb_r (cb_r (cb_l (cb_l hn)))))))))
  | 2, _ => va_eqt (cb_r (cb_r (cb_l (cb_l (cb_r (cb_r (cb_r (cb_l (cb_l hn)))))))))
  | 3, _ => va_eqt (cb_l (cb_r (cb_l (cb_r (cb_r (cb_r (cb_l (cb_l hn))))))))
  | 4, _ => va_eqt (cb_l (cb_r (cb_r (cb_l (cb_r (cb_r (cb_r (cb_l (cb_l hn)))))))))
  | 5, _ => va_eqt (cb_r (cb_r (cb_r (cb_l (cb_r (cb_r (cb_r (cb_l (cb_l hn)))))))))
  | 6, _ => va_eqt (cb_l (cb_l (cb_r (cb_r (cb_r (cb_r (cb_l (cb_l hn))))))))
  | n + 7, hj => absurd hj (by omega)
set_option maxRecDepth 100000 in
theorem sz_7 {s : State} {b : Nat} (hn : narrow_1.before #[Value.ref b] s = true) {A : Nat → Prop} (hts : ∀ w ∈ lw_tbl, w.before #[Value.ref b] s = true) (hA : ∀ a : Nat, a < s.heap.size → ¬ A a) : ∃ t : Nat, va_Z RX3 "CLIENT_CHOICE" "[I" (.ref t) A s s.heap ∧ va_T .int t 7 (fun j => .int (sv_7.getD j 0)) A s s.heap := by
  obtain ⟨t, h1, h2⟩ := va_Tof (tm := (.static "SecretEnds$Messages" "CLIENT_CHOICE" "[I")) (ty := .int) (N := 7) (f := fun j => .int (sv_7.getD j 0)) (A := A) (by decide) (cb_l (cb_r (cb_r (cb_r (cb_l (cb_r (cb_r (cb_l (cb_l hn))))))))) (va_eqt (z := Int32.ofNat 7) (cb_r (cb_r (cb_r (cb_r (cb_l (cb_r (cb_r (cb_l (cb_l hn)))))))))) (se_7 hn) hA
  exact ⟨t, va_Zof (hts _ (List.mem_of_getElem? (i := 619) (by decide +kernel))) (hts _ (List.mem_filter.mp wd_98).1) h1 hA, h2⟩
set_option maxRecDepth 100000 in
theorem se_8 {s : State} {b : Nat} (hn : narrow_1.before #[Value.ref b] s = true) : ∀ j : Nat, j < 15 → (Term.elem (.static "SecretEnds$Messages" "CLIENT_EXTENSIONS" "[I") (.int (Int32.ofNat j))).eval #[Value.ref b] s none [] s = some (.int (sv_8.getD j 0)) := fun j hj => match j, hj with
  | 0, _ => va_eqt (cb_r (cb_l (cb_r (cb_r (cb_r (cb_r (cb_r (cb_l (cb_l hn)))))))))
  | 1, _ => va_eqt (cb_l (cb_r (cb_r (cb_r (cb_r (cb_r (cb_r (cb_l (cb_l hn)))))))))
  | 2, _ => va_eqt (cb_r (cb_r (cb_r (cb_r (cb_r (cb_r (cb_r (cb_l (cb_l hn)))))))))
  | 3, _ => va_eqt (cb_l (cb_l (cb_l (cb_l (cb_l (cb_l (cb_r (cb_l hn))))))))
  | 4, _ => va_eqt (cb_l (cb_r (cb_l (cb_l (cb_l (cb_l (cb_l (cb_r (cb_l hn)))))))))
  | 5, _ => va_eqt (cb_r (cb_r (cb_l (cb_l (cb_l (cb_l (cb_l (cb_r (cb_l hn)))))))))
  | 6, _ => va_eqt (cb_l (cb_r (cb_l (cb_l (cb_l (cb_l (cb_r (cb_l hn))))))))
  | 7, _ => va_eqt (cb_l (cb_r (cb_r (cb_l (cb_l (cb_l (cb_l (cb_r (cb_l hn)))))))))
  | 8, _ => va_eqt (cb_r (cb_r (cb_r (cb_l (cb_l (cb_l (cb_l (cb_r (cb_l hn)))))))))
  | 9, _ => va_eqt (cb_l (cb_l (cb_r (cb_l (cb_l (cb_l (cb_r (cb_l hn))))))))
  | 10, _ => va_eqt (cb_l (cb_r (cb_l (cb_r (cb_l (cb_l (cb_l (cb_r (cb_l hn)))))))))
  | 11, _ => va_eqt (cb_r (cb_r (cb_l (cb_r (cb_l (cb_l (cb_l (cb_r (cb_l hn)))))))))
  | 12, _ => va_eqt (cb_l (cb_r (cb_r (cb_l (cb_l (cb_l (cb_r (cb_l hn))))))))
  | 13, _ => va_eqt (cb_l (cb_r (cb_r (cb_r (cb_l (cb_l (cb_l (cb_r (cb_l hn)))))))))
  | 14, _ => va_eqt (cb_r (cb_r (cb_r (cb_r (cb_l (cb_l (cb_l (cb_r (cb_l hn)))))))))
  | n + 15, hj => absurd hj (by omega)
set_option maxRecDepth 100000 in
theorem sz_8 {s : State} {b : Nat} (hn : narrow_1.before #[Value.ref b] s = true) {A : Nat → Prop} (hts : ∀ w ∈ lw_tbl, w.before #[Value.ref b] s = true) (hA : ∀ a : Nat, a < s.heap.size → ¬ A a) : ∃ t : Nat, va_Z RX3 "CLIENT_EXTENSIONS" "[I" (.ref t) A s s.heap ∧ va_T .int t 15 (fun j => .int (sv_8.getD j 0)) A s s.heap := by
  obtain ⟨t, h1, h2⟩ := va_Tof (tm := (.static "SecretEnds$Messages" "CLIENT_EXTENSIONS" "[I")) (ty := .int) (N := 15) (f := fun j => .int (sv_8.getD j 0)) (A := A) (by decide) (cb_r (cb_r (cb_l (cb_r (cb_r (cb_r (cb_r (cb_l (cb_l hn))))))))) (va_eqt (z := Int32.ofNat 15) (cb_l (cb_l (cb_r (cb_r (cb_r (cb_r (cb_r (cb_l (cb_l hn)))))))))) (se_8 hn) hA
  exact ⟨t, va_Zof (hts _ (List.mem_of_getElem? (i := 625) (by decide +kernel))) (hts _ (List.mem_filter.mp wd_98).1) h1 hA, h2⟩
set_option maxRecDepth 100000 in
theorem se_9 {s : State} {b : Nat} (hn : narrow_1.before #[Value.ref b] s = true) : ∀ j : Nat, j < 18 → (Term.elem (.static "SecretEnds$Messages" "SERVER_CHOICE" "[I") (.int (Int32.ofNat j))).eval #[Value.ref b] s none [] s = some (.int (sv_9.getD j 0)) := fun j hj => match j, hj with
  | 0, _ => va_eqt (cb_l (cb_r (cb_l (cb_r (cb_l (cb_r (cb_r (cb_r (cb_l hn)))))))))
  | 1, _ => va_eqt (cb_r (cb_r (cb_l (cb_r (cb_l (cb_r (cb_r (cb_r (cb_l hn)))))))))
  | 2, _ => va_eqt (cb_l (cb_l (cb_r (cb_r (cb_l (cb_r (cb_r (cb_r (cb_l hn)))))))))
  | 3, _ => va_eqt (cb_r (cb_l (cb_r (cb_r (cb_l (cb_r (cb_r (cb_r (cb_l hn)))))))))
  | 4, _ => va_eqt (cb_l (cb_r (cb_r (cb_r (cb_l (cb_r (cb_r (cb_r (cb_l hn)))))))))
  | 5, _ => va_eqt (cb_r (cb_r (cb_r (cb_r (cb_l (cb_r (cb_r (cb_r (cb_l hn)))))))))
  | 6, _ => va_eqt (cb_l (cb_l (cb_l (cb_r (cb_r (cb_r (cb_r (cb_l hn))))))))
  | 7, _ => va_eqt (cb_l (cb_r (cb_l (cb_l (cb_r (cb_r (cb_r (cb_r (cb_l hn)))))))))
  | 8, _ => va_eqt (cb_r (cb_r (cb_l (cb_l (cb_r (cb_r (cb_r (cb_r (cb_l hn)))))))))
  | 9, _ => va_eqt (cb_l (cb_r (cb_l (cb_r (cb_r (cb_r (cb_r (cb_l hn))))))))
  | 10, _ => va_eqt (cb_l (cb_r (cb_r (cb_l (cb_r (cb_r (cb_r (cb_r (cb_l hn)))))))))
  | 11, _ => va_eqt (cb_r (cb_r (cb_r (cb_l (cb_r (cb_r (cb_r (cb_r (cb_l hn)))))))))
  | 12, _ => va_eqt (cb_l (cb_l (cb_r (cb_r (cb_r (cb_r (cb_r (cb_l hn))))))))
  | 13, _ => va_eqt (cb_l (cb_r (cb_l (cb_r (cb_r (cb_r (cb_r (cb_r (cb_l hn)))))))))
  | 14, _ => va_eqt (cb_r (cb_r (cb_l (cb_r (cb_r (cb_r (cb_r (cb_r (cb_l hn)))))))))
  | 15, _ => va_eqt (cb_l (cb_l (cb_r (cb_r (cb_r (cb_r (cb_r (cb_r (cb_l hn)))))))))
  | 16, _ => va_eqt (cb_r (cb_l (cb_r (cb_r (cb_r (cb_r (cb_r (cb_r (cb_l hn)))))))))
  | 17, _ => va_eqt (cb_l (cb_r (cb_r (cb_r (cb_r (cb_r (cb_r (cb_r (cb_l hn)))))))))
  | n + 18, hj => absurd hj (by omega)
set_option maxRecDepth 100000 in
theorem sz_9 {s : State} {b : Nat} (hn : narrow_1.before #[Value.ref b] s = true) {A : Nat → Prop} (hts : ∀ w ∈ lw_tbl, w.before #[Value.ref b] s = true) (hA : ∀ a : Nat, a < s.heap.size → ¬ A a) : ∃ t : Nat, va_Z RX3 "SERVER_CHOICE" "[I" (.ref t) A s s.heap ∧ va_T .int t 18 (fun j => .int (sv_9.getD j 0)) A s s.heap := by
  obtain ⟨t, h1, h2⟩ := va_Tof (tm := (.static "SecretEnds$Messages" "SERVER_CHOICE" "[I")) (ty := .int) (N := 18) (f := fun j => .int (sv_9.getD j 0)) (A := A) (by decide) (cb_r (cb_r (cb_r (cb_l (cb_l (cb_r (cb_r (cb_r (cb_l hn))))))))) (va_eqt (z := Int32.ofNat 18) (cb_l (cb_l (cb_r (cb_l (cb_r (cb_r (cb_r (cb_l hn))))))))) (se_9 hn) hA
  exact ⟨t, va_Zof (hts _ (List.mem_of_getElem? (i := 853) (by decide +kernel))) (hts _ (List.mem_filter.mp wd_98).1) h1 hA, h2⟩
def st_tm (i : Nat) : Term := match i with
  | 0 => .string "SecretEnds$Schedule" 58
  | 1 => .string "SecretEnds$Kdf" 71
  | 2 => .string "SecretEnds$Schedule" 64
  | 3 => .string "SecretEnds$Schedule" 66
  | 4 => .string "SecretEnds$End" 151
  | 5 => .string "SecretEnds$Keys" 40
  | 6 => .string "SecretEnds$Keys" 44
  | 7 => .string "SecretEnds$End" 307
  | 8 => .string "SecretEnds$End" 309
  | 9 => .string "SecretEnds$End" 317
  | _ => .string "SecretEnds$End" 319
def st_len : List Nat := [10, 6, 7, 8, 11, 3, 2, 12, 12, 12, 12]
def st_byt : List (List Int32) := [sv_21, sv_22, sv_23, sv_24, sv_25, sv_26, sv_27, sv_28, sv_29, sv_30, sv_31]
set_option maxRecDepth 100000 in
theorem ss_1 {s : State} {b : Nat} (hn : narrow_1.before #[Value.ref b] s = true) : ∀ i : Nat, i < 11 → (Cond.exactly (st_tm i) "java/lang/String").before #[Value.ref b] s = true := fun i hi => match i, hi with
  | 0, _ => (cb_r (cb_r (cb_r (cb_r (cb_r (cb_r (cb_r (cb_r (cb_l hn)))))))))
  | 1, _ => (cb_l (cb_r (cb_l (cb_l (cb_r (cb_l (cb_l (cb_l (cb_r hn)))))))))
  | 2, _ => (cb_r (cb_r (cb_r (cb_r (cb_r (cb_l (cb_l (cb_l (cb_r hn)))))))))
  | 3, _ => (cb_l (cb_l (cb_l (cb_r (cb_r (cb_l (cb_l (cb_r hn))))))))
  | 4, _ => (cb_r (cb_r (cb_l (cb_l (cb_l (cb_l (cb_r (cb_l (cb_r hn)))))))))
  | 5, _ => (cb_l (cb_l (cb_r (cb_r (cb_r (cb_l (cb_r (cb_l (cb_r hn)))))))))
  | 6, _ => (cb_r (cb_r (cb_l (cb_r (cb_l (cb_r (cb_r (cb_l (cb_r hn)))))))))
  | 7, _ => (cb_l (cb_r (cb_l (cb_r (cb_r (cb_r (cb_r (cb_l (cb_r hn)))))))))
  | 8, _ => (cb_r (cb_r (cb_r (cb_l (cb_r (cb_l (cb_l (cb_r (cb_r hn)))))))))
  | 9, _ => (cb_l (cb_r (cb_r (cb_l (cb_r (cb_r (cb_l (cb_r (cb_r hn)))))))))
  | 10, _ => (cb_l (cb_r (cb_r (cb_l (cb_r (cb_l (cb_r (cb_r (cb_r hn)))))))))
  | n + 11, hi => absurd hi (by omega)
set_option maxRecDepth 100000 in
theorem ss_2 {s : State} {b : Nat} (hn : narrow_1.before #[Value.ref b] s = true) : ∀ i : Nat, i < 11 → (Cond.eq (.field (st_tm i) "java/lang/String" "coder" "B") (.int 0)).before #[Value.ref b] s = true := fun i hi => match i, hi with
  | 0, _ => (cb_l (cb_l (cb_l (cb_l (cb_l (cb_l (cb_l (cb_r hn))))))))
  | 1, _ => (cb_r (cb_r (cb_l (cb_l (cb_r (cb_l (cb_l (cb_l (cb_r hn)))))))))
  | 2, _ => (cb_l (cb_l (cb_l (cb_l (cb_r (cb_l (cb_l (cb_r hn))))))))
  | 3, _ => (cb_l (cb_r (cb_l (cb_l (cb_r (cb_r (cb_l (cb_l (cb_r hn)))))))))
  | 4, _ => (cb_l (cb_r (cb_l (cb_l (cb_l (cb_r (cb_l (cb_r hn))))))))
  | 5, _ => (cb_r (cb_l (cb_r (cb_r (cb_r (cb_l (cb_r (cb_l (cb_r hn)))))))))
  | 6, _ => (cb_l (cb_l (cb_r (cb_r (cb_l (cb_r (cb_r (cb_l (cb_r hn)))))))))
  | 7, _ => (cb_r (cb_r (cb_l (cb_r (cb_r (cb_r (cb_r (cb_l (cb_r hn)))))))))
  | 8, _ => (cb_l (cb_l (cb_r (cb_r (cb_l (cb_l (cb_r (cb_r hn))))))))
  | 9, _ => (cb_r (cb_r (cb_r (cb_l (cb_r (cb_r (cb_l (cb_r (cb_r hn)))))))))
  | 10, _ => (cb_r (cb_r (cb_r (cb_l (cb_r (cb_l (cb_r (cb_r (cb_r hn)))))))))
  | n + 11, hi => absurd hi (by omega)
set_option maxRecDepth 100000 in
theorem ss_3 {s : State} {b : Nat} (hn : narrow_1.before #[Value.ref b] s = true) : ∀ i : Nat, i < 11 → (Cond.arrayOf (.field (st_tm i) "java/lang/String" "value" "[B") .byte).before #[Value.ref b] s = true := fun i hi => match i, hi with
  | 0, _ => (cb_l (cb_r (cb_l (cb_l (cb_l (cb_l (cb_l (cb_l (cb_r hn)))))))))
  | 1, _ => (cb_l (cb_r (cb_l (cb_r (cb_l (cb_l (cb_l (cb_r hn))))))))
  | 2, _ => (cb_l (cb_r (cb_l (cb_l (cb_l (cb_r (cb_l (cb_l (cb_r hn)))))))))
  | 3, _ => (cb_r (cb_r (cb_l (cb_l (cb_r (cb_r (cb_l (cb_l (cb_r hn)))))))))
  | 4, _ => (cb_l (cb_r (cb_r (cb_l (cb_l (cb_l (cb_r (cb_l (cb_r hn)))))))))
  | 5, _ => (cb_l (cb_r (cb_r (cb_r (cb_r (cb_l (cb_r (cb_l (cb_r hn)))))))))
  | 6, _ => (cb_r (cb_l (cb_r (cb_r (cb_l (cb_r (cb_r (cb_l (cb_r hn)))))))))
  | 7, _ => (cb_l (cb_l (cb_r (cb_r (cb_r (cb_r (cb_r (cb_l (cb_r hn)))))))))
  | 8, _ => (cb_l (cb_r (cb_l (cb_r (cb_r (cb_l (cb_l (cb_r (cb_r hn)))))))))
  | 9, _ => (cb_l (cb_l (cb_r (cb_r (cb_r (cb_l (cb_r (cb_r hn))))))))
  | 10, _ => (cb_l (cb_l (cb_r (cb_r (cb_l (cb_r (cb_r (cb_r hn))))))))
  | n + 11, hi => absurd hi (by omega)
set_option maxRecDepth 100000 in
theorem ss_4 {s : State} {b : Nat} (hn : narrow_1.before #[Value.ref b] s = true) : ∀ i : Nat, i < 11 → (Cond.eq (.length (.field (st_tm i) "java/lang/String" "value" "[B")) (.int (Int32.ofNat (st_len.getD i 0)))).before #[Value.ref b] s = true := fun i hi => match i, hi with
  | 0, _ => (cb_r (cb_r (cb_l (cb_l (cb_l (cb_l (cb_l (cb_l (cb_r hn)))))))))
  | 1, _ => (cb_l (cb_r (cb_r (cb_l (cb_r (cb_l (cb_l (cb_l (cb_r hn)))))))))
  | 2, _ => (cb_r (cb_r (cb_l (cb_l (cb_l (cb_r (cb_l (cb_l (cb_r hn)))))))))
  | 3, _ => (cb_l (cb_r (cb_l (cb_r (cb_r (cb_l (cb_l (cb_r hn))))))))
  | 4, _ => (cb_r (cb_r (cb_r (cb_l (cb_l (cb_l (cb_r (cb_l (cb_r hn)))))))))
  | 5, _ => (cb_r (cb_r (cb_r (cb_r (cb_r (cb_l (cb_r (cb_l (cb_r hn)))))))))
  | 6, _ => (cb_l (cb_r (cb_r (cb_r (cb_l (cb_r (cb_r (cb_l (cb_r hn)))))))))
  | 7, _ => (cb_r (cb_l (cb_r (cb_r (cb_r (cb_r (cb_r (cb_l (cb_r hn)))))))))
  | 8, _ => (cb_r (cb_r (cb_l (cb_r (cb_r (cb_l (cb_l (cb_r (cb_r hn)))))))))
  | 9, _ => (cb_l (cb_r (cb_l (cb_r (cb_r (cb_r (cb_l (cb_r (cb_r hn)))))))))
  | 10, _ => (cb_l (cb_r (cb_l (cb_r (cb_r (cb_l (cb_r (cb_r (cb_r hn)))))))))
  | n + 11, hi => absurd hi (by omega)
set_option maxRecDepth 100000 in
theorem s5_0 {s : State} {b : Nat} (hn : narrow_1.before #[Value.ref b] s = true) : ∀ j : Nat, j < 10 → (Cond.eq (.elem (.field (.string "SecretEnds$Schedule" 58) "java/lang/String" "value" "[B") (.int (Int32.ofNat j))) (.int (sv_21.getD j 0))).before #[Value.ref b] s = true := fun j hj => match j, hj with
  | 0, _ => (cb_l (cb_r (cb_l (cb_l (cb_l (cb_l (cb_l (cb_r hn))))))))
  | 1, _ => (cb_l (cb_r (cb_r (cb_l (cb_l (cb_l (cb_l (cb_l (cb_r hn)))))))))
  | 2, _ => (cb_r (cb_r (cb_r (cb_l (cb_l (cb_l (cb_l (cb_l (cb_r hn)))))))))
  | 3, _ => (cb_l (cb_l (cb_r (cb_l (cb_l (cb_l (cb_l (cb_r hn))))))))
  | 4, _ => (cb_l (cb_r (cb_l (cb_r (cb_l (cb_l (cb_l (cb_l (cb_r hn)))))))))
  | 5, _ => (cb_r (cb_r (cb_l (cb_r (cb_l (cb_l (cb_l (cb_l (cb_r hn)))))))))
  | 6, _ => (cb_l (cb_r (cb_r (cb_l (cb_l (cb_l (cb_l (cb_r hn))))))))
  | 7, _ => (cb_l (cb_r (cb_r (cb_r (cb_l (cb_l (cb_l (cb_l (cb_r hn)))))))))
  | 8, _ => (cb_r (cb_r (cb_r (cb_r (cb_l (cb_l (cb_l (cb_l (cb_r hn)))))))))
  | 9, _ => (cb_l (cb_l (cb_l (cb_r (cb_l (cb_l (cb_l (cb_r hn))))))))
  | n + 10, hj => absurd hj (by omega)
set_option maxRecDepth 100000 in
theorem s5_1 {s : State} {b : Nat} (hn : narrow_1.before #[Value.ref b] s = true) : ∀ j : Nat, j < 6 → (Cond.eq (.elem (.field (.string "SecretEnds$Kdf" 71) "java/lang/String" "value" "[B") (.int (Int32.ofNat j))) (.int (sv_22.getD j 0))).before #[Value.ref b] s = true := fun j hj => match j, hj with
  | 0, _ => (cb_r (cb_r (cb_r (cb_l (cb_r (cb_l (cb_l (cb_l (cb_r hn)))))))))
  | 1, _ => (cb_l (cb_l (cb_r (cb_r (cb_l (cb_l (cb_l (cb_r hn))))))))
  | 2, _ => (cb_l (cb_r (cb_l (cb_r (cb_r (cb_l (cb_l (cb_l (cb_r hn)))))))))
  | 3, _ => (cb_r (cb_r (cb_l (cb_r (cb_r (cb_l (cb_l (cb_l (cb_r hn)))))))))
  | 4, _ => (cb_l (cb_l (cb_r (cb_r (cb_r (cb_l (cb_l (cb_l (cb_r hn)))))))))
  | 5, _ => (cb_r (cb_l (cb_r (cb_r (cb_r (cb_l (cb_l (cb_l (cb_r hn)))))))))
  | n + 6, hj => absurd hj (by omega)
set_option maxRecDepth 100000 in
theorem s5_2 {s : State} {b : Nat} (hn : narrow_1.before #[Value.ref b] s = true) : ∀ j : Nat, j < 7 → (Cond.eq (.elem (.field (.string "SecretEnds$Schedule" 64) "java/lang/String" "value" "[B") (.int (Int32.ofNat j))) (.int (sv_23.getD j 0))).before #[Value.ref b] s = true := fun j hj => match j, hj with
  | 0, _ => (cb_l (cb_r (cb_l (cb_l (cb_r (cb_l (cb_l (cb_r hn))))))))
  | 1, _ => (cb_l (cb_r (cb_r (cb_l (cb_l (cb_r (cb_l (cb_l (cb_r hn)))))))))
  | 2, _ => (cb_r (cb_r (cb_r (cb_l (cb_l (cb_r (cb_l (cb_l (cb_r hn)))))))))
  | 3, _ => (cb_l (cb_l (cb_r (cb_l (cb_r (cb_l (cb_l (cb_r hn))))))))
  | 4, _ => (cb_l (cb_r (cb_l (cb_r (cb_l (cb_r (cb_l (cb_l (cb_r hn)))))))))
  | 5, _ => (cb_r (cb_r (cb_l (cb_r (cb_l (cb_r (cb_l (cb_l (cb_r hn)))))))))
  | 6, _ => (cb_l (cb_r (cb_r (cb_l (cb_r (cb_l (cb_l (cb_r hn))))))))
  | n + 7, hj => absurd hj (by omega)
set_option maxRecDepth 100000 in
theorem s5_3 {s : State} {b : Nat} (hn : narrow_1.before #[Value.ref b] s = true) : ∀ j : Nat, j < 8 → (Cond.eq (.elem (.field (.string "SecretEnds$Schedule" 66) "java/lang/String" "value" "[B") (.int (Int32.ofNat j))) (.int (sv_24.getD j 0))).before #[Value.ref b] s = true := fun j hj => match j, hj with
  | 0, _ => (cb_l (cb_r (cb_r (cb_l (cb_r (cb_r (cb_l (cb_l (cb_r hn)))))))))
  | 1, _ => (cb_r (cb_r (cb_r (cb_l (cb_r (cb_r (cb_l (cb_l (cb_r hn)))))))))
  | 2, _ => (cb_l (cb_l (cb_r (cb_r (cb_r (cb_l (cb_l (cb_r hn))))))))
  | 3, _ => (cb_l (cb_r (cb_l (cb_r (cb_r (cb_r (cb_l (cb_l (cb_r hn)))))))))
  | 4, _ => (cb_r (cb_r (cb_l (cb_r (cb_r (cb_r (cb_l (cb_l (cb_r hn)))))))))
  | 5, _ => (cb_l (cb_l (cb_r (cb_r (cb_r (cb_r (cb_l (cb_l (cb_r hn)))))))))
  | 6, _ => (cb_r (cb_l (cb_r (cb_r (cb_r (cb_r (cb_l (cb_l (cb_r hn)))))))))
  | 7, _ => (cb_l (cb_r (cb_r (cb_r (cb_r (cb_r (cb_l (cb_l (cb_r hn)))))))))
  | n + 8, hj => absurd hj (by omega)
set_option maxRecDepth 100000 in
theorem s5_4 {s : State} {b : Nat} (hn : narrow_1.before #[Value.ref b] s = true) : ∀ j : Nat, j < 11 → (Cond.eq (.elem (.field (.string "SecretEnds$End" 151) "java/lang/String" "value" "[B") (.int (Int32.ofNat j))) (.int (sv_25.getD j 0))).before #[Value.ref b] s = true := fun j hj => match j, hj with
  | 0, _ => (cb_l (cb_l (cb_r (cb_l (cb_l (cb_r (cb_l (cb_r hn))))))))
  | 1, _ => (cb_l (cb_r (cb_l (cb_r (cb_l (cb_l (cb_r (cb_l (cb_r hn)))))))))
  | 2, _ => (cb_r (cb_r (cb_l (cb_r (cb_l (cb_l (cb_r (cb_l (cb_r hn)))))))))
  | 3, _ => (cb_l (cb_r (cb_r (cb_l (cb_l (cb_r (cb_l (cb_r hn))))))))
  | 4, _ => (cb_l (cb_r (cb_r (cb_r (cb_l (cb_l (cb_r (cb_l (cb_r hn)))))))))
  | 5, _ => (cb_r (cb_r (cb_r (cb_r (cb_l (cb_l (cb_r (cb_l (cb_r hn)))))))))
  | 6, _ => (cb_l (cb_l (cb_l (cb_r (cb_l (cb_r (cb_l (cb_r hn))))))))
  | 7, _ => (cb_l (cb_r (cb_l (cb_l (cb_r (cb_l (cb_r (cb_l (cb_r hn)))))))))
  | 8, _ => (cb_r (cb_r (cb_l (cb_l (cb_r (cb_l (cb_r (cb_l (cb_r hn)))))))))
  | 9, _ => (cb_l (cb_r (cb_l (cb_r (cb_l (cb_r (cb_l (cb_r hn))))))))
  | 10, _ => (cb_l (cb_r (cb_r (cb_l (cb_r (cb_l (cb_r (cb_l (cb_r hn)))))))))
  | n + 11, hj => absurd hj (by omega)
set_option maxRecDepth 100000 in
theorem s5_5 {s : State} {b : Nat} (hn : narrow_1.before #[Value.ref b] s = true) : ∀ j : Nat, j < 3 → (Cond.eq (.elem (.field (.string "SecretEnds$Keys" 40) "java/lang/String" "value" "[B") (.int (Int32.ofNat j))) (.int (sv_26.getD j 0))).before #[Value.ref b] s = true := fun j hj => match j, hj with
  | 0, _ => (cb_l (cb_l (cb_l (cb_l (cb_r (cb_r (cb_l (cb_r hn))))))))
  | 1, _ => (cb_l (cb_r (cb_l (cb_l (cb_l (cb_r (cb_r (cb_l (cb_r hn)))))))))
  | 2, _ => (cb_r (cb_r (cb_l (cb_l (cb_l (cb_r (cb_r (cb_l (cb_r hn)))))))))
  | n + 3, hj => absurd hj (by omega)
set_option maxRecDepth 100000 in
theorem s5_6 {s : State} {b : Nat} (hn : narrow_1.before #[Value.ref b] s = true) : ∀ j : Nat, j < 2 → (Cond.eq (.elem (.field (.string "SecretEnds$Keys" 44) "java/lang/String" "value" "[B") (.int (Int32.ofNat j))) (.int (sv_27.getD j 0))).before #[Value.ref b] s = true := fun j hj => match j, hj with
  | 0, _ => (cb_r (cb_r (cb_r (cb_r (cb_l (cb_r (cb_r (cb_l (cb_r hn)))))))))
  | 1, _ => (cb_l (cb_l (cb_l (cb_r (cb_r (cb_r (cb_l (cb_r hn))))))))
  | n + 2, hj => absurd hj (by omega)
set_option maxRecDepth 100000 in
theorem s5_7 {s : State} {b : Nat} (hn : narrow_1.before #[Value.ref b] s = true) : ∀ j : Nat, j < 12 → (Cond.eq (.elem (.field (.string "SecretEnds$End" 307) "java/lang/String" "value" "[B") (.int (Int32.ofNat j))) (.int (sv_28.getD j 0))).before #[Value.ref b] s = true := fun j hj => match j, hj with
  | 0, _ => (cb_l (cb_r (cb_r (cb_r (cb_r (cb_r (cb_r (cb_l (cb_r hn)))))))))
  | 1, _ => (cb_r (cb_r (cb_r (cb_r (cb_r (cb_r (cb_r (cb_l (cb_r hn)))))))))
  | 2, _ => (cb_l (cb_l (cb_l (cb_l (cb_l (cb_l (cb_r (cb_r hn))))))))
  | 3, _ => (cb_l (cb_r (cb_l (cb_l (cb_l (cb_l (cb_l (cb_r (cb_r hn)))))))))
  | 4, _ => (cb_r (cb_r (cb_l (cb_l (cb_l (cb_l (cb_l (cb_r (cb_r hn)))))))))
  | 5, _ => (cb_l (cb_r (cb_l (cb_l (cb_l (cb_l (cb_r (cb_r hn))))))))
  | 6, _ => (cb_l (cb_r (cb_r (cb_l (cb_l (cb_l (cb_l (cb_r (cb_r hn)))))))))
  | 7, _ => (cb_r (cb_r (cb_r (cb_l (cb_l (cb_l (cb_l (cb_r (cb_r hn)))))))))
  | 8, _ => (cb_l (cb_l (cb_r (cb_l (cb_l (cb_l (cb_r (cb_r hn))))))))
  | 9, _ => (cb_l (cb_r (cb_l (cb_r (cb_l (cb_l (cb_l (cb_r (cb_r hn)))))))))
  | 10, _ => (cb_r (cb_r (cb_l (cb_r (cb_l (cb_l (cb_l (cb_r (cb_r hn)))))))))
  | 11, _ => (cb_l (cb_r (cb_r (cb_l (cb_l (cb_l (cb_r (cb_r hn))))))))
  | n + 12, hj => absurd hj (by omega)
set_option maxRecDepth 100000 in
theorem s5_8 {s : State} {b : Nat} (hn : narrow_1.before #[Value.ref b] s = true) : ∀ j : Nat, j < 12 → (Cond.eq (.elem (.field (.string "SecretEnds$End" 309) "java/lang/String" "value" "[B") (.int (Int32.ofNat j))) (.int (sv_29.getD j 0))).before #[Value.ref b] s = true := fun j hj => match j, hj with
  | 0, _ => (cb_l (cb_l (cb_r (cb_r (cb_r (cb_l (cb_l (cb_r (cb_r hn)))))))))
  | 1, _ => (cb_r (cb_l (cb_r (cb_r (cb_r (cb_l (cb_l (cb_r (cb_r hn)))))))))
  | 2, _ => (cb_l (cb_r (cb_r (cb_r (cb_r (cb_l (cb_l (cb_r (cb_r hn)))))))))
  | 3, _ => (cb_r (cb_r (cb_r (cb_r (cb_r (cb_l (cb_l (cb_r (cb_r hn)))))))))
  | 4, _ => (cb_l (cb_l (cb_l (cb_l (cb_r (cb_l (cb_r (cb_r hn))))))))
  | 5, _ => (cb_l (cb_r (cb_l (cb_l (cb_l (cb_r (cb_l (cb_r (cb_r hn)))))))))
  | 6, _ => (cb_r (cb_r (cb_l (cb_l (cb_l (cb_r (cb_l (cb_r (cb_r hn)))))))))
  | 7, _ => (cb_l (cb_r (cb_l (cb_l (cb_r (cb_l (cb_r (cb_r hn))))))))
  | 8, _ => (cb_l (cb_r (cb_r (cb_l (cb_l (cb_r (cb_l (cb_r (cb_r hn)))))))))
  | 9, _ => (cb_r (cb_r (cb_r (cb_l (cb_l (cb_r (cb_l (cb_r (cb_r hn)))))))))
  | 10, _ => (cb_l (cb_l (cb_r (cb_l (cb_r (cb_l (cb_r (cb_r hn))))))))
  | 11, _ => (cb_l (cb_r (cb_l (cb_r (cb_l (cb_r (cb_l (cb_r (cb_r hn)))))))))
  | n + 12, hj => absurd hj (by omega)
set_option maxRecDepth 100000 in
theorem s5_9 {s : State} {b : Nat} (hn : narrow_1.before #[Value.ref b] s = true) : ∀ j : Nat, j < 12 → (Cond.eq (.elem (.field (.string "SecretEnds$End" 317) "java/lang/String" "value" "[B") (.int (Int32.ofNat j))) (.int (sv_30.getD j 0))).before #[Value.ref b] s = true := fun j hj => match j, hj with
  | 0, _ => (cb_r (cb_r (cb_l (cb_r (cb_r (cb_r (cb_l (cb_r (cb_r hn)))))))))
  | 1, _ => (cb_l (cb_l (cb_r (cb_r (cb_r (cb_r (cb_l (cb_r (cb_r hn)))))))))
  | 2, _ => (cb_r (cb_l (cb_r (cb_r (cb_r (cb_r (cb_l (cb_r (cb_r hn)))))))))
  | 3, _ => (cb_l (cb_r (cb_r (cb_r (cb_r (cb_r (cb_l (cb_r (cb_r hn)))))))))
  | 4, _ => (cb_r (cb_r (cb_r (cb_r (cb_r (cb_r (cb_l (cb_r (cb_r hn)))))))))
  | 5, _ => (cb_l (cb_l (cb_l (cb_l (cb_l (cb_r (cb_r (cb_r hn))))))))
  | 6, _ => (cb_l (cb_r (cb_l (cb_l (cb_l (cb_l (cb_r (cb_r (cb_r hn)))))))))
  | 7, _ => (cb_r (cb_r (cb_l (cb_l (cb_l (cb_l (cb_r (cb_r (cb_r hn)))))))))
  | 8, _ => (cb_l (cb_r (cb_l (cb_l (cb_l (cb_r (cb_r (cb_r hn))))))))
  | 9, _ => (cb_l (cb_r (cb_r (cb_l (cb_l (cb_l (cb_r (cb_r (cb_r hn)))))))))
  | 10, _ => (cb_r (cb_r (cb_r (cb_l (cb_l (cb_l (cb_r (cb_r (cb_r hn)))))))))
  | 11, _ => (cb_l (cb_l (cb_r (cb_l (cb_l (cb_r (cb_r (cb_r hn))))))))
  | n + 12, hj => absurd hj (by omega)
set_option maxRecDepth 100000 in
theorem s5_10 {s : State} {b : Nat} (hn : narrow_1.before #[Value.ref b] s = true) : ∀ j : Nat, j < 12 → (Cond.eq (.elem (.field (.string "SecretEnds$End" 319) "java/lang/String" "value" "[B") (.int (Int32.ofNat j))) (.int (sv_31.getD j 0))).before #[Value.ref b] s = true := fun j hj => match j, hj with
  | 0, _ => (cb_r (cb_r (cb_l (cb_r (cb_r (cb_l (cb_r (cb_r (cb_r hn)))))))))
  | 1, _ => (cb_l (cb_l (cb_r (cb_r (cb_r (cb_l (cb_r (cb_r (cb_r hn)))))))))
  | 2, _ => (cb_r (cb_l (cb_r (cb_r (cb_r (cb_l (cb_r (cb_r (cb_r hn)))))))))
  | 3, _ => (cb_l (cb_r (cb_r (cb_r (cb_r (cb_l (cb_r (cb_r (cb_r hn)))))))))
  | 4, _ => (cb_r (cb_r (cb_r (cb_r (cb_r (cb_l (cb_r (cb_r (cb_r hn)))))))))
  | 5, _ => (cb_l (cb_l (cb_l (cb_l (cb_r (cb_r (cb_r (cb_r hn))))))))
  | 6, _ => (cb_l (cb_r (cb_l (cb_l (cb_l (cb_r (cb_r (cb_r (cb_r hn)))))))))
  | 7, _ => (cb_r (cb_r (cb_l (cb_l (cb_l (cb_r (cb_r (cb_r (cb_r hn)))))))))
  | 8, _ => (cb_l (cb_r (cb_l (cb_l (cb_r (cb_r (cb_r (cb_r hn))))))))
  | 9, _ => (cb_l (cb_r (cb_r (cb_l (cb_l (cb_r (cb_r (cb_r (cb_r hn)))))))))
  | 10, _ => (cb_r (cb_r (cb_r (cb_l (cb_l (cb_r (cb_r (cb_r (cb_r hn)))))))))
  | 11, _ => (cb_l (cb_l (cb_r (cb_l (cb_r (cb_r (cb_r (cb_r hn))))))))
  | n + 12, hj => absurd hj (by omega)
set_option maxRecDepth 100000 in
theorem ss_5 {s : State} {b : Nat} (hn : narrow_1.before #[Value.ref b] s = true) : ∀ i : Nat, i < 11 → ∀ j : Nat, j < st_len.getD i 0 → (Cond.eq (.elem (.field (st_tm i) "java/lang/String" "value" "[B") (.int (Int32.ofNat j))) (.int ((st_byt.getD i []).getD j 0))).before #[Value.ref b] s = true := fun i hi => match i, hi with
  | 0, _ => fun j hj => s5_0 hn j hj
  | 1, _ => fun j hj => s5_1 hn j hj
  | 2, _ => fun j hj => s5_2 hn j hj
  | 3, _ => fun j hj => s5_3 hn j hj
  | 4, _ => fun j hj => s5_4 hn j hj
  | 5, _ => fun j hj => s5_5 hn j hj
  | 6, _ => fun j hj => s5_6 hn j hj
  | 7, _ => fun j hj => s5_7 hn j hj
  | 8, _ => fun j hj => s5_8 hn j hj
  | 9, _ => fun j hj => s5_9 hn j hj
  | 10, _ => fun j hj => s5_10 hn j hj
  | n + 11, hi => absurd hi (by omega)
set_option maxRecDepth 100000 in
theorem s6_0 {s : State} {b : Nat} (hn : narrow_1.before #[Value.ref b] s = true) : ∀ j : Nat, j < 11 → 0 ≠ j → (Cond.not (Cond.eq (st_tm 0) (st_tm j))).before #[Value.ref b] s = true ∨ (Cond.not (Cond.eq (st_tm j) (st_tm 0))).before #[Value.ref b] s = true := fun j hj hne => match j, hj, hne with
  | 0, _, hne => absurd rfl hne
  | 1, _, _ => Or.inl (cb_l (cb_r (cb_r (cb_r (cb_r (cb_l (cb_l (cb_l (cb_r hn)))))))))
  | 2, _, _ => Or.inl (cb_l (cb_r (cb_r (cb_r (cb_l (cb_r (cb_l (cb_l (cb_r hn)))))))))
  | 3, _, _ => Or.inl (cb_r (cb_r (cb_r (cb_r (cb_r (cb_r (cb_l (cb_l (cb_r hn)))))))))
  | 4, _, _ => Or.inl (cb_r (cb_r (cb_r (cb_l (cb_r (cb_l (cb_r (cb_l (cb_r hn)))))))))
  | 5, _, _ => Or.inl (cb_l (cb_r (cb_l (cb_l (cb_r (cb_r (cb_l (cb_r hn))))))))
  | 6, _, _ => Or.inl (cb_l (cb_r (cb_l (cb_l (cb_r (cb_r (cb_r (cb_l (cb_r hn)))))))))
  | 7, _, _ => Or.inl (cb_l (cb_r (cb_r (cb_r (cb_l (cb_l (cb_l (cb_r (cb_r hn)))))))))
  | 8, _, _ => Or.inl (cb_r (cb_r (cb_l (cb_r (cb_l (cb_r (cb_l (cb_r (cb_r hn)))))))))
  | 9, _, _ => Or.inl (cb_l (cb_r (cb_l (cb_r (cb_l (cb_l (cb_r (cb_r (cb_r hn)))))))))
  | 10, _, _ => Or.inl (cb_l (cb_r (cb_l (cb_r (cb_l (cb_r (cb_r (cb_r (cb_r hn)))))))))
  | n + 11, hj, _ => absurd hj (by omega)
set_option maxRecDepth 100000 in
theorem s6_1 {s : State} {b : Nat} (hn : narrow_1.before #[Value.ref b] s = true) : ∀ j : Nat, j < 11 → 1 ≠ j → (Cond.not (Cond.eq (st_tm 1) (st_tm j))).before #[Value.ref b] s = true ∨ (Cond.not (Cond.eq (st_tm j) (st_tm 1))).before #[Value.ref b] s = true := fun j hj hne => match j, hj, hne with
  | 0, _, _ => Or.inr (cb_l (cb_r (cb_r (cb_r (cb_r (cb_l (cb_l (cb_l (cb_r hn)))))))))
  | 1, _, hne => absurd rfl hne
  | 2, _, _ => Or.inl (cb_r (cb_r (cb_r (cb_r (cb_l (cb_r (cb_l (cb_l (cb_r hn)))))))))
  | 3, _, _ => Or.inl (cb_l (cb_l (cb_l (cb_l (cb_l (cb_r (cb_l (cb_r hn))))))))
  | 4, _, _ => Or.inl (cb_l (cb_l (cb_r (cb_r (cb_l (cb_r (cb_l (cb_r hn))))))))
  | 5, _, _ => Or.inl (cb_l (cb_r (cb_r (cb_l (cb_l (cb_r (cb_r (cb_l (cb_r hn)))))))))
  | 6, _, _ => Or.inl (cb_r (cb_r (cb_l (cb_l (cb_r (cb_r (cb_r (cb_l (cb_r hn)))))))))
  | 7, _, _ => Or.inl (cb_r (cb_r (cb_r (cb_r (cb_l (cb_l (cb_l (cb_r (cb_r hn)))))))))
  | 8, _, _ => Or.inl (cb_l (cb_r (cb_r (cb_l (cb_r (cb_l (cb_r (cb_r hn))))))))
  | 9, _, _ => Or.inl (cb_r (cb_r (cb_l (cb_r (cb_l (cb_l (cb_r (cb_r (cb_r hn)))))))))
  | 10, _, _ => Or.inl (cb_r (cb_r (cb_l (cb_r (cb_l (cb_r (cb_r (cb_r (cb_r hn)))))))))
  | n + 11, hj, _ => absurd hj (by omega)
set_option maxRecDepth 100000 in
theorem s6_2 {s : State} {b : Nat} (hn : narrow_1.before #[Value.ref b] s = true) : ∀ j : Nat, j < 11 → 2 ≠ j → (Cond.not (Cond.eq (st_tm 2) (st_tm j))).before #[Value.ref b] s = true ∨ (Cond.not (Cond.eq (st_tm j) (st_tm 2))).before #[Value.ref b] s = true := fun j hj hne => match j, hj, hne with
  | 0, _, _ => Or.inr (cb_l (cb_r (cb_r (cb_r (cb_l (cb_r (cb_l (cb_l (cb_r hn)))))))))
  | 1, _, _ => Or.inr (cb_r (cb_r (cb_r (cb_r (cb_l (cb_r (cb_l (cb_l (cb_r hn)))))))))
  | 2, _, hne => absurd rfl hne
  | 3, _, _ => Or.inl (cb_l (cb_r (cb_l (cb_l (cb_l (cb_l (cb_r (cb_l (cb_r hn)))))))))
  | 4, _, _ => Or.inl (cb_l (cb_r (cb_l (cb_r (cb_r (cb_l (cb_r (cb_l (cb_r hn)))))))))
  | 5, _, _ => Or.inl (cb_r (cb_r (cb_r (cb_l (cb_l (cb_r (cb_r (cb_l (cb_r hn)))))))))
  | 6, _, _ => Or.inl (cb_l (cb_r (cb_l (cb_r (cb_r (cb_r (cb_l (cb_r hn))))))))
  | 7, _, _ => Or.inl (cb_l (cb_l (cb_l (cb_r (cb_l (cb_l (cb_r (cb_r hn))))))))
  | 8, _, _ => Or.inl (cb_l (cb_r (cb_r (cb_r (cb_l (cb_r (cb_l (cb_r (cb_r hn)))))))))
  | 9, _, _ => Or.inl (cb_l (cb_r (cb_r (cb_l (cb_l (cb_r (cb_r (cb_r hn))))))))
  | 10, _, _ => Or.inl (cb_l (cb_l (cb_r (cb_r (cb_l (cb_r (cb_r (cb_r (cb_r hn)))))))))
  | n + 11, hj, _ => absurd hj (by omega)
set_option maxRecDepth 100000 in
theorem s6_3 {s : State} {b : Nat} (hn : narrow_1.before #[Value.ref b] s = true) : ∀ j : Nat, j < 11 → 3 ≠ j → (Cond.not (Cond.eq (st_tm 3) (st_tm j))).before #[Value.ref b] s = true ∨ (Cond.not (Cond.eq (st_tm j) (st_tm 3))).before #[Value.ref b] s = true := fun j hj hne => match j, hj, hne with
  | 0, _, _ => Or.inr (cb_r (cb_r (cb_r (cb_r (cb_r (cb_r (cb_l (cb_l (cb_r hn)))))))))
  | 1, _, _ => Or.inr (cb_l (cb_l (cb_l (cb_l (cb_l (cb_r (cb_l (cb_r hn))))))))
  | 2, _, _ => Or.inr (cb_l (cb_r (cb_l (cb_l (cb_l (cb_l (cb_r (cb_l (cb_r hn)))))))))
  | 3, _, hne => absurd rfl hne
  | 4, _, _ => Or.inl (cb_r (cb_r (cb_l (cb_r (cb_r (cb_l (cb_r (cb_l (cb_r hn)))))))))
  | 5, _, _ => Or.inl (cb_l (cb_l (cb_r (cb_l (cb_r (cb_r (cb_l (cb_r hn))))))))
  | 6, _, _ => Or.inl (cb_l (cb_r (cb_r (cb_l (cb_r (cb_r (cb_r (cb_l (cb_r hn)))))))))
  | 7, _, _ => Or.inl (cb_l (cb_r (cb_l (cb_l (cb_r (cb_l (cb_l (cb_r (cb_r hn)))))))))
  | 8, _, _ => Or.inl (cb_r (cb_r (cb_r (cb_r (cb_l (cb_r (cb_l (cb_r (cb_r hn)))))))))
  | 9, _, _ => Or.inl (cb_l (cb_r (cb_r (cb_r (cb_l (cb_l (cb_r (cb_r (cb_r hn)))))))))
  | 10, _, _ => Or.inl (cb_r (cb_l (cb_r (cb_r (cb_l (cb_r (cb_r (cb_r (cb_r hn)))))))))
  | n + 11, hj, _ => absurd hj (by omega)
set_option maxRecDepth 100000 in
theorem s6_4 {s : State} {b : Nat} (hn : narrow_1.before #[Value.ref b] s = true) : ∀ j : Nat, j < 11 → 4 ≠ j → (Cond.not (Cond.eq (st_tm 4) (st_tm j))).before #[Value.ref b] s = true ∨ (Cond.not (Cond.eq (st_tm j) (st_tm 4))).before #[Value.ref b] s = true := fun j hj hne => match j, hj, hne with
  | 0, _, _ => Or.inr (cb_r (cb_r (cb_r (cb_l (cb_r (cb_l (cb_r (cb_l (cb_r hn)))))))))
  | 1, _, _ => Or.inr (cb_l (cb_l (cb_r (cb_r (cb_l (cb_r (cb_l (cb_r hn))))))))
  | 2, _, _ => Or.inr (cb_l (cb_r (cb_l (cb_r (cb_r (cb_l (cb_r (cb_l (cb_r hn)))))))))
  | 3, _, _ => Or.inr (cb_r (cb_r (cb_l (cb_r (cb_r (cb_l (cb_r (cb_l (cb_r hn)))))))))
  | 4, _, hne => absurd rfl hne
  | 5, _, _ => Or.inl (cb_l (cb_r (cb_l (cb_r (cb_l (cb_r (cb_r (cb_l (cb_r hn)))))))))
  | 6, _, _ => Or.inl (cb_r (cb_r (cb_r (cb_l (cb_r (cb_r (cb_r (cb_l (cb_r hn)))))))))
  | 7, _, _ => Or.inl (cb_r (cb_r (cb_l (cb_l (cb_r (cb_l (cb_l (cb_r (cb_r hn)))))))))
  | 8, _, _ => Or.inl (cb_l (cb_l (cb_l (cb_r (cb_r (cb_l (cb_r (cb_r hn))))))))
  | 9, _, _ => Or.inl (cb_r (cb_r (cb_r (cb_r (cb_l (cb_l (cb_r (cb_r (cb_r hn)))))))))
  | 10, _, _ => Or.inl (cb_l (cb_r (cb_r (cb_r (cb_l (cb_r (cb_r (cb_r (cb_r hn)))))))))
  | n + 11, hj, _ => absurd hj (by omega)
set_option maxRecDepth 100000 in
theorem s6_5 {s : State} {b : Nat} (hn : narrow_1.before #[Value.ref b] s = true) : ∀ j : Nat, j < 11 → 5 ≠ j → (Cond.not (Cond.eq (st_tm 5) (st_tm j))).before #[Value.ref b] s = true ∨ (Cond.not (Cond.eq (st_tm j) (st_tm 5))).before #[Value.ref b] s = true := fun j hj hne => match j, hj, hne with
  | 0, _, _ => Or.inr (cb_l (cb_r (cb_l (cb_l (cb_r (cb_r (cb_l (cb_r hn))))))))
  | 1, _, _ => Or.inr (cb_l (cb_r (cb_r (cb_l (cb_l (cb_r (cb_r (cb_l (cb_r hn)))))))))
  | 2, _, _ => Or.inr (cb_r (cb_r (cb_r (cb_l (cb_l (cb_r (cb_r (cb_l (cb_r hn)))))))))
  | 3, _, _ => Or.inr (cb_l (cb_l (cb_r (cb_l (cb_r (cb_r (cb_l (cb_r hn))))))))
  | 4, _, _ => Or.inr (cb_l (cb_r (cb_l (cb_r (cb_l (cb_r (cb_r (cb_l (cb_r hn)))))))))
  | 5, _, hne => absurd rfl hne
  | 6, _, _ => Or.inl (cb_l (cb_l (cb_r (cb_r (cb_r (cb_r (cb_l (cb_r hn))))))))
  | 7, _, _ => Or.inl (cb_l (cb_r (cb_l (cb_r (cb_l (cb_l (cb_r (cb_r hn))))))))
  | 8, _, _ => Or.inl (cb_l (cb_r (cb_l (cb_l (cb_r (cb_r (cb_l (cb_r (cb_r hn)))))))))
  | 9, _, _ => Or.inl (cb_l (cb_l (cb_l (cb_r (cb_l (cb_r (cb_r (cb_r hn))))))))
  | 10, _, _ => Or.inl (cb_r (cb_r (cb_r (cb_r (cb_l (cb_r (cb_r (cb_r (cb_r hn)))))))))
  | n + 11, hj, _ => absurd hj (by omega)
set_option maxRecDepth 100000 in
theorem s6_6 {s : State} {b : Nat} (hn : narrow_1.before #[Value.ref b] s = true) : ∀ j : Nat, j < 11 → 6 ≠ j → (Cond.not (Cond.eq (st_tm 6) (st_tm j))).before #[Value.ref b] s = true ∨ (Cond.not (Cond.eq (st_tm j) (st_tm 6))).before #[Value.ref b] s = true := fun j hj hne => match j, hj, hne with
  | 0, _, _ => Or.inr (cb_l (cb_r (cb_l (cb_l (cb_r (cb_r (cb_r (cb_l (cb_r hn)))))))))
  | 1, _, _ => Or.inr (cb_r (cb_r (cb_l (cb_l (cb_r (cb_r (cb_r (cb_l (cb_r hn)))))))))
  | 2, _, _ => Or.inr (cb_l (cb_r (cb_l (cb_r (cb_r (cb_r (cb_l (cb_r hn))))))))
  | 3, _, _ => Or.inr (cb_l (cb_r (cb_r (cb_l (cb_r (cb_r (cb_r (cb_l (cb_r hn)))))))))
  | 4, _, _ => Or.inr (cb_r (cb_r (cb_r (cb_l (cb_r (cb_r (cb_r (cb_l (cb_r hn)))))))))
  | 5, _, _ => Or.inr (cb_l (cb_l (cb_r (cb_r (cb_r (cb_r (cb_l (cb_r hn))))))))
  | 6, _, hne => absurd rfl hne
  | 7, _, _ => Or.inl (cb_l (cb_r (cb_r (cb_l (cb_r (cb_l (cb_l (cb_r (cb_r hn)))))))))
  | 8, _, _ => Or.inl (cb_r (cb_r (cb_l (cb_l (cb_r (cb_r (cb_l (cb_r (cb_r hn)))))))))
  | 9, _, _ => Or.inl (cb_l (cb_r (cb_l (cb_l (cb_r (cb_l (cb_r (cb_r (cb_r hn)))))))))
  | 10, _, _ => Or.inl (cb_l (cb_l (cb_l (cb_r (cb_r (cb_r (cb_r (cb_r hn))))))))
  | n + 11, hj, _ => absurd hj (by omega)
set_option maxRecDepth 100000 in
theorem s6_7 {s : State} {b : Nat} (hn : narrow_1.before #[Value.ref b] s = true) : ∀ j : Nat, j < 11 → 7 ≠ j → (Cond.not (Cond.eq (st_tm 7) (st_tm j))).before #[Value.ref b] s = true ∨ (Cond.not (Cond.eq (st_tm j) (st_tm 7))).before #[Value.ref b] s = true := fun j hj hne => match j, hj, hne with
  | 0, _, _ => Or.inr (cb_l (cb_r (cb_r (cb_r (cb_l (cb_l (cb_l (cb_r (cb_r hn)))))))))
  | 1, _, _ => Or.inr (cb_r (cb_r (cb_r (cb_r (cb_l (cb_l (cb_l (cb_r (cb_r hn)))))))))
  | 2, _, _ => Or.inr (cb_l (cb_l (cb_l (cb_r (cb_l (cb_l (cb_r (cb_r hn))))))))
  | 3, _, _ => Or.inr (cb_l (cb_r (cb_l (cb_l (cb_r (cb_l (cb_l (cb_r (cb_r hn)))))))))
  | 4, _, _ => Or.inr (cb_r (cb_r (cb_l (cb_l (cb_r (cb_l (cb_l (cb_r (cb_r hn)))))))))
  | 5, _, _ => Or.inr (cb_l (cb_r (cb_l (cb_r (cb_l (cb_l (cb_r (cb_r hn))))))))
  | 6, _, _ => Or.inr (cb_l (cb_r (cb_r (cb_l (cb_r (cb_l (cb_l (cb_r (cb_r hn)))))))))
  | 7, _, hne => absurd rfl hne
  | 8, _, _ => Or.inl (cb_l (cb_r (cb_l (cb_r (cb_r (cb_l (cb_r (cb_r hn))))))))
  | 9, _, _ => Or.inl (cb_r (cb_r (cb_l (cb_l (cb_r (cb_l (cb_r (cb_r (cb_r hn)))))))))
  | 10, _, _ => Or.inl (cb_l (cb_r (cb_l (cb_l (cb_r (cb_r (cb_r (cb_r (cb_r hn)))))))))
  | n + 11, hj, _ => absurd hj (by omega)
set_option maxRecDepth 100000 in
theorem s6_8 {s : State} {b : Nat} (hn : narrow_1.before #[Value.ref b] s = true) : ∀ j : Nat, j < 11 → 8 ≠ j → (Cond.not (Cond.eq (st_tm 8) (st_tm j))).before #[Value.ref b] s = true ∨ (Cond.not (Cond.eq (st_tm j) (st_tm 8))).before #[Value.ref b] s = true := fun j hj hne => match j, hj, hne with
  | 0, _, _ => Or.inr (cb_r (cb_r (cb_l (cb_r (cb_l (cb_r (cb_l (cb_r (cb_r hn)))))))))
  | 1, _, _ => Or.inr (cb_l (cb_r (cb_r (cb_l (cb_r (cb_l (cb_r (cb_r hn))))))))
  | 2, _, _ => Or.inr (cb_l (cb_r (cb_r (cb_r (cb_l (cb_r (cb_l (cb_r (cb_r hn)))))))))
  | 3, _, _ => Or.inr (cb_r (cb_r (cb_r (cb_r (cb_l (cb_r (cb_l (cb_r (cb_r hn)))))))))
  | 4, _, _ => Or.inr (cb_l (cb_l (cb_l (cb_r (cb_r (cb_l (cb_r (cb_r hn))))))))
  | 5, _, _ => Or.inr (cb_l (cb_r (cb_l (cb_l (cb_r (cb_r (cb_l (cb_r (cb_r hn)))))))))
  | 6, _, _ => Or.inr (cb_r (cb_r (cb_l (cb_l (cb_r (cb_r (cb_l (cb_r (cb_r hn)))))))))
  | 7, _, _ => Or.inr (cb_l (cb_r (cb_l (cb_r (cb_r (cb_l (cb_r (cb_r hn))))))))
  | 8, _, hne => absurd rfl hne
  | 9, _, _ => Or.inl (cb_l (cb_r (cb_l (cb_r (cb_l (cb_r (cb_r (cb_r hn))))))))
  | 10, _, _ => Or.inl (cb_r (cb_r (cb_l (cb_l (cb_r (cb_r (cb_r (cb_r (cb_r hn)))))))))
  | n + 11, hj, _ => absurd hj (by omega)
set_option maxRecDepth 100000 in
theorem s6_9 {s : State} {b : Nat} (hn : narrow_1.before #[Value.ref b] s = true) : ∀ j : Nat, j < 11 → 9 ≠ j → (Cond.not (Cond.eq (st_tm 9) (st_tm j))).before #[Value.ref b] s = true ∨ (Cond.not (Cond.eq (st_tm j) (st_tm 9))).before #[Value.ref b] s = true := fun j hj hne => match j, hj, hne with
  | 0, _, _ => Or.inr (cb_l (cb_r (cb_l (cb_r (cb_l (cb_l (cb_r (cb_r (cb_r hn)))))))))
  | 1, _, _ => Or.inr (cb_r (cb_r (cb_l (cb_r (cb_l (cb_l (cb_r (cb_r (cb_r hn)))))))))
  | 2, _, _ => Or.inr (cb_l (cb_r (cb_r (cb_l (cb_l (cb_r (cb_r (cb_r hn))))))))
  | 3, _, _ => Or.inr (cb_l (cb_r (cb_r (cb_r (cb_l (cb_l (cb_r (cb_r (cb_r hn)))))))))
  | 4, _, _ => Or.inr (cb_r (cb_r (cb_r (cb_r (cb_l (cb_l (cb_r (cb_r (cb_r hn)))))))))
  | 5, _, _ => Or.inr (cb_l (cb_l (cb_l (cb_r (cb_l (cb_r (cb_r (cb_r hn))))))))
  | 6, _, _ => Or.inr (cb_l (cb_r (cb_l (cb_l (cb_r (cb_l (cb_r (cb_r (cb_r hn)))))))))
  | 7, _, _ => Or.inr (cb_r (cb_r (cb_l (cb_l (cb_r (cb_l (cb_r (cb_r (cb_r hn)))))))))
  | 8, _, _ => Or.inr (cb_l (cb_r (cb_l (cb_r (cb_l (cb_r (cb_r (cb_r hn))))))))
  | 9, _, hne => absurd rfl hne
  | 10, _, _ => Or.inl (cb_l (cb_r (cb_l (cb_r (cb_r (cb_r (cb_r (cb_r hn))))))))
  | n + 11, hj, _ => absurd hj (by omega)
set_option maxRecDepth 100000 in
theorem s6_10 {s : State} {b : Nat} (hn : narrow_1.before #[Value.ref b] s = true) : ∀ j : Nat, j < 11 → 10 ≠ j → (Cond.not (Cond.eq (st_tm 10) (st_tm j))).before #[Value.ref b] s = true ∨ (Cond.not (Cond.eq (st_tm j) (st_tm 10))).before #[Value.ref b] s = true := fun j hj hne => match j, hj, hne with
  | 0, _, _ => Or.inr (cb_l (cb_r (cb_l (cb_r (cb_l (cb_r (cb_r (cb_r (cb_r hn)))))))))
  | 1, _, _ => Or.inr (cb_r (cb_r (cb_l (cb_r (cb_l (cb_r (cb_r (cb_r (cb_r hn)))))))))
  | 2, _, _ => Or.inr (cb_l (cb_l (cb_r (cb_r (cb_l (cb_r (cb_r (cb_r (cb_r hn)))))))))
  | 3, _, _ => Or.inr (cb_r (cb_l (cb_r (cb_r (cb_l (cb_r (cb_r (cb_r (cb_r hn)))))))))
  | 4, _, _ => Or.inr (cb_l (cb_r (cb_r (cb_r (cb_l (cb_r (cb_r (cb_r (cb_r hn)))))))))
  | 5, _, _ => Or.inr (cb_r (cb_r (cb_r (cb_r (cb_l (cb_r (cb_r (cb_r (cb_r hn)))))))))
  | 6, _, _ => Or.inr (cb_l (cb_l (cb_l (cb_r (cb_r (cb_r (cb_r (cb_r hn))))))))
  | 7, _, _ => Or.inr (cb_l (cb_r (cb_l (cb_l (cb_r (cb_r (cb_r (cb_r (cb_r hn)))))))))
  | 8, _, _ => Or.inr (cb_r (cb_r (cb_l (cb_l (cb_r (cb_r (cb_r (cb_r (cb_r hn)))))))))
  | 9, _, _ => Or.inr (cb_l (cb_r (cb_l (cb_r (cb_r (cb_r (cb_r (cb_r hn))))))))
  | 10, _, hne => absurd rfl hne
  | n + 11, hj, _ => absurd hj (by omega)
set_option maxRecDepth 100000 in
theorem ss_6 {s : State} {b : Nat} (hn : narrow_1.before #[Value.ref b] s = true) : ∀ i j : Nat, i < 11 → j < 11 → i ≠ j → (Cond.not (Cond.eq (st_tm i) (st_tm j))).before #[Value.ref b] s = true ∨ (Cond.not (Cond.eq (st_tm j) (st_tm i))).before #[Value.ref b] s = true := fun i j hi hj hne => match i, hi, hne with
  | 0, _, hne => s6_0 hn j hj hne
  | 1, _, hne => s6_1 hn j hj hne
  | 2, _, hne => s6_2 hn j hj hne
  | 3, _, hne => s6_3 hn j hj hne
  | 4, _, hne => s6_4 hn j hj hne
  | 5, _, hne => s6_5 hn j hj hne
  | 6, _, hne => s6_6 hn j hj hne
  | 7, _, hne => s6_7 hn j hj hne
  | 8, _, hne => s6_8 hn j hj hne
  | 9, _, hne => s6_9 hn j hj hne
  | 10, _, hne => s6_10 hn j hj hne
  | n + 11, hi, _ => absurd hi (by omega)
set_option maxRecDepth 100000 in
theorem ss_7 : ∀ i, i < 11 → st_len.getD i 0 < 2 ^ 31 := by decide +kernel
theorem st_S {s : State} {b : Nat} (hn : narrow_1.before #[Value.ref b] s = true) {A : Nat → Prop} (hA : ∀ a : Nat, a < s.heap.size → ¬ A a) : ∃ adK adV : Nat → Nat, vk_S 11 st_len st_byt adK adV A s s.heap ∧ ∀ i : Nat, i < 11 → (st_tm i).eval #[Value.ref b] s none [] s = some (.ref (adK i)) :=
  vk_Sof (tm := st_tm) ss_7 (ss_1 hn) (ss_2 hn) (ss_3 hn) (ss_4 hn) (ss_5 hn) (ss_6 hn) hA
set_option maxRecDepth 100000 in
theorem st_F {s : State} {b : Nat} (hn : narrow_1.before #[Value.ref b] s = true) : (Cond.isRef (.static "jdk/internal/util/Preconditions" "SIOOBE_FORMATTER" "Ljava/util/function/BiFunction;")).before #[Value.ref b] s = true := (cb_l (cb_l (cb_r (cb_l (cb_r (cb_r (cb_l (cb_l hn))))))))
set_option maxRecDepth 100000 in
theorem st_P {s : State} {b : Nat} (hn : narrow_1.before #[Value.ref b] s = true) : (Cond.eq (.static "java/lang/String" "COMPACT_STRINGS" "Z") (.int 1)).before #[Value.ref b] s = true := (cb_r (cb_r (cb_r (cb_l (cb_l (cb_r (cb_r (cb_l (cb_l hn)))))))))
