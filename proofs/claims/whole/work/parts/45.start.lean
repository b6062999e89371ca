/-! ===== what is there before the law begins ===== -/
def sv_1 : List Int32 := [1779033703, -1150833019, 1013904242, -1521486534, 1359893119, -1694144372, 528734635, 1541459225]
def sv_2 : List Int32 := [1116352408, 1899447441, -1245643825, -373957723, 961987163, 1508970993, -1841331548, -1424204075, -670586216, 310598401, 607225278, 1426881987, 1925078388, -2132889090, -1680079193, -1046744716, -459576895, -272742522, 264347078, 604807628, 770255983, 1249150122, 1555081692, 1996064986, -1740746414, -1473132947, -1341970488, -1084653625, -958395405, -710438585, 113926993, 338241895, 666307205, 773529912, 1294757372, 1396182291, 1695183700, 1986661051, -2117940946, -1838011259, -1564481375, -1474664885, -1035236496, -949202525, -778901479, -694614492, -200395387, 275423344, 430227734, 506948616, 659060556, 883997877, 958139571, 1322822218, 1537002063, 1747873779, 1955562222, 2024104815, -2067236844, -1933114872, -1866530822, -1538233109, -1090935817, -965641998]
def sv_3 : List Int32 := [255, 255, 255, 15, 252, 255, 255, 15, 252, 255, 255, 15, 252, 255, 255, 15]
def sv_4 : List Int32 := [1634760805, 857760878, 2036477234, 1797285236]
def sv_5 : List Int32 := [0, 4, 8, 12, 1, 5, 9, 13, 2, 6, 10, 14, 3, 7, 11, 15, 0, 5, 10, 15, 1, 6, 11, 12, 2, 7, 8, 13, 3, 4, 9, 14]
def sv_6 : List Int32 := [0, 33, 32]
def sv_7 : List Int32 := [0, 0, 2, 19, 3, 1, 0]
def sv_8 : List Int32 := [0, 43, 0, 3, 2, 3, 4, 0, 45, 0, 2, 1, 0, 0, 41]
def sv_9 : List Int32 := [0, 19, 3, 0, 0, 12, 0, 43, 0, 2, 3, 4, 0, 41, 0, 2, 0, 0]
def sv_21 : List Int32 := [101, 120, 116, 32, 98, 105, 110, 100, 101, 114]
def sv_22 : List Int32 := [116, 108, 115, 49, 51, 32]
def sv_23 : List Int32 := [100, 101, 114, 105, 118, 101, 100]
def sv_24 : List Int32 := [102, 105, 110, 105, 115, 104, 101, 100]
def sv_25 : List Int32 := [116, 114, 97, 102, 102, 105, 99, 32, 117, 112, 100]
def sv_26 : List Int32 := [107, 101, 121]
def sv_27 : List Int32 := [105, 118]
def sv_28 : List Int32 := [99, 32, 104, 115, 32, 116, 114, 97, 102, 102, 105, 99]
def sv_29 : List Int32 := [115, 32, 104, 115, 32, 116, 114, 97, 102, 102, 105, 99]
def sv_30 : List Int32 := [115, 32, 97, 112, 32, 116, 114, 97, 102, 102, 105, 99]
def sv_31 : List Int32 := [99, 32, 97, 112, 32, 116, 114, 97, 102, 102, 105, 99]
def st_sh (L : Nat) : List (Nat × Nat) := [(20, L), (20, 8), (20, 64), (20, 16), (20, 4), (20, 32), (20, 3), (20, 7), (20, 15), (20, 18), (26, 0), (26, 0), (26, 0), (26, 0), (26, 0), (26, 0), (26, 0), (26, 0), (26, 0), (26, 0), (26, 0), (21, 10), (21, 6), (21, 7), (21, 8), (21, 11), (21, 3), (21, 2), (21, 12), (21, 12), (21, 12), (21, 12)]
def st_i (xs : Nat → Int32) (a j : Nat) : Int32 := match a with
  | 0 => xs j
  | 1 => sv_1.getD j 0
  | 2 => sv_2.getD j 0
  | 3 => sv_3.getD j 0
  | 4 => sv_4.getD j 0
  | 5 => sv_5.getD j 0
  | 6 => sv_6.getD j 0
  | 7 => sv_7.getD j 0
  | 8 => sv_8.getD j 0
  | 9 => sv_9.getD j 0
  | 21 => sv_21.getD j 0
  | 22 => sv_22.getD j 0
  | 23 => sv_23.getD j 0
  | 24 => sv_24.getD j 0
  | 25 => sv_25.getD j 0
  | 26 => sv_26.getD j 0
  | 27 => sv_27.getD j 0
  | 28 => sv_28.getD j 0
  | 29 => sv_29.getD j 0
  | 30 => sv_30.getD j 0
  | 31 => sv_31.getD j 0
  | _ => 0
def st_h (L : Nat) (xs : Nat → Int32) : mm_H := (st_sh L, st_i xs, fun _ _ => 0, fun _ _ => none)
abbrev st_C : Jvm.Cond := Jvm.Cond.and given_1 narrow_1
theorem se_1 : ∀ j, j < 8 → Cond.eq (.elem (.static "SecretEnds$Sha" "FIRST" "[I") (.int (Int32.ofNat j))) (.int (sv_1.getD j 0)) ∈ flatC st_C := by decide +kernel
theorem sz_1 {s : State} {b : Nat} {A : Nat → Prop} (hts : ∀ w ∈ lw_tbl, w.before #[Value.ref b] s = true) (hs : ∀ c ∈ flatC st_C, c.before #[Value.ref b] s = true) (hA : ∀ a : Nat, a < s.heap.size → ¬ A a) : ∃ t : Nat, va_Z RX9 "FIRST" "[I" (.ref t) A s s.heap ∧ va_T .int t 8 (fun j => .int (sv_1.getD j 0)) A s s.heap := by
  obtain ⟨t, h1, h2⟩ := va_Tof (tm := .static "SecretEnds$Sha" "FIRST" "[I") (ty := .int) (N := 8) (f := fun j => .int (sv_1.getD j 0)) (A := A) (by decide) (hs _ (by decide +kernel)) (va_eqt (hs (Cond.eq (.length (.static "SecretEnds$Sha" "FIRST" "[I")) (.int (Int32.ofNat 8))) (by decide +kernel))) (fun j hj => va_eqt (hs _ (se_1 j hj))) hA
  exact ⟨t, va_Zof (hts _ (List.mem_of_getElem? (i := 149) (by decide +kernel))) (hts _ (List.mem_filter.mp wd_85).1) h1 hA, h2⟩
theorem se_2 : ∀ j, j < 64 → Cond.eq (.elem (.static "SecretEnds$Sha" "ROUNDS" "[I") (.int (Int32.ofNat j))) (.int (sv_2.getD j 0)) ∈ flatC st_C := by decide +kernel
theorem sz_2 {s : State} {b : Nat} {A : Nat → Prop} (hts : ∀ w ∈ lw_tbl, w.before #[Value.ref b] s = true) (hs : ∀ c ∈ flatC st_C, c.before #[Value.ref b] s = true) (hA : ∀ a : Nat, a < s.heap.size → ¬ A a) : ∃ t : Nat, va_Z RX9 "ROUNDS" "[I" (.ref t) A s s.heap ∧ va_T .int t 64 (fun j => .int (sv_2.getD j 0)) A s s.heap := by
  obtain ⟨t, h1, h2⟩ := va_Tof (tm := .static "SecretEnds$Sha" "ROUNDS" "[I") (ty := .int) (N := 64) (f := fun j => .int (sv_2.getD j 0)) (A := A) (by decide) (hs _ (by decide +kernel)) (va_eqt (hs (Cond.eq (.length (.static "SecretEnds$Sha" "ROUNDS" "[I")) (.int (Int32.ofNat 64))) (by decide +kernel))) (fun j hj => va_eqt (hs _ (se_2 j hj))) hA
  exact ⟨t, va_Zof (hts _ (List.mem_of_getElem? (i := 151) (by decide +kernel))) (hts _ (List.mem_filter.mp wd_85).1) h1 hA, h2⟩
theorem se_3 : ∀ j, j < 16 → Cond.eq (.elem (.static "SecretEnds$Poly" "CLAMP" "[I") (.int (Int32.ofNat j))) (.int (sv_3.getD j 0)) ∈ flatC st_C := by decide +kernel
theorem sz_3 {s : State} {b : Nat} {A : Nat → Prop} (hts : ∀ w ∈ lw_tbl, w.before #[Value.ref b] s = true) (hs : ∀ c ∈ flatC st_C, c.before #[Value.ref b] s = true) (hA : ∀ a : Nat, a < s.heap.size → ¬ A a) : ∃ t : Nat, va_Z RX5 "CLAMP" "[I" (.ref t) A s s.heap ∧ va_T .int t 16 (fun j => .int (sv_3.getD j 0)) A s s.heap := by
  obtain ⟨t, h1, h2⟩ := va_Tof (tm := .static "SecretEnds$Poly" "CLAMP" "[I") (ty := .int) (N := 16) (f := fun j => .int (sv_3.getD j 0)) (A := A) (by decide) (hs _ (by decide +kernel)) (va_eqt (hs (Cond.eq (.length (.static "SecretEnds$Poly" "CLAMP" "[I")) (.int (Int32.ofNat 16))) (by decide +kernel))) (fun j hj => va_eqt (hs _ (se_3 j hj))) hA
  exact ⟨t, va_Zof (hts _ (List.mem_of_getElem? (i := 699) (by decide +kernel))) (hts _ (List.mem_filter.mp wd_88).1) h1 hA, h2⟩
theorem se_4 : ∀ j, j < 4 → Cond.eq (.elem (.static "SecretEnds$Sealer" "FIRST" "[I") (.int (Int32.ofNat j))) (.int (sv_4.getD j 0)) ∈ flatC st_C := by decide +kernel
theorem sz_4 {s : State} {b : Nat} {A : Nat → Prop} (hts : ∀ w ∈ lw_tbl, w.before #[Value.ref b] s = true) (hs : ∀ c ∈ flatC st_C, c.before #[Value.ref b] s = true) (hA : ∀ a : Nat, a < s.heap.size → ¬ A a) : ∃ t : Nat, va_Z RX8 "FIRST" "[I" (.ref t) A s s.heap ∧ va_T .int t 4 (fun j => .int (sv_4.getD j 0)) A s s.heap := by
  obtain ⟨t, h1, h2⟩ := va_Tof (tm := .static "SecretEnds$Sealer" "FIRST" "[I") (ty := .int) (N := 4) (f := fun j => .int (sv_4.getD j 0)) (A := A) (by decide) (hs _ (by decide +kernel)) (va_eqt (hs (Cond.eq (.length (.static "SecretEnds$Sealer" "FIRST" "[I")) (.int (Int32.ofNat 4))) (by decide +kernel))) (fun j hj => va_eqt (hs _ (se_4 j hj))) hA
  exact ⟨t, va_Zof (hts _ (List.mem_of_getElem? (i := 659) (by decide +kernel))) (hts _ (List.mem_filter.mp wd_87).1) h1 hA, h2⟩
theorem se_5 : ∀ j, j < 32 → Cond.eq (.elem (.static "SecretEnds$Sealer" "QUARTERS" "[I") (.int (Int32.ofNat j))) (.int (sv_5.getD j 0)) ∈ flatC st_C := by decide +kernel
theorem sz_5 {s : State} {b : Nat} {A : Nat → Prop} (hts : ∀ w ∈ lw_tbl, w.before #[Value.ref b] s = true) (hs : ∀ c ∈ flatC st_C, c.before #[Value.ref b] s = true) (hA : ∀ a : Nat, a < s.heap.size → ¬ A a) : ∃ t : Nat, va_Z RX8 "QUARTERS" "[I" (.ref t) A s s.heap ∧ va_T .int t 32 (fun j => .int (sv_5.getD j 0)) A s s.heap := by
  obtain ⟨t, h1, h2⟩ := va_Tof (tm := .static "SecretEnds$Sealer" "QUARTERS" "[I") (ty := .int) (N := 32) (f := fun j => .int (sv_5.getD j 0)) (A := A) (by decide) (hs _ (by decide +kernel)) (va_eqt (hs (Cond.eq (.length (.static "SecretEnds$Sealer" "QUARTERS" "[I")) (.int (Int32.ofNat 32))) (by decide +kernel))) (fun j hj => va_eqt (hs _ (se_5 j hj))) hA
  exact ⟨t, va_Zof (hts _ (List.mem_of_getElem? (i := 674) (by decide +kernel))) (hts _ (List.mem_filter.mp wd_87).1) h1 hA, h2⟩
theorem se_6 : ∀ j, j < 3 → Cond.eq (.elem (.static "SecretEnds$Messages" "BINDER_AHEAD" "[I") (.int (Int32.ofNat j))) (.int (sv_6.getD j 0)) ∈ flatC st_C := by decide +kernel
theorem sz_6 {s : State} {b : Nat} {A : Nat → Prop} (hts : ∀ w ∈ lw_tbl, w.before #[Value.ref b] s = true) (hs : ∀ c ∈ flatC st_C, c.before #[Value.ref b] s = true) (hA : ∀ a : Nat, a < s.heap.size → ¬ A a) : ∃ t : Nat, va_Z RX3 "BINDER_AHEAD" "[I" (.ref t) A s s.heap ∧ va_T .int t 3 (fun j => .int (sv_6.getD j 0)) A s s.heap := by
  obtain ⟨t, h1, h2⟩ := va_Tof (tm := .static "SecretEnds$Messages" "BINDER_AHEAD" "[I") (ty := .int) (N := 3) (f := fun j => .int (sv_6.getD j 0)) (A := A) (by decide) (hs _ (by decide +kernel)) (va_eqt (hs (Cond.eq (.length (.static "SecretEnds$Messages" "BINDER_AHEAD" "[I")) (.int (Int32.ofNat 3))) (by decide +kernel))) (fun j hj => va_eqt (hs _ (se_6 j hj))) hA
  exact ⟨t, va_Zof (hts _ (List.mem_of_getElem? (i := 632) (by decide +kernel))) (hts _ (List.mem_filter.mp wd_98).1) h1 hA, h2⟩
theorem se_7 : ∀ j, j < 7 → Cond.eq (.elem (.static "SecretEnds$Messages" "CLIENT_CHOICE" "[I") (.int (Int32.ofNat j))) (.int (sv_7.getD j 0)) ∈ flatC st_C := by decide +kernel
theorem sz_7 {s : State} {b : Nat} {A : Nat → Prop} (hts : ∀ w ∈ lw_tbl, w.before #[Value.ref b] s = true) (hs : ∀ c ∈ flatC st_C, c.before #[Value.ref b] s = true) (hA : ∀ a : Nat, a < s.heap.size → ¬ A a) : ∃ t : Nat, va_Z RX3 "CLIENT_CHOICE" "[I" (.ref t) A s s.heap ∧ va_T .int t 7 (fun j => .int (sv_7.getD j 0)) A s s.heap := by
  obtain ⟨t, h1, h2⟩ := va_Tof (tm := .static "SecretEnds$Messages" "CLIENT_CHOICE" "[I") (ty := .int) (N := 7) (f := fun j => .int (sv_7.getD j 0)) (A := A) (by decide) (hs _ (by decide +kernel)) (va_eqt (hs (Cond.eq (.length (.static "SecretEnds$Messages" "CLIENT_CHOICE" "[I")) (.int (Int32.ofNat 7))) (by decide +kernel))) (fun j hj => va_eqt (hs _ (se_7 j hj))) hA
  exact ⟨t, va_Zof (hts _ (List.mem_of_getElem? (i := 619) (by decide +kernel))) (hts _ (List.mem_filter.mp wd_98).1) h1 hA, h2⟩
theorem se_8 : ∀ j, j < 15 → Cond.eq (.elem (.static "SecretEnds$Messages" "CLIENT_EXTENSIONS" "[I") (.int (Int32.ofNat j))) (.int (sv_8.getD j 0)) ∈ flatC st_C := by decide +kernel
theorem sz_8 {s : State} {b : Nat} {A : Nat → Prop} (hts : ∀ w ∈ lw_tbl, w.before #[Value.ref b] s = true) (hs : ∀ c ∈ flatC st_C, c.before #[Value.ref b] s = true) (hA : ∀ a : Nat, a < s.heap.size → ¬ A a) : ∃ t : Nat, va_Z RX3 "CLIENT_EXTENSIONS" "[I" (.ref t) A s s.heap ∧ va_T .int t 15 (fun j => .int (sv_8.getD j 0)) A s s.heap := by
  obtain ⟨t, h1, h2⟩ := va_Tof (tm := .static "SecretEnds$Messages" "CLIENT_EXTENSIONS" "[I") (ty := .int) (N := 15) (f := fun j => .int (sv_8.getD j 0)) (A := A) (by decide) (hs _ (by decide +kernel)) (va_eqt (hs (Cond.eq (.length (.static "SecretEnds$Messages" "CLIENT_EXTENSIONS" "[I")) (.int (Int32.ofNat 15))) (by decide +kernel))) (fun j hj => va_eqt (hs _ (se_8 j hj))) hA
  exact ⟨t, va_Zof (hts _ (List.mem_of_getElem? (i := 625) (by decide +kernel))) (hts _ (List.mem_filter.mp wd_98).1) h1 hA, h2⟩
theorem se_9 : ∀ j, j < 18 → Cond.eq (.elem (.static "SecretEnds$Messages" "SERVER_CHOICE" "[I") (.int (Int32.ofNat j))) (.int (sv_9.getD j 0)) ∈ flatC st_C := by decide +kernel
theorem sz_9 {s : State} {b : Nat} {A : Nat → Prop} (hts : ∀ w ∈ lw_tbl, w.before #[Value.ref b] s = true) (hs : ∀ c ∈ flatC st_C, c.before #[Value.ref b] s = true) (hA : ∀ a : Nat, a < s.heap.size → ¬ A a) : ∃ t : Nat, va_Z RX3 "SERVER_CHOICE" "[I" (.ref t) A s s.heap ∧ va_T .int t 18 (fun j => .int (sv_9.getD j 0)) A s s.heap := by
  obtain ⟨t, h1, h2⟩ := va_Tof (tm := .static "SecretEnds$Messages" "SERVER_CHOICE" "[I") (ty := .int) (N := 18) (f := fun j => .int (sv_9.getD j 0)) (A := A) (by decide) (hs _ (by decide +kernel)) (va_eqt (hs (Cond.eq (.length (.static "SecretEnds$Messages" "SERVER_CHOICE" "[I")) (.int (Int32.ofNat 18))) (by decide +kernel))) (fun j hj => va_eqt (hs _ (se_9 j hj))) hA
  exact ⟨t, va_Zof (hts _ (List.mem_of_getElem? (i := 853) (by decide +kernel))) (hts _ (List.mem_filter.mp wd_98).1) h1 hA, h2⟩
def st_tm (i : Nat) : Term := match i with
  | 0 => .string "SecretEnds$Schedule" 58
  | 1 => .string "SecretEnds$Kdf" 71
  | 2 => .string "SecretEnds$Schedule" 64
  | 3 => .string "SecretEnds$Schedule" 66
  | 4 => .string "SecretEnds$End" 151
  | 5 => .string "SecretEnds$Keys" 40
  | 6 => .string "SecretEnds$Keys" 44
  | 7 => .string "SecretEnds$End" 307
  | 8 => .string "SecretEnds$End" 309
  | 9 => .string "SecretEnds$End" 317
  | _ => .string "SecretEnds$End" 319
def st_len : List Nat := [10, 6, 7, 8, 11, 3, 2, 12, 12, 12, 12]
def st_byt : List (List Int32) := [sv_21, sv_22, sv_23, sv_24, sv_25, sv_26, sv_27, sv_28, sv_29, sv_30, sv_31]
theorem ss_1 : ∀ i, i < 11 → Cond.exactly (st_tm i) "java/lang/String" ∈ flatC st_C := by decide +kernel
theorem ss_2 : ∀ i, i < 11 → Cond.eq (.field (st_tm i) "java/lang/String" "coder" "B") (.int 0) ∈ flatC st_C := by decide +kernel
theorem ss_3 : ∀ i, i < 11 → Cond.arrayOf (.field (st_tm i) "java/lang/String" "value" "[B") .byte ∈ flatC st_C := by decide +kernel
theorem ss_4 : ∀ i, i < 11 → Cond.eq (.length (.field (st_tm i) "java/lang/String" "value" "[B")) (.int (Int32.ofNat (st_len.getD i 0))) ∈ flatC st_C := by decide +kernel
theorem ss_5 : ∀ i, i < 11 → ∀ j, j < st_len.getD i 0 → Cond.eq (.elem (.field (st_tm i) "java/lang/String" "value" "[B") (.int (Int32.ofNat j))) (.int ((st_byt.getD i []).getD j 0)) ∈ flatC st_C := by decide +kernel
theorem ss_6 : ∀ i, i < 11 → ∀ j, j < 11 → i ≠ j → Cond.not (Cond.eq (st_tm i) (st_tm j)) ∈ flatC st_C ∨ Cond.not (Cond.eq (st_tm j) (st_tm i)) ∈ flatC st_C := by decide +kernel
theorem ss_7 : ∀ i, i < 11 → st_len.getD i 0 < 2 ^ 31 := by decide +kernel
theorem st_S {s : State} {b : Nat} {A : Nat → Prop} (hs : ∀ c ∈ flatC st_C, c.before #[Value.ref b] s = true) (hA : ∀ a : Nat, a < s.heap.size → ¬ A a) : ∃ adK adV : Nat → Nat, vk_S 11 st_len st_byt adK adV A s s.heap ∧ ∀ i : Nat, i < 11 → (st_tm i).eval #[Value.ref b] s none [] s = some (.ref (adK i)) :=
  vk_Sof (tm := st_tm) ss_7 (fun i hi => hs _ (ss_1 i hi)) (fun i hi => hs _ (ss_2 i hi)) (fun i hi => hs _ (ss_3 i hi)) (fun i hi => hs _ (ss_4 i hi)) (fun i hi j hj => hs _ (ss_5 i hi j hj)) (fun i j hi hj hne => (ss_6 i hi j hj hne).imp (hs _) (hs _)) hA
