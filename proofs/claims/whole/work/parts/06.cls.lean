/-! ===== rules: fields, arrays ===== -/
theorem mm_inT' {ws : List Cond} (h1 : ∀ w ∈ ws, w ∈ lw_tbl) (h2 : ws.all goodWord = true) : ∀ w ∈ ws, w ∈ mm_T := fun w hw => mm_inT (h1 w hw) (List.all_eq_true.mp h2 w hw)
def mm_Cl (c : Nat) (C : String) (T : u_T) (N : Nat) (ty : Nat → FieldType) : Prop := vwCl[c]? = some (C, T, N) ∧ (∀ w ∈ u_ws C T N, w ∈ mm_T) ∧ (∀ k, k < N → parseFieldDescriptor (T k).2.2.1 = some (ty k)) ∧ (∀ a, a < N → ∀ b, b < N → a ≠ b → (T a).2.1 ≠ (T b).2.1) ∧ mm_N c = N ∧ mm_ty c = ty ∧ c < 12
theorem cl_0 : mm_Cl 0 RX0 TX0 18 tyX0 := ⟨rfl, mm_inT' (by decide +kernel) (by decide +kernel), tyX0_ok, nmX0, rfl, rfl, by decide⟩
theorem cl_1 : mm_Cl 1 RX1 TX1 7 tyX1 := ⟨rfl, mm_inT' (by decide +kernel) (by decide +kernel), tyX1_ok, nmX1, rfl, rfl, by decide⟩
theorem cl_2 : mm_Cl 2 RX2 TX2 5 tyX2 := ⟨rfl, mm_inT' (by decide +kernel) (by decide +kernel), tyX2_ok, nmX2, rfl, rfl, by decide⟩
theorem cl_3 : mm_Cl 3 RX4 TX4 2 tyX4 := ⟨rfl, mm_inT' (by decide +kernel) (by decide +kernel), tyX4_ok, nmX4, rfl, rfl, by decide⟩
theorem cl_4 : mm_Cl 4 RX5 TX5 3 tyX5 := ⟨rfl, mm_inT' (by decide +kernel) (by decide +kernel), tyX5_ok, nmX5, rfl, rfl, by decide⟩
theorem cl_5 : mm_Cl 5 RX6 TX6 2 tyX6 := ⟨rfl, mm_inT' (by decide +kernel) (by decide +kernel), tyX6_ok, nmX6, rfl, rfl, by decide⟩
theorem cl_6 : mm_Cl 6 RX7 TX7 6 tyX7 := ⟨rfl, mm_inT' (by decide +kernel) (by decide +kernel), tyX7_ok, nmX7, rfl, rfl, by decide⟩
theorem cl_7 : mm_Cl 7 RX8 TX8 6 tyX8 := ⟨rfl, mm_inT' (by decide +kernel) (by decide +kernel), tyX8_ok, nmX8, rfl, rfl, by decide⟩
theorem cl_8 : mm_Cl 8 RX9 TX9 2 tyX9 := ⟨rfl, mm_inT' (by decide +kernel) (by decide +kernel), tyX9_ok, nmX9, rfl, rfl, by decide⟩
theorem cl_9 : mm_Cl 9 RX10 TX10 11 tyX10 := ⟨rfl, mm_inT' (by decide +kernel) (by decide +kernel), tyX10_ok, nmX10, rfl, rfl, by decide⟩
theorem cl_10 : mm_Cl 10 RX11 TX11 4 tyX11 := ⟨rfl, mm_inT' (by decide +kernel) (by decide +kernel), tyX11_ok, nmX11, rfl, rfl, by decide⟩
theorem cl_11 : mm_Cl 11 RX12 TX12 66 tyX12 := ⟨rfl, mm_inT' (by decide +kernel) (by decide +kernel), tyX12_ok, nmX12, rfl, rfl, by decide⟩
