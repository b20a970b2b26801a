/-! the classes of the worlds -/
theorem wsIn0 : ∀ w ∈ u_ws RX0 TX0 5, w ∈ TBg := by
  have h : (u_ws RX0 TX0 5).all (fun w => decide (w ∈ lw_tbl) && goodWord w) = true := by decide +kernel
  intro w hw
  have h1 := List.all_eq_true.mp h w hw
  simp only [Bool.and_eq_true, decide_eq_true_eq] at h1
  exact TBg_mem h1.1 h1.2
theorem wsIn1 : ∀ w ∈ u_ws RX1 TX1 3, w ∈ TBg := by
  have h : (u_ws RX1 TX1 3).all (fun w => decide (w ∈ lw_tbl) && goodWord w) = true := by decide +kernel
  intro w hw
  have h1 := List.all_eq_true.mp h w hw
  simp only [Bool.and_eq_true, decide_eq_true_eq] at h1
  exact TBg_mem h1.1 h1.2
theorem wsIn2 : ∀ w ∈ u_ws RX2 TX2 6, w ∈ TBg := by
  have h : (u_ws RX2 TX2 6).all (fun w => decide (w ∈ lw_tbl) && goodWord w) = true := by decide +kernel
  intro w hw
  have h1 := List.all_eq_true.mp h w hw
  simp only [Bool.and_eq_true, decide_eq_true_eq] at h1
  exact TBg_mem h1.1 h1.2
theorem wsIn3 : ∀ w ∈ u_ws RX3 TX3 13, w ∈ TBg := by
  have h : (u_ws RX3 TX3 13).all (fun w => decide (w ∈ lw_tbl) && goodWord w) = true := by decide +kernel
  intro w hw
  have h1 := List.all_eq_true.mp h w hw
  simp only [Bool.and_eq_true, decide_eq_true_eq] at h1
  exact TBg_mem h1.1 h1.2
theorem wsIn4 : ∀ w ∈ u_ws RX4 TX4 8, w ∈ TBg := by
  have h : (u_ws RX4 TX4 8).all (fun w => decide (w ∈ lw_tbl) && goodWord w) = true := by decide +kernel
  intro w hw
  have h1 := List.all_eq_true.mp h w hw
  simp only [Bool.and_eq_true, decide_eq_true_eq] at h1
  exact TBg_mem h1.1 h1.2
theorem wsIn5 : ∀ w ∈ u_ws RX5 TX5 6, w ∈ TBg := by
  have h : (u_ws RX5 TX5 6).all (fun w => decide (w ∈ lw_tbl) && goodWord w) = true := by decide +kernel
  intro w hw
  have h1 := List.all_eq_true.mp h w hw
  simp only [Bool.and_eq_true, decide_eq_true_eq] at h1
  exact TBg_mem h1.1 h1.2
theorem wsIn6 : ∀ w ∈ u_ws RX6 TX6 5, w ∈ TBg := by
  have h : (u_ws RX6 TX6 5).all (fun w => decide (w ∈ lw_tbl) && goodWord w) = true := by decide +kernel
  intro w hw
  have h1 := List.all_eq_true.mp h w hw
  simp only [Bool.and_eq_true, decide_eq_true_eq] at h1
  exact TBg_mem h1.1 h1.2
theorem wsIn7 : ∀ w ∈ u_ws RX7 TX7 3, w ∈ TBg := by
  have h : (u_ws RX7 TX7 3).all (fun w => decide (w ∈ lw_tbl) && goodWord w) = true := by decide +kernel
  intro w hw
  have h1 := List.all_eq_true.mp h w hw
  simp only [Bool.and_eq_true, decide_eq_true_eq] at h1
  exact TBg_mem h1.1 h1.2
theorem wsIn8 : ∀ w ∈ u_ws RX8 TX8 19, w ∈ TBg := by
  have h : (u_ws RX8 TX8 19).all (fun w => decide (w ∈ lw_tbl) && goodWord w) = true := by decide +kernel
  intro w hw
  have h1 := List.all_eq_true.mp h w hw
  simp only [Bool.and_eq_true, decide_eq_true_eq] at h1
  exact TBg_mem h1.1 h1.2
theorem wsIn9 : ∀ w ∈ u_ws RX9 TX9 2, w ∈ TBg := by
  have h : (u_ws RX9 TX9 2).all (fun w => decide (w ∈ lw_tbl) && goodWord w) = true := by decide +kernel
  intro w hw
  have h1 := List.all_eq_true.mp h w hw
  simp only [Bool.and_eq_true, decide_eq_true_eq] at h1
  exact TBg_mem h1.1 h1.2
theorem wsIn10 : ∀ w ∈ u_ws RX10 TX10 5, w ∈ TBg := by
  have h : (u_ws RX10 TX10 5).all (fun w => decide (w ∈ lw_tbl) && goodWord w) = true := by decide +kernel
  intro w hw
  have h1 := List.all_eq_true.mp h w hw
  simp only [Bool.and_eq_true, decide_eq_true_eq] at h1
  exact TBg_mem h1.1 h1.2
theorem wsIn11 : ∀ w ∈ u_ws RX11 TX11 8, w ∈ TBg := by
  have h : (u_ws RX11 TX11 8).all (fun w => decide (w ∈ lw_tbl) && goodWord w) = true := by decide +kernel
  intro w hw
  have h1 := List.all_eq_true.mp h w hw
  simp only [Bool.and_eq_true, decide_eq_true_eq] at h1
  exact TBg_mem h1.1 h1.2
theorem wsIn12 : ∀ w ∈ u_ws RX12 TX12 67, w ∈ TBg := by
  have h : (u_ws RX12 TX12 67).all (fun w => decide (w ∈ lw_tbl) && goodWord w) = true := by decide +kernel
  intro w hw
  have h1 := List.all_eq_true.mp h w hw
  simp only [Bool.and_eq_true, decide_eq_true_eq] at h1
  exact TBg_mem h1.1 h1.2
def kOK (κ : Nat) : Prop := ∃ (C : String) (F : u_T) (N : Nat) (ty : Nat → FieldType), vwCl[κ]? = some (C, F, N) ∧ (∀ k, k < N → parseFieldDescriptor (F k).2.2.1 = some (ty k)) ∧ (∀ a, a < N → ∀ b, b < N → a ≠ b → (F a).2.1 ≠ (F b).2.1) ∧ (∀ w ∈ u_ws C F N, w ∈ TBg) ∧ nF κ = N ∧ (∀ j, j < N → defaultValue (ty j) = if rF κ j = true then Value.null else .int 0)
theorem kOK0 : kOK 0 := ⟨RX0, TX0, 5, tyX0, rfl, tyX0_ok, nmX0, wsIn0, rfl, by decide +kernel⟩
theorem kOK1 : kOK 1 := ⟨RX1, TX1, 3, tyX1, rfl, tyX1_ok, nmX1, wsIn1, rfl, by decide +kernel⟩
theorem kOK2 : kOK 2 := ⟨RX2, TX2, 6, tyX2, rfl, tyX2_ok, nmX2, wsIn2, rfl, by decide +kernel⟩
theorem kOK3 : kOK 3 := ⟨RX3, TX3, 13, tyX3, rfl, tyX3_ok, nmX3, wsIn3, rfl, by decide +kernel⟩
theorem kOK4 : kOK 4 := ⟨RX4, TX4, 8, tyX4, rfl, tyX4_ok, nmX4, wsIn4, rfl, by decide +kernel⟩
theorem kOK5 : kOK 5 := ⟨RX5, TX5, 6, tyX5, rfl, tyX5_ok, nmX5, wsIn5, rfl, by decide +kernel⟩
theorem kOK6 : kOK 6 := ⟨RX6, TX6, 5, tyX6, rfl, tyX6_ok, nmX6, wsIn6, rfl, by decide +kernel⟩
theorem kOK7 : kOK 7 := ⟨RX7, TX7, 3, tyX7, rfl, tyX7_ok, nmX7, wsIn7, rfl, by decide +kernel⟩
theorem kOK8 : kOK 8 := ⟨RX8, TX8, 19, tyX8, rfl, tyX8_ok, nmX8, wsIn8, rfl, by decide +kernel⟩
theorem kOK9 : kOK 9 := ⟨RX9, TX9, 2, tyX9, rfl, tyX9_ok, nmX9, wsIn9, rfl, by decide +kernel⟩
theorem kOK10 : kOK 10 := ⟨RX10, TX10, 5, tyX10, rfl, tyX10_ok, nmX10, wsIn10, rfl, by decide +kernel⟩
theorem kOK11 : kOK 11 := ⟨RX11, TX11, 8, tyX11, rfl, tyX11_ok, nmX11, wsIn11, rfl, by decide +kernel⟩
theorem kOK12 : kOK 12 := ⟨RX12, TX12, 67, tyX12, rfl, tyX12_ok, nmX12, wsIn12, rfl, by decide +kernel⟩
theorem kOK_all : ∀ κ, κ < 13 → kOK κ := by
  intro κ h
  match κ, h with
  | 0, _ => exact kOK0
  | 1, _ => exact kOK1
  | 2, _ => exact kOK2
  | 3, _ => exact kOK3
  | 4, _ => exact kOK4
  | 5, _ => exact kOK5
  | 6, _ => exact kOK6
  | 7, _ => exact kOK7
  | 8, _ => exact kOK8
  | 9, _ => exact kOK9
  | 10, _ => exact kOK10
  | 11, _ => exact kOK11
  | 12, _ => exact kOK12
  | n + 13, h => omega
theorem vwCl_lt {κ : Nat} {q : vw_C} (h : vwCl[κ]? = some q) : κ < 13 := (List.getElem?_eq_some_iff.mp h).1
/-- field j of kind κ is what number idx of class own's pool links to; whether it is final; its type -/
def fLk (own : String) (idx κ j : Nat) (fin : Bool) (ty : FieldType) : Prop := ∃ q : vw_C, vwCl[κ]? = some q ∧ j < q.2.2 ∧ Cond.fieldLink own idx (q.2.1 j).1 (q.2.1 j).2.1 (q.2.1 j).2.2.1 ∈ TBg ∧ (q.2.1 j).2.2.2 = fin ∧ parseFieldDescriptor (q.2.1 j).2.2.1 = some ty
