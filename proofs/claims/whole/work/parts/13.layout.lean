/-! the layout: what the cells are -/
def ld_fu : Nat := 2000
theorem ld_q_lt {b k : Nat} (h : b = 11 ∨ b = 28) (hk : k < 17) : b + k < 87 := by omega
theorem ld_q_lt0 {b : Nat} (h : b = 11 ∨ b = 28) : b < 87 := by omega
theorem ld_q_cell {w : ld_E} {b : Nat} (h : b = 11 ∨ b = 28) : ∀ z, ld_cell w b z = .inr (0, ld_f0 w b z) := by
  intro z; rcases h with rfl | rfl <;> rfl
theorem ld_q_delays {w : ld_E} {b : Nat} (h : b = 11 ∨ b = 28) : ∀ z, ld_cell w (b + 1) z = .inl (w.2.1 0, 10, .inl z) := by
  intro z; rcases h with rfl | rfl <;> rfl
theorem ld_q_fades {w : ld_E} {b : Nat} (h : b = 11 ∨ b = 28) : ∀ z, ld_cell w (b + 2) z = .inl (w.2.1 0, 10, .inl z) := by
  intro z; rcases h with rfl | rfl <;> rfl
theorem ld_q_follow {w : ld_E} {b : Nat} (h : b = 11 ∨ b = 28) : ∀ z, ld_cell w (b + 3) z = .inl (w.2.1 1, 10, .inl z) := by
  intro z; rcases h with rfl | rfl <;> rfl
theorem ld_q_levels {w : ld_E} {b : Nat} (h : b = 11 ∨ b = 28) : ∀ z, ld_cell w (b + 4) z = .inl (w.2.1 3, 10, .inr (.inr (.inr (.inr (fun j => some (ld_ad w (b + 7 + j))))))) := by
  intro z; rcases h with rfl | rfl <;> rfl
theorem ld_q_from {w : ld_E} {b : Nat} (h : b = 11 ∨ b = 28) : ∀ z, ld_cell w (b + 5) z = .inl (w.2.1 0, 12, .inl z) := by
  intro z; rcases h with rfl | rfl <;> rfl
theorem ld_q_to {w : ld_E} {b : Nat} (h : b = 11 ∨ b = 28) : ∀ z, ld_cell w (b + 6) z = .inl (w.2.1 0, 12, .inl z) := by
  intro z; rcases h with rfl | rfl <;> rfl
theorem ld_q_row_lt {b j : Nat} (h : b = 11 ∨ b = 28) (hj : j < 10) : b + 7 + j < 87 := by omega
theorem ld_cell_row {w : ld_E} {i n : Nat} (hl : ld_len i = n) (h : (17 < i ∧ i < 28) ∨ (34 < i ∧ i < 45) ∨ (6 < i ∧ i < 11) ∨ (46 < i ∧ i < 67)) : ∀ z, ld_cell w i z = .inl (w.2.1 0, n, .inl z) := by
  intro z
  subst hl
  unfold ld_cell
  rw [if_neg (by omega), if_neg (by omega), if_neg (by omega), if_neg (by omega), if_neg (by omega), if_neg (by omega), if_neg (by omega), if_neg (by omega), if_neg (by omega), if_neg (by omega), if_neg (by omega)]
theorem ld_q_row {w : ld_E} {b j : Nat} (h : b = 11 ∨ b = 28) (hj : j < 10) : ∀ z, ld_cell w (b + 7 + j) z = .inl (w.2.1 0, 12, .inl z) := by
  refine ld_cell_row ?_ (by omega)
  unfold ld_len
  rw [if_neg (by omega), if_neg (by omega), if_neg (by omega), if_pos (by omega)]
theorem ld_g_row_lt {j : Nat} (hj : j < 4) : 7 + j < 87 := by omega
theorem ld_g_row {w : ld_E} {j : Nat} (hj : j < 4) : ∀ z, ld_cell w (7 + j) z = .inl (w.2.1 0, 20, .inl z) := by
  refine ld_cell_row ?_ (by omega)
  unfold ld_len
  rw [if_neg (by omega), if_pos (by omega)]
theorem ld_h_lt {i : Nat} (h : 47 ≤ i ∧ i < 67) : i < 87 := by omega
theorem ld_h_cell {w : ld_E} {i : Nat} (h : 47 ≤ i ∧ i < 67) : ∀ z, ld_cell w i z = .inl (w.2.1 0, 5, .inl z) := by
  refine ld_cell_row ?_ (by omega)
  unfold ld_len
  rw [if_neg (by omega), if_neg (by omega), if_neg (by omega), if_neg (by omega), if_pos (by omega)]
theorem ld_h_row_lt {j : Nat} (hj : j < 20) : 47 + j < 87 := by omega
theorem ld_h_row {w : ld_E} {j : Nat} (hj : j < 20) : ∀ z, ld_cell w (47 + j) z = .inl (w.2.1 0, 5, .inl z) := ld_h_cell (by omega)
def ld_cu (x : Int32) : Nat := if x = 0 then 11 else 28
theorem ld_cu_q (x : Int32) : ld_cu x = 11 ∨ ld_cu x = 28 := by
  unfold ld_cu
  by_cases h : x = 0
  · exact Or.inl (if_pos h)
  · exact Or.inr (if_neg h)
