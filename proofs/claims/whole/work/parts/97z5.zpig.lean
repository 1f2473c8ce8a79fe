/-! EXPLAIN, SURE: n that differ, among n, are all of them -/
theorem zpig {n : Int} (hn : 0 ≤ n ∧ n ≤ 3) {v u : Int → Int} (inj : ∀ i j, 0 ≤ i → i < j → j < n → v i ≠ v j) (h : ∀ j, 0 ≤ j → j < n → ∃ i, 0 ≤ i ∧ i < n ∧ u i = v j) : ∀ i, 0 ≤ i → i < n → ∃ j, 0 ≤ j ∧ j < n ∧ v j = u i := by
  intro i i0 i1
  have : n = 1 ∨ n = 2 ∨ n = 3 := by omega
  rcases this with rfl | rfl | rfl
  · obtain ⟨a, a0, a1, a2⟩ := h 0 (by omega) (by omega)
    rw [show a = 0 by omega] at a2
    exact ⟨0, by omega, by omega, by rw [show i = 0 by omega]; exact a2.symm⟩
  · have d01 := inj 0 1 (by omega) (by omega) (by omega)
    have f : ∀ j, 0 ≤ j → j < 2 → u 0 = v j ∨ u 1 = v j := by
      intro j a b
      obtain ⟨k, k0, k1, k2⟩ := h j a b
      have : k = 0 ∨ k = 1 := by omega
      rcases this with rfl | rfl
      · exact Or.inl k2
      · exact Or.inr k2
    have f0 := f 0 (by omega) (by omega)
    have f1 := f 1 (by omega) (by omega)
    have g : v 0 = u i ∨ v 1 = u i := by
      have : i = 0 ∨ i = 1 := by omega
      rcases this with rfl | rfl <;> omega
    rcases g with g | g
    · exact ⟨0, by omega, by omega, g⟩
    · exact ⟨1, by omega, by omega, g⟩
  · have d01 := inj 0 1 (by omega) (by omega) (by omega)
    have d02 := inj 0 2 (by omega) (by omega) (by omega)
    have d12 := inj 1 2 (by omega) (by omega) (by omega)
    have f : ∀ j, 0 ≤ j → j < 3 → u 0 = v j ∨ u 1 = v j ∨ u 2 = v j := by
      intro j a b
      obtain ⟨k, k0, k1, k2⟩ := h j a b
      have : k = 0 ∨ k = 1 ∨ k = 2 := by omega
      rcases this with rfl | rfl | rfl
      · exact Or.inl k2
      · exact Or.inr (Or.inl k2)
      · exact Or.inr (Or.inr k2)
    have f0 := f 0 (by omega) (by omega)
    have f1 := f 1 (by omega) (by omega)
    have f2 := f 2 (by omega) (by omega)
    have g : v 0 = u i ∨ v 1 = u i ∨ v 2 = u i := by
      have : i = 0 ∨ i = 1 ∨ i = 2 := by omega
      rcases this with rfl | rfl | rfl <;> omega
    rcases g with g | g | g
    · exact ⟨0, by omega, by omega, g⟩
    · exact ⟨1, by omega, by omega, g⟩
    · exact ⟨2, by omega, by omega, g⟩
