/-! EXPLAIN, SURE: sets and their codes -/
theorem zdg_e {n : Int} (hn : 0 ≤ n ∧ n ≤ 3) {w : Int → Int} (hw : ∀ j, 0 ≤ j → j < n → 0 ≤ w j ∧ w j < 96) : ∃ c : Int, 0 ≤ c ∧ c < zcd n ∧ ∀ j, 0 ≤ j → j < n → zdg n j c = w j := by
  have : n = 0 ∨ n = 1 ∨ n = 2 ∨ n = 3 := by omega
  rcases this with rfl | rfl | rfl | rfl
  · exact ⟨0, by omega, by decide, fun j a b => by omega⟩
  · have h0 := hw 0 (by omega) (by omega)
    refine ⟨w 0, h0.1, ?_, fun j a b => ?_⟩
    · show w 0 < ((96 : Nat) : Int)
      omega
    · rw [zdg1, show j = 0 by omega]
  · have h0 := hw 0 (by omega) (by omega)
    have h1 := hw 1 (by omega) (by omega)
    refine ⟨96 * w 0 + w 1, by omega, ?_, fun j a b => ?_⟩
    · show 96 * w 0 + w 1 < ((9216 : Nat) : Int)
      omega
    · have : j = 0 ∨ j = 1 := by omega
      rcases this with rfl | rfl
      · rw [zdg20]; omega
      · rw [zdg21]; omega
  · have h0 := hw 0 (by omega) (by omega)
    have h1 := hw 1 (by omega) (by omega)
    have h2 := hw 2 (by omega) (by omega)
    refine ⟨9216 * w 0 + 96 * w 1 + w 2, by omega, ?_, fun j a b => ?_⟩
    · show 9216 * w 0 + 96 * w 1 + w 2 < ((884736 : Nat) : Int)
      omega
    · have : j = 0 ∨ j = 1 ∨ j = 2 := by omega
      rcases this with rfl | rfl | rfl
      · rw [zdg30]; omega
      · rw [zdg31]; omega
      · rw [zdg32]; omega
/-- a set comes before another where its code is less -/
theorem zLx_c {n c e : Int} (hn : 0 ≤ n ∧ n ≤ 3) (hc : 0 ≤ c ∧ c < zcd n) (he : 0 ≤ e ∧ e < zcd n) : zLx (fun j => zdg n j c) (fun j => zdg n j e) n ↔ c < e := by
  have : n = 0 ∨ n = 1 ∨ n = 2 ∨ n = 3 := by omega
  rcases this with rfl | rfl | rfl | rfl
  · have q : ((zcd 0 : Nat) : Int) = 1 := rfl
    rw [q] at hc he
    refine ⟨fun h => ?_, fun h => by omega⟩
    obtain ⟨j, a, b, -⟩ := h
    omega
  · constructor
    · rintro ⟨j, a, b, h, -⟩
      dsimp only at h
      rw [zdg1, zdg1] at h
      exact h
    · intro h
      refine ⟨0, by omega, by omega, ?_, fun i i0 i1 => by omega⟩
      dsimp only
      rw [zdg1, zdg1]
      exact h
  · have q : ((zcd 2 : Nat) : Int) = 9216 := rfl
    rw [q] at hc he
    constructor
    · rintro ⟨j, a, b, h, s⟩
      dsimp only at h s
      have : j = 0 ∨ j = 1 := by omega
      rcases this with rfl | rfl
      · rw [zdg20, zdg20] at h; omega
      · have s0 := s 0 (by omega) (by omega)
        rw [zdg21, zdg21] at h
        rw [zdg20, zdg20] at s0
        omega
    · intro h
      by_cases d0 : c / 96 < e / 96
      · refine ⟨0, by omega, by omega, ?_, fun i i0 i1 => by omega⟩
        dsimp only
        rw [zdg20, zdg20]
        exact d0
      · refine ⟨1, by omega, by omega, ?_, fun i i0 i1 => ?_⟩
        · dsimp only
          rw [zdg21, zdg21]
          omega
        · dsimp only
          rw [show i = 0 by omega, zdg20, zdg20]
          omega
  · have q : ((zcd 3 : Nat) : Int) = 884736 := rfl
    rw [q] at hc he
    constructor
    · rintro ⟨j, a, b, h, s⟩
      dsimp only at h s
      have : j = 0 ∨ j = 1 ∨ j = 2 := by omega
      rcases this with rfl | rfl | rfl
      · rw [zdg30, zdg30] at h; omega
      · have s0 := s 0 (by omega) (by omega)
        rw [zdg31, zdg31] at h
        rw [zdg30, zdg30] at s0
        omega
      · have s0 := s 0 (by omega) (by omega)
        have s1 := s 1 (by omega) (by omega)
        rw [zdg32, zdg32] at h
        rw [zdg30, zdg30] at s0
        rw [zdg31, zdg31] at s1
        omega
    · intro h
      by_cases d0 : c / 9216 < e / 9216
      · refine ⟨0, by omega, by omega, ?_, fun i i0 i1 => by omega⟩
        dsimp only
        rw [zdg30, zdg30]
        exact d0
      · by_cases d1 : c / 96 % 96 < e / 96 % 96
        · refine ⟨1, by omega, by omega, ?_, fun i i0 i1 => ?_⟩
          · dsimp only
            rw [zdg31, zdg31]
            exact d1
          · dsimp only
            rw [show i = 0 by omega, zdg30, zdg30]
            omega
        · refine ⟨2, by omega, by omega, ?_, fun i i0 i1 => ?_⟩
          · dsimp only
            rw [zdg32, zdg32]
            omega
          · dsimp only
            have : i = 0 ∨ i = 1 := by omega
            rcases this with rfl | rfl
            · rw [zdg30, zdg30]; omega
            · rw [zdg31, zdg31]; omega
/-- the switches of a code say which code it is -/
theorem zLx_x {w w' u u' : Int → Int} {n : Int} (h : ∀ j, 0 ≤ j → j < n → w j = w' j) (k : ∀ j, 0 ≤ j → j < n → u j = u' j) : zLx w u n ↔ zLx w' u' n := by
  constructor
  · rintro ⟨j, a, b, c, s⟩
    exact ⟨j, a, b, by rw [← h j a b, ← k j a b]; exact c, fun i i0 i1 => by rw [← h i i0 (by omega), ← k i i0 (by omega)]; exact s i i0 i1⟩
  · rintro ⟨j, a, b, c, s⟩
    exact ⟨j, a, b, by rw [h j a b, k j a b]; exact c, fun i i0 i1 => by rw [h i i0 (by omega), k i i0 (by omega)]; exact s i i0 i1⟩
