/-! EXPLAIN, SURE: what stands at a leaf of the class's search -/
theorem zsrt_e {n : Int} (hn : 0 ≤ n ∧ n ≤ 2) {v : Int → Int} (inj : ∀ i j, 0 ≤ i → i < j → j < n → v i ≠ v j) : ∃ w, zSrt v w n := by
  by_cases h2 : n = 2 ∧ v 1 < v 0
  · refine ⟨fun j => v (1 - j), fun j a b => ?_, fun e => ⟨fun q => ?_, fun q => ?_⟩⟩
    · dsimp only
      rw [show j = 0 by omega, show (1 : Int) - 0 = 1 from rfl, show (1 : Int) - (0 + 1) = 0 from rfl]
      exact h2.2
    · obtain ⟨j, a, b, c⟩ := q
      exact ⟨1 - j, by omega, by omega, c⟩
    · obtain ⟨j, a, b, c⟩ := q
      exact ⟨1 - j, by omega, by omega, by dsimp only; rw [show 1 - (1 - j) = j by omega]; exact c⟩
  · refine ⟨v, fun j a b => ?_, fun e => Iff.rfl⟩
    have e0 : j = 0 := by omega
    have e2 : n = 2 := by omega
    have := inj 0 1 (by omega) (by omega) (by omega)
    rw [e0, show (0 : Int) + 1 = 1 from rfl]
    omega
/-- chosen ones that aren't sound, and leave no failed test unexplained, explain -/
theorem zEX_l {x : ZW} {K : ZS} (tc : zTC x K) {n : Int} {v : Int → Int} (hs : ∀ j, 0 ≤ j → j < n → ¬ zSo x (x 35 0) (v j)) (hu : ∀ t, 0 ≤ t → t < x 35 0 → ¬ zUx x n v t) : zEX x n v := by
  intro t t0 t1
  constructor
  · intro h
    by_cases q : ∃ i, 0 ≤ i ∧ i < n ∧ x 37 (96 * t + v i) = 1
    · exact q
    · exact absurd ⟨h, q⟩ (hu t t0 t1)
  · rintro ⟨i, a, b, q⟩
    rcases (tc t t0 t1).1 with p | p
    · exact absurd ⟨t, t0, t1, p, q⟩ (hs i a b)
    · exact p
/-- and then a set of that size has a code -/
theorem zXn_l {x : ZW} {n : Int} (hn : 0 ≤ n ∧ n ≤ 2) {v : Int → Int} (hv : ∀ j, 0 ≤ j → j < n → 0 ≤ v j ∧ v j < 96) (inj : ∀ i j, 0 ≤ i → i < j → j < n → v i ≠ v j) (hw : ∀ j, 0 ≤ j → j < n → zSw x (v j)) (hx : zEX x n v) : ∃ c : Int, 0 ≤ c ∧ c < zcd n ∧ zXn x n c := by
  obtain ⟨w, k1⟩ := zsrt_e hn inj
  have bw : ∀ j, 0 ≤ j → j < n → 0 ≤ w j ∧ w j < 96 := by
    intro j a b
    obtain ⟨i, i0, i1, i2⟩ := (k1.2 (w j)).1 ⟨j, a, b, rfl⟩
    have := hv i i0 i1
    omega
  obtain ⟨c, c0, c1, c2⟩ := zdg_e (by omega) bw
  refine ⟨c, c0, c1, fun i i0 i1 => ?_, fun i i0 i1 => ?_, fun t t0 t1 => Iff.trans (hx t t0 t1) ?_⟩
  · obtain ⟨j, a, b, q⟩ := (k1.2 (w i)).1 ⟨i, i0, i1, rfl⟩
    rw [c2 i i0 i1, ← q]
    exact hw j a b
  · rw [c2 i i0 (by omega), c2 (i + 1) (by omega) i1]
    exact k1.1 i i0 i1
  · constructor
    · rintro ⟨i, a, b, q⟩
      obtain ⟨j, ja, jb, jq⟩ := (k1.2 (v i)).2 ⟨i, a, b, rfl⟩
      exact ⟨j, ja, jb, by dsimp only; rw [c2 j ja jb, jq]; exact q⟩
    · rintro ⟨i, a, b, q⟩
      dsimp only at q
      rw [c2 i a b] at q
      obtain ⟨j, ja, jb, jq⟩ := (k1.2 (w i)).1 ⟨i, a, b, rfl⟩
      exact ⟨j, ja, jb, by rw [jq]; exact q⟩
