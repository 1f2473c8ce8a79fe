/-! outlet of the class in closed form -/
theorem n32_lt4 {a : Int32} {m : Nat} (hm : m < 2147483648) (h0 : ¬ a < 0) (h : a < Int32.ofNat m) : ∃ n : Nat, n < m ∧ a = Int32.ofNat n := by
  obtain ⟨n, hn, rfl⟩ := n32_ex h0
  exact ⟨n, (n32_lt hn hm).mp h, rfl⟩
/-- the spot of an outlet -/
def zspt (a1 a2 a3 a4 : Int32) : Int32 := ((a1 * 2 + a2) * 10 + a3) * 4 + a4
/-- rack, section, level, place that there are -/
def zokp (R : Nat) (kd sc : Nat → Int32) (a1 a2 a3 a4 : Int32) : Prop := (zirk R kd 0 a1 ∧ ¬ a3 < 0 ∧ ¬ (10 : Int32) ≤ a3) ∧ ¬ a2 < 0 ∧ ¬ sc (zx a1) ≤ a2 ∧ ¬ a4 < 0 ∧ a4 < 4
theorem zspt_n {R : Nat} {kd sc : Nat → Int32} {a1 a2 a3 a4 : Int32} (hR : R ≤ 12) (hsc : ∀ k, k < 12 → ∃ n : Nat, n ≤ 2 ∧ sc k = Int32.ofNat n) (h : zokp R kd sc a1 a2 a3 a4) : ∃ q : Nat, q < 960 ∧ zspt a1 a2 a3 a4 = Int32.ofNat q := by
  obtain ⟨⟨⟨r, hr, rfl, -⟩, h3, h3'⟩, h2, h2', h4, h4'⟩ := h
  obtain ⟨u, hu, hs⟩ := hsc r (by omega)
  rw [n32_zx (by omega), hs] at h2'
  obtain ⟨s, hs2, rfl⟩ := n32_lt4 (by omega) h2 (Int32.not_le.mp h2')
  obtain ⟨l, hl, rfl⟩ := n32_lt4 (m := 10) (by decide) h3 (Int32.not_le.mp h3')
  obtain ⟨p, hp, rfl⟩ := n32_lt4 (m := 4) (by decide) h4 h4'
  refine ⟨((r * 2 + s) * 10 + l) * 4 + p, by omega, ?_⟩
  unfold zspt
  rw [← n32_add, ← n32_mul, ← n32_add, ← n32_mul, ← n32_add, ← n32_mul]
  rfl
theorem zspt_in {R : Nat} {kd sc : Nat → Int32} {a1 a2 a3 a4 : Int32} (hR : R ≤ 12) (hsc : ∀ k, k < 12 → ∃ n : Nat, n ≤ 2 ∧ sc k = Int32.ofNat n) (h : zokp R kd sc a1 a2 a3 a4) : zin (zspt a1 a2 a3 a4) 960 = true := by
  obtain ⟨q, hq, e⟩ := zspt_n hR hsc h
  rw [e, n32_in (by omega)]
  exact decide_eq_true hq
