/-! outlet of TownExchange; the reference's spot is the same -/
theorem zX_outlet_c (d : Nat) (a1 a2 a3 a4 a5 : Int32) (S : ZS) {R : Nat} {w : Nat → Nat} (hR : R ≤ 12) (hr : S.1 4 0 0 = Int32.ofNat R) (hw : ∀ k, k < 12 → S.1 34 0 k = Int32.ofNat (w k)) (hw8 : ∀ k, k < 12 → w k ≤ 8) (hsc : ∀ k, k < 12 → ∃ n : Nat, n ≤ 2 ∧ S.1 35 0 k = Int32.ofNat n) :
    zX_outlet (d + 4) a1 a2 a3 a4 a5 S = zif (zokp R (S.1 33 0) (S.1 35 0) a1 a2 a3 a4 ∧ zokd R w a1 a5) (some (1, (zu S.1 36 0 (zx (zspt a1 a2 a3 a4)) a5, S.2))) (some (0, S)) := by
  rw [eX_outlet, zP_lead_c d a1 a2 a3 a4 a5 S hR hr hw hw8 hsc]
  by_cases h : zokp R (S.1 33 0) (S.1 35 0) a1 a2 a3 a4 ∧ zokd R w a1 a5
  · rw [zif_pos h]
    rfl
  · rw [zif_neg h]
    rfl
/-- the reference's spot is the class's -/
theorem zspt_eq {R : Nat} {kd sc : Nat → Int32} {a1 a2 a3 a4 : Int32} (hR : R ≤ 12) (hsc : ∀ k, k < 12 → ∃ n : Nat, n ≤ 2 ∧ sc k = Int32.ofNat n) (h : zokp R kd sc a1 a2 a3 a4) : (80 : Int32) * a1 + (40 : Int32) * a2 + (4 : Int32) * a3 + a4 = zspt a1 a2 a3 a4 := by
  obtain ⟨⟨⟨r, hr, rfl, -⟩, h3, h3'⟩, h2, h2', h4, h4'⟩ := h
  obtain ⟨u, hu, hs⟩ := hsc r (by omega)
  rw [n32_zx (by omega), hs] at h2'
  obtain ⟨s, hs2, rfl⟩ := n32_lt4 (by omega) h2 (Int32.not_le.mp h2')
  obtain ⟨l, hl, rfl⟩ := n32_lt4 (m := 10) (by decide) h3 (Int32.not_le.mp h3')
  obtain ⟨p, hp, rfl⟩ := n32_lt4 (m := 4) (by decide) h4 h4'
  have e1 : (80 : Int32) * Int32.ofNat r + (40 : Int32) * Int32.ofNat s + (4 : Int32) * Int32.ofNat l + Int32.ofNat p = Int32.ofNat (80 * r + 40 * s + 4 * l + p) := by
    rw [← n32_add, ← n32_add, ← n32_add, ← n32_mul, ← n32_mul, ← n32_mul]
    rfl
  have e2 : zspt (Int32.ofNat r) (Int32.ofNat s) (Int32.ofNat l) (Int32.ofNat p) = Int32.ofNat (((r * 2 + s) * 10 + l) * 4 + p) := by
    unfold zspt
    rw [← n32_add, ← n32_mul, ← n32_add, ← n32_mul, ← n32_add, ← n32_mul]
    rfl
  rw [e1, e2]
  congr 1
  omega
