/-! outlet of the reference in closed form -/
theorem z9 (a : Int32) : ¬ (9 : Int32) < a ↔ ¬ (10 : Int32) ≤ a := by
  rw [Int32.lt_iff_toInt_lt, Int32.le_iff_toInt_le]
  have h1 : (9 : Int32).toInt = 9 := rfl
  have h2 : (10 : Int32).toInt = 10 := rfl
  rw [h1, h2]
  constructor
  · exact fun h q => h (by omega)
  · exact fun h q => h (by omega)
theorem z3 (a : Int32) : ¬ (3 : Int32) < a ↔ a < 4 := by
  rw [Int32.lt_iff_toInt_lt, Int32.lt_iff_toInt_lt]
  have h1 : (3 : Int32).toInt = 3 := rfl
  have h2 : (4 : Int32).toInt = 4 := rfl
  rw [h1, h2]
  omega
theorem zM_outlet_66_c (d : Nat) (a1 a2 a3 a4 a5 : Int32) (I : ZMp Int32) (T : ZMp Int64 × ZMp (Option ZR) × Nat × Nat × Nat) {R : Nat} {w : Nat → Nat} {kd sc : Nat → Int32} (hR : R ≤ 12) (hsc : ∀ k, k < 12 → ∃ n : Nat, n ≤ 2 ∧ sc k = Int32.ofNat n)
    (hp : zokp R kd sc a1 a2 a3 a4) (h5 : a5 = -1 ∨ zise R w a5) :
    zM_outlet_66 (d + 1) a1 a2 a3 a4 a5 (I, T) = zif (zokp R kd sc a1 a2 a3 a4 ∧ zokd R w a1 a5) (some (1, (zu I 62 0 (zx (zspt a1 a2 a3 a4)) a5, T))) (some (0, (I, T))) := by
  have wr : (zM_outletAt (d + 1) a1 a2 a3 a4 (I, T)).bind (fun r1 => zg (zin r1.1 960) (some ((1 : Int32), ((zu r1.2.1 62 0 (zx r1.1) a5), r1.2.2)))) = some (1, (zu I 62 0 (zx (zspt a1 a2 a3 a4)) a5, T)) := by
    rw [eM_outletAt]
    show zg (zin ((80 : Int32) * a1 + (40 : Int32) * a2 + (4 : Int32) * a3 + a4) 960) (some (1, (zu I 62 0 (zx ((80 : Int32) * a1 + (40 : Int32) * a2 + (4 : Int32) * a3 + a4)) a5, T))) = _
    rw [zspt_eq hR hsc hp, zg_t (zspt_in hR hsc hp)]
  rw [eM_outlet_66]
  by_cases h1 : a5 < 0
  · have hm : a5 = -1 := by
      rcases h5 with h | ⟨n, hn, rfl, -⟩ | h
      · exact h
      · exact absurd h1 (n32_ge0 hn)
      · refine absurd ?_ h.1
        rw [Int32.lt_iff_toInt_lt] at h1 ⊢
        have e1 : (0 : Int32).toInt = 0 := rfl
        have e2 : (100 : Int32).toInt = 100 := rfl
        rw [e1] at h1
        rw [e2]
        omega
    rw [zif_pos h1, wr, zif_pos ⟨hp, Or.inl hm⟩]
  · have he : zise R w a5 := h5.resolve_left (fun e => h1 (by rw [e]; decide))
    obtain ⟨n, hn, rfl⟩ := n32_ex h1
    obtain ⟨r, hr, hra, -⟩ := hp.1.1
    have h8 : Int32.ofNat n / 8 = a1 ↔ n / 8 = r := by
      rw [n32_d8 hn, hra]
      exact n32_eq (by omega) (by omega)
    rw [zif_neg h1]
    by_cases h2 : 96 ≤ n
    · rw [zif_pos (show (96 : Int32) ≤ Int32.ofNat n from (n32_le (a := 96) (by decide) hn).mpr h2), wr, zif_pos ⟨hp, Or.inr ⟨he, fun e => by have := h8.mp e; omega⟩⟩]
    · rw [zif_neg (show ¬ (96 : Int32) ≤ Int32.ofNat n from fun q => h2 ((n32_le (a := 96) (by decide) hn).mp q))]
      by_cases h3 : Int32.ofNat n / 8 = a1
      · rw [zif_pos h3, zif_neg (fun q => q.2.elim (fun e => h1 (by rw [e]; decide)) (fun q => q.2 h3))]
      · rw [zif_neg h3, wr, zif_pos ⟨hp, Or.inr ⟨he, h3⟩⟩]
