/-! outlet of the reference in closed form -/
theorem z9 (a : Int32) : ¬ (9 : Int32) < a ↔ ¬ (10 : Int32) ≤ a := by
  rw [Int32.lt_iff_toInt_lt, Int32.le_iff_toInt_le]
  have h1 : (9 : Int32).toInt = 9 := rfl
  have h2 : (10 : Int32).toInt = 10 := rfl
  rw [h1, h2]
  constructor
  · exact fun h q => h (by omega)
  · exact fun h q => h (by omega)
theorem z3 (a : Int32) : ¬ (3 : Int32) < a ↔ a < 4 := by
  rw [Int32.lt_iff_toInt_lt, Int32.lt_iff_toInt_lt]
  have h1 : (3 : Int32).toInt = 3 := rfl
  have h2 : (4 : Int32).toInt = 4 := rfl
  rw [h1, h2]
  omega
theorem zM_outlet_66_c (d : Nat) (a1 a2 a3 a4 a5 : Int32) (I : ZMp Int32) (T : ZMp Int64 × ZMp (Option ZR) × Nat × Nat × Nat) {R : Nat} {w : Nat → Nat} {kd sc : Nat → Int32} (hR : R ≤ 12) (hsc : ∀ k, k < 12 → ∃ n : Nat, n ≤ 2 ∧ sc k = Int32.ofNat n)
    (hp : zokp R kd sc a1 a2 a3 a4) (h5 : a5 = -1 ∨ zise R w a5) :
    zM_outlet_66 (d + 1) a1 a2 a3 a4 a5 (I, T) = zif (zokp R kd sc a1 a2 a3 a4 ∧ zokd R w a1 a5) (some (1, (zu I 62 0 (zx (zspt a1 a2 a3 a4)) a5, T))) (some (0, (I, T))) := by
  have wr : (zM_outletAt (d + 1) a1 a2 a3 a4 (I, T)).bind (fun r1 => zg (zin r1.1 960) (some ((1 : Int32), ((zu r1.2.1 62 0 (zx r1.1) a5), r1.2.2)))) = some (1, (zu I 62 0 (zx (zspt a1 a2 a3 a4)) a5, T)) := by
    rw [eM_outletAt]
    show zg (zin ((80 : Int32) * a1 + (40 : Int32) * a2 + (4 : Int32) * a3 + a4) 960) (some (1, (zu I 62 0 (zx ((80 : Int32) * a1 + (40 : Int32) * a2 + (4 : Int32) * a3 + a4)) a5, T))) = _
    rw [zspt_eq hR hsc hp, zg_t (zspt_in hR hsc hp)]
  rw [eM_outlet_66]
  by_cases h1 : a5 < 0
  · have hm : a5 = -1 := by
      rcases h5 with h | ⟨n, hn, rfl, -⟩ | h
      · exact h
      · exact absurd h1 (n32_ge0 hn)
      · refine absurd ?_ h.1
        rw [Int32.lt_iff_toInt_lt] at h1 ⊢
        have e1 : (0 : Int32).toInt = 0 := rfl
        have e2 : (100 : Int32).toInt = 100 := rfl
        rw [e1] at h1
        rw [e2]
        omega
    rw [zif_pos h1, wr, zif_pos ⟨hp, Or.inl hm⟩]
  · have he : zise R w a5 := h5.resolve_left (fun e => h1 (by rw [e]; decide))
    obtain ⟨n, hn, rfl⟩ := n32_ex h1
    obtain ⟨r, hr, hra, -⟩ := hp.1.1
    have h8 : Int32.ofNat n / 8 = a1 ↔ n / 8 = r := by
      rw [n32_d8 hn, hra]
      exact n32_eq (by omega) (by omega)
    rw [zif_neg h1]
    by_cases h2 : 96 ≤ n
    · rw [zif_pos (show (96 : Int32) ≤ Int32.ofNat n from (n32_le (a := 96) (by decide) hn).mpr h2), wr, zif_pos ⟨hp, Or.inr ⟨he, fun e => by have := h8.mp e; omega⟩⟩]
    · rw [zif_neg (show ¬ (96 : Int32) ≤ Int32.ofNat n from fun q => h2 ((n32_le (a := 96) (by decide) hn).mp q))]
      by_cases h3 : Int32.ofNat n / 8 = a1
      · rw [zif_pos h3, zif_neg (fun q => q.2.elim (fun e => h1 (by rw [e]; decide)) (fun q => q.2 h3))]
      · rw [zif_neg h3, wr, zif_pos ⟨hp, Or.inr ⟨he, h3⟩⟩]
theorem zM_outlet_I (d : Nat) (a1 a2 a3 a4 a5 : Int32) (S : ZS) (I : ZMp Int32) (T : ZMp Int64 × ZMp (Option ZR) × Nat × Nat × Nat) (hI : (zu S.1 11 0 0 0, S.2) = (I, T)) {R : Nat} {w : Nat → Nat} (hR : R ≤ 12) (hr : I 11 0 2 = Int32.ofNat R) (hw : ∀ k, k < 12 → I 60 0 k = Int32.ofNat (w k)) (hw8 : ∀ k, k < 12 → w k ≤ 8) (hsc : ∀ k, k < 12 → ∃ n : Nat, n ≤ 2 ∧ I 61 0 k = Int32.ofNat n) :
    zM_outlet (d + 3) a1 a2 a3 a4 a5 S = zif (zokp R (I 59 0) (I 61 0) a1 a2 a3 a4 ∧ zokd R w a1 a5) (some (1, (zu I 62 0 (zx (zspt a1 a2 a3 a4)) a5, T))) (some (0, (I, T))) := by
  rw [eM_outlet, hI, zM_isSelectors_c d a1 (I, T) hR hr]
  have z0 : ∀ (x y : Option (Int32 × ZS)), zif ((0 : Int32) = 0) x y = x := fun x y => zif_pos rfl
  have z1 : ∀ (x y : Option (Int32 × ZS)), zif ((1 : Int32) = 0) x y = y := fun x y => zif_neg (by decide)
  by_cases h1 : zirk R (I 59 0) 0 a1
  · have hin : zin a1 12 = true := by
      obtain ⟨n, hn, rfl, -⟩ := h1
      rw [n32_in (by omega)]
      exact decide_eq_true (by omega)
    have hs : ¬ a2 < 0 → (¬ I 61 0 (zx a1) - 1 < a2 ↔ ¬ I 61 0 (zx a1) ≤ a2) := by
      intro h0
      obtain ⟨n, hn, rfl, -⟩ := h1
      obtain ⟨u, hu, hs⟩ := hsc n (by omega)
      obtain ⟨s, hs2, rfl⟩ := n32_ex h0
      rw [n32_zx (by omega), hs, z32_pred (by omega) hs2, n32_le (by omega) hs2]
    rw [zif_pos h1]
    show zif ((1 : Int32) = 0) _ (zg (zin a1 12) ((zM_within (d + 2) a2 0 (I 61 0 (zx a1) - 1) (I, T)).bind _)) = _
    rw [z1, zg_t hin, zM_within_c]
    by_cases h2 : ¬ a2 < 0 ∧ ¬ I 61 0 (zx a1) - 1 < a2
    · rw [zif_pos h2]
      show zif ((1 : Int32) = 0) _ ((zM_within (d + 2) a3 0 9 (I, T)).bind _) = _
      rw [z1, zM_within_c]
      by_cases h3 : ¬ a3 < 0 ∧ ¬ (9 : Int32) < a3
      · rw [zif_pos h3]
        show zif ((1 : Int32) = 0) _ ((zM_within (d + 2) a4 0 3 (I, T)).bind _) = _
        rw [z1, zM_within_c]
        by_cases h4 : ¬ a4 < 0 ∧ ¬ (3 : Int32) < a4
        · have hp : zokp R (I 59 0) (I 61 0) a1 a2 a3 a4 := ⟨⟨h1, h3.1, (z9 a3).mp h3.2⟩, h2.1, (hs h2.1).mp h2.2, h4.1, (z3 a4).mp h4.2⟩
          rw [zif_pos h4]
          show zif ((1 : Int32) = 0) _ (zif (a5 = (-1 : Int32)) (zM_outlet_66 (d + 2) a1 a2 a3 a4 a5 (I, T)) ((zM_isEnd (d + 2) a5 (I, T)).bind _)) = _
          rw [z1]
          by_cases h5 : a5 = -1
          · rw [zif_pos h5]
            exact zM_outlet_66_c (d + 1) a1 a2 a3 a4 a5 I T hR hsc hp (Or.inl h5)
          · rw [zif_neg h5, zM_isEnd_c d a5 (I, T) hR hr hw hw8]
            by_cases h6 : zise R w a5
            · rw [zif_pos h6]
              show zif ((1 : Int32) = 0) _ (zM_outlet_66 (d + 2) a1 a2 a3 a4 a5 (I, T)) = _
              rw [z1]
              exact zM_outlet_66_c (d + 1) a1 a2 a3 a4 a5 I T hR hsc hp (Or.inr h6)
            · rw [zif_neg h6, zif_neg (fun q => q.2.elim h5 (fun q => h6 q.1))]
              show zif ((0 : Int32) = 0) _ _ = _
              rw [z0]
        · rw [zif_neg h4, zif_neg (fun q => h4 ⟨q.1.2.2.2.1, (z3 a4).mpr q.1.2.2.2.2⟩)]
          show zif ((0 : Int32) = 0) _ _ = _
          rw [z0]
      · rw [zif_neg h3, zif_neg (fun q => h3 ⟨q.1.1.2.1, (z9 a3).mpr q.1.1.2.2⟩)]
        show zif ((0 : Int32) = 0) _ _ = _
        rw [z0]
    · rw [zif_neg h2, zif_neg (fun q => h2 ⟨q.1.2.1, (hs q.1.2.1).mpr q.1.2.2.1⟩)]
      show zif ((0 : Int32) = 0) _ _ = _
      rw [z0]
  · rw [zif_neg h1, zif_neg (fun q => h1 q.1.1.1)]
    show zif ((0 : Int32) = 0) _ _ = _
    rw [z0]
