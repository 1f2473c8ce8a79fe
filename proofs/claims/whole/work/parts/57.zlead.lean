/-! outlet of the class in closed form -/
theorem n32_lt4 {a : Int32} {m : Nat} (hm : m < 2147483648) (h0 : ¬ a < 0) (h : a < Int32.ofNat m) : ∃ n : Nat, n < m ∧ a = Int32.ofNat n := by
  obtain ⟨n, hn, rfl⟩ := n32_ex h0
  exact ⟨n, (n32_lt hn hm).mp h, rfl⟩
/-- the spot of an outlet -/
def zspt (a1 a2 a3 a4 : Int32) : Int32 := ((a1 * 2 + a2) * 10 + a3) * 4 + a4
/-- rack, section, level, place that there are -/
def zokp (R : Nat) (kd sc : Nat → Int32) (a1 a2 a3 a4 : Int32) : Prop := (zirk R kd 0 a1 ∧ ¬ a3 < 0 ∧ ¬ (10 : Int32) ≤ a3) ∧ ¬ a2 < 0 ∧ ¬ sc (zx a1) ≤ a2 ∧ ¬ a4 < 0 ∧ a4 < 4
theorem zspt_n {R : Nat} {kd sc : Nat → Int32} {a1 a2 a3 a4 : Int32} (hR : R ≤ 12) (hsc : ∀ k, k < 12 → ∃ n : Nat, n ≤ 2 ∧ sc k = Int32.ofNat n) (h : zokp R kd sc a1 a2 a3 a4) : ∃ q : Nat, q < 960 ∧ zspt a1 a2 a3 a4 = Int32.ofNat q := by
  obtain ⟨⟨⟨r, hr, rfl, -⟩, h3, h3'⟩, h2, h2', h4, h4'⟩ := h
  obtain ⟨u, hu, hs⟩ := hsc r (by omega)
  rw [n32_zx (by omega), hs] at h2'
  obtain ⟨s, hs2, rfl⟩ := n32_lt4 (by omega) h2 (Int32.not_le.mp h2')
  obtain ⟨l, hl, rfl⟩ := n32_lt4 (m := 10) (by decide) h3 (Int32.not_le.mp h3')
  obtain ⟨p, hp, rfl⟩ := n32_lt4 (m := 4) (by decide) h4 h4'
  refine ⟨((r * 2 + s) * 10 + l) * 4 + p, by omega, ?_⟩
  unfold zspt
  rw [← n32_add, ← n32_mul, ← n32_add, ← n32_mul, ← n32_add, ← n32_mul]
  rfl
theorem zspt_in {R : Nat} {kd sc : Nat → Int32} {a1 a2 a3 a4 : Int32} (hR : R ≤ 12) (hsc : ∀ k, k < 12 → ∃ n : Nat, n ≤ 2 ∧ sc k = Int32.ofNat n) (h : zokp R kd sc a1 a2 a3 a4) : zin (zspt a1 a2 a3 a4) 960 = true := by
  obtain ⟨q, hq, e⟩ := zspt_n hR hsc h
  rw [e, n32_in (by omega)]
  exact decide_eq_true hq
/-- an end that an outlet of rack a1 may lead to, or nowhere -/
def zokd (R : Nat) (w : Nat → Nat) (a1 a5 : Int32) : Prop := a5 = -1 ∨ (zise R w a5 ∧ ¬ a5 / 8 = a1)
theorem zP_lead_c (d : Nat) (a1 a2 a3 a4 a5 : Int32) (S : ZS) {R : Nat} {w : Nat → Nat} (hR : R ≤ 12) (hr : S.1 4 0 0 = Int32.ofNat R) (hw : ∀ k, k < 12 → S.1 34 0 k = Int32.ofNat (w k)) (hw8 : ∀ k, k < 12 → w k ≤ 8) (hsc : ∀ k, k < 12 → ∃ n : Nat, n ≤ 2 ∧ S.1 35 0 k = Int32.ofNat n) :
    zP_lead (d + 3) a1 a2 a3 a4 a5 S = zif (zokp R (S.1 33 0) (S.1 35 0) a1 a2 a3 a4 ∧ zokd R w a1 a5) (some (1, (zu S.1 36 0 (zx (zspt a1 a2 a3 a4)) a5, S.2))) (some (0, S)) := by
  have key : ∀ s0 : Int32, (s0 = 0 ∨ s0 = 1) → (zokd R w a1 a5 ↔ a5 = -1 ∨ s0 = 1) → zokp R (S.1 33 0) (S.1 35 0) a1 a2 a3 a4 →
      zP_lead_59 (d + 2) a1 a2 a3 a4 a5 s0 S = zif (zokp R (S.1 33 0) (S.1 35 0) a1 a2 a3 a4 ∧ zokd R w a1 a5) (some (1, (zu S.1 36 0 (zx (zspt a1 a2 a3 a4)) a5, S.2))) (some (0, S)) := by
    intro s0 h0 hD hp
    rw [eP_lead_59, eP_spot]
    have hin := zspt_in hR hsc hp
    by_cases h1 : a5 = -1
    · rw [zif_pos h1, zif_pos ⟨hp, hD.mpr (Or.inl h1)⟩]
      show zg (zin (zspt a1 a2 a3 a4) 960) (some (1, (zu S.1 36 0 (zx (zspt a1 a2 a3 a4)) a5, S.2))) = _
      rw [zg_t hin]
    · rw [zif_neg h1]
      rcases h0 with rfl | rfl
      · rw [zif_pos rfl, zif_neg (fun q => (hD.mp q.2).elim h1 (fun e => absurd e (by decide)))]
      · rw [zif_neg (by decide), zif_pos ⟨hp, hD.mpr (Or.inr rfl)⟩]
        show zg (zin (zspt a1 a2 a3 a4) 960) (some (1, (zu S.1 36 0 (zx (zspt a1 a2 a3 a4)) a5, S.2))) = _
        rw [zg_t hin]
  rw [eP_lead, zP_isLevel_c d a1 a3 S hR hr]
  by_cases h1 : zirk R (S.1 33 0) 0 a1 ∧ ¬ a3 < 0 ∧ ¬ (10 : Int32) ≤ a3
  · rw [zif_pos h1]
    show zif ((1 : Int32) = 0) (some (0, S)) (zif (a2 < 0) (some (0, S)) (zg (zin a1 12) (zif (S.1 35 0 (zx a1) ≤ a2) (some (0, S)) (zif (a4 < 0) (some (0, S)) (zif (a4 < (4 : Int32)) ((zP_isEnd (d + 2) a5 S).bind (fun r2 => zif (r2.1 = 0) (zP_lead_59 (d + 2) a1 a2 a3 a4 a5 0 r2.2) (zif ((a5 / (8 : Int32)) = a1) (zP_lead_59 (d + 2) a1 a2 a3 a4 a5 0 r2.2) (zP_lead_59 (d + 2) a1 a2 a3 a4 a5 1 r2.2)))) (some (0, S))))))) = _
    rw [zif_neg (by decide)]
    by_cases h2 : a2 < 0
    · rw [zif_pos h2, zif_neg (fun q => q.1.2.1 h2)]
    · have hin : zin a1 12 = true := by
        obtain ⟨n, hn, rfl, -⟩ := h1.1
        rw [n32_in (by omega)]
        exact decide_eq_true (by omega)
      rw [zif_neg h2, zg_t hin]
      by_cases h3 : S.1 35 0 (zx a1) ≤ a2
      · rw [zif_pos h3, zif_neg (fun q => q.1.2.2.1 h3)]
      · rw [zif_neg h3]
        by_cases h4 : a4 < 0
        · rw [zif_pos h4, zif_neg (fun q => q.1.2.2.2.1 h4)]
        · rw [zif_neg h4]
          by_cases h5 : a4 < 4
          · have hp : zokp R (S.1 33 0) (S.1 35 0) a1 a2 a3 a4 := ⟨h1, h2, h3, h4, h5⟩
            rw [zif_pos h5, zP_isEnd_c d a5 S hR hr hw hw8]
            by_cases h6 : zise R w a5
            · rw [zif_pos h6]
              show zif ((1 : Int32) = 0) _ (zif ((a5 / (8 : Int32)) = a1) (zP_lead_59 (d + 2) a1 a2 a3 a4 a5 0 S) (zP_lead_59 (d + 2) a1 a2 a3 a4 a5 1 S)) = _
              rw [zif_neg (by decide)]
              by_cases h7 : a5 / 8 = a1
              · rw [zif_pos h7]
                exact key 0 (Or.inl rfl) ⟨fun q => q.elim Or.inl (fun q => absurd h7 q.2), fun q => q.elim Or.inl (fun e => absurd e (by decide))⟩ hp
              · rw [zif_neg h7]
                exact key 1 (Or.inr rfl) ⟨fun _ => Or.inr rfl, fun _ => Or.inr ⟨h6, h7⟩⟩ hp
            · rw [zif_neg h6]
              show zif ((0 : Int32) = 0) (zP_lead_59 (d + 2) a1 a2 a3 a4 a5 0 S) _ = _
              rw [zif_pos rfl]
              exact key 0 (Or.inl rfl) ⟨fun q => q.elim Or.inl (fun q => absurd q.1 h6), fun q => q.elim Or.inl (fun e => absurd e (by decide))⟩ hp
          · rw [zif_neg h5, zif_neg (fun q => h5 q.1.2.2.2.2)]
  · rw [zif_neg h1, zif_neg (fun q => h1 q.1.1)]
    show zif ((0 : Int32) = 0) _ _ = _
    rw [zif_pos rfl]
