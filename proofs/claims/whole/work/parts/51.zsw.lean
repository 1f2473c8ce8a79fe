/-! isSwitch, isJunction, isEnd in closed form, of the class and of the reference -/
/-- a is a switch where R racks have w switches each -/
def zisw (R : Nat) (w : Nat → Nat) (a : Int32) : Prop := ∃ n : Nat, n < 2147483648 ∧ a = Int32.ofNat n ∧ n < R * 8 ∧ n % 8 < w (n / 8)
theorem zisw_neg {R : Nat} {w : Nat → Nat} {a : Int32} (h : a < 0) : ¬ zisw R w a := by
  rintro ⟨n, hn, rfl, -⟩
  exact n32_ge0 hn h
theorem zisw_n {R n : Nat} {w : Nat → Nat} (hn : n < 2147483648) : zisw R w (Int32.ofNat n) ↔ n < R * 8 ∧ n % 8 < w (n / 8) := by
  constructor
  · rintro ⟨m, hm, e, h1, h2⟩
    have e := (n32_eq hn hm).mp e
    subst e
    exact ⟨h1, h2⟩
  · exact fun h => ⟨n, hn, rfl, h.1, h.2⟩
theorem n32_m8 {n : Nat} (hn : n < 2147483648) : Int32.ofNat n - Int32.ofNat (n / 8) * (8 : Int32) = Int32.ofNat (n % 8) := by
  have h := n32_mod hn (b := 8) (by decide)
  rw [n32_div hn (by decide)] at h
  exact h
theorem n32_d8 {n : Nat} (hn : n < 2147483648) : Int32.ofNat n / (8 : Int32) = Int32.ofNat (n / 8) := n32_div hn (b := 8) (by decide)
theorem zP_isSwitch_c (d : Nat) (a : Int32) (S : ZS) {R : Nat} {w : Nat → Nat} (hR : R ≤ 12) (hr : S.1 4 0 0 = Int32.ofNat R) (hw : ∀ k, k < 12 → S.1 34 0 k = Int32.ofNat (w k)) (hw8 : ∀ k, k < 12 → w k ≤ 8) :
    zP_isSwitch (d + 1) a S = zif (zisw R w a) (some (1, S)) (some (0, S)) := by
  rw [eP_isSwitch]
  by_cases h1 : a < 0
  · rw [zif_pos h1, eP_isSwitch_20, zif_pos rfl, zif_neg (zisw_neg h1)]
  · obtain ⟨n, hn, rfl⟩ := n32_ex h1
    have e8 : Int32.ofNat R * (8 : Int32) = Int32.ofNat (R * 8) := n32_mul R 8
    rw [zif_neg h1, hr, e8]
    by_cases h2 : R * 8 ≤ n
    · rw [zif_pos ((n32_le (by omega) hn).mpr h2), eP_isSwitch_20, zif_pos rfl, zif_neg (fun q => by have := ((zisw_n hn).mp q).1; omega)]
    · have h12 : n / 8 < 12 := by omega
      rw [zif_neg (fun q => h2 ((n32_le (by omega) hn).mp q)), eP_isSwitch_20, zif_neg (by decide), n32_d8 hn, zg_t (by rw [n32_in (by omega)]; exact decide_eq_true h12), n32_zx (by omega), hw _ h12, n32_m8 hn]
      have hw9 := hw8 _ h12
      by_cases h3 : n % 8 < w (n / 8)
      · rw [zif_neg (fun q => by have := (n32_le (by omega) (by omega)).mp q; omega), zif_pos ((zisw_n hn).mpr ⟨by omega, h3⟩)]
      · rw [zif_pos ((n32_le (by omega) (by omega)).mpr (by omega)), zif_neg (fun q => h3 ((zisw_n hn).mp q).2)]
theorem zM_isSwitch_c (d : Nat) (a : Int32) (S : ZS) {R : Nat} {w : Nat → Nat} (hR : R ≤ 12) (hr : S.1 11 0 2 = Int32.ofNat R) (hw : ∀ k, k < 12 → S.1 60 0 k = Int32.ofNat (w k)) (hw8 : ∀ k, k < 12 → w k ≤ 8) :
    zM_isSwitch (d + 1) a S = zif (zisw R w a) (some (1, S)) (some (0, S)) := by
  rw [eM_isSwitch]
  by_cases h1 : a < 0
  · rw [zif_pos h1, zif_neg (zisw_neg h1)]
  · obtain ⟨n, hn, rfl⟩ := n32_ex h1
    rw [zif_neg h1]
    by_cases h96 : 96 ≤ n
    · rw [zif_pos (show (96 : Int32) ≤ Int32.ofNat n from (n32_le (a := 96) (by decide) hn).mpr h96), zif_neg (fun q => by have := ((zisw_n hn).mp q).1; omega)]
    · have h12 : n / 8 < 12 := by omega
      rw [zif_neg (show ¬ (96 : Int32) ≤ Int32.ofNat n from fun q => h96 ((n32_le (a := 96) (by decide) hn).mp q)), n32_d8 hn, hr]
      by_cases h2 : R ≤ n / 8
      · rw [zif_pos ((n32_le (by omega) (by omega)).mpr h2), zif_neg (fun q => by have := ((zisw_n hn).mp q).1; omega)]
      · rw [zif_neg (fun q => h2 ((n32_le (by omega) (by omega)).mp q)), zg_t (by rw [n32_in (by omega)]; exact decide_eq_true h12), n32_zx (by omega), hw _ h12, n32_m8 hn]
        have hw9 := hw8 _ h12
        by_cases h3 : n % 8 < w (n / 8)
        · rw [zif_neg (fun q => by have := (n32_le (by omega) (by omega)).mp q; omega), zif_pos ((zisw_n hn).mpr ⟨by omega, h3⟩)]
        · rw [zif_pos ((n32_le (by omega) (by omega)).mpr (by omega)), zif_neg (fun q => h3 ((zisw_n hn).mp q).2)]
/-- a is a junction -/
def zisj (a : Int32) : Prop := ¬ a < 100 ∧ ¬ (116 : Int32) ≤ a
theorem zP_isJunction_c (d : Nat) (a : Int32) (S : ZS) : zP_isJunction (d + 1) a S = zif (zisj a) (some (1, S)) (some (0, S)) := by
  rw [eP_isJunction]
  by_cases h1 : a < 100
  · rw [zif_pos h1, zif_neg (fun q => q.1 h1)]
  · rw [zif_neg h1]
    by_cases h2 : (116 : Int32) ≤ a
    · rw [zif_pos h2, zif_neg (fun q => q.2 h2)]
    · rw [zif_neg h2, zif_pos ⟨h1, h2⟩]
/-- a is an end: a switch or a junction -/
def zise (R : Nat) (w : Nat → Nat) (a : Int32) : Prop := zisw R w a ∨ zisj a
theorem zP_isEnd_c (d : Nat) (a : Int32) (S : ZS) {R : Nat} {w : Nat → Nat} (hR : R ≤ 12) (hr : S.1 4 0 0 = Int32.ofNat R) (hw : ∀ k, k < 12 → S.1 34 0 k = Int32.ofNat (w k)) (hw8 : ∀ k, k < 12 → w k ≤ 8) :
    zP_isEnd (d + 2) a S = zif (zise R w a) (some (1, S)) (some (0, S)) := by
  rw [eP_isEnd, zP_isSwitch_c d a S hR hr hw hw8]
  by_cases h1 : zisw R w a
  · rw [zif_pos h1, zif_pos (show zise R w a from Or.inl h1)]
    show zif ((1 : Int32) = 0) _ _ = _
    rw [zif_neg (by decide)]
  · rw [zif_neg h1]
    show zif ((0 : Int32) = 0) ((zP_isJunction (d + 1) a S).bind _) _ = _
    rw [zif_pos rfl, zP_isJunction_c]
    by_cases h2 : zisj a
    · rw [zif_pos h2, zif_pos (show zise R w a from Or.inr h2)]
      show zif ((1 : Int32) = 0) _ _ = _
      rw [zif_neg (by decide)]
    · rw [zif_neg h2, zif_neg (show ¬ zise R w a from fun q => q.elim h1 h2)]
      show zif ((0 : Int32) = 0) _ _ = _
      rw [zif_pos rfl]
theorem zisj_w (a : Int32) : (¬ a < 100 ∧ ¬ (115 : Int32) < a) ↔ zisj a := by
  unfold zisj
  rw [Int32.lt_iff_toInt_lt (x := 115), Int32.le_iff_toInt_le]
  have h1 : (115 : Int32).toInt = 115 := rfl
  have h2 : (116 : Int32).toInt = 116 := rfl
  rw [h1, h2]
  constructor
  · exact fun h => ⟨h.1, fun q => h.2 (by omega)⟩
  · exact fun h => ⟨h.1, fun q => h.2 (by omega)⟩
theorem zM_isEnd_c (d : Nat) (a : Int32) (S : ZS) {R : Nat} {w : Nat → Nat} (hR : R ≤ 12) (hr : S.1 11 0 2 = Int32.ofNat R) (hw : ∀ k, k < 12 → S.1 60 0 k = Int32.ofNat (w k)) (hw8 : ∀ k, k < 12 → w k ≤ 8) :
    zM_isEnd (d + 2) a S = zif (zise R w a) (some (1, S)) (some (0, S)) := by
  rw [eM_isEnd, zM_isSwitch_c d a S hR hr hw hw8]
  by_cases h1 : zisw R w a
  · rw [zif_pos h1, zif_pos (show zise R w a from Or.inl h1)]
    show zif ((1 : Int32) = 0) _ _ = _
    rw [zif_neg (by decide)]
  · rw [zif_neg h1]
    show zif ((0 : Int32) = 0) ((zM_within (d + 1) a 100 115 S).bind _) _ = _
    rw [zif_pos rfl, zM_within_c]
    by_cases h2 : zisj a
    · rw [zif_pos ((zisj_w a).mpr h2), zif_pos (show zise R w a from Or.inr h2)]
      show zif ((1 : Int32) = 0) _ _ = _
      rw [zif_neg (by decide)]
    · rw [zif_neg (fun q => h2 ((zisj_w a).mp q)), zif_neg (show ¬ zise R w a from fun q => q.elim h1 h2)]
      show zif ((0 : Int32) = 0) _ _ = _
      rw [zif_pos rfl]
