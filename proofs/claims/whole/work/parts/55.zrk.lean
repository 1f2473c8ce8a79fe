/-! a rack of a kind, a level of it, of the class, in closed form -/
/-- a is a rack of kind K -/
def zirk (R : Nat) (kd : Nat → Int32) (K a : Int32) : Prop := ∃ n : Nat, n < R ∧ a = Int32.ofNat n ∧ kd n = K
theorem zirk_n {R n : Nat} {kd : Nat → Int32} {K : Int32} (hR : R ≤ 12) (hn : n < 2147483648) : zirk R kd K (Int32.ofNat n) ↔ n < R ∧ kd n = K := by
  constructor
  · rintro ⟨m, hm, e, h⟩
    have e := (n32_eq hn (by omega)).mp e
    subst e
    exact ⟨hm, h⟩
  · exact fun h => ⟨n, h.1, rfl, h.2⟩
theorem zirk_neg {R : Nat} {kd : Nat → Int32} {K a : Int32} (hR : R ≤ 12) (h : a < 0) : ¬ zirk R kd K a := by
  rintro ⟨n, hn, rfl, -⟩
  exact n32_ge0 (by omega) h
theorem zP_isRackOf_c (d : Nat) (K a : Int32) (S : ZS) {R : Nat} (hR : R ≤ 12) (hr : S.1 4 0 0 = Int32.ofNat R) :
    zP_isRackOf (d + 1) K a S = zif (zirk R (S.1 33 0) K a) (some (1, S)) (some (0, S)) := by
  rw [eP_isRackOf]
  by_cases h1 : a < 0
  · rw [zif_pos h1, zif_neg (zirk_neg hR h1)]
  · obtain ⟨n, hn, rfl⟩ := n32_ex h1
    rw [zif_neg h1, hr]
    by_cases h2 : R ≤ n
    · rw [zif_pos ((n32_le (by omega) hn).mpr h2), zif_neg (fun q => by have := ((zirk_n hR hn).mp q).1; omega)]
    · rw [zif_neg (fun q => h2 ((n32_le (by omega) hn).mp q)), zg_t (by rw [n32_in hn]; exact decide_eq_true (by omega)), n32_zx hn]
      by_cases h3 : S.1 33 0 n = K
      · rw [zif_pos h3, zif_pos ((zirk_n hR hn).mpr ⟨by omega, h3⟩)]
      · rw [zif_neg h3, zif_neg (fun q => h3 ((zirk_n hR hn).mp q).2)]
theorem zP_isLevel_c (d : Nat) (a b : Int32) (S : ZS) {R : Nat} (hR : R ≤ 12) (hr : S.1 4 0 0 = Int32.ofNat R) :
    zP_isLevel (d + 2) a b S = zif (zirk R (S.1 33 0) 0 a ∧ ¬ b < 0 ∧ ¬ (10 : Int32) ≤ b) (some (1, S)) (some (0, S)) := by
  rw [eP_isLevel, zP_isRackOf_c d 0 a S hR hr]
  by_cases h1 : zirk R (S.1 33 0) 0 a
  · rw [zif_pos h1]
    show zif ((1 : Int32) = 0) _ (zif (b < 0) (some (0, S)) (zif ((10 : Int32) ≤ b) (some (0, S)) (some (1, S)))) = _
    rw [zif_neg (by decide)]
    by_cases h2 : b < 0
    · rw [zif_pos h2, zif_neg (fun q => q.2.1 h2)]
    · rw [zif_neg h2]
      by_cases h3 : (10 : Int32) ≤ b
      · rw [zif_pos h3, zif_neg (fun q => q.2.2 h3)]
      · rw [zif_neg h3, zif_pos ⟨h1, h2, h3⟩]
  · rw [zif_neg h1, zif_neg (fun q => h1 q.1)]
    show zif ((0 : Int32) = 0) _ _ = _
    rw [zif_pos rfl]
theorem z32_pred {R n : Nat} (hR : R ≤ 12) (hn : n < 2147483648) : Int32.ofNat R - (1 : Int32) < Int32.ofNat n ↔ R ≤ n := by
  cases R with
  | zero =>
    refine ⟨fun _ => Nat.zero_le _, fun _ => ?_⟩
    rw [show Int32.ofNat 0 - (1 : Int32) = -1 from rfl, Int32.lt_iff_toInt_lt, n32_toInt hn]
    have e : (-1 : Int32).toInt = -1 := rfl
    rw [e]
    omega
  | succ R =>
    rw [show Int32.ofNat (R + 1) - (1 : Int32) = Int32.ofNat R from n32_sub (a := R + 1) (b := 1) (by omega), n32_lt (by omega) hn]
    omega
theorem zM_isSelectors_c (d : Nat) (a : Int32) (S : ZS) {R : Nat} (hR : R ≤ 12) (hr : S.1 11 0 2 = Int32.ofNat R) :
    zM_isSelectors (d + 2) a S = zif (zirk R (S.1 59 0) 0 a) (some (1, S)) (some (0, S)) := by
  rw [eM_isSelectors, zM_within_c, hr]
  by_cases h1 : a < 0
  · rw [zif_neg (fun q => q.1 h1), zif_neg (zirk_neg hR h1)]
    show zif ((0 : Int32) = 0) _ _ = _
    rw [zif_pos rfl]
  · obtain ⟨n, hn, rfl⟩ := n32_ex h1
    by_cases h2 : R ≤ n
    · rw [zif_neg (fun q => q.2 ((z32_pred hR hn).mpr h2)), zif_neg (fun q => by have := ((zirk_n hR hn).mp q).1; omega)]
      show zif ((0 : Int32) = 0) _ _ = _
      rw [zif_pos rfl]
    · rw [zif_pos ⟨h1, fun q => h2 ((z32_pred hR hn).mp q)⟩]
      show zif ((1 : Int32) = 0) _ (zg (zin (Int32.ofNat n) 12) (zif (S.1 59 0 (zx (Int32.ofNat n)) = 0) (some (1, S)) (some (0, S)))) = _
      rw [zif_neg (by decide), zg_t (by rw [n32_in hn]; exact decide_eq_true (by omega)), n32_zx hn]
      by_cases h3 : S.1 59 0 n = 0
      · rw [zif_pos h3, zif_pos ((zirk_n hR hn).mpr ⟨by omega, h3⟩)]
      · rw [zif_neg h3, zif_neg (fun q => h3 ((zirk_n hR hn).mp q).2)]
