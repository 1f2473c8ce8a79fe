/-! seconds in closed form, of the class and of the reference -/
def zoks (t : Nat) (a : Int32) : Prop := ∃ n : Nat, n ≤ 100000 ∧ a = Int32.ofNat n ∧ t + n ≤ 999999
theorem zoks_n {t n : Nat} (hn : n < 2147483648) : zoks t (Int32.ofNat n) ↔ n ≤ 100000 ∧ t + n ≤ 999999 := by
  constructor
  · rintro ⟨m, hm, e, h⟩
    have e := (n32_eq hn (by omega)).mp e
    subst e
    exact ⟨hm, h⟩
  · exact fun h => ⟨n, h.1, rfl, h.2⟩
theorem zoks_neg {t : Nat} {a : Int32} (h : a < 0) : ¬ zoks t a := by
  rintro ⟨n, hn, rfl, -⟩
  exact n32_ge0 (by omega) h
theorem zX_seconds_c (d : Nat) (a : Int32) (S : ZS) {t : Nat} (ht : t ≤ 999999) (hs : S.1 10 0 9 = Int32.ofNat t) :
    zX_seconds (d + 1) a S = zif (zoks t a) (some (Int32.ofNat t + a, (zu S.1 10 0 9 (Int32.ofNat t + a), S.2))) (some (-1, S)) := by
  rw [eX_seconds]
  by_cases h1 : a < 0
  · rw [zif_pos h1, zif_neg (zoks_neg h1)]
  · obtain ⟨n, hn, rfl⟩ := n32_ex h1
    rw [zif_neg h1]
    by_cases h2 : 100000 < n
    · rw [zif_pos (show (100000 : Int32) < Int32.ofNat n from (n32_lt (a := 100000) (by decide) hn).mpr h2), zif_neg (fun q => by have := ((zoks_n hn).mp q).1; omega)]
    · rw [zif_neg (show ¬ (100000 : Int32) < Int32.ofNat n from fun q => h2 ((n32_lt (a := 100000) (by decide) hn).mp q)), zu_same, hs, show (999999 : Int32) - Int32.ofNat t = Int32.ofNat (999999 - t) from n32_sub (a := 999999) ht]
      by_cases h3 : n ≤ 999999 - t
      · rw [zif_pos ((n32_le hn (by omega)).mpr h3), zif_pos ((zoks_n hn).mpr ⟨by omega, by omega⟩)]
      · rw [zif_neg (fun q => h3 ((n32_le hn (by omega)).mp q)), zif_neg (fun q => by have := ((zoks_n hn).mp q).2; omega)]
theorem zM_seconds_c (d : Nat) (a : Int32) (S : ZS) {t : Nat} (ht : t ≤ 999999) (hs : S.1 11 0 1 = Int32.ofNat t) :
    zM_seconds (d + 2) a S = zif (zoks t a) (some (Int32.ofNat t + a, (zu (zu S.1 11 0 0 0) 11 0 1 (Int32.ofNat t + a), S.2))) (some (-1, (zu S.1 11 0 0 0, S.2))) := by
  have hs2 : (zu S.1 11 0 0 0) 11 0 1 = Int32.ofNat t := by rw [zu_pl _ (by decide)]; exact hs
  rw [eM_seconds, zM_within_c]
  by_cases h1 : a < 0
  · rw [zif_neg (fun q => q.1 h1), zif_neg (zoks_neg h1)]
    show zif ((0 : Int32) = 0) _ _ = _
    rw [zif_pos rfl]
  · obtain ⟨n, hn, rfl⟩ := n32_ex h1
    by_cases h2 : 100000 < n
    · rw [zif_neg (fun q => q.2 (show (100000 : Int32) < Int32.ofNat n from (n32_lt (a := 100000) (by decide) hn).mpr h2)), zif_neg (fun q => by have := ((zoks_n hn).mp q).1; omega)]
      show zif ((0 : Int32) = 0) _ _ = _
      rw [zif_pos rfl]
    · rw [zif_pos ⟨h1, show ¬ (100000 : Int32) < Int32.ofNat n from fun q => h2 ((n32_lt (a := 100000) (by decide) hn).mp q)⟩]
      show zif ((1 : Int32) = 0) _ (zif ((zu S.1 11 0 0 0) 11 0 1 + Int32.ofNat n ≤ (999999 : Int32)) (some ((zu (zu S.1 11 0 0 0) 11 0 1 ((zu S.1 11 0 0 0) 11 0 1 + Int32.ofNat n)) 11 0 1, (zu (zu S.1 11 0 0 0) 11 0 1 ((zu S.1 11 0 0 0) 11 0 1 + Int32.ofNat n), S.2))) (some (-1, (zu S.1 11 0 0 0, S.2)))) = _
      rw [zif_neg (by decide), zu_same, hs2, n32_add]
      by_cases h3 : t + n ≤ 999999
      · rw [zif_pos (show Int32.ofNat (t + n) ≤ (999999 : Int32) from (n32_le (b := 999999) (by omega) (by decide)).mpr h3), zif_pos ((zoks_n hn).mpr ⟨by omega, h3⟩)]
      · rw [zif_neg (show ¬ Int32.ofNat (t + n) ≤ (999999 : Int32) from fun q => h3 ((n32_le (b := 999999) (by omega) (by decide)).mp q)), zif_neg (fun q => h3 ((zoks_n hn).mp q).2)]
