/-! EXPLAIN, SURE: the class compares a set with the best, and keeps it -/
/-- w comes before u, as far as n -/
def zLx (w u : Int → Int) (n : Int) : Prop := ∃ j, 0 ≤ j ∧ j < n ∧ w j < u j ∧ ∀ i, 0 ≤ i → i < j → w i = u i
section CF
variable {K : ZS} {x y : ZW} {S : ZS}
theorem zB_comesFirst_2_s (d : Nat) {had : Int} (hd : 0 ≤ had ∧ had ≤ 3) {w u : Int → Int} (hw : ∀ j, 0 ≤ j → j < had → 0 ≤ w j ∧ w j < 96 ∧ S.1 55 0 j.toNat = zI (w j)) (hu : ∀ j, 0 ≤ j → j < had → 0 ≤ u j ∧ u j < 96 ∧ S.1 56 0 j.toNat = zI (u j)) :
    ∀ (m : Nat) (j : Int), 0 ≤ j → j + m = had → (∀ i, 0 ≤ i → i < j → w i = u i) → zB_comesFirst_2 d (zI had) (zI j) S = some (zb (zLx w u had), S) := by
  intro m
  induction m with
  | zero =>
    intro j j0 e hs
    rw [eB_comesFirst_2, zI_le (by omega) (by omega) (by omega) (by omega), zif_pos (by omega), zb_f]
    rintro ⟨i, i0, i1, i2, -⟩
    have := hs i i0 (by omega)
    omega
  | succ m ih =>
    intro j j0 e hs
    have wj := hw j j0 (by omega)
    have uj := hu j j0 (by omega)
    rw [eB_comesFirst_2, zI_le (by omega) (by omega) (by omega) (by omega), zif_neg (by omega), zg_t (by rw [zI_in (by omega) (by omega)]; omega), zg_t (by rw [zI_in (by omega) (by omega)]; omega), zI_zx (by omega) (by omega), wj.2.2, uj.2.2, zI_eq (by omega) (by omega) (by omega) (by omega)]
    by_cases q : w j = u j
    · rw [zif_pos q, zI_n1, zI_add]
      refine ih (j + 1) (by omega) (by omega) (fun i i0 i1 => ?_)
      by_cases hi : i = j
      · rw [hi]; exact q
      · exact hs i i0 (by omega)
    · rw [zif_neg q, zg_t (by rw [zI_in (by omega) (by omega)]; omega), zg_t (by rw [zI_in (by omega) (by omega)]; omega), zI_le (by omega) (by omega) (by omega) (by omega)]
      by_cases p : u j ≤ w j
      · rw [zif_pos p, zb_f]
        rintro ⟨i, i0, i1, i2, i3⟩
        by_cases a : i < j
        · have := hs i i0 a
          omega
        · by_cases b : i = j
          · rw [b] at i2; omega
          · exact q (i3 j j0 (by omega))
      · rw [zif_neg p, zb_t ⟨j, j0, by omega, by omega, hs⟩]
theorem zB_comesFirst_s (d : Nat) {had : Int} (hd : 0 ≤ had ∧ had ≤ 3) {w u : Int → Int} (hw : ∀ j, 0 ≤ j → j < had → 0 ≤ w j ∧ w j < 96 ∧ S.1 55 0 j.toNat = zI (w j)) (hu : ∀ j, 0 ≤ j → j < had → 0 ≤ u j ∧ u j < 96 ∧ S.1 56 0 j.toNat = zI (u j)) : zB_comesFirst (d + 1) (zI had) S = some (zb (zLx w u had), S) := by
  rw [eB_comesFirst, zI_n0]
  exact zB_comesFirst_2_s d hd hw hu had.toNat 0 (by omega) (by omega) (fun i i0 i1 => by omega)
end CF
