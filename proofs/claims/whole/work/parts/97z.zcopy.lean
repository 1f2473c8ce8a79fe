/-! EXPLAIN, SURE: the class keeps a set -/
section CG
variable {K : ZS} {x y : ZW} {S : ZS}
/-- the copy into the best -/
theorem zcp_s (d : Nat) (S : ZS) {n : Int} (hn : 0 ≤ n ∧ n ≤ 3) : zcv (zcall (d + 1)) 1003 [zr 55 0, zi (0 : Int32), zr 56 0, zi (0 : Int32), zi (zI n)] S = some (zcpy S.1 55 0 0 56 0 0 n.toNat, S.2) := by
  have l0 : (0 : Int32) ≤ 0 := by
    rw [zI_n0, zI_le (by omega) (by omega) (by omega) (by omega)]
    omega
  have ln : (0 : Int32) ≤ zI n := by
    rw [zI_n0, zI_le (by omega) (by omega) (by omega) (by omega)]
    omega
  have z0 : zx (0 : Int32) = 0 := rfl
  have zn : zx (zI n) = n.toNat := zI_zx (by omega) (by omega)
  have a55 : zaln 55 = 3 := rfl
  have a56 : zaln 56 = 3 := rfl
  have e : zcv (zcall (d + 1)) 1003 [zr 55 0, zi (0 : Int32), zr 56 0, zi (0 : Int32), zi (zI n)] S = (zg (decide (¬ ((55 : Nat) = 56 ∧ (0 : Nat) = 0) ∧ (0 : Int32) ≤ 0 ∧ (0 : Int32) ≤ 0 ∧ (0 : Int32) ≤ zI n ∧ zx (0 : Int32) + zx (zI n) ≤ zaln 55 ∧ zx (0 : Int32) + zx (zI n) ≤ zaln 56)) (some (none, (zcpy S.1 55 0 (zx (0 : Int32)) 56 0 (zx (0 : Int32)) (zx (zI n)), S.2)))).bind zov := rfl
  rw [e, zg_t (decide_eq_true ⟨by decide, l0, l0, ln, by rw [z0, zn, a55]; omega, by rw [z0, zn, a56]; omega⟩), z0, zn]
  rfl
theorem zR_cpy (h : zR K x y S) : ∀ n : Nat, zR K x y (zcpy S.1 55 0 0 56 0 0 n, S.2)
  | 0 => by
    have e : zcpy S.1 55 0 0 56 0 0 0 = S.1 := by
      funext t i k
      unfold zcpy
      rw [if_neg (by omega)]
    rw [e]
    exact h
  | n + 1 => by
    have ih := zR_cpy h n
    have w := zR_t ih (t := 56) (by decide) 0 n (S.1 55 0 n)
    have e : zcpy S.1 55 0 0 56 0 0 (n + 1) = zu (zcpy S.1 55 0 0 56 0 0 n) 56 0 n (S.1 55 0 n) := by
      funext t i k
      unfold zcpy zu
      by_cases a : t = 56 ∧ i = 0 ∧ k = n
      · obtain ⟨rfl, rfl, rfl⟩ := a
        rw [if_pos (by omega), if_pos (by omega), Nat.zero_add, Nat.sub_zero]
      · rw [if_neg a]
        by_cases b : t = 56 ∧ i = 0 ∧ 0 ≤ k ∧ k < 0 + n
        · rw [if_pos (by omega)]
          exact (if_pos b).symm
        · rw [if_neg (by omega)]
          exact (if_neg b).symm
    rw [e]
    exact w
theorem zB_addSet_98_s (h : zR K x y S) (d : Nat) {n : Int} (hn : 0 ≤ n ∧ n ≤ 3) {w : Int → Int} (hw : ∀ j, 0 ≤ j → j < n → S.1 55 0 j.toNat = zI (w j)) :
    zwp (zB_addSet_98 (d + 1) (zI n) S) (fun S' => zR K x y S' ∧ S'.1 8 0 9 = S.1 8 0 9 + 1 ∧ S'.1 57 = S.1 57 ∧ S'.1 54 = S.1 54 ∧ S'.1 53 = S.1 53 ∧ ∀ j, 0 ≤ j → j < n → S'.1 56 0 j.toNat = zI (w j)) := by
  rw [eB_addSet_98, zcp_s d S hn, zBs, zwp_some]
  have w1 := zR_cpy h n.toNat
  have o : ∀ t i k, t ≠ 56 → (zcpy S.1 55 0 0 56 0 0 n.toNat) t i k = S.1 t i k := fun t i k ht => by
    unfold zcpy
    rw [if_neg (by omega)]
  have e8 := o 8 0 9 (by decide)
  refine ⟨zR_s w1 (t := 8) (s := 9) (by decide) 0 _, ?_, ?_, ?_, ?_, fun j j0 j1 => ?_⟩
  · dsimp only
    rw [e8]
    exact zu_same (zcpy S.1 55 0 0 56 0 0 n.toNat) 8 0 9 (S.1 8 0 9 + 1)
  · funext i k
    exact o 57 i k (by decide)
  · funext i k
    exact o 54 i k (by decide)
  · funext i k
    exact o 53 i k (by decide)
  · refine Eq.trans ?_ (hw j j0 j1)
    have e : (zcpy S.1 55 0 0 56 0 0 n.toNat) 56 0 j.toNat = S.1 55 0 j.toNat := by
      unfold zcpy
      rw [if_pos (by omega), Nat.zero_add, Nat.sub_zero]
    exact e
end CG
