/-! SEARCHES: lineOf, lineAt, firstFree, goesTo, leadsFrom -/
theorem zfst_n (p : Int → Bool) (m : Nat) (k : Int) (h : p k = false) : zfst p (m + 1) k = zfst p m (k + 1) := by
  show (bif p k then k else zfst p m (k + 1)) = _
  rw [h]; rfl
theorem zfst_y (p : Int → Bool) (m : Nat) (k : Int) (h : p k = true) : zfst p (m + 1) k = k := by
  show (bif p k then k else zfst p m (k + 1)) = _
  rw [h]; rfl
theorem zfst_b (p : Int → Bool) : ∀ (m : Nat) (k : Int), zfst p m k = -1 ∨ (k ≤ zfst p m k ∧ zfst p m k < k + m ∧ p (zfst p m k) = true)
  | 0, k => Or.inl rfl
  | m + 1, k => by
    cases hp : p k
    · rw [zfst_n p m k hp]
      rcases zfst_b p m (k + 1) with h | h
      · exact Or.inl h
      · refine Or.inr ⟨by omega, by omega, h.2.2⟩
    · rw [zfst_y p m k hp]
      exact Or.inr ⟨by omega, by omega, hp⟩
section HU
variable {K : ZS} {x y : ZW} {S : ZS}
theorem zlineOf_b (g : zGp x) (r n : Int) : -1 ≤ zlineOf x r n ∧ zlineOf x r n < x 11 0 := by
  have b := zG11 g
  rcases zfst_b (fun l => decide (x 13 l = r) && decide (x 14 l = n)) (x 11 0).toNat 0 with h | h
  · have e : zlineOf x r n = -1 := h
    omega
  · unfold zlineOf
    omega
theorem zM_lineOf_2_s (h : zR K x y S) (g : zGp y) (d : Nat) {r n : Int} (hr : 0 ≤ r ∧ r < 12) (hn : 0 ≤ n ∧ n < 100) : ∀ (m : Nat) (k : Int), 0 ≤ k → k + m = y 11 0 →
    zM_lineOf_2 d (zI r) (zI n) (zI k) S = some (zI (zfst (fun l => decide (y 13 l = r) && decide (y 14 l = n)) m k), S)
  | 0, k, k0, e => by
    have b := zG11 g
    refine zwp_eq ?_
    rw [eM_lineOf_2]
    simp (contextual := true) (disch := omega) only [zWp, zNum, Int.cast_ofNat_Int, Prod.mk.injEq, and_true, true_and, implies_true, and_self, true_implies, false_implies, not_true_eq_false, not_false_eq_true, and_false, false_and, Int.reduceEq, Int.reduceLT, Int.reduceLE, Int.reduceNeg, Int.reduceAdd, Int.reduceSub, Int.reduceMul, Int.reduceToNat, Nat.reduceEqDiff, cond_true, cond_false, zRm11 h, zRm13 h, zRm14 h, zfst] <;> ((repeat' (first | intro _ | with_reducible apply And.intro)) <;> (first | omega | (exfalso; omega)))
  | m + 1, k, k0, e => by
    have b := zG11 g
    have b13 := zG13 g k
    have b14 := zG14 g k
    have ih := zM_lineOf_2_s h g d hr hn m (k + 1) (by omega) (by omega)
    refine zwp_eq ?_
    rw [eM_lineOf_2]
    by_cases hp : y 13 k = r ∧ y 14 k = n
    · rw [zfst_y _ _ _ (show (decide (y 13 k = r) && decide (y 14 k = n)) = true by rw [decide_eq_true hp.1, decide_eq_true hp.2]; rfl)]
      simp (contextual := true) (disch := omega) only [zWp, zNum, Int.cast_ofNat_Int, Prod.mk.injEq, and_true, true_and, implies_true, and_self, true_implies, false_implies, not_true_eq_false, not_false_eq_true, and_false, false_and, Int.reduceEq, Int.reduceLT, Int.reduceLE, Int.reduceNeg, Int.reduceAdd, Int.reduceSub, Int.reduceMul, Int.reduceToNat, Nat.reduceEqDiff, cond_true, cond_false, zRm11 h, zRm13 h, zRm14 h, ih] <;> ((repeat' (first | intro _ | with_reducible apply And.intro)) <;> (first | omega | (exfalso; omega)))
    · rw [zfst_n _ _ _ (show (decide (y 13 k = r) && decide (y 14 k = n)) = false by rw [Bool.and_eq_false_iff, decide_eq_false_iff_not, decide_eq_false_iff_not]; omega)]
      simp (contextual := true) (disch := omega) only [zWp, zNum, Int.cast_ofNat_Int, Prod.mk.injEq, and_true, true_and, implies_true, and_self, true_implies, false_implies, not_true_eq_false, not_false_eq_true, and_false, false_and, Int.reduceEq, Int.reduceLT, Int.reduceLE, Int.reduceNeg, Int.reduceAdd, Int.reduceSub, Int.reduceMul, Int.reduceToNat, Nat.reduceEqDiff, cond_true, cond_false, zRm11 h, zRm13 h, zRm14 h, ih] <;> ((repeat' (first | intro _ | with_reducible apply And.intro)) <;> (first | omega | (exfalso; omega)))
theorem zM_lineOf_s (h : zR K x y S) (g : zGp y) (d : Nat) {r n : Int} (hr : 0 ≤ r ∧ r < 12) (hn : 0 ≤ n ∧ n < 100) : zM_lineOf (d + 1) (zI r) (zI n) S = some (zI (zlineOf y r n), S) := by
  have b := zG11 g
  rw [eM_lineOf, zI_n0]
  exact zM_lineOf_2_s h g d hr hn (y 11 0).toNat 0 (by omega) (by omega)
theorem zC_lineAt_s (h : zR K x y S) (g : zGp x) (d : Nat) {a n : Int} (ha : 0 ≤ a ∧ a < 96) (hn : 0 ≤ n ∧ n < 100) : zC_lineAt (d + 1) (zI a) (zI n) S = some (zI (zlineOf x (a / 8) n), S) := by
  refine zwp_eq ?_
  rw [eC_lineAt]
  have e : a / 8 * 100 + n = 100 * (a / 8) + n := by omega
  simp (contextual := true) (disch := omega) only [zWp, zNum, Int.cast_ofNat_Int, Prod.mk.injEq, and_true, true_and, implies_true, and_self, true_implies, false_implies, not_true_eq_false, not_false_eq_true, and_false, false_and, Int.reduceEq, Int.reduceLT, Int.reduceLE, Int.reduceNeg, Int.reduceAdd, Int.reduceSub, Int.reduceMul, Int.reduceToNat, Nat.reduceEqDiff, cond_true, cond_false, eC_lineAt_25, e, zRnm h] <;> ((repeat' (first | intro _ | with_reducible apply And.intro)) <;> (first | omega | (exfalso; omega)))
theorem zM_firstFree_2_s (h : zR K x y S) (g : zGp y) (d : Nat) {r : Int} (hr : 0 ≤ r ∧ r < 12) : ∀ (m : Nat) (k : Int), 0 ≤ k → k + m = y 4 r →
    zM_firstFree_2 (d + 1) (zI r) (zI k) S = some (zI (zfst (fun e => decide (zFr y e)) m (8 * r + k)), S)
  | 0, k, k0, e => by
    have b := zG4 g r
    refine zwp_eq ?_
    rw [eM_firstFree_2]
    simp (contextual := true) (disch := omega) only [zWp, zNum, Int.cast_ofNat_Int, Prod.mk.injEq, and_true, true_and, implies_true, and_self, true_implies, false_implies, not_true_eq_false, not_false_eq_true, and_false, false_and, Int.reduceEq, Int.reduceLT, Int.reduceLE, Int.reduceNeg, Int.reduceAdd, Int.reduceSub, Int.reduceMul, Int.reduceToNat, Nat.reduceEqDiff, cond_true, cond_false, zRm4 h, zfst] <;> ((repeat' (first | intro _ | with_reducible apply And.intro)) <;> (first | omega | (exfalso; omega)))
  | m + 1, k, k0, e => by
    have b := zG4 g r
    have ih := zM_firstFree_2_s h g d hr m (k + 1) (by omega) (by omega)
    have e2 : 8 * r + (k + 1) = 8 * r + k + 1 := by omega
    rw [e2] at ih
    refine zwp_eq ?_
    rw [eM_firstFree_2]
    by_cases hp : zFr y (8 * r + k)
    · rw [zfst_y _ _ _ (decide_eq_true hp)]
      simp (contextual := true) (disch := omega) only [zWp, zNum, Int.cast_ofNat_Int, Prod.mk.injEq, and_true, true_and, implies_true, and_self, true_implies, false_implies, not_true_eq_false, not_false_eq_true, and_false, false_and, Int.reduceEq, Int.reduceLT, Int.reduceLE, Int.reduceNeg, Int.reduceAdd, Int.reduceSub, Int.reduceMul, Int.reduceToNat, Nat.reduceEqDiff, cond_true, cond_false, zRm4 h, zM_isFree_s h g, ih] <;> ((repeat' (first | intro _ | with_reducible apply And.intro)) <;> (first | omega | (exfalso; omega)))
    · rw [zfst_n _ _ _ (decide_eq_false hp)]
      simp (contextual := true) (disch := omega) only [zWp, zNum, Int.cast_ofNat_Int, Prod.mk.injEq, and_true, true_and, implies_true, and_self, true_implies, false_implies, not_true_eq_false, not_false_eq_true, and_false, false_and, Int.reduceEq, Int.reduceLT, Int.reduceLE, Int.reduceNeg, Int.reduceAdd, Int.reduceSub, Int.reduceMul, Int.reduceToNat, Nat.reduceEqDiff, cond_true, cond_false, zRm4 h, zM_isFree_s h g, ih] <;> ((repeat' (first | intro _ | with_reducible apply And.intro)) <;> (first | omega | (exfalso; omega)))
theorem zM_firstFree_s (h : zR K x y S) (g : zGp y) (d : Nat) {r : Int} (hr : 0 ≤ r ∧ r < 12) : zM_firstFree (d + 2) (zI r) S = some (zI (sFF y r), S) := by
  have b := zG4 g r
  rw [eM_firstFree, zI_n0, zM_firstFree_2_s h g d hr (y 4 r).toNat 0 (by omega) (by omega), show 8 * r + 0 = 8 * r by omega]
  rfl
end HU
