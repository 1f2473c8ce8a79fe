/-! SEARCHES: goesTo, sectionOf, leadsFrom, hunt -/
section HV
variable {K : ZS} {x y : ZW} {S : ZS}
theorem sMod (g : zGp x) {h : Int} (hs : zSw x h) : 0 ≤ h % 8 % x 5 (h / 8) ∧ h % 8 % x 5 (h / 8) < 2 ∧ 1 ≤ x 5 (h / 8) := by
  have b5 := zG5 g (h / 8)
  have b45 := zG45 g (r := h / 8) (by omega) (by omega)
  have a1 := Int.emod_nonneg (h % 8) (show x 5 (h / 8) ≠ 0 by omega)
  have a2 := Int.emod_lt_of_pos (h % 8) (show 0 < x 5 (h / 8) by omega)
  omega
theorem zBs0 {α β : Type} (a : α) (f : α → Option β) : (some a).bind f = f a := rfl
theorem zP_sectionOf_s (h : zR K x y S) (d : Nat) {a : Int} (ha : 0 ≤ a ∧ a < 96) (h5 : x 5 (a / 8) = 1 ∨ x 5 (a / 8) = 2) : zP_sectionOf (d + 1) (zI a) S = some (zI (a % 8 % x 5 (a / 8)), S) := by
  rw [eP_sectionOf, zI_n8, zI_div (by omega) (by omega) (by omega) (by omega), zg_t (by rw [zI_in (by omega) (by omega)]; omega), zI_zx (by omega) (by omega), zRc5 h (by omega) (by omega), zI_n2, zI_eq (by omega) (by omega) (by omega) (by omega)]
  rcases h5 with e | e
  · rw [e, zif_neg (by omega), show a % 8 % 1 = 0 by omega]
    rfl
  · rw [e, zif_pos rfl, zI_div (by omega) (by omega) (by omega) (by omega), zI_mul, zI_sub, show a - a / 2 * 2 = a % 8 % 2 by omega]
theorem zP_leadsFrom_s (h : zR K x y S) (g : zGp x) (d : Nat) {a l p : Int} (hs : zSw x a) (hl : 0 ≤ l ∧ l < 10) (hp : 0 ≤ p ∧ p < 4) : zP_leadsFrom (d + 2) (zI a) (zI l) (zI p) S = some (zI (x 6 (sBase x a l + p)), S) := by
  have b2 := zG2 g
  have b5 := zG5 g (a / 8)
  have hm := sMod g hs
  have e : ((a / 8 * 2 + a % 8 % x 5 (a / 8)) * 10 + l) * 4 + p = sBase x a l + p := by unfold sBase; omega
  have hb : 0 ≤ sBase x a l + p ∧ sBase x a l + p < 960 := by unfold sBase; omega
  rw [eP_leadsFrom, zI_n0, zI_n10, show (96 : Int32) = zI 96 from rfl, zI_lt (by omega) (by omega) (by omega) (by omega), zif_neg (by omega), zI_le (by omega) (by omega) (by omega) (by omega), zif_neg (by omega), zI_lt (by omega) (by omega) (by omega) (by omega), zif_neg (by omega), zI_lt (by omega) (by omega) (by omega) (by omega), zif_pos (by omega), zP_sectionOf_s h d (by omega) (by omega), zBs0]
  dsimp only
  rw [eP_spot, zBs0]
  dsimp only
  rw [zI_n2, zI_n8, zI_n10, zI_n4, zI_div (by omega) (by omega) (by omega) (by omega), zI_mul, zI_add, zI_mul, zI_add, zI_mul, zI_add, e, zg_t (by rw [zI_in (by omega) (by omega)]; omega), zI_zx (by omega) (by omega), zRc6 h (by omega) (by omega)]
theorem zM_goesTo_11_s (h : zR K x y S) (g : zGp y) (d : Nat) {a l : Int} (hs : zSw y a) (hl : 0 ≤ l ∧ l < 10) : ∀ (n : Nat) (p : Int) (b : Bool), 0 ≤ p → p + n = 4 →
    zM_goesTo_11 (d + 1) (zI a) (zI l) (zI (a / 8)) (zI (bif b then 1 else 0)) (zI p) S = some (zI (sGo y (sBase y a l) n p b), S)
  | 0, p, b, p0, e => by
    refine zwp_eq ?_
    rw [eM_goesTo_11]
    cases b <;> simp (contextual := true) (disch := omega) only [zWp, zNum, Int.cast_ofNat_Int, Prod.mk.injEq, and_true, true_and, implies_true, and_self, true_implies, false_implies, not_true_eq_false, not_false_eq_true, and_false, false_and, Int.reduceEq, Int.reduceLT, Int.reduceLE, Int.reduceNeg, Int.reduceAdd, Int.reduceSub, Int.reduceMul, Int.reduceToNat, Nat.reduceEqDiff, cond_true, cond_false, cond_true, cond_false, sGo] <;> ((repeat' (first | intro _ | with_reducible apply And.intro)) <;> (first | omega | (exfalso; omega)))
  | n + 1, p, b, p0, e => by
    have b2 := zG2 g
    have b5 := zG5 g (a / 8)
    have hm := sMod g hs
    have e2 : 80 * (a / 8) + 40 * (a % 8 % y 5 (a / 8)) + 4 * l + p = sBase y a l + p := rfl
    have hb : 0 ≤ sBase y a l + p ∧ sBase y a l + p < 960 := by unfold sBase; omega
    have b6 := zG6 g (sBase y a l + p)
    have ih := fun b' => zM_goesTo_11_s h g d hs hl n (p + 1) b' (by omega) (by omega)
    have iht := ih true
    have ihb := ih b
    refine zwp_eq ?_
    rw [eM_goesTo_11, sGo]
    by_cases h6 : y 6 (sBase y a l + p) < 0
    · rw [if_pos h6]
      simp (contextual := true) (disch := omega) only [zWp, zNum, Int.cast_ofNat_Int, Prod.mk.injEq, and_true, true_and, implies_true, and_self, true_implies, false_implies, not_true_eq_false, not_false_eq_true, and_false, false_and, Int.reduceEq, Int.reduceLT, Int.reduceLE, Int.reduceNeg, Int.reduceAdd, Int.reduceSub, Int.reduceMul, Int.reduceToNat, Nat.reduceEqDiff, cond_true, cond_false, zRm5 h, zmodI, eM_outletAt, e2, zRm6 h, ihb] <;> ((repeat' (first | intro _ | with_reducible apply And.intro)) <;> (first | omega | (exfalso; omega)))
    · rw [if_neg h6]
      by_cases hf : zFr y (y 6 (sBase y a l + p))
      · rw [if_pos hf]
        simp (contextual := true) (disch := omega) only [zWp, zNum, Int.cast_ofNat_Int, Prod.mk.injEq, and_true, true_and, implies_true, and_self, true_implies, false_implies, not_true_eq_false, not_false_eq_true, and_false, false_and, Int.reduceEq, Int.reduceLT, Int.reduceLE, Int.reduceNeg, Int.reduceAdd, Int.reduceSub, Int.reduceMul, Int.reduceToNat, Nat.reduceEqDiff, cond_true, cond_false, zRm5 h, zmodI, eM_outletAt, e2, zRm6 h, zM_isFree_s h g] <;> ((repeat' (first | intro _ | with_reducible apply And.intro)) <;> (first | omega | (exfalso; omega)))
      · rw [if_neg hf]
        rw [cond_true] at iht
        simp (contextual := true) (disch := omega) only [zWp, zNum, Int.cast_ofNat_Int, Prod.mk.injEq, and_true, true_and, implies_true, and_self, true_implies, false_implies, not_true_eq_false, not_false_eq_true, and_false, false_and, Int.reduceEq, Int.reduceLT, Int.reduceLE, Int.reduceNeg, Int.reduceAdd, Int.reduceSub, Int.reduceMul, Int.reduceToNat, Nat.reduceEqDiff, cond_true, cond_false, zRm5 h, zmodI, eM_outletAt, e2, zRm6 h, zM_isFree_s h g, iht] <;> ((repeat' (first | intro _ | with_reducible apply And.intro)) <;> (first | omega | (exfalso; omega)))
theorem zM_goesTo_s (h : zR K x y S) (g : zGp y) (d : Nat) {a l : Int} (hs : zSw y a) (hl : 0 ≤ l ∧ l < 10) : zM_goesTo (d + 2) (zI a) (zI l) S = some (zI (sGoes y a l), S) := by
  have b2 := zG2 g
  rw [eM_goesTo, zI_n0, zI_n8, zI_div (by omega) (by omega) (by omega) (by omega)]
  exact zM_goesTo_11_s h g d hs hl 4 0 false (by omega) (by omega)
end HV
