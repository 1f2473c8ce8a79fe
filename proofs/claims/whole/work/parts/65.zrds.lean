/-! READS of both sides: lines, ends, racks -/
section T2
variable {K : ZS} {x y : ZW} {S : ZS}
theorem zgb_zb {α : Type} (P : Prop) (k : Option α) : zgb (zb P) k = k := by unfold zgb; rw [zb_bl]; rfl
theorem zM_within_s (S : ZS) (d : Nat) {a lo hi : Int} (h1 : -2147483648 ≤ a) (h2 : a < 2147483648) (h3 : -2147483648 ≤ lo) (h4 : lo < 2147483648) (h5 : -2147483648 ≤ hi) (h6 : hi < 2147483648) : zM_within (d + 1) (zI a) (zI lo) (zI hi) S = some (zb (lo ≤ a ∧ a ≤ hi), S) := by
  refine zwp_eq ?_
  rw [eM_within]
  simp (contextual := true) (disch := omega) only [zWp, zNum, Int.cast_ofNat_Int, Prod.mk.injEq, and_true, true_and, implies_true, and_self, true_implies, false_implies, not_true_eq_false, not_false_eq_true, and_false, false_and, Int.reduceEq, Int.reduceLT, Int.reduceLE, Int.reduceNeg, Int.reduceAdd, Int.reduceSub, Int.reduceMul, Int.reduceToNat, Nat.reduceEqDiff, cond_true, cond_false]
  omega
theorem zC_isLine_s (h : zR K x y S) (g : zGp x) (d : Nat) {a : Int} (h1 : -2147483648 ≤ a) (h2 : a < 2147483648) : zC_isLine (d + 1) (zI a) S = some (zb (zLn x a), S) := by
  have b := zG11 g
  refine zwp_eq ?_
  rw [eC_isLine]
  simp (contextual := true) (disch := omega) only [zWp, zNum, Int.cast_ofNat_Int, Prod.mk.injEq, and_true, true_and, implies_true, and_self, true_implies, false_implies, not_true_eq_false, not_false_eq_true, and_false, false_and, Int.reduceEq, Int.reduceLT, Int.reduceLE, Int.reduceNeg, Int.reduceAdd, Int.reduceSub, Int.reduceMul, Int.reduceToNat, Nat.reduceEqDiff, cond_true, cond_false, zRc11 h]
  omega
theorem zM_isLine_s (h : zR K x y S) (g : zGp y) (d : Nat) {a : Int} (h1 : -2147483648 ≤ a) (h2 : a < 2147483648) : zM_isLine (d + 2) (zI a) S = some (zb (zLn y a), S) := by
  have b := zG11 g
  refine zwp_eq ?_
  rw [eM_isLine]
  simp (contextual := true) (disch := omega) only [zWp, zNum, Int.cast_ofNat_Int, Prod.mk.injEq, and_true, true_and, implies_true, and_self, true_implies, false_implies, not_true_eq_false, not_false_eq_true, and_false, false_and, Int.reduceEq, Int.reduceLT, Int.reduceLE, Int.reduceNeg, Int.reduceAdd, Int.reduceSub, Int.reduceMul, Int.reduceToNat, Nat.reduceEqDiff, cond_true, cond_false, zRm11 h, zM_within_s S, zgb_zb]
  exact zb_c (by omega)
theorem zC_isQuiet_s (h : zR K x y S) (g : zGp x) (d : Nat) {a : Int} (h1 : -2147483648 ≤ a) (h2 : a < 2147483648) : zC_isQuiet (d + 1) (zI a) S = some (zb (zLn x a ∧ x 15 a = 0), S) := by
  have b := zG11 g
  have b2 := zG15 g a
  refine zwp_eq ?_
  rw [eC_isQuiet]
  simp (contextual := true) (disch := omega) only [zWp, zNum, Int.cast_ofNat_Int, Prod.mk.injEq, and_true, true_and, implies_true, and_self, true_implies, false_implies, not_true_eq_false, not_false_eq_true, and_false, false_and, Int.reduceEq, Int.reduceLT, Int.reduceLE, Int.reduceNeg, Int.reduceAdd, Int.reduceSub, Int.reduceMul, Int.reduceToNat, Nat.reduceEqDiff, cond_true, cond_false, zRc11 h, zRD h, zRc15 h]
  omega
theorem zC_isCalling_s (h : zR K x y S) (g : zGp x) (d : Nat) {a : Int} (h1 : -2147483648 ≤ a) (h2 : a < 2147483648) : zC_isCalling (d + 1) (zI a) S = some (zb (zLn x a ∧ x 15 a = 1), S) := by
  have b := zG11 g
  have b2 := zG15 g a
  refine zwp_eq ?_
  rw [eC_isCalling]
  simp (contextual := true) (disch := omega) only [zWp, zNum, Int.cast_ofNat_Int, Prod.mk.injEq, and_true, true_and, implies_true, and_self, true_implies, false_implies, not_true_eq_false, not_false_eq_true, and_false, false_and, Int.reduceEq, Int.reduceLT, Int.reduceLE, Int.reduceNeg, Int.reduceAdd, Int.reduceSub, Int.reduceMul, Int.reduceToNat, Nat.reduceEqDiff, cond_true, cond_false, zRc11 h, zRD h, zRc15 h]
  omega
theorem zM_isQuiet_s (h : zR K x y S) (d : Nat) {a : Int} (h1 : 0 ≤ a) (h2 : a < 40) : zM_isQuiet (d + 1) (zI a) S = some (zb (zQt y a), S) := by
  have b1 := zRby h 15 a
  have b2 := zRby h 41 a
  refine zwp_eq ?_
  rw [eM_isQuiet]
  simp (contextual := true) (disch := omega) only [zWp, zNum, Int.cast_ofNat_Int, Prod.mk.injEq, and_true, true_and, implies_true, and_self, true_implies, false_implies, not_true_eq_false, not_false_eq_true, and_false, false_and, Int.reduceEq, Int.reduceLT, Int.reduceLE, Int.reduceNeg, Int.reduceAdd, Int.reduceSub, Int.reduceMul, Int.reduceToNat, Nat.reduceEqDiff, cond_true, cond_false, zRm15 h, zRm41 h]
  omega
theorem zP_isJunction_s (S : ZS) (d : Nat) {a : Int} (h1 : -2147483648 ≤ a) (h2 : a < 2147483648) : zP_isJunction (d + 1) (zI a) S = some (zb (zJn a), S) := by
  refine zwp_eq ?_
  rw [eP_isJunction]
  simp (contextual := true) (disch := omega) only [zWp, zNum, Int.cast_ofNat_Int, Prod.mk.injEq, and_true, true_and, implies_true, and_self, true_implies, false_implies, not_true_eq_false, not_false_eq_true, and_false, false_and, Int.reduceEq, Int.reduceLT, Int.reduceLE, Int.reduceNeg, Int.reduceAdd, Int.reduceSub, Int.reduceMul, Int.reduceToNat, Nat.reduceEqDiff, cond_true, cond_false]
  omega
theorem zP_isEnd_s (h : zR K x y S) (g : zGp x) (d : Nat) {a : Int} (h1 : -2147483648 ≤ a) (h2 : a < 2147483648) : zP_isEnd (d + 2) (zI a) S = some (zb (zEn x a), S) := by
  refine zwp_eq ?_
  rw [eP_isEnd]
  simp (contextual := true) (disch := omega) only [zWp, zNum, Int.cast_ofNat_Int, Prod.mk.injEq, and_true, true_and, implies_true, and_self, true_implies, false_implies, not_true_eq_false, not_false_eq_true, and_false, false_and, Int.reduceEq, Int.reduceLT, Int.reduceLE, Int.reduceNeg, Int.reduceAdd, Int.reduceSub, Int.reduceMul, Int.reduceToNat, Nat.reduceEqDiff, cond_true, cond_false, zP_isSwitch_s h g, zP_isJunction_s S]
  omega
theorem zM_isEnd_s (h : zR K x y S) (g : zGp y) (d : Nat) {a : Int} (h1 : -2147483648 ≤ a) (h2 : a < 2147483648) : zM_isEnd (d + 2) (zI a) S = some (zb (zEn y a), S) := by
  refine zwp_eq ?_
  rw [eM_isEnd]
  simp (contextual := true) (disch := omega) only [zWp, zNum, Int.cast_ofNat_Int, Prod.mk.injEq, and_true, true_and, implies_true, and_self, true_implies, false_implies, not_true_eq_false, not_false_eq_true, and_false, false_and, Int.reduceEq, Int.reduceLT, Int.reduceLE, Int.reduceNeg, Int.reduceAdd, Int.reduceSub, Int.reduceMul, Int.reduceToNat, Nat.reduceEqDiff, cond_true, cond_false, zM_isSwitch_s h g, zM_within_s S]
  omega
theorem zP_isRackOf_s (h : zR K x y S) (g : zGp x) (d : Nat) {c a : Int} (hc : 0 ≤ c ∧ c ≤ 1) (h1 : -2147483648 ≤ a) (h2 : a < 2147483648) : zP_isRackOf (d + 1) (zI c) (zI a) S = some (zb (0 ≤ a ∧ a < x 2 0 ∧ x 3 a = c), S) := by
  have b2 := zG2 g
  have b3 := zG3 g a
  refine zwp_eq ?_
  rw [eP_isRackOf]
  simp (contextual := true) (disch := omega) only [zWp, zNum, Int.cast_ofNat_Int, Prod.mk.injEq, and_true, true_and, implies_true, and_self, true_implies, false_implies, not_true_eq_false, not_false_eq_true, and_false, false_and, Int.reduceEq, Int.reduceLT, Int.reduceLE, Int.reduceNeg, Int.reduceAdd, Int.reduceSub, Int.reduceMul, Int.reduceToNat, Nat.reduceEqDiff, cond_true, cond_false, zRc2 h, zRc3 h]
  omega
theorem zP_isLevel_s (h : zR K x y S) (g : zGp x) (d : Nat) {a l : Int} (h1 : -2147483648 ≤ a) (h2 : a < 2147483648) (h3 : -2147483648 ≤ l) (h4 : l < 2147483648) : zP_isLevel (d + 2) (zI a) (zI l) S = some (zb (zSl x a ∧ 0 ≤ l ∧ l < 10), S) := by
  refine zwp_eq ?_
  rw [eP_isLevel]
  simp (contextual := true) (disch := omega) only [zWp, zNum, Int.cast_ofNat_Int, Prod.mk.injEq, and_true, true_and, implies_true, and_self, true_implies, false_implies, not_true_eq_false, not_false_eq_true, and_false, false_and, Int.reduceEq, Int.reduceLT, Int.reduceLE, Int.reduceNeg, Int.reduceAdd, Int.reduceSub, Int.reduceMul, Int.reduceToNat, Nat.reduceEqDiff, cond_true, cond_false, zP_isRackOf_s h g]
  omega
theorem zM_isSelectors_s (h : zR K x y S) (g : zGp y) (d : Nat) {a : Int} (h1 : -2147483648 ≤ a) (h2 : a < 2147483648) : zM_isSelectors (d + 2) (zI a) S = some (zb (zSl y a), S) := by
  have b2 := zG2 g
  have b3 := zG3 g a
  refine zwp_eq ?_
  rw [eM_isSelectors]
  simp (contextual := true) (disch := omega) only [zWp, zNum, Int.cast_ofNat_Int, Prod.mk.injEq, and_true, true_and, implies_true, and_self, true_implies, false_implies, not_true_eq_false, not_false_eq_true, and_false, false_and, Int.reduceEq, Int.reduceLT, Int.reduceLE, Int.reduceNeg, Int.reduceAdd, Int.reduceSub, Int.reduceMul, Int.reduceToNat, Nat.reduceEqDiff, cond_true, cond_false, zRm2 h, zM_within_s S, zRm3 h]
  omega
theorem zP_isFinal_s (h : zR K x y S) (g : zGp x) (d : Nat) {a : Int} (h1 : -2147483648 ≤ a) (h2 : a < 2147483648) : zP_isFinal (d + 1) (zI a) S = some (zb (0 ≤ a ∧ a < 96 ∧ x 3 (a / 8) = 1), S) := by
  have b3 := zG3 g (a / 8)
  refine zwp_eq ?_
  rw [eP_isFinal]
  simp (contextual := true) (disch := omega) only [zWp, zNum, Int.cast_ofNat_Int, Prod.mk.injEq, and_true, true_and, implies_true, and_self, true_implies, false_implies, not_true_eq_false, not_false_eq_true, and_false, false_and, Int.reduceEq, Int.reduceLT, Int.reduceLE, Int.reduceNeg, Int.reduceAdd, Int.reduceSub, Int.reduceMul, Int.reduceToNat, Nat.reduceEqDiff, cond_true, cond_false, zRc3 h]
  omega
theorem zM_isEnding_s (h : zR K x y S) (g : zGp y) (d : Nat) {a : Int} (h1 : 0 ≤ a) (h2 : a < 116) (h3 : a < 96 ∨ 100 ≤ a) : zM_isEnding (d + 1) (zI a) S = some (zb (zEg y a), S) := by
  have b3 := zG3 g (a / 8)
  refine zwp_eq ?_
  rw [eM_isEnding]
  simp (contextual := true) (disch := omega) only [zWp, zNum, Int.cast_ofNat_Int, Prod.mk.injEq, and_true, true_and, implies_true, and_self, true_implies, false_implies, not_true_eq_false, not_false_eq_true, and_false, false_and, Int.reduceEq, Int.reduceLT, Int.reduceLE, Int.reduceNeg, Int.reduceAdd, Int.reduceSub, Int.reduceMul, Int.reduceToNat, Nat.reduceEqDiff, cond_true, cond_false, zRm3 h]
  omega
theorem zP_isOut_s (h : zR K x y S) (g : zGp x) (d : Nat) {a : Int} (h1 : -2147483648 ≤ a) (h2 : a < 2147483648) : zP_isOut (d + 1) (zI a) S = some (zb (0 ≤ a ∧ a < 96 ∧ x 9 a = 1), S) := by
  have b := zG9 g a
  refine zwp_eq ?_
  rw [eP_isOut]
  simp (contextual := true) (disch := omega) only [zWp, zNum, Int.cast_ofNat_Int, Prod.mk.injEq, and_true, true_and, implies_true, and_self, true_implies, false_implies, not_true_eq_false, not_false_eq_true, and_false, false_and, Int.reduceEq, Int.reduceLT, Int.reduceLE, Int.reduceNeg, Int.reduceAdd, Int.reduceSub, Int.reduceMul, Int.reduceToNat, Nat.reduceEqDiff, cond_true, cond_false, zRc9 h]
  omega
theorem zP_isFaulty_s (h : zR K x y S) (g : zGp x) (d : Nat) {a : Int} (h1 : -2147483648 ≤ a) (h2 : a < 2147483648) : zP_isFaulty (d + 1) (zI a) S = some (zb (0 ≤ a ∧ a < 96 ∧ x 10 a = 1), S) := by
  have b := zG10 g a
  refine zwp_eq ?_
  rw [eP_isFaulty]
  simp (contextual := true) (disch := omega) only [zWp, zNum, Int.cast_ofNat_Int, Prod.mk.injEq, and_true, true_and, implies_true, and_self, true_implies, false_implies, not_true_eq_false, not_false_eq_true, and_false, false_and, Int.reduceEq, Int.reduceLT, Int.reduceLE, Int.reduceNeg, Int.reduceAdd, Int.reduceSub, Int.reduceMul, Int.reduceToNat, Nat.reduceEqDiff, cond_true, cond_false, zRc10 h]
  omega
theorem zP_canTake_s (h : zR K x y S) (g : zGp x) (d : Nat) {a : Int} (h1 : -2147483648 ≤ a) (h2 : a < 2147483648) : zP_canTake (d + 2) (zI a) S = some (zb (0 ≤ a ∧ a < 116 ∧ x 8 a < 0 ∧ x 9 a = 0), S) := by
  have b := zG9 g a
  have b8 := zG8 g a
  have bj : 96 ≤ a → x 9 a = 0 := fun q => (zGj g q).1
  refine zwp_eq ?_
  rw [eP_canTake]
  simp (contextual := true) (disch := omega) only [zWp, zNum, Int.cast_ofNat_Int, Prod.mk.injEq, and_true, true_and, implies_true, and_self, true_implies, false_implies, not_true_eq_false, not_false_eq_true, and_false, false_and, Int.reduceEq, Int.reduceLT, Int.reduceLE, Int.reduceNeg, Int.reduceAdd, Int.reduceSub, Int.reduceMul, Int.reduceToNat, Nat.reduceEqDiff, cond_true, cond_false, zRc8 h, zP_isOut_s h g]
  omega
end T2
