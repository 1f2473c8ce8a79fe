/-! READS of both sides -/
section T1
variable {K : ZS} {x y : ZW} {S : ZS}
theorem zM_isSwitch_s (h : zR K x y S) (g : zGp y) (d : Nat) {a : Int} (h1 : -2147483648 ≤ a) (h2 : a < 2147483648) : zM_isSwitch (d + 1) (zI a) S = some (zb (zSw y a), S) := by
  have b2 := zG2 g
  have b4 := zG4 g (a / 8)
  refine zwp_eq ?_
  rw [eM_isSwitch]
  simp (contextual := true) (disch := omega) only [zWp, zNum, Int.cast_ofNat_Int, Prod.mk.injEq, and_true, true_and, implies_true, and_self, true_implies, false_implies, not_true_eq_false, not_false_eq_true, and_false, false_and, Int.reduceEq, Int.reduceLT, Int.reduceLE, Int.reduceNeg, Int.reduceAdd, Int.reduceSub, Int.reduceMul, Int.reduceToNat, Nat.reduceEqDiff, cond_true, cond_false, zRm2 h, zRm4 h]
  omega
theorem zP_isSwitch_s (h : zR K x y S) (g : zGp x) (d : Nat) {a : Int} (h1 : -2147483648 ≤ a) (h2 : a < 2147483648) : zP_isSwitch (d + 1) (zI a) S = some (zb (zSw x a), S) := by
  have b2 := zG2 g
  have b4 := zG4 g (a / 8)
  refine zwp_eq ?_
  rw [eP_isSwitch]
  simp (contextual := true) (disch := omega) only [zWp, zNum, Int.cast_ofNat_Int, Prod.mk.injEq, and_true, true_and, implies_true, and_self, true_implies, false_implies, not_true_eq_false, not_false_eq_true, and_false, false_and, Int.reduceEq, Int.reduceLT, Int.reduceLE, Int.reduceNeg, Int.reduceAdd, Int.reduceSub, Int.reduceMul, Int.reduceToNat, Nat.reduceEqDiff, cond_true, cond_false, eP_isSwitch_20, zRc2 h, zRc4 h]
  omega
theorem zM_isFree_s (h : zR K x y S) (g : zGp y) (d : Nat) {a : Int} (h1 : 0 ≤ a) (h2 : a < 116) : zM_isFree (d + 1) (zI a) S = some (zb (zFr y a), S) := by
  have b8 := zG8 g a
  have b9 := zG9 g a
  have b40 := zRby h 40 a
  refine zwp_eq ?_
  rw [eM_isFree]
  simp (contextual := true) (disch := omega) only [zWp, zNum, Int.cast_ofNat_Int, Prod.mk.injEq, and_true, true_and, implies_true, and_self, true_implies, false_implies, not_true_eq_false, not_false_eq_true, and_false, false_and, Int.reduceEq, Int.reduceLT, Int.reduceLE, Int.reduceNeg, Int.reduceAdd, Int.reduceSub, Int.reduceMul, Int.reduceToNat, Nat.reduceEqDiff, cond_true, cond_false, zRm8 h, zRm9 h, zRm40 h]
  omega
end T1
