/-! seconds, rack, zone, out, faulty, forget, held of both sides -/
def sSeconds (x : ZW) (n : Int) : Int × ZW := if 0 ≤ n ∧ n ≤ 100000 ∧ x 1 0 + n ≤ 999999 then (x 1 0 + n, xu x 1 0 (x 1 0 + n)) else (-1, x)
def sRack (x : ZW) (a b c : Int) : Int × ZW := if 0 ≤ a ∧ a ≤ 1 ∧ 1 ≤ b ∧ b ≤ 8 ∧ 1 ≤ c ∧ c ≤ 2 - a ∧ x 2 0 < 12 then (x 2 0, xu (xu (xu (xu x 3 (x 2 0) a) 4 (x 2 0) b) 5 (x 2 0) c) 2 0 (x 2 0 + 1)) else (-1, x)
def sZone (x : ZW) (a b : Int) : Int × ZW := if 0 ≤ a ∧ a ≤ 15 ∧ 1 ≤ b ∧ b ≤ 9 then (1, xu x 7 a b) else (0, x)
def sOut (x : ZW) (a b : Int) : Int × ZW := if zSw x a then (1, xu x 9 a b) else (0, x)
def sFaulty (x : ZW) (a b : Int) : Int × ZW := if zSw x a then (1, xu x 10 a b) else (0, x)
def sForget (x : ZW) : Int × ZW := (x 35 0, xu x 35 0 0)
def sHeld (x : ZW) (a : Int) : Int × ZW := (if zEn x a then x 8 a else -1, x)
section A1
variable {K : ZS} {x y : ZW} {S : ZS}
theorem zX_seconds_s (h : zR K x y S) (g : zGp x) (d : Nat) {a : Int} (h1 : -2147483648 ≤ a) (h2 : a < 2147483648) : zwp (zX_seconds (d + 1) (zI a) S) (fun r => r.1 = zI (sSeconds x a).1 ∧ zR K (sSeconds x a).2 y r.2) := by
  have b1 := zG1 g
  rw [eX_seconds, sSeconds]
  by_cases hc : 0 ≤ a ∧ a ≤ 100000 ∧ x 1 0 + a ≤ 999999
  · have w := zWc1 h (v := x 1 0 + a) (by omega) (by omega)
    rw [if_pos hc]
    simp (contextual := true) (disch := omega) only [zWp, zNum, Int.cast_ofNat_Int, Prod.mk.injEq, and_true, true_and, implies_true, and_self, true_implies, false_implies, not_true_eq_false, not_false_eq_true, and_false, false_and, Int.reduceEq, Int.reduceLT, Int.reduceLE, Int.reduceNeg, Int.reduceAdd, Int.reduceSub, Int.reduceMul, Int.reduceToNat, Nat.reduceEqDiff, cond_true, cond_false, zRc1 h, zu_same, w] <;> ((repeat' (first | intro _ | apply And.intro)) <;> (first | omega | (exfalso; omega)))
  · rw [if_neg hc]
    simp (contextual := true) (disch := omega) only [zWp, zNum, Int.cast_ofNat_Int, Prod.mk.injEq, and_true, true_and, implies_true, and_self, true_implies, false_implies, not_true_eq_false, not_false_eq_true, and_false, false_and, Int.reduceEq, Int.reduceLT, Int.reduceLE, Int.reduceNeg, Int.reduceAdd, Int.reduceSub, Int.reduceMul, Int.reduceToNat, Nat.reduceEqDiff, cond_true, cond_false, zRc1 h, zu_same, h] <;> ((repeat' (first | intro _ | apply And.intro)) <;> (first | omega | (exfalso; omega)))
theorem zM_seconds_s (h : zR K x y S) (g : zGp y) (d : Nat) {a : Int} (h1 : -2147483648 ≤ a) (h2 : a < 2147483648) : zwp (zM_seconds (d + 2) (zI a) S) (fun r => r.1 = zI (sSeconds y a).1 ∧ zR K x (sSeconds y a).2 r.2) := by
  have b1 := zG1 g
  rw [eM_seconds, sSeconds]
  have h0 := zR_s h (t := 11) (s := 0) rfl 0 (0 : Int32)
  generalize hS : ((zu S.1 11 0 0 (0 : Int32)), S.2) = S' at h0 ⊢
  have hS1 : zu S.1 11 0 0 (0 : Int32) = S'.1 := by rw [← hS]
  try simp only [hS1]
  by_cases hc : 0 ≤ a ∧ a ≤ 100000 ∧ y 1 0 + a ≤ 999999
  · have w := zWm1 h0 (v := y 1 0 + a) (by omega) (by omega)
    rw [if_pos hc]
    simp (contextual := true) (disch := omega) only [zWp, zNum, Int.cast_ofNat_Int, Prod.mk.injEq, and_true, true_and, implies_true, and_self, true_implies, false_implies, not_true_eq_false, not_false_eq_true, and_false, false_and, Int.reduceEq, Int.reduceLT, Int.reduceLE, Int.reduceNeg, Int.reduceAdd, Int.reduceSub, Int.reduceMul, Int.reduceToNat, Nat.reduceEqDiff, cond_true, cond_false, zRm1 h0, zu_same, w, zM_within_s S'] <;> ((repeat' (first | intro _ | apply And.intro)) <;> (first | omega | (exfalso; omega)))
  · rw [if_neg hc]
    simp (contextual := true) (disch := omega) only [zWp, zNum, Int.cast_ofNat_Int, Prod.mk.injEq, and_true, true_and, implies_true, and_self, true_implies, false_implies, not_true_eq_false, not_false_eq_true, and_false, false_and, Int.reduceEq, Int.reduceLT, Int.reduceLE, Int.reduceNeg, Int.reduceAdd, Int.reduceSub, Int.reduceMul, Int.reduceToNat, Nat.reduceEqDiff, cond_true, cond_false, zRm1 h0, zu_same, h0, zM_within_s S'] <;> ((repeat' (first | intro _ | apply And.intro)) <;> (first | omega | (exfalso; omega)))
end A1
