/-! THE BOOK of both sides: word, bill, book, write -/
/-- the book's bounds -/
def zGb (x : ZW) : Prop := (0 ≤ x 24 0 ∧ x 24 0 ≤ 200) ∧ (0 ≤ x 29 0 ∧ x 29 0 ≤ 200) ∧ (∀ c, 0 ≤ x 27 c ∧ x 27 c ≤ 11) ∧ (∀ c, 0 ≤ x 28 c ∧ x 28 c ≤ 11) ∧ (∀ w, 0 ≤ x 32 w ∧ x 32 w ≤ 11)
/-- units by the first n words -/
def zub (x : ZW) (c t : Int) : Nat → Int
  | 0 => x 26 c
  | n + 1 => if x 30 n = c ∧ x 32 n ≤ t then x 31 n else zub x c t n
def zsum (x : ZW) (l from' to t : Int) : Nat → Int
  | 0 => 0
  | n + 1 => if x 25 n = l ∧ from' ≤ x 27 n ∧ x 27 n ≤ to ∧ x 28 n ≤ t then zsum x l from' to t n + zub x n t (x 29 0).toNat else zsum x l from' to t n
def sWord (x : ZW) (c u : Int) : Int × ZW := if 0 ≤ c ∧ c < x 24 0 ∧ 0 ≤ u ∧ u ≤ 9999 ∧ x 29 0 < 200 then (1, xu (xu (xu (xu x 30 (x 29 0) c) 31 (x 29 0) u) 32 (x 29 0) (x 1 0 / 86400)) 29 0 (x 29 0 + 1)) else (0, x)
def sBill (x : ZW) (l a b t : Int) : Int × ZW := (if zLn x l ∧ 0 ≤ a ∧ a ≤ b ∧ b ≤ 11 ∧ 0 ≤ t ∧ t ≤ x 1 0 / 86400 then zsum x l a b t (x 24 0).toNat else -1, x)
def sBook (x : ZW) (i w : Int) : Int × ZW := (if 0 ≤ i ∧ i < x 24 0 then (if w = 0 then x 25 i else if w = 1 then zub x i 11 (x 29 0).toNat else if w = 2 then x 27 i else if w = 3 then x 28 i else -1) else -1, x)
theorem zub_99 {x : ZW} (g : zGb x) (c : Int) : ∀ n, zub x c 99 n = zub x c 11 n
  | 0 => rfl
  | n + 1 => by
    have := g.2.2.2.2 n
    rw [zub, zub, zub_99 g c n]
    by_cases h : x 30 n = c ∧ x 32 n ≤ 11
    · rw [if_pos h, if_pos ⟨h.1, by omega⟩]
    · rw [if_neg h, if_neg (fun q => h ⟨q.1, by omega⟩)]
section LG
variable {K : ZS} {x y : ZW} {S : ZS}
theorem zG_unitsKnown_7_s (h : zR K x y S) (g : zGb x) (d : Nat) {c t : Int} (hc : 0 ≤ c ∧ c < 200) (ht : 0 ≤ t ∧ t ≤ 99) : ∀ (n : Nat), (n : Int) ≤ x 29 0 → zG_unitsKnown_7 d (zI c) (zI t) (zI ((n : Int) - 1)) S = some (zI (zub x c t n), S)
  | 0, hn => by
    refine zwp_eq ?_
    rw [eG_unitsKnown_7, zub, show ((0 : Nat) : Int) - 1 = -1 from rfl]
    simp (contextual := true) (disch := omega) only [zWp, zNum, Int.cast_ofNat_Int, Prod.mk.injEq, and_true, true_and, implies_true, and_self, true_implies, false_implies, not_true_eq_false, not_false_eq_true, and_false, false_and, Int.reduceEq, Int.reduceLT, Int.reduceLE, Int.reduceNeg, Int.reduceAdd, Int.reduceSub, Int.reduceMul, Int.reduceToNat, Nat.reduceEqDiff, cond_true, cond_false, zRc26 h] <;> ((repeat' (first | intro _ | with_reducible apply And.intro)) <;> (first | omega | (exfalso; omega)))
  | n + 1, hn => by
    have b := g.2.1
    have b30 := zRbx h 30 n
    have b32 := g.2.2.2.2 n
    have ih := zG_unitsKnown_7_s h g d hc ht n (by omega)
    have e : ((n + 1 : Nat) : Int) - 1 = n := by omega
    have e2 : (n : Int) + -1 = (n : Int) - 1 := by omega
    have r30 := zRc30 h (k := n) (by omega) (by omega)
    have r31 := zRc31 h (k := n) (by omega) (by omega)
    have r32 := zRc32 h (k := n) (by omega) (by omega)
    refine zwp_eq ?_
    rw [eG_unitsKnown_7, zub, e]
    by_cases hp : x 30 n = c ∧ x 32 n ≤ t
    · rw [if_pos hp]
      simp (contextual := true) (disch := omega) only [zWp, zNum, Int.cast_ofNat_Int, Prod.mk.injEq, and_true, true_and, implies_true, and_self, true_implies, false_implies, not_true_eq_false, not_false_eq_true, and_false, false_and, Int.reduceEq, Int.reduceLT, Int.reduceLE, Int.reduceNeg, Int.reduceAdd, Int.reduceSub, Int.reduceMul, Int.reduceToNat, Nat.reduceEqDiff, cond_true, cond_false, r30, r31, r32, e2, ih] <;> ((repeat' (first | intro _ | with_reducible apply And.intro)) <;> (first | omega | (exfalso; omega)))
    · rw [if_neg hp]
      simp (contextual := true) (disch := omega) only [zWp, zNum, Int.cast_ofNat_Int, Prod.mk.injEq, and_true, true_and, implies_true, and_self, true_implies, false_implies, not_true_eq_false, not_false_eq_true, and_false, false_and, Int.reduceEq, Int.reduceLT, Int.reduceLE, Int.reduceNeg, Int.reduceAdd, Int.reduceSub, Int.reduceMul, Int.reduceToNat, Nat.reduceEqDiff, cond_true, cond_false, r30, r31, r32, e2, ih] <;> ((repeat' (first | intro _ | with_reducible apply And.intro)) <;> (first | omega | (exfalso; omega)))
theorem zG_unitsKnown_s (h : zR K x y S) (g : zGb x) (d : Nat) {c t : Int} (hc : 0 ≤ c ∧ c < 200) (ht : 0 ≤ t ∧ t ≤ 99) : zG_unitsKnown (d + 1) (zI c) (zI t) S = some (zI (zub x c t (x 29 0).toNat), S) := by
  have b := g.2.1
  have q := zG_unitsKnown_7_s h g d hc ht (x 29 0).toNat (by omega)
  rw [show (((x 29 0).toNat : Nat) : Int) - 1 = x 29 0 - 1 by omega] at q
  rw [eG_unitsKnown, zRc29 h, zI_n1, zI_sub]
  exact q
theorem zM_unitsBy_10_s (h : zR K x y S) (g : zGb y) (d : Nat) {c t : Int} (hc : 0 ≤ c ∧ c < 200) (ht : 0 ≤ t ∧ t ≤ 99) : ∀ (m n : Nat), (n : Int) + m = y 29 0 → zM_unitsBy_10 d (zI c) (zI t) (zI (zub y c t n)) (zI n) S = some (zI (zub y c t (n + m)), S)
  | 0, n, hn => by
    have b := g.2.1
    refine zwp_eq ?_
    rw [eM_unitsBy_10]
    simp (contextual := true) (disch := omega) only [zWp, zNum, Int.cast_ofNat_Int, Prod.mk.injEq, and_true, true_and, implies_true, and_self, true_implies, false_implies, not_true_eq_false, not_false_eq_true, and_false, false_and, Int.reduceEq, Int.reduceLT, Int.reduceLE, Int.reduceNeg, Int.reduceAdd, Int.reduceSub, Int.reduceMul, Int.reduceToNat, Nat.reduceEqDiff, cond_true, cond_false, zRm29 h, Nat.add_zero] <;> ((repeat' (first | intro _ | with_reducible apply And.intro)) <;> (first | omega | (exfalso; omega)))
  | m + 1, n, hn => by
    have b := g.2.1
    have b30 := zRby h 30 n
    have b32 := g.2.2.2.2 n
    have ih := zM_unitsBy_10_s h g d hc ht m (n + 1) (by omega)
    rw [show n + 1 + m = n + (m + 1) by omega, show ((n + 1 : Nat) : Int) = (n : Int) + 1 by omega] at ih
    have r30 := zRm30 h (k := n) (by omega) (by omega)
    have r31 := zRm31 h (k := n) (by omega) (by omega)
    have r32 := zRm32 h (k := n) (by omega) (by omega)
    refine zwp_eq ?_
    rw [eM_unitsBy_10]
    rw [zub] at ih
    by_cases hp : y 30 n = c ∧ y 32 n ≤ t
    · rw [if_pos hp] at ih
      simp (contextual := true) (disch := omega) only [zWp, zNum, Int.cast_ofNat_Int, Prod.mk.injEq, and_true, true_and, implies_true, and_self, true_implies, false_implies, not_true_eq_false, not_false_eq_true, and_false, false_and, Int.reduceEq, Int.reduceLT, Int.reduceLE, Int.reduceNeg, Int.reduceAdd, Int.reduceSub, Int.reduceMul, Int.reduceToNat, Nat.reduceEqDiff, cond_true, cond_false, zRm29 h, r30, r31, r32, ih] <;> ((repeat' (first | intro _ | with_reducible apply And.intro)) <;> (first | omega | (exfalso; omega)))
    · rw [if_neg hp] at ih
      simp (contextual := true) (disch := omega) only [zWp, zNum, Int.cast_ofNat_Int, Prod.mk.injEq, and_true, true_and, implies_true, and_self, true_implies, false_implies, not_true_eq_false, not_false_eq_true, and_false, false_and, Int.reduceEq, Int.reduceLT, Int.reduceLE, Int.reduceNeg, Int.reduceAdd, Int.reduceSub, Int.reduceMul, Int.reduceToNat, Nat.reduceEqDiff, cond_true, cond_false, zRm29 h, r30, r31, r32, ih] <;> ((repeat' (first | intro _ | with_reducible apply And.intro)) <;> (first | omega | (exfalso; omega)))
theorem zM_unitsBy_s (h : zR K x y S) (g : zGb y) (d : Nat) {c t : Int} (hc : 0 ≤ c ∧ c < 200) (ht : 0 ≤ t ∧ t ≤ 99) : zM_unitsBy (d + 1) (zI c) (zI t) S = some (zI (zub y c t (y 29 0).toNat), S) := by
  have b := g.2.1
  have q := zM_unitsBy_10_s h g d hc ht (y 29 0).toNat 0 (by omega)
  rw [show 0 + (y 29 0).toNat = (y 29 0).toNat by omega] at q
  refine zwp_eq ?_
  rw [eM_unitsBy]
  have q : zM_unitsBy_10 d (zI c) (zI t) (zI (y 26 c)) (zI 0) S = _ := q
  simp (contextual := true) (disch := omega) only [zWp, zNum, Int.cast_ofNat_Int, Prod.mk.injEq, and_true, true_and, implies_true, and_self, true_implies, false_implies, not_true_eq_false, not_false_eq_true, and_false, false_and, Int.reduceEq, Int.reduceLT, Int.reduceLE, Int.reduceNeg, Int.reduceAdd, Int.reduceSub, Int.reduceMul, Int.reduceToNat, Nat.reduceEqDiff, cond_true, cond_false, zRm26 h, q] <;> ((repeat' (first | intro _ | with_reducible apply And.intro)) <;> (first | omega | (exfalso; omega)))
theorem zG_sum_6_s (h : zR K x y S) (g : zGb x) (d : Nat) {l a b t : Int} (hl : 0 ≤ l ∧ l < 40) (ha : 0 ≤ a ∧ a ≤ 11) (hb : 0 ≤ b ∧ b ≤ 11) (ht : 0 ≤ t ∧ t ≤ 99) : ∀ (m n : Nat), (n : Int) + m = x 24 0 →
    zG_sum_6 (d + 1) (zI l) (zI a) (zI b) (zI t) (zI (zsum x l a b t n)) (zI n) S = some (zI (zsum x l a b t (n + m)), S)
  | 0, n, hn => by
    have b := g.1
    refine zwp_eq ?_
    rw [eG_sum_6]
    simp (contextual := true) (disch := omega) only [zWp, zNum, Int.cast_ofNat_Int, Prod.mk.injEq, and_true, true_and, implies_true, and_self, true_implies, false_implies, not_true_eq_false, not_false_eq_true, and_false, false_and, Int.reduceEq, Int.reduceLT, Int.reduceLE, Int.reduceNeg, Int.reduceAdd, Int.reduceSub, Int.reduceMul, Int.reduceToNat, Nat.reduceEqDiff, cond_true, cond_false, zRc24 h, Nat.add_zero] <;> ((repeat' (first | intro _ | with_reducible apply And.intro)) <;> (first | omega | (exfalso; omega)))
  | m + 1, n, hn => by
    have b24 := g.1
    have b25 := zRbx h 25 n
    have b27 := g.2.2.1 n
    have b28 := g.2.2.2.1 n
    have ih := zG_sum_6_s h g d hl ha hb ht m (n + 1) (by omega)
    rw [show n + 1 + m = n + (m + 1) by omega, show ((n + 1 : Nat) : Int) = (n : Int) + 1 by omega] at ih
    have r25 := zRc25 h (k := n) (by omega) (by omega)
    have r27 := zRc27 h (k := n) (by omega) (by omega)
    have r28 := zRc28 h (k := n) (by omega) (by omega)
    have qu := zG_unitsKnown_s h g d (c := n) (t := t) (by omega) ht
    refine zwp_eq ?_
    rw [eG_sum_6]
    rw [zsum] at ih
    by_cases hp : x 25 n = l ∧ a ≤ x 27 n ∧ x 27 n ≤ b ∧ x 28 n ≤ t
    · rw [if_pos hp] at ih
      simp (contextual := true) (disch := omega) only [zWp, zNum, Int.cast_ofNat_Int, Prod.mk.injEq, and_true, true_and, implies_true, and_self, true_implies, false_implies, not_true_eq_false, not_false_eq_true, and_false, false_and, Int.reduceEq, Int.reduceLT, Int.reduceLE, Int.reduceNeg, Int.reduceAdd, Int.reduceSub, Int.reduceMul, Int.reduceToNat, Nat.reduceEqDiff, cond_true, cond_false, zRc24 h, r25, r27, r28, qu, ih] <;> ((repeat' (first | intro _ | with_reducible apply And.intro)) <;> (first | omega | (exfalso; omega)))
    · rw [if_neg hp] at ih
      simp (contextual := true) (disch := omega) only [zWp, zNum, Int.cast_ofNat_Int, Prod.mk.injEq, and_true, true_and, implies_true, and_self, true_implies, false_implies, not_true_eq_false, not_false_eq_true, and_false, false_and, Int.reduceEq, Int.reduceLT, Int.reduceLE, Int.reduceNeg, Int.reduceAdd, Int.reduceSub, Int.reduceMul, Int.reduceToNat, Nat.reduceEqDiff, cond_true, cond_false, zRc24 h, r25, r27, r28, qu, ih] <;> ((repeat' (first | intro _ | with_reducible apply And.intro)) <;> (first | omega | (exfalso; omega)))
theorem zG_sum_s (h : zR K x y S) (g : zGb x) (d : Nat) {l a b t : Int} (hl : 0 ≤ l ∧ l < 40) (ha : 0 ≤ a ∧ a ≤ 11) (hb : 0 ≤ b ∧ b ≤ 11) (ht : 0 ≤ t ∧ t ≤ 99) : zG_sum (d + 2) (zI l) (zI a) (zI b) (zI t) S = some (zI (zsum x l a b t (x 24 0).toNat), S) := by
  have b24 := g.1
  have q := zG_sum_6_s h g d hl ha hb ht (x 24 0).toNat 0 (by omega)
  rw [show 0 + (x 24 0).toNat = (x 24 0).toNat by omega] at q
  rw [eG_sum]
  exact q
theorem zM_bill_58_s (h : zR K x y S) (g : zGb y) (d : Nat) {l a b t : Int} (hl : 0 ≤ l ∧ l < 40) (ha : 0 ≤ a ∧ a ≤ 11) (hb : 0 ≤ b ∧ b ≤ 11) (ht : 0 ≤ t ∧ t ≤ 99) : ∀ (m n : Nat), (n : Int) + m = y 24 0 →
    zM_bill_58 (d + 1) (zI l) (zI a) (zI b) (zI t) (zI (zsum y l a b t n)) (zI n) S = some (zI (zsum y l a b t (n + m)), S)
  | 0, n, hn => by
    have b := g.1
    refine zwp_eq ?_
    rw [eM_bill_58]
    simp (contextual := true) (disch := omega) only [zWp, zNum, Int.cast_ofNat_Int, Prod.mk.injEq, and_true, true_and, implies_true, and_self, true_implies, false_implies, not_true_eq_false, not_false_eq_true, and_false, false_and, Int.reduceEq, Int.reduceLT, Int.reduceLE, Int.reduceNeg, Int.reduceAdd, Int.reduceSub, Int.reduceMul, Int.reduceToNat, Nat.reduceEqDiff, cond_true, cond_false, zRm24 h, Nat.add_zero] <;> ((repeat' (first | intro _ | with_reducible apply And.intro)) <;> (first | omega | (exfalso; omega)))
  | m + 1, n, hn => by
    have b24 := g.1
    have b25 := zRby h 25 n
    have b27 := g.2.2.1 n
    have b28 := g.2.2.2.1 n
    have ih := zM_bill_58_s h g d hl ha hb ht m (n + 1) (by omega)
    rw [show n + 1 + m = n + (m + 1) by omega, show ((n + 1 : Nat) : Int) = (n : Int) + 1 by omega] at ih
    have r25 := zRm25 h (k := n) (by omega) (by omega)
    have r27 := zRm27 h (k := n) (by omega) (by omega)
    have r28 := zRm28 h (k := n) (by omega) (by omega)
    have qu := zM_unitsBy_s h g d (c := n) (t := t) (by omega) ht
    refine zwp_eq ?_
    rw [eM_bill_58]
    rw [zsum] at ih
    by_cases hp : y 25 n = l ∧ a ≤ y 27 n ∧ y 27 n ≤ b ∧ y 28 n ≤ t
    · rw [if_pos hp] at ih
      simp (contextual := true) (disch := omega) only [zWp, zNum, Int.cast_ofNat_Int, Prod.mk.injEq, and_true, true_and, implies_true, and_self, true_implies, false_implies, not_true_eq_false, not_false_eq_true, and_false, false_and, Int.reduceEq, Int.reduceLT, Int.reduceLE, Int.reduceNeg, Int.reduceAdd, Int.reduceSub, Int.reduceMul, Int.reduceToNat, Nat.reduceEqDiff, cond_true, cond_false, zRm24 h, r25, r27, r28, zM_within_s S, qu, ih] <;> ((repeat' (first | intro _ | with_reducible apply And.intro)) <;> (first | omega | (exfalso; omega)))
    · rw [if_neg hp] at ih
      simp (contextual := true) (disch := omega) only [zWp, zNum, Int.cast_ofNat_Int, Prod.mk.injEq, and_true, true_and, implies_true, and_self, true_implies, false_implies, not_true_eq_false, not_false_eq_true, and_false, false_and, Int.reduceEq, Int.reduceLT, Int.reduceLE, Int.reduceNeg, Int.reduceAdd, Int.reduceSub, Int.reduceMul, Int.reduceToNat, Nat.reduceEqDiff, cond_true, cond_false, zRm24 h, r25, r27, r28, zM_within_s S, qu, ih] <;> ((repeat' (first | intro _ | with_reducible apply And.intro)) <;> (first | omega | (exfalso; omega)))
theorem zX_bill_s (h : zR K x y S) (gp : zGp x) (g : zGb x) (d : Nat) {l a b t : Int} (l1 : -2147483648 ≤ l) (l2 : l < 2147483648) (a1 : -2147483648 ≤ a) (a2 : a < 2147483648) (b1 : -2147483648 ≤ b) (b2 : b < 2147483648) (t1 : -2147483648 ≤ t) (t2 : t < 2147483648) :
    zwp (zX_bill (d + 3) (zI l) (zI a) (zI b) (zI t) S) (fun r => r.1 = zI (sBill x l a b t).1 ∧ zR K (sBill x l a b t).2 y r.2) := by
  have c1 := zG1 gp
  have c11 := zG11 gp
  rw [eX_bill, sBill]
  by_cases hc : zLn x l ∧ 0 ≤ a ∧ a ≤ b ∧ b ≤ 11 ∧ 0 ≤ t ∧ t ≤ x 1 0 / 86400
  · have q := zG_sum_s h g d (l := l) (a := a) (b := b) (t := t) (by omega) (by omega) (by omega) (by omega)
    rw [if_pos hc]
    simp (contextual := true) (disch := omega) only [zWp, zNum, Int.cast_ofNat_Int, Prod.mk.injEq, and_true, true_and, implies_true, and_self, true_implies, false_implies, not_true_eq_false, not_false_eq_true, and_false, false_and, Int.reduceEq, Int.reduceLT, Int.reduceLE, Int.reduceNeg, Int.reduceAdd, Int.reduceSub, Int.reduceMul, Int.reduceToNat, Nat.reduceEqDiff, cond_true, cond_false, eX_today, zRc1 h, eX_bill_34, zC_isLine_s h gp, q, h] <;> ((repeat' (first | intro _ | with_reducible apply And.intro)) <;> (first | omega | (exfalso; omega)))
  · rw [if_neg hc]
    simp (contextual := true) (disch := omega) only [zWp, zNum, Int.cast_ofNat_Int, Prod.mk.injEq, and_true, true_and, implies_true, and_self, true_implies, false_implies, not_true_eq_false, not_false_eq_true, and_false, false_and, Int.reduceEq, Int.reduceLT, Int.reduceLE, Int.reduceNeg, Int.reduceAdd, Int.reduceSub, Int.reduceMul, Int.reduceToNat, Nat.reduceEqDiff, cond_true, cond_false, eX_today, zRc1 h, eX_bill_34, zC_isLine_s h gp, h] <;> ((repeat' (first | intro _ | with_reducible apply And.intro)) <;> (first | omega | (exfalso; omega)))
theorem zM_bill_s (h : zR K x y S) (gp : zGp y) (g : zGb y) (d : Nat) {l a b t : Int} (l1 : -2147483648 ≤ l) (l2 : l < 2147483648) (a1 : -2147483648 ≤ a) (a2 : a < 2147483648) (b1 : -2147483648 ≤ b) (b2 : b < 2147483648) (t1 : -2147483648 ≤ t) (t2 : t < 2147483648) :
    zwp (zM_bill (d + 3) (zI l) (zI a) (zI b) (zI t) S) (fun r => r.1 = zI (sBill y l a b t).1 ∧ zR K x (sBill y l a b t).2 r.2) := by
  have c1 := zG1 gp
  have c11 := zG11 gp
  have b24 := g.1
  rw [eM_bill, sBill]
  have h0 := zR_s h (t := 11) (s := 0) rfl 0 (0 : Int32)
  generalize hS : ((zu S.1 11 0 0 (0 : Int32)), S.2) = S' at h0 ⊢
  have hS1 : zu S.1 11 0 0 (0 : Int32) = S'.1 := by rw [← hS]
  have hS2 : S.2 = S'.2 := by rw [← hS]
  try simp only [hS1, hS2]
  by_cases hc : zLn y l ∧ 0 ≤ a ∧ a ≤ b ∧ b ≤ 11 ∧ 0 ≤ t ∧ t ≤ y 1 0 / 86400
  · have q := zM_bill_58_s h0 g (d + 1) (l := l) (a := a) (b := b) (t := t) (by omega) (by omega) (by omega) (by omega) (y 24 0).toNat 0 (by omega)
    rw [show 0 + (y 24 0).toNat = (y 24 0).toNat by omega] at q
    have q : zM_bill_58 (d + 2) (zI l) (zI a) (zI b) (zI t) (zI 0) (zI 0) S' = _ := q
    rw [if_pos hc]
    simp (contextual := true) (disch := omega) only [zWp, zNum, Int.cast_ofNat_Int, Prod.mk.injEq, and_true, true_and, implies_true, and_self, true_implies, false_implies, not_true_eq_false, not_false_eq_true, and_false, false_and, Int.reduceEq, Int.reduceLT, Int.reduceLE, Int.reduceNeg, Int.reduceAdd, Int.reduceSub, Int.reduceMul, Int.reduceToNat, Nat.reduceEqDiff, cond_true, cond_false, zM_isLine_s h0 gp, zM_within_s S', zRm1 h0, q, h0] <;> ((repeat' (first | intro _ | with_reducible apply And.intro)) <;> (first | omega | (exfalso; omega)))
  · rw [if_neg hc]
    simp (contextual := true) (disch := omega) only [zWp, zNum, Int.cast_ofNat_Int, Prod.mk.injEq, and_true, true_and, implies_true, and_self, true_implies, false_implies, not_true_eq_false, not_false_eq_true, and_false, false_and, Int.reduceEq, Int.reduceLT, Int.reduceLE, Int.reduceNeg, Int.reduceAdd, Int.reduceSub, Int.reduceMul, Int.reduceToNat, Nat.reduceEqDiff, cond_true, cond_false, zM_isLine_s h0 gp, zM_within_s S', zRm1 h0, h0] <;> ((repeat' (first | intro _ | with_reducible apply And.intro)) <;> (first | omega | (exfalso; omega)))
theorem zX_book_s (h : zR K x y S) (g : zGb x) (d : Nat) {i w : Int} (h1 : -2147483648 ≤ i) (h2 : i < 2147483648) (h3 : -2147483648 ≤ w) (h4 : w < 2147483648) : zwp (zX_book (d + 3) (zI i) (zI w) S) (fun r => r.1 = zI (sBook x i w).1 ∧ zR K (sBook x i w).2 y r.2) := by
  have b24 := g.1
  rw [eX_book, sBook]
  by_cases hc : 0 ≤ i ∧ i < x 24 0
  · rw [if_pos hc]
    rcases (show w = 0 ∨ w = 1 ∨ w = 2 ∨ w = 3 ∨ (w ≠ 0 ∧ w ≠ 1 ∧ w ≠ 2 ∧ w ≠ 3) by omega) with e | e | e | e | e
    · subst e
      rw [if_pos rfl]
      simp (contextual := true) (disch := omega) only [zWp, zNum, Int.cast_ofNat_Int, Prod.mk.injEq, and_true, true_and, implies_true, and_self, true_implies, false_implies, not_true_eq_false, not_false_eq_true, and_false, false_and, Int.reduceEq, Int.reduceLT, Int.reduceLE, Int.reduceNeg, Int.reduceAdd, Int.reduceSub, Int.reduceMul, Int.reduceToNat, Nat.reduceEqDiff, cond_true, cond_false, eG_show, zRc24 h, zRc25 h, h] <;> ((repeat' (first | intro _ | with_reducible apply And.intro)) <;> (first | omega | (exfalso; omega)))
    · subst e
      rw [if_neg (by decide), if_pos rfl]
      simp (contextual := true) (disch := omega) only [zWp, zNum, Int.cast_ofNat_Int, Prod.mk.injEq, and_true, true_and, implies_true, and_self, true_implies, false_implies, not_true_eq_false, not_false_eq_true, and_false, false_and, Int.reduceEq, Int.reduceLT, Int.reduceLE, Int.reduceNeg, Int.reduceAdd, Int.reduceSub, Int.reduceMul, Int.reduceToNat, Nat.reduceEqDiff, cond_true, cond_false, eG_show, zRc24 h, zG_unitsKnown_s h g, h] <;> ((repeat' (first | intro _ | with_reducible apply And.intro)) <;> (first | omega | (exfalso; omega)))
    · subst e
      rw [if_neg (by decide), if_neg (by decide), if_pos rfl]
      simp (contextual := true) (disch := omega) only [zWp, zNum, Int.cast_ofNat_Int, Prod.mk.injEq, and_true, true_and, implies_true, and_self, true_implies, false_implies, not_true_eq_false, not_false_eq_true, and_false, false_and, Int.reduceEq, Int.reduceLT, Int.reduceLE, Int.reduceNeg, Int.reduceAdd, Int.reduceSub, Int.reduceMul, Int.reduceToNat, Nat.reduceEqDiff, cond_true, cond_false, eG_show, zRc24 h, zRc27 h, h] <;> ((repeat' (first | intro _ | with_reducible apply And.intro)) <;> (first | omega | (exfalso; omega)))
    · subst e
      rw [if_neg (by decide), if_neg (by decide), if_neg (by decide), if_pos rfl]
      simp (contextual := true) (disch := omega) only [zWp, zNum, Int.cast_ofNat_Int, Prod.mk.injEq, and_true, true_and, implies_true, and_self, true_implies, false_implies, not_true_eq_false, not_false_eq_true, and_false, false_and, Int.reduceEq, Int.reduceLT, Int.reduceLE, Int.reduceNeg, Int.reduceAdd, Int.reduceSub, Int.reduceMul, Int.reduceToNat, Nat.reduceEqDiff, cond_true, cond_false, eG_show, zRc24 h, zRc28 h, h] <;> ((repeat' (first | intro _ | with_reducible apply And.intro)) <;> (first | omega | (exfalso; omega)))
    · rw [if_neg e.1, if_neg e.2.1, if_neg e.2.2.1, if_neg e.2.2.2]
      simp (contextual := true) (disch := omega) only [zWp, zNum, Int.cast_ofNat_Int, Prod.mk.injEq, and_true, true_and, implies_true, and_self, true_implies, false_implies, not_true_eq_false, not_false_eq_true, and_false, false_and, Int.reduceEq, Int.reduceLT, Int.reduceLE, Int.reduceNeg, Int.reduceAdd, Int.reduceSub, Int.reduceMul, Int.reduceToNat, Nat.reduceEqDiff, cond_true, cond_false, eG_show, zRc24 h, h] <;> ((repeat' (first | intro _ | with_reducible apply And.intro)) <;> (first | omega | (exfalso; omega)))
  · rw [if_neg hc]
    simp (contextual := true) (disch := omega) only [zWp, zNum, Int.cast_ofNat_Int, Prod.mk.injEq, and_true, true_and, implies_true, and_self, true_implies, false_implies, not_true_eq_false, not_false_eq_true, and_false, false_and, Int.reduceEq, Int.reduceLT, Int.reduceLE, Int.reduceNeg, Int.reduceAdd, Int.reduceSub, Int.reduceMul, Int.reduceToNat, Nat.reduceEqDiff, cond_true, cond_false, eG_show, zRc24 h, h] <;> ((repeat' (first | intro _ | with_reducible apply And.intro)) <;> (first | omega | (exfalso; omega)))
theorem zM_book_s (h : zR K x y S) (g : zGb y) (d : Nat) {i w : Int} (h1 : -2147483648 ≤ i) (h2 : i < 2147483648) (h3 : -2147483648 ≤ w) (h4 : w < 2147483648) : zwp (zM_book (d + 3) (zI i) (zI w) S) (fun r => r.1 = zI (sBook y i w).1 ∧ zR K x (sBook y i w).2 r.2) := by
  have b24 := g.1
  rw [eM_book, sBook]
  have h0 := zR_s h (t := 11) (s := 0) rfl 0 (0 : Int32)
  generalize hS : ((zu S.1 11 0 0 (0 : Int32)), S.2) = S' at h0 ⊢
  have hS1 : zu S.1 11 0 0 (0 : Int32) = S'.1 := by rw [← hS]
  have hS2 : S.2 = S'.2 := by rw [← hS]
  try simp only [hS1, hS2]
  by_cases hc : 0 ≤ i ∧ i < y 24 0
  · rw [if_pos hc]
    rcases (show w = 0 ∨ w = 1 ∨ w = 2 ∨ w = 3 ∨ (w ≠ 0 ∧ w ≠ 1 ∧ w ≠ 2 ∧ w ≠ 3) by omega) with e | e | e | e | e
    · subst e
      rw [if_pos rfl]
      simp (contextual := true) (disch := omega) only [zWp, zNum, Int.cast_ofNat_Int, Prod.mk.injEq, and_true, true_and, implies_true, and_self, true_implies, false_implies, not_true_eq_false, not_false_eq_true, and_false, false_and, Int.reduceEq, Int.reduceLT, Int.reduceLE, Int.reduceNeg, Int.reduceAdd, Int.reduceSub, Int.reduceMul, Int.reduceToNat, Nat.reduceEqDiff, cond_true, cond_false, zM_within_s S', zRm24 h0, zRm25 h0, h0] <;> ((repeat' (first | intro _ | with_reducible apply And.intro)) <;> (first | omega | (exfalso; omega)))
    · subst e
      rw [if_neg (by decide), if_pos rfl]
      simp (contextual := true) (disch := omega) only [zWp, zNum, Int.cast_ofNat_Int, Prod.mk.injEq, and_true, true_and, implies_true, and_self, true_implies, false_implies, not_true_eq_false, not_false_eq_true, and_false, false_and, Int.reduceEq, Int.reduceLT, Int.reduceLE, Int.reduceNeg, Int.reduceAdd, Int.reduceSub, Int.reduceMul, Int.reduceToNat, Nat.reduceEqDiff, cond_true, cond_false, zM_within_s S', zRm24 h0, zM_unitsBy_s h0 g, zub_99 g, h0] <;> ((repeat' (first | intro _ | with_reducible apply And.intro)) <;> (first | omega | (exfalso; omega)))
    · subst e
      rw [if_neg (by decide), if_neg (by decide), if_pos rfl]
      simp (contextual := true) (disch := omega) only [zWp, zNum, Int.cast_ofNat_Int, Prod.mk.injEq, and_true, true_and, implies_true, and_self, true_implies, false_implies, not_true_eq_false, not_false_eq_true, and_false, false_and, Int.reduceEq, Int.reduceLT, Int.reduceLE, Int.reduceNeg, Int.reduceAdd, Int.reduceSub, Int.reduceMul, Int.reduceToNat, Nat.reduceEqDiff, cond_true, cond_false, zM_within_s S', zRm24 h0, zRm27 h0, h0] <;> ((repeat' (first | intro _ | with_reducible apply And.intro)) <;> (first | omega | (exfalso; omega)))
    · subst e
      rw [if_neg (by decide), if_neg (by decide), if_neg (by decide), if_pos rfl]
      simp (contextual := true) (disch := omega) only [zWp, zNum, Int.cast_ofNat_Int, Prod.mk.injEq, and_true, true_and, implies_true, and_self, true_implies, false_implies, not_true_eq_false, not_false_eq_true, and_false, false_and, Int.reduceEq, Int.reduceLT, Int.reduceLE, Int.reduceNeg, Int.reduceAdd, Int.reduceSub, Int.reduceMul, Int.reduceToNat, Nat.reduceEqDiff, cond_true, cond_false, zM_within_s S', zRm24 h0, zRm28 h0, h0] <;> ((repeat' (first | intro _ | with_reducible apply And.intro)) <;> (first | omega | (exfalso; omega)))
    · rw [if_neg e.1, if_neg e.2.1, if_neg e.2.2.1, if_neg e.2.2.2]
      simp (contextual := true) (disch := omega) only [zWp, zNum, Int.cast_ofNat_Int, Prod.mk.injEq, and_true, true_and, implies_true, and_self, true_implies, false_implies, not_true_eq_false, not_false_eq_true, and_false, false_and, Int.reduceEq, Int.reduceLT, Int.reduceLE, Int.reduceNeg, Int.reduceAdd, Int.reduceSub, Int.reduceMul, Int.reduceToNat, Nat.reduceEqDiff, cond_true, cond_false, zM_within_s S', zRm24 h0, h0] <;> ((repeat' (first | intro _ | with_reducible apply And.intro)) <;> (first | omega | (exfalso; omega)))
  · rw [if_neg hc]
    simp (contextual := true) (disch := omega) only [zWp, zNum, Int.cast_ofNat_Int, Prod.mk.injEq, and_true, true_and, implies_true, and_self, true_implies, false_implies, not_true_eq_false, not_false_eq_true, and_false, false_and, Int.reduceEq, Int.reduceLT, Int.reduceLE, Int.reduceNeg, Int.reduceAdd, Int.reduceSub, Int.reduceMul, Int.reduceToNat, Nat.reduceEqDiff, cond_true, cond_false, zM_within_s S', zRm24 h0, h0] <;> ((repeat' (first | intro _ | with_reducible apply And.intro)) <;> (first | omega | (exfalso; omega)))
theorem zX_word_s (h : zR K x y S) (gp : zGp x) (g : zGb x) (d : Nat) {c u : Int} (h1 : -2147483648 ≤ c) (h2 : c < 2147483648) (h3 : -2147483648 ≤ u) (h4 : u < 2147483648) : zwp (zX_word (d + 2) (zI c) (zI u) S) (fun r => r.1 = zI (sWord x c u).1 ∧ zR K (sWord x c u).2 y r.2) := by
  have c1 := zG1 gp
  have b24 := g.1
  have b29 := g.2.1
  rw [eX_word, sWord]
  by_cases hc : 0 ≤ c ∧ c < x 24 0 ∧ 0 ≤ u ∧ u ≤ 9999 ∧ x 29 0 < 200
  · have w := zWc30 h (k := x 29 0) (v := c) (by omega) (by omega) (by omega) (by omega)
    have w := zWc31 w (k := x 29 0) (v := u) (by omega) (by omega) (by omega) (by omega)
    have w := zWc32 w (k := x 29 0) (v := x 1 0 / 86400) (by omega) (by omega) (by omega) (by omega)
    have w := zWc29 w (v := x 29 0 + 1) (by omega) (by omega)
    rw [if_pos hc]
    simp (contextual := true) (disch := omega) only [zWp, zNum, Int.cast_ofNat_Int, Prod.mk.injEq, and_true, true_and, implies_true, and_self, true_implies, false_implies, not_true_eq_false, not_false_eq_true, and_false, false_and, Int.reduceEq, Int.reduceLT, Int.reduceLE, Int.reduceNeg, Int.reduceAdd, Int.reduceSub, Int.reduceMul, Int.reduceToNat, Nat.reduceEqDiff, cond_true, cond_false, eX_today, zRc1 h, eG_tell, zRc24 h, zRc29 h, zu_tag, zgb_1, zgb_0, w] <;> ((repeat' (first | intro _ | with_reducible apply And.intro)) <;> (first | omega | (exfalso; omega)))
  · rw [if_neg hc]
    simp (contextual := true) (disch := omega) only [zWp, zNum, Int.cast_ofNat_Int, Prod.mk.injEq, and_true, true_and, implies_true, and_self, true_implies, false_implies, not_true_eq_false, not_false_eq_true, and_false, false_and, Int.reduceEq, Int.reduceLT, Int.reduceLE, Int.reduceNeg, Int.reduceAdd, Int.reduceSub, Int.reduceMul, Int.reduceToNat, Nat.reduceEqDiff, cond_true, cond_false, eX_today, zRc1 h, eG_tell, zRc24 h, zRc29 h, zu_tag, zgb_1, zgb_0, h] <;> ((repeat' (first | intro _ | with_reducible apply And.intro)) <;> (first | omega | (exfalso; omega)))
theorem zM_word_s (h : zR K x y S) (gp : zGp y) (g : zGb y) (d : Nat) {c u : Int} (h1 : -2147483648 ≤ c) (h2 : c < 2147483648) (h3 : -2147483648 ≤ u) (h4 : u < 2147483648) : zwp (zM_word (d + 2) (zI c) (zI u) S) (fun r => r.1 = zI (sWord y c u).1 ∧ zR K x (sWord y c u).2 r.2) := by
  have c1 := zG1 gp
  have b24 := g.1
  have b29 := g.2.1
  rw [eM_word, sWord]
  have h0 := zR_s h (t := 11) (s := 0) rfl 0 (0 : Int32)
  generalize hS : ((zu S.1 11 0 0 (0 : Int32)), S.2) = S' at h0 ⊢
  have hS1 : zu S.1 11 0 0 (0 : Int32) = S'.1 := by rw [← hS]
  have hS2 : S.2 = S'.2 := by rw [← hS]
  try simp only [hS1, hS2]
  by_cases hc : 0 ≤ c ∧ c < y 24 0 ∧ 0 ≤ u ∧ u ≤ 9999 ∧ y 29 0 < 200
  · have w := zWm30 h0 (k := y 29 0) (v := c) (by omega) (by omega) (by omega) (by omega)
    have w := zWm31 w (k := y 29 0) (v := u) (by omega) (by omega) (by omega) (by omega)
    have w := zWm32 w (k := y 29 0) (v := y 1 0 / 86400) (by omega) (by omega) (by omega) (by omega)
    have w := zWm29 w (v := y 29 0 + 1) (by omega) (by omega)
    rw [if_pos hc]
    simp (contextual := true) (disch := omega) only [zWp, zNum, Int.cast_ofNat_Int, Prod.mk.injEq, and_true, true_and, implies_true, and_self, true_implies, false_implies, not_true_eq_false, not_false_eq_true, and_false, false_and, Int.reduceEq, Int.reduceLT, Int.reduceLE, Int.reduceNeg, Int.reduceAdd, Int.reduceSub, Int.reduceMul, Int.reduceToNat, Nat.reduceEqDiff, cond_true, cond_false, zM_within_s S', zRm1 h0, zRm24 h0, zRm29 h0, zu_tag, w] <;> ((repeat' (first | intro _ | with_reducible apply And.intro)) <;> (first | omega | (exfalso; omega)))
  · rw [if_neg hc]
    simp (contextual := true) (disch := omega) only [zWp, zNum, Int.cast_ofNat_Int, Prod.mk.injEq, and_true, true_and, implies_true, and_self, true_implies, false_implies, not_true_eq_false, not_false_eq_true, and_false, false_and, Int.reduceEq, Int.reduceLT, Int.reduceLE, Int.reduceNeg, Int.reduceAdd, Int.reduceSub, Int.reduceMul, Int.reduceToNat, Nat.reduceEqDiff, cond_true, cond_false, zM_within_s S', zRm1 h0, zRm24 h0, zRm29 h0, zu_tag, h0] <;> ((repeat' (first | intro _ | with_reducible apply And.intro)) <;> (first | omega | (exfalso; omega)))
end LG
