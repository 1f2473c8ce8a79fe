/-! LIFT: the spec, the reference, the class -/
def sHold (x : ZW) (l e : Int) : ZW := xu (xu (xu x 8 e l) 23 (120 * l + x 22 l) e) 22 l (x 22 l + 1)
def sLift0 (x : ZW) (l : Int) : ZW := xu (xu (xu (xu (xu (xu x 15 l 1) 22 l 0) 18 l 0) 20 l 0) 17 l (-1)) 21 l (-1)
def sLst (x : ZW) (s : Int) : Int := if x 10 s = 0 then 0 else 2
def sLiftTo (x : ZW) (l s : Int) : ZW := xu (sHold (sLift0 x l) l s) 16 l (sLst x s)
def sLift (x : ZW) (l : Int) : Int × ZW := if zLn x l ∧ x 15 l = 0 then (if sFF x (x 12 l) < 0 then (7, x) else (sLst x (sFF x (x 12 l)), sLiftTo x l (sFF x (x 12 l)))) else (-1, x)
theorem sFF_b {x : ZW} (g : zGp x) {r : Int} (hr : 0 ≤ r ∧ r < 12) : sFF x r = -1 ∨ (8 * r ≤ sFF x r ∧ sFF x r < 8 * r + x 4 r ∧ zFr x (sFF x r)) := by
  have b := zG4 g r
  rcases zfst_b (fun e => decide (zFr x e)) (x 4 r).toNat (8 * r) with h | h
  · exact Or.inl h
  · refine Or.inr ⟨h.1, ?_, ?_⟩
    · have := h.2.1
      unfold sFF
      omega
    · have := h.2.2
      exact of_decide_eq_true this
section LI
variable {K : ZS} {x y : ZW} {S : ZS}
theorem sLift0_e (x : ZW) (l : Int) : (sLift0 x l) 8 = x 8 ∧ (sLift0 x l) 10 = x 10 ∧ (sLift0 x l) 22 l = 0 := by
  unfold sLift0
  refine ⟨by funext k; simp [xu], by funext k; simp [xu], by simp [xu]⟩
theorem zM_hold_s (h : zR K x y S) (d : Nat) {l e : Int} (hl : 0 ≤ l ∧ l < 40) (he : 0 ≤ e ∧ e < 116) (hn : 0 ≤ y 22 l ∧ y 22 l < 119) : zwp (zM_hold (d + 1) (zI l) (zI e) S) (fun r => zR K x (sHold y l e) r) := by
  have w1 := zWm8 h (k := e) (v := l) (by omega) (by omega) (by omega) (by omega)
  have w2 := zWm23 w1 (k := 120 * l + y 22 l) (v := e) (by omega) (by omega) (by omega) (by omega)
  have w3 := zWm22 w2 (k := l) (v := y 22 l + 1) (by omega) (by omega) (by omega) (by omega)
  rw [eM_hold, sHold]
  simp (contextual := true) (disch := omega) only [zWp, zNum, Int.cast_ofNat_Int, Prod.mk.injEq, and_true, true_and, implies_true, and_self, true_implies, false_implies, not_true_eq_false, not_false_eq_true, and_false, false_and, Int.reduceEq, Int.reduceLT, Int.reduceLE, Int.reduceNeg, Int.reduceAdd, Int.reduceSub, Int.reduceMul, Int.reduceToNat, Nat.reduceEqDiff, cond_true, cond_false, zRm22 h, zu_tag, zu_same, w3] <;> ((repeat' (first | intro _ | with_reducible apply And.intro)) <;> (first | omega | (exfalso; omega)))
theorem zM_lift_s (h : zR K x y S) (g : zGp y) (d : Nat) {l : Int} (h1 : -2147483648 ≤ l) (h2 : l < 2147483648) : zwp (zM_lift (d + 3) (zI l) S) (fun r => r.1 = zI (sLift y l).1 ∧ zR K x (sLift y l).2 r.2) := by
  have b11 := zG11 g
  have b15 := zRby h 15 l
  rw [eM_lift, sLift]
  have h0 := zR_s h (t := 11) (s := 0) rfl 0 (0 : Int32)
  generalize hS : ((zu S.1 11 0 0 (0 : Int32)), S.2) = S' at h0 ⊢
  have hS1 : zu S.1 11 0 0 (0 : Int32) = S'.1 := by rw [← hS]
  have hS2 : S.2 = S'.2 := by rw [← hS]
  try simp only [hS1, hS2]
  by_cases hc : zLn y l ∧ y 15 l = 0
  · rw [if_pos hc]
    have b12 := zG12 g l
    have bf := sFF_b g b12
    have b4 := zG4 g (y 12 l)
    by_cases hf : sFF y (y 12 l) < 0
    · rw [if_pos hf]
      simp (contextual := true) (disch := omega) only [zWp, zNum, Int.cast_ofNat_Int, Prod.mk.injEq, and_true, true_and, implies_true, and_self, true_implies, false_implies, not_true_eq_false, not_false_eq_true, and_false, false_and, Int.reduceEq, Int.reduceLT, Int.reduceLE, Int.reduceNeg, Int.reduceAdd, Int.reduceSub, Int.reduceMul, Int.reduceToNat, Nat.reduceEqDiff, cond_true, cond_false, zM_isLine_s h0 g, zRm15 h0, zRm12 h0, zM_firstFree_s h0 g, h0] <;> ((repeat' (first | intro _ | with_reducible apply And.intro)) <;> (first | omega | (exfalso; omega)))
    · rw [if_neg hf]
      have b10 := zG10 g (sFF y (y 12 l))
      have w1 := zWm15 h0 (k := l) (v := 1) (by omega) (by omega) (by omega) (by omega)
      have w2 := zWm22 w1 (k := l) (v := 0) (by omega) (by omega) (by omega) (by omega)
      have w3 := zWm18 w2 (k := l) (v := 0) (by omega) (by omega) (by omega) (by omega)
      have w4 := zWm20 w3 (k := l) (v := 0) (by omega) (by omega) (by omega) (by omega)
      have w5 := zWm17 w4 (k := l) (v := -1) (by omega) (by omega) (by omega) (by omega)
      have w6 := zWm21 w5 (k := l) (v := -1) (by omega) (by omega) (by omega) (by omega)
      have e := sLift0_e y l
      have hh := zM_hold_s w6 (d + 1) (l := l) (e := sFF y (y 12 l)) (by omega) (by omega) (by rw [show (xu (xu (xu (xu (xu (xu y 15 l 1) 22 l 0) 18 l 0) 20 l 0) 17 l (-1)) 21 l (-1)) 22 l = 0 from e.2.2]; omega)
      obtain ⟨S2, e2, r2⟩ := hh
      have r2 : zR K x (sHold (sLift0 y l) l (sFF y (y 12 l))) S2 := r2
      have e10 : (sHold (sLift0 y l) l (sFF y (y 12 l))) 10 (sFF y (y 12 l)) = y 10 (sFF y (y 12 l)) := by
        unfold sHold
        rw [xu_g _ (by decide), xu_g _ (by decide), xu_g _ (by decide), e.2.1]
      have c10 := zRm10 r2 (k := sFF y (y 12 l)) (by omega) (by omega)
      rw [e10] at c10
      have w7 := fun v => fun v1 v2 => zWm16 r2 (k := l) (v := v) (by omega) (by omega) v1 v2
      unfold sLiftTo sLst
      by_cases h10 : y 10 (sFF y (y 12 l)) = 0
      · have w8 := w7 0 (by omega) (by omega)
        rw [if_pos h10]
        simp (contextual := true) (disch := omega) only [zWp, zNum, Int.cast_ofNat_Int, Prod.mk.injEq, and_true, true_and, implies_true, and_self, true_implies, false_implies, not_true_eq_false, not_false_eq_true, and_false, false_and, Int.reduceEq, Int.reduceLT, Int.reduceLE, Int.reduceNeg, Int.reduceAdd, Int.reduceSub, Int.reduceMul, Int.reduceToNat, Nat.reduceEqDiff, cond_true, cond_false, zM_isLine_s h0 g, zRm15 h0, zRm12 h0, zM_firstFree_s h0 g, e2, c10, zu_same, w8] <;> ((repeat' (first | intro _ | with_reducible apply And.intro)) <;> (first | omega | (exfalso; omega)))
      · have w8 := w7 2 (by omega) (by omega)
        rw [if_neg h10]
        simp (contextual := true) (disch := omega) only [zWp, zNum, Int.cast_ofNat_Int, Prod.mk.injEq, and_true, true_and, implies_true, and_self, true_implies, false_implies, not_true_eq_false, not_false_eq_true, and_false, false_and, Int.reduceEq, Int.reduceLT, Int.reduceLE, Int.reduceNeg, Int.reduceAdd, Int.reduceSub, Int.reduceMul, Int.reduceToNat, Nat.reduceEqDiff, cond_true, cond_false, zM_isLine_s h0 g, zRm15 h0, zRm12 h0, zM_firstFree_s h0 g, e2, c10, zu_same, w8] <;> ((repeat' (first | intro _ | with_reducible apply And.intro)) <;> (first | omega | (exfalso; omega)))
  · rw [if_neg hc]
    simp (contextual := true) (disch := omega) only [zWp, zNum, Int.cast_ofNat_Int, Prod.mk.injEq, and_true, true_and, implies_true, and_self, true_implies, false_implies, not_true_eq_false, not_false_eq_true, and_false, false_and, Int.reduceEq, Int.reduceLT, Int.reduceLE, Int.reduceNeg, Int.reduceAdd, Int.reduceSub, Int.reduceMul, Int.reduceToNat, Nat.reduceEqDiff, cond_true, cond_false, zM_isLine_s h0 g, zRm15 h0, h0] <;> ((repeat' (first | intro _ | with_reducible apply And.intro)) <;> (first | omega | (exfalso; omega)))
end LI
