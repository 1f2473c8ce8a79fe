/-! DIAL of the reference -/
section DM
variable {K : ZS} {x y : ZW} {S : ZS}
theorem zM_head_s (h : zR K x y S) (d : Nat) {l : Int} (hl : 0 ≤ l ∧ l < 40) (hn : 1 ≤ y 22 l ∧ y 22 l ≤ 120) : zM_head (d + 1) (zI l) S = some (zI (sHead y l), S) := by
  refine zwp_eq ?_
  rw [eM_head, sHead]
  simp (contextual := true) (disch := omega) only [zWp, zNum, Int.cast_ofNat_Int, Prod.mk.injEq, and_true, true_and, implies_true, and_self, true_implies, false_implies, not_true_eq_false, not_false_eq_true, and_false, false_and, Int.reduceEq, Int.reduceLT, Int.reduceLE, Int.reduceNeg, Int.reduceAdd, Int.reduceSub, Int.reduceMul, Int.reduceToNat, Nat.reduceEqDiff, cond_true, cond_false, zRm22 h, zRm23 h] <;> ((repeat' (first | intro _ | with_reducible apply And.intro)) <;> (first | omega | (exfalso; omega)))
theorem zM_dial_122_s (h : zR K x y S) (d : Nat) {l e : Int} (hl : 0 ≤ l ∧ l < 40) (he : e = -1 ∨ e = -2 ∨ (0 ≤ e ∧ e < 116)) :
    zwp (zM_dial_122 d (zI l) (zI e) S) (fun r => r.1 = zI (sSst y e) ∧ zR K x (xu y 16 l (sSst y e)) r.2) := by
  have b10 := zRby h 10 e
  have w1 := zWm16 h (k := l) (v := 1) (by omega) (by omega) (by omega) (by omega)
  have w2 := zWm16 h (k := l) (v := 2) (by omega) (by omega) (by omega) (by omega)
  have w3 := zWm16 h (k := l) (v := 3) (by omega) (by omega) (by omega) (by omega)
  have w4 := zWm16 h (k := l) (v := 4) (by omega) (by omega) (by omega) (by omega)
  rw [eM_dial_122]
  by_cases h1 : e = -1
  · rw [show sSst y e = 3 from if_pos h1]
    simp (contextual := true) (disch := omega) only [zWp, zNum, Int.cast_ofNat_Int, Prod.mk.injEq, and_true, true_and, implies_true, and_self, true_implies, false_implies, not_true_eq_false, not_false_eq_true, and_false, false_and, Int.reduceEq, Int.reduceLT, Int.reduceLE, Int.reduceNeg, Int.reduceAdd, Int.reduceSub, Int.reduceMul, Int.reduceToNat, Nat.reduceEqDiff, cond_true, cond_false, zu_same, w3] <;> ((repeat' (first | intro _ | with_reducible apply And.intro)) <;> (first | omega | (exfalso; omega)))
  · by_cases h2 : e = -2
    · rw [show sSst y e = 4 by unfold sSst; rw [if_neg h1, if_pos h2]]
      simp (contextual := true) (disch := omega) only [zWp, zNum, Int.cast_ofNat_Int, Prod.mk.injEq, and_true, true_and, implies_true, and_self, true_implies, false_implies, not_true_eq_false, not_false_eq_true, and_false, false_and, Int.reduceEq, Int.reduceLT, Int.reduceLE, Int.reduceNeg, Int.reduceAdd, Int.reduceSub, Int.reduceMul, Int.reduceToNat, Nat.reduceEqDiff, cond_true, cond_false, zu_same, w4] <;> ((repeat' (first | intro _ | with_reducible apply And.intro)) <;> (first | omega | (exfalso; omega)))
    · by_cases h3 : y 10 e = 0
      · rw [show sSst y e = 1 by unfold sSst; rw [if_neg h1, if_neg h2, if_pos h3]]
        simp (contextual := true) (disch := omega) only [zWp, zNum, Int.cast_ofNat_Int, Prod.mk.injEq, and_true, true_and, implies_true, and_self, true_implies, false_implies, not_true_eq_false, not_false_eq_true, and_false, false_and, Int.reduceEq, Int.reduceLT, Int.reduceLE, Int.reduceNeg, Int.reduceAdd, Int.reduceSub, Int.reduceMul, Int.reduceToNat, Nat.reduceEqDiff, cond_true, cond_false, zRm10 h, zu_same, w1] <;> ((repeat' (first | intro _ | with_reducible apply And.intro)) <;> (first | omega | (exfalso; omega)))
      · rw [show sSst y e = 2 by unfold sSst; rw [if_neg h1, if_neg h2, if_neg h3]]
        simp (contextual := true) (disch := omega) only [zWp, zNum, Int.cast_ofNat_Int, Prod.mk.injEq, and_true, true_and, implies_true, and_self, true_implies, false_implies, not_true_eq_false, not_false_eq_true, and_false, false_and, Int.reduceEq, Int.reduceLT, Int.reduceLE, Int.reduceNeg, Int.reduceAdd, Int.reduceSub, Int.reduceMul, Int.reduceToNat, Nat.reduceEqDiff, cond_true, cond_false, zRm10 h, zu_same, w2] <;> ((repeat' (first | intro _ | with_reducible apply And.intro)) <;> (first | omega | (exfalso; omega)))
theorem zM_dial_297_s (h : zR K x y S) (d : Nat) {l o s : Int} (hl : 0 ≤ l ∧ l < 40) (ho : s = 5 → 0 ≤ o ∧ o < 40) (hs : 0 ≤ s ∧ s ≤ 6) :
    zwp (zM_dial_297 d (zI l) (zI o) (zI s) (zI l) S) (fun r => r.1 = zI s ∧ zR K x (if s = 5 then xu (xu (xu y 16 l 5) 17 l o) 15 o 2 else xu y 16 l s) r.2) := by
  have w1 := zWm16 h (k := l) (v := s) (by omega) (by omega) (by omega) (by omega)
  rw [eM_dial_297]
  by_cases h5 : s = 5
  · subst h5
    have ho := ho rfl
    have w2 := zWm17 w1 (k := l) (v := o) (by omega) (by omega) (by omega) (by omega)
    have w3 := zWm15 w2 (k := o) (v := 2) (by omega) (by omega) (by omega) (by omega)
    rw [if_pos rfl]
    simp (contextual := true) (disch := omega) only [zWp, zNum, Int.cast_ofNat_Int, Prod.mk.injEq, and_true, true_and, implies_true, and_self, true_implies, false_implies, not_true_eq_false, not_false_eq_true, and_false, false_and, Int.reduceEq, Int.reduceLT, Int.reduceLE, Int.reduceNeg, Int.reduceAdd, Int.reduceSub, Int.reduceMul, Int.reduceToNat, Nat.reduceEqDiff, cond_true, cond_false, zu_same, w3] <;> ((repeat' (first | intro _ | with_reducible apply And.intro)) <;> (first | omega | (exfalso; omega)))
  · rw [if_neg h5]
    simp (contextual := true) (disch := omega) only [zWp, zNum, Int.cast_ofNat_Int, Prod.mk.injEq, and_true, true_and, implies_true, and_self, true_implies, false_implies, not_true_eq_false, not_false_eq_true, and_false, false_and, Int.reduceEq, Int.reduceLT, Int.reduceLE, Int.reduceNeg, Int.reduceAdd, Int.reduceSub, Int.reduceMul, Int.reduceToNat, Nat.reduceEqDiff, cond_true, cond_false, zu_same, w1] <;> ((repeat' (first | intro _ | with_reducible apply And.intro)) <;> (first | omega | (exfalso; omega)))
theorem zM_dial_198_s (h : zR K x y S) (g : zGp y) (d : Nat) {l dg a : Int} (hl : 0 ≤ l ∧ l < 40) (hd : 0 ≤ dg ∧ dg ≤ 9) (ha : 0 ≤ a ∧ a < 96 ∨ 100 ≤ a ∧ a < 116) (h20 : 0 ≤ y 20 l ∧ y 20 l ≤ 3) (h50 : 0 ≤ y 50 l ∧ y 50 l ≤ 9) :
    zwp (zM_dial_198 (d + 1) (zI l) (zI dg) (zI a) S) (fun r => r.1 = zI ((if 100 ≤ a then sJun (xu y 16 l 1) l else if y 20 l < 2 then xu y 16 l 1 else sFin (xu y 16 l 1) l (zlineOf y (a / 8) (10 * y 50 l + dg))) 16 l) ∧
      zR K x (if 100 ≤ a then sJun (xu y 16 l 1) l else if y 20 l < 2 then xu y 16 l 1 else sFin (xu y 16 l 1) l (zlineOf y (a / 8) (10 * y 50 l + dg))) r.2) := by
  have w1 := zWm16 h (k := l) (v := 1) (by omega) (by omega) (by omega) (by omega)
  have g1 : zGp (xu y 16 l 1) := zGp_u g (by decide) _ _
  have e20 : xu y 16 l 1 20 l = y 20 l := xu_g y (by decide)
  rw [eM_dial_198]
  by_cases h1 : 100 ≤ a
  · rw [if_pos h1]
    unfold sJun
    rw [e20]
    by_cases h3 : y 20 l = 3
    · have w2 := zWm16 w1 (k := l) (v := 5) (by omega) (by omega) (by omega) (by omega)
      rw [if_pos h3, xu_s]
      simp (contextual := true) (disch := omega) only [zWp, zNum, Int.cast_ofNat_Int, Prod.mk.injEq, and_true, true_and, implies_true, and_self, true_implies, false_implies, not_true_eq_false, not_false_eq_true, and_false, false_and, Int.reduceEq, Int.reduceLT, Int.reduceLE, Int.reduceNeg, Int.reduceAdd, Int.reduceSub, Int.reduceMul, Int.reduceToNat, Nat.reduceEqDiff, cond_true, cond_false, zu_tag, zRm20 h, zu_same, w2] <;> ((repeat' (first | intro _ | with_reducible apply And.intro)) <;> (first | omega | (exfalso; omega)))
    · rw [if_neg h3, xu_s]
      simp (contextual := true) (disch := omega) only [zWp, zNum, Int.cast_ofNat_Int, Prod.mk.injEq, and_true, true_and, implies_true, and_self, true_implies, false_implies, not_true_eq_false, not_false_eq_true, and_false, false_and, Int.reduceEq, Int.reduceLT, Int.reduceLE, Int.reduceNeg, Int.reduceAdd, Int.reduceSub, Int.reduceMul, Int.reduceToNat, Nat.reduceEqDiff, cond_true, cond_false, zu_tag, zRm20 h, zu_same, w1] <;> ((repeat' (first | intro _ | with_reducible apply And.intro)) <;> (first | omega | (exfalso; omega)))
  · rw [if_neg h1]
    by_cases h2 : y 20 l < 2
    · rw [if_pos h2, xu_s]
      simp (contextual := true) (disch := omega) only [zWp, zNum, Int.cast_ofNat_Int, Prod.mk.injEq, and_true, true_and, implies_true, and_self, true_implies, false_implies, not_true_eq_false, not_false_eq_true, and_false, false_and, Int.reduceEq, Int.reduceLT, Int.reduceLE, Int.reduceNeg, Int.reduceAdd, Int.reduceSub, Int.reduceMul, Int.reduceToNat, Nat.reduceEqDiff, cond_true, cond_false, zu_tag, zRm20 h, w1] <;> ((repeat' (first | intro _ | with_reducible apply And.intro)) <;> (first | omega | (exfalso; omega)))
    · rw [if_neg h2]
      have b11 := zG11 g
      have bo := zlineOf_b g (a / 8) (10 * y 50 l + dg)
      have b15 := zG15 g (zlineOf y (a / 8) (10 * y 50 l + dg))
      have q := zM_lineOf_s w1 g1 d (r := a / 8) (n := 10 * y 50 l + dg) (by omega) (by omega)
      rw [zlineOf_g (by decide)] at q
      have c15 : ∀ k, xu y 16 l 1 15 k = y 15 k := fun k => xu_g y (by decide)
      unfold sFin
      generalize zlineOf y (a / 8) (10 * y 50 l + dg) = o at q bo b15 ⊢
      by_cases h3 : o < 0
      · rw [if_pos h3, xu_s]
        obtain ⟨r, e, q2⟩ := zM_dial_297_s w1 (d + 1) (l := l) (o := o) (s := 4) hl (by omega) (by omega)
        rw [if_neg (by omega)] at q2
        simp (contextual := true) (disch := omega) only [zWp, zNum, Int.cast_ofNat_Int, Prod.mk.injEq, and_true, true_and, implies_true, and_self, true_implies, false_implies, not_true_eq_false, not_false_eq_true, and_false, false_and, Int.reduceEq, Int.reduceLT, Int.reduceLE, Int.reduceNeg, Int.reduceAdd, Int.reduceSub, Int.reduceMul, Int.reduceToNat, Nat.reduceEqDiff, cond_true, cond_false, zu_tag, zRm20 h, zRm50 h, q, e, q2] <;> ((repeat' (first | intro _ | with_reducible apply And.intro)) <;> (first | omega | (exfalso; omega)))
      · rw [if_neg h3, c15]
        by_cases h4 : y 15 o = 0
        · rw [if_pos h4]
          obtain ⟨r, e, q2⟩ := zM_dial_297_s w1 (d + 1) (l := l) (o := o) (s := 5) hl (by omega) (by omega)
          rw [if_pos rfl] at q2
          have e16 : xu (xu (xu (xu y 16 l 1) 16 l 5) 17 l o) 15 o 2 16 l = 5 := by rw [xu_g _ (by decide), xu_g _ (by decide), xu_s]
          rw [e16]
          simp (contextual := true) (disch := omega) only [zWp, zNum, Int.cast_ofNat_Int, Prod.mk.injEq, and_true, true_and, implies_true, and_self, true_implies, false_implies, not_true_eq_false, not_false_eq_true, and_false, false_and, Int.reduceEq, Int.reduceLT, Int.reduceLE, Int.reduceNeg, Int.reduceAdd, Int.reduceSub, Int.reduceMul, Int.reduceToNat, Nat.reduceEqDiff, cond_true, cond_false, zu_tag, zRm20 h, zRm50 h, zRm15 h, q, e, q2] <;> ((repeat' (first | intro _ | with_reducible apply And.intro)) <;> (first | omega | (exfalso; omega)))
        · rw [if_neg h4, xu_s]
          obtain ⟨r, e, q2⟩ := zM_dial_297_s w1 (d + 1) (l := l) (o := o) (s := 3) hl (by omega) (by omega)
          rw [if_neg (by omega)] at q2
          simp (contextual := true) (disch := omega) only [zWp, zNum, Int.cast_ofNat_Int, Prod.mk.injEq, and_true, true_and, implies_true, and_self, true_implies, false_implies, not_true_eq_false, not_false_eq_true, and_false, false_and, Int.reduceEq, Int.reduceLT, Int.reduceLE, Int.reduceNeg, Int.reduceAdd, Int.reduceSub, Int.reduceMul, Int.reduceToNat, Nat.reduceEqDiff, cond_true, cond_false, zu_tag, zRm20 h, zRm50 h, zRm15 h, q, e, q2] <;> ((repeat' (first | intro _ | with_reducible apply And.intro)) <;> (first | omega | (exfalso; omega)))
end DM
