/-! look, answer of both sides -/
section A3
variable {K : ZS} {x y : ZW} {S : ZS}
theorem zL_ofCall_s (h : zR K x y S) (d : Nat) {l w : Int} (hl : zLn x l) (hc : x 15 l = 1) (hn : 1 ≤ x 22 l ∧ x 22 l ≤ 97) (hw : 0 < w ∧ w ≤ 5) : zL_ofCall (d + 2) l.toNat (zI w) S = some (zI (sLookV x l w), S) := by
  obtain ⟨a3, a5, a6, a10, a11, a29, a30, a8⟩ := zRLA h hl.1 hl.2 hc
  refine zwp_eq ?_
  rw [eL_ofCall, sLookV, if_neg (by omega), if_pos hc]
  rcases (show w = 1 ∨ w = 2 ∨ w = 3 ∨ w = 4 ∨ w = 5 by omega) with e | e | e | e | e <;> subst e
  · rw [if_pos rfl]
    simp (contextual := true) (disch := omega) only [zWp, zNum, Int.cast_ofNat_Int, Prod.mk.injEq, and_true, true_and, implies_true, and_self, true_implies, false_implies, not_true_eq_false, not_false_eq_true, and_false, false_and, Int.reduceEq, Int.reduceLT, Int.reduceLE, Int.reduceNeg, Int.reduceAdd, Int.reduceSub, Int.reduceMul, Int.reduceToNat, Nat.reduceEqDiff, cond_true, cond_false, a3]
  · rw [if_neg (by decide), if_pos rfl]
    simp (contextual := true) (disch := omega) only [zWp, zNum, Int.cast_ofNat_Int, Prod.mk.injEq, and_true, true_and, implies_true, and_self, true_implies, false_implies, not_true_eq_false, not_false_eq_true, and_false, false_and, Int.reduceEq, Int.reduceLT, Int.reduceLE, Int.reduceNeg, Int.reduceAdd, Int.reduceSub, Int.reduceMul, Int.reduceToNat, Nat.reduceEqDiff, cond_true, cond_false, zL_head_s h d hl hc hn]
  · rw [if_neg (by decide), if_neg (by decide), if_pos rfl]
    simp (contextual := true) (disch := omega) only [zWp, zNum, Int.cast_ofNat_Int, Prod.mk.injEq, and_true, true_and, implies_true, and_self, true_implies, false_implies, not_true_eq_false, not_false_eq_true, and_false, false_and, Int.reduceEq, Int.reduceLT, Int.reduceLE, Int.reduceNeg, Int.reduceAdd, Int.reduceSub, Int.reduceMul, Int.reduceToNat, Nat.reduceEqDiff, cond_true, cond_false, a10]
  · rw [if_neg (by decide), if_neg (by decide), if_neg (by decide), if_pos rfl]
    simp (contextual := true) (disch := omega) only [zWp, zNum, Int.cast_ofNat_Int, Prod.mk.injEq, and_true, true_and, implies_true, and_self, true_implies, false_implies, not_true_eq_false, not_false_eq_true, and_false, false_and, Int.reduceEq, Int.reduceLT, Int.reduceLE, Int.reduceNeg, Int.reduceAdd, Int.reduceSub, Int.reduceMul, Int.reduceToNat, Nat.reduceEqDiff, cond_true, cond_false, a6]
  · rw [if_neg (by decide), if_neg (by decide), if_neg (by decide), if_neg (by decide)]
    simp (contextual := true) (disch := omega) only [zWp, zNum, Int.cast_ofNat_Int, Prod.mk.injEq, and_true, true_and, implies_true, and_self, true_implies, false_implies, not_true_eq_false, not_false_eq_true, and_false, false_and, Int.reduceEq, Int.reduceLT, Int.reduceLE, Int.reduceNeg, Int.reduceAdd, Int.reduceSub, Int.reduceMul, Int.reduceToNat, Nat.reduceEqDiff, cond_true, cond_false, a11]
theorem zX_look_s (h : zR K x y S) (g : zGp x) (hn : ∀ l, zLn x l → x 15 l = 1 → 1 ≤ x 22 l ∧ x 22 l ≤ 97) (d : Nat) {l w : Int} (hl : zLn x l) (hw : 0 ≤ w ∧ w ≤ 5) : zX_look (d + 3) (zI l) (zI w) S = some (zI (sLookV x l w), S) := by
  have b11 := zG11 g
  have b15 := zG15 g l
  refine zwp_eq ?_
  rw [eX_look]
  by_cases h0 : w = 0
  · subst h0
    rw [sLookV, if_pos rfl]
    simp (contextual := true) (disch := omega) only [zWp, zNum, Int.cast_ofNat_Int, Prod.mk.injEq, and_true, true_and, implies_true, and_self, true_implies, false_implies, not_true_eq_false, not_false_eq_true, and_false, false_and, Int.reduceEq, Int.reduceLT, Int.reduceLE, Int.reduceNeg, Int.reduceAdd, Int.reduceSub, Int.reduceMul, Int.reduceToNat, Nat.reduceEqDiff, cond_true, cond_false, zC_isLine_s h g, zRD h, zRc15 h] <;> ((repeat' (first | intro _ | with_reducible apply And.intro)) <;> (first | omega | (exfalso; omega)))
  · by_cases hc : x 15 l = 1
    · have e : zci (zcall (d + 2)) 20 [zo (some (2, l.toNat)), zi (zI w)] S = some (zI (sLookV x l w), S) := zL_ofCall_s h d hl hc (hn l hl hc) (by omega)
      simp (contextual := true) (disch := omega) only [zWp, zNum, Int.cast_ofNat_Int, Prod.mk.injEq, and_true, true_and, implies_true, and_self, true_implies, false_implies, not_true_eq_false, not_false_eq_true, and_false, false_and, Int.reduceEq, Int.reduceLT, Int.reduceLE, Int.reduceNeg, Int.reduceAdd, Int.reduceSub, Int.reduceMul, Int.reduceToNat, Nat.reduceEqDiff, cond_true, cond_false, zC_isLine_s h g, zRD h, zRc15 h, e] <;> ((repeat' (first | intro _ | with_reducible apply And.intro)) <;> (first | omega | (exfalso; omega)))
    · rw [sLookV, if_neg h0, if_neg hc]
      simp (contextual := true) (disch := omega) only [zWp, zNum, Int.cast_ofNat_Int, Prod.mk.injEq, and_true, true_and, implies_true, and_self, true_implies, false_implies, not_true_eq_false, not_false_eq_true, and_false, false_and, Int.reduceEq, Int.reduceLT, Int.reduceLE, Int.reduceNeg, Int.reduceAdd, Int.reduceSub, Int.reduceMul, Int.reduceToNat, Nat.reduceEqDiff, cond_true, cond_false, zC_isLine_s h g, zRD h, zRc15 h] <;> ((repeat' (first | intro _ | with_reducible apply And.intro)) <;> (first | omega | (exfalso; omega)))
theorem zM_look_s (h : zR K x y S) (g : zGp y) (hn : ∀ l, zLn y l → y 15 l = 1 → 1 ≤ y 22 l ∧ y 22 l ≤ 97) (d : Nat) {l w : Int} (h1 : -2147483648 ≤ l) (h2 : l < 2147483648) (h3 : -2147483648 ≤ w) (h4 : w < 2147483648) :
    zwp (zM_look (d + 3) (zI l) (zI w) S) (fun r => r.1 = zI (if zLn y l ∧ 0 ≤ w ∧ w ≤ 5 then sLookV y l w else 0) ∧ r.2.1 11 0 0 = zI (if zLn y l ∧ 0 ≤ w ∧ w ≤ 5 then 0 else 1) ∧ zR K x y r.2) := by
  have b11 := zG11 g
  have b15 := zG15 g l
  rw [eM_look]
  have h0 := zR_s h (t := 11) (s := 0) rfl 0 (0 : Int32)
  generalize hS : ((zu S.1 11 0 0 (0 : Int32)), S.2) = S' at h0 ⊢
  have hS1 : zu S.1 11 0 0 (0 : Int32) = S'.1 := by rw [← hS]
  have hS2 : S.2 = S'.2 := by rw [← hS]
  try simp only [hS1, hS2]
  have t0 : S'.1 11 0 0 = zI 0 := by rw [← hS]; exact zu_same S.1 11 0 0 0
  have w1 := zR_s h0 (t := 11) (s := 0) rfl 0 (zI 1)
  by_cases hc : zLn y l ∧ 0 ≤ w ∧ w ≤ 5
  · rw [if_pos hc, if_pos hc]
    by_cases h0w : w = 0
    · subst h0w
      rw [sLookV, if_pos rfl]
      simp (contextual := true) (disch := omega) only [zWp, zNum, Int.cast_ofNat_Int, Prod.mk.injEq, and_true, true_and, implies_true, and_self, true_implies, false_implies, not_true_eq_false, not_false_eq_true, and_false, false_and, Int.reduceEq, Int.reduceLT, Int.reduceLE, Int.reduceNeg, Int.reduceAdd, Int.reduceSub, Int.reduceMul, Int.reduceToNat, Nat.reduceEqDiff, cond_true, cond_false, zM_isLine_s h0 g, zM_within_s S', zRm15 h0, t0, h0] <;> ((repeat' (first | intro _ | with_reducible apply And.intro)) <;> (first | omega | (exfalso; omega)))
    · by_cases hcl : y 15 l = 1
      · have hn := hn l hc.1 hcl
        rw [sLookV, if_neg h0w, if_pos hcl]
        rcases (show w = 1 ∨ w = 2 ∨ w = 3 ∨ w = 4 ∨ w = 5 by omega) with e | e | e | e | e <;> subst e
        · rw [if_pos rfl]
          simp (contextual := true) (disch := omega) only [zWp, zNum, Int.cast_ofNat_Int, Prod.mk.injEq, and_true, true_and, implies_true, and_self, true_implies, false_implies, not_true_eq_false, not_false_eq_true, and_false, false_and, Int.reduceEq, Int.reduceLT, Int.reduceLE, Int.reduceNeg, Int.reduceAdd, Int.reduceSub, Int.reduceMul, Int.reduceToNat, Nat.reduceEqDiff, cond_true, cond_false, zM_isLine_s h0 g, zM_within_s S', zRm15 h0, zRm16 h0, t0, h0] <;> ((repeat' (first | intro _ | with_reducible apply And.intro)) <;> (first | omega | (exfalso; omega)))
        · rw [if_neg (by decide), if_pos rfl]
          simp (contextual := true) (disch := omega) only [zWp, zNum, Int.cast_ofNat_Int, Prod.mk.injEq, and_true, true_and, implies_true, and_self, true_implies, false_implies, not_true_eq_false, not_false_eq_true, and_false, false_and, Int.reduceEq, Int.reduceLT, Int.reduceLE, Int.reduceNeg, Int.reduceAdd, Int.reduceSub, Int.reduceMul, Int.reduceToNat, Nat.reduceEqDiff, cond_true, cond_false, zM_isLine_s h0 g, zM_within_s S', zRm15 h0, zM_head_s h0, t0, h0] <;> ((repeat' (first | intro _ | with_reducible apply And.intro)) <;> (first | omega | (exfalso; omega)))
        · rw [if_neg (by decide), if_neg (by decide), if_pos rfl]
          simp (contextual := true) (disch := omega) only [zWp, zNum, Int.cast_ofNat_Int, Prod.mk.injEq, and_true, true_and, implies_true, and_self, true_implies, false_implies, not_true_eq_false, not_false_eq_true, and_false, false_and, Int.reduceEq, Int.reduceLT, Int.reduceLE, Int.reduceNeg, Int.reduceAdd, Int.reduceSub, Int.reduceMul, Int.reduceToNat, Nat.reduceEqDiff, cond_true, cond_false, zM_isLine_s h0 g, zM_within_s S', zRm15 h0, zRm17 h0, t0, h0] <;> ((repeat' (first | intro _ | with_reducible apply And.intro)) <;> (first | omega | (exfalso; omega)))
        · rw [if_neg (by decide), if_neg (by decide), if_neg (by decide), if_pos rfl]
          simp (contextual := true) (disch := omega) only [zWp, zNum, Int.cast_ofNat_Int, Prod.mk.injEq, and_true, true_and, implies_true, and_self, true_implies, false_implies, not_true_eq_false, not_false_eq_true, and_false, false_and, Int.reduceEq, Int.reduceLT, Int.reduceLE, Int.reduceNeg, Int.reduceAdd, Int.reduceSub, Int.reduceMul, Int.reduceToNat, Nat.reduceEqDiff, cond_true, cond_false, zM_isLine_s h0 g, zM_within_s S', zRm15 h0, zRm18 h0, t0, h0] <;> ((repeat' (first | intro _ | with_reducible apply And.intro)) <;> (first | omega | (exfalso; omega)))
        · rw [if_neg (by decide), if_neg (by decide), if_neg (by decide), if_neg (by decide)]
          simp (contextual := true) (disch := omega) only [zWp, zNum, Int.cast_ofNat_Int, Prod.mk.injEq, and_true, true_and, implies_true, and_self, true_implies, false_implies, not_true_eq_false, not_false_eq_true, and_false, false_and, Int.reduceEq, Int.reduceLT, Int.reduceLE, Int.reduceNeg, Int.reduceAdd, Int.reduceSub, Int.reduceMul, Int.reduceToNat, Nat.reduceEqDiff, cond_true, cond_false, zM_isLine_s h0 g, zM_within_s S', zRm15 h0, zRm21 h0, t0, h0] <;> ((repeat' (first | intro _ | with_reducible apply And.intro)) <;> (first | omega | (exfalso; omega)))
      · rw [sLookV, if_neg h0w, if_neg hcl]
        simp (contextual := true) (disch := omega) only [zWp, zNum, Int.cast_ofNat_Int, Prod.mk.injEq, and_true, true_and, implies_true, and_self, true_implies, false_implies, not_true_eq_false, not_false_eq_true, and_false, false_and, Int.reduceEq, Int.reduceLT, Int.reduceLE, Int.reduceNeg, Int.reduceAdd, Int.reduceSub, Int.reduceMul, Int.reduceToNat, Nat.reduceEqDiff, cond_true, cond_false, zM_isLine_s h0 g, zM_within_s S', zRm15 h0, t0, h0] <;> ((repeat' (first | intro _ | with_reducible apply And.intro)) <;> (first | omega | (exfalso; omega)))
  · rw [if_neg hc, if_neg hc]
    simp (contextual := true) (disch := omega) only [zWp, zNum, Int.cast_ofNat_Int, Prod.mk.injEq, and_true, true_and, implies_true, and_self, true_implies, false_implies, not_true_eq_false, not_false_eq_true, and_false, false_and, Int.reduceEq, Int.reduceLT, Int.reduceLE, Int.reduceNeg, Int.reduceAdd, Int.reduceSub, Int.reduceMul, Int.reduceToNat, Nat.reduceEqDiff, cond_true, cond_false, zM_isLine_s h0 g, zM_within_s S', zRm15 h0, zu_same, w1] <;> ((repeat' (first | intro _ | with_reducible apply And.intro)) <;> (first | omega | (exfalso; omega)))
/-- a call is answered -/
theorem zR_ans (h : zR K x y S) {l v : Int} (hl : zLn x l) (hc : x 15 l = 1) (hv : -2147483648 ≤ v ∧ v < 2147483648) : zR K (xu (xu x 16 l 6) 21 l v) y (zu (zu S.1 2 l.toNat 3 (zI 6)) 2 l.toNat 11 (zI v), S.2) := by
  have q := zRl h hl.1 hl.2
  obtain ⟨a3, a5, a6, a10, a11, a29, a30, a8⟩ := zRLA h hl.1 hl.2 hc
  have r := zRo_open h hl.1
  have r := zRo_g r (g := 16) (by simp) (v := 6) (by omega) (by omega)
  have r := zRo_g r (g := 21) (by simp) (v := v) hv.1 hv.2
  have r := zRo_c r (t := 2) (Or.inl rfl) 3 (zI 6)
  have r := zRo_c r (t := 2) (Or.inl rfl) 11 (zI v)
  refine zRo_close r ?_
  have n1 : ∀ g, g ≠ 16 → g ≠ 21 → ∀ k, (xu (xu x 16 l 6) 21 l v) g k = x g k := fun g e16 e21 k => by rw [xu_g _ e21, xu_g _ e16]
  have f16 : (xu (xu x 16 l 6) 21 l v) 16 l = 6 := by rw [xu_g _ (by decide), xu_s]
  have f21 : (xu (xu x 16 l 6) 21 l v) 21 l = v := xu_s _ _ _ _
  unfold zLC zLA
  rw [n1 12 (by decide) (by decide), n1 15 (by decide) (by decide), f16, n1 17 (by decide) (by decide), n1 18 (by decide) (by decide), n1 20 (by decide) (by decide), f21, n1 22 (by decide) (by decide)]
  refine ⟨q.1, ?_, ?_, ?_, fun _ => ⟨?_, ?_, ?_, ?_, ?_, fun i i0 i1 => ?_, fun i i0 i1 i2 => ?_, fun h1 => by omega⟩, fun e => absurd hc e⟩
  · simp [zu]; exact q.2.1
  · simp [zu]; exact q.2.2.1
  · simp [zu]; exact q.2.2.2.1
  · simp [zu]
  · simp [zu]; exact a5
  · simp [zu]; exact a6
  · simp [zu]; exact a10
  · simp [zu]
  · simp [zu]; rw [n1 23 (by decide) (by decide)]; exact a29 i i0 i1
  · simp [zu]; rw [n1 19 (by decide) (by decide)]; exact a30 i i0 i1 i2
theorem zX_answer_s (h : zR K x y S) (g : zGp x) (d : Nat) {l : Int} (h1 : -2147483648 ≤ l) (h2 : l < 2147483648) : zwp (zX_answer (d + 2) (zI l) S) (fun r => r.1 = zI (sAnswer x l).1 ∧ zR K (sAnswer x l).2 y r.2) := by
  have b1 := zG1 g
  have b11 := zG11 g
  have b16 := zRbx h 16 l
  rw [eX_answer, sAnswer]
  by_cases hc : zLn x l ∧ x 15 l = 1
  · obtain ⟨a3, a5, a6, a10, a11, a29, a30, a8⟩ := zRLA h hc.1.1 hc.1.2 hc.2
    by_cases h5 : x 16 l = 5
    · have w := zR_ans h hc.1 hc.2 (v := x 1 0) (by omega)
      rw [if_pos ⟨hc.1, hc.2, h5⟩]
      simp (contextual := true) (disch := omega) only [zWp, zNum, Int.cast_ofNat_Int, Prod.mk.injEq, and_true, true_and, implies_true, and_self, true_implies, false_implies, not_true_eq_false, not_false_eq_true, and_false, false_and, Int.reduceEq, Int.reduceLT, Int.reduceLE, Int.reduceNeg, Int.reduceAdd, Int.reduceSub, Int.reduceMul, Int.reduceToNat, Nat.reduceEqDiff, cond_true, cond_false, zC_isCalling_s h g, zRD h, a3, zu_tag, zRc1 h, w] <;> ((repeat' (first | intro _ | with_reducible apply And.intro)) <;> (first | omega | (exfalso; omega)))
    · rw [if_neg (fun q => h5 q.2.2)]
      simp (contextual := true) (disch := omega) only [zWp, zNum, Int.cast_ofNat_Int, Prod.mk.injEq, and_true, true_and, implies_true, and_self, true_implies, false_implies, not_true_eq_false, not_false_eq_true, and_false, false_and, Int.reduceEq, Int.reduceLT, Int.reduceLE, Int.reduceNeg, Int.reduceAdd, Int.reduceSub, Int.reduceMul, Int.reduceToNat, Nat.reduceEqDiff, cond_true, cond_false, zC_isCalling_s h g, zRD h, a3, h] <;> ((repeat' (first | intro _ | with_reducible apply And.intro)) <;> (first | omega | (exfalso; omega)))
  · rw [if_neg (fun q => hc ⟨q.1, q.2.1⟩)]
    simp (contextual := true) (disch := omega) only [zWp, zNum, Int.cast_ofNat_Int, Prod.mk.injEq, and_true, true_and, implies_true, and_self, true_implies, false_implies, not_true_eq_false, not_false_eq_true, and_false, false_and, Int.reduceEq, Int.reduceLT, Int.reduceLE, Int.reduceNeg, Int.reduceAdd, Int.reduceSub, Int.reduceMul, Int.reduceToNat, Nat.reduceEqDiff, cond_true, cond_false, zC_isCalling_s h g, h] <;> ((repeat' (first | intro _ | with_reducible apply And.intro)) <;> (first | omega | (exfalso; omega)))
theorem zM_answer_s (h : zR K x y S) (g : zGp y) (d : Nat) {l : Int} (h1 : -2147483648 ≤ l) (h2 : l < 2147483648) : zwp (zM_answer (d + 3) (zI l) S) (fun r => r.1 = zI (sAnswer y l).1 ∧ zR K x (sAnswer y l).2 r.2) := by
  have b1 := zG1 g
  have b11 := zG11 g
  have b15 := zG15 g l
  have b16 := zRby h 16 l
  rw [eM_answer, sAnswer]
  have h0 := zR_s h (t := 11) (s := 0) rfl 0 (0 : Int32)
  generalize hS : ((zu S.1 11 0 0 (0 : Int32)), S.2) = S' at h0 ⊢
  have hS1 : zu S.1 11 0 0 (0 : Int32) = S'.1 := by rw [← hS]
  have hS2 : S.2 = S'.2 := by rw [← hS]
  try simp only [hS1, hS2]
  by_cases hc : zLn y l ∧ y 15 l = 1 ∧ y 16 l = 5
  · have w := zWm16 h0 (k := l) (v := 6) (by omega) (by omega) (by omega) (by omega)
    have w := zWm21 w (k := l) (v := y 1 0) (by omega) (by omega) (by omega) (by omega)
    rw [if_pos hc]
    simp (contextual := true) (disch := omega) only [zWp, zNum, Int.cast_ofNat_Int, Prod.mk.injEq, and_true, true_and, implies_true, and_self, true_implies, false_implies, not_true_eq_false, not_false_eq_true, and_false, false_and, Int.reduceEq, Int.reduceLT, Int.reduceLE, Int.reduceNeg, Int.reduceAdd, Int.reduceSub, Int.reduceMul, Int.reduceToNat, Nat.reduceEqDiff, cond_true, cond_false, zM_isLine_s h0 g, zRm15 h0, zRm16 h0, zu_tag, zRm1 h0, w] <;> ((repeat' (first | intro _ | with_reducible apply And.intro)) <;> (first | omega | (exfalso; omega)))
  · rw [if_neg hc]
    simp (contextual := true) (disch := omega) only [zWp, zNum, Int.cast_ofNat_Int, Prod.mk.injEq, and_true, true_and, implies_true, and_self, true_implies, false_implies, not_true_eq_false, not_false_eq_true, and_false, false_and, Int.reduceEq, Int.reduceLT, Int.reduceLE, Int.reduceNeg, Int.reduceAdd, Int.reduceSub, Int.reduceMul, Int.reduceToNat, Nat.reduceEqDiff, cond_true, cond_false, zM_isLine_s h0 g, zRm15 h0, zRm16 h0, h0] <;> ((repeat' (first | intro _ | with_reducible apply And.intro)) <;> (first | omega | (exfalso; omega)))
end A3
