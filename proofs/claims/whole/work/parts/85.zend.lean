/-! END of both sides, what the call costs being told -/
def sZof (x : ZW) (a : Int) : Int := if 100 ≤ a then x 7 (a - 100) else 0
def sEnd (x : ZW) (l u : Int) : Int × ZW := if zLn x l ∧ x 15 l = 1 then (if x 16 l = 6 then (u, sRel (sWrite x l u) l) else (0, sRel x l)) else (-1, x)
/-- what a calling line holds when it ends -/
def zCe (x : ZW) (l : Int) : Prop := (1 ≤ x 22 l ∧ x 22 l ≤ 97) ∧ (∀ i, 0 ≤ i → i < x 22 l → 0 ≤ x 23 (120 * l + i) ∧ x 23 (120 * l + i) < 116) ∧ (-1 ≤ x 17 l ∧ x 17 l < x 11 0) ∧ (0 ≤ x 17 l → x 15 (x 17 l) ≠ 1) ∧ (x 16 l = 6 → 0 ≤ x 21 l ∧ x 21 l ≤ 999999)
theorem sWrite_g (x : ZW) (l u : Int) {g : Nat} (hg : g ≠ 25 ∧ g ≠ 26 ∧ g ≠ 27 ∧ g ≠ 28 ∧ g ≠ 24) : sWrite x l u g = x g := by
  funext k
  unfold sWrite
  split
  · rw [xu_g _ hg.2.2.2.2, xu_g _ hg.2.2.2.1, xu_g _ hg.2.2.1, xu_g _ hg.2.1, xu_g _ hg.1]
  · rfl
section EN
variable {K : ZS} {x y : ZW} {S : ZS}
theorem zP_zoneOf_s (h : zR K x y S) (d : Nat) {a : Int} (h1 : -1 ≤ a) (h2 : a < 116) : zP_zoneOf (d + 2) (zI a) S = some (zI (sZof x a), S) := by
  refine zwp_eq ?_
  rw [eP_zoneOf, sZof]
  by_cases hj : 100 ≤ a
  · rw [if_pos hj]
    simp (contextual := true) (disch := omega) only [zWp, zNum, Int.cast_ofNat_Int, Prod.mk.injEq, and_true, true_and, implies_true, and_self, true_implies, false_implies, not_true_eq_false, not_false_eq_true, and_false, false_and, Int.reduceEq, Int.reduceLT, Int.reduceLE, Int.reduceNeg, Int.reduceAdd, Int.reduceSub, Int.reduceMul, Int.reduceToNat, Nat.reduceEqDiff, cond_true, cond_false, zP_isJunction_s S, zRc7 h] <;> ((repeat' (first | intro _ | with_reducible apply And.intro)) <;> (first | omega | (exfalso; omega)))
  · rw [if_neg hj]
    simp (contextual := true) (disch := omega) only [zWp, zNum, Int.cast_ofNat_Int, Prod.mk.injEq, and_true, true_and, implies_true, and_self, true_implies, false_implies, not_true_eq_false, not_false_eq_true, and_false, false_and, Int.reduceEq, Int.reduceLT, Int.reduceLE, Int.reduceNeg, Int.reduceAdd, Int.reduceSub, Int.reduceMul, Int.reduceToNat, Nat.reduceEqDiff, cond_true, cond_false, zP_isJunction_s S] <;> ((repeat' (first | intro _ | with_reducible apply And.intro)) <;> (first | omega | (exfalso; omega)))
theorem zG_write_s (h : zR K x y S) (g : zGp x) (gb : zGb x) (d : Nat) {l u : Int} (hl : 0 ≤ l ∧ l < 40) (u1 : -2147483648 ≤ u) (u2 : u < 2147483648) (ha : 0 ≤ x 21 l ∧ x 21 l ≤ 999999) : zwp (zG_write (d + 1) (zI l) (zI u) (zI (x 21 l / 86400)) (zI (x 1 0 / 86400)) S) (fun r => zR K (sWrite x l u) y r) := by
  have b24 := gb.1
  have b1 := zG1 g
  rw [eG_write]
  unfold sWrite
  by_cases hc : x 24 0 < 200
  · have w := zWc25 h (k := x 24 0) (v := l) (by omega) (by omega) (by omega) (by omega)
    have w := zWc26 w (k := x 24 0) (v := u) (by omega) (by omega) (by omega) (by omega)
    have w := zWc27 w (k := x 24 0) (v := x 21 l / 86400) (by omega) (by omega) (by omega) (by omega)
    have w := zWc28 w (k := x 24 0) (v := x 1 0 / 86400) (by omega) (by omega) (by omega) (by omega)
    have w := zWc24 w (v := x 24 0 + 1) (by omega) (by omega)
    rw [if_pos hc]
    simp (contextual := true) (disch := omega) only [zWp, zNum, Int.cast_ofNat_Int, Prod.mk.injEq, and_true, true_and, implies_true, and_self, true_implies, false_implies, not_true_eq_false, not_false_eq_true, and_false, false_and, Int.reduceEq, Int.reduceLT, Int.reduceLE, Int.reduceNeg, Int.reduceAdd, Int.reduceSub, Int.reduceMul, Int.reduceToNat, Nat.reduceEqDiff, cond_true, cond_false, zRc24 h, zu_tag, w] <;> ((repeat' (first | intro _ | with_reducible apply And.intro)) <;> (first | omega | (exfalso; omega)))
  · rw [if_neg hc]
    simp (contextual := true) (disch := omega) only [zWp, zNum, Int.cast_ofNat_Int, Prod.mk.injEq, and_true, true_and, implies_true, and_self, true_implies, false_implies, not_true_eq_false, not_false_eq_true, and_false, false_and, Int.reduceEq, Int.reduceLT, Int.reduceLE, Int.reduceNeg, Int.reduceAdd, Int.reduceSub, Int.reduceMul, Int.reduceToNat, Nat.reduceEqDiff, cond_true, cond_false, zRc24 h, h] <;> ((repeat' (first | intro _ | with_reducible apply And.intro)) <;> (first | omega | (exfalso; omega)))
theorem zGp_W {x : ZW} (g : zGp x) (l u : Int) : zGp (sWrite x l u) := by
  unfold sWrite
  split
  · exact zGp_u (zGp_u (zGp_u (zGp_u (zGp_u g (by decide) _ _) (by decide) _ _) (by decide) _ _) (by decide) _ _) (by decide) _ _
  · exact g
theorem zCe_W {x : ZW} {l : Int} (c : zCe x l) (u : Int) : zCe (sWrite x l u) l := by
  unfold zCe at c ⊢
  rw [sWrite_g x l u (g := 22) (by decide), sWrite_g x l u (g := 23) (by decide), sWrite_g x l u (g := 17) (by decide), sWrite_g x l u (g := 11) (by decide), sWrite_g x l u (g := 15) (by decide), sWrite_g x l u (g := 16) (by decide), sWrite_g x l u (g := 21) (by decide)]
  exact c
theorem zX_end_s (h : zR K x y S) (g : zGp x) (gb : zGb x) (d : Nat) {l u : Int} (h1 : -2147483648 ≤ l) (h2 : l < 2147483648) (u1 : -2147483648 ≤ u) (u2 : u < 2147483648) (hC : zLn x l → x 15 l = 1 → zCe x l)
    (hU : zLn x l → x 15 l = 1 → x 16 l = 6 → zwp (zci (zcall (d + 3)) 82 [zo (S.2.2.1 10 0 7), zi (zI (x 21 l)), zi (zI (x 1 0)), zi (zI (sZof x (sHead x l))), zi (zI l)] S) (fun r => r.1 = zI u ∧ zR K x y r.2)) :
    zwp (zX_end (d + 4) (zI l) S) (fun r => r.1 = zI (sEnd x l u).1 ∧ zR K (sEnd x l u).2 y r.2) := by
  have b1 := zG1 g
  have b11 := zG11 g
  rw [eX_end, sEnd]
  by_cases hc : zLn x l ∧ x 15 l = 1
  · obtain ⟨c22, cp, c17, c17', c21⟩ := hC hc.1 hc.2
    obtain ⟨a3, a5, a6, a10, a11, a29, a30, a8⟩ := zRLA h hc.1.1 hc.1.2 hc.2
    have b16 := zRbx h 16 l
    rw [if_pos hc]
    by_cases h6 : x 16 l = 6
    · rw [if_pos h6]
      have c21 := c21 h6
      obtain ⟨r, e1, q1, q2⟩ := hU hc.1 hc.2 h6
      obtain ⟨v, S1⟩ := r
      have q1 : v = zI u := q1
      subst q1
      have q2 : zR K x y S1 := q2
      have bh : 0 ≤ sHead x l ∧ sHead x l < 116 := by
        have := cp (x 22 l - 1) (by omega) (by omega)
        rw [show 120 * l + (x 22 l - 1) = 120 * l + x 22 l - 1 by omega] at this
        exact this
      have e2 : zci (zcall (d + 3)) 19 [zo (some (2, l.toNat))] S = some (zI (sHead x l), S) := zL_head_s h (d + 2) hc.1 hc.2 c22
      have e3 := zP_zoneOf_s h (d + 1) (a := sHead x l) (by omega) (by omega)
      obtain ⟨S2, e4, q4⟩ := zG_write_s q2 g gb (d + 2) (l := l) (u := u) (by omega) u1 u2 c21
      obtain ⟨-, -, -, -, a11', -⟩ := zRLA q2 hc.1.1 hc.1.2 hc.2
      obtain ⟨d22, dp, d17, d17', -⟩ := zCe_W (hC hc.1 hc.2) u
      have hl2 : zLn (sWrite x l u) l := by unfold zLn; rw [sWrite_g x l u (by decide)]; exact hc.1
      obtain ⟨S3, e5, q5⟩ := zC_release_s q4 (zGp_W g l u) (d + 1) hl2 (by rw [sWrite_g x l u (by decide)]; exact hc.2) (by omega) dp d17 d17'
      have e5 : zcv (zcall (d + 3)) 12 [zr 0 0, zo (some (2, l.toNat))] S2 = some S3 := e5
      simp (contextual := true) (disch := omega) only [zWp, zNum, Int.cast_ofNat_Int, Prod.mk.injEq, and_true, true_and, implies_true, and_self, true_implies, false_implies, not_true_eq_false, not_false_eq_true, and_false, false_and, Int.reduceEq, Int.reduceLT, Int.reduceLE, Int.reduceNeg, Int.reduceAdd, Int.reduceSub, Int.reduceMul, Int.reduceToNat, Nat.reduceEqDiff, cond_true, cond_false, zC_isCalling_s h g, zRD h, a3, a11, zRc1 h, e2, e3, e1, a11', eX_today, zRc1 q2, e4, e5, q5] <;> ((repeat' (first | intro _ | with_reducible apply And.intro)) <;> (first | omega | (exfalso; omega)))
    · rw [if_neg h6]
      obtain ⟨S3, e5, q5⟩ := zC_release_s h g (d + 1) hc.1 hc.2 (by omega) cp c17 c17'
      have e5 : zcv (zcall (d + 3)) 12 [zr 0 0, zo (some (2, l.toNat))] S = some S3 := e5
      simp (contextual := true) (disch := omega) only [zWp, zNum, Int.cast_ofNat_Int, Prod.mk.injEq, and_true, true_and, implies_true, and_self, true_implies, false_implies, not_true_eq_false, not_false_eq_true, and_false, false_and, Int.reduceEq, Int.reduceLT, Int.reduceLE, Int.reduceNeg, Int.reduceAdd, Int.reduceSub, Int.reduceMul, Int.reduceToNat, Nat.reduceEqDiff, cond_true, cond_false, zC_isCalling_s h g, zRD h, a3, e5, q5] <;> ((repeat' (first | intro _ | with_reducible apply And.intro)) <;> (first | omega | (exfalso; omega)))
  · rw [if_neg hc]
    simp (contextual := true) (disch := omega) only [zWp, zNum, Int.cast_ofNat_Int, Prod.mk.injEq, and_true, true_and, implies_true, and_self, true_implies, false_implies, not_true_eq_false, not_false_eq_true, and_false, false_and, Int.reduceEq, Int.reduceLT, Int.reduceLE, Int.reduceNeg, Int.reduceAdd, Int.reduceSub, Int.reduceMul, Int.reduceToNat, Nat.reduceEqDiff, cond_true, cond_false, zC_isCalling_s h g, h] <;> ((repeat' (first | intro _ | with_reducible apply And.intro)) <;> (first | omega | (exfalso; omega)))
theorem zM_end_s (h : zR K x y S) (g : zGp y) (gb : zGb y) (d : Nat) {l u : Int} (h1 : -2147483648 ≤ l) (h2 : l < 2147483648) (u1 : -2147483648 ≤ u) (u2 : u < 2147483648) (hC : zLn y l → y 15 l = 1 → zCe y l)
    (hU : zLn y l → y 15 l = 1 → y 16 l = 6 → ∀ S, zR K x y S → zwp (zM_unitsOf (d + 3) (zI l) S) (fun r => r.1 = zI u ∧ zR K x y r.2)) :
    zwp (zM_end (d + 4) (zI l) S) (fun r => r.1 = zI (sEnd y l u).1 ∧ zR K x (sEnd y l u).2 r.2) := by
  have b1 := zG1 g
  have b11 := zG11 g
  have b15 := zG15 g l
  have b16 := zRby h 16 l
  have b24 := gb.1
  rw [eM_end, sEnd]
  have h0 := zR_s h (t := 11) (s := 0) rfl 0 (0 : Int32)
  generalize hS : ((zu S.1 11 0 0 (0 : Int32)), S.2) = S' at h0 ⊢
  have hS1 : zu S.1 11 0 0 (0 : Int32) = S'.1 := by rw [← hS]
  have hS2 : S.2 = S'.2 := by rw [← hS]
  try simp only [hS1, hS2]
  by_cases hc : zLn y l ∧ y 15 l = 1
  · obtain ⟨c22, cp, c17, c17', c21⟩ := hC hc.1 hc.2
    rw [if_pos hc]
    by_cases h6 : y 16 l = 6
    · rw [if_pos h6]
      have c21 := c21 h6
      obtain ⟨r, e1, q1, q2⟩ := hU hc.1 hc.2 h6 S' h0
      obtain ⟨v, S1⟩ := r
      have q1 : v = zI u := q1
      subst q1
      have q2 : zR K x y S1 := q2
      obtain ⟨d22, dp, d17, d17', -⟩ := zCe_W (hC hc.1 hc.2) u
      rw [sWrite_g y l u (by decide)] at d17
      have fin := fun S3 (q3 : zR K x (sWrite y l u) S3) => zM_end_122_s (K := K) (x := x) (y := sWrite y l u) (d + 3) (l := l) (u := u) (by omega) u1 u2 (by omega) dp (by rw [sWrite_g y l u (by decide)]; omega) ((sWrite y l u) 22 l).toNat 0 S3 (by omega) q3
      by_cases h200 : y 24 0 < 200
      · have w := zWm25 q2 (k := y 24 0) (v := l) (by omega) (by omega) (by omega) (by omega)
        have w := zWm26 w (k := y 24 0) (v := u) (by omega) (by omega) (by omega) (by omega)
        have w := zWm27 w (k := y 24 0) (v := y 21 l / 86400) (by omega) (by omega) (by omega) (by omega)
        have w := zWm28 w (k := y 24 0) (v := y 1 0 / 86400) (by omega) (by omega) (by omega) (by omega)
        have w := zWm24 w (v := y 24 0 + 1) (by omega) (by omega)
        have ew : sWrite y l u = xu (xu (xu (xu (xu y 25 (y 24 0) l) 26 (y 24 0) u) 27 (y 24 0) (y 21 l / 86400)) 28 (y 24 0) (y 1 0 / 86400)) 24 0 (y 24 0 + 1) := by unfold sWrite; rw [if_pos h200]
        rw [← ew] at w
        have fin := fin _ w
        obtain ⟨r3, e3, q3⟩ := fin
        have e3 : zM_end_122 (d + 3) (zI l) (zI u) (zI 0) _ = some r3 := e3
        simp (contextual := true) (disch := omega) only [zWp, zNum, Int.cast_ofNat_Int, Prod.mk.injEq, and_true, true_and, implies_true, and_self, true_implies, false_implies, not_true_eq_false, not_false_eq_true, and_false, false_and, Int.reduceEq, Int.reduceLT, Int.reduceLE, Int.reduceNeg, Int.reduceAdd, Int.reduceSub, Int.reduceMul, Int.reduceToNat, Nat.reduceEqDiff, cond_true, cond_false, zM_isLine_s h0 g, zRm15 h0, zRm16 h0, e1, zRm24 q2, zRm21 q2, zRm1 q2, zu_tag, zu_same, e3, q3] <;> ((repeat' (first | intro _ | with_reducible apply And.intro)) <;> (first | omega | (exfalso; omega)))
      · have ew : sWrite y l u = y := by unfold sWrite; rw [if_neg h200]
        have fin := fin S1 (by rw [ew]; exact q2)
        obtain ⟨r3, e3, q3⟩ := fin
        have e3 : zM_end_122 (d + 3) (zI l) (zI u) (zI 0) _ = some r3 := e3
        simp (contextual := true) (disch := omega) only [zWp, zNum, Int.cast_ofNat_Int, Prod.mk.injEq, and_true, true_and, implies_true, and_self, true_implies, false_implies, not_true_eq_false, not_false_eq_true, and_false, false_and, Int.reduceEq, Int.reduceLT, Int.reduceLE, Int.reduceNeg, Int.reduceAdd, Int.reduceSub, Int.reduceMul, Int.reduceToNat, Nat.reduceEqDiff, cond_true, cond_false, zM_isLine_s h0 g, zRm15 h0, zRm16 h0, e1, zRm24 q2, e3, q3] <;> ((repeat' (first | intro _ | with_reducible apply And.intro)) <;> (first | omega | (exfalso; omega)))
    · rw [if_neg h6]
      obtain ⟨r3, e3, q3⟩ := zM_end_122_s (K := K) (x := x) (y := y) (d + 3) (l := l) (u := 0) (by omega) (by omega) (by omega) (by omega) cp (by omega) (y 22 l).toNat 0 S' (by omega) h0
      have e3 : zM_end_122 (d + 3) (zI l) (zI 0) (zI 0) S' = some r3 := e3
      simp (contextual := true) (disch := omega) only [zWp, zNum, Int.cast_ofNat_Int, Prod.mk.injEq, and_true, true_and, implies_true, and_self, true_implies, false_implies, not_true_eq_false, not_false_eq_true, and_false, false_and, Int.reduceEq, Int.reduceLT, Int.reduceLE, Int.reduceNeg, Int.reduceAdd, Int.reduceSub, Int.reduceMul, Int.reduceToNat, Nat.reduceEqDiff, cond_true, cond_false, zM_isLine_s h0 g, zRm15 h0, zRm16 h0, e3, q3] <;> ((repeat' (first | intro _ | with_reducible apply And.intro)) <;> (first | omega | (exfalso; omega)))
  · rw [if_neg hc]
    simp (contextual := true) (disch := omega) only [zWp, zNum, Int.cast_ofNat_Int, Prod.mk.injEq, and_true, true_and, implies_true, and_self, true_implies, false_implies, not_true_eq_false, not_false_eq_true, and_false, false_and, Int.reduceEq, Int.reduceLT, Int.reduceLE, Int.reduceNeg, Int.reduceAdd, Int.reduceSub, Int.reduceMul, Int.reduceToNat, Nat.reduceEqDiff, cond_true, cond_false, zM_isLine_s h0 g, zRm15 h0, zRm16 h0, h0] <;> ((repeat' (first | intro _ | with_reducible apply And.intro)) <;> (first | omega | (exfalso; omega)))
end EN
