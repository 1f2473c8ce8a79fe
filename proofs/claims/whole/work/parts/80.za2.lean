/-! outlet, path, look, answer of both sides -/
def sOutlet (x : ZW) (r s l p e : Int) : Int × ZW := if zSl x r ∧ 0 ≤ s ∧ s < x 5 r ∧ 0 ≤ l ∧ l < 10 ∧ 0 ≤ p ∧ p < 4 ∧ (e = -1 ∨ zEn x e) ∧ ¬ (0 ≤ e ∧ e < 96 ∧ e / 8 = r) then (1, xu x 6 (80 * r + 40 * s + 4 * l + p) e) else (0, x)
def sPath (x : ZW) (l i : Int) : Int × ZW := (if zLn x l ∧ x 15 l = 1 ∧ 0 ≤ i ∧ i < x 22 l then x 23 (120 * l + i) else -1, x)
def sLookV (x : ZW) (l w : Int) : Int := if w = 0 then x 15 l else if x 15 l = 1 then (if w = 1 then x 16 l else if w = 2 then sHead x l else if w = 3 then x 17 l else if w = 4 then x 18 l else x 21 l) else -1
def sAnswer (x : ZW) (l : Int) : Int × ZW := if zLn x l ∧ x 15 l = 1 ∧ x 16 l = 5 then (1, xu (xu x 16 l 6) 21 l (x 1 0)) else (0, x)
section A2
variable {K : ZS} {x y : ZW} {S : ZS}
theorem zX_outlet_s (h : zR K x y S) (g : zGp x) (d : Nat) {r s l p e : Int} (r1 : -2147483648 ≤ r) (r2 : r < 2147483648) (s1 : -2147483648 ≤ s) (s2 : s < 2147483648) (l1 : -2147483648 ≤ l) (l2 : l < 2147483648) (p1 : -2147483648 ≤ p) (p2 : p < 2147483648) (e1 : -2147483648 ≤ e) (e2 : e < 2147483648) :
    zwp (zX_outlet (d + 4) (zI r) (zI s) (zI l) (zI p) (zI e) S) (fun q => q.1 = zI (sOutlet x r s l p e).1 ∧ zR K (sOutlet x r s l p e).2 y q.2) := by
  have b2 := zG2 g
  have b5 := zG5 g r
  have ee : ((r * 2 + s) * 10 + l) * 4 + p = 80 * r + 40 * s + 4 * l + p := by omega
  rw [eX_outlet, sOutlet]
  by_cases hc : zSl x r ∧ 0 ≤ s ∧ s < x 5 r ∧ 0 ≤ l ∧ l < 10 ∧ 0 ≤ p ∧ p < 4 ∧ (e = -1 ∨ zEn x e) ∧ ¬ (0 ≤ e ∧ e < 96 ∧ e / 8 = r)
  · have w := zWc6 h (k := 80 * r + 40 * s + 4 * l + p) (v := e) (by omega) (by omega) (by omega) (by omega)
    rw [if_pos hc]
    by_cases he : e = -1
    · subst he
      simp (contextual := true) (disch := omega) only [zWp, zNum, Int.cast_ofNat_Int, Prod.mk.injEq, and_true, true_and, implies_true, and_self, true_implies, false_implies, not_true_eq_false, not_false_eq_true, and_false, false_and, Int.reduceEq, Int.reduceLT, Int.reduceLE, Int.reduceNeg, Int.reduceAdd, Int.reduceSub, Int.reduceMul, Int.reduceToNat, Nat.reduceEqDiff, cond_true, cond_false, eP_lead, zP_isLevel_s h g, zRc5 h, zP_isEnd_s h g, eP_lead_59, eP_spot, ee, zgb_1, zgb_0, w] <;> ((repeat' (first | intro _ | with_reducible apply And.intro)) <;> (first | omega | (exfalso; omega)))
    · simp (contextual := true) (disch := omega) only [zWp, zNum, Int.cast_ofNat_Int, Prod.mk.injEq, and_true, true_and, implies_true, and_self, true_implies, false_implies, not_true_eq_false, not_false_eq_true, and_false, false_and, Int.reduceEq, Int.reduceLT, Int.reduceLE, Int.reduceNeg, Int.reduceAdd, Int.reduceSub, Int.reduceMul, Int.reduceToNat, Nat.reduceEqDiff, cond_true, cond_false, eP_lead, zP_isLevel_s h g, zRc5 h, zP_isEnd_s h g, eP_lead_59, eP_spot, ee, zgb_1, zgb_0, w] <;> ((repeat' (first | intro _ | with_reducible apply And.intro)) <;> (first | omega | (exfalso; omega)))
  · rw [if_neg hc]
    simp (contextual := true) (disch := omega) only [zWp, zNum, Int.cast_ofNat_Int, Prod.mk.injEq, and_true, true_and, implies_true, and_self, true_implies, false_implies, not_true_eq_false, not_false_eq_true, and_false, false_and, Int.reduceEq, Int.reduceLT, Int.reduceLE, Int.reduceNeg, Int.reduceAdd, Int.reduceSub, Int.reduceMul, Int.reduceToNat, Nat.reduceEqDiff, cond_true, cond_false, eP_lead, zP_isLevel_s h g, zRc5 h, zP_isEnd_s h g, eP_lead_59, eP_spot, ee, zgb_1, zgb_0, h] <;> ((repeat' (first | intro _ | with_reducible apply And.intro)) <;> (first | omega | (exfalso; omega)))
theorem zM_outlet_s (h : zR K x y S) (g : zGp y) (d : Nat) {r s l p e : Int} (r1 : -2147483648 ≤ r) (r2 : r < 2147483648) (s1 : -2147483648 ≤ s) (s2 : s < 2147483648) (l1 : -2147483648 ≤ l) (l2 : l < 2147483648) (p1 : -2147483648 ≤ p) (p2 : p < 2147483648) (e1 : -2147483648 ≤ e) (e2 : e < 2147483648) :
    zwp (zM_outlet (d + 4) (zI r) (zI s) (zI l) (zI p) (zI e) S) (fun q => q.1 = zI (sOutlet y r s l p e).1 ∧ zR K x (sOutlet y r s l p e).2 q.2) := by
  have b2 := zG2 g
  have b5 := zG5 g r
  rw [eM_outlet, sOutlet]
  have h0 := zR_s h (t := 11) (s := 0) rfl 0 (0 : Int32)
  generalize hS : ((zu S.1 11 0 0 (0 : Int32)), S.2) = S' at h0 ⊢
  have hS1 : zu S.1 11 0 0 (0 : Int32) = S'.1 := by rw [← hS]
  have hS2 : S.2 = S'.2 := by rw [← hS]
  try simp only [hS1, hS2]
  by_cases hc : zSl y r ∧ 0 ≤ s ∧ s < y 5 r ∧ 0 ≤ l ∧ l < 10 ∧ 0 ≤ p ∧ p < 4 ∧ (e = -1 ∨ zEn y e) ∧ ¬ (0 ≤ e ∧ e < 96 ∧ e / 8 = r)
  · have w := zWm6 h0 (k := 80 * r + 40 * s + 4 * l + p) (v := e) (by omega) (by omega) (by omega) (by omega)
    rw [if_pos hc]
    by_cases he : e = -1
    · subst he
      simp (contextual := true) (disch := omega) only [zWp, zNum, Int.cast_ofNat_Int, Prod.mk.injEq, and_true, true_and, implies_true, and_self, true_implies, false_implies, not_true_eq_false, not_false_eq_true, and_false, false_and, Int.reduceEq, Int.reduceLT, Int.reduceLE, Int.reduceNeg, Int.reduceAdd, Int.reduceSub, Int.reduceMul, Int.reduceToNat, Nat.reduceEqDiff, cond_true, cond_false, zM_isSelectors_s h0 g, zM_within_s S', zRm5 h0, zM_isEnd_s h0 g, eM_outlet_66, eM_outletAt, w] <;> ((repeat' (first | intro _ | with_reducible apply And.intro)) <;> (first | omega | (exfalso; omega)))
    · simp (contextual := true) (disch := omega) only [zWp, zNum, Int.cast_ofNat_Int, Prod.mk.injEq, and_true, true_and, implies_true, and_self, true_implies, false_implies, not_true_eq_false, not_false_eq_true, and_false, false_and, Int.reduceEq, Int.reduceLT, Int.reduceLE, Int.reduceNeg, Int.reduceAdd, Int.reduceSub, Int.reduceMul, Int.reduceToNat, Nat.reduceEqDiff, cond_true, cond_false, zM_isSelectors_s h0 g, zM_within_s S', zRm5 h0, zM_isEnd_s h0 g, eM_outlet_66, eM_outletAt, w] <;> ((repeat' (first | intro _ | with_reducible apply And.intro)) <;> (first | omega | (exfalso; omega)))
  · rw [if_neg hc]
    simp (contextual := true) (disch := omega) only [zWp, zNum, Int.cast_ofNat_Int, Prod.mk.injEq, and_true, true_and, implies_true, and_self, true_implies, false_implies, not_true_eq_false, not_false_eq_true, and_false, false_and, Int.reduceEq, Int.reduceLT, Int.reduceLE, Int.reduceNeg, Int.reduceAdd, Int.reduceSub, Int.reduceMul, Int.reduceToNat, Nat.reduceEqDiff, cond_true, cond_false, zM_isSelectors_s h0 g, zM_within_s S', zRm5 h0, zM_isEnd_s h0 g, eM_outlet_66, eM_outletAt, h0] <;> ((repeat' (first | intro _ | with_reducible apply And.intro)) <;> (first | omega | (exfalso; omega)))
theorem zX_path_s (h : zR K x y S) (g : zGp x) (hb : ∀ j, 0 ≤ x 22 j ∧ x 22 j ≤ 97) (d : Nat) {l i : Int} (h1 : -2147483648 ≤ l) (h2 : l < 2147483648) (h3 : -2147483648 ≤ i) (h4 : i < 2147483648) : zwp (zX_path (d + 2) (zI l) (zI i) S) (fun r => r.1 = zI (sPath x l i).1 ∧ zR K (sPath x l i).2 y r.2) := by
  have b11 := zG11 g
  have b22 := hb l
  rw [eX_path, sPath]
  by_cases hl : zLn x l
  · by_cases hc : x 15 l = 1
    · obtain ⟨a3, a5, a6, a10, a11, a29, a30, a8⟩ := zRLA h hl.1 hl.2 hc
      by_cases hi : 0 ≤ i ∧ i < x 22 l
      · have a29 := a29 i hi.1 hi.2
        rw [if_pos ⟨hl, hc, hi⟩]
        simp (contextual := true) (disch := omega) only [zWp, zNum, Int.cast_ofNat_Int, Prod.mk.injEq, and_true, true_and, implies_true, and_self, true_implies, false_implies, not_true_eq_false, not_false_eq_true, and_false, false_and, Int.reduceEq, Int.reduceLT, Int.reduceLE, Int.reduceNeg, Int.reduceAdd, Int.reduceSub, Int.reduceMul, Int.reduceToNat, Nat.reduceEqDiff, cond_true, cond_false, zC_isLine_s h g, zRD h, a5, a29, h] <;> ((repeat' (first | intro _ | with_reducible apply And.intro)) <;> (first | omega | (exfalso; omega)))
      · rw [if_neg (fun q => hi q.2.2)]
        simp (contextual := true) (disch := omega) only [zWp, zNum, Int.cast_ofNat_Int, Prod.mk.injEq, and_true, true_and, implies_true, and_self, true_implies, false_implies, not_true_eq_false, not_false_eq_true, and_false, false_and, Int.reduceEq, Int.reduceLT, Int.reduceLE, Int.reduceNeg, Int.reduceAdd, Int.reduceSub, Int.reduceMul, Int.reduceToNat, Nat.reduceEqDiff, cond_true, cond_false, zC_isLine_s h g, zRD h, a5, h] <;> ((repeat' (first | intro _ | with_reducible apply And.intro)) <;> (first | omega | (exfalso; omega)))
    · obtain ⟨a5, -⟩ := zRLQ h hl.1 hl.2 hc
      rw [if_neg (fun q => hc q.2.1)]
      simp (contextual := true) (disch := omega) only [zWp, zNum, Int.cast_ofNat_Int, Prod.mk.injEq, and_true, true_and, implies_true, and_self, true_implies, false_implies, not_true_eq_false, not_false_eq_true, and_false, false_and, Int.reduceEq, Int.reduceLT, Int.reduceLE, Int.reduceNeg, Int.reduceAdd, Int.reduceSub, Int.reduceMul, Int.reduceToNat, Nat.reduceEqDiff, cond_true, cond_false, zC_isLine_s h g, zRD h, a5, h] <;> ((repeat' (first | intro _ | with_reducible apply And.intro)) <;> (first | omega | (exfalso; omega)))
  · rw [if_neg (fun q => hl q.1)]
    simp (contextual := true) (disch := omega) only [zWp, zNum, Int.cast_ofNat_Int, Prod.mk.injEq, and_true, true_and, implies_true, and_self, true_implies, false_implies, not_true_eq_false, not_false_eq_true, and_false, false_and, Int.reduceEq, Int.reduceLT, Int.reduceLE, Int.reduceNeg, Int.reduceAdd, Int.reduceSub, Int.reduceMul, Int.reduceToNat, Nat.reduceEqDiff, cond_true, cond_false, zC_isLine_s h g, h] <;> ((repeat' (first | intro _ | with_reducible apply And.intro)) <;> (first | omega | (exfalso; omega)))
theorem zM_path_s (h : zR K x y S) (g : zGp y) (hb : ∀ j, 0 ≤ y 22 j ∧ y 22 j ≤ 97) (d : Nat) {l i : Int} (h1 : -2147483648 ≤ l) (h2 : l < 2147483648) (h3 : -2147483648 ≤ i) (h4 : i < 2147483648) : zwp (zM_path (d + 3) (zI l) (zI i) S) (fun r => r.1 = zI (sPath y l i).1 ∧ zR K x (sPath y l i).2 r.2) := by
  have b11 := zG11 g
  have b22 := hb l
  have b15 := zG15 g l
  rw [eM_path, sPath]
  have h0 := zR_s h (t := 11) (s := 0) rfl 0 (0 : Int32)
  generalize hS : ((zu S.1 11 0 0 (0 : Int32)), S.2) = S' at h0 ⊢
  have hS1 : zu S.1 11 0 0 (0 : Int32) = S'.1 := by rw [← hS]
  have hS2 : S.2 = S'.2 := by rw [← hS]
  try simp only [hS1, hS2]
  by_cases hc : zLn y l ∧ y 15 l = 1 ∧ 0 ≤ i ∧ i < y 22 l
  · rw [if_pos hc]
    simp (contextual := true) (disch := omega) only [zWp, zNum, Int.cast_ofNat_Int, Prod.mk.injEq, and_true, true_and, implies_true, and_self, true_implies, false_implies, not_true_eq_false, not_false_eq_true, and_false, false_and, Int.reduceEq, Int.reduceLT, Int.reduceLE, Int.reduceNeg, Int.reduceAdd, Int.reduceSub, Int.reduceMul, Int.reduceToNat, Nat.reduceEqDiff, cond_true, cond_false, zM_isLine_s h0 g, zRm15 h0, zRm22 h0, zM_within_s S', zRm23 h0, h0] <;> ((repeat' (first | intro _ | with_reducible apply And.intro)) <;> (first | omega | (exfalso; omega)))
  · rw [if_neg hc]
    simp (contextual := true) (disch := omega) only [zWp, zNum, Int.cast_ofNat_Int, Prod.mk.injEq, and_true, true_and, implies_true, and_self, true_implies, false_implies, not_true_eq_false, not_false_eq_true, and_false, false_and, Int.reduceEq, Int.reduceLT, Int.reduceLE, Int.reduceNeg, Int.reduceAdd, Int.reduceSub, Int.reduceMul, Int.reduceToNat, Nat.reduceEqDiff, cond_true, cond_false, zM_isLine_s h0 g, zRm15 h0, zRm22 h0, zM_within_s S', zRm23 h0, h0] <;> ((repeat' (first | intro _ | with_reducible apply And.intro)) <;> (first | omega | (exfalso; omega)))
end A2
