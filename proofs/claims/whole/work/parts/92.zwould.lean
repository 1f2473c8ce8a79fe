/-! WOULD of the class -/
abbrev sTry (x : ZW) (l v m : Int) : Prop := zLn x l ∧ x 15 l = 0 ∧ 0 ≤ v ∧ v ≤ 99999 ∧ 1 ≤ m ∧ m ≤ 5
def sAt (x : ZW) (l v m : Int) : Int := if sFF x (x 12 l) < 0 then 7 else (sMk x l v m m.toNat) 16 l
def sWould (x : ZW) (l v m : Int) : Int × ZW := (if sTry x l v m then sAt x l v m else -1, x)
section WO
variable {K : ZS} {x y : ZW} {S : ZS}
theorem zX_mayDial_s (h : zR K x y S) (g : zGp x) (d : Nat) {l v m : Int} (l1 : -2147483648 ≤ l) (l2 : l < 2147483648) (v1 : -2147483648 ≤ v) (v2 : v < 2147483648) (m1 : -2147483648 ≤ m) (m2 : m < 2147483648) : zX_mayDial (d + 2) (zI l) (zI v) (zI m) S = some (zb (sTry x l v m), S) := by
  refine zwp_eq ?_
  rw [eX_mayDial]
  simp (contextual := true) (disch := omega) only [zWp, zNum, Int.cast_ofNat_Int, Prod.mk.injEq, and_true, true_and, implies_true, and_self, true_implies, false_implies, not_true_eq_false, not_false_eq_true, and_false, false_and, Int.reduceEq, Int.reduceLT, Int.reduceLE, Int.reduceNeg, Int.reduceAdd, Int.reduceSub, Int.reduceMul, Int.reduceToNat, Nat.reduceEqDiff, cond_true, cond_false, zC_isQuiet_s h g] <;> ((repeat' (first | intro _ | with_reducible apply And.intro)) <;> (first | omega | (exfalso; omega)))
/-- release of a line that make has lifted, or not -/
theorem zC_back_s (hx : zR K x y S) (g : zGd x) (d : Nat) {l v m : Int} (hl : zLn x l) (hq : x 15 l = 0) {S1 : ZS} (h1 : zR K (if sFF x (x 12 l) < 0 then x else sMk x l v m m.toNat) y S1) : zwp (zC_release (d + 2) l.toNat S1) (fun r => zR K x y r) := by
  by_cases hf : sFF x (x 12 l) < 0
  · rw [if_pos hf] at h1
    rw [eC_release, zRc15 h1 hl.1 hl.2, hq, zif_neg (by decide), zwp_some]
    exact h1
  · rw [if_neg hf] at h1
    obtain ⟨a1, a2, a3, a4⟩ := sMk_z g (v := v) (m := m) hl hq hf m.toNat
    obtain ⟨c22, cp, c17, c17', -⟩ := zCl_e a1 a2 a3
    refine zwp_mono (zC_release_s h1 a1.1 d a2 a3 (by omega) cp c17 c17') (fun r hr => ?_)
    exact zR_irr hr (zCq_rel (zKe_M g hl hq hf m.toNat) a1 a2 a3 hq) (by omega) (zRbx hx) (fun j => by have := g.2.1 j; omega)
theorem zX_would_s (h : zR K x y S) (g : zGd x) (h40 : ∀ e, x 40 e = 0) (d : Nat) {l v m : Int} (l1 : -2147483648 ≤ l) (l2 : l < 2147483648) (v1 : -2147483648 ≤ v) (v2 : v < 2147483648) (m1 : -2147483648 ≤ m) (m2 : m < 2147483648) : zwp (zX_would (d + 6) (zI l) (zI v) (zI m) S) (fun r => r.1 = zI (sWould x l v m).1 ∧ zR K (sWould x l v m).2 y r.2) := by
  have b11 := zG11 g.1
  rw [eX_would, sWould]
  by_cases hc : sTry x l v m
  · obtain ⟨r, e1, e2, e3⟩ := zC_make_s h g h40 d hc.1 hc.2.1 ⟨hc.2.2.1, hc.2.2.2.1⟩ hc.2.2.2.2
    obtain ⟨rv, S1⟩ := r
    have e2 : rv = zI (sAt x l v m) := e2
    subst e2
    have e1 : zci (zcall (d + 5)) 11 [zr 0 0, zo (some (2, l.toNat)), zi (zI v), zi (zI m)] S = some (zI (sAt x l v m), S1) := e1
    obtain ⟨S2, e4, e5⟩ := zC_back_s h g (d + 3) hc.1 hc.2.1 e3
    have e4 : zcv (zcall (d + 5)) 12 [zr 0 0, zo (some (2, l.toNat))] S1 = some S2 := e4
    have hD : S1.2.2.1 20 0 l.toNat = some (2, l.toNat) := by
      have e3 : zR K (if sFF x (x 12 l) < 0 then x else sMk x l v m m.toNat) y S1 := e3
      by_cases hf : sFF x (x 12 l) < 0
      · rw [if_pos hf] at e3
        exact zRD e3 hc.1.1 hc.1.2
      · rw [if_neg hf] at e3
        obtain ⟨a1, a2, a3, a4⟩ := sMk_z g (v := v) (m := m) hc.1 hc.2.1 hf m.toNat
        exact zRD e3 a2.1 a2.2
    rw [if_pos hc]
    simp (contextual := true) (disch := omega) only [zWp, zNum, Int.cast_ofNat_Int, Prod.mk.injEq, and_true, true_and, implies_true, and_self, true_implies, false_implies, not_true_eq_false, not_false_eq_true, and_false, false_and, Int.reduceEq, Int.reduceLT, Int.reduceLE, Int.reduceNeg, Int.reduceAdd, Int.reduceSub, Int.reduceMul, Int.reduceToNat, Nat.reduceEqDiff, cond_true, cond_false, zX_mayDial_s h g.1, zRD h, e1, hD, e4, e5] <;> ((repeat' (first | intro _ | with_reducible apply And.intro)) <;> (first | omega | (exfalso; omega)))
  · rw [if_neg hc]
    simp (contextual := true) (disch := omega) only [zWp, zNum, Int.cast_ofNat_Int, Prod.mk.injEq, and_true, true_and, implies_true, and_self, true_implies, false_implies, not_true_eq_false, not_false_eq_true, and_false, false_and, Int.reduceEq, Int.reduceLT, Int.reduceLE, Int.reduceNeg, Int.reduceAdd, Int.reduceSub, Int.reduceMul, Int.reduceToNat, Nat.reduceEqDiff, cond_true, cond_false, zX_mayDial_s h g.1, h] <;> ((repeat' (first | intro _ | with_reducible apply And.intro)) <;> (first | omega | (exfalso; omega)))
end WO
