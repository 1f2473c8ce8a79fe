/-! LIFT of the class -/
section LC
variable {K : ZS} {x y : ZW} {S : ZS}
/-- what hold leaves, S's line cells being told -/
def zHs (S : ZS) (l n e st : Int) : ZS := (zu (zu (zu (zu (zu (zu S.1 39 0 e.toNat (zI l)) 29 l.toNat n.toNat (zI e)) 2 l.toNat 5 (zI (n + 1))) 2 l.toNat 8 (zI 0)) 2 l.toNat 9 (zI 0)) 2 l.toNat 3 (zI st), S.2)
theorem zC_hold_s (S : ZS) (d : Nat) {l n e f s0 : Int} (hix : S.1 2 l.toNat 0 = zI l) (hn : S.1 2 l.toNat 5 = zI n) (hn2 : 0 ≤ n ∧ n < 97) (he : 0 ≤ e ∧ e < 116) (hf : e < 96 → S.1 38 0 e.toNat = zI f) (hf2 : 96 ≤ e → f = 0) (hf3 : 0 ≤ f ∧ f ≤ 1) (hs : 0 ≤ s0 ∧ s0 ≤ 6) :
    zC_hold (d + 2) l.toNat (zI e) (zI s0) S = some (zHs S l n e (if f = 0 then s0 else 2)) := by
  refine zwp_eq ?_
  rw [eC_hold]
  unfold zHs
  by_cases h0 : f = 0
  · rw [if_pos h0]
    simp (contextual := true) (disch := omega) only [zWp, zNum, Int.cast_ofNat_Int, Prod.mk.injEq, and_true, true_and, implies_true, and_self, true_implies, false_implies, not_true_eq_false, not_false_eq_true, and_false, false_and, Int.reduceEq, Int.reduceLT, Int.reduceLE, Int.reduceNeg, Int.reduceAdd, Int.reduceSub, Int.reduceMul, Int.reduceToNat, Nat.reduceEqDiff, cond_true, cond_false, eL_addHeld, eP_isFaulty, zu_tag, zu_pl, zu_same, hix, hn, hf, h0] <;> ((repeat' (first | intro _ | with_reducible apply And.intro)) <;> (first | omega | (exfalso; omega)))
  · rw [if_neg h0]
    simp (contextual := true) (disch := omega) only [zWp, zNum, Int.cast_ofNat_Int, Prod.mk.injEq, and_true, true_and, implies_true, and_self, true_implies, false_implies, not_true_eq_false, not_false_eq_true, and_false, false_and, Int.reduceEq, Int.reduceLT, Int.reduceLE, Int.reduceNeg, Int.reduceAdd, Int.reduceSub, Int.reduceMul, Int.reduceToNat, Nat.reduceEqDiff, cond_true, cond_false, eL_addHeld, eP_isFaulty, zu_tag, zu_pl, zu_same, hix, hn, hf, h0] <;> ((repeat' (first | intro _ | with_reducible apply And.intro)) <;> (first | omega | (exfalso; omega)))
theorem zC_take_10_s (h : zR K x y S) (g : zGp x) (h40 : ∀ e, x 40 e = 0) (d : Nat) {l : Int} (hl : zLn x l) : ∀ (m : Nat) (k : Int), 0 ≤ k → k + m = x 4 (x 12 l) →
    zC_take_10 (d + 2) l.toNat (zI (8 * x 12 l)) (zI (8 * x 12 l + k)) S =
      if zfst (fun e => decide (zFr x e)) m (8 * x 12 l + k) < 0 then some (zI 7, S) else
      (zC_hold (d + 2) l.toNat (zI (zfst (fun e => decide (zFr x e)) m (8 * x 12 l + k))) (zI 0) (zu S.1 2 l.toNat 2 (zI 1), S.2)).bind (fun r2 => some (r2.1 2 l.toNat 3, r2))
  | 0, k, k0, e => by
    have b12 := zG12 g l
    have b4 := zG4 g (x 12 l)
    rw [eC_take_10, zRc12 h hl.1 hl.2, zI_zx (by omega) (by omega), zRc4 h (by omega) (by omega), zI_add, zg_t (by rw [zI_in (by omega) (by omega)]; omega), zif_pos (by rw [zI_le (by omega) (by omega) (by omega) (by omega)]; omega)]
    rfl
  | m + 1, k, k0, e => by
    have b12 := zG12 g l
    have b4 := zG4 g (x 12 l)
    have ih := zC_take_10_s h g h40 d hl m (k + 1) (by omega) (by omega)
    have e2 : 8 * x 12 l + (k + 1) = 8 * x 12 l + k + 1 := by omega
    rw [e2] at ih
    rw [eC_take_10, zRc12 h hl.1 hl.2, zI_zx (by omega) (by omega), zRc4 h (by omega) (by omega), zI_add, zg_t (by rw [zI_in (by omega) (by omega)]; omega), zif_neg (by rw [zI_le (by omega) (by omega) (by omega) (by omega)]; omega), zP_canTake_s h g d (by omega) (by omega)]
    show zif (zb _ = 0) _ _ = _
    by_cases hp : zFr x (8 * x 12 l + k)
    · rw [zfst_y _ _ _ (decide_eq_true hp), if_neg (by omega), zif_neg (by rw [zb_0]; omega)]
      rfl
    · rw [zfst_n _ _ _ (decide_eq_false hp), zif_pos (by rw [zb_0]; have := h40 (8 * x 12 l + k); omega), zI_n1, zI_add]
      exact ih
/-- a line that isn't calling holds what a lifted one holds but for its own cells -/
theorem zLC_lift (h : zR K x y S) (g : zGp x) {l : Int} (hl : zLn x l) (hq : x 15 l = 0) (hb : ∀ j, x 22 j ≤ 120) {e st : Int} (he : 0 ≤ e ∧ e < 116) (hst : st = sLst x e) : zR K (sLiftTo x l e) y (zHs (zu S.1 2 l.toNat 2 (zI 1), S.2) l 0 e st) := by
  have b := (zRbx h)
  have bl : 0 ≤ l := hl.1
  have e22 : sLift0 x l 22 l = 0 := (sLift0_e x l).2.2
  have r := zRo_open h bl
  have r := zRo_g r (g := 15) (by simp) (v := 1) (by omega) (by omega)
  have r := zRo_g r (g := 22) (by simp) (v := 0) (by omega) (by omega)
  have r := zRo_g r (g := 18) (by simp) (v := 0) (by omega) (by omega)
  have r := zRo_g r (g := 20) (by simp) (v := 0) (by omega) (by omega)
  have r := zRo_g r (g := 17) (by simp) (v := -1) (by omega) (by omega)
  have r := zRo_g r (g := 21) (by simp) (v := -1) (by omega) (by omega)
  have r : zRo K l (sLift0 x l) y S := r
  have r := zRo_c r (t := 2) (Or.inl rfl) 2 (zI 1)
  have bl2 := zG11 g
  have r := zRo_x r (g := 8) (t := 39) (off := 0) (len := 116) (by decide) (by decide) (k := e) (v := l) he.1 he.2 (by omega) (by omega)
  rw [Nat.zero_add] at r
  have r := zRo_g23 r (m := sLift0 x l 22 l) (v := e) (by intro j; simp only [sLift0, xu]; have := hb j; simp; split <;> omega) (by omega) (by omega) (by omega) (by omega)
  have r := zRo_g r (g := 22) (by simp) (v := sLift0 x l 22 l + 1) (by omega) (by omega)
  have r := zRo_g r (g := 16) (by simp) (v := sLst x e) (by unfold sLst; split <;> omega) (by unfold sLst; split <;> omega)
  have r : zRo K l (sLiftTo x l e) y _ := r
  have r := zRo_c r (t := 29) (Or.inr (Or.inl rfl)) (0 : Int).toNat (zI e)
  have r := zRo_c r (t := 2) (Or.inl rfl) 5 (zI (0 + 1))
  have r := zRo_c r (t := 2) (Or.inl rfl) 8 (zI 0)
  have r := zRo_c r (t := 2) (Or.inl rfl) 9 (zI 0)
  have r := zRo_c r (t := 2) (Or.inl rfl) 3 (zI st)
  refine zRo_close r ?_
  have q := zRl h hl.1 hl.2
  have qq := zRLQ h hl.1 hl.2 (by omega)
  have f12 : sLiftTo x l e 12 l = x 12 l := by simp [sLiftTo, sHold, sLift0, xu]
  have f15 : sLiftTo x l e 15 l = 1 := by simp [sLiftTo, sHold, sLift0, xu]
  have f16 : sLiftTo x l e 16 l = st := by rw [hst]; simp [sLiftTo, xu]
  have f17 : sLiftTo x l e 17 l = -1 := by simp [sLiftTo, sHold, sLift0, xu]
  have f18 : sLiftTo x l e 18 l = 0 := by simp [sLiftTo, sHold, sLift0, xu]
  have f20 : sLiftTo x l e 20 l = 0 := by simp [sLiftTo, sHold, sLift0, xu]
  have f21 : sLiftTo x l e 21 l = -1 := by simp [sLiftTo, sHold, sLift0, xu]
  have f22 : sLiftTo x l e 22 l = 1 := by simp [sLiftTo, sHold, sLift0, xu]
  have f23 : sLiftTo x l e 23 (120 * l + 0) = e := by simp [sLiftTo, sHold, sLift0, xu]
  unfold zLC zLA
  rw [f12, f15, f16, f17, f18, f20, f21, f22]
  refine ⟨q.1, ?_, ?_, ?_, fun _ => ⟨?_, ?_, ?_, ?_, ?_, fun i i0 i1 => ?_, fun i i0 i1 i2 => by omega, fun _ => ⟨?_, fun _ => ?_, fun h => by omega⟩⟩, fun h => absurd rfl h⟩
  · simp [zHs, zu]; exact q.2.1
  · simp [zHs, zu]; exact q.2.2.1
  · simp [zHs, zu]
  · simp [zHs, zu]
  · simp [zHs, zu]
  · simp [zHs, zu]; exact qq.2.1
  · simp [zHs, zu]; exact qq.2.2.1
  · simp [zHs, zu]; exact qq.2.2.2
  · have e0 : i = 0 := by omega
    subst e0
    rw [f23]
    simp [zHs, zu]
  · simp [zHs, zu]
  · simp [zHs, zu]
theorem zC_take_s (h : zR K x y S) (g : zGp x) (h40 : ∀ e, x 40 e = 0) (hb : ∀ j, x 22 j ≤ 120) (d : Nat) {l : Int} (hl : zLn x l) (hq : x 15 l = 0) :
    zwp (zC_take (d + 3) l.toNat S) (fun r => (r.1 = zI (sLift x l).1 ∧ zR K (sLift x l).2 y r.2)) := by
  have b12 := zG12 g l
  have b4 := zG4 g (x 12 l)
  have bf := sFF_b g b12
  rw [eC_take, zRc12 h hl.1 hl.2, zI_n8, zI_mul, show x 12 l * 8 = 8 * x 12 l by omega]
  have q := zC_take_10_s h g h40 d hl (x 4 (x 12 l)).toNat 0 (by omega) (by omega)
  rw [show 8 * x 12 l + 0 = 8 * x 12 l by omega] at q
  rw [q]
  have e : zfst (fun e => decide (zFr x e)) (x 4 (x 12 l)).toNat (8 * x 12 l) = sFF x (x 12 l) := rfl
  have hlq : zLn x l ∧ x 15 l = 0 := ⟨hl, hq⟩
  rw [e, sLift, if_pos hlq]
  by_cases hf : sFF x (x 12 l) < 0
  · rw [if_pos hf, if_pos hf, zwp_some]
    exact ⟨rfl, h⟩
  · rw [if_neg hf, if_neg hf]
    have hLQ := zRLQ h hl.1 hl.2 (by omega)
    have b10 := zG10 g (sFF x (x 12 l))
    have hh := zC_hold_s (zu S.1 2 l.toNat 2 (zI 1), S.2) d (l := l) (n := 0) (e := sFF x (x 12 l)) (f := x 10 (sFF x (x 12 l))) (s0 := 0)
      (by simp [zu]; exact zRix h hl.1 hl.2) (by simp [zu]; exact hLQ.1) (by omega) (by omega) (fun q => by simp [zu]; exact zRc10 h (by omega) q) (fun q => (zGj g q).2) (by omega) (by omega)
    rw [hh]
    show zwp (some _) _
    rw [zwp_some]
    refine ⟨?_, zLC_lift h g hl hq hb (by omega) rfl⟩
    unfold zHs
    exact zu_same _ _ _ _ _
theorem zX_lift_s (h : zR K x y S) (g : zGp x) (h40 : ∀ e, x 40 e = 0) (hb : ∀ j, x 22 j ≤ 120) (d : Nat) {l : Int} (h1 : -2147483648 ≤ l) (h2 : l < 2147483648) :
    zwp (zX_lift (d + 4) (zI l) S) (fun r => (r.1 = zI (sLift x l).1 ∧ zR K (sLift x l).2 y r.2)) := by
  have b11 := zG11 g
  rw [eX_lift]
  by_cases hc : zLn x l ∧ x 15 l = 0
  · have q := zC_take_s h g h40 hb d hc.1 hc.2
    obtain ⟨r, e, q⟩ := q
    have e : (zci (zcall (d + 3)) 6 [zr 0 0, zo (some (2, l.toNat))] S) = some r := e
    simp (contextual := true) (disch := omega) only [zWp, zNum, Int.cast_ofNat_Int, Prod.mk.injEq, and_true, true_and, implies_true, and_self, true_implies, false_implies, not_true_eq_false, not_false_eq_true, and_false, false_and, Int.reduceEq, Int.reduceLT, Int.reduceLE, Int.reduceNeg, Int.reduceAdd, Int.reduceSub, Int.reduceMul, Int.reduceToNat, Nat.reduceEqDiff, cond_true, cond_false, zC_isQuiet_s h g, zRD h, e, q] <;> ((repeat' (first | intro _ | with_reducible apply And.intro)) <;> (first | omega | (exfalso; omega)))
  · rw [sLift, if_neg hc]
    simp (contextual := true) (disch := omega) only [zWp, zNum, Int.cast_ofNat_Int, Prod.mk.injEq, and_true, true_and, implies_true, and_self, true_implies, false_implies, not_true_eq_false, not_false_eq_true, and_false, false_and, Int.reduceEq, Int.reduceLT, Int.reduceLE, Int.reduceNeg, Int.reduceAdd, Int.reduceSub, Int.reduceMul, Int.reduceToNat, Nat.reduceEqDiff, cond_true, cond_false, zC_isQuiet_s h g, h] <;> ((repeat' (first | intro _ | with_reducible apply And.intro)) <;> (first | omega | (exfalso; omega)))
end LC
