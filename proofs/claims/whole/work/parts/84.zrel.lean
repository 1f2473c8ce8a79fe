/-! RELEASE, the book's write, of both sides -/
def sFreeN (x : ZW) (l : Int) : Nat → ZW
  | 0 => x
  | n + 1 => xu (sFreeN x l n) 8 (x 23 (120 * l + n)) (-1)
def sRel (x : ZW) (l : Int) : ZW := xu (if x 17 l < 0 then xu (sFreeN x l (x 22 l).toNat) 22 l 0 else xu (xu (sFreeN x l (x 22 l).toNat) 22 l 0) 15 (x 17 l) 0) 15 l 0
def sWrite (x : ZW) (l u : Int) : ZW := if x 24 0 < 200 then xu (xu (xu (xu (xu x 25 (x 24 0) l) 26 (x 24 0) u) 27 (x 24 0) (x 21 l / 86400)) 28 (x 24 0) (x 1 0 / 86400)) 24 0 (x 24 0 + 1) else x
theorem sFreeN_g (x : ZW) (l : Int) {g : Nat} (hg : g ≠ 8) (k : Int) : ∀ n, sFreeN x l n g k = x g k
  | 0 => rfl
  | n + 1 => by
    show xu (sFreeN x l n) 8 _ _ g k = _
    rw [xu_g _ hg, sFreeN_g x l hg k n]
section RL
variable {K : ZS} {x y : ZW} {S : ZS}
theorem zM_end_122_s (d : Nat) {l u : Int} (hl : 0 ≤ l ∧ l < 40) (u1 : -2147483648 ≤ u) (u2 : u < 2147483648) (hn : 0 ≤ y 22 l ∧ y 22 l ≤ 97) (hp : ∀ i, 0 ≤ i → i < y 22 l → 0 ≤ y 23 (120 * l + i) ∧ y 23 (120 * l + i) < 116) (hr : -1 ≤ y 17 l ∧ y 17 l < 40) :
    ∀ (m n : Nat) (S : ZS), (n : Int) + m = y 22 l → zR K x (sFreeN y l n) S → zwp (zM_end_122 d (zI l) (zI u) (zI n) S) (fun r => r.1 = zI u ∧ zR K x (sRel y l) r.2)
  | 0, n, S, e, h => by
    have e22 := sFreeN_g y l (show 22 ≠ 8 by decide) l n
    have e17 := sFreeN_g y l (show 17 ≠ 8 by decide) l n
    have w1 := zWm22 h (k := l) (v := 0) (by omega) (by omega) (by omega) (by omega)
    have r22 := zRm22 h (k := l) (by omega) (by omega)
    have r17 := zRm17 h (k := l) (by omega) (by omega)
    rw [e22] at r22
    rw [e17] at r17
    rw [eM_end_122]
    unfold sRel
    rw [show (y 22 l).toNat = n by omega]
    by_cases h17 : y 17 l < 0
    · have w3 := zWm15 w1 (k := l) (v := 0) (by omega) (by omega) (by omega) (by omega)
      rw [if_pos h17]
      simp (contextual := true) (disch := omega) only [zWp, zNum, Int.cast_ofNat_Int, Prod.mk.injEq, and_true, true_and, implies_true, and_self, true_implies, false_implies, not_true_eq_false, not_false_eq_true, and_false, false_and, Int.reduceEq, Int.reduceLT, Int.reduceLE, Int.reduceNeg, Int.reduceAdd, Int.reduceSub, Int.reduceMul, Int.reduceToNat, Nat.reduceEqDiff, cond_true, cond_false, r22, r17, zu_tag, w3] <;> ((repeat' (first | intro _ | with_reducible apply And.intro)) <;> (first | omega | (exfalso; omega)))
    · have w2 := zWm15 w1 (k := y 17 l) (v := 0) (by omega) (by omega) (by omega) (by omega)
      have w3 := zWm15 w2 (k := l) (v := 0) (by omega) (by omega) (by omega) (by omega)
      rw [if_neg h17]
      simp (contextual := true) (disch := omega) only [zWp, zNum, Int.cast_ofNat_Int, Prod.mk.injEq, and_true, true_and, implies_true, and_self, true_implies, false_implies, not_true_eq_false, not_false_eq_true, and_false, false_and, Int.reduceEq, Int.reduceLT, Int.reduceLE, Int.reduceNeg, Int.reduceAdd, Int.reduceSub, Int.reduceMul, Int.reduceToNat, Nat.reduceEqDiff, cond_true, cond_false, r22, r17, zu_tag, w3] <;> ((repeat' (first | intro _ | with_reducible apply And.intro)) <;> (first | omega | (exfalso; omega)))
  | m + 1, n, S, e, h => by
    have e22 := sFreeN_g y l (show 22 ≠ 8 by decide) l n
    have e23 := sFreeN_g y l (show 23 ≠ 8 by decide) (120 * l + n) n
    have b23 := hp n (by omega) (by omega)
    have r22 := zRm22 h (k := l) (by omega) (by omega)
    have r23 := zRm23 h (k := 120 * l + n) (by omega) (by omega)
    rw [e22] at r22
    rw [e23] at r23
    have w1 := zWm8 h (k := y 23 (120 * l + n)) (v := -1) (by omega) (by omega) (by omega) (by omega)
    have ih := zM_end_122_s d hl u1 u2 hn hp hr m (n + 1) _ (by omega) w1
    rw [show ((n + 1 : Nat) : Int) = (n : Int) + 1 by omega] at ih
    rw [eM_end_122]
    simp (contextual := true) (disch := omega) only [zWp, zNum, Int.cast_ofNat_Int, Prod.mk.injEq, and_true, true_and, implies_true, and_self, true_implies, false_implies, not_true_eq_false, not_false_eq_true, and_false, false_and, Int.reduceEq, Int.reduceLT, Int.reduceLE, Int.reduceNeg, Int.reduceAdd, Int.reduceSub, Int.reduceMul, Int.reduceToNat, Nat.reduceEqDiff, cond_true, cond_false, r22, r23, ih] <;> ((repeat' (first | intro _ | with_reducible apply And.intro)) <;> (first | omega | (exfalso; omega)))
theorem zC_setHolder_2_s (d : Nat) {l : Int} (hl : 0 ≤ l) (hn : 0 ≤ x 22 l ∧ x 22 l ≤ 97) (hp : ∀ i, 0 ≤ i → i < x 22 l → 0 ≤ x 23 (120 * l + i) ∧ x 23 (120 * l + i) < 116) :
    ∀ (m n : Nat) (S : ZS), (n : Int) + m = x 22 l → zR K (sFreeN x l n) y S → S.1 2 l.toNat 5 = zI (x 22 l) → (∀ i, 0 ≤ i → i < x 22 l → S.1 29 l.toNat i.toNat = zI (x 23 (120 * l + i))) → zwp (zC_setHolder_2 d l.toNat (zI (-1)) (zI n) S) (fun r => zR K (sFreeN x l (x 22 l).toNat) y r)
  | 0, n, S, e, h, h5, h29 => by
    rw [eC_setHolder_2, show (x 22 l).toNat = n by omega]
    simp (contextual := true) (disch := omega) only [zWp, zNum, Int.cast_ofNat_Int, Prod.mk.injEq, and_true, true_and, implies_true, and_self, true_implies, false_implies, not_true_eq_false, not_false_eq_true, and_false, false_and, Int.reduceEq, Int.reduceLT, Int.reduceLE, Int.reduceNeg, Int.reduceAdd, Int.reduceSub, Int.reduceMul, Int.reduceToNat, Nat.reduceEqDiff, cond_true, cond_false, h5, h] <;> ((repeat' (first | intro _ | with_reducible apply And.intro)) <;> (first | omega | (exfalso; omega)))
  | m + 1, n, S, e, h, h5, h29 => by
    have b23 := hp n (by omega) (by omega)
    have r29 := h29 n (by omega) (by omega)
    have w1 := zWc8 h (k := x 23 (120 * l + n)) (v := -1) (by omega) (by omega) (by omega) (by omega)
    have ih := zC_setHolder_2_s d hl hn hp m (n + 1) _ (by omega) w1 (by simp [zu]; exact h5) (fun i i0 i1 => by simp [zu]; exact h29 i i0 i1)
    rw [show ((n + 1 : Nat) : Int) = (n : Int) + 1 by omega] at ih
    rw [eC_setHolder_2]
    simp (contextual := true) (disch := omega) only [zWp, zNum, Int.cast_ofNat_Int, Prod.mk.injEq, and_true, true_and, implies_true, and_self, true_implies, false_implies, not_true_eq_false, not_false_eq_true, and_false, false_and, Int.reduceEq, Int.reduceLT, Int.reduceLE, Int.reduceNeg, Int.reduceAdd, Int.reduceSub, Int.reduceMul, Int.reduceToNat, Nat.reduceEqDiff, cond_true, cond_false, h5, r29, ih] <;> ((repeat' (first | intro _ | with_reducible apply And.intro)) <;> (first | omega | (exfalso; omega)))
/-- a line's cells are cleared -/
def zCl (S : ZS) (l : Int) : ZS := (zu (zu (zu (zu (zu S.1 2 l.toNat 2 (zI 0)) 2 l.toNat 5 (zI 0)) 2 l.toNat 6 (zI 0)) 2 l.toNat 10 (zI (-1))) 2 l.toNat 11 (zI (-1)), S.2)
theorem zR_clear (h : zR K x y S) {l : Int} (hl : zLn x l) : zR K (xu (xu x 22 l 0) 15 l 0) y (zCl S l) := by
  have q := zRl h hl.1 hl.2
  have r := zRo_open h hl.1
  have r := zRo_g r (g := 22) (by simp) (v := 0) (by omega) (by omega)
  have r := zRo_g r (g := 15) (by simp) (v := 0) (by omega) (by omega)
  have r := zRo_c r (t := 2) (Or.inl rfl) 2 (zI 0)
  have r := zRo_c r (t := 2) (Or.inl rfl) 5 (zI 0)
  have r := zRo_c r (t := 2) (Or.inl rfl) 6 (zI 0)
  have r := zRo_c r (t := 2) (Or.inl rfl) 10 (zI (-1))
  have r := zRo_c r (t := 2) (Or.inl rfl) 11 (zI (-1))
  refine zRo_close r ?_
  have f15 : (xu (xu x 22 l 0) 15 l 0) 15 l = 0 := xu_s _ _ _ _
  have f12 : (xu (xu x 22 l 0) 15 l 0) 12 l = x 12 l := by rw [xu_g _ (by decide), xu_g _ (by decide)]
  unfold zLC zLQ
  rw [f15, f12]
  refine ⟨q.1, ?_, ?_, ?_, fun e => absurd e (by decide), fun _ => ⟨?_, ?_, ?_, ?_⟩⟩
  · simp [zCl, zu]; exact q.2.1
  · simp [zCl, zu]; exact q.2.2.1
  · simp [zCl, zu]
  · simp [zCl, zu]
  · simp [zCl, zu]
  · simp [zCl, zu]
  · simp [zCl, zu]
/-- another line that isn't calling gets quiet -/
theorem zR_quiet (h : zR K x y S) {w : Int} (hw : zLn x w) (hc : x 15 w ≠ 1) : zR K (xu x 15 w 0) y (zu S.1 2 w.toNat 2 (zI 0), S.2) := by
  have r := zRo_open h (l := w + 1) (by have := hw.1; omega)
  have r := zRo_w r (w := w) (v := 0) hw.1 (by omega) hc (by decide) (by omega) (by omega)
  by_cases hl : w + 1 < x 11 0
  · refine zRo_close r ?_
    have q := zRl h (j := w + 1) (by have := hw.1; omega) hl
    have e15 : (xu x 15 w 0) 15 (w + 1) = x 15 (w + 1) := xu_k x (by omega)
    have e : ∀ g', g' ≠ 15 → ∀ k, (xu x 15 w 0) g' k = x g' k := fun g' hg k => xu_g x hg
    have en : ∀ t' k', zu S.1 2 w.toNat 2 (zI 0) t' (w + 1).toNat k' = S.1 t' (w + 1).toNat k' := fun t' k' => zu_i _ (by have := hw.1; omega)
    unfold zLC zLA zLQ at q ⊢
    simp only [e15, en, e 12 (by decide), e 16 (by decide), e 17 (by decide), e 18 (by decide), e 19 (by decide), e 20 (by decide), e 21 (by decide), e 22 (by decide), e 23 (by decide), e 50 (by decide)]
    exact q
  · have e11 : xu x 15 w 0 11 0 = x 11 0 := xu_g x (by decide)
    exact ⟨r.1, fun j a b => r.2.1 j a b (by rw [e11] at b; omega), r.2.2.1, r.2.2.2.1, r.2.2.2.2.1, r.2.2.2.2.2.1, r.2.2.2.2.2.2.1⟩
theorem zC_release_s (h : zR K x y S) (g : zGp x) (d : Nat) {l : Int} (hl : zLn x l) (hc : x 15 l = 1) (hn : 0 ≤ x 22 l ∧ x 22 l ≤ 97) (hp : ∀ i, 0 ≤ i → i < x 22 l → 0 ≤ x 23 (120 * l + i) ∧ x 23 (120 * l + i) < 116) (hr : -1 ≤ x 17 l ∧ x 17 l < x 11 0) (hr2 : 0 ≤ x 17 l → x 15 (x 17 l) ≠ 1) :
    zwp (zC_release (d + 2) l.toNat S) (fun r => zR K (sRel x l) y r) := by
  have b11 := zG11 g
  obtain ⟨a3, a5, a6, a10, a11, a29, a30, a8⟩ := zRLA h hl.1 hl.2 hc
  obtain ⟨S1, e1, r1⟩ := zC_setHolder_2_s (K := K) (x := x) (y := y) d hl.1 hn hp (x 22 l).toNat 0 S (by omega) h a5 a29
  have e1 : zC_setHolder (d + 1) l.toNat (zI (-1)) S = some S1 := by rw [eC_setHolder]; exact e1
  have n1 : ∀ g, g ≠ 8 → ∀ k, sFreeN x l (x 22 l).toNat g k = x g k := fun g hg k => sFreeN_g x l hg k _
  have hl1 : zLn (sFreeN x l (x 22 l).toNat) l := by unfold zLn; rw [n1 11 (by decide)]; exact hl
  have hc1 : sFreeN x l (x 22 l).toNat 15 l = 1 := by rw [n1 15 (by decide)]; exact hc
  have g1 : zGp (sFreeN x l (x 22 l).toNat) := by
    have : ∀ n, zGp (sFreeN x l n) := by
      intro n
      induction n with
      | zero => exact g
      | succ n ih => exact zGp_8 ih _ (by omega)
    exact this _
  obtain ⟨-, -, -, b10, -⟩ := zRLA r1 hl1.1 hl1.2 hc1
  rw [n1 17 (by decide)] at b10
  have b11' := zG11 g1
  rw [n1 11 (by decide)] at b11'
  have rc15 := zRc15 h hl.1 hl.2
  rw [hc] at rc15
  have eLn : ∀ w, zLn (sFreeN x l (x 22 l).toNat) w = zLn x w := fun w => by unfold zLn; rw [n1 11 (by decide)]
  rw [eC_release]
  unfold sRel
  by_cases h17 : x 17 l < 0
  · have w := zR_clear r1 hl1
    rw [if_pos h17]
    unfold zCl at w
    simp (contextual := true) (disch := omega) only [zWp, zNum, Int.cast_ofNat_Int, Prod.mk.injEq, and_true, true_and, implies_true, and_self, true_implies, false_implies, not_true_eq_false, not_false_eq_true, and_false, false_and, Int.reduceEq, Int.reduceLT, Int.reduceLE, Int.reduceNeg, Int.reduceAdd, Int.reduceSub, Int.reduceMul, Int.reduceToNat, Nat.reduceEqDiff, cond_true, cond_false, rc15, e1, b10, zC_isLine_s r1 g1, eLn, eL_clear, w] <;> ((repeat' (first | intro _ | with_reducible apply And.intro)) <;> (first | omega | (exfalso; omega)))
  · have hw1 : zLn (sFreeN x l (x 22 l).toNat) (x 17 l) := by rw [eLn]; omega
    have w := zR_quiet r1 hw1 (by rw [n1 15 (by decide)]; exact hr2 (by omega))
    have hD := zRD r1 hw1.1 hw1.2
    have w2 := zR_clear w (l := l) hl1
    have hne : x 17 l ≠ l := fun e => by have := hr2 (by omega); rw [e] at this; exact this hc
    have hcomm : xu (xu (xu (sFreeN x l (x 22 l).toNat) 15 (x 17 l) 0) 22 l 0) 15 l 0 = xu (xu (xu (sFreeN x l (x 22 l).toNat) 22 l 0) 15 (x 17 l) 0) 15 l 0 := by rw [xu_comm _ (show 15 ≠ 22 by decide)]
    rw [hcomm] at w2
    rw [if_neg h17]
    unfold zCl at w2
    have hq : zLn x (x 17 l) := by omega
    simp (contextual := true) (disch := omega) only [zWp, zNum, Int.cast_ofNat_Int, Prod.mk.injEq, and_true, true_and, implies_true, and_self, true_implies, false_implies, not_true_eq_false, not_false_eq_true, and_false, false_and, Int.reduceEq, Int.reduceLT, Int.reduceLE, Int.reduceNeg, Int.reduceAdd, Int.reduceSub, Int.reduceMul, Int.reduceToNat, Nat.reduceEqDiff, cond_true, cond_false, rc15, e1, b10, zC_isLine_s r1 g1, eLn, hD, eL_clear, w2] <;> ((repeat' (first | intro _ | with_reducible apply And.intro)) <;> (first | omega | (exfalso; omega)))
end RL
