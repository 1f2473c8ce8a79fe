/-! DIAL of the class, whole -/
section CE
variable {K : ZS} {x y : ZW} {S : ZS}
theorem zC_stepFinal_s (h : zR K x y S) (g : zGp x) (n : Nat) {l a u : Int} (hl : zLn x l) (hc : x 15 l = 1) (h16 : x 16 l ≤ 1) (ha : 0 ≤ a ∧ a < 96) (h20 : 0 ≤ x 20 l ∧ x 20 l ≤ 2) (h9 : x 20 l = 2 → S.1 2 l.toNat 9 = zI u ∧ 0 ≤ u ∧ u < 100) :
    zwp (zC_stepFinal (n + 2) l.toNat (zI a) S) (fun r => zR K (if x 20 l < 2 then xu x 16 l 1 else sFin x l (zlineOf x (a / 8) u)) y r) := by
  obtain ⟨a3, a5, a6, a10, a11, a29, a30, a8⟩ := zRLA h hl.1 hl.2 hc
  have a8 := (a8 h16).1
  have b11 := zG11 g
  rw [eC_stepFinal]
  by_cases h2 : x 20 l < 2
  · have w1 := zR_st h hl hc (s := 1) (by omega) (by omega)
    rw [if_pos h2]
    simp (contextual := true) (disch := omega) only [zWp, zNum, Int.cast_ofNat_Int, Prod.mk.injEq, and_true, true_and, implies_true, and_self, true_implies, false_implies, not_true_eq_false, not_false_eq_true, and_false, false_and, Int.reduceEq, Int.reduceLT, Int.reduceLE, Int.reduceNeg, Int.reduceAdd, Int.reduceSub, Int.reduceMul, Int.reduceToNat, Nat.reduceEqDiff, cond_true, cond_false, a8, w1] <;> ((repeat' (first | intro _ | with_reducible apply And.intro)) <;> (first | omega | (exfalso; omega)))
  · obtain ⟨h9, hu⟩ := h9 (by omega)
    have q := zC_lineAt_s h g n (a := a) (n := u) ha hu
    have bw := zlineOf_b g (a / 8) u
    have b15 := zG15 g (zlineOf x (a / 8) u)
    rw [if_neg h2]
    unfold sFin
    generalize zlineOf x (a / 8) u = w at q bw b15 ⊢
    by_cases hw : w < 0
    · have w1 := zR_st h hl hc (s := 4) (by omega) (by omega)
      rw [if_pos hw]
      simp (contextual := true) (disch := omega) only [zWp, zNum, Int.cast_ofNat_Int, Prod.mk.injEq, and_true, true_and, implies_true, and_self, true_implies, false_implies, not_true_eq_false, not_false_eq_true, and_false, false_and, Int.reduceEq, Int.reduceLT, Int.reduceLE, Int.reduceNeg, Int.reduceAdd, Int.reduceSub, Int.reduceMul, Int.reduceToNat, Nat.reduceEqDiff, cond_true, cond_false, a8, h9, q, zC_isQuiet_s h g, w1] <;> ((repeat' (first | intro _ | with_reducible apply And.intro)) <;> (first | omega | (exfalso; omega)))
    · rw [if_neg hw]
      by_cases hq : x 15 w = 0
      · have w1 := zR_ring h hl hc (w := w) (by omega) (by omega) (by omega)
        rw [if_pos hq]
        simp (contextual := true) (disch := omega) only [zWp, zNum, Int.cast_ofNat_Int, Prod.mk.injEq, and_true, true_and, implies_true, and_self, true_implies, false_implies, not_true_eq_false, not_false_eq_true, and_false, false_and, Int.reduceEq, Int.reduceLT, Int.reduceLE, Int.reduceNeg, Int.reduceAdd, Int.reduceSub, Int.reduceMul, Int.reduceToNat, Nat.reduceEqDiff, cond_true, cond_false, a8, h9, q, zC_isQuiet_s h g, zRD h, w1] <;> ((repeat' (first | intro _ | with_reducible apply And.intro)) <;> (first | omega | (exfalso; omega)))
      · have w1 := zR_st h hl hc (s := 3) (by omega) (by omega)
        rw [if_neg hq]
        simp (contextual := true) (disch := omega) only [zWp, zNum, Int.cast_ofNat_Int, Prod.mk.injEq, and_true, true_and, implies_true, and_self, true_implies, false_implies, not_true_eq_false, not_false_eq_true, and_false, false_and, Int.reduceEq, Int.reduceLT, Int.reduceLE, Int.reduceNeg, Int.reduceAdd, Int.reduceSub, Int.reduceMul, Int.reduceToNat, Nat.reduceEqDiff, cond_true, cond_false, a8, h9, q, zC_isQuiet_s h g, w1] <;> ((repeat' (first | intro _ | with_reducible apply And.intro)) <;> (first | omega | (exfalso; omega)))
/-- the class's step -/
theorem zC_step_20_s (h : zR K x y S) (g : zGp x) (h40 : ∀ e, x 40 e = 0) (hb : ∀ j, x 22 j ≤ 120) (n : Nat) {l d : Int} (hl : zLn x l) (hc : x 15 l = 1) (h16 : x 16 l ≤ 1) (hd : 0 ≤ d ∧ d ≤ 9) (cs : zCs x l) (c20 : ¬ zEg x (sHead x l) → x 20 l = 0 ∧ x 22 l < 97) :
    zwp (zC_step_20 (n + 3) l.toNat (zI d) S) (fun r => ∀ z, z = sStep x l d → r.1 = zI (z 16 l) ∧ zR K z y r.2) := by
  obtain ⟨c22, cE, c18, c20', c20f, c50, c16⟩ := cs
  have b11 := zG11 g
  have A := zRLA h hl.1 hl.2 hc
  obtain ⟨a3, a5, a6, a10, a11, a29, a30, a8⟩ := A
  obtain ⟨a8, a9, a9'⟩ := a8 h16
  have e1 := zL_noteDigit_e S (n + 2) (l := l) (t := x 18 l) (a := x 20 l) (d := d) a6 a8 (by omega)
  have r1 := zR_note h hl hc h16 (by omega) (by omega) hd
  have cell9 : (zNs S l (x 18 l) (x 20 l) d).1 2 l.toNat 9 = S.1 2 l.toNat 9 * zI 10 + zI d := by simp [zNs, zu]
  have n1 : ∀ g, g ≠ 18 → g ≠ 19 → g ≠ 20 → g ≠ 50 → ∀ k, sN x l d g k = x g k := by
    intro g e18 e19 e20 e50 k
    unfold sN
    rw [xu_g _ e20]
    split
    · rw [xu_g _ e50, sTk_g _ _ e18, sNd_g _ _ _ e19]
    · rw [sTk_g _ _ e18, sNd_g _ _ _ e19]
  have f20 : sN x l d 20 l = x 20 l + 1 := xu_s _ _ _ _
  have n1' : ∀ g, g ≠ 18 → g ≠ 19 → g ≠ 20 → g ≠ 50 → sN x l d g = x g := fun g a b c d => by funext k; exact n1 g a b c d k
  generalize hS1 : zNs S l (x 18 l) (x 20 l) d = S1 at e1 r1 cell9
  have eNE : sEd (sTk (sNd x l d) l) l d = xu (sN x l d) 16 l 1 := by
    have := sN_Ed x l d 1
    rw [this]
    exact (xu_id _ _ _ _ (sEd_16 _ _ _)).symm
  have eNE2 : ∀ s, xu (sEd (sTk (sNd x l d) l) l d) 16 l s = xu (sN x l d) 16 l s := fun s => (sN_Ed x l d s).symm
  have e20E : sEd (sTk (sNd x l d) l) l d 20 l = x 20 l + 1 := by rw [sEd_20, sTk_g _ _ (by decide), sNd_g _ _ _ (by decide)]
  have e50E : sEd (sTk (sNd x l d) l) l d 50 l = if x 20 l = 0 then d else x 50 l := by rw [sEd_50, sTk_g _ _ (by decide), sNd_g _ _ _ (by decide), sTk_g _ _ (by decide), sNd_g _ _ _ (by decide)]
  have g1 : zGp (sN x l d) := zGp_e g (fun g' h' h8 h15 => n1' g' (by omega) (by omega) (by omega) (by omega)) (by rw [n1' 8 (by decide) (by decide) (by decide) (by decide)]; exact zG8 g) (by rw [n1' 15 (by decide) (by decide) (by decide) (by decide)]; exact zG15 g)
  have hl1 : zLn (sN x l d) l := by unfold zLn; rw [n1 11 (by decide) (by decide) (by decide) (by decide)]; exact hl
  have hc1 : sN x l d 15 l = 1 := by rw [n1 15 (by decide) (by decide) (by decide) (by decide)]; exact hc
  have h161 : sN x l d 16 l ≤ 1 := by rw [n1 16 (by decide) (by decide) (by decide) (by decide)]; exact h16
  have eh : sHead (sN x l d) l = sHead x l := by unfold sHead; rw [n1' 23 (by decide) (by decide) (by decide) (by decide), n1' 22 (by decide) (by decide) (by decide) (by decide)]
  have q2 := zL_head_s r1 (n + 2) hl1 hc1 (by rw [n1 22 (by decide) (by decide) (by decide) (by decide)]; omega)
  rw [eh] at q2
  have b4 := zG4 g (sHead x l / 8)
  have b2 := zG2 g
  have b3 := zG3 g (sHead x l / 8)
  have q3 := zP_isJunction_s S1 (n + 2) (a := sHead x l) (by omega) (by omega)
  have q4 := zP_isFinal_s r1 g1 (n + 2) (a := sHead x l) (by omega) (by omega)
  rw [n1 3 (by decide) (by decide) (by decide) (by decide)] at q4
  obtain ⟨A3, A5, A6, A10, A11, A29, A30, A8⟩ := zRLA r1 hl1.1 hl1.2 hc1
  have A8 := (A8 h161).1
  rw [f20] at A8
  unfold sStep
  rw [eC_step_20]
  by_cases hE : zEg x (sHead x l)
  · rw [if_pos hE]
    by_cases hJ : 100 ≤ sHead x l
    · rw [if_pos hJ]
      unfold sJun
      rw [e20E]
      by_cases h3 : x 20 l + 1 = 3
      · have w := zR_st r1 hl1 hc1 (s := 5) (by omega) (by omega)
        rw [if_pos h3, eNE2]
        have e16 : xu (sN x l d) 16 l 5 16 l = 5 := xu_s _ _ _ _
        simp (contextual := true) (disch := omega) only [zWp, zNum, Int.cast_ofNat_Int, Prod.mk.injEq, and_true, true_and, implies_true, and_self, true_implies, false_implies, not_true_eq_false, not_false_eq_true, and_false, false_and, Int.reduceEq, Int.reduceLT, Int.reduceLE, Int.reduceNeg, Int.reduceAdd, Int.reduceSub, Int.reduceMul, Int.reduceToNat, Nat.reduceEqDiff, cond_true, cond_false, e1, q2, q3, q4, A8, zu_same, w, e16] <;> ((repeat' (first | intro _ | with_reducible apply And.intro)) <;> (first | omega | (exfalso; omega)))
      · have w := zR_st r1 hl1 hc1 (s := 1) (by omega) (by omega)
        rw [if_neg h3, eNE]
        have e16 : xu (sN x l d) 16 l 1 16 l = 1 := xu_s _ _ _ _
        simp (contextual := true) (disch := omega) only [zWp, zNum, Int.cast_ofNat_Int, Prod.mk.injEq, and_true, true_and, implies_true, and_self, true_implies, false_implies, not_true_eq_false, not_false_eq_true, and_false, false_and, Int.reduceEq, Int.reduceLT, Int.reduceLE, Int.reduceNeg, Int.reduceAdd, Int.reduceSub, Int.reduceMul, Int.reduceToNat, Nat.reduceEqDiff, cond_true, cond_false, e1, q2, q3, q4, A8, zu_same, w, e16] <;> ((repeat' (first | intro _ | with_reducible apply And.intro)) <;> (first | omega | (exfalso; omega)))
    · rw [if_neg hJ]
      have hF : 0 ≤ sHead x l ∧ sHead x l < 96 := by omega
      have hF3 : x 3 (sHead x l / 8) = 1 := by omega
      have c20f := c20f (by omega)
      have q5 := zC_stepFinal_s r1 g1 (n + 1) (l := l) (a := sHead x l) (u := 10 * x 50 l + d) hl1 hc1 h161 (by omega) (by rw [f20]; omega) (fun hh => by
        rw [f20] at hh
        refine ⟨?_, by omega, by omega⟩
        rw [cell9, a9' (by omega), zI_mul, zI_add]
        exact congrArg zI (by omega))
      rw [f20, zlineOf_c (n1' 11 (by decide) (by decide) (by decide) (by decide)) (n1' 13 (by decide) (by decide) (by decide) (by decide)) (n1' 14 (by decide) (by decide) (by decide) (by decide))] at q5
      obtain ⟨S5, e5, q5⟩ := q5
      have ez : (if x 20 l < 1 then sEd (sTk (sNd x l d) l) l d else sFin (sEd (sTk (sNd x l d) l) l d) l (zlineOf x (sHead x l / 8) (10 * sEd (sTk (sNd x l d) l) l d 50 l + d))) =
          (if x 20 l + 1 < 2 then xu (sN x l d) 16 l 1 else sFin (sN x l d) l (zlineOf x (sHead x l / 8) (10 * x 50 l + d))) := by
        by_cases h2 : x 20 l < 1
        · rw [if_pos h2, if_pos (by omega), eNE]
        · rw [if_neg h2, if_neg (by omega), e50E, if_neg (by omega)]
          unfold sFin
          have e15 : ∀ k, sEd (sTk (sNd x l d) l) l d 15 k = sN x l d 15 k := fun k => by rw [eNE, xu_g _ (by decide)]
          rw [eNE2, eNE2, eNE2, e15]
      rw [ez]
      generalize hz : (if x 20 l + 1 < 2 then xu (sN x l d) 16 l 1 else sFin (sN x l d) l (zlineOf x (sHead x l / 8) (10 * x 50 l + d))) = z at q5 ⊢
      have hcz : z 15 l = 1 ∧ z 11 0 = x 11 0 := by
        rw [← hz]
        by_cases h2 : x 20 l + 1 < 2
        · rw [if_pos h2]
          exact ⟨by rw [xu_g _ (by decide)]; exact hc1, by rw [xu_g _ (by decide), n1 11 (by decide) (by decide) (by decide) (by decide)]⟩
        · rw [if_neg h2]
          unfold sFin
          generalize zlineOf x (sHead x l / 8) (10 * x 50 l + d) = o
          split
          · exact ⟨by rw [xu_g _ (by decide)]; exact hc1, by rw [xu_g _ (by decide), n1 11 (by decide) (by decide) (by decide) (by decide)]⟩
          · split
            · rename_i h0
              refine ⟨?_, by rw [xu_g _ (by decide), xu_g _ (by decide), xu_g _ (by decide), n1 11 (by decide) (by decide) (by decide) (by decide)]⟩
              rw [xu_k _ (by rintro rfl; omega), xu_g _ (by decide), xu_g _ (by decide)]; exact hc1
            · exact ⟨by rw [xu_g _ (by decide)]; exact hc1, by rw [xu_g _ (by decide), n1 11 (by decide) (by decide) (by decide) (by decide)]⟩
      have c3 := (zRLA q5 hl.1 (by rw [hcz.2]; exact hl.2) hcz.1).1
      simp (contextual := true) (disch := omega) only [zWp, zNum, Int.cast_ofNat_Int, Prod.mk.injEq, and_true, true_and, implies_true, and_self, true_implies, false_implies, not_true_eq_false, not_false_eq_true, and_false, false_and, Int.reduceEq, Int.reduceLT, Int.reduceLE, Int.reduceNeg, Int.reduceAdd, Int.reduceSub, Int.reduceMul, Int.reduceToNat, Nat.reduceEqDiff, cond_true, cond_false, e1, q2, q3, q4, e5, c3, q5] <;> ((repeat' (first | intro _ | with_reducible apply And.intro)) <;> (first | omega | (exfalso; omega)))
  · rw [if_neg hE]
    obtain ⟨h0, h97⟩ := c20 hE
    have hsw : zSw x (sHead x l) := by
      rcases cE with c | c
      · exact c
      · exact absurd (Or.inl c.1) hE
    have hsw1 : zSw (sN x l d) (sHead x l) := by unfold zSw; rw [n1 2 (by decide) (by decide) (by decide) (by decide), n1' 4 (by decide) (by decide) (by decide) (by decide)]; exact hsw
    have q5 := zC_hunt_s r1 g1 (by rw [n1' 40 (by decide) (by decide) (by decide) (by decide)]; exact h40) n l.toNat (a := sHead x l) (l := d) hsw1 (by omega)
    rw [sGoes_c (n1' 5 (by decide) (by decide) (by decide) (by decide)) (n1' 6 (by decide) (by decide) (by decide) (by decide)) (n1' 8 (by decide) (by decide) (by decide) (by decide)) (n1' 9 (by decide) (by decide) (by decide) (by decide)) (n1' 40 (by decide) (by decide) (by decide) (by decide))] at q5
    have be := sGoes_b g (sHead x l) d
    have b10 := zG10 g (sGoes x (sHead x l) d)
    have bj : 96 ≤ sGoes x (sHead x l) d → x 10 (sGoes x (sHead x l) d) = 0 := fun q => (zGj g q).2
    have b50 := zRbx h 50 l
    unfold sSel
    generalize sGoes x (sHead x l) d = e at q5 be b10 bj ⊢
    have e10 : sSst (sTk (sNd x l d) l) e = sSst x e := by
      unfold sSst; rw [sTk_g _ _ (by decide), sNd_g _ _ _ (by decide)]
    rw [e10]
    by_cases he : 0 ≤ e
    · have est : sSst x e = if x 10 e = 0 then 1 else 2 := by unfold sSst; rw [if_neg (by omega), if_neg (by omega)]
      have e22 : sN x l d 22 l = x 22 l := n1 22 (by decide) (by decide) (by decide) (by decide) l
      have A5' : S1.1 2 l.toNat 5 = zI (x 22 l) := by rw [← e22]; exact A5
      have q6 := zC_hold_s S1 n (l := l) (n := x 22 l) (e := e) (f := x 10 e) (s0 := 1) (zRix r1 hl1.1 hl1.2) A5' (by omega) (by omega) (fun hh => by
        have := zRc10 r1 (k := e) (by omega) hh
        rw [n1 10 (by decide) (by decide) (by decide) (by decide)] at this
        exact this) bj (by omega) (by omega)
      have bst : 0 ≤ sSst x e ∧ sSst x e ≤ 7 := by rw [est]; split <;> omega
      have w := zR_hold r1 (by rw [n1' 22 (by decide) (by decide) (by decide) (by decide)]; exact hb) (l := l) (e := e) (st := sSst x e) hl1 (by omega) hc1 (by rw [e22]; omega) (by omega) bst
      rw [e22] at w
      have w2 := zR_50 w (l := l) (v := x 50 l) (by
          unfold zLn sHold
          rw [xu_g _ (by decide), xu_g _ (by decide), xu_g _ (by decide), xu_g _ (by decide), xu_g _ (by decide)]; exact hl1) (by
          unfold sHold
          rw [xu_g _ (by decide), xu_g _ (by decide), xu_g _ (by decide), xu_g _ (by decide), xu_g _ (by decide)]; exact hc1) (Or.inr (by rw [xu_g _ (by decide), xu_s]; decide)) b50.1 b50.2
      rw [sN_hold x l d e _ h0] at w2
      rw [if_pos he, q6, ← est] at q5
      have c3 : (zHs S1 l (x 22 l) e (sSst x e)).1 2 l.toNat 3 = zI (sSst x e) := by unfold zHs; exact zu_same _ _ _ _ _
      rw [if_pos he]
      have q5 : zC_hunt (n + 3) l.toNat (zI (sHead x l)) (zI d) S1 = some (zHs S1 l (x 22 l) e (sSst x e)) := q5
      have e16 : xu (sHold (sTk (sNd x l d) l) l e) 16 l (sSst x e) 16 l = sSst x e := xu_s _ _ _ _
      simp (contextual := true) (disch := omega) only [zWp, zNum, Int.cast_ofNat_Int, Prod.mk.injEq, and_true, true_and, implies_true, and_self, true_implies, false_implies, not_true_eq_false, not_false_eq_true, and_false, false_and, Int.reduceEq, Int.reduceLT, Int.reduceLE, Int.reduceNeg, Int.reduceAdd, Int.reduceSub, Int.reduceMul, Int.reduceToNat, Nat.reduceEqDiff, cond_true, cond_false, e1, q2, q3, q4, q5, c3, w2, e16] <;> ((repeat' (first | intro _ | with_reducible apply And.intro)) <;> (first | omega | (exfalso; omega)))
    · have est : sSst x e = if e = -1 then 3 else 4 := by
        unfold sSst
        by_cases h1 : e = -1
        · rw [if_pos h1, if_pos h1]
        · rw [if_neg h1, if_neg h1, if_pos (by omega)]
      have bst : 3 ≤ sSst x e ∧ sSst x e ≤ 4 := by rw [est]; split <;> omega
      rw [if_neg he, ← est] at q5
      rw [if_neg he]
      have w := zR_st r1 hl1 hc1 (s := sSst x e) (by omega) (by omega)
      have f15 : ∀ v, xu (sN x l d) 16 l v 15 l = 1 := fun v => by rw [xu_g _ (by decide)]; exact hc1
      have f11 : ∀ v, zLn (xu (sN x l d) 16 l v) l := fun v => hl1
      have w2 := zR_20 w (l := l) (v := x 20 l) (f11 _) (f15 _) (by rw [xu_s]; omega) (by omega) (by omega)
      have w3 := zR_50 w2 (l := l) (v := x 50 l) hl1 (by rw [xu_g _ (by decide)]; exact f15 _) (Or.inl (by rw [xu_g _ (by decide), xu_s]; omega)) b50.1 b50.2
      rw [sN_sel x l d _ h0] at w3
      have e16 : xu (sTk (sNd x l d) l) 16 l (sSst x e) 16 l = sSst x e := xu_s _ _ _ _
      simp (contextual := true) (disch := omega) only [zWp, zNum, Int.cast_ofNat_Int, Prod.mk.injEq, and_true, true_and, implies_true, and_self, true_implies, false_implies, not_true_eq_false, not_false_eq_true, and_false, false_and, Int.reduceEq, Int.reduceLT, Int.reduceLE, Int.reduceNeg, Int.reduceAdd, Int.reduceSub, Int.reduceMul, Int.reduceToNat, Nat.reduceEqDiff, cond_true, cond_false, e1, q2, q3, q4, q5, zu_same, w3, e16] <;> ((repeat' (first | intro _ | with_reducible apply And.intro)) <;> (first | omega | (exfalso; omega)))
theorem zC_step_s (h : zR K x y S) (g : zGp x) (h40 : ∀ e, x 40 e = 0) (hb : ∀ j, x 22 j ≤ 120) (n : Nat) {l d : Int} (hl : zLn x l) (hc : x 15 l = 1) (hd : 0 ≤ d ∧ d ≤ 9) (b16 : 0 ≤ x 16 l ∧ x 16 l ≤ 6) (cs : x 16 l ≤ 1 → zCs x l ∧ (¬ zEg x (sHead x l) → x 20 l = 0 ∧ x 22 l < 97)) :
    zwp (zC_step (n + 4) l.toNat (zI d) S) (fun r => r.1 = zI (sDial x l d).1 ∧ zR K (sDial x l d).2 y r.2) := by
  obtain ⟨a3, a5, a6, a10, a11, a29, a30, a8⟩ := zRLA h hl.1 hl.2 hc
  have hcc : zLn x l ∧ x 15 l = 1 ∧ 0 ≤ d ∧ d ≤ 9 := ⟨hl, hc, hd.1, hd.2⟩
  rw [eC_step, sDial, if_pos hcc]
  by_cases h16 : x 16 l ≤ 1
  · rw [if_pos h16]
    obtain ⟨r, e, q⟩ := zC_step_20_s h g h40 hb n hl hc h16 hd (cs h16).1 (cs h16).2
    have q := q _ rfl
    simp (contextual := true) (disch := omega) only [zWp, zNum, Int.cast_ofNat_Int, Prod.mk.injEq, and_true, true_and, implies_true, and_self, true_implies, false_implies, not_true_eq_false, not_false_eq_true, and_false, false_and, Int.reduceEq, Int.reduceLT, Int.reduceLE, Int.reduceNeg, Int.reduceAdd, Int.reduceSub, Int.reduceMul, Int.reduceToNat, Nat.reduceEqDiff, cond_true, cond_false, a3, e, q] <;> ((repeat' (first | intro _ | with_reducible apply And.intro)) <;> (first | omega | (exfalso; omega)))
  · rw [if_neg h16]
    simp (contextual := true) (disch := omega) only [zWp, zNum, Int.cast_ofNat_Int, Prod.mk.injEq, and_true, true_and, implies_true, and_self, true_implies, false_implies, not_true_eq_false, not_false_eq_true, and_false, false_and, Int.reduceEq, Int.reduceLT, Int.reduceLE, Int.reduceNeg, Int.reduceAdd, Int.reduceSub, Int.reduceMul, Int.reduceToNat, Nat.reduceEqDiff, cond_true, cond_false, a3, h] <;> ((repeat' (first | intro _ | with_reducible apply And.intro)) <;> (first | omega | (exfalso; omega)))
theorem zX_dial_s (h : zR K x y S) (g : zGp x) (h40 : ∀ e, x 40 e = 0) (hb : ∀ j, x 22 j ≤ 120) (n : Nat) {l d : Int} (h1 : -2147483648 ≤ l) (h2 : l < 2147483648) (h3 : -2147483648 ≤ d) (h4 : d < 2147483648) (b16 : zLn x l → x 15 l = 1 → 0 ≤ x 16 l ∧ x 16 l ≤ 6) (hC : zLn x l → x 15 l = 1 → x 16 l ≤ 1 → zCs x l ∧ (¬ zEg x (sHead x l) → x 20 l = 0 ∧ x 22 l < 97)) :
    zwp (zX_dial (n + 5) (zI l) (zI d) S) (fun r => r.1 = zI (sDial x l d).1 ∧ zR K (sDial x l d).2 y r.2) := by
  have b11 := zG11 g
  rw [eX_dial]
  by_cases hc : zLn x l ∧ x 15 l = 1 ∧ 0 ≤ d ∧ d ≤ 9
  · obtain ⟨r, e, q⟩ := zC_step_s h g h40 hb n hc.1 hc.2.1 hc.2.2 (b16 hc.1 hc.2.1) (hC hc.1 hc.2.1)
    have e : zci (zcall (n + 4)) 7 [zr 0 0, zo (some (2, l.toNat)), zi (zI d)] S = some r := e
    simp (contextual := true) (disch := omega) only [zWp, zNum, Int.cast_ofNat_Int, Prod.mk.injEq, and_true, true_and, implies_true, and_self, true_implies, false_implies, not_true_eq_false, not_false_eq_true, and_false, false_and, Int.reduceEq, Int.reduceLT, Int.reduceLE, Int.reduceNeg, Int.reduceAdd, Int.reduceSub, Int.reduceMul, Int.reduceToNat, Nat.reduceEqDiff, cond_true, cond_false, zC_isCalling_s h g, zRD h, e, q] <;> ((repeat' (first | intro _ | with_reducible apply And.intro)) <;> (first | omega | (exfalso; omega)))
  · rw [sDial, if_neg hc]
    simp (contextual := true) (disch := omega) only [zWp, zNum, Int.cast_ofNat_Int, Prod.mk.injEq, and_true, true_and, implies_true, and_self, true_implies, false_implies, not_true_eq_false, not_false_eq_true, and_false, false_and, Int.reduceEq, Int.reduceLT, Int.reduceLE, Int.reduceNeg, Int.reduceAdd, Int.reduceSub, Int.reduceMul, Int.reduceToNat, Nat.reduceEqDiff, cond_true, cond_false, zC_isCalling_s h g, h] <;> ((repeat' (first | intro _ | with_reducible apply And.intro)) <;> (first | omega | (exfalso; omega)))
end CE
