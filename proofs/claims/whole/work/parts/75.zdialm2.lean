/-! DIAL of the reference, whole -/
/-- what a line that may step holds -/
def zCs (x : ZW) (l : Int) : Prop := (1 ≤ x 22 l ∧ x 22 l ≤ 97) ∧ zEn x (sHead x l) ∧ (0 ≤ x 18 l ∧ x 18 l ≤ 400) ∧ (0 ≤ x 20 l ∧ x 20 l ≤ 2) ∧ (sHead x l < 100 → x 20 l ≤ 1) ∧ (0 ≤ x 50 l ∧ x 50 l ≤ 9) ∧ (0 ≤ x 16 l ∧ x 16 l ≤ 6)
theorem zlineOf_c {x x' : ZW} (e11 : x' 11 = x 11) (e13 : x' 13 = x 13) (e14 : x' 14 = x 14) (r n : Int) : zlineOf x' r n = zlineOf x r n := by
  unfold zlineOf
  rw [e11, e13, e14]
section DN
variable {K : ZS} {x y : ZW} {S : ZS}
theorem zM_dial_78_s (h : zR K x y S) (g : zGp y) (d : Nat) {l dg : Int} (hl : 0 ≤ l ∧ l < 40) (hd : 0 ≤ dg ∧ dg ≤ 9) (c1 : 1 ≤ y 22 l ∧ y 22 l ≤ 97) (c2 : zEn y (sHead y l)) (c3 : 0 ≤ y 18 l ∧ y 18 l ≤ 400) (c4 : 0 ≤ y 20 l ∧ y 20 l ≤ 2) (c5 : sHead y l < 100 → y 20 l ≤ 1) (c6 : 0 ≤ y 50 l ∧ y 50 l ≤ 9) :
    zwp (zM_dial_78 (d + 2) (zI l) (zI dg) S) (fun r => ∀ z, z = (if zEg y (sHead y l) then
    (if 100 ≤ sHead y l then sJun (sEd (sTk y l) l dg) l else
      if y 20 l < 1 then sEd (sTk y l) l dg else sFin (sEd (sTk y l) l dg) l (zlineOf y (sHead y l / 8) (10 * (sEd (sTk y l) l dg) 50 l + dg)))
  else sSel (sTk y l) l (sGoes y (sHead y l) dg)) → r.1 = zI (z 16 l) ∧ zR K x z r.2) := by
  have b2 := zG2 g
  have b4 := zG4 g (sHead y l / 8)
  have w1 := zWm18 h (k := l) (v := y 18 l + 1) (by omega) (by omega) (by omega) (by omega)
  have w1 : zR K x (sTk y l) _ := w1
  have g1 := zGp_Tk g l
  have eh : sHead (sTk y l) l = sHead y l := rfl
  have q1 := zM_head_s w1 (d + 1) (l := l) hl (by rw [sTk_g y l (by decide)]; omega)
  rw [eh] at q1
  have q2 := zM_isEnding_s w1 g1 (d + 1) (a := sHead y l) (by omega) (by omega) (by omega)
  have e20 : sTk y l 20 l = y 20 l := sTk_g y l (by decide) l
  have eEg : zEg (sTk y l) (sHead y l) = zEg y (sHead y l) := rfl
  rw [eEg] at q2
  rw [eM_dial_78]
  by_cases hE : zEg y (sHead y l)
  · rw [if_pos hE]
    have w2 := zWm20 w1 (k := l) (v := y 20 l + 1) (by omega) (by omega) (by omega) (by omega)
    have r20 : (zu S.1 73 0 l.toNat (zI (y 18 l + 1))) 75 0 l.toNat = zI (y 20 l) := by
      have := zRm20 w1 (k := l) (by omega) (by omega)
      rw [e20] at this
      exact this
    have e2 : ∀ z, sEd (sTk y l) l z = xu (if y 20 l = 0 then xu (xu (sTk y l) 20 l (y 20 l + 1)) 50 l z else xu (sTk y l) 20 l (y 20 l + 1)) 16 l 1 := by
      intro z; unfold sEd; rw [e20]
    have eL : ∀ r n, zlineOf (sTk y l) r n = zlineOf y r n := fun r n => zlineOf_g (by decide) _ _ _ _ _
    rw [e2]
    by_cases h0 : y 20 l = 0
    · rw [if_pos h0]
      have w3 := zWm50 w2 (k := l) (v := dg) (by omega) (by omega) (by omega) (by omega)
      have g3 : zGp (xu (xu (sTk y l) 20 l (y 20 l + 1)) 50 l dg) := zGp_u (zGp_u g1 (by decide) _ _) (by decide) _ _
      have f20 : (xu (xu (sTk y l) 20 l (y 20 l + 1)) 50 l dg) 20 l = y 20 l + 1 := by rw [xu_g _ (by decide), xu_s]
      have f50 : (xu (xu (sTk y l) 20 l (y 20 l + 1)) 50 l dg) 50 l = dg := xu_s _ _ _ _
      have q3 := zM_dial_198_s w3 g3 (d + 1) (l := l) (dg := dg) (a := sHead y l) hl hd (by omega) (by omega) (by omega)
      rw [f20, f50] at q3
      have f50' : (xu (xu (xu (sTk y l) 20 l (y 20 l + 1)) 50 l dg) 16 l 1) 50 l = dg := by rw [xu_g _ (by decide), f50]
      rw [f50']
      have eL' : ∀ r n, zlineOf (xu (xu (sTk y l) 20 l (y 20 l + 1)) 50 l dg) r n = zlineOf y r n := fun r n => by rw [zlineOf_g (by decide), zlineOf_g (by decide), eL]
      rw [eL'] at q3
      have ec : (y 20 l + 1 < 2) = (y 20 l < 1) := by apply propext; omega
      simp only [ec] at q3
      obtain ⟨r, e, q3⟩ := q3
      generalize (if 100 ≤ sHead y l then sJun (xu (xu (xu (sTk y l) 20 l (y 20 l + 1)) 50 l dg) 16 l 1) l else if y 20 l < 1 then xu (xu (xu (sTk y l) 20 l (y 20 l + 1)) 50 l dg) 16 l 1 else sFin (xu (xu (xu (sTk y l) 20 l (y 20 l + 1)) 50 l dg) 16 l 1) l (zlineOf y (sHead y l / 8) (10 * dg + dg))) = z at q3 ⊢
      have e1 := e
      rw [show y 20 l + 1 = 1 by omega] at e1
      simp (contextual := true) (disch := omega) only [zWp, zNum, Int.cast_ofNat_Int, Prod.mk.injEq, and_true, true_and, implies_true, and_self, true_implies, false_implies, not_true_eq_false, not_false_eq_true, and_false, false_and, Int.reduceEq, Int.reduceLT, Int.reduceLE, Int.reduceNeg, Int.reduceAdd, Int.reduceSub, Int.reduceMul, Int.reduceToNat, Nat.reduceEqDiff, cond_true, cond_false, zRm18 h, q1, q2, r20, zu_same, e, e1]
      refine ⟨by omega, by omega, fun hh => absurd hE hh, fun _ => ⟨by omega, by omega, by omega, fun _ => ⟨by omega, fun z' hz' => ?_⟩, fun hh => by omega⟩⟩
      exact q3
    · rw [if_neg h0]
      have g3 : zGp (xu (sTk y l) 20 l (y 20 l + 1)) := zGp_u g1 (by decide) _ _
      have f20 : (xu (sTk y l) 20 l (y 20 l + 1)) 20 l = y 20 l + 1 := xu_s _ _ _ _
      have f50 : (xu (sTk y l) 20 l (y 20 l + 1)) 50 l = y 50 l := by rw [xu_g _ (by decide), sTk_g y l (by decide)]
      have q3 := zM_dial_198_s w2 g3 (d + 1) (l := l) (dg := dg) (a := sHead y l) hl hd (by omega) (by omega) (by omega)
      rw [f20, f50] at q3
      have f50' : (xu (xu (sTk y l) 20 l (y 20 l + 1)) 16 l 1) 50 l = y 50 l := by rw [xu_g _ (by decide), f50]
      rw [f50']
      have eL' : ∀ r n, zlineOf (xu (sTk y l) 20 l (y 20 l + 1)) r n = zlineOf y r n := fun r n => by rw [zlineOf_g (by decide), eL]
      rw [eL'] at q3
      have ec : (y 20 l + 1 < 2) = (y 20 l < 1) := by apply propext; omega
      simp only [ec] at q3
      obtain ⟨r, e, q3⟩ := q3
      generalize (if 100 ≤ sHead y l then sJun (xu (xu (sTk y l) 20 l (y 20 l + 1)) 16 l 1) l else if y 20 l < 1 then xu (xu (sTk y l) 20 l (y 20 l + 1)) 16 l 1 else sFin (xu (xu (sTk y l) 20 l (y 20 l + 1)) 16 l 1) l (zlineOf y (sHead y l / 8) (10 * y 50 l + dg))) = z at q3 ⊢
      simp (contextual := true) (disch := omega) only [zWp, zNum, Int.cast_ofNat_Int, Prod.mk.injEq, and_true, true_and, implies_true, and_self, true_implies, false_implies, not_true_eq_false, not_false_eq_true, and_false, false_and, Int.reduceEq, Int.reduceLT, Int.reduceLE, Int.reduceNeg, Int.reduceAdd, Int.reduceSub, Int.reduceMul, Int.reduceToNat, Nat.reduceEqDiff, cond_true, cond_false, zRm18 h, q1, q2, r20, zu_same, e]
      refine ⟨by omega, by omega, fun hh => absurd hE hh, fun _ => ⟨by omega, by omega, by omega, fun hh => by omega, fun _ => ?_⟩⟩
      intro z' hz'; exact q3
  · rw [if_neg hE]
    have hsw : zSw y (sHead y l) := by
      rcases c2 with c2 | c2
      · exact c2
      · exact absurd (Or.inl c2.1) hE
    have hsw1 : zSw (sTk y l) (sHead y l) := hsw
    have q3 := zM_goesTo_s w1 g1 d (a := sHead y l) (l := dg) hsw1 (by omega)
    rw [sGoes_c (by funext k; exact sTk_g y l (by decide) k) (by funext k; exact sTk_g y l (by decide) k) (by funext k; exact sTk_g y l (by decide) k) (by funext k; exact sTk_g y l (by decide) k) (by funext k; exact sTk_g y l (by decide) k)] at q3
    have be := sGoes_b g (sHead y l) dg
    unfold sSel
    have e10 : ∀ v, sSst (sTk y l) v = sSst y v := fun v => rfl
    rw [e10]
    generalize sGoes y (sHead y l) dg = e at q3 be ⊢
    by_cases he : 0 ≤ e
    · rw [if_pos he]
      obtain ⟨S2, e2, r2⟩ := zM_hold_s w1 (d + 1) (l := l) (e := e) hl (by omega) (by rw [sTk_g y l (by decide)]; omega)
      have q4 := zM_dial_122_s r2 (d + 2) (l := l) (e := e) hl (by omega)
      have e11 : sSst (sHold (sTk y l) l e) e = sSst y e := by
        unfold sSst
        have : (sHold (sTk y l) l e) 10 e = y 10 e := by unfold sHold; rw [xu_g _ (by decide), xu_g _ (by decide), xu_g _ (by decide), sTk_g y l (by decide)]
        rw [this]
      rw [e11] at q4
      obtain ⟨r, e3, q4⟩ := q4
      simp (contextual := true) (disch := omega) only [zWp, zNum, Int.cast_ofNat_Int, Prod.mk.injEq, and_true, true_and, implies_true, and_self, true_implies, false_implies, not_true_eq_false, not_false_eq_true, and_false, false_and, Int.reduceEq, Int.reduceLT, Int.reduceLE, Int.reduceNeg, Int.reduceAdd, Int.reduceSub, Int.reduceMul, Int.reduceToNat, Nat.reduceEqDiff, cond_true, cond_false, zRm18 h, q1, q2, q3, e2, e3]
      refine ⟨by omega, by omega, fun _ => ⟨fun hh => by omega, fun _ z hz => ?_⟩, fun hh => absurd hE hh⟩
      rw [xu_s]; exact q4
    · rw [if_neg he]
      have q4 := zM_dial_122_s w1 (d + 2) (l := l) (e := e) hl (by omega)
      rw [e10] at q4
      obtain ⟨r, e3, q4⟩ := q4
      simp (contextual := true) (disch := omega) only [zWp, zNum, Int.cast_ofNat_Int, Prod.mk.injEq, and_true, true_and, implies_true, and_self, true_implies, false_implies, not_true_eq_false, not_false_eq_true, and_false, false_and, Int.reduceEq, Int.reduceLT, Int.reduceLE, Int.reduceNeg, Int.reduceAdd, Int.reduceSub, Int.reduceMul, Int.reduceToNat, Nat.reduceEqDiff, cond_true, cond_false, zRm18 h, q1, q2, q3, e3]
      refine ⟨by omega, by omega, fun _ => ⟨fun _ z hz => ?_, fun hh => by omega⟩, fun hh => absurd hE hh⟩
      rw [xu_s]; exact q4
theorem zM_dial_s (h : zR K x y S) (g : zGp y) (d : Nat) {l dg : Int} (h1 : -2147483648 ≤ l) (h2 : l < 2147483648) (h3 : -2147483648 ≤ dg) (h4 : dg < 2147483648) (hC : zLn y l → y 15 l = 1 → y 16 l ≤ 1 → zCs y l) :
    zwp (zM_dial (d + 3) (zI l) (zI dg) S) (fun r => r.1 = zI (sDial y l dg).1 ∧ zR K x (sDial y l dg).2 r.2) := by
  have b11 := zG11 g
  have b15 := zG15 g l
  have b16 := zRby h 16 l
  rw [eM_dial, sDial]
  have h0 := zR_s h (t := 11) (s := 0) rfl 0 (0 : Int32)
  generalize hS : ((zu S.1 11 0 0 (0 : Int32)), S.2) = S' at h0 ⊢
  have hS1 : zu S.1 11 0 0 (0 : Int32) = S'.1 := by rw [← hS]
  have hS2 : S.2 = S'.2 := by rw [← hS]
  try simp only [hS1, hS2]
  by_cases hc : zLn y l ∧ y 15 l = 1 ∧ 0 ≤ dg ∧ dg ≤ 9
  · rw [if_pos hc]
    by_cases h16 : y 16 l ≤ 1
    · rw [if_pos h16]
      obtain ⟨c1, c2, c3, c4, c5, c6, c7⟩ := hC hc.1 hc.2.1 h16
      by_cases h18 : y 18 l < 5
      · have w1 := zWm19 h0 (k := 5 * l + y 18 l) (v := dg) (by omega) (by omega) (by omega) (by omega)
        have en : sNd y l dg = xu y 19 (5 * l + y 18 l) dg := by unfold sNd; rw [if_pos h18]
        rw [← en] at w1
        have n1 : ∀ g', g' ≠ 19 → sNd y l dg g' = y g' := fun g' hg => by funext k; exact sNd_g y l dg hg k
        have eh : sHead (sNd y l dg) l = sHead y l := by unfold sHead; rw [n1 23 (by decide), n1 22 (by decide)]
        have q := zM_dial_78_s w1 (zGp_Nd g l dg) d (l := l) (dg := dg) (by omega) (by omega) (by rw [n1 22 (by decide)]; exact c1) (by rw [eh]; unfold zEn zSw; rw [n1 2 (by decide), n1 4 (by decide)]; exact c2) (by rw [n1 18 (by decide)]; exact c3) (by rw [n1 20 (by decide)]; exact c4) (by rw [eh, n1 20 (by decide)]; exact c5) (by rw [n1 50 (by decide)]; exact c6)
        obtain ⟨r, e, q⟩ := q
        have q := q (sStep y l dg) (by
          unfold sStep zEg
          rw [eh, n1 3 (by decide), n1 20 (by decide), zlineOf_c (n1 11 (by decide)) (n1 13 (by decide)) (n1 14 (by decide)), sGoes_c (n1 5 (by decide)) (n1 6 (by decide)) (n1 8 (by decide)) (n1 9 (by decide)) (n1 40 (by decide))])
        simp (contextual := true) (disch := omega) only [zWp, zNum, Int.cast_ofNat_Int, Prod.mk.injEq, and_true, true_and, implies_true, and_self, true_implies, false_implies, not_true_eq_false, not_false_eq_true, and_false, false_and, Int.reduceEq, Int.reduceLT, Int.reduceLE, Int.reduceNeg, Int.reduceAdd, Int.reduceSub, Int.reduceMul, Int.reduceToNat, Nat.reduceEqDiff, cond_true, cond_false, zM_isLine_s h0 g, zRm15 h0, zRm16 h0, zM_within_s S', zRm18 h0, e, q] <;> ((repeat' (first | intro _ | with_reducible apply And.intro)) <;> (first | omega | (exfalso; omega)))
      · have w1 : zR K x (sNd y l dg) S' := by unfold sNd; rw [if_neg h18]; exact h0
        have n1 : sNd y l dg = y := by unfold sNd; rw [if_neg h18]
        have q := zM_dial_78_s h0 g d (l := l) (dg := dg) (by omega) (by omega) c1 c2 c3 c4 c5 c6
        obtain ⟨r, e, q⟩ := q
        have q := q (sStep y l dg) (by unfold sStep; rw [n1])
        simp (contextual := true) (disch := omega) only [zWp, zNum, Int.cast_ofNat_Int, Prod.mk.injEq, and_true, true_and, implies_true, and_self, true_implies, false_implies, not_true_eq_false, not_false_eq_true, and_false, false_and, Int.reduceEq, Int.reduceLT, Int.reduceLE, Int.reduceNeg, Int.reduceAdd, Int.reduceSub, Int.reduceMul, Int.reduceToNat, Nat.reduceEqDiff, cond_true, cond_false, zM_isLine_s h0 g, zRm15 h0, zRm16 h0, zM_within_s S', zRm18 h0, e, q] <;> ((repeat' (first | intro _ | with_reducible apply And.intro)) <;> (first | omega | (exfalso; omega)))
    · rw [if_neg h16]
      simp (contextual := true) (disch := omega) only [zWp, zNum, Int.cast_ofNat_Int, Prod.mk.injEq, and_true, true_and, implies_true, and_self, true_implies, false_implies, not_true_eq_false, not_false_eq_true, and_false, false_and, Int.reduceEq, Int.reduceLT, Int.reduceLE, Int.reduceNeg, Int.reduceAdd, Int.reduceSub, Int.reduceMul, Int.reduceToNat, Nat.reduceEqDiff, cond_true, cond_false, zM_isLine_s h0 g, zRm15 h0, zRm16 h0, zM_within_s S', h0] <;> ((repeat' (first | intro _ | with_reducible apply And.intro)) <;> (first | omega | (exfalso; omega)))
  · rw [if_neg hc]
    simp (contextual := true) (disch := omega) only [zWp, zNum, Int.cast_ofNat_Int, Prod.mk.injEq, and_true, true_and, implies_true, and_self, true_implies, false_implies, not_true_eq_false, not_false_eq_true, and_false, false_and, Int.reduceEq, Int.reduceLT, Int.reduceLE, Int.reduceNeg, Int.reduceAdd, Int.reduceSub, Int.reduceMul, Int.reduceToNat, Nat.reduceEqDiff, cond_true, cond_false, zM_isLine_s h0 g, zRm15 h0, zRm16 h0, zM_within_s S', h0] <;> ((repeat' (first | intro _ | with_reducible apply And.intro)) <;> (first | omega | (exfalso; omega)))
end DN
