/-! WOULD of the reference -/
section WM
variable {K : ZS} {x y : ZW} {S : ZS}
theorem zM_meets_s (h : zR K x y S) (gy : zGp y) {z0 : ZW} (t : zT y z0) (g0 : zGd z0) (d : Nat) {l v m : Int} (hl : zLn z0 l) (hv : 0 ≤ v ∧ v ≤ 99999) (hm : 1 ≤ m ∧ m ≤ 5) :
    zwp (zM_meets (d + 3) (zI l) (zI v) (zI m) S) (fun r => r.1 = zI (if z0 15 l = 0 then sAt z0 l v m else -1) ∧ ∃ y', zR K x y' r.2 ∧ zGp y' ∧ zEv y y' ∧ zT y' (if z0 15 l = 0 ∧ ¬ sFF z0 (z0 12 l) < 0 then sMk z0 l v m m.toNat else z0) ∧ (z0 15 l = 0 ∧ ¬ sFF z0 (z0 12 l) < 0 → zMe K x y' (sMk z0 l v m m.toNat) l r.2)) := by
  have b11 := zG11 g0.1
  have tq := t.2.1 l hl.1 (by omega)
  have w0 := zR_s h (t := 11) (s := 68) (by decide) 0 (zI 0)
  have q1 := zM_isQuiet_s w0 (d + 1) (a := l) (by omega) (by omega)
  rw [eM_meets, zI_n0, q1]
  show zwp (zif (zb _ = zI 0) (some (-1, _)) (zg (zin (zI l) 40) ((zM_firstFree (d + 2) ((zu S.1 11 0 68 (zI 0)) 67 0 (zx (zI l))) (zu S.1 11 0 68 (zI 0), S.2)).bind _))) _
  rw [show zI 0 = (0 : Int32) from rfl, zb_0]
  by_cases hq : z0 15 l = 0
  · rw [if_pos hq, zif_neg (fun hn => hn (tq.mpr hq)), zg_t (by rw [zI_in (by omega) (by omega)]; omega), zI_zx (by omega) (by omega)]
    have b12 := zG12 gy l
    have e12 : y 12 l = z0 12 l := by rw [t.2.2.1 12 (by simp)]
    have c67 := zRm12 w0 (k := l) (by omega) (by omega)
    have c67 : (zu S.1 11 0 68 (0 : Int32)) 67 0 l.toNat = zI (y 12 l) := c67
    have qf := zM_firstFree_s w0 gy d (r := y 12 l) b12
    rw [e12, zT_ff t g0.1 (by omega)] at qf
    have qf : zM_firstFree (d + 2) (zI (z0 12 l)) (zu S.1 11 0 68 (0 : Int32), S.2) = some (zI (sFF z0 (z0 12 l)), (zu S.1 11 0 68 (0 : Int32), S.2)) := qf
    rw [c67, e12, qf]
    have hsel := (zGln g0.1 hl.1 hl.2).1
    have bff := sFF_b g0.1 (r := z0 12 l) (by omega)
    have b4 := zG4 g0.1 (z0 12 l)
    have b2 := zG2 g0.1
    by_cases hf : sFF z0 (z0 12 l) < 0
    · show zwp (zif (0 ≤ zI (sFF z0 (z0 12 l))) _ (some (7, _))) _
      rw [zI_n0, zI_le (by omega) (by omega) (by omega) (by omega), zif_neg (by omega), zwp_some]
      refine ⟨by unfold sAt; rw [if_pos hf]; rfl, y, w0, gy, zEv_r y, ?_, fun hn => absurd hf hn.2⟩
      rw [if_neg (fun hn => hn.2 hf)]
      exact t
    · obtain ⟨s1, s2⟩ := sFF_sw g0.1 hsel hf
      have e0 : sMk z0 l v m 0 = sLiftTo z0 l (sFF z0 (z0 12 l)) := rfl
      have b10 := zG10 g0.1 (sFF z0 (z0 12 l))
      have w1 := zWm41 w0 (k := l) (v := 1) (by omega) (by omega) (by omega) (by omega)
      have c68 : (zu (zu S.1 11 0 68 (zI 0)) 81 0 l.toNat (zI 1)) 11 0 68 = zI 0 := by simp [zu]
      obtain ⟨t1, t2⟩ := zM_tries_s w1 (d + 1) (e := sFF z0 (z0 12 l)) (n := 0) (by omega) (by omega) c68
      rw [show (0 : Int) + 1 = 1 from rfl, show (0 : Int).toNat = 0 from rfl] at t1 t2
      have ev1 := zEv_t (zEv_41 y (e := l) (v := 1) (by omega)) (zEv_40 (xu y 41 l 1) (e := sFF z0 (z0 12 l)) (v := 1) (by omega))
      have F : ∀ g, g ≠ 8 → g ≠ 15 → g ≠ 16 → g ≠ 17 → g ≠ 18 → g ≠ 20 → g ≠ 21 → g ≠ 22 → g ≠ 23 → sMk z0 l v m 0 g = z0 g := by
        intro g e8 e15 e16 e17 e18 e20 e21 e22 e23
        funext k
        simp [sMk, sLiftTo, sHold, sLift0, xu, e8, e15, e16, e17, e18, e20, e21, e22, e23]
      have F8 : sMk z0 l v m 0 8 = fun i => if i = sFF z0 (z0 12 l) then l else z0 8 i := by funext k; simp [sMk, sLiftTo, sHold, sLift0, xu]
      have F15 : sMk z0 l v m 0 15 = fun i => if i = l then 1 else z0 15 i := by funext k; simp [sMk, sLiftTo, sHold, sLift0, xu]
      have F16 : sMk z0 l v m 0 16 l = sLst z0 (sFF z0 (z0 12 l)) := by simp [sMk, sLiftTo, sHold, sLift0, xu]
      have F20 : sMk z0 l v m 0 20 l = 0 := by simp [sMk, sLiftTo, sHold, sLift0, xu]
      have F22 : sMk z0 l v m 0 22 l = 1 := by simp [sMk, sLiftTo, sHold, sLift0, xu]
      have F23 : sMk z0 l v m 0 23 (120 * l) = sFF z0 (z0 12 l) := by simp [sMk, sLiftTo, sHold, sLift0, xu]
      have tz : zT (xu (xu y 41 l 1) 40 (sFF z0 (z0 12 l)) 1) (sMk z0 l v m 0) := by
        have ta : zT (xu y 41 l 1) (xu z0 15 l 1) := zT_s15 t (v := 1) (by decide) (by funext k; exact xu_g _ (by decide)) (by funext k; exact xu_kk _ _ _ _ _) (by rintro g (rfl | rfl | rfl | rfl | rfl | rfl | rfl | rfl | rfl | rfl | rfl | rfl) <;> (funext k; exact xu_g _ (by decide)))
        refine zT_s8 ta hl.1 (by omega) ?_ ?_ ?_
        · rw [F8]; funext i; rw [xu_g _ (by decide)]
        · rw [F15]; funext i; rw [xu_kk]
        · rintro g (rfl | rfl | rfl | rfl | rfl | rfl | rfl | rfl | rfl | rfl | rfl | rfl) <;> (rw [F _ (by decide) (by decide) (by decide) (by decide) (by decide) (by decide) (by decide) (by decide) (by decide)]; funext k; exact (xu_g _ (by decide)).symm)
      have M0 : zMe K x (xu (xu y 41 l 1) 40 (sFF z0 (z0 12 l)) 1) (sMk z0 l v m 0) l _ := ⟨t2, zGp_ev gy ev1, tz, by rw [F22]; simp [zu], fun i i0 i1 => by
        rw [F22] at i1
        rw [show i = 0 by omega, show 120 * l + (0 : Int) = 120 * l by omega, F23]
        simp [zu]⟩
      have q := zM_meets_74_s (K := K) (x := x) g0 (d) hl hq hf hv hm m.toNat 0 _ _ 0 (by omega) M0 (by omega) (by omega) (by rw [F20]; omega) (by rw [F22]; omega)
      rw [F16, F20, show ((0 : Nat) : Int) = 0 from rfl] at q
      have q := zwp_mono q (Q := fun r => r.1 = zI (sAt z0 l v m) ∧ ∃ y', zR K x y' r.2 ∧ zGp y' ∧ zEv y y' ∧ zT y' (if z0 15 l = 0 ∧ ¬ sFF z0 (z0 12 l) < 0 then sMk z0 l v m m.toNat else z0) ∧ (z0 15 l = 0 ∧ ¬ sFF z0 (z0 12 l) < 0 → zMe K x y' (sMk z0 l v m m.toNat) l r.2)) (fun r hr => by
        obtain ⟨r1, y', M, ev⟩ := hr
        refine ⟨by unfold sAt; rw [if_neg hf]; exact r1, y', M.1, M.2.1, zEv_t ev1 ev, ?_, fun _ => M⟩
        rw [if_pos ⟨hq, hf⟩]
        exact M.2.2.1)
      have hbl : zbl (zI 1) = true := rfl
      have c66 := zRm10 t2 (k := sFF z0 (z0 12 l)) (by omega) (by omega)
      rw [xu_g _ (by decide), xu_g _ (by decide), ← t.2.2.1 10 (by simp)] at c66
      rw [show (0 : Int32) = zI 0 from rfl]
      show zwp (zif (zI 0 ≤ zI (sFF z0 (z0 12 l))) (zg (zin (zI l) 40) (zg (zbl 1) ((zM_tries (d + 2) (zI (sFF z0 (z0 12 l))) ((zu (zu S.1 11 0 68 (zI 0)) 81 0 l.toNat 1), S.2)).bind _))) _) _
      rw [zI_le (by omega) (by omega) (by omega) (by omega), zif_pos (by omega), zg_t (by rw [zI_in (by omega) (by omega)]; omega), zI_n1, hbl, zg_t rfl, t1]
      generalize hSt : (zu (zu (zu (zu (zu S.1 11 0 68 (zI 0)) 81 0 l.toNat (zI 1)) 80 0 (sFF z0 (z0 12 l)).toNat (zI 1)) 112 0 0 (zI (sFF z0 (z0 12 l)))) 11 0 68 (zI 1), S.2) = St at q c66
      have hg : zwp (zg (zin (zI (sFF z0 (z0 12 l))) 116) (zif (St.1 66 0 (zx (zI (sFF z0 (z0 12 l)))) = zI 0) (zM_meets_74 (d + 2) (zI v) (zI m) (zI 0) (zI 0) (zI 0) (zI 0) St) (zM_meets_74 (d + 2) (zI v) (zI m) (zI 2) (zI 0) (zI 0) (zI 0) St))) (fun r => r.1 = zI (sAt z0 l v m) ∧ ∃ y', zR K x y' r.2 ∧ zGp y' ∧ zEv y y' ∧ zT y' (if z0 15 l = 0 ∧ ¬ sFF z0 (z0 12 l) < 0 then sMk z0 l v m m.toNat else z0) ∧ (z0 15 l = 0 ∧ ¬ sFF z0 (z0 12 l) < 0 → zMe K x y' (sMk z0 l v m m.toNat) l r.2)) := by
        rw [zg_t (by rw [zI_in (by omega) (by omega)]; omega), zI_zx (by omega) (by omega), c66, zI_eq (by omega) (by omega) (by omega) (by omega)]
        unfold sLst at q
        by_cases h10 : z0 10 (sFF z0 (z0 12 l)) = 0
        · rw [if_pos h10] at q
          rw [zif_pos h10]
          exact q
        · rw [if_neg h10] at q
          rw [zif_neg h10]
          exact q
      subst hSt
      exact hg
  · rw [if_neg hq, zif_pos (fun hn => hq (tq.mp hn)), zwp_some]
    refine ⟨rfl, y, w0, gy, zEv_r y, ?_, fun hn => absurd hn.1 hq⟩
    rw [if_neg (fun hn => hq hn.1)]
    exact t
/-- nothing is tried below n -/
def zclr (y : ZW) (a b : Int) : ZW := fun g k => if (g = 40 ∧ 0 ≤ k ∧ k < a) ∨ (g = 41 ∧ 0 ≤ k ∧ k < b) then 0 else y g k
theorem zM_clears_23_s (d : Nat) : ∀ (m n : Nat) (S : ZS), (n : Int) + m = 40 → zR K x (zclr y 116 n) S → zwp (zM_clears_23 d (zI n) S) (fun r => zR K x (zclr y 116 40) r)
  | 0, n, S, e, h => by
    rw [show (n : Int) = 40 by omega] at h ⊢
    rw [eM_clears_23]
    simp (contextual := true) (disch := omega) only [zWp, zNum, Int.cast_ofNat_Int, Prod.mk.injEq, and_true, true_and, implies_true, and_self, true_implies, false_implies, not_true_eq_false, not_false_eq_true, and_false, false_and, Int.reduceEq, Int.reduceLT, Int.reduceLE, Int.reduceNeg, Int.reduceAdd, Int.reduceSub, Int.reduceMul, Int.reduceToNat, Nat.reduceEqDiff, cond_true, cond_false, h] <;> ((repeat' (first | intro _ | with_reducible apply And.intro)) <;> (first | omega | (exfalso; omega)))
  | m + 1, n, S, e, h => by
    have w := zWm41 h (k := n) (v := 0) (by omega) (by omega) (by omega) (by omega)
    have ee : xu (zclr y 116 n) 41 n 0 = zclr y 116 ((n + 1 : Nat) : Int) := by
      funext g k
      unfold xu zclr
      by_cases h1 : g = 41 ∧ k = n
      · rw [if_pos h1, if_pos (by omega)]
      · rw [if_neg h1]
        by_cases h2 : (g = 40 ∧ 0 ≤ k ∧ k < 116) ∨ (g = 41 ∧ 0 ≤ k ∧ k < (n : Int))
        · rw [if_pos h2, if_pos (by omega)]
        · rw [if_neg h2, if_neg (by omega)]
    rw [ee] at w
    have ih := zM_clears_23_s d m (n + 1) _ (by omega) w
    rw [show ((n + 1 : Nat) : Int) = (n : Int) + 1 by omega] at ih
    have hbl : zbl (zI 0) = true := rfl
    rw [eM_clears_23]
    simp (contextual := true) (disch := omega) only [zWp, zNum, Int.cast_ofNat_Int, Prod.mk.injEq, and_true, true_and, implies_true, and_self, true_implies, false_implies, not_true_eq_false, not_false_eq_true, and_false, false_and, Int.reduceEq, Int.reduceLT, Int.reduceLE, Int.reduceNeg, Int.reduceAdd, Int.reduceSub, Int.reduceMul, Int.reduceToNat, Nat.reduceEqDiff, cond_true, cond_false, hbl, ih] <;> ((repeat' (first | intro _ | with_reducible apply And.intro)) <;> (first | omega | (exfalso; omega)))
theorem zM_clears_2_s (d : Nat) : ∀ (m n : Nat) (S : ZS), (n : Int) + m = 116 → zR K x (zclr y n 0) S → zwp (zM_clears_2 d (zI n) S) (fun r => zR K x (zclr y 116 40) r)
  | 0, n, S, e, h => by
    rw [show (n : Int) = 116 by omega] at h ⊢
    have q := zM_clears_23_s d 40 0 S (by omega) h
    have q : zwp (zM_clears_23 d (zI 0) S) (fun r => zR K x (zclr y 116 40) r) := q
    rw [eM_clears_2]
    simp (contextual := true) (disch := omega) only [zWp, zNum, Int.cast_ofNat_Int, Prod.mk.injEq, and_true, true_and, implies_true, and_self, true_implies, false_implies, not_true_eq_false, not_false_eq_true, and_false, false_and, Int.reduceEq, Int.reduceLT, Int.reduceLE, Int.reduceNeg, Int.reduceAdd, Int.reduceSub, Int.reduceMul, Int.reduceToNat, Nat.reduceEqDiff, cond_true, cond_false, q] <;> ((repeat' (first | intro _ | with_reducible apply And.intro)) <;> (first | omega | (exfalso; omega)))
  | m + 1, n, S, e, h => by
    have w := zWm40 h (k := n) (v := 0) (by omega) (by omega) (by omega) (by omega)
    have ee : xu (zclr y n 0) 40 n 0 = zclr y ((n + 1 : Nat) : Int) 0 := by
      funext g k
      unfold xu zclr
      by_cases h1 : g = 40 ∧ k = n
      · rw [if_pos h1, if_pos (by omega)]
      · rw [if_neg h1]
        by_cases h2 : (g = 40 ∧ 0 ≤ k ∧ k < (n : Int)) ∨ (g = 41 ∧ 0 ≤ k ∧ k < 0)
        · rw [if_pos h2, if_pos (by omega)]
        · rw [if_neg h2, if_neg (by omega)]
    rw [ee] at w
    have ih := zM_clears_2_s d m (n + 1) _ (by omega) w
    rw [show ((n + 1 : Nat) : Int) = (n : Int) + 1 by omega] at ih
    have hbl : zbl (zI 0) = true := rfl
    rw [eM_clears_2]
    simp (contextual := true) (disch := omega) only [zWp, zNum, Int.cast_ofNat_Int, Prod.mk.injEq, and_true, true_and, implies_true, and_self, true_implies, false_implies, not_true_eq_false, not_false_eq_true, and_false, false_and, Int.reduceEq, Int.reduceLT, Int.reduceLE, Int.reduceNeg, Int.reduceAdd, Int.reduceSub, Int.reduceMul, Int.reduceToNat, Nat.reduceEqDiff, cond_true, cond_false, hbl, ih] <;> ((repeat' (first | intro _ | with_reducible apply And.intro)) <;> (first | omega | (exfalso; omega)))
/-- clears gives y back -/
theorem zM_clears_s {y' : ZW} (h : zR K x y' S) (h40 : ∀ e, y 40 e = 0) (h41 : ∀ j, y 41 j = 0) (ev : zEv y y') (d : Nat) : zwp (zM_clears (d + 1) S) (fun r => zR K x y r) := by
  have e0 : zclr y' 0 0 = y' := by
    funext g k
    unfold zclr
    rw [if_neg (by omega)]
  have e1 : zclr y' 116 40 = y := by
    funext g k
    unfold zclr
    by_cases h2 : (g = 40 ∧ 0 ≤ k ∧ k < 116) ∨ (g = 41 ∧ 0 ≤ k ∧ k < 40)
    · rw [if_pos h2]
      rcases h2 with h2 | h2
      · rw [h2.1]; exact (h40 k).symm
      · rw [h2.1]; exact (h41 k).symm
    · rw [if_neg h2]
      exact ev g k (by omega)
  have q := zM_clears_2_s (K := K) (x := x) (y := y') d 116 0 S (by omega) (by rw [show ((0 : Nat) : Int) = 0 from rfl, e0]; exact h)
  rw [e1] at q
  rw [eM_clears]
  exact q
theorem zT_refl (h40 : ∀ e, y 40 e = 0) (h41 : ∀ j, y 41 j = 0) : zT y y := ⟨fun e _ _ => by have := h40 e; omega, fun j _ _ => by have := h41 j; omega, fun g _ => rfl, h40⟩
theorem zM_canTry_s (h : zR K x y S) (g : zGp y) (d : Nat) {l v m : Int} (l1 : -2147483648 ≤ l) (l2 : l < 2147483648) (v1 : -2147483648 ≤ v) (v2 : v < 2147483648) (m1 : -2147483648 ≤ m) (m2 : m < 2147483648) : zM_canTry (d + 3) (zI l) (zI v) (zI m) S = some (zb (sTry y l v m), S) := by
  have b11 := zG11 g
  have b15 := zG15 g l
  refine zwp_eq ?_
  rw [eM_canTry]
  simp (contextual := true) (disch := omega) only [zWp, zNum, Int.cast_ofNat_Int, Prod.mk.injEq, and_true, true_and, implies_true, and_self, true_implies, false_implies, not_true_eq_false, not_false_eq_true, and_false, false_and, Int.reduceEq, Int.reduceLT, Int.reduceLE, Int.reduceNeg, Int.reduceAdd, Int.reduceSub, Int.reduceMul, Int.reduceToNat, Nat.reduceEqDiff, cond_true, cond_false, zM_isLine_s h g, zRm15 h, zM_within_s S] <;> ((repeat' (first | intro _ | with_reducible apply And.intro)) <;> (first | omega | (exfalso; omega)))
theorem zM_would_s (h : zR K x y S) (g : zGd y) (h40 : ∀ e, y 40 e = 0) (h41 : ∀ j, y 41 j = 0) (d : Nat) {l v m : Int} (l1 : -2147483648 ≤ l) (l2 : l < 2147483648) (v1 : -2147483648 ≤ v) (v2 : v < 2147483648) (m1 : -2147483648 ≤ m) (m2 : m < 2147483648) : zwp (zM_would (d + 4) (zI l) (zI v) (zI m) S) (fun r => r.1 = zI (sWould y l v m).1 ∧ zR K x (sWould y l v m).2 r.2) := by
  rw [eM_would, sWould]
  have h0 := zR_s h (t := 11) (s := 0) rfl 0 (0 : Int32)
  generalize hS : ((zu S.1 11 0 0 (0 : Int32)), S.2) = S' at h0 ⊢
  have hS1 : zu S.1 11 0 0 (0 : Int32) = S'.1 := by rw [← hS]
  have hS2 : S.2 = S'.2 := by rw [← hS]
  try simp only [hS1, hS2]
  by_cases hc : sTry y l v m
  · obtain ⟨S1, e1, r1⟩ := zM_clears_s h0 h40 h41 (zEv_r y) (d + 2)
    obtain ⟨r, e2, q1, y', q2, q3, q4, q5, q6⟩ := zM_meets_s r1 g.1 (zT_refl h40 h41) g d (l := l) (v := v) (m := m) hc.1 ⟨hc.2.2.1, hc.2.2.2.1⟩ hc.2.2.2.2
    obtain ⟨rv, S2⟩ := r
    rw [if_pos hc.2.1] at q1
    have q1 : rv = zI (sAt y l v m) := q1
    subst q1
    obtain ⟨S3, e3, r3⟩ := zM_clears_s q2 h40 h41 q4 (d + 2)
    rw [if_pos hc]
    simp (contextual := true) (disch := omega) only [zWp, zNum, Int.cast_ofNat_Int, Prod.mk.injEq, and_true, true_and, implies_true, and_self, true_implies, false_implies, not_true_eq_false, not_false_eq_true, and_false, false_and, Int.reduceEq, Int.reduceLT, Int.reduceLE, Int.reduceNeg, Int.reduceAdd, Int.reduceSub, Int.reduceMul, Int.reduceToNat, Nat.reduceEqDiff, cond_true, cond_false, zM_canTry_s h0 g.1, e1, e2, e3, r3] <;> ((repeat' (first | intro _ | with_reducible apply And.intro)) <;> (first | omega | (exfalso; omega)))
  · rw [if_neg hc]
    simp (contextual := true) (disch := omega) only [zWp, zNum, Int.cast_ofNat_Int, Prod.mk.injEq, and_true, true_and, implies_true, and_self, true_implies, false_implies, not_true_eq_false, not_false_eq_true, and_false, false_and, Int.reduceEq, Int.reduceLT, Int.reduceLE, Int.reduceNeg, Int.reduceAdd, Int.reduceSub, Int.reduceMul, Int.reduceToNat, Nat.reduceEqDiff, cond_true, cond_false, zM_canTry_s h0 g.1, h0] <;> ((repeat' (first | intro _ | with_reducible apply And.intro)) <;> (first | omega | (exfalso; omega)))
end WM
