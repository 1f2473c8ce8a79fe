/-! MAKE: a line lifted and dialled, of the class -/
def sDgt (v r : Int) : Int := if r = 0 then v % 10 else if r = 1 then v / 10 % 10 else if r = 2 then v / 100 % 10 else if r = 3 then v / 1000 % 10 else v / 10000 % 10
theorem sDgt_b (v r : Int) : 0 ≤ sDgt v r ∧ sDgt v r ≤ 9 := by
  unfold sDgt
  split
  · omega
  · split
    · omega
    · split
      · omega
      · split <;> omega
def zdv (v : Int) : Nat → Int
  | 0 => v
  | n + 1 => zdv (v / 10) n
theorem zM_digitOf_7_s (S : ZS) (d : Nat) {m : Int} (hm : 1 ≤ m ∧ m ≤ 5) : ∀ (n : Nat) (v i : Int), 0 ≤ v → v ≤ 99999 → 0 ≤ i → i + n = m → zM_digitOf_7 d (zI m) (zI v) (zI i) S = some (zI (zdv v n % 10), S)
  | 0, v, i, v0, v1, i0, e => by
    refine zwp_eq ?_
    rw [eM_digitOf_7, zdv]
    simp (contextual := true) (disch := omega) only [zWp, zNum, Int.cast_ofNat_Int, Prod.mk.injEq, and_true, true_and, implies_true, and_self, true_implies, false_implies, not_true_eq_false, not_false_eq_true, and_false, false_and, Int.reduceEq, Int.reduceLT, Int.reduceLE, Int.reduceNeg, Int.reduceAdd, Int.reduceSub, Int.reduceMul, Int.reduceToNat, Nat.reduceEqDiff, cond_true, cond_false, zmodI] <;> ((repeat' (first | intro _ | with_reducible apply And.intro)) <;> (first | omega | (exfalso; omega)))
  | n + 1, v, i, v0, v1, i0, e => by
    have ih := zM_digitOf_7_s S d hm n (v / 10) (i + 1) (by omega) (by omega) (by omega) (by omega)
    refine zwp_eq ?_
    rw [eM_digitOf_7, zdv]
    simp (contextual := true) (disch := omega) only [zWp, zNum, Int.cast_ofNat_Int, Prod.mk.injEq, and_true, true_and, implies_true, and_self, true_implies, false_implies, not_true_eq_false, not_false_eq_true, and_false, false_and, Int.reduceEq, Int.reduceLT, Int.reduceLE, Int.reduceNeg, Int.reduceAdd, Int.reduceSub, Int.reduceMul, Int.reduceToNat, Nat.reduceEqDiff, cond_true, cond_false, ih] <;> ((repeat' (first | intro _ | with_reducible apply And.intro)) <;> (first | omega | (exfalso; omega)))
theorem zdv_s (v : Int) : ∀ n : Nat, n ≤ 4 → zdv v n % 10 = sDgt v n := by
  intro n hn
  unfold sDgt
  rcases (show n = 0 ∨ n = 1 ∨ n = 2 ∨ n = 3 ∨ n = 4 by omega) with e | e | e | e | e <;> subst e
  · rw [if_pos (by decide)]; rfl
  · rw [if_neg (by decide), if_pos (by decide)]; rfl
  · rw [if_neg (by decide), if_neg (by decide), if_pos (by decide)]
    show v / 10 / 10 % 10 = _
    omega
  · rw [if_neg (by decide), if_neg (by decide), if_neg (by decide), if_pos (by decide)]
    show v / 10 / 10 / 10 % 10 = _
    omega
  · rw [if_neg (by decide), if_neg (by decide), if_neg (by decide), if_neg (by decide)]
    show v / 10 / 10 / 10 / 10 % 10 = _
    omega
theorem zX_digitAt_7_s (S : ZS) (d : Nat) {m : Int} (hm : 1 ≤ m ∧ m ≤ 5) : ∀ (n : Nat) (v i : Int), 0 ≤ v → v ≤ 99999 → 0 ≤ i → i + n = m → zX_digitAt_7 d (zI m) (zI v) (zI i) S = some (zI (zdv v n % 10), S)
  | 0, v, i, v0, v1, i0, e => by
    refine zwp_eq ?_
    rw [eX_digitAt_7, zdv]
    simp (contextual := true) (disch := omega) only [zWp, zNum, Int.cast_ofNat_Int, Prod.mk.injEq, and_true, true_and, implies_true, and_self, true_implies, false_implies, not_true_eq_false, not_false_eq_true, and_false, false_and, Int.reduceEq, Int.reduceLT, Int.reduceLE, Int.reduceNeg, Int.reduceAdd, Int.reduceSub, Int.reduceMul, Int.reduceToNat, Nat.reduceEqDiff, cond_true, cond_false, zmodI] <;> ((repeat' (first | intro _ | with_reducible apply And.intro)) <;> (first | omega | (exfalso; omega)))
  | n + 1, v, i, v0, v1, i0, e => by
    have ih := zX_digitAt_7_s S d hm n (v / 10) (i + 1) (by omega) (by omega) (by omega) (by omega)
    refine zwp_eq ?_
    rw [eX_digitAt_7, zdv]
    simp (contextual := true) (disch := omega) only [zWp, zNum, Int.cast_ofNat_Int, Prod.mk.injEq, and_true, true_and, implies_true, and_self, true_implies, false_implies, not_true_eq_false, not_false_eq_true, and_false, false_and, Int.reduceEq, Int.reduceLT, Int.reduceLE, Int.reduceNeg, Int.reduceAdd, Int.reduceSub, Int.reduceMul, Int.reduceToNat, Nat.reduceEqDiff, cond_true, cond_false, ih] <;> ((repeat' (first | intro _ | with_reducible apply And.intro)) <;> (first | omega | (exfalso; omega)))
theorem zX_digitAt_s (S : ZS) (d : Nat) {v m k : Int} (hv : 0 ≤ v ∧ v ≤ 99999) (hm : 1 ≤ m ∧ m ≤ 5) (hk : 0 ≤ k ∧ k < m) : zX_digitAt (d + 1) (zI v) (zI m) (zI k) S = some (zI (sDgt v (m - 1 - k)), S) := by
  have q := zX_digitAt_7_s S d hm (m - 1 - k).toNat v (k + 1) hv.1 hv.2 (by omega) (by omega)
  rw [zdv_s v _ (by omega), show (((m - 1 - k).toNat : Nat) : Int) = m - 1 - k by omega] at q
  rw [eX_digitAt, zI_n1, zI_add]
  exact q
theorem zM_digitOf_s (S : ZS) (d : Nat) {v m k : Int} (hv : 0 ≤ v ∧ v ≤ 99999) (hm : 1 ≤ m ∧ m ≤ 5) (hk : 0 ≤ k ∧ k < m) : zM_digitOf (d + 1) (zI v) (zI m) (zI k) S = some (zI (sDgt v (m - 1 - k)), S) := by
  have q := zM_digitOf_7_s S d hm (m - 1 - k).toNat v (k + 1) hv.1 hv.2 (by omega) (by omega)
  rw [zdv_s v _ (by omega), show (((m - 1 - k).toNat : Nat) : Int) = m - 1 - k by omega] at q
  rw [eM_digitOf, zI_n1, zI_add]
  exact q
theorem sFF_sw {x : ZW} (g : zGp x) {r : Int} (hr : zSl x r) (h : ¬ sFF x r < 0) : zFr x (sFF x r) ∧ zSw x (sFF x r) := by
  have b2 := zG2 g
  have b4 := zG4 g r
  rcases sFF_b g (r := r) (by omega) with e | ⟨e1, e2, e3⟩
  · omega
  · have e4 : sFF x r / 8 = r := by omega
    refine ⟨e3, by omega, by omega, ?_⟩
    rw [e4]
    omega
/-- lifted, and n digits dialled -/
def sMk (x : ZW) (l v m : Int) : Nat → ZW
  | 0 => sLiftTo x l (sFF x (x 12 l))
  | n + 1 => (sDial (sMk x l v m n) l (sDgt v (m - 1 - n))).2
theorem sDial_z {x : ZW} (g : zGd x) {l d : Int} (hl : zLn x l) (hc : x 15 l = 1) (hd : 0 ≤ d ∧ d ≤ 9) : zGd (sDial x l d).2 ∧ (sDial x l d).2 15 l = 1 ∧ (sDial x l d).1 = (sDial x l d).2 16 l ∧ (∀ g, g ≠ 8 ∧ g ≠ 15 ∧ g ≠ 16 ∧ g ≠ 17 ∧ g ≠ 18 ∧ g ≠ 19 ∧ g ≠ 20 ∧ g ≠ 22 ∧ g ≠ 23 ∧ g ≠ 50 → (sDial x l d).2 g = x g) := by
  have hcc : zLn x l ∧ x 15 l = 1 ∧ 0 ≤ d ∧ d ≤ 9 := ⟨hl, hc, hd.1, hd.2⟩
  unfold sDial
  rw [if_pos hcc]
  by_cases h16 : x 16 l ≤ 1
  · rw [if_pos h16]
    refine ⟨zGd_dial g hl hc h16 hd, ?_, rfl, fun g hg => sStep_n x l d hg⟩
    show sStep x l d 15 l = 1
    have e15 : ∀ k, sEd (sTk (sNd x l d) l) l d 15 k = x 15 k := fun k => by rw [sEd_g _ _ _ (by decide), sTk_g _ _ (by decide), sNd_g _ _ _ (by decide)]
    unfold sStep
    split
    · split
      · unfold sJun
        split
        · rw [xu_g _ (by decide), e15]; exact hc
        · rw [e15]; exact hc
      · split
        · rw [e15]; exact hc
        · unfold sFin
          split
          · rw [xu_g _ (by decide), e15]; exact hc
          · rw [e15]
            split
            · rename_i h
              rw [xu_k _ (by intro e; rw [← e] at h; omega), xu_g _ (by decide), xu_g _ (by decide), e15]; exact hc
            · rw [xu_g _ (by decide), e15]; exact hc
    · unfold sSel
      rw [xu_g _ (by decide)]
      split
      · unfold sHold
        rw [xu_g _ (by decide), xu_g _ (by decide), xu_g _ (by decide), sTk_g _ _ (by decide), sNd_g _ _ _ (by decide)]; exact hc
      · rw [sTk_g _ _ (by decide), sNd_g _ _ _ (by decide)]; exact hc
  · rw [if_neg h16]
    exact ⟨g, hc, rfl, fun g _ => rfl⟩
/-- what make's steps keep -/
theorem sMk_z {x : ZW} (g : zGd x) {l v m : Int} (hl : zLn x l) (hq : x 15 l = 0) (hf : ¬ sFF x (x 12 l) < 0) : ∀ n, zGd (sMk x l v m n) ∧ zLn (sMk x l v m n) l ∧ (sMk x l v m n) 15 l = 1 ∧ (∀ g, (g < 8 ∨ (8 < g ∧ g < 15) ∨ (23 < g ∧ g ≠ 50)) → (sMk x l v m n) g = x g)
  | 0 => by
    have hsel := (zGln g.1 hl.1 hl.2).1
    obtain ⟨h1, h2⟩ := sFF_sw g.1 hsel hf
    have gl := zGd_lift g hl hq h1 h2
    refine ⟨gl, ?_, ?_, fun g' hg => ?_⟩
    · unfold zLn
      show 0 ≤ l ∧ l < sLiftTo x l (sFF x (x 12 l)) 11 0
      simp [sLiftTo, sHold, sLift0, xu]
      exact hl
    · show sLiftTo x l (sFF x (x 12 l)) 15 l = 1
      simp [sLiftTo, sHold, sLift0, xu]
    · show sLiftTo x l (sFF x (x 12 l)) g' = x g'
      funext k
      unfold sLiftTo sHold sLift0
      rw [xu_g _ (by omega), xu_g _ (by omega), xu_g _ (by omega), xu_g _ (by omega), xu_g _ (by omega), xu_g _ (by omega), xu_g _ (by omega), xu_g _ (by omega), xu_g _ (by omega), xu_g _ (by omega)]
  | n + 1 => by
    obtain ⟨h1, h2, h3, h4⟩ := sMk_z g (v := v) (m := m) hl hq hf n
    obtain ⟨q1, q2, q3, q4⟩ := sDial_z h1 h2 h3 (sDgt_b v (m - 1 - n))
    have q5 : ∀ g, (g < 8 ∨ (8 < g ∧ g < 15) ∨ (23 < g ∧ g ≠ 50)) → (sMk x l v m (n + 1)) g = x g := fun g' hg => by
      show (sDial (sMk x l v m n) l (sDgt v (m - 1 - n))).2 g' = x g'
      rw [q4 g' (by omega), h4 g' hg]
    refine ⟨q1, ?_, q2, q5⟩
    unfold zLn
    rw [q5 11 (by omega)]
    exact hl
section MK
variable {K : ZS} {x y : ZW} {S : ZS}
theorem zC_make_10_s (g : zGd x) (h40 : ∀ e, x 40 e = 0) (d : Nat) {l v m : Int} (hl : zLn x l) (hq : x 15 l = 0) (hf : ¬ sFF x (x 12 l) < 0) (hv : 0 ≤ v ∧ v ≤ 99999) (hm : 1 ≤ m ∧ m ≤ 5) :
    ∀ (j n : Nat) (S : ZS), (n : Int) + j = m → zR K (sMk x l v m n) y S → zwp (zC_make_10 (d + 4) l.toNat (zI v) (zI m) (zI ((sMk x l v m n) 16 l)) (zI n) S) (fun r => r.1 = zI ((sMk x l v m m.toNat) 16 l) ∧ zR K (sMk x l v m m.toNat) y r.2)
  | 0, n, S, e, h => by
    rw [show m.toNat = n by omega, eC_make_10]
    simp (contextual := true) (disch := omega) only [zWp, zNum, Int.cast_ofNat_Int, Prod.mk.injEq, and_true, true_and, implies_true, and_self, true_implies, false_implies, not_true_eq_false, not_false_eq_true, and_false, false_and, Int.reduceEq, Int.reduceLT, Int.reduceLE, Int.reduceNeg, Int.reduceAdd, Int.reduceSub, Int.reduceMul, Int.reduceToNat, Nat.reduceEqDiff, cond_true, cond_false, h] <;> ((repeat' (first | intro _ | with_reducible apply And.intro)) <;> (first | omega | (exfalso; omega)))
  | j + 1, n, S, e, h => by
    obtain ⟨h1, h2, h3, h4⟩ := sMk_z g (v := v) (m := m) hl hq hf n
    obtain ⟨q1, q2, q3, q4⟩ := sDial_z h1 h2 h3 (sDgt_b v (m - 1 - n))
    have b16 : 0 ≤ (sMk x l v m n) 16 l ∧ (sMk x l v m n) 16 l ≤ 6 := (h1.2.2.2.1 l h2 h3).2.2.2.1
    have hb : ∀ j, (sMk x l v m n) 22 j ≤ 120 := fun j => by have := h1.2.1 j; omega
    obtain ⟨r, e1, e2, e3⟩ := zC_step_s h h1.1 (by rw [h4 40 (by omega)]; exact h40) hb d (d := sDgt v (m - 1 - n)) h2 h3 (sDgt_b _ _) b16 (fun h16 => zCl_s h1 h2 h3 h16)
    obtain ⟨rv, rs⟩ := r
    have e2 : rv = zI (sDial (sMk x l v m n) l (sDgt v (m - 1 - n))).1 := e2
    rw [q3] at e2
    subst e2
    have ih := zC_make_10_s g h40 d hl hq hf hv hm j (n + 1) rs (by omega) e3
    rw [show ((n + 1 : Nat) : Int) = (n : Int) + 1 by omega] at ih
    have ih : zwp (zC_make_10 (d + 4) l.toNat (zI v) (zI m) (zI ((sDial (sMk x l v m n) l (sDgt v (m - 1 - n))).2 16 l)) (zI ((n : Int) + 1)) rs) _ := ih
    rw [eC_make_10]
    simp (contextual := true) (disch := omega) only [zWp, zNum, Int.cast_ofNat_Int, Prod.mk.injEq, and_true, true_and, implies_true, and_self, true_implies, false_implies, not_true_eq_false, not_false_eq_true, and_false, false_and, Int.reduceEq, Int.reduceLT, Int.reduceLE, Int.reduceNeg, Int.reduceAdd, Int.reduceSub, Int.reduceMul, Int.reduceToNat, Nat.reduceEqDiff, cond_true, cond_false, zX_digitAt_s S, e1, ih] <;> ((repeat' (first | intro _ | with_reducible apply And.intro)) <;> (first | omega | (exfalso; omega)))
theorem zC_make_s (h : zR K x y S) (g : zGd x) (h40 : ∀ e, x 40 e = 0) (d : Nat) {l v m : Int} (hl : zLn x l) (hq : x 15 l = 0) (hv : 0 ≤ v ∧ v ≤ 99999) (hm : 1 ≤ m ∧ m ≤ 5) :
    zwp (zC_make (d + 5) l.toNat (zI v) (zI m) S) (fun r => r.1 = zI (if sFF x (x 12 l) < 0 then 7 else (sMk x l v m m.toNat) 16 l) ∧ zR K (if sFF x (x 12 l) < 0 then x else sMk x l v m m.toNat) y r.2) := by
  have hb : ∀ j, x 22 j ≤ 120 := fun j => by have := g.2.1 j; omega
  have hlq : zLn x l ∧ x 15 l = 0 := ⟨hl, hq⟩
  obtain ⟨r, e1, e2, e3⟩ := zC_take_s h g.1 h40 hb (d + 1) hl hq
  obtain ⟨rv, rs⟩ := r
  have e2 : rv = zI (sLift x l).1 := e2
  subst e2
  have e3 : zR K (sLift x l).2 y rs := e3
  rw [eC_make]
  unfold sLift at e1 e3
  rw [if_pos hlq] at e1 e3
  by_cases hf : sFF x (x 12 l) < 0
  · rw [if_pos hf] at e1 e3
    rw [if_pos hf, if_pos hf]
    rw [e1]
    show zwp (zC_make_10 (d + 4) l.toNat (zI v) (zI m) (zI 7) (zI 0) rs) _
    rw [eC_make_10]
    simp (contextual := true) (disch := omega) only [zWp, zNum, Int.cast_ofNat_Int, Prod.mk.injEq, and_true, true_and, implies_true, and_self, true_implies, false_implies, not_true_eq_false, not_false_eq_true, and_false, false_and, Int.reduceEq, Int.reduceLT, Int.reduceLE, Int.reduceNeg, Int.reduceAdd, Int.reduceSub, Int.reduceMul, Int.reduceToNat, Nat.reduceEqDiff, cond_true, cond_false, e3] <;> ((repeat' (first | intro _ | with_reducible apply And.intro)) <;> (first | omega | (exfalso; omega)))
  · rw [if_neg hf] at e1 e3
    rw [if_neg hf, if_neg hf]
    have q := zC_make_10_s (K := K) (y := y) g h40 d hl hq hf hv hm m.toNat 0 rs (by omega) e3
    have e16 : (sMk x l v m 0) 16 l = sLst x (sFF x (x 12 l)) := by
      show sLiftTo x l (sFF x (x 12 l)) 16 l = _
      simp [sLiftTo, xu]
    rw [e16] at q
    obtain ⟨r2, e4, q⟩ := q
    have e4 : zC_make_10 (d + 4) l.toNat (zI v) (zI m) (zI (sLst x (sFF x (x 12 l)))) (zI 0) rs = some r2 := e4
    simp (contextual := true) (disch := omega) only [zWp, zNum, Int.cast_ofNat_Int, Prod.mk.injEq, and_true, true_and, implies_true, and_self, true_implies, false_implies, not_true_eq_false, not_false_eq_true, and_false, false_and, Int.reduceEq, Int.reduceLT, Int.reduceLE, Int.reduceNeg, Int.reduceAdd, Int.reduceSub, Int.reduceMul, Int.reduceToNat, Nat.reduceEqDiff, cond_true, cond_false, e1, e4, q] <;> ((repeat' (first | intro _ | with_reducible apply And.intro)) <;> (first | omega | (exfalso; omega)))
end MK
