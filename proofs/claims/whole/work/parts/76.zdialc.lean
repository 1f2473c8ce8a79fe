/-! A calling line of the class: its steps, one by one -/
section CS
variable {K : ZS} {x y : ZW} {S : ZS}
/-- the ghost behind noteDigit -/
def sN (x : ZW) (l d : Int) : ZW := xu (if x 20 l = 0 then xu (sTk (sNd x l d) l) 50 l d else sTk (sNd x l d) l) 20 l (x 20 l + 1)
def zNs (S : ZS) (l t a d : Int) : ZS := (zu (zu (zu (if t < 5 then zu S.1 30 l.toNat t.toNat (zI d) else S.1) 2 l.toNat 6 (zI (t + 1))) 2 l.toNat 8 (zI (a + 1))) 2 l.toNat 9 (S.1 2 l.toNat 9 * zI 10 + zI d), S.2)
theorem zL_noteDigit_e (S : ZS) (n : Nat) {l t a d : Int} (h6 : S.1 2 l.toNat 6 = zI t) (h8 : S.1 2 l.toNat 8 = zI a) (ht : 0 ≤ t ∧ t ≤ 400) : zL_noteDigit (n + 1) l.toNat (zI d) S = some (zNs S l t a d) := by
  refine zwp_eq ?_
  unfold zNs
  rw [eL_noteDigit]
  by_cases h5 : t < 5
  · rw [if_pos h5]
    simp (contextual := true) (disch := omega) only [zWp, zNum, Int.cast_ofNat_Int, Prod.mk.injEq, and_true, true_and, implies_true, and_self, true_implies, false_implies, not_true_eq_false, not_false_eq_true, and_false, false_and, Int.reduceEq, Int.reduceLT, Int.reduceLE, Int.reduceNeg, Int.reduceAdd, Int.reduceSub, Int.reduceMul, Int.reduceToNat, Nat.reduceEqDiff, cond_true, cond_false, eL_noteDigit_18, h6, h8, zu_tag, zu_pl, zu_same] <;> ((repeat' (first | intro _ | with_reducible apply And.intro)) <;> (first | omega | (exfalso; omega)))
  · rw [if_neg h5]
    simp (contextual := true) (disch := omega) only [zWp, zNum, Int.cast_ofNat_Int, Prod.mk.injEq, and_true, true_and, implies_true, and_self, true_implies, false_implies, not_true_eq_false, not_false_eq_true, and_false, false_and, Int.reduceEq, Int.reduceLT, Int.reduceLE, Int.reduceNeg, Int.reduceAdd, Int.reduceSub, Int.reduceMul, Int.reduceToNat, Nat.reduceEqDiff, cond_true, cond_false, eL_noteDigit_18, h6, h8, zu_tag, zu_pl, zu_same] <;> ((repeat' (first | intro _ | with_reducible apply And.intro)) <;> (first | omega | (exfalso; omega)))
theorem zR_note (h : zR K x y S) {l d : Int} (hl : zLn x l) (hc : x 15 l = 1) (h16 : x 16 l ≤ 1) (ht : 0 ≤ x 18 l ∧ x 18 l ≤ 400) (ha : 0 ≤ x 20 l ∧ x 20 l ≤ 400) (hd : 0 ≤ d ∧ d ≤ 9) : zR K (sN x l d) y (zNs S l (x 18 l) (x 20 l) d) := by
  have b := zRbx h
  have bl : 0 ≤ l := hl.1
  have q := zRl h hl.1 hl.2
  have A := zRLA h hl.1 hl.2 hc
  obtain ⟨a3, a5, a6, a10, a11, a29, a30, a8⟩ := A
  obtain ⟨a8, a9, a9'⟩ := a8 h16
  have r := zRo_open h bl
  have r : zRo K l (sNd x l d) y (if x 18 l < 5 then zu S.1 30 l.toNat (x 18 l).toNat (zI d) else S.1, S.2) := by
    unfold sNd
    by_cases h5 : x 18 l < 5
    · rw [if_pos h5, if_pos h5]
      exact zRo_c (zRo_g19 r (by omega) h5 (by omega) (by omega)) (t := 30) (Or.inr (Or.inr rfl)) _ _
    · rw [if_neg h5, if_neg h5]
      exact r
  have r := zRo_g r (g := 18) (by simp) (v := sNd x l d 18 l + 1) (by rw [sNd_g x l d (by decide)]; omega) (by rw [sNd_g x l d (by decide)]; omega)
  have r : zRo K l (sTk (sNd x l d) l) y _ := r
  have r : zRo K l (if x 20 l = 0 then xu (sTk (sNd x l d) l) 50 l d else sTk (sNd x l d) l) y (if x 18 l < 5 then zu S.1 30 l.toNat (x 18 l).toNat (zI d) else S.1, S.2) := by
    by_cases h0 : x 20 l = 0
    · rw [if_pos h0]
      exact zRo_g r (g := 50) (by simp) (by omega) (by omega)
    · rw [if_neg h0]
      exact r
  have r := zRo_g r (g := 20) (by simp) (v := x 20 l + 1) (by omega) (by omega)
  have r : zRo K l (sN x l d) y _ := r
  have r := zRo_c r (t := 2) (Or.inl rfl) 6 (zI (x 18 l + 1))
  have r := zRo_c r (t := 2) (Or.inl rfl) 8 (zI (x 20 l + 1))
  have r := zRo_c r (t := 2) (Or.inl rfl) 9 (S.1 2 l.toNat 9 * zI 10 + zI d)
  refine zRo_close r ?_
  have n1 : ∀ g, g ≠ 18 → g ≠ 19 → g ≠ 20 → g ≠ 50 → ∀ k, sN x l d g k = x g k := by
    intro g e18 e19 e20 e50 k
    unfold sN
    rw [xu_g _ e20]
    split
    · rw [xu_g _ e50, sTk_g _ _ e18, sNd_g _ _ _ e19]
    · rw [sTk_g _ _ e18, sNd_g _ _ _ e19]
  have f18 : sN x l d 18 l = x 18 l + 1 := by
    unfold sN
    rw [xu_g _ (by decide)]
    split
    · rw [xu_g _ (by decide)]; unfold sTk; rw [xu_s, sNd_g _ _ _ (by decide)]
    · unfold sTk; rw [xu_s, sNd_g _ _ _ (by decide)]
  have f20 : sN x l d 20 l = x 20 l + 1 := xu_s _ _ _ _
  have f50 : x 20 l = 0 → sN x l d 50 l = d := by
    intro h0
    unfold sN
    rw [xu_g _ (by decide), if_pos h0, xu_s]
  have f19 : ∀ k, sN x l d 19 k = sNd x l d 19 k := by
    intro k
    unfold sN
    rw [xu_g _ (by decide)]
    split
    · rw [xu_g _ (by decide), sTk_g _ _ (by decide)]
    · rw [sTk_g _ _ (by decide)]
  unfold zLC zLA
  rw [n1 12 (by decide) (by decide) (by decide) (by decide), n1 15 (by decide) (by decide) (by decide) (by decide), n1 16 (by decide) (by decide) (by decide) (by decide), n1 17 (by decide) (by decide) (by decide) (by decide), f18, f20, n1 21 (by decide) (by decide) (by decide) (by decide), n1 22 (by decide) (by decide) (by decide) (by decide)]
  have z2 : ∀ k, (if x 18 l < 5 then zu S.1 30 l.toNat (x 18 l).toNat (zI d) else S.1) 2 l.toNat k = S.1 2 l.toNat k := by
    intro k; split
    · exact zu_tag _ (by decide)
    · rfl
  have z29 : ∀ k, (if x 18 l < 5 then zu S.1 30 l.toNat (x 18 l).toNat (zI d) else S.1) 29 l.toNat k = S.1 29 l.toNat k := by
    intro k; split
    · exact zu_tag _ (by decide)
    · rfl
  refine ⟨q.1, ?_, ?_, ?_, fun _ => ⟨?_, ?_, ?_, ?_, ?_, fun i i0 i1 => ?_, fun i i0 i1 i2 => ?_, fun _ => ⟨?_, fun h0 => by omega, fun h1 => ?_⟩⟩, fun e => absurd hc e⟩
  · simp [zNs, zu]; rw [z2]; exact q.2.1
  · simp [zNs, zu]; rw [z2]; exact q.2.2.1
  · simp [zNs, zu]; rw [z2]; exact q.2.2.2.1
  · simp [zNs, zu]; rw [z2]; exact a3
  · simp [zNs, zu]; rw [z2]; exact a5
  · simp [zNs, zu]
  · simp [zNs, zu]; rw [z2]; exact a10
  · simp [zNs, zu]; rw [z2]; exact a11
  · simp [zNs, zu]; rw [z29, n1 23 (by decide) (by decide) (by decide) (by decide)]; exact a29 i i0 i1
  · rw [f19]
    have e : (zNs S l (x 18 l) (x 20 l) d).1 30 l.toNat i.toNat = (if x 18 l < 5 then zu S.1 30 l.toNat (x 18 l).toNat (zI d) else S.1) 30 l.toNat i.toNat := by simp [zNs, zu]
    rw [e]
    unfold sNd
    by_cases h5 : x 18 l < 5
    · rw [if_pos h5, if_pos h5, xu_kk]
      by_cases e2 : i = x 18 l
      · subst e2
        rw [if_pos rfl, zu_same]
      · rw [if_neg (by omega), zu_pl _ (by omega)]
        exact a30 i i0 i1 (by omega)
    · rw [if_neg h5, if_neg h5]
      exact a30 i i0 i1 (by omega)
  · simp [zNs, zu]
  · have h0 : x 20 l = 0 := by omega
    rw [f50 h0]
    simp [zNs, zu]
    rw [a9 h0, zI_mul]
    rfl
/-- a state is told -/
theorem zR_st (h : zR K x y S) {l s : Int} (hl : zLn x l) (hc : x 15 l = 1) (hs : 0 ≤ s ∧ s ≤ 7) (h16 : s ≤ 1 → x 16 l ≤ 1) : zR K (xu x 16 l s) y (zu S.1 2 l.toNat 3 (zI s), S.2) := by
  have q := zRl h hl.1 hl.2
  have A := zRLA h hl.1 hl.2 hc
  obtain ⟨a3, a5, a6, a10, a11, a29, a30, a8⟩ := A
  have r := zRo_open h hl.1
  have r := zRo_g r (g := 16) (by simp) (v := s) (by omega) (by omega)
  have r := zRo_c r (t := 2) (Or.inl rfl) 3 (zI s)
  refine zRo_close r ?_
  have n1 : ∀ g, g ≠ 16 → ∀ k, xu x 16 l s g k = x g k := fun g hg k => xu_g x hg
  unfold zLC zLA
  rw [n1 12 (by decide), n1 15 (by decide), xu_s, n1 17 (by decide), n1 18 (by decide), n1 20 (by decide), n1 21 (by decide), n1 22 (by decide), n1 50 (by decide)]
  refine ⟨q.1, ?_, ?_, ?_, fun _ => ⟨?_, ?_, ?_, ?_, ?_, fun i i0 i1 => ?_, fun i i0 i1 i2 => ?_, fun h1 => ?_⟩, fun e => absurd hc e⟩
  · simp [zu]; exact q.2.1
  · simp [zu]; exact q.2.2.1
  · simp [zu]; exact q.2.2.2.1
  · simp [zu]
  · simp [zu]; exact a5
  · simp [zu]; exact a6
  · simp [zu]; exact a10
  · simp [zu]; exact a11
  · simp [zu]; rw [n1 23 (by decide)]; exact a29 i i0 i1
  · simp [zu]; rw [n1 19 (by decide)]; exact a30 i i0 i1 i2
  · simp [zu]; exact a8 (h16 h1)
/-- an end is held by a calling line -/
theorem zR_hold (h : zR K x y S) (hb : ∀ j, x 22 j ≤ 120) {l e st : Int} (hl : zLn x l) (hl2 : l < 40) (hc : x 15 l = 1) (hn : 0 ≤ x 22 l ∧ x 22 l < 97) (he : 0 ≤ e ∧ e < 116) (hs : 0 ≤ st ∧ st ≤ 7) :
    zR K (xu (xu (sHold x l e) 20 l 0) 16 l st) y (zHs S l (x 22 l) e st) := by
  have q := zRl h hl.1 hl.2
  have A := zRLA h hl.1 hl.2 hc
  have bl : 0 ≤ l := hl.1
  obtain ⟨a3, a5, a6, a10, a11, a29, a30, a8⟩ := A
  have r := zRo_open h hl.1
  have r := zRo_x r (g := 8) (t := 39) (off := 0) (len := 116) (by decide) (by decide) (k := e) (v := l) he.1 he.2 (by omega) (by omega)
  rw [Nat.zero_add] at r
  have r := zRo_g23 r (m := x 22 l) (v := e) (by intro j; rw [xu_g x (by decide)]; exact hb j) (by omega) (by omega) (by omega) (by omega)
  have r := zRo_g r (g := 22) (by simp) (v := x 22 l + 1) (by omega) (by omega)
  have r := zRo_g r (g := 20) (by simp) (v := 0) (by omega) (by omega)
  have r := zRo_g r (g := 16) (by simp) (v := st) (by omega) (by omega)
  have r := zRo_c r (t := 29) (Or.inr (Or.inl rfl)) (x 22 l).toNat (zI e)
  have r := zRo_c r (t := 2) (Or.inl rfl) 5 (zI (x 22 l + 1))
  have r := zRo_c r (t := 2) (Or.inl rfl) 8 (zI 0)
  have r := zRo_c r (t := 2) (Or.inl rfl) 9 (zI 0)
  have r := zRo_c r (t := 2) (Or.inl rfl) 3 (zI st)
  refine zRo_close r ?_
  have n1 : ∀ g, g ≠ 8 → g ≠ 23 → g ≠ 22 → g ≠ 20 → g ≠ 16 → ∀ k, (xu (xu (sHold x l e) 20 l 0) 16 l st) g k = x g k := by
    intro g e8 e23 e22 e20 e16 k
    unfold sHold
    rw [xu_g _ e16, xu_g _ e20, xu_g _ e22, xu_g _ e23, xu_g _ e8]
  have f22 : (xu (xu (sHold x l e) 20 l 0) 16 l st) 22 l = x 22 l + 1 := by
    unfold sHold; rw [xu_g _ (by decide), xu_g _ (by decide), xu_s]
  have f20 : (xu (xu (sHold x l e) 20 l 0) 16 l st) 20 l = 0 := by rw [xu_g _ (by decide), xu_s]
  have f23 : ∀ k, (xu (xu (sHold x l e) 20 l 0) 16 l st) 23 k = if k = 120 * l + x 22 l then e else x 23 k := by
    intro k
    unfold sHold
    rw [xu_g _ (by decide), xu_g _ (by decide), xu_g _ (by decide), xu_kk, xu_g _ (by decide)]
  show zLC (xu (xu (sHold x l e) 20 l 0) 16 l st) _ l
  unfold zLC zLA
  rw [n1 12 (by decide) (by decide) (by decide) (by decide) (by decide), n1 15 (by decide) (by decide) (by decide) (by decide) (by decide), xu_s, n1 17 (by decide) (by decide) (by decide) (by decide) (by decide), n1 18 (by decide) (by decide) (by decide) (by decide) (by decide), f20, n1 21 (by decide) (by decide) (by decide) (by decide) (by decide), f22]
  refine ⟨q.1, ?_, ?_, ?_, fun _ => ⟨?_, ?_, ?_, ?_, ?_, fun i i0 i1 => ?_, fun i i0 i1 i2 => ?_, fun h1 => ⟨?_, fun _ => ?_, fun h0 => by omega⟩⟩, fun e => absurd hc e⟩
  · simp [zHs, zu]; exact q.2.1
  · simp [zHs, zu]; exact q.2.2.1
  · simp [zHs, zu]; exact q.2.2.2.1
  · simp [zHs, zu]
  · simp [zHs, zu]
  · simp [zHs, zu]; exact a6
  · simp [zHs, zu]; exact a10
  · simp [zHs, zu]; exact a11
  · rw [f23]
    have e2 : (zHs S l (x 22 l) e st).1 29 l.toNat i.toNat = zu S.1 29 l.toNat (x 22 l).toNat (zI e) 29 l.toNat i.toNat := by simp [zHs, zu]
    rw [e2]
    by_cases h1 : i = x 22 l
    · rw [if_pos (by omega), h1, zu_same]
    · rw [if_neg (by omega), zu_pl _ (by omega)]
      exact a29 i i0 (by omega)
  · simp [zHs, zu]; rw [n1 19 (by decide) (by decide) (by decide) (by decide) (by decide)]; exact a30 i i0 i1 i2
  · simp [zHs, zu]
  · simp [zHs, zu]
/-- a line is rung -/
theorem zR_ring (h : zR K x y S) {l w : Int} (hl : zLn x l) (hc : x 15 l = 1) (hw : zLn x w) (hw1 : x 15 w ≠ 1) (hw40 : w < 40) : zR K (xu (xu (xu x 16 l 5) 17 l w) 15 w 2) y (zu (zu (zu S.1 2 l.toNat 3 (zI 5)) 2 l.toNat 10 (zI w)) 2 w.toNat 2 (zI 2), S.2) := by
  have q := zRl h hl.1 hl.2
  have A := zRLA h hl.1 hl.2 hc
  have hne : w ≠ l := by rintro rfl; exact hw1 hc
  have hw0 : 0 ≤ w := hw.1
  obtain ⟨a3, a5, a6, a10, a11, a29, a30, a8⟩ := A
  have r := zRo_open h hl.1
  have r := zRo_g r (g := 16) (by simp) (v := 5) (by omega) (by omega)
  have r := zRo_g r (g := 17) (by simp) (v := w) (by omega) (by omega)
  have r := zRo_c r (t := 2) (Or.inl rfl) 3 (zI 5)
  have r := zRo_c r (t := 2) (Or.inl rfl) 10 (zI w)
  have r := zRo_w r (w := w) (v := 2) hw.1 hne (by rw [xu_g _ (by decide), xu_g _ (by decide)]; exact hw1) (by decide) (by omega) (by omega)
  refine zRo_close r ?_
  have hln : l.toNat ≠ w.toNat := by have := hl.1; omega
  have n1 : ∀ g, g ≠ 16 → g ≠ 17 → g ≠ 15 → ∀ k, (xu (xu (xu x 16 l 5) 17 l w) 15 w 2) g k = x g k := fun g e16 e17 e15 k => by rw [xu_g _ e15, xu_g _ e17, xu_g _ e16]
  have f15 : (xu (xu (xu x 16 l 5) 17 l w) 15 w 2) 15 l = x 15 l := by rw [xu_k _ hne.symm, xu_g _ (by decide), xu_g _ (by decide)]
  have f16 : (xu (xu (xu x 16 l 5) 17 l w) 15 w 2) 16 l = 5 := by rw [xu_g _ (by decide), xu_g _ (by decide), xu_s]
  have f17 : (xu (xu (xu x 16 l 5) 17 l w) 15 w 2) 17 l = w := by rw [xu_g _ (by decide), xu_s]
  unfold zLC zLA
  rw [n1 12 (by decide) (by decide) (by decide), f15, f16, f17, n1 18 (by decide) (by decide) (by decide), n1 20 (by decide) (by decide) (by decide), n1 21 (by decide) (by decide) (by decide), n1 22 (by decide) (by decide) (by decide)]
  refine ⟨q.1, ?_, ?_, ?_, fun _ => ⟨?_, ?_, ?_, ?_, ?_, fun i i0 i1 => ?_, fun i i0 i1 i2 => ?_, fun h1 => by omega⟩, fun e => absurd hc e⟩
  · simp [zu]; exact q.2.1
  · simp [zu]; exact q.2.2.1
  · simp [zu, hln]; exact q.2.2.2.1
  · simp [zu]
  · simp [zu]; exact a5
  · simp [zu]; exact a6
  · simp [zu]
  · simp [zu]; exact a11
  · simp [zu]; rw [n1 23 (by decide) (by decide) (by decide)]; exact a29 i i0 i1
  · simp [zu]; rw [n1 19 (by decide) (by decide) (by decide)]; exact a30 i i0 i1 i2
/-- what the class doesn't hold of a line whose state is told -/
theorem zR_20 (h : zR K x y S) {l : Int} (hl : zLn x l) (hc : x 15 l = 1) (h16 : 1 < x 16 l) {v : Int} (v1 : -2147483648 ≤ v) (v2 : v < 2147483648) : zR K (xu x 20 l v) y S := by
  have q := zRl h hl.1 hl.2
  have A := zRLA h hl.1 hl.2 hc
  obtain ⟨a3, a5, a6, a10, a11, a29, a30, a8⟩ := A
  refine zRo_close (zRo_g (zRo_open h hl.1) (g := 20) (by simp) v1 v2) ?_
  have n1 : ∀ g, g ≠ 20 → ∀ k, xu x 20 l v g k = x g k := fun g hg k => xu_g x hg
  unfold zLC zLA
  rw [n1 12 (by decide), n1 15 (by decide), n1 16 (by decide), n1 17 (by decide), n1 18 (by decide), n1 21 (by decide), n1 22 (by decide)]
  exact ⟨q.1, q.2.1, q.2.2.1, q.2.2.2.1, fun _ => ⟨a3, a5, a6, a10, a11, fun i i0 i1 => by rw [n1 23 (by decide)]; exact a29 i i0 i1, fun i i0 i1 i2 => by rw [n1 19 (by decide)]; exact a30 i i0 i1 i2, fun h1 => by omega⟩, fun e => absurd hc e⟩
theorem zR_50 (h : zR K x y S) {l : Int} (hl : zLn x l) (hc : x 15 l = 1) (h16 : 1 < x 16 l ∨ x 20 l ≠ 1) {v : Int} (v1 : -2147483648 ≤ v) (v2 : v < 2147483648) : zR K (xu x 50 l v) y S := by
  have q := zRl h hl.1 hl.2
  have A := zRLA h hl.1 hl.2 hc
  obtain ⟨a3, a5, a6, a10, a11, a29, a30, a8⟩ := A
  refine zRo_close (zRo_g (zRo_open h hl.1) (g := 50) (by simp) v1 v2) ?_
  have n1 : ∀ g, g ≠ 50 → ∀ k, xu x 50 l v g k = x g k := fun g hg k => xu_g x hg
  unfold zLC zLA
  rw [n1 12 (by decide), n1 15 (by decide), n1 16 (by decide), n1 17 (by decide), n1 18 (by decide), n1 20 (by decide), n1 21 (by decide), n1 22 (by decide)]
  exact ⟨q.1, q.2.1, q.2.2.1, q.2.2.2.1, fun _ => ⟨a3, a5, a6, a10, a11, fun i i0 i1 => by rw [n1 23 (by decide)]; exact a29 i i0 i1, fun i i0 i1 i2 => by rw [n1 19 (by decide)]; exact a30 i i0 i1 i2, fun h1 => ⟨(a8 h1).1, (a8 h1).2.1, fun h0 => by omega⟩⟩, fun e => absurd hc e⟩
end CS
