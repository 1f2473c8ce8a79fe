/-! WHAT HOLDS BETWEEN CALLS -/
def zcnt (f : Int → Int) (j : Int) : Nat → Int
  | 0 => 0
  | n + 1 => zcnt f j n + if f n = j then 1 else 0
theorem zcn_b (f : Int → Int) (j : Int) : ∀ n, 0 ≤ zcnt f j n ∧ zcnt f j n ≤ n
  | 0 => ⟨Int.le_refl 0, Int.le_refl 0⟩
  | n + 1 => by
    have := zcn_b f j n
    rw [zcnt]
    split <;> omega
theorem zcn_c {f f' : Int → Int} {j : Int} : ∀ n : Nat, (∀ i : Int, 0 ≤ i → i < n → (f' i = j ↔ f i = j)) → zcnt f' j n = zcnt f j n
  | 0, _ => rfl
  | n + 1, h => by
    rw [zcnt, zcnt, zcn_c n (fun i a b => h i a (by omega))]
    have := h n (by omega) (by omega)
    by_cases e : f n = j
    · rw [if_pos e, if_pos (this.mpr e)]
    · rw [if_neg e, if_neg (fun q => e (this.mp q))]
theorem zcn_1 {f : Int → Int} {j e : Int} (h0 : 0 ≤ e) (hf : f e ≠ j) : ∀ n : Nat, zcnt (fun i => if i = e then j else f i) j n = zcnt f j n + if e < n then 1 else 0
  | 0 => by
    rw [if_neg (by omega)]; rfl
  | n + 1 => by
    rw [zcnt, zcnt, zcn_1 h0 hf n]
    by_cases e1 : (n : Int) = e
    · rw [if_pos e1, if_pos rfl, e1, if_neg hf, if_neg (by omega), if_pos (by omega)]
    · rw [if_neg e1]
      by_cases e2 : e < n
      · rw [if_pos e2, if_pos (show e < ((n + 1 : Nat) : Int) by omega)]; omega
      · rw [if_neg e2, if_neg (show ¬ e < ((n + 1 : Nat) : Int) by omega)]; omega
/-- a calling line -/
def zCg (x : ZW) (j : Int) : Prop :=
  (1 ≤ x 22 j ∧ x 22 j ≤ zcnt (x 8) j 96 + if 100 ≤ sHead x j then 1 else 0) ∧
  (∀ i, 0 ≤ i → i < x 22 j → zEn x (x 23 (120 * j + i)) ∧ x 8 (x 23 (120 * j + i)) = j) ∧
  (-1 ≤ x 17 j ∧ x 17 j < x 11 0 ∧ (0 ≤ x 17 j → x 15 (x 17 j) = 2)) ∧
  (0 ≤ x 16 j ∧ x 16 j ≤ 6) ∧
  (0 ≤ x 18 j ∧ x 18 j + 1 ≤ x 22 j + x 20 j + if x 16 j ≤ 2 ∨ 5 ≤ x 16 j then 0 else 1) ∧
  ((0 ≤ x 20 j ∧ x 20 j ≤ 3) ∧ (x 16 j ≤ 1 → x 20 j ≤ 2 ∧ (sHead x j < 100 → x 20 j ≤ 1) ∧ (¬ zEg x (sHead x j) → x 20 j = 0))) ∧
  (-1 ≤ x 21 j ∧ x 21 j ≤ 999999 ∧ (x 16 j = 6 → 0 ≤ x 21 j)) ∧
  (∀ i, 0 ≤ i → i < 5 → i < x 18 j → 0 ≤ x 19 (5 * j + i) ∧ x 19 (5 * j + i) ≤ 9)
def zGd (x : ZW) : Prop := zGp x ∧ (∀ j, 0 ≤ x 22 j ∧ x 22 j ≤ 97) ∧ (∀ j, x 11 0 ≤ j → x 15 j = 0) ∧ (∀ j, zLn x j → x 15 j = 1 → zCg x j) ∧
  (∀ i j, zLn x i → zLn x j → x 15 i = 1 → x 15 j = 1 → x 17 i = x 17 j → 0 ≤ x 17 i → i = j) ∧
  (∀ e, 0 ≤ e → 0 ≤ x 8 e → zLn x (x 8 e) ∧ x 15 (x 8 e) = 1 ∧ ∃ i, 0 ≤ i ∧ i < x 22 (x 8 e) ∧ x 23 (120 * x 8 e + i) = e) ∧
  (∀ j, 0 ≤ x 50 j ∧ x 50 j ≤ 9)
theorem zCl_s {x : ZW} (g : zGd x) {l : Int} (hl : zLn x l) (hc : x 15 l = 1) (h16 : x 16 l ≤ 1) : zCs x l ∧ (¬ zEg x (sHead x l) → x 20 l = 0 ∧ x 22 l < 97) := by
  obtain ⟨g1, g2, g3, g4, g5, g6, g7⟩ := g
  obtain ⟨c1, c2, c3, c4, c5, c6, c7, c8⟩ := g4 l hl hc
  have b := zcn_b (x 8) l 96
  have b22 := g2 l
  have b50 := g7 l
  have h1 := (c2 (x 22 l - 1) (by omega) (by omega)).1
  rw [show 120 * l + (x 22 l - 1) = 120 * l + x 22 l - 1 by omega] at h1
  have h1 : zEn x (sHead x l) := h1
  have c6b := c6.2 h16
  refine ⟨⟨by omega, h1, ?_, by omega, c6b.2.1, b50, c4⟩, fun hE => ⟨c6b.2.2 hE, ?_⟩⟩
  · have := c5.2
    split at this <;> omega
  · have : ¬ 100 ≤ sHead x l := fun q => hE (Or.inl q)
    rw [if_neg this] at c1
    omega
theorem zCl_e {x : ZW} (g : zGd x) {l : Int} (hl : zLn x l) (hc : x 15 l = 1) : zCe x l := by
  obtain ⟨g1, g2, g3, g4, g5, g6, g7⟩ := g
  obtain ⟨c1, c2, c3, c4, c5, c6, c7, c8⟩ := g4 l hl hc
  have b2 := zG2 g1
  refine ⟨by have := g2 l; omega, fun i i0 i1 => ?_, by omega, fun q => by have := c3.2.2 q; omega, fun q => by have := c7.2.2 q; omega⟩
  have := (c2 i i0 i1).1
  have b4 := zG4 g1 (x 23 (120 * l + i) / 8)
  omega
/-- what a change does not touch: a line's own, the plant -/
def zSm (x x' : ZW) (j : Int) : Prop := x' 2 0 = x 2 0 ∧ x' 3 = x 3 ∧ x' 4 = x 4 ∧ x' 11 0 = x 11 0 ∧ x' 16 j = x 16 j ∧ x' 17 j = x 17 j ∧ x' 18 j = x 18 j ∧ x' 20 j = x 20 j ∧ x' 21 j = x 21 j ∧ x' 22 j = x 22 j ∧ (∀ i, 0 ≤ i → i < 5 → x' 19 (5 * j + i) = x 19 (5 * j + i)) ∧ (∀ i, 0 ≤ i → i < 120 → x' 23 (120 * j + i) = x 23 (120 * j + i))
theorem zCl_o {x x' : ZW} {j : Int} (h : zCg x j) (hb : 0 ≤ x 22 j ∧ x 22 j ≤ 97) (s : zSm x x' j) (h8 : ∀ e, (x' 8 e = j ↔ x 8 e = j)) (h15 : 0 ≤ x 17 j → x' 15 (x 17 j) = 2) : zCg x' j := by
  obtain ⟨s2, s3, s4, s11, s16, s17, s18, s20, s21, s22, s19, s23⟩ := s
  obtain ⟨c1, c2, c3, c4, c5, c6, c7, c8⟩ := h
  have eh : sHead x' j = sHead x j := by
    unfold sHead
    rw [s22, show 120 * j + x 22 j - 1 = 120 * j + (x 22 j - 1) by omega]
    exact s23 _ (by omega) (by omega)
  unfold zCg
  unfold zEn zSw zEg at *
  rw [eh, s2, s3, s4, s11, s16, s17, s18, s20, s21, s22, zcn_c 96 (fun i _ _ => h8 i)]
  refine ⟨c1, fun i i0 i1 => ?_, ⟨c3.1, c3.2.1, h15⟩, c4, c5, c6, c7, fun i i0 i1 i2 => ?_⟩
  · rw [s23 i i0 (by omega)]
    exact ⟨(c2 i i0 i1).1, (h8 _).mpr (c2 i i0 i1).2⟩
  · rw [s19 i i0 i1]
    exact c8 i i0 i1 i2
/-- lifting keeps it -/
theorem zGd_lift {x : ZW} (g : zGd x) {l s : Int} (hl : zLn x l) (hq : x 15 l = 0) (hs : zFr x s) (hsw : zSw x s) : zGd (sLiftTo x l s) := by
  obtain ⟨g1, g2, g3, g4, g5, g6, g7⟩ := g
  have b11 := zG11 g1
  have b2 := zG2 g1
  have n1 : ∀ g, g ≠ 8 → g ≠ 15 → g ≠ 16 → g ≠ 17 → g ≠ 18 → g ≠ 20 → g ≠ 21 → g ≠ 22 → g ≠ 23 → sLiftTo x l s g = x g := by
    intro g e8 e15 e16 e17 e18 e20 e21 e22 e23
    funext k
    simp [sLiftTo, sHold, sLift0, xu, e8, e15, e16, e17, e18, e20, e21, e22, e23]
  have n8 : sLiftTo x l s 8 = fun i => if i = s then l else x 8 i := by funext k; simp [sLiftTo, sHold, sLift0, xu]
  have nl : ∀ g, g = 15 ∨ g = 16 ∨ g = 17 ∨ g = 18 ∨ g = 20 ∨ g = 21 ∨ g = 22 → ∀ j, j ≠ l → sLiftTo x l s g j = x g j := by
    rintro g (rfl | rfl | rfl | rfl | rfl | rfl | rfl) j hj <;> simp [sLiftTo, sHold, sLift0, xu, hj]
  have f15 : sLiftTo x l s 15 l = 1 := by simp [sLiftTo, sHold, sLift0, xu]
  have f16 : sLiftTo x l s 16 l = sLst x s := by simp [sLiftTo, sHold, sLift0, xu]
  have f17 : sLiftTo x l s 17 l = -1 := by simp [sLiftTo, sHold, sLift0, xu]
  have f18 : sLiftTo x l s 18 l = 0 := by simp [sLiftTo, sHold, sLift0, xu]
  have f20 : sLiftTo x l s 20 l = 0 := by simp [sLiftTo, sHold, sLift0, xu]
  have f21 : sLiftTo x l s 21 l = -1 := by simp [sLiftTo, sHold, sLift0, xu]
  have f22 : sLiftTo x l s 22 l = 1 := by simp [sLiftTo, sHold, sLift0, xu]
  have f23 : ∀ k, sLiftTo x l s 23 k = if k = 120 * l then s else x 23 k := by intro k; simp [sLiftTo, sHold, sLift0, xu]
  have fh : sHead (sLiftTo x l s) l = s := by
    unfold sHead
    rw [f22, f23, if_pos (by omega)]
  have e2 := n1 2 (by decide) (by decide) (by decide) (by decide) (by decide) (by decide) (by decide) (by decide) (by decide)
  have e3 := n1 3 (by decide) (by decide) (by decide) (by decide) (by decide) (by decide) (by decide) (by decide) (by decide)
  have e4 := n1 4 (by decide) (by decide) (by decide) (by decide) (by decide) (by decide) (by decide) (by decide) (by decide)
  have e11 := n1 11 (by decide) (by decide) (by decide) (by decide) (by decide) (by decide) (by decide) (by decide) (by decide)
  have e19 := n1 19 (by decide) (by decide) (by decide) (by decide) (by decide) (by decide) (by decide) (by decide) (by decide)
  have e50 := n1 50 (by decide) (by decide) (by decide) (by decide) (by decide) (by decide) (by decide) (by decide) (by decide)
  have hLn : ∀ j, zLn (sLiftTo x l s) j = zLn x j := fun j => by unfold zLn; rw [e11]
  have q15 : ∀ j, sLiftTo x l s 15 j = 1 → j ≠ l → x 15 j = 1 := fun j a b => by rw [← nl 15 (by simp) j b]; exact a
  refine ⟨?_, fun j => ?_, fun j hj => ?_, fun j hj hj1 => ?_, fun i j hi hj hi1 hj1 hij h0 => ?_, fun e e0 he => ?_, fun j => by rw [e50]; exact g7 j⟩
  · refine zGp_e g1 (fun g' h' h8 h15 => n1 g' h8 h15 (by omega) (by omega) (by omega) (by omega) (by omega) (by omega) (by omega)) (fun e => ?_) (fun j => ?_)
    · rw [n8]
      have := zG8 g1 e
      dsimp only
      split <;> omega
    · by_cases e : j = l
      · rw [e, f15]; omega
      · rw [nl 15 (by simp) j e]; exact zG15 g1 j
  · by_cases e : j = l
    · rw [e, f22]; omega
    · rw [nl 22 (by simp) j e]; exact g2 j
  · rw [e11] at hj
    rw [nl 15 (by simp) j (by omega)]
    exact g3 j hj
  · rw [hLn] at hj
    by_cases e : j = l
    · subst e
      unfold zCg
      rw [fh, f16, f17, f18, f20, f21, f22, n8, e11]
      have hz := zcn_1 (f := x 8) (j := j) (e := s) (by omega) (by omega) 96
      have hz0 := zcn_b (x 8) j 96
      rw [if_pos (by omega)] at hz
      refine ⟨⟨by omega, ?_⟩, fun i i0 i1 => ?_, ⟨by omega, by omega, fun h => by omega⟩, ?_, ⟨by omega, ?_⟩, ⟨by omega, fun _ => ⟨by omega, fun _ => by omega, fun _ => rfl⟩⟩, ⟨by omega, by omega, fun h => ?_⟩, fun i i0 i1 i2 => by omega⟩
      · rw [hz]; split <;> omega
      · rw [show i = 0 by omega, f23, if_pos (by omega)]
        dsimp only
        rw [if_pos rfl]
        refine ⟨Or.inl ?_, rfl⟩
        unfold zSw
        rw [e2, e4]
        exact hsw
      · unfold sLst; split <;> omega
      · unfold sLst; split <;> split <;> omega
      · unfold sLst at h; split at h <;> omega
    · have c := g4 j hj (q15 j hj1 e)
      refine zCl_o c (g2 j) ⟨by rw [e2], e3, e4, by rw [e11], nl 16 (by simp) j e, nl 17 (by simp) j e, nl 18 (by simp) j e, nl 20 (by simp) j e, nl 21 (by simp) j e, nl 22 (by simp) j e, fun i i0 i1 => by rw [e19], fun i i0 i1 => by rw [f23, if_neg (by omega)]⟩ (fun k => ?_) (fun h17 => ?_)
      · rw [n8]
        dsimp only
        by_cases ks : k = s
        · rw [if_pos ks, ks]
          constructor
          · intro q; omega
          · intro q; have := hj.1; omega
        · rw [if_neg ks]
      · have := c.2.2.1.2.2 h17
        rw [nl 15 (by simp) _ (by rintro rfl; omega)]
        exact this
  · rw [hLn] at hi hj
    by_cases e : i = l
    · rw [e, f17] at h0; omega
    · by_cases e' : j = l
      · rw [e', f17] at hij; omega
      · rw [nl 17 (by simp) i e, nl 17 (by simp) j e'] at hij
        rw [nl 17 (by simp) i e] at h0
        exact g5 i j hi hj (q15 i hi1 e) (q15 j hj1 e') hij h0
  · rw [n8] at he ⊢
    dsimp only at he ⊢
    by_cases es : e = s
    · rw [if_pos es, hLn]
      exact ⟨hl, f15, 0, by omega, by omega, by rw [f23, if_pos (by omega), es]⟩
    · rw [if_neg es] at he ⊢
      obtain ⟨a, b, i, i0, i1, i2⟩ := g6 e e0 he
      have hne : x 8 e ≠ l := by intro q; rw [q] at b; omega
      rw [hLn, nl 15 (by simp) _ hne, nl 22 (by simp) _ hne]
      have := g2 (x 8 e)
      exact ⟨a, b, i, i0, i1, by rw [f23, if_neg (by omega)]; exact i2⟩
