/-! What line, end, word keep -/
section KQ
variable {x : ZW}
theorem zGd_line (h : zGd x) (a b n : Int) : zGd (sLine x a b n).2 := by
  unfold sLine
  split
  · rename_i hc
    dsimp only
    obtain ⟨g1, g2, g3, g4, g5, g6, g7⟩ := h
    have b2 := zG2 g1
    have b11 := zG11 g1
    have hL0 := g3 (x 11 0) (by omega)
    have e : ∀ g, g ≠ 11 → g ≠ 12 → g ≠ 13 → g ≠ 14 → sAdd x a b n g = x g := fun g e11 e12 e13 e14 => by funext k; unfold sAdd; rw [xu_g _ e11, xu_g _ e14, xu_g _ e13, xu_g _ e12]
    have f11 : sAdd x a b n 11 0 = x 11 0 + 1 := xu_s _ _ _ _
    have f12 : ∀ l, sAdd x a b n 12 l = if l = x 11 0 then a else x 12 l := fun l => by unfold sAdd; rw [xu_g _ (by decide), xu_g _ (by decide), xu_g _ (by decide), xu_kk]
    have f13 : ∀ l, sAdd x a b n 13 l = if l = x 11 0 then b else x 13 l := fun l => by unfold sAdd; rw [xu_g _ (by decide), xu_g _ (by decide), xu_kk, xu_g _ (by decide)]
    have f14 : ∀ l, sAdd x a b n 14 l = if l = x 11 0 then n else x 14 l := fun l => by unfold sAdd; rw [xu_g _ (by decide), xu_kk, xu_g _ (by decide), xu_g _ (by decide)]
    generalize sAdd x a b n = w at e f11 f12 f13 f14
    have e' : ∀ g, g = 1 ∨ g = 2 ∨ g = 3 ∨ g = 4 ∨ g = 5 ∨ g = 6 ∨ g = 7 ∨ g = 8 ∨ g = 9 ∨ g = 10 ∨ (15 ≤ g ∧ g ≤ 50) → w g = x g := fun g hg => e g (by omega) (by omega) (by omega) (by omega)
    have gp : zGp w := by
      obtain ⟨a1, a2, a3, a4, a5, a6, a7, a8, a9, a10, a11, a12, a13, a14, a15, a16, a17, a18⟩ := g1
      unfold zGp zEn zSl zSw
      simp only [e' 1 (by omega), e' 2 (by omega), e' 3 (by omega), e' 4 (by omega), e' 5 (by omega), e' 6 (by omega), e' 7 (by omega), e' 8 (by omega), e' 9 (by omega), e' 10 (by omega), e' 15 (by omega)]
      refine ⟨a1, a2, a3, a4, a5, a6, a7, a8, a9, a10, a11, a12, by rw [f11]; omega, fun j => ?_, fun j => ?_, fun j => ?_, fun j j0 j1 => ?_, a18⟩
      · rw [f12]; split
        · omega
        · exact a14 j
      · rw [f13]; split
        · omega
        · exact a15 j
      · rw [f14]; split
        · omega
        · exact a16 j
      · rw [f11] at j1
        rw [f12, f13]
        by_cases hj : j = x 11 0
        · rw [if_pos hj, if_pos hj]; exact ⟨hc.1, hc.2.2.1, hc.2.2.2.1⟩
        · rw [if_neg hj, if_neg hj]; exact a17 j j0 (by omega)
    have hLn : ∀ j, zLn w j → w 15 j = 1 → zLn x j := fun j hj hj1 => by
      unfold zLn at hj
      rw [f11] at hj
      rw [e' 15 (by omega)] at hj1
      have : j ≠ x 11 0 := by rintro rfl; omega
      omega
    refine ⟨gp, by rw [e' 22 (by omega)]; exact g2, fun j hj => by rw [f11] at hj; rw [e' 15 (by omega)]; exact g3 j (by omega), fun j hj hj1 => ?_, fun i j hi hj hi1 hj1 hij h0 => ?_, fun q q0 hq => ?_, by rw [e' 50 (by omega)]; exact g7⟩
    · have hl := hLn j hj hj1
      rw [e' 15 (by omega)] at hj1
      obtain ⟨c1, c2, c3, c4, c5, c6, c7, c8⟩ := g4 j hl hj1
      have eh : sHead w j = sHead x j := by unfold sHead; rw [e' 22 (by omega), e' 23 (by omega)]
      unfold zCg
      unfold zEn zSw zEg at *
      rw [eh, f11, e' 2 (by omega), e' 3 (by omega), e' 4 (by omega), e' 8 (by omega), e' 15 (by omega), e' 16 (by omega), e' 17 (by omega), e' 18 (by omega), e' 19 (by omega), e' 20 (by omega), e' 21 (by omega), e' 22 (by omega), e' 23 (by omega)]
      exact ⟨c1, c2, ⟨c3.1, by omega, c3.2.2⟩, c4, c5, c6, c7, c8⟩
    · have hi' := hLn i hi hi1
      have hj' := hLn j hj hj1
      rw [e' 15 (by omega)] at hi1 hj1
      rw [e' 17 (by omega)] at hij h0
      exact g5 i j hi' hj' hi1 hj1 hij h0
    · rw [e' 8 (by omega)] at hq ⊢
      rw [e' 15 (by omega), e' 22 (by omega), e' 23 (by omega)]
      obtain ⟨r1, r2, r3⟩ := g6 q q0 hq
      exact ⟨by unfold zLn; rw [f11]; omega, r2, r3⟩
  · exact h
theorem zGd_rel (h : zGd x) {l : Int} (hl : zLn x l) (hc : x 15 l = 1) : zGd (sRel x l) := by
  obtain ⟨g1, g2, g3, g4, g5, g6, g7⟩ := h
  have b22 := g2 l
  have cl := g4 l hl hc
  have n : ∀ g, g ≠ 8 → g ≠ 15 → g ≠ 22 → sRel x l g = x g := by
    intro g e8 e15 e22
    funext k
    unfold sRel
    rw [xu_g _ e15]
    split
    · rw [xu_g _ e22, sFreeN_g _ _ e8]
    · rw [xu_g _ e15, xu_g _ e22, sFreeN_g _ _ e8]
  have n22 : ∀ j, sRel x l 22 j = if j = l then 0 else x 22 j := by
    intro j
    unfold sRel
    rw [xu_g _ (by decide)]
    split
    · rw [xu_kk, sFreeN_g _ _ (by decide)]
    · rw [xu_g _ (by decide), xu_kk, sFreeN_g _ _ (by decide)]
  have n8 : ∀ e, (sRel x l 8 e = x 8 e ∧ (0 ≤ e → x 8 e ≠ l)) ∨ (sRel x l 8 e = -1 ∧ x 8 e = l) ∨ (e < 0 ∧ sRel x l 8 e = x 8 e) := by
    intro e
    have e8 : sRel x l 8 e = sFreeN x l (x 22 l).toNat 8 e := by
      unfold sRel
      rw [xu_g _ (by decide)]
      split
      · rw [xu_g _ (by decide)]
      · rw [xu_g _ (by decide), xu_g _ (by decide)]
    rw [e8]
    rcases sFreeN_8 x l (x 22 l).toNat e with q | ⟨q, i, i0, i1, i2⟩
    · by_cases he : 0 ≤ e
      · by_cases hq : x 8 e = l
        · obtain ⟨-, -, i, i0, i1, i2⟩ := g6 e he (by rw [hq]; exact hl.1)
          rw [hq] at i1 i2
          have := sFreeN_p x l (x 22 l).toNat i i0 (by omega)
          rw [i2] at this
          exact Or.inr (Or.inl ⟨this, hq⟩)
        · exact Or.inl ⟨q, fun _ => hq⟩
      · exact Or.inr (Or.inr ⟨by omega, q⟩)
    · refine Or.inr (Or.inl ⟨q, ?_⟩)
      have := (cl.2.1 i (by omega) (by omega)).2
      rw [i2] at this
      exact this
  have n15 : ∀ j, sRel x l 15 j = if j = l then 0 else if 0 ≤ x 17 l ∧ j = x 17 l then 0 else x 15 j := by
    intro j
    unfold sRel
    rw [xu_kk]
    by_cases e : j = l
    · rw [if_pos e, if_pos e]
    · rw [if_neg e, if_neg e]
      by_cases h17 : x 17 l < 0
      · rw [if_pos h17, if_neg (by omega), xu_g _ (by decide), sFreeN_g _ _ (by decide)]
      · rw [if_neg h17, xu_kk]
        by_cases e2 : j = x 17 l
        · rw [if_pos e2, if_pos ⟨by omega, e2⟩]
        · rw [if_neg e2, if_neg (fun q => e2 q.2), xu_g _ (by decide), sFreeN_g _ _ (by decide)]
  generalize sRel x l = w at n n22 n8 n15
  have e11 := n 11 (by decide) (by decide) (by decide)
  have hLn : ∀ j, zLn w j ↔ zLn x j := fun j => by unfold zLn; rw [e11]
  have hC : ∀ j, w 15 j = 1 → j ≠ l ∧ x 15 j = 1 := by
    intro j hj
    rw [n15] at hj
    by_cases e : j = l
    · rw [if_pos e] at hj; omega
    · rw [if_neg e] at hj
      by_cases e2 : 0 ≤ x 17 l ∧ j = x 17 l
      · rw [if_pos e2] at hj; omega
      · rw [if_neg e2] at hj; exact ⟨e, hj⟩
  have hC' : ∀ j, j ≠ l → x 15 j = 1 → w 15 j = 1 := by
    intro j e hj
    rw [n15, if_neg e, if_neg]
    · exact hj
    · rintro ⟨q1, q2⟩
      have := cl.2.2.1.2.2 q1
      rw [← q2] at this
      omega
  refine ⟨?_, fun j => ?_, fun j hj => ?_, fun j hj hj1 => ?_, fun i j hi hj hi1 hj1 hij h0 => ?_, fun e e0 he => ?_, by rw [n 50 (by decide) (by decide) (by decide)]; exact g7⟩
  · refine zGp_e g1 (fun g h' h8 h15 => n g h8 h15 (by omega)) (fun e => ?_) (fun j => ?_)
    · have := zG8 g1 e
      rcases n8 e with q | q | q <;> omega
    · have := zG15 g1 j
      rw [n15]
      split
      · omega
      · split <;> omega
  · rw [n22]
    have := g2 j
    split <;> omega
  · rw [e11] at hj
    have := g3 j hj
    rw [n15]
    split
    · rfl
    · split
      · rfl
      · exact this
  · rw [hLn] at hj
    obtain ⟨hne, hj2⟩ := hC j hj1
    have c := g4 j hj hj2
    refine zCl_o c (g2 j) ⟨by rw [n 2 (by decide) (by decide) (by decide)], n 3 (by decide) (by decide) (by decide), n 4 (by decide) (by decide) (by decide), by rw [e11], by rw [n 16 (by decide) (by decide) (by decide)], by rw [n 17 (by decide) (by decide) (by decide)], by rw [n 18 (by decide) (by decide) (by decide)], by rw [n 20 (by decide) (by decide) (by decide)], by rw [n 21 (by decide) (by decide) (by decide)], by rw [n22, if_neg hne], fun i _ _ => by rw [n 19 (by decide) (by decide) (by decide)], fun i _ _ => by rw [n 23 (by decide) (by decide) (by decide)]⟩ (fun e => ?_) (fun h17 => ?_)
    · have hj0 := hj.1
      rcases n8 e with q | q | q
      · rw [q.1]
      · rw [q.1, q.2]
        constructor
        · intro q2; omega
        · intro q2; exact absurd q2.symm hne
      · rw [q.2]
    · have q := c.2.2.1.2.2 h17
      rw [n15, if_neg (by rintro e; rw [e] at q; omega), if_neg]
      · exact q
      · rintro ⟨q1, q2⟩
        exact hne (g5 j l hj hl hj2 hc q2 h17)
  · rw [hLn] at hi hj
    rw [n 17 (by decide) (by decide) (by decide)] at hij h0
    exact g5 i j hi hj (hC i hi1).2 (hC j hj1).2 hij h0
  · have hq : w 8 e = x 8 e ∧ x 8 e ≠ l := by
      rcases n8 e with q | q | q
      · exact ⟨q.1, q.2 e0⟩
      · omega
      · omega
    rw [hq.1] at he ⊢
    obtain ⟨r1, r2, i, i0, i1, i2⟩ := g6 e e0 he
    rw [hLn, n22, if_neg hq.2, n 23 (by decide) (by decide) (by decide)]
    exact ⟨r1, hC' _ hq.2 r2, i, i0, i1, i2⟩
theorem zGd_end (h : zGd x) (l u : Int) : zGd (sEnd x l u).2 := by
  unfold sEnd
  split
  · rename_i hc
    split
    · have hw : zGd (sWrite x l u) := zGd_c (fun g hg => sWrite_g x l u (by omega)) h
      exact zGd_rel hw (by unfold zLn; rw [sWrite_g x l u (by decide)]; exact hc.1) (by rw [sWrite_g x l u (by decide)]; exact hc.2)
    · exact zGd_rel h hc.1 hc.2
  · exact h
/-- the book's bounds rest on its fields alone -/
theorem zGb_c {x' : ZW} (e : ∀ g, 24 ≤ g → g ≤ 32 → x' g = x g) (h : zGb x) : zGb x' := by
  unfold zGb at h ⊢
  rw [e 24 (by omega) (by omega), e 27 (by omega) (by omega), e 28 (by omega) (by omega), e 29 (by omega) (by omega), e 32 (by omega) (by omega)]
  exact h
theorem zGb_word (h : zGb x) (g : zGp x) (c u : Int) : zGb (sWord x c u).2 := by
  unfold sWord
  split
  · rename_i hc
    dsimp only
    have b1 := zG1 g
    obtain ⟨a1, a2, a3, a4, a5⟩ := h
    refine ⟨?_, ?_, fun k => ?_, fun k => ?_, fun k => ?_⟩
    · rw [xu_g _ (by decide), xu_g _ (by decide), xu_g _ (by decide), xu_g _ (by decide)]; exact a1
    · rw [xu_s]; omega
    · rw [xu_g _ (by decide), xu_g _ (by decide), xu_g _ (by decide), xu_g _ (by decide)]; exact a3 k
    · rw [xu_g _ (by decide), xu_g _ (by decide), xu_g _ (by decide), xu_g _ (by decide)]; exact a4 k
    · rw [xu_g _ (by decide), xu_kk]
      split
      · omega
      · rw [xu_g _ (by decide), xu_g _ (by decide)]; exact a5 k
  · exact h
theorem zGb_end (h : zGb x) (g : zGd x) (l u : Int) : zGb (sEnd x l u).2 := by
  have rel : ∀ w : ZW, ∀ g, 24 ≤ g → g ≤ 32 → sRel w l g = w g := by
    intro w g h1 h2
    funext k
    unfold sRel
    rw [xu_g _ (by omega)]
    split
    · rw [xu_g _ (by omega), sFreeN_g _ _ (by omega)]
    · rw [xu_g _ (by omega), xu_g _ (by omega), sFreeN_g _ _ (by omega)]
  unfold sEnd
  split
  · rename_i hc
    split
    · rename_i h6
      refine zGb_c (rel _) ?_
      have b1 := zG1 g.1
      have c7 := (g.2.2.2.1 l hc.1 hc.2).2.2.2.2.2.2.1
      have h0 := c7.2.2 h6
      unfold sWrite
      split
      · obtain ⟨a1, a2, a3, a4, a5⟩ := h
        refine ⟨?_, ?_, fun k => ?_, fun k => ?_, fun k => ?_⟩
        · rw [xu_s]; omega
        · rw [xu_g _ (by decide), xu_g _ (by decide), xu_g _ (by decide), xu_g _ (by decide), xu_g _ (by decide)]; exact a2
        · rw [xu_g _ (by decide), xu_g _ (by decide), xu_kk]
          split
          · omega
          · rw [xu_g _ (by decide), xu_g _ (by decide)]; exact a3 k
        · rw [xu_g _ (by decide), xu_kk]
          split
          · omega
          · rw [xu_g _ (by decide), xu_g _ (by decide), xu_g _ (by decide)]; exact a4 k
        · rw [xu_g _ (by decide), xu_g _ (by decide), xu_g _ (by decide), xu_g _ (by decide), xu_g _ (by decide)]; exact a5 k
      · exact h
    · exact zGb_c (rel _) h
  · exact h
end KQ
