/-! A step of a calling line keeps what holds -/
theorem zGd_step {x x' : ZW} (g : zGd x) {l : Int} (hl : zLn x l) (hc : x 15 l = 1)
    (n1 : ∀ g, g < 16 → g ≠ 8 → g ≠ 15 → x' g = x g) (h50 : ∀ j, 0 ≤ x' 50 j ∧ x' 50 j ≤ 9)
    (nl : ∀ g, g = 16 ∨ g = 17 ∨ g = 18 ∨ g = 20 ∨ g = 21 ∨ g = 22 → ∀ j, j ≠ l → x' g j = x g j)
    (n19 : ∀ j i, j ≠ l → 0 ≤ i → i < 5 → x' 19 (5 * j + i) = x 19 (5 * j + i)) (n23 : ∀ j i, j ≠ l → 0 ≤ i → i < 120 → x' 23 (120 * j + i) = x 23 (120 * j + i))
    (h8 : (x' 8 = x 8 ∧ x' 22 l = x 22 l ∧ x' 23 = x 23) ∨ ∃ e, (0 ≤ e ∧ e < 116) ∧ x 8 e < 0 ∧ x' 8 = (fun i => if i = e then l else x 8 i) ∧ x' 22 l = x 22 l + 1 ∧ x' 23 = (fun k => if k = 120 * l + x 22 l then e else x 23 k))
    (h15 : (x' 15 = x 15 ∧ x' 17 l = x 17 l) ∨ ∃ o, zLn x o ∧ x 15 o = 0 ∧ x' 15 = (fun i => if i = o then 2 else x 15 i) ∧ x' 17 l = o)
    (h22 : x' 22 l ≤ 97) (hcl : zCg x' l) : zGd x' := by
  obtain ⟨g1, g2, g3, g4, g5, g6, g7⟩ := g
  have b11 := zG11 g1
  have e11 := n1 11 (by decide) (by decide) (by decide)
  have hLn : ∀ j, zLn x' j = zLn x j := fun j => by unfold zLn; rw [e11]
  have q15 : ∀ j, x' 15 j = 1 ↔ x 15 j = 1 := by
    intro j
    rcases h15 with ⟨h, -⟩ | ⟨o, -, ho, h, -⟩
    · rw [h]
    · rw [h]
      dsimp only
      by_cases e : j = o
      · rw [if_pos e, e, ho]; omega
      · rw [if_neg e]
  have q2 : ∀ j, x 15 j = 2 → x' 15 j = 2 := by
    intro j hj
    rcases h15 with ⟨h, -⟩ | ⟨o, -, ho, h, -⟩
    · rw [h]; exact hj
    · rw [h]
      dsimp only
      rw [if_neg (by rintro rfl; omega)]
      exact hj
  refine ⟨?_, fun j => ?_, fun j hj => ?_, fun j hj hj1 => ?_, fun i j hi hj hi1 hj1 hij h0 => ?_, fun e e0 he => ?_, h50⟩
  · refine zGp_e g1 n1 (fun e => ?_) (fun j => ?_)
    · have := zG8 g1 e
      rcases h8 with ⟨h, -⟩ | ⟨e', -, -, h, -⟩
      · rw [h]; exact this
      · rw [h]; dsimp only; split <;> omega
    · have := zG15 g1 j
      rcases h15 with ⟨h, -⟩ | ⟨o, -, -, h, -⟩
      · rw [h]; exact this
      · rw [h]; dsimp only; split <;> omega
  · by_cases e : j = l
    · rw [e]
      have := g2 l
      rcases h8 with ⟨-, h, -⟩ | ⟨e', -, -, -, h, -⟩ <;> omega
    · rw [nl 22 (by simp) j e]; exact g2 j
  · rw [e11] at hj
    have := g3 j hj
    rcases h15 with ⟨h, -⟩ | ⟨o, ho, -, h, -⟩
    · rw [h]; exact this
    · rw [h]; dsimp only; rw [if_neg (by rintro rfl; have := ho.2; omega)]; exact this
  · rw [hLn] at hj
    by_cases e : j = l
    · rw [e]; exact hcl
    · have c := g4 j hj ((q15 j).mp hj1)
      refine zCl_o c (g2 j) ⟨by rw [n1 2 (by decide) (by decide) (by decide)], n1 3 (by decide) (by decide) (by decide), n1 4 (by decide) (by decide) (by decide), by rw [e11], nl 16 (by simp) j e, nl 17 (by simp) j e, nl 18 (by simp) j e, nl 20 (by simp) j e, nl 21 (by simp) j e, nl 22 (by simp) j e, fun i i0 i1 => n19 j i e i0 i1, fun i i0 i1 => n23 j i e i0 i1⟩ (fun k => ?_) (fun h17 => q2 _ (c.2.2.1.2.2 h17))
      rcases h8 with ⟨h, -⟩ | ⟨e', he', hf, h, -⟩
      · rw [h]
      · rw [h]
        dsimp only
        by_cases ks : k = e'
        · rw [if_pos ks, ks]
          constructor
          · intro q; omega
          · intro q; have := hj.1; omega
        · rw [if_neg ks]
  · rw [hLn] at hi hj
    rw [q15] at hi1 hj1
    have key : ∀ j, zLn x j → x 15 j = 1 → j ≠ l → x' 17 l = x 17 j → 0 ≤ x 17 j → j = l := by
      intro j hj hj1 hne hij h0
      rcases h15 with ⟨-, h⟩ | ⟨o, -, ho, -, h⟩
      · rw [h] at hij
        exact g5 j l hj hl hj1 hc hij.symm h0
      · rw [h] at hij
        have := (g4 j hj hj1).2.2.1.2.2 h0
        rw [← hij] at this
        omega
    by_cases e : i = l
    · by_cases e' : j = l
      · rw [e, e']
      · rw [e, nl 17 (by simp) j e'] at hij
        rw [e, hij] at h0
        rw [e]
        exact (key j hj hj1 e' hij h0).symm
    · by_cases e' : j = l
      · rw [e', nl 17 (by simp) i e] at hij
        rw [nl 17 (by simp) i e] at h0
        rw [e']
        exact key i hi hi1 e hij.symm h0
      · rw [nl 17 (by simp) i e, nl 17 (by simp) j e'] at hij
        rw [nl 17 (by simp) i e] at h0
        exact g5 i j hi hj hi1 hj1 hij h0
  · rcases h8 with ⟨h, hn, h3⟩ | ⟨e', he', hf, h, hn, h3⟩
    · rw [h] at he ⊢
      obtain ⟨a, b, i, i0, i1, i2⟩ := g6 e e0 he
      rw [hLn, q15, h3]
      refine ⟨a, b, i, i0, ?_, i2⟩
      by_cases el : x 8 e = l
      · rw [el, hn, ← el]; exact i1
      · rw [nl 22 (by simp) _ el]; exact i1
    · rw [h] at he ⊢
      dsimp only at he ⊢
      by_cases es : e = e'
      · rw [if_pos es, hLn, q15, h3]
        dsimp only
        have := g2 l
        exact ⟨hl, hc, x 22 l, by omega, by omega, by rw [if_pos rfl, es]⟩
      · rw [if_neg es] at he ⊢
        obtain ⟨a, b, i, i0, i1, i2⟩ := g6 e e0 he
        have b22 := g2 (x 8 e)
        have bl := g2 l
        rw [hLn, q15, h3]
        dsimp only
        refine ⟨a, b, i, i0, ?_, ?_⟩
        · by_cases el : x 8 e = l
          · rw [el, hn]; rw [el] at i1; omega
          · rw [nl 22 (by simp) _ el]; exact i1
        · rw [if_neg ?_]
          · exact i2
          · intro q
            have : x 8 e = l ∧ i = x 22 l := by have := a.1; have := hl.1; omega
            rw [this.1] at i1
            omega
/-- fields that a step leaves -/
theorem sStep_n (x : ZW) (l d : Int) {g : Nat} (hg : g ≠ 8 ∧ g ≠ 15 ∧ g ≠ 16 ∧ g ≠ 17 ∧ g ≠ 18 ∧ g ≠ 19 ∧ g ≠ 20 ∧ g ≠ 22 ∧ g ≠ 23 ∧ g ≠ 50) : sStep x l d g = x g := by
  obtain ⟨h8, h15, h16, h17, h18, h19, h20, h22, h23, h50⟩ := hg
  funext k
  have hE : sEd (sTk (sNd x l d) l) l d g k = x g k := by rw [sEd_g _ _ _ ⟨h16, h20, h50⟩, sTk_g _ _ h18, sNd_g _ _ _ h19]
  unfold sStep
  split
  · split
    · unfold sJun
      split
      · rw [xu_g _ h16]; exact hE
      · exact hE
    · split
      · exact hE
      · unfold sFin
        split
        · rw [xu_g _ h16]; exact hE
        · split
          · rw [xu_g _ h15, xu_g _ h17, xu_g _ h16]; exact hE
          · rw [xu_g _ h16]; exact hE
  · unfold sSel
    rw [xu_g _ h16]
    split
    · unfold sHold
      rw [xu_g _ h22, xu_g _ h23, xu_g _ h8, sTk_g _ _ h18, sNd_g _ _ _ h19]
    · rw [sTk_g _ _ h18, sNd_g _ _ _ h19]
