/-! What a line does is taken back by its release -/
section BK
variable {x : ZW}
theorem sStep_l (x : ZW) (l d : Int) {g : Nat} (hg : g = 16 ∨ g = 17 ∨ g = 18 ∨ g = 20 ∨ g = 22 ∨ g = 50) (j : Int) (hj : j ≠ l) : sStep x l d g j = x g j := by
  have hE : sEd (sTk (sNd x l d) l) l d g j = x g j := by
    have e1 : ∀ g, g ≠ 18 → g ≠ 19 → sTk (sNd x l d) l g j = x g j := fun g a b => by rw [sTk_g _ _ a, sNd_g _ _ _ b]
    have e2 : sTk (sNd x l d) l 18 j = x 18 j := by unfold sTk; rw [xu_k _ hj, sNd_g _ _ _ (by decide)]
    unfold sEd
    rw [show ∀ z : ZW, xu z 16 l 1 g j = z g j from fun z => if_neg (fun e => hj e.2)]
    have e3 : ∀ (z : ZW) a v, xu z a l v g j = z g j := fun z a v => if_neg (fun e => hj e.2)
    split
    · rw [e3, e3]
      rcases hg with rfl | rfl | rfl | rfl | rfl | rfl <;> first | exact e2 | exact e1 _ (by decide) (by decide)
    · rw [e3]
      rcases hg with rfl | rfl | rfl | rfl | rfl | rfl <;> first | exact e2 | exact e1 _ (by decide) (by decide)
  have e3 : ∀ (z : ZW) a v, xu z a l v g j = z g j := fun z a v => if_neg (fun e => hj e.2)
  have e15 : ∀ (z : ZW) k v, xu z 15 k v g j = z g j := fun z k v => if_neg (fun e => by rcases hg with rfl | rfl | rfl | rfl | rfl | rfl <;> exact absurd e.1 (by decide))
  have e8 : ∀ (z : ZW) k v, xu z 8 k v g j = z g j := fun z k v => if_neg (fun e => by rcases hg with rfl | rfl | rfl | rfl | rfl | rfl <;> exact absurd e.1 (by decide))
  have e23 : ∀ (z : ZW) k v, xu z 23 k v g j = z g j := fun z k v => if_neg (fun e => by rcases hg with rfl | rfl | rfl | rfl | rfl | rfl <;> exact absurd e.1 (by decide))
  unfold sStep
  split
  · split
    · unfold sJun
      split
      · rw [e3]; exact hE
      · exact hE
    · split
      · exact hE
      · unfold sFin
        split
        · rw [e3]; exact hE
        · split
          · rw [e15, e3, e3]; exact hE
          · rw [e3]; exact hE
  · have hT : sTk (sNd x l d) l g j = x g j := by
      unfold sTk
      rw [e3]
      exact sNd_g _ _ _ (by rcases hg with rfl | rfl | rfl | rfl | rfl | rfl <;> decide) j
    unfold sSel
    rw [e3]
    split
    · unfold sHold
      rw [e3, e23, e8]; exact hT
    · exact hT
theorem sStep_19 (x : ZW) (l d : Int) (h0 : 0 ≤ x 18 l) (j i : Int) (hj : j ≠ l) (i0 : 0 ≤ i) (i1 : i < 5) : sStep x l d 19 (5 * j + i) = x 19 (5 * j + i) := by
  have hN := (zT_19 (x := x) l d h0).1 j i hj i0 i1
  have hE : sEd (sTk (sNd x l d) l) l d 19 (5 * j + i) = x 19 (5 * j + i) := by rw [sEd_g _ _ _ (by decide), sTk_g _ _ (by decide)]; exact hN
  unfold sStep
  split
  · split
    · unfold sJun
      split
      · rw [xu_g _ (by decide)]; exact hE
      · exact hE
    · split
      · exact hE
      · unfold sFin
        split
        · rw [xu_g _ (by decide)]; exact hE
        · split
          · rw [xu_g _ (by decide), xu_g _ (by decide), xu_g _ (by decide)]; exact hE
          · rw [xu_g _ (by decide)]; exact hE
  · unfold sSel
    rw [xu_g _ (by decide)]
    split
    · unfold sHold
      rw [xu_g _ (by decide), xu_g _ (by decide), xu_g _ (by decide), sTk_g _ _ (by decide)]; exact hN
    · rw [sTk_g _ _ (by decide)]; exact hN
/-- what a step does to ends and other lines -/
theorem sStep_8 (x : ZW) (g : zGp x) (l d : Int) : ((sStep x l d) 8 = x 8 ∧ (sStep x l d) 22 l = x 22 l ∧ (sStep x l d) 23 = x 23) ∨ ∃ e, (0 ≤ e ∧ e < 116) ∧ x 8 e < 0 ∧ (sStep x l d) 8 = (fun i => if i = e then l else x 8 i) ∧ (sStep x l d) 22 l = x 22 l + 1 ∧ (sStep x l d) 23 = (fun k => if k = 120 * l + x 22 l then e else x 23 k) := by
  have hE : ∀ g, g = 8 ∨ g = 22 ∨ g = 23 → ∀ k, sEd (sTk (sNd x l d) l) l d g k = x g k := by
    rintro g (rfl | rfl | rfl) k <;> rw [sEd_g _ _ _ (by decide), sTk_g _ _ (by decide), sNd_g _ _ _ (by decide)]
  have hT : ∀ g, g = 8 ∨ g = 22 ∨ g = 23 → ∀ k, sTk (sNd x l d) l g k = x g k := by
    rintro g (rfl | rfl | rfl) k <;> rw [sTk_g _ _ (by decide), sNd_g _ _ _ (by decide)]
  have e16 : ∀ (z : ZW) g, g = 8 ∨ g = 22 ∨ g = 23 → ∀ k v, xu z 16 l v g k = z g k := by rintro z g (rfl | rfl | rfl) k v <;> exact xu_g _ (by decide)
  have e17 : ∀ (z : ZW) g, g = 8 ∨ g = 22 ∨ g = 23 → ∀ k v, xu z 17 l v g k = z g k := by rintro z g (rfl | rfl | rfl) k v <;> exact xu_g _ (by decide)
  have e15 : ∀ (z : ZW) g, g = 8 ∨ g = 22 ∨ g = 23 → ∀ k o v, xu z 15 o v g k = z g k := by rintro z g (rfl | rfl | rfl) k o v <;> exact xu_g _ (by decide)
  have key : ∀ z : ZW, (∀ g, g = 8 ∨ g = 22 ∨ g = 23 → ∀ k, z g k = x g k) → (z 8 = x 8 ∧ z 22 l = x 22 l ∧ z 23 = x 23) := fun z hz => ⟨by funext k; exact hz 8 (by simp) k, hz 22 (by simp) l, by funext k; exact hz 23 (by simp) k⟩
  unfold sStep
  split
  · refine Or.inl (key _ fun g hg k => ?_)
    split
    · unfold sJun
      split
      · rw [e16 _ g hg]; exact hE g hg k
      · exact hE g hg k
    · split
      · exact hE g hg k
      · unfold sFin
        split
        · rw [e16 _ g hg]; exact hE g hg k
        · split
          · rw [e15 _ g hg, e17 _ g hg, e16 _ g hg]; exact hE g hg k
          · rw [e16 _ g hg]; exact hE g hg k
  · have be := sGoes_b g (sHead x l) d
    generalize sGoes x (sHead x l) d = e at be ⊢
    unfold sSel
    by_cases he : 0 ≤ e
    · rw [if_pos he]
      refine Or.inr ⟨e, by omega, by omega, ?_, ?_, ?_⟩
      · funext k
        rw [e16 _ 8 (by simp)]
        unfold sHold
        rw [xu_g _ (by decide), xu_g _ (by decide), xu_kk, hT 8 (by simp)]
      · rw [e16 _ 22 (by simp)]
        unfold sHold
        rw [xu_s, hT 22 (by simp)]
      · funext k
        rw [e16 _ 23 (by simp)]
        unfold sHold
        rw [xu_g _ (by decide), xu_kk, xu_g _ (by decide), hT 23 (by simp), hT 22 (by simp)]
    · rw [if_neg he]
      refine Or.inl (key _ fun g hg k => ?_)
      rw [e16 _ g hg]; exact hT g hg k
theorem sStep_15 (x : ZW) (g : zGp x) (l d : Int) : ((sStep x l d) 15 = x 15 ∧ (sStep x l d) 17 l = x 17 l) ∨ ∃ o, zLn x o ∧ x 15 o = 0 ∧ (sStep x l d) 15 = (fun i => if i = o then 2 else x 15 i) ∧ (sStep x l d) 17 l = o := by
  have hE : ∀ g, g = 15 ∨ g = 17 → ∀ k, sEd (sTk (sNd x l d) l) l d g k = x g k := by
    rintro g (rfl | rfl) k <;> rw [sEd_g _ _ _ (by decide), sTk_g _ _ (by decide), sNd_g _ _ _ (by decide)]
  have hT : ∀ g, g = 15 ∨ g = 17 → ∀ k, sTk (sNd x l d) l g k = x g k := by
    rintro g (rfl | rfl) k <;> rw [sTk_g _ _ (by decide), sNd_g _ _ _ (by decide)]
  have e16 : ∀ (z : ZW) g, g = 15 ∨ g = 17 → ∀ k v, xu z 16 l v g k = z g k := by rintro z g (rfl | rfl) k v <;> exact xu_g _ (by decide)
  have key : ∀ z : ZW, (∀ g, g = 15 ∨ g = 17 → ∀ k, z g k = x g k) → (z 15 = x 15 ∧ z 17 l = x 17 l) := fun z hz => ⟨by funext k; exact hz 15 (by simp) k, hz 17 (by simp) l⟩
  unfold sStep
  split
  · split
    · refine Or.inl (key _ fun g hg k => ?_)
      unfold sJun
      split
      · rw [e16 _ g hg]; exact hE g hg k
      · exact hE g hg k
    · split
      · exact Or.inl (key _ hE)
      · have bo := zlineOf_b g (sHead x l / 8) (10 * (sEd (sTk (sNd x l d) l) l d) 50 l + d)
        generalize zlineOf x (sHead x l / 8) (10 * (sEd (sTk (sNd x l d) l) l d) 50 l + d) = o at bo ⊢
        unfold sFin
        by_cases ho : o < 0
        · rw [if_pos ho]
          exact Or.inl (key _ fun g hg k => by rw [e16 _ g hg]; exact hE g hg k)
        · rw [if_neg ho, hE 15 (by simp)]
          by_cases hq : x 15 o = 0
          · rw [if_pos hq]
            refine Or.inr ⟨o, by omega, hq, ?_, ?_⟩
            · funext k
              rw [xu_kk, xu_g _ (by decide), e16 _ 15 (by simp), hE 15 (by simp)]
            · rw [xu_g _ (by decide), xu_s]
          · rw [if_neg hq]
            exact Or.inl (key _ fun g hg k => by rw [e16 _ g hg]; exact hE g hg k)
  · refine Or.inl (key _ fun g hg k => ?_)
    unfold sSel
    rw [e16 _ g hg]
    split
    · unfold sHold
      rcases hg with rfl | rfl
      · rw [xu_g _ (by decide), xu_g _ (by decide), xu_g _ (by decide)]; exact hT 15 (by simp) k
      · rw [xu_g _ (by decide), xu_g _ (by decide), xu_g _ (by decide)]; exact hT 17 (by simp) k
    · exact hT g hg k
end BK
