/-! DIAL keeps what holds -/
section G3
variable {x : ZW}
theorem zT_19 (l d : Int) (h0 : 0 ≤ x 18 l) : (∀ j i, j ≠ l → 0 ≤ i → i < 5 → sNd x l d 19 (5 * j + i) = x 19 (5 * j + i)) ∧ (∀ i, 0 ≤ i → i < 5 → i < x 18 l + 1 → (∀ i, 0 ≤ i → i < 5 → i < x 18 l → 0 ≤ x 19 (5 * l + i) ∧ x 19 (5 * l + i) ≤ 9) → 0 ≤ d ∧ d ≤ 9 → 0 ≤ sNd x l d 19 (5 * l + i) ∧ sNd x l d 19 (5 * l + i) ≤ 9) := by
  constructor
  · intro j i hj i0 i1
    unfold sNd
    split
    · rw [xu_k _ (by omega)]
    · rfl
  · intro i i0 i1 i2 h hd
    unfold sNd
    split
    · rw [xu_kk]
      split
      · exact hd
      · exact h i i0 i1 (by omega)
    · exact h i i0 i1 (by omega)
theorem zGd_ed (g : zGd x) {l d s : Int} (hl : zLn x l) (hc : x 15 l = 1) (h16 : x 16 l ≤ 1) (hd : 0 ≤ d ∧ d ≤ 9) (hs : 0 ≤ s ∧ s ≤ 5) (hE : zEg x (sHead x l)) (hs1 : s ≤ 1 → x 20 l + 1 ≤ 2 ∧ (sHead x l < 100 → x 20 l + 1 ≤ 1)) : zGd (xu (sEd (sTk (sNd x l d) l) l d) 16 l s) := by
  have gg := g
  obtain ⟨g1, g2, g3, g4, g5, g6, g7⟩ := g
  have b22 := g2 l
  obtain ⟨c1, c2, c3, c4, c5, c6, c7, c8⟩ := g4 l hl hc
  have c62 := c6.2 h16
  have n : ∀ g, g ≠ 16 → g ≠ 18 → g ≠ 19 → g ≠ 20 → g ≠ 50 → (xu (sEd (sTk (sNd x l d) l) l d) 16 l s) g = x g := by
    intro g e16 e18 e19 e20 e50
    funext k
    rw [xu_g _ e16, sEd_g _ _ _ ⟨e16, e20, e50⟩, sTk_g _ _ e18, sNd_g _ _ _ e19]
  have f16 : ∀ j, (xu (sEd (sTk (sNd x l d) l) l d) 16 l s) 16 j = if j = l then s else x 16 j := by
    intro j
    rw [xu_kk]
    by_cases e : j = l
    · rw [if_pos e, if_pos e]
    · rw [if_neg e, if_neg e]
      unfold sEd
      rw [xu_k _ e]
      split
      · rw [xu_g _ (by decide), xu_g _ (by decide), sTk_g _ _ (by decide), sNd_g _ _ _ (by decide)]
      · rw [xu_g _ (by decide), sTk_g _ _ (by decide), sNd_g _ _ _ (by decide)]
  have f18 : ∀ j, (xu (sEd (sTk (sNd x l d) l) l d) 16 l s) 18 j = if j = l then x 18 l + 1 else x 18 j := by
    intro j
    rw [xu_g _ (by decide), sEd_g _ _ _ (by decide)]
    unfold sTk
    rw [xu_kk, sNd_g _ _ _ (by decide), sNd_g _ _ _ (by decide)]
  have f20 : ∀ j, (xu (sEd (sTk (sNd x l d) l) l d) 16 l s) 20 j = if j = l then x 20 l + 1 else x 20 j := by
    intro j
    have e20 : ∀ j, sTk (sNd x l d) l 20 j = x 20 j := fun j => by rw [sTk_g _ _ (by decide), sNd_g _ _ _ (by decide)]
    rw [xu_g _ (by decide)]
    unfold sEd
    rw [xu_g _ (by decide)]
    split
    · rw [xu_g _ (by decide), xu_kk, e20, e20]
    · rw [xu_kk, e20, e20]
  have f50 : ∀ j, 0 ≤ (xu (sEd (sTk (sNd x l d) l) l d) 16 l s) 50 j ∧ (xu (sEd (sTk (sNd x l d) l) l d) 16 l s) 50 j ≤ 9 := by
    intro j
    have e50 : ∀ j, sTk (sNd x l d) l 50 j = x 50 j := fun j => by rw [sTk_g _ _ (by decide), sNd_g _ _ _ (by decide)]
    rw [xu_g _ (by decide)]
    unfold sEd
    rw [xu_g _ (by decide)]
    split
    · rw [xu_kk]
      split
      · exact hd
      · rw [xu_g _ (by decide), e50]; exact g7 j
    · rw [xu_g _ (by decide), e50]; exact g7 j
  have f19 : ∀ k, (xu (sEd (sTk (sNd x l d) l) l d) 16 l s) 19 k = sNd x l d 19 k := fun k => by rw [xu_g _ (by decide), sEd_g _ _ _ (by decide), sTk_g _ _ (by decide)]
  have z19 := zT_19 (x := x) l d c5.1
  generalize xu (sEd (sTk (sNd x l d) l) l d) 16 l s = z at n f16 f18 f20 f50 f19
  have n' : ∀ g, g = 2 ∨ g = 3 ∨ g = 4 ∨ g = 8 ∨ g = 11 ∨ g = 15 ∨ g = 17 ∨ g = 21 ∨ g = 22 ∨ g = 23 → z g = x g := by
    rintro g (rfl | rfl | rfl | rfl | rfl | rfl | rfl | rfl | rfl | rfl) <;> exact n _ (by decide) (by decide) (by decide) (by decide) (by decide)
  have eh : sHead z l = sHead x l := by unfold sHead; rw [n' 23 (by simp), n' 22 (by simp)]
  refine zGd_step gg hl hc (fun g h a b => n g (by omega) (by omega) (by omega) (by omega) (by omega)) f50 ?_ (fun j i hj i0 i1 => by rw [f19]; exact z19.1 j i hj i0 i1) (fun j i _ _ _ => by rw [n' 23 (by simp)]) (Or.inl ⟨n' 8 (by simp), by rw [n' 22 (by simp)], n' 23 (by simp)⟩) (Or.inl ⟨n' 15 (by simp), by rw [n' 17 (by simp)]⟩) (by rw [n' 22 (by simp)]; omega) ?_
  · rintro g (rfl | rfl | rfl | rfl | rfl | rfl) j hj
    · rw [f16, if_neg hj]
    · rw [n' 17 (by simp)]
    · rw [f18, if_neg hj]
    · rw [f20, if_neg hj]
    · rw [n' 21 (by simp)]
    · rw [n' 22 (by simp)]
  · unfold zCg
    unfold zEn zSw zEg at *
    rw [eh, f16, f18, f20, if_pos rfl, if_pos rfl, if_pos rfl, n' 2 (by simp), n' 3 (by simp), n' 4 (by simp), n' 8 (by simp), n' 11 (by simp), n' 15 (by simp), n' 17 (by simp), n' 21 (by simp), n' 22 (by simp), n' 23 (by simp)]
    refine ⟨c1, c2, c3, by omega, ⟨by omega, ?_⟩, ⟨by omega, fun h1 => ⟨(hs1 h1).1, (hs1 h1).2, fun hn => absurd hE hn⟩⟩, ⟨c7.1, c7.2.1, fun h => by omega⟩, fun i i0 i1 i2 => ?_⟩
    · have := c5.2
      rw [if_pos (by omega)] at this
      split <;> omega
    · rw [f19]
      exact z19.2 i i0 i1 i2 c8 hd
theorem zGd_ring (g : zGd x) {l o : Int} (hl : zLn x l) (hc : x 15 l = 1) (h16 : x 16 l ≤ 2) (ho : zLn x o) (hq : x 15 o = 0) : zGd (xu (xu (xu x 16 l 5) 17 l o) 15 o 2) := by
  have gg := g
  obtain ⟨g1, g2, g3, g4, g5, g6, g7⟩ := g
  have b22 := g2 l
  have b11 := zG11 g1
  obtain ⟨c1, c2, c3, c4, c5, c6, c7, c8⟩ := g4 l hl hc
  have hne : o ≠ l := by rintro rfl; omega
  have n : ∀ g, g ≠ 15 → g ≠ 16 → g ≠ 17 → (xu (xu (xu x 16 l 5) 17 l o) 15 o 2) g = x g := fun g e15 e16 e17 => by funext k; rw [xu_g _ e15, xu_g _ e17, xu_g _ e16]
  have f15 : (xu (xu (xu x 16 l 5) 17 l o) 15 o 2) 15 = fun i => if i = o then 2 else x 15 i := by funext k; rw [xu_kk, xu_g _ (by decide), xu_g _ (by decide)]
  have f16 : ∀ j, (xu (xu (xu x 16 l 5) 17 l o) 15 o 2) 16 j = if j = l then 5 else x 16 j := fun j => by rw [xu_g _ (by decide), xu_g _ (by decide), xu_kk]
  have f17 : ∀ j, (xu (xu (xu x 16 l 5) 17 l o) 15 o 2) 17 j = if j = l then o else x 17 j := fun j => by rw [xu_g _ (by decide), xu_kk, xu_g _ (by decide)]
  generalize xu (xu (xu x 16 l 5) 17 l o) 15 o 2 = z at n f15 f16 f17
  have n' : ∀ g, g = 2 ∨ g = 3 ∨ g = 4 ∨ g = 8 ∨ g = 11 ∨ g = 18 ∨ g = 19 ∨ g = 20 ∨ g = 21 ∨ g = 22 ∨ g = 23 ∨ g = 50 → z g = x g := by
    rintro g (rfl | rfl | rfl | rfl | rfl | rfl | rfl | rfl | rfl | rfl | rfl | rfl) <;> exact n _ (by decide) (by decide) (by decide)
  have eh : sHead z l = sHead x l := by unfold sHead; rw [n' 23 (by simp), n' 22 (by simp)]
  refine zGd_step gg hl hc (fun g h a b => n g b (by omega) (by omega)) (by rw [n' 50 (by simp)]; exact g7) ?_ (fun j i _ _ _ => by rw [n' 19 (by simp)]) (fun j i _ _ _ => by rw [n' 23 (by simp)]) (Or.inl ⟨n' 8 (by simp), by rw [n' 22 (by simp)], n' 23 (by simp)⟩) (Or.inr ⟨o, ho, hq, f15, by rw [f17, if_pos rfl]⟩) (by rw [n' 22 (by simp)]; omega) ?_
  · rintro g (rfl | rfl | rfl | rfl | rfl | rfl) j hj
    · rw [f16, if_neg hj]
    · rw [f17, if_neg hj]
    · rw [n' 18 (by simp)]
    · rw [n' 20 (by simp)]
    · rw [n' 21 (by simp)]
    · rw [n' 22 (by simp)]
  · unfold zCg
    unfold zEn zSw zEg at *
    rw [eh, f16, f17, f15, if_pos rfl, if_pos rfl, n' 2 (by simp), n' 3 (by simp), n' 4 (by simp), n' 8 (by simp), n' 11 (by simp), n' 18 (by simp), n' 19 (by simp), n' 20 (by simp), n' 21 (by simp), n' 22 (by simp), n' 23 (by simp)]
    dsimp only
    rw [if_pos rfl]
    refine ⟨c1, c2, ⟨by have := ho.1; omega, ho.2, fun _ => rfl⟩, by omega, ⟨c5.1, ?_⟩, ⟨c6.1, fun h => by omega⟩, ⟨c7.1, c7.2.1, fun h => by omega⟩, c8⟩
    have := c5.2
    rw [if_pos (by omega)] at this ⊢
    exact this
theorem zGd_sel (g : zGd x) {l d e : Int} (hl : zLn x l) (hc : x 15 l = 1) (h16 : x 16 l ≤ 1) (hd : 0 ≤ d ∧ d ≤ 9) (hE : ¬ zEg x (sHead x l)) (he : e = -1 ∨ e = -2 ∨ (0 ≤ e ∧ e < 116 ∧ zFr x e ∧ zEn x e)) : zGd (sSel (sTk (sNd x l d) l) l e) := by
  have gg := g
  have h97 := (zCl_s g hl hc h16).2 hE
  obtain ⟨g1, g2, g3, g4, g5, g6, g7⟩ := g
  have b22 := g2 l
  obtain ⟨c1, c2, c3, c4, c5, c6, c7, c8⟩ := g4 l hl hc
  have c62 := c6.2 h16
  have h100 : ¬ 100 ≤ sHead x l := fun q => hE (Or.inl q)
  rw [if_neg h100] at c1
  have hj : 96 ≤ e → x 10 e = 0 := fun q => (zGj g1 q).2
  have b4 := zG4 g1 (e / 8)
  have b2 := zG2 g1
  have nT : ∀ g, g ≠ 18 → g ≠ 19 → ∀ k, sTk (sNd x l d) l g k = x g k := fun g e18 e19 k => by rw [sTk_g _ _ e18, sNd_g _ _ _ e19]
  have e10 : sSst (sTk (sNd x l d) l) e = sSst x e := by unfold sSst; rw [nT 10 (by decide) (by decide)]
  have n : ∀ g, g ≠ 8 → g ≠ 16 → g ≠ 18 → g ≠ 19 → g ≠ 22 → g ≠ 23 → sSel (sTk (sNd x l d) l) l e g = x g := by
    intro g e8 e16 e18 e19 e22 e23
    funext k
    unfold sSel
    rw [xu_g _ e16]
    split
    · unfold sHold
      rw [xu_g _ e22, xu_g _ e23, xu_g _ e8, nT g e18 e19]
    · rw [nT g e18 e19]
  have f16 : ∀ j, sSel (sTk (sNd x l d) l) l e 16 j = if j = l then sSst x e else x 16 j := by
    intro j
    unfold sSel
    rw [xu_kk, e10]
    split
    · rfl
    · split
      · unfold sHold
        rw [xu_g _ (by decide), xu_g _ (by decide), xu_g _ (by decide), nT 16 (by decide) (by decide)]
      · rw [nT 16 (by decide) (by decide)]
  have f18 : ∀ j, sSel (sTk (sNd x l d) l) l e 18 j = if j = l then x 18 l + 1 else x 18 j := by
    intro j
    have e18 : sTk (sNd x l d) l 18 j = if j = l then x 18 l + 1 else x 18 j := by
      unfold sTk
      rw [xu_kk, sNd_g _ _ _ (by decide), sNd_g _ _ _ (by decide)]
    unfold sSel
    rw [xu_g _ (by decide)]
    split
    · unfold sHold
      rw [xu_g _ (by decide), xu_g _ (by decide), xu_g _ (by decide), e18]
    · exact e18
  have f19 : ∀ k, sSel (sTk (sNd x l d) l) l e 19 k = sNd x l d 19 k := by
    intro k
    unfold sSel
    rw [xu_g _ (by decide)]
    split
    · unfold sHold
      rw [xu_g _ (by decide), xu_g _ (by decide), xu_g _ (by decide), sTk_g _ _ (by decide)]
    · rw [sTk_g _ _ (by decide)]
  have f8 : sSel (sTk (sNd x l d) l) l e 8 = if 0 ≤ e then (fun i => if i = e then l else x 8 i) else x 8 := by
    unfold sSel
    split
    · funext k
      rw [xu_g _ (by decide)]
      unfold sHold
      rw [xu_g _ (by decide), xu_g _ (by decide), xu_kk, nT 8 (by decide) (by decide)]
    · funext k
      rw [xu_g _ (by decide), nT 8 (by decide) (by decide)]
  have f22 : ∀ j, sSel (sTk (sNd x l d) l) l e 22 j = if 0 ≤ e then (if j = l then x 22 l + 1 else x 22 j) else x 22 j := by
    intro j
    unfold sSel
    split
    · rw [xu_g _ (by decide)]
      unfold sHold
      rw [xu_kk, xu_g _ (by decide), xu_g _ (by decide), nT 22 (by decide) (by decide), nT 22 (by decide) (by decide)]
    · rw [xu_g _ (by decide), nT 22 (by decide) (by decide)]
  have f23 : sSel (sTk (sNd x l d) l) l e 23 = if 0 ≤ e then (fun k => if k = 120 * l + x 22 l then e else x 23 k) else x 23 := by
    unfold sSel
    split
    · funext k
      rw [xu_g _ (by decide)]
      unfold sHold
      rw [xu_g _ (by decide), xu_kk, xu_g _ (by decide), nT 23 (by decide) (by decide), nT 22 (by decide) (by decide)]
    · funext k
      rw [xu_g _ (by decide), nT 23 (by decide) (by decide)]
  have z19 := zT_19 (x := x) l d c5.1
  generalize sSel (sTk (sNd x l d) l) l e = z at n f16 f18 f19 f8 f22 f23
  have n' : ∀ g, g = 2 ∨ g = 3 ∨ g = 4 ∨ g = 11 ∨ g = 15 ∨ g = 17 ∨ g = 20 ∨ g = 21 ∨ g = 50 → z g = x g := by
    rintro g (rfl | rfl | rfl | rfl | rfl | rfl | rfl | rfl | rfl) <;> exact n _ (by decide) (by decide) (by decide) (by decide) (by decide) (by decide)
  by_cases h0 : 0 ≤ e
  · rw [if_pos h0] at f8 f23
    have f22' : ∀ j, z 22 j = if j = l then x 22 l + 1 else x 22 j := fun j => by rw [f22, if_pos h0]
    have hfr : zFr x e ∧ zEn x e := by
      rcases he with he | he | he
      · omega
      · omega
      · exact he.2.2
    have eh : sHead z l = e := by
      unfold sHead
      rw [f22', if_pos rfl, f23]
      exact if_pos (by omega)
    refine zGd_step gg hl hc (fun g h a b => n g a (by omega) (by omega) (by omega) (by omega) (by omega)) (by rw [n' 50 (by simp)]; exact g7) ?_ (fun j i hj i0 i1 => by rw [f19]; exact z19.1 j i hj i0 i1) (fun j i hj _ _ => by rw [f23]; exact if_neg (by omega)) (Or.inr ⟨e, ⟨h0, by omega⟩, hfr.1.1, f8, by rw [f22', if_pos rfl], f23⟩) (Or.inl ⟨n' 15 (by simp), by rw [n' 17 (by simp)]⟩) (by rw [f22', if_pos rfl]; omega) ?_
    · rintro g (rfl | rfl | rfl | rfl | rfl | rfl) j hj
      · rw [f16, if_neg hj]
      · rw [n' 17 (by simp)]
      · rw [f18, if_neg hj]
      · rw [n' 20 (by simp)]
      · rw [n' 21 (by simp)]
      · rw [f22', if_neg hj]
    · have hz := zcn_1 (f := x 8) (j := l) (e := e) h0 (by have := hl.1; omega) 96
      have est : sSst x e = if x 10 e = 0 then 1 else 2 := by unfold sSst; rw [if_neg (by omega), if_neg (by omega)]
      unfold zCg
      unfold zEn zSw zEg at *
      rw [eh, f16, f18, f22', if_pos rfl, if_pos rfl, if_pos rfl, n' 2 (by simp), n' 3 (by simp), n' 4 (by simp), n' 11 (by simp), n' 15 (by simp), n' 17 (by simp), n' 20 (by simp), n' 21 (by simp), f8, f23, hz]
      dsimp only
      refine ⟨⟨by omega, ?_⟩, fun i i0 i1 => ?_, c3, by rw [est]; split <;> omega, ⟨by omega, ?_⟩, ⟨c6.1, fun h1 => ⟨by omega, by omega, fun _ => by omega⟩⟩, ⟨c7.1, c7.2.1, fun h => by rw [est] at h; split at h <;> omega⟩, fun i i0 i1 i2 => ?_⟩
      · by_cases h96 : e < 96
        · rw [if_pos (show e < ((96 : Nat) : Int) by omega)]; split <;> omega
        · rw [if_neg (show ¬ e < ((96 : Nat) : Int) by omega), if_pos (by omega)]; omega
      · by_cases hi : i = x 22 l
        · rw [if_pos (by omega), if_pos rfl]
          exact ⟨hfr.2, rfl⟩
        · rw [if_neg (by omega)]
          have := c2 i i0 (by omega)
          refine ⟨this.1, ?_⟩
          split
          · rfl
          · exact this.2
      · have := c5.2
        rw [if_pos (by omega)] at this
        rw [est]
        split <;> split <;> omega
      · rw [f19]
        exact z19.2 i i0 i1 i2 c8 hd
  · rw [if_neg h0] at f8 f23
    have f22' : ∀ j, z 22 j = x 22 j := fun j => by rw [f22, if_neg h0]
    have eh : sHead z l = sHead x l := by
      unfold sHead
      rw [f22', f23]
    have est : sSst x e = 3 ∨ sSst x e = 4 := by
      unfold sSst
      split
      · exact Or.inl rfl
      · rw [if_pos (by omega)]; exact Or.inr rfl
    refine zGd_step gg hl hc (fun g h a b => n g a (by omega) (by omega) (by omega) (by omega) (by omega)) (by rw [n' 50 (by simp)]; exact g7) ?_ (fun j i hj i0 i1 => by rw [f19]; exact z19.1 j i hj i0 i1) (fun j i hj _ _ => by rw [f23]) (Or.inl ⟨f8, f22' l, f23⟩) (Or.inl ⟨n' 15 (by simp), by rw [n' 17 (by simp)]⟩) (by rw [f22']; omega) ?_
    · rintro g (rfl | rfl | rfl | rfl | rfl | rfl) j hj
      · rw [f16, if_neg hj]
      · rw [n' 17 (by simp)]
      · rw [f18, if_neg hj]
      · rw [n' 20 (by simp)]
      · rw [n' 21 (by simp)]
      · rw [f22']
    · unfold zCg
      unfold zEn zSw zEg at *
      rw [eh, f16, f18, f22', if_pos rfl, if_pos rfl, n' 2 (by simp), n' 3 (by simp), n' 4 (by simp), n' 11 (by simp), n' 15 (by simp), n' 17 (by simp), n' 20 (by simp), n' 21 (by simp), f8, f23, if_neg h100]
      refine ⟨c1, c2, c3, by omega, ⟨by omega, ?_⟩, ⟨c6.1, fun h1 => by omega⟩, ⟨c7.1, c7.2.1, fun h => by omega⟩, fun i i0 i1 i2 => ?_⟩
      · have := c5.2
        rw [if_pos (by omega)] at this
        rw [if_neg (by omega)]
        omega
      · rw [f19]
        exact z19.2 i i0 i1 i2 c8 hd
theorem zGd_dial (g : zGd x) {l d : Int} (hl : zLn x l) (hc : x 15 l = 1) (h16 : x 16 l ≤ 1) (hd : 0 ≤ d ∧ d ≤ 9) : zGd (sStep x l d) := by
  obtain ⟨g1, g2, g3, g4, g5, g6, g7⟩ := g
  obtain ⟨c1, c2, c3, c4, c5, c6, c7, c8⟩ := g4 l hl hc
  have c62 := c6.2 h16
  have e20 : sEd (sTk (sNd x l d) l) l d 20 l = x 20 l + 1 := by rw [sEd_20, sTk_g _ _ (by decide), sNd_g _ _ _ (by decide)]
  have eZ : sEd (sTk (sNd x l d) l) l d = xu (sEd (sTk (sNd x l d) l) l d) 16 l 1 := (xu_id _ _ _ _ (sEd_16 _ _ _)).symm
  have g : zGd x := ⟨g1, g2, g3, g4, g5, g6, g7⟩
  unfold sStep
  by_cases hE : zEg x (sHead x l)
  · rw [if_pos hE]
    by_cases hJ : 100 ≤ sHead x l
    · rw [if_pos hJ]
      unfold sJun
      rw [e20]
      by_cases h3 : x 20 l + 1 = 3
      · rw [if_pos h3]
        exact zGd_ed g hl hc h16 hd (by omega) hE (by omega)
      · rw [if_neg h3, eZ]
        exact zGd_ed g hl hc h16 hd (by omega) hE (by omega)
    · rw [if_neg hJ]
      by_cases h1 : x 20 l < 1
      · rw [if_pos h1, eZ]
        exact zGd_ed g hl hc h16 hd (by omega) hE (by omega)
      · rw [if_neg h1]
        have bo := zlineOf_b g1 (sHead x l / 8) (10 * (sEd (sTk (sNd x l d) l) l d) 50 l + d)
        have e15 : ∀ k, sEd (sTk (sNd x l d) l) l d 15 k = x 15 k := fun k => by rw [sEd_g _ _ _ (by decide), sTk_g _ _ (by decide), sNd_g _ _ _ (by decide)]
        have e11 : sEd (sTk (sNd x l d) l) l d 11 0 = x 11 0 := by rw [sEd_g _ _ _ (by decide), sTk_g _ _ (by decide), sNd_g _ _ _ (by decide)]
        unfold sFin
        generalize zlineOf x (sHead x l / 8) (10 * (sEd (sTk (sNd x l d) l) l d) 50 l + d) = o at bo ⊢
        by_cases ho : o < 0
        · rw [if_pos ho]
          exact zGd_ed g hl hc h16 hd (by omega) hE (by omega)
        · rw [if_neg ho, e15]
          by_cases hq : x 15 o = 0
          · rw [if_pos hq]
            have g2' := zGd_ed g hl hc h16 hd (s := 2) (by omega) hE (by omega)
            have q := zGd_ring g2' (l := l) (o := o) (by unfold zLn; rw [xu_g _ (by decide), e11]; exact hl) (by rw [xu_g _ (by decide), e15]; exact hc) (by rw [xu_s]; omega) (by unfold zLn; rw [xu_g _ (by decide), e11]; omega) (by rw [xu_g _ (by decide), e15]; exact hq)
            rw [xu_xu] at q
            exact q
          · rw [if_neg hq]
            exact zGd_ed g hl hc h16 hd (by omega) hE (by omega)
  · rw [if_neg hE]
    exact zGd_sel g hl hc h16 hd hE (sGoes_b g1 _ _)
end G3
