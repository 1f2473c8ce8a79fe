/-! What the simple calls keep -/
section KP
variable {x : ZW}
theorem zGd_p {x' : ZW} (h : zGd x) (gp : zGp x') (e : ∀ g, (g = 8 ∨ g = 11 ∨ (15 ≤ g ∧ g < 24) ∨ g = 50) → x' g = x g) (hen : ∀ a, zEn x a → zEn x' a) (heg : ∀ a, zEn x a → (zEg x' a ↔ zEg x a)) : zGd x' := by
  obtain ⟨g1, g2, g3, g4, g5, g6, g7⟩ := h
  have e8 := e 8 (by omega); have e11 := e 11 (by omega); have e15 := e 15 (by omega); have e16 := e 16 (by omega); have e17 := e 17 (by omega); have e18 := e 18 (by omega)
  have e19 := e 19 (by omega); have e20 := e 20 (by omega); have e21 := e 21 (by omega); have e22 := e 22 (by omega); have e23 := e 23 (by omega); have e50 := e 50 (by omega)
  have hL : ∀ j, zLn x' j ↔ zLn x j := fun j => by unfold zLn; rw [e11]
  refine ⟨gp, by rw [e22]; exact g2, by rw [e11, e15]; exact g3, fun j hj hj1 => ?_, by simp only [hL, e15, e17]; exact g5, by simp only [hL, e8, e15, e22, e23]; exact g6, by rw [e50]; exact g7⟩
  rw [hL] at hj
  rw [e15] at hj1
  obtain ⟨c1, c2, c3, c4, c5, c6, c7, c8⟩ := g4 j hj hj1
  have eh : sHead x' j = sHead x j := by unfold sHead; rw [e22, e23]
  have hh : zEn x (sHead x j) := by
    have := (c2 (x 22 j - 1) (by omega) (by omega)).1
    rw [show 120 * j + (x 22 j - 1) = 120 * j + x 22 j - 1 by omega] at this
    exact this
  have hE := heg _ hh
  unfold zCg
  rw [eh, e8, e11, e15, e16, e17, e18, e19, e20, e21, e22, e23]
  exact ⟨c1, fun i i0 i1 => ⟨hen _ (c2 i i0 i1).1, (c2 i i0 i1).2⟩, c3, c4, c5, ⟨c6.1, fun q => ⟨(c6.2 q).1, (c6.2 q).2.1, fun w => (c6.2 q).2.2 (fun w2 => w (hE.mpr w2))⟩⟩, c7, c8⟩
theorem zGd_seconds (h : zGd x) (n : Int) : zGd (sSeconds x n).2 := by
  unfold sSeconds
  split
  · rename_i hc
    dsimp only
    have b1 := zG1 h.1
    have e : ∀ g, g ≠ 1 → xu x 1 0 (x 1 0 + n) g = x g := fun g hg => by funext k; exact xu_g x hg
    have gp : zGp (xu x 1 0 (x 1 0 + n)) := by
      have g := h.1
      unfold zGp zEn zSl zSw at g ⊢
      simp only [e 2 (by decide), e 3 (by decide), e 4 (by decide), e 5 (by decide), e 6 (by decide), e 7 (by decide), e 8 (by decide), e 9 (by decide), e 10 (by decide), e 11 (by decide), e 12 (by decide), e 13 (by decide), e 14 (by decide), e 15 (by decide), xu_s]
      exact ⟨⟨by omega, by omega⟩, g.2⟩
    refine zGd_p h gp (fun g hg => e g (by omega)) (fun a ha => ?_) (fun a _ => ?_)
    · unfold zEn zSw at ha ⊢; rw [e 2 (by decide), e 4 (by decide)]; exact ha
    · unfold zEg; rw [e 3 (by decide)]
  · exact h
theorem zGd_zone (h : zGd x) (a b : Int) : zGd (sZone x a b).2 := by
  unfold sZone
  split
  · rename_i hc
    dsimp only
    have e : ∀ g, g ≠ 7 → xu x 7 a b g = x g := fun g hg => by funext k; exact xu_g x hg
    have gp : zGp (xu x 7 a b) := by
      have g := h.1
      unfold zGp zEn zSl zSw at g ⊢
      simp only [e 1 (by decide), e 2 (by decide), e 3 (by decide), e 4 (by decide), e 5 (by decide), e 6 (by decide), e 8 (by decide), e 9 (by decide), e 10 (by decide), e 11 (by decide), e 12 (by decide), e 13 (by decide), e 14 (by decide), e 15 (by decide)]
      obtain ⟨a1, a2, a3, a4, a5, a6, a7, a8, r⟩ := g
      refine ⟨a1, a2, a3, a4, a5, a6, a7, fun k => ?_, r⟩
      rw [xu_kk]
      split
      · omega
      · exact a8 k
    refine zGd_p h gp (fun g hg => e g (by omega)) (fun a ha => ?_) (fun a _ => ?_)
    · unfold zEn zSw at ha ⊢; rw [e 2 (by decide), e 4 (by decide)]; exact ha
    · unfold zEg; rw [e 3 (by decide)]
  · exact h
theorem zGd_out (h : zGd x) (a b : Int) (hb : b = 0 ∨ b = 1) : zGd (sOut x a b).2 := by
  unfold sOut
  split
  · rename_i hc
    dsimp only
    have b2 := zG2 h.1
    have e : ∀ g, g ≠ 9 → xu x 9 a b g = x g := fun g hg => by funext k; exact xu_g x hg
    have gp : zGp (xu x 9 a b) := by
      have g := h.1
      unfold zGp zEn zSl zSw at g ⊢
      simp only [e 1 (by decide), e 2 (by decide), e 3 (by decide), e 4 (by decide), e 5 (by decide), e 6 (by decide), e 7 (by decide), e 8 (by decide), e 10 (by decide), e 11 (by decide), e 12 (by decide), e 13 (by decide), e 14 (by decide), e 15 (by decide)]
      obtain ⟨a1, a2, a3, a4, a5, a6, a7, a8, a9, a10, a11, a12, r⟩ := g
      refine ⟨a1, a2, a3, a4, a5, a6, a7, a8, a9, fun k => ?_, a11, fun k hk => ?_, r⟩
      · rw [xu_kk]
        split
        · omega
        · exact a10 k
      · rw [xu_k _ (by omega)]
        exact a12 k hk
    refine zGd_p h gp (fun g hg => e g (by omega)) (fun a ha => ?_) (fun a _ => ?_)
    · unfold zEn zSw at ha ⊢; rw [e 2 (by decide), e 4 (by decide)]; exact ha
    · unfold zEg; rw [e 3 (by decide)]
  · exact h
theorem zGd_faulty (h : zGd x) (a b : Int) (hb : b = 0 ∨ b = 1) : zGd (sFaulty x a b).2 := by
  unfold sFaulty
  split
  · rename_i hc
    dsimp only
    have b2 := zG2 h.1
    have e : ∀ g, g ≠ 10 → xu x 10 a b g = x g := fun g hg => by funext k; exact xu_g x hg
    have gp : zGp (xu x 10 a b) := by
      have g := h.1
      unfold zGp zEn zSl zSw at g ⊢
      simp only [e 1 (by decide), e 2 (by decide), e 3 (by decide), e 4 (by decide), e 5 (by decide), e 6 (by decide), e 7 (by decide), e 8 (by decide), e 9 (by decide), e 11 (by decide), e 12 (by decide), e 13 (by decide), e 14 (by decide), e 15 (by decide)]
      obtain ⟨a1, a2, a3, a4, a5, a6, a7, a8, a9, a10, a11, a12, r⟩ := g
      refine ⟨a1, a2, a3, a4, a5, a6, a7, a8, a9, a10, fun k => ?_, fun k hk => ?_, r⟩
      · rw [xu_kk]
        split
        · omega
        · exact a11 k
      · rw [xu_k _ (by omega)]
        exact a12 k hk
    refine zGd_p h gp (fun g hg => e g (by omega)) (fun a ha => ?_) (fun a _ => ?_)
    · unfold zEn zSw at ha ⊢; rw [e 2 (by decide), e 4 (by decide)]; exact ha
    · unfold zEg; rw [e 3 (by decide)]
  · exact h
theorem zGd_outlet (h : zGd x) (r s l p e' : Int) : zGd (sOutlet x r s l p e').2 := by
  unfold sOutlet
  split
  · rename_i hc
    dsimp only
    have b2 := zG2 h.1
    have b4 := zG4 h.1 (e' / 8)
    have e : ∀ g, g ≠ 6 → xu x 6 (80 * r + 40 * s + 4 * l + p) e' g = x g := fun g hg => by funext k; exact xu_g x hg
    have gp : zGp (xu x 6 (80 * r + 40 * s + 4 * l + p) e') := by
      have g := h.1
      unfold zGp zEn zSl zSw at g ⊢
      simp only [e 1 (by decide), e 2 (by decide), e 3 (by decide), e 4 (by decide), e 5 (by decide), e 7 (by decide), e 8 (by decide), e 9 (by decide), e 10 (by decide), e 11 (by decide), e 12 (by decide), e 13 (by decide), e 14 (by decide), e 15 (by decide)]
      obtain ⟨a1, a2, a3, a4, a5, a6, a7, r⟩ := g
      refine ⟨a1, a2, a3, a4, a5, a6, fun k => ?_, r⟩
      rw [xu_kk]
      split
      · have hee := hc.2.2.2.2.2.2.2.1
        refine ⟨by omega, by omega, fun q => ?_⟩
        rcases hee with c | c
        · omega
        · exact c
      · exact a7 k
    refine zGd_p h gp (fun g hg => e g (by omega)) (fun a ha => ?_) (fun a _ => ?_)
    · unfold zEn zSw at ha ⊢; rw [e 2 (by decide), e 4 (by decide)]; exact ha
    · unfold zEg; rw [e 3 (by decide)]
  · exact h
theorem zGd_rack (h : zGd x) (a b c : Int) : zGd (sRack x a b c).2 := by
  unfold sRack
  split
  · rename_i hc
    dsimp only
    have b2 := zG2 h.1
    generalize hx' : xu (xu (xu (xu x 3 (x 2 0) a) 4 (x 2 0) b) 5 (x 2 0) c) 2 0 (x 2 0 + 1) = x'
    have e : ∀ g, g ≠ 2 → g ≠ 3 → g ≠ 4 → g ≠ 5 → x' g = x g := fun g e2 e3 e4 e5 => by rw [← hx']; funext k; rw [xu_g _ e2, xu_g _ e5, xu_g _ e4, xu_g _ e3]
    have f2 : x' 2 0 = x 2 0 + 1 := by rw [← hx', xu_s]
    have f3 : ∀ k, x' 3 k = if k = x 2 0 then a else x 3 k := fun k => by rw [← hx', xu_g _ (by decide), xu_g _ (by decide), xu_g _ (by decide), xu_kk]
    have f4 : ∀ k, x' 4 k = if k = x 2 0 then b else x 4 k := fun k => by rw [← hx', xu_g _ (by decide), xu_g _ (by decide), xu_kk, xu_g _ (by decide)]
    have f5 : ∀ k, x' 5 k = if k = x 2 0 then c else x 5 k := fun k => by rw [← hx', xu_g _ (by decide), xu_kk, xu_g _ (by decide), xu_g _ (by decide)]
    have hsw : ∀ a, zSw x a → zSw x' a := by
      intro a ha
      unfold zSw
      rw [f2, f4, if_neg (by omega)]
      omega
    have hen : ∀ a, zEn x a → zEn x' a := fun a ha => ha.elim (fun q => Or.inl (hsw a q)) Or.inr
    have gp : zGp x' := by
      have g := h.1
      obtain ⟨a1, a2, a3, a4, a5, a6, a7, a8, a9, a10, a11, a12, a13, a14, a15, a16, a17, a18⟩ := g
      unfold zGp
      simp only [e 1 (by decide) (by decide) (by decide) (by decide), e 6 (by decide) (by decide) (by decide) (by decide), e 7 (by decide) (by decide) (by decide) (by decide), e 8 (by decide) (by decide) (by decide) (by decide), e 9 (by decide) (by decide) (by decide) (by decide), e 10 (by decide) (by decide) (by decide) (by decide), e 11 (by decide) (by decide) (by decide) (by decide), e 12 (by decide) (by decide) (by decide) (by decide), e 13 (by decide) (by decide) (by decide) (by decide), e 14 (by decide) (by decide) (by decide) (by decide), e 15 (by decide) (by decide) (by decide) (by decide)]
      refine ⟨a1, by rw [f2]; omega, fun r => ?_, fun r => ?_, fun r => ?_, fun r r0 r1 => ?_, fun k => ⟨(a7 k).1, (a7 k).2.1, fun q => hen _ ((a7 k).2.2 q)⟩, a8, a9, a10, a11, a12, a13, a14, a15, a16, fun j j0 j1 => ?_, a18⟩
      · rw [f3]; split
        · omega
        · exact a3 r
      · rw [f4]; split
        · omega
        · exact a4 r
      · rw [f5]; split
        · omega
        · exact a5 r
      · rw [f2] at r1
        rw [f4, f5]
        by_cases hr : r = x 2 0
        · rw [if_pos hr, if_pos hr]; omega
        · rw [if_neg hr, if_neg hr]; exact a6 r r0 (by omega)
      · obtain ⟨q1, q2, q3⟩ := a17 j j0 j1
        unfold zSl
        rw [f2, f3, f3, if_neg (by omega), if_neg (by omega)]
        exact ⟨⟨q1.1, by omega, q1.2.2⟩, by omega, q3⟩
    refine zGd_p h gp (fun g hg => e g (by omega) (by omega) (by omega) (by omega)) hen (fun a ha => ?_)
    unfold zEg
    rw [f3]
    by_cases hj : 100 ≤ a
    · exact ⟨fun _ => Or.inl hj, fun _ => Or.inl hj⟩
    · rw [if_neg (by omega)]
  · exact h
theorem zGd_answer (h : zGd x) (l : Int) : zGd (sAnswer x l).2 := by
  unfold sAnswer
  split
  · rename_i hc
    dsimp only
    have gg := h
    obtain ⟨g1, g2, g3, g4, g5, g6, g7⟩ := h
    have b1 := zG1 g1
    have b22 := g2 l
    obtain ⟨c1, c2, c3, c4, c5, c6, c7, c8⟩ := g4 l hc.1 hc.2.1
    have n : ∀ g, g ≠ 16 → g ≠ 21 → (xu (xu x 16 l 6) 21 l (x 1 0)) g = x g := fun g e16 e21 => by funext k; rw [xu_g _ e21, xu_g _ e16]
    have f16 : ∀ j, (xu (xu x 16 l 6) 21 l (x 1 0)) 16 j = if j = l then 6 else x 16 j := fun j => by rw [xu_g _ (by decide), xu_kk]
    have f21 : ∀ j, (xu (xu x 16 l 6) 21 l (x 1 0)) 21 j = if j = l then x 1 0 else x 21 j := fun j => by rw [xu_kk, xu_g _ (by decide)]
    generalize xu (xu x 16 l 6) 21 l (x 1 0) = z at n f16 f21
    have eh : sHead z l = sHead x l := by unfold sHead; rw [n 23 (by decide) (by decide), n 22 (by decide) (by decide)]
    refine zGd_step gg hc.1 hc.2.1 (fun g h a b => n g (by omega) (by omega)) (by rw [n 50 (by decide) (by decide)]; exact g7) ?_ (fun j i _ _ _ => by rw [n 19 (by decide) (by decide)]) (fun j i _ _ _ => by rw [n 23 (by decide) (by decide)]) (Or.inl ⟨n 8 (by decide) (by decide), by rw [n 22 (by decide) (by decide)], n 23 (by decide) (by decide)⟩) (Or.inl ⟨n 15 (by decide) (by decide), by rw [n 17 (by decide) (by decide)]⟩) (by rw [n 22 (by decide) (by decide)]; omega) ?_
    · rintro g (rfl | rfl | rfl | rfl | rfl | rfl) j hj
      · rw [f16, if_neg hj]
      · rw [n 17 (by decide) (by decide)]
      · rw [n 18 (by decide) (by decide)]
      · rw [n 20 (by decide) (by decide)]
      · rw [f21, if_neg hj]
      · rw [n 22 (by decide) (by decide)]
    · unfold zCg
      unfold zEn zSw zEg at *
      rw [eh, f16, f21, if_pos rfl, if_pos rfl, n 2 (by decide) (by decide), n 3 (by decide) (by decide), n 4 (by decide) (by decide), n 8 (by decide) (by decide), n 11 (by decide) (by decide), n 15 (by decide) (by decide), n 17 (by decide) (by decide), n 18 (by decide) (by decide), n 19 (by decide) (by decide), n 20 (by decide) (by decide), n 22 (by decide) (by decide), n 23 (by decide) (by decide)]
      refine ⟨c1, c2, c3, by omega, ⟨c5.1, ?_⟩, ⟨c6.1, fun q => by omega⟩, ⟨by omega, by omega, fun _ => by omega⟩, c8⟩
      have := c5.2
      rw [if_pos (by omega)] at this ⊢
      exact this
  · exact h
end KP
