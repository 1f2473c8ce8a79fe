/-! Lifted, dialled, released: the class is as it was -/
/-- z is x but for what line l does -/
def zKe (x z : ZW) (l : Int) : Prop :=
  (∀ g, g ≠ 8 → g ≠ 15 → g ≠ 16 → g ≠ 17 → g ≠ 18 → g ≠ 19 → g ≠ 20 → g ≠ 21 → g ≠ 22 → g ≠ 23 → g ≠ 50 → z g = x g) ∧
  (∀ g, g = 16 ∨ g = 17 ∨ g = 18 ∨ g = 20 ∨ g = 21 ∨ g = 22 ∨ g = 50 → ∀ j, j ≠ l → z g j = x g j) ∧
  (∀ j i, j ≠ l → 0 ≤ i → i < 5 → z 19 (5 * j + i) = x 19 (5 * j + i)) ∧ (∀ j i, j ≠ l → 0 ≤ i → i < 120 → z 23 (120 * j + i) = x 23 (120 * j + i)) ∧
  (∀ e, z 8 e = x 8 e ∨ (0 ≤ e ∧ z 8 e = l ∧ x 8 e = -1)) ∧ (∀ i, 0 ≤ i → i < z 22 l → x 8 (z 23 (120 * l + i)) = -1) ∧
  (∀ j, j ≠ l → z 15 j = x 15 j ∨ (0 ≤ z 17 l ∧ z 17 l = j)) ∧ (0 ≤ z 17 l → x 15 (z 17 l) = 0) ∧ (0 ≤ z 17 l → z 16 l = 5)
section B2
variable {x : ZW}
theorem zKe_0 (g : zGp x) {l s : Int} (hs : zFr x s) (h0 : 0 ≤ s) : zKe x (sLiftTo x l s) l := by
  have b8 := zG8 g s
  refine ⟨fun g e8 e15 e16 e17 e18 e19 e20 e21 e22 e23 e50 => by funext k; simp [sLiftTo, sHold, sLift0, xu, e8, e15, e16, e17, e18, e20, e21, e22, e23], ?_, fun j i _ _ _ => by simp [sLiftTo, sHold, sLift0, xu], fun j i hj i0 i1 => ?_, fun e => ?_, fun i i0 i1 => ?_, fun j hj => Or.inl (by simp [sLiftTo, sHold, sLift0, xu, hj]), fun h => ?_, fun h => ?_⟩
  · rintro g (rfl | rfl | rfl | rfl | rfl | rfl | rfl) j hj <;> simp [sLiftTo, sHold, sLift0, xu, hj]
  · have e : sLiftTo x l s 23 (120 * j + i) = if 120 * j + i = 120 * l then s else x 23 (120 * j + i) := by simp [sLiftTo, sHold, sLift0, xu]
    rw [e, if_neg (by omega)]
  · have e8 : sLiftTo x l s 8 e = if e = s then l else x 8 e := by simp [sLiftTo, sHold, sLift0, xu]
    rw [e8]
    by_cases es : e = s
    · rw [if_pos es, es]; exact Or.inr ⟨h0, rfl, by omega⟩
    · rw [if_neg es]; exact Or.inl rfl
  · have e22 : sLiftTo x l s 22 l = 1 := by simp [sLiftTo, sHold, sLift0, xu]
    have e23 : sLiftTo x l s 23 (120 * l + 0) = s := by simp [sLiftTo, sHold, sLift0, xu]
    rw [show i = 0 by omega, e23]; omega
  · have e17 : sLiftTo x l s 17 l = -1 := by simp [sLiftTo, sHold, sLift0, xu]
    omega
  · have e17 : sLiftTo x l s 17 l = -1 := by simp [sLiftTo, sHold, sLift0, xu]
    omega
theorem sStep_r (x : ZW) (l d : Int) (h : (sStep x l d) 17 l ≠ x 17 l) : (sStep x l d) 16 l = 5 := by
  have hE : ∀ k, sEd (sTk (sNd x l d) l) l d 17 k = x 17 k := fun k => by rw [sEd_g _ _ _ (by decide), sTk_g _ _ (by decide), sNd_g _ _ _ (by decide)]
  revert h
  unfold sStep
  split
  · split
    · unfold sJun
      split
      · intro _; exact xu_s _ _ _ _
      · intro h; exact absurd (hE l) h
    · split
      · intro h; exact absurd (hE l) h
      · unfold sFin
        split
        · intro h; rw [xu_g _ (by decide)] at h; exact absurd (hE l) h
        · split
          · intro _; rw [xu_g _ (by decide), xu_g _ (by decide), xu_s]
          · intro h; rw [xu_g _ (by decide)] at h; exact absurd (hE l) h
  · unfold sSel
    intro h
    rw [xu_g _ (by decide)] at h
    refine absurd ?_ h
    split
    · unfold sHold
      rw [xu_g _ (by decide), xu_g _ (by decide), xu_g _ (by decide), sTk_g _ _ (by decide), sNd_g _ _ _ (by decide)]
    · rw [sTk_g _ _ (by decide), sNd_g _ _ _ (by decide)]
theorem zKe_1 (hx8 : ∀ e, -1 ≤ x 8 e) {z : ZW} {l d : Int} (h : zKe x z l) (gz : zGd z) (hl : zLn z l) (hc : z 15 l = 1) (h16 : z 16 l ≤ 1) : zKe x (sStep z l d) l := by
  obtain ⟨k1, k2, k3, k4, k5, k6, k7, k8, k9⟩ := h
  have bl := hl.1
  have b22 := gz.2.1 l
  have t18 := ((gz.2.2.2.1 l hl hc).2.2.2.2.1).1
  have h17 : z 17 l < 0 := by
    by_cases q : 0 ≤ z 17 l
    · have := k9 q; omega
    · omega
  have n := fun g hg => sStep_n z l d (g := g) hg
  have hs8 := sStep_8 z gz.1 l d
  have hs15 := sStep_15 z gz.1 l d
  have hr := sStep_r z l d
  have h21 : sStep z l d 21 = z 21 := n 21 (by decide)
  have h19 := sStep_19 z l d t18
  have hL := fun g hg j hj => sStep_l z l d (g := g) hg j hj
  generalize sStep z l d = w at n hs8 hs15 hr h21 h19 hL
  refine ⟨fun g e8 e15 e16 e17 e18 e19 e20 e21 e22 e23 e50 => (n g ⟨e8, e15, e16, e17, e18, e19, e20, e22, e23, e50⟩).trans (k1 g e8 e15 e16 e17 e18 e19 e20 e21 e22 e23 e50), ?_, fun j i hj i0 i1 => (h19 j i hj i0 i1).trans (k3 j i hj i0 i1), fun j i hj i0 i1 => ?_, fun e => ?_, fun i i0 i1 => ?_, fun j hj => ?_, fun h => ?_, fun h => ?_⟩
  · rintro g (rfl | rfl | rfl | rfl | rfl | rfl | rfl) j hj
    · exact (hL 16 (by simp) j hj).trans (k2 16 (by simp) j hj)
    · exact (hL 17 (by simp) j hj).trans (k2 17 (by simp) j hj)
    · exact (hL 18 (by simp) j hj).trans (k2 18 (by simp) j hj)
    · exact (hL 20 (by simp) j hj).trans (k2 20 (by simp) j hj)
    · rw [h21]; exact k2 21 (by simp) j hj
    · exact (hL 22 (by simp) j hj).trans (k2 22 (by simp) j hj)
    · exact (hL 50 (by simp) j hj).trans (k2 50 (by simp) j hj)
  · rw [← k4 j i hj i0 i1]
    rcases hs8 with ⟨-, -, h⟩ | ⟨e', -, -, -, -, h⟩
    · rw [h]
    · rw [h]; exact if_neg (by omega)
  · rcases hs8 with ⟨h, -, -⟩ | ⟨e', he', hf, h, -, -⟩
    · rw [h]; exact k5 e
    · rw [h]
      dsimp only
      by_cases es : e = e'
      · rw [if_pos es]
        have b := hx8 e
        refine Or.inr ⟨by omega, rfl, ?_⟩
        rcases k5 e with q | q
        · rw [es] at q b ⊢; omega
        · exact q.2.2
      · rw [if_neg es]; exact k5 e
  · rcases hs8 with ⟨-, h, h3⟩ | ⟨e', he', hf, -, h, h3⟩
    · rw [h] at i1
      rw [h3]; exact k6 i i0 i1
    · rw [h] at i1
      rw [h3]
      dsimp only
      by_cases hi : i = z 22 l
      · rw [if_pos (by omega)]
        have b := hx8 e'
        rcases k5 e' with q | q
        · omega
        · exact q.2.2
      · rw [if_neg (by omega)]
        exact k6 i i0 (by omega)
  · rcases hs15 with ⟨h, h7⟩ | ⟨o, ho, hq, h, h7⟩
    · rw [h, h7]; exact k7 j hj
    · rw [h, h7]
      dsimp only
      by_cases e : j = o
      · exact Or.inr ⟨ho.1, e.symm⟩
      · rw [if_neg e]
        rcases k7 j hj with q | q
        · exact Or.inl q
        · omega
  · rcases hs15 with ⟨h', h7⟩ | ⟨o, ho, hq, h', h7⟩
    · rw [h7] at h; omega
    · rw [h7]
      rcases k7 o (by rintro rfl; omega) with q | q
      · rw [← q]; exact hq
      · omega
  · refine hr ?_
    omega
theorem zKe_M (g : zGd x) {l v m : Int} (hl : zLn x l) (hq : x 15 l = 0) (hf : ¬ sFF x (x 12 l) < 0) : ∀ n, zKe x (sMk x l v m n) l
  | 0 => by
    have hsel := (zGln g.1 hl.1 hl.2).1
    obtain ⟨h1, h2⟩ := sFF_sw g.1 hsel hf
    exact zKe_0 g.1 h1 (by omega)
  | n + 1 => by
    obtain ⟨h1, h2, h3, h4⟩ := sMk_z g (v := v) (m := m) hl hq hf n
    have ih := zKe_M g (v := v) (m := m) hl hq hf n
    show zKe x (sDial (sMk x l v m n) l (sDgt v (m - 1 - n))).2 l
    have hd := sDgt_b v (m - 1 - n)
    have hcc : zLn (sMk x l v m n) l ∧ (sMk x l v m n) 15 l = 1 ∧ 0 ≤ sDgt v (m - 1 - n) ∧ sDgt v (m - 1 - n) ≤ 9 := ⟨h2, h3, hd.1, hd.2⟩
    unfold sDial
    rw [if_pos hcc]
    by_cases h16 : (sMk x l v m n) 16 l ≤ 1
    · rw [if_pos h16]
      exact zKe_1 (fun e => (zG8 g.1 e).1) ih h1 h2 h3 h16
    · rw [if_neg h16]
      exact ih
theorem sFreeN_8 (x : ZW) (l : Int) : ∀ (n : Nat) (e : Int), sFreeN x l n 8 e = x 8 e ∨ (sFreeN x l n 8 e = -1 ∧ ∃ i, 0 ≤ i ∧ i < n ∧ x 23 (120 * l + i) = e)
  | 0, e => Or.inl rfl
  | n + 1, e => by
    show xu (sFreeN x l n) 8 (x 23 (120 * l + n)) (-1) 8 e = _ ∨ _
    rw [xu_kk]
    by_cases h : e = x 23 (120 * l + n)
    · rw [if_pos h]
      exact Or.inr ⟨show xu (sFreeN x l n) 8 (x 23 (120 * l + n)) (-1) 8 e = -1 by rw [xu_kk, if_pos h], n, by omega, by omega, h.symm⟩
    · rw [if_neg h]
      rcases sFreeN_8 x l n e with q | ⟨q, i, i0, i1, i2⟩
      · exact Or.inl q
      · exact Or.inr ⟨show xu (sFreeN x l n) 8 (x 23 (120 * l + n)) (-1) 8 e = -1 by rw [xu_kk, if_neg h]; exact q, i, i0, by omega, i2⟩
theorem sFreeN_p (x : ZW) (l : Int) : ∀ (n : Nat) (i : Int), 0 ≤ i → i < n → sFreeN x l n 8 (x 23 (120 * l + i)) = -1
  | 0, i, i0, i1 => by omega
  | n + 1, i, i0, i1 => by
    show xu (sFreeN x l n) 8 (x 23 (120 * l + n)) (-1) 8 (x 23 (120 * l + i)) = -1
    rw [xu_kk]
    split
    · rfl
    · rename_i h
      by_cases e : i = n
      · rw [e] at h; exact absurd rfl h
      · exact sFreeN_p x l n i i0 (by omega)
/-- what the class holds of x, it holds of w too -/
def zCq (x w : ZW) (l : Int) : Prop :=
  (∀ g, g ≠ 16 → g ≠ 17 → g ≠ 18 → g ≠ 19 → g ≠ 20 → g ≠ 21 → g ≠ 22 → g ≠ 23 → g ≠ 50 → w g = x g) ∧
  (∀ g, g = 16 ∨ g = 17 ∨ g = 18 ∨ g = 20 ∨ g = 21 ∨ g = 22 ∨ g = 50 → ∀ j, j ≠ l → w g j = x g j) ∧
  (∀ j i, j ≠ l → 0 ≤ i → i < 5 → w 19 (5 * j + i) = x 19 (5 * j + i)) ∧ (∀ j i, j ≠ l → 0 ≤ i → i < 120 → w 23 (120 * j + i) = x 23 (120 * j + i))
theorem zCq_rel {z : ZW} {l : Int} (h : zKe x z l) (gz : zGd z) (hl : zLn z l) (hc : z 15 l = 1) (hq : x 15 l = 0) : zCq x (sRel z l) l := by
  obtain ⟨k1, k2, k3, k4, k5, k6, k7, k8, k9⟩ := h
  have b22 := gz.2.1 l
  have n : ∀ g, g ≠ 8 → g ≠ 15 → g ≠ 22 → sRel z l g = z g := by
    intro g e8 e15 e22
    funext k
    unfold sRel
    rw [xu_g _ e15]
    split
    · rw [xu_g _ e22, sFreeN_g _ _ e8]
    · rw [xu_g _ e15, xu_g _ e22, sFreeN_g _ _ e8]
  have n22 : ∀ j, j ≠ l → sRel z l 22 j = z 22 j := by
    intro j hj
    unfold sRel
    rw [xu_g _ (by decide)]
    split
    · rw [xu_k _ hj, sFreeN_g _ _ (by decide)]
    · rw [xu_g _ (by decide), xu_k _ hj, sFreeN_g _ _ (by decide)]
  have n8 : ∀ e, sRel z l 8 e = sFreeN z l (z 22 l).toNat 8 e := by
    intro e
    unfold sRel
    rw [xu_g _ (by decide)]
    split
    · rw [xu_g _ (by decide)]
    · rw [xu_g _ (by decide), xu_g _ (by decide)]
  have n15 : ∀ j, sRel z l 15 j = if j = l then 0 else if 0 ≤ z 17 l ∧ j = z 17 l then 0 else z 15 j := by
    intro j
    unfold sRel
    rw [xu_kk]
    by_cases e : j = l
    · rw [if_pos e, if_pos e]
    · rw [if_neg e, if_neg e]
      by_cases h17 : z 17 l < 0
      · rw [if_pos h17, if_neg (by omega), xu_g _ (by decide), sFreeN_g _ _ (by decide)]
      · rw [if_neg h17, xu_kk]
        by_cases e2 : j = z 17 l
        · rw [if_pos e2, if_pos ⟨by omega, e2⟩]
        · rw [if_neg e2, if_neg (fun q => e2 q.2), xu_g _ (by decide), sFreeN_g _ _ (by decide)]
  refine ⟨fun g e16 e17 e18 e19 e20 e21 e22 e23 e50 => ?_, ?_, fun j i hj i0 i1 => ?_, fun j i hj i0 i1 => ?_⟩
  · by_cases e8 : g = 8
    · subst e8
      funext e
      rw [n8]
      rcases sFreeN_8 z l (z 22 l).toNat e with q | ⟨q, i, i0, i1, i2⟩
      · rcases k5 e with q2 | ⟨q0, q2, q3⟩
        · rw [q, q2]
        · obtain ⟨-, -, i, i0, i1, i2⟩ := gz.2.2.2.2.2.1 e q0 (by rw [q2]; exact hl.1)
          rw [q2] at i1 i2
          have := sFreeN_p z l (z 22 l).toNat i i0 (by omega)
          rw [i2] at this
          rw [this, q3]
      · rw [q, ← i2, k6 i (by omega) (by omega)]
    · by_cases e15 : g = 15
      · subst e15
        funext j
        rw [n15]
        by_cases e : j = l
        · rw [if_pos e, e, hq]
        · rw [if_neg e]
          by_cases e2 : 0 ≤ z 17 l ∧ j = z 17 l
          · rw [if_pos e2, e2.2, k8 e2.1]
          · rw [if_neg e2]
            rcases k7 j e with q | q
            · exact q
            · exact absurd ⟨q.1, q.2.symm⟩ e2
      · rw [n g e8 e15 e22]
        exact k1 g e8 e15 e16 e17 e18 e19 e20 e21 e22 e23 e50
  · rintro g (rfl | rfl | rfl | rfl | rfl | rfl | rfl) j hj
    · rw [n 16 (by decide) (by decide) (by decide)]; exact k2 16 (by simp) j hj
    · rw [n 17 (by decide) (by decide) (by decide)]; exact k2 17 (by simp) j hj
    · rw [n 18 (by decide) (by decide) (by decide)]; exact k2 18 (by simp) j hj
    · rw [n 20 (by decide) (by decide) (by decide)]; exact k2 20 (by simp) j hj
    · rw [n 21 (by decide) (by decide) (by decide)]; exact k2 21 (by simp) j hj
    · rw [n22 j hj]; exact k2 22 (by simp) j hj
    · rw [n 50 (by decide) (by decide) (by decide)]; exact k2 50 (by simp) j hj
  · rw [n 19 (by decide) (by decide) (by decide)]; exact k3 j i hj i0 i1
  · rw [n 23 (by decide) (by decide) (by decide)]; exact k4 j i hj i0 i1
end B2
section B3
variable {K : ZS} {x w y : ZW} {S : ZS}
theorem zR_irr (h : zR K w y S) {l : Int} (q : zCq x w l) (hc : x 15 l ≠ 1) (hb : zBd x) (h22 : ∀ j, x 22 j ≤ 120) : zR K x y S := by
  obtain ⟨q1, q2, q3, q4⟩ := q
  obtain ⟨h1, h2, h3, h4, h5, h6, h7⟩ := h
  have e11 : w 11 = x 11 := q1 11 (by decide) (by decide) (by decide) (by decide) (by decide) (by decide) (by decide) (by decide) (by decide)
  have e13 : w 13 = x 13 := q1 13 (by decide) (by decide) (by decide) (by decide) (by decide) (by decide) (by decide) (by decide) (by decide)
  have e14 : w 14 = x 14 := q1 14 (by decide) (by decide) (by decide) (by decide) (by decide) (by decide) (by decide) (by decide) (by decide)
  have e12 : w 12 = x 12 := q1 12 (by decide) (by decide) (by decide) (by decide) (by decide) (by decide) (by decide) (by decide) (by decide)
  have e15 : w 15 = x 15 := q1 15 (by decide) (by decide) (by decide) (by decide) (by decide) (by decide) (by decide) (by decide) (by decide)
  refine ⟨fun p hp k k0 k1 => ?_, fun j j0 j1 => ?_, fun r n a b c d => ?_, h4, by rw [← e11]; exact h5, hb, h7⟩
  · refine (h1 p hp k k0 k1).trans (congrArg zI ?_)
    have hg : p.1 = true → p.2.1 ≠ 16 ∧ p.2.1 ≠ 17 ∧ p.2.1 ≠ 18 ∧ p.2.1 ≠ 19 ∧ p.2.1 ≠ 20 ∧ p.2.1 ≠ 21 ∧ p.2.1 ≠ 22 ∧ p.2.1 ≠ 23 ∧ p.2.1 ≠ 50 := by
      have : ∀ p ∈ zTab, p.1 = true → p.2.1 ≠ 16 ∧ p.2.1 ≠ 17 ∧ p.2.1 ≠ 18 ∧ p.2.1 ≠ 19 ∧ p.2.1 ≠ 20 ∧ p.2.1 ≠ 21 ∧ p.2.1 ≠ 22 ∧ p.2.1 ≠ 23 ∧ p.2.1 ≠ 50 := by decide
      exact this p hp
    obtain ⟨b, g, t⟩ := p
    cases b
    · rfl
    · obtain ⟨a1, a2, a3, a4, a5, a6, a7, a8, a9⟩ := hg rfl
      exact congrFun (q1 g a1 a2 a3 a4 a5 a6 a7 a8 a9) k
  · have c := h2 j j0 (by rw [e11]; exact j1)
    unfold zLC at c ⊢
    rw [e12, e15] at c
    refine ⟨c.1, c.2.1, c.2.2.1, c.2.2.2.1, fun h => ?_, c.2.2.2.2.2⟩
    have hj : j ≠ l := by rintro rfl; exact hc h
    have A := c.2.2.2.2.1 h
    unfold zLA at A ⊢
    rw [q2 16 (by simp) j hj, q2 17 (by simp) j hj, q2 18 (by simp) j hj, q2 20 (by simp) j hj, q2 21 (by simp) j hj, q2 22 (by simp) j hj, q2 50 (by simp) j hj] at A
    have b := h22 j
    exact ⟨A.1, A.2.1, A.2.2.1, A.2.2.2.1, A.2.2.2.2.1, fun i i0 i1 => by rw [← q4 j i hj i0 (by omega)]; exact A.2.2.2.2.2.1 i i0 i1, fun i i0 i1 i2 => by rw [← q3 j i hj i0 i1]; exact A.2.2.2.2.2.2.1 i i0 i1 i2, A.2.2.2.2.2.2.2⟩
  · rw [← zlineOf_c e11 e13 e14]
    exact h3 r n a b c d
end B3
