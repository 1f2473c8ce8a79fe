/-! MEETS of the reference, its loop -/
theorem sStep_a (z : ZW) (l d e : Int) (hE : ¬ zEg z (sHead z l)) (he : sGoes z (sHead z l) d = e) : (sStep z l d) 16 l = sSst z e ∧ (sStep z l d) 20 l = z 20 l ∧ (sStep z l d) 50 l = z 50 l ∧ (sStep z l d) 15 = z 15 ∧
    (sStep z l d) 8 = (if 0 ≤ e then (fun i => if i = e then l else z 8 i) else z 8) ∧ (sStep z l d) 22 l = (if 0 ≤ e then z 22 l + 1 else z 22 l) ∧ (sStep z l d) 23 = (if 0 ≤ e then (fun k => if k = 120 * l + z 22 l then e else z 23 k) else z 23) := by
  have nT : ∀ g, g ≠ 18 → g ≠ 19 → ∀ k, sTk (sNd z l d) l g k = z g k := fun g e18 e19 k => by rw [sTk_g _ _ e18, sNd_g _ _ _ e19]
  have e10 : sSst (sTk (sNd z l d) l) e = sSst z e := by unfold sSst; rw [nT 10 (by decide) (by decide)]
  have es : sStep z l d = sSel (sTk (sNd z l d) l) l e := by unfold sStep; rw [if_neg hE, he]
  rw [es]
  unfold sSel
  by_cases h0 : 0 ≤ e
  · rw [if_pos h0, if_pos h0, if_pos h0, if_pos h0]
    unfold sHold
    refine ⟨?_, ?_, ?_, ?_, ?_, ?_, ?_⟩
    · rw [xu_s, e10]
    · rw [xu_g _ (by decide), xu_g _ (by decide), xu_g _ (by decide), xu_g _ (by decide), nT 20 (by decide) (by decide)]
    · rw [xu_g _ (by decide), xu_g _ (by decide), xu_g _ (by decide), xu_g _ (by decide), nT 50 (by decide) (by decide)]
    · funext k; rw [xu_g _ (by decide), xu_g _ (by decide), xu_g _ (by decide), xu_g _ (by decide), nT 15 (by decide) (by decide)]
    · funext k; rw [xu_g _ (by decide), xu_g _ (by decide), xu_g _ (by decide), xu_kk, nT 8 (by decide) (by decide)]
    · rw [xu_g _ (by decide), xu_s, nT 22 (by decide) (by decide)]
    · funext k; rw [xu_g _ (by decide), xu_g _ (by decide), xu_kk, xu_g _ (by decide), nT 23 (by decide) (by decide), nT 22 (by decide) (by decide)]
  · rw [if_neg h0, if_neg h0, if_neg h0, if_neg h0]
    refine ⟨?_, ?_, ?_, ?_, ?_, ?_, ?_⟩
    · rw [xu_s, e10]
    · rw [xu_g _ (by decide), nT 20 (by decide) (by decide)]
    · rw [xu_g _ (by decide), nT 50 (by decide) (by decide)]
    · funext k; rw [xu_g _ (by decide), nT 15 (by decide) (by decide)]
    · funext k; rw [xu_g _ (by decide), nT 8 (by decide) (by decide)]
    · rw [xu_g _ (by decide), nT 22 (by decide) (by decide)]
    · funext k; rw [xu_g _ (by decide), nT 23 (by decide) (by decide)]
/-- at an end: the state, and whom it rings -/
def sEst (z : ZW) (l d : Int) : Int := if 100 ≤ sHead z l then (if z 20 l + 1 = 3 then 5 else 1) else if z 20 l < 1 then 1 else
  if zlineOf z (sHead z l / 8) (10 * (if z 20 l = 0 then d else z 50 l) + d) < 0 then 4 else if z 15 (zlineOf z (sHead z l / 8) (10 * (if z 20 l = 0 then d else z 50 l) + d)) = 0 then 5 else 3
theorem sStep_e (z : ZW) (l d : Int) (hE : zEg z (sHead z l)) (hc : z 15 l = 1) : (sStep z l d) 16 l = sEst z l d ∧ (sStep z l d) 20 l = z 20 l + 1 ∧ (sStep z l d) 50 l = (if z 20 l = 0 then d else z 50 l) ∧ (sStep z l d) 8 = z 8 ∧ (sStep z l d) 22 l = z 22 l ∧ (sStep z l d) 23 = z 23 ∧
    (sStep z l d) 15 = (if sHead z l < 100 ∧ sEst z l d = 5 then (fun i => if i = zlineOf z (sHead z l / 8) (10 * (if z 20 l = 0 then d else z 50 l) + d) then 2 else z 15 i) else z 15) := by
  have nE : ∀ g, g ≠ 16 → g ≠ 18 → g ≠ 19 → g ≠ 20 → g ≠ 50 → ∀ k, sEd (sTk (sNd z l d) l) l d g k = z g k := fun g e16 e18 e19 e20 e50 k => by rw [sEd_g _ _ _ ⟨e16, e20, e50⟩, sTk_g _ _ e18, sNd_g _ _ _ e19]
  have e20 : sEd (sTk (sNd z l d) l) l d 20 l = z 20 l + 1 := by rw [sEd_20, sTk_g _ _ (by decide), sNd_g _ _ _ (by decide)]
  have e50 : sEd (sTk (sNd z l d) l) l d 50 l = if z 20 l = 0 then d else z 50 l := by rw [sEd_50, sTk_g _ _ (by decide), sNd_g _ _ _ (by decide), sTk_g _ _ (by decide), sNd_g _ _ _ (by decide)]
  have e16 : sEd (sTk (sNd z l d) l) l d 16 l = 1 := sEd_16 _ _ _
  have hs : sEst z l d = if 100 ≤ sHead z l then (if z 20 l + 1 = 3 then 5 else 1) else if z 20 l < 1 then 1 else
    if zlineOf z (sHead z l / 8) (10 * (if z 20 l = 0 then d else z 50 l) + d) < 0 then 4 else if z 15 (zlineOf z (sHead z l / 8) (10 * (if z 20 l = 0 then d else z 50 l) + d)) = 0 then 5 else 3 := rfl
  unfold sStep
  rw [if_pos hE, e50]
  generalize zlineOf z (sHead z l / 8) (10 * (if z 20 l = 0 then d else z 50 l) + d) = o at hs ⊢
  generalize sEd (sTk (sNd z l d) l) l d = Z at nE e20 e50 e16
  have n8 : Z 8 = z 8 := by funext k; exact nE 8 (by decide) (by decide) (by decide) (by decide) (by decide) k
  have n15 : Z 15 = z 15 := by funext k; exact nE 15 (by decide) (by decide) (by decide) (by decide) (by decide) k
  have n23 : Z 23 = z 23 := by funext k; exact nE 23 (by decide) (by decide) (by decide) (by decide) (by decide) k
  have n22 : Z 22 l = z 22 l := nE 22 (by decide) (by decide) (by decide) (by decide) (by decide) l
  have s16 : ∀ s g, g ≠ 16 → xu Z 16 l s g = Z g := fun s g hg => by funext k; exact xu_g _ hg
  have fin : ∀ s, (xu Z 16 l s) 16 l = s ∧ (xu Z 16 l s) 20 l = z 20 l + 1 ∧ (xu Z 16 l s) 50 l = (if z 20 l = 0 then d else z 50 l) ∧ (xu Z 16 l s) 8 = z 8 ∧ (xu Z 16 l s) 22 l = z 22 l ∧ (xu Z 16 l s) 23 = z 23 ∧ (xu Z 16 l s) 15 = z 15 := fun s =>
    ⟨xu_s _ _ _ _, by rw [s16 s 20 (by decide), e20], by rw [s16 s 50 (by decide), e50], by rw [s16 s 8 (by decide), n8], by rw [s16 s 22 (by decide), n22], by rw [s16 s 23 (by decide), n23], by rw [s16 s 15 (by decide), n15]⟩
  by_cases hJ : 100 ≤ sHead z l
  · rw [if_pos hJ] at hs ⊢
    unfold sJun
    rw [e20]
    by_cases h3 : z 20 l + 1 = 3
    · rw [if_pos h3] at hs ⊢
      rw [hs, if_neg (show ¬ (sHead z l < 100 ∧ (5 : Int) = 5) by omega)]
      exact fin 5
    · rw [if_neg h3] at hs ⊢
      rw [hs, if_neg (show ¬ (sHead z l < 100 ∧ (1 : Int) = 5) by omega)]
      exact ⟨e16, e20, e50, n8, n22, n23, n15⟩
  · rw [if_neg hJ] at hs ⊢
    by_cases h1 : z 20 l < 1
    · rw [if_pos h1] at hs ⊢
      rw [hs, if_neg (show ¬ (sHead z l < 100 ∧ (1 : Int) = 5) by omega)]
      exact ⟨e16, e20, e50, n8, n22, n23, n15⟩
    · rw [if_neg h1] at hs ⊢
      unfold sFin
      by_cases ho : o < 0
      · rw [if_pos ho] at hs ⊢
        rw [hs, if_neg (show ¬ (sHead z l < 100 ∧ (4 : Int) = 5) by omega)]
        exact fin 4
      · rw [if_neg ho] at hs ⊢
        rw [n15]
        by_cases hq : z 15 o = 0
        · rw [if_pos hq] at hs ⊢
          rw [hs, if_pos (show sHead z l < 100 ∧ (5 : Int) = 5 by omega)]
          have s3 : ∀ g, g ≠ 15 → g ≠ 16 → g ≠ 17 → xu (xu (xu Z 16 l 5) 17 l o) 15 o 2 g = Z g := fun g a b c => by funext k; rw [xu_g _ a, xu_g _ c, xu_g _ b]
          exact ⟨by rw [xu_g _ (by decide), xu_g _ (by decide), xu_s], by rw [s3 20 (by decide) (by decide) (by decide), e20], by rw [s3 50 (by decide) (by decide) (by decide), e50], by rw [s3 8 (by decide) (by decide) (by decide), n8], by rw [s3 22 (by decide) (by decide) (by decide), n22], by rw [s3 23 (by decide) (by decide) (by decide), n23], by funext k; rw [xu_kk, xu_g _ (by decide), xu_g _ (by decide), n15]⟩
        · rw [if_neg hq] at hs ⊢
          rw [hs, if_neg (show ¬ (sHead z l < 100 ∧ (3 : Int) = 5) by omega)]
          exact fin 3
theorem sMk_stop {x : ZW} {l v m : Int} (g : zGd x) (hl : zLn x l) (hq : x 15 l = 0) (hf : ¬ sFF x (x 12 l) < 0) (n : Nat) (h : ¬ (sMk x l v m n) 16 l ≤ 1) : ∀ j, sMk x l v m (n + j) = sMk x l v m n
  | 0 => rfl
  | j + 1 => by
    have ih := sMk_stop g hl hq hf n h j
    obtain ⟨h1, h2, h3, h4⟩ := sMk_z g (v := v) (m := m) hl hq hf n
    show (sDial (sMk x l v m (n + j)) l (sDgt v (m - 1 - ((n + j : Nat) : Int)))).2 = _
    rw [ih]
    have hd := sDgt_b v (m - 1 - ((n + j : Nat) : Int))
    have hcc : zLn (sMk x l v m n) l ∧ (sMk x l v m n) 15 l = 1 ∧ 0 ≤ sDgt v (m - 1 - ((n + j : Nat) : Int)) ∧ sDgt v (m - 1 - ((n + j : Nat) : Int)) ≤ 9 := ⟨h2, h3, hd.1, hd.2⟩
    unfold sDial
    rw [if_pos hcc, if_neg h]
theorem sMk_go {x : ZW} {l v m : Int} (g : zGd x) (hl : zLn x l) (hq : x 15 l = 0) (hf : ¬ sFF x (x 12 l) < 0) (n : Nat) (h : (sMk x l v m n) 16 l ≤ 1) : sMk x l v m (n + 1) = sStep (sMk x l v m n) l (sDgt v (m - 1 - n)) := by
  obtain ⟨h1, h2, h3, h4⟩ := sMk_z g (v := v) (m := m) hl hq hf n
  have hd := sDgt_b v (m - 1 - n)
  have hcc : zLn (sMk x l v m n) l ∧ (sMk x l v m n) 15 l = 1 ∧ 0 ≤ sDgt v (m - 1 - n) ∧ sDgt v (m - 1 - n) ≤ 9 := ⟨h2, h3, hd.1, hd.2⟩
  show (sDial (sMk x l v m n) l (sDgt v (m - 1 - n))).2 = _
  unfold sDial
  rw [if_pos hcc, if_pos h]
