/-! DIAL of the class -/
section CD
variable {K : ZS} {x y : ZW} {S : ZS}
theorem zL_head_s (h : zR K x y S) (n : Nat) {l : Int} (hl : zLn x l) (hc : x 15 l = 1) (hn : 1 ≤ x 22 l ∧ x 22 l ≤ 97) : zL_head (n + 1) l.toNat S = some (zI (sHead x l), S) := by
  obtain ⟨a3, a5, a6, a10, a11, a29, a30, a8⟩ := zRLA h hl.1 hl.2 hc
  have e := a29 (x 22 l - 1) (by omega) (by omega)
  rw [show 120 * l + (x 22 l - 1) = 120 * l + x 22 l - 1 by omega] at e
  refine zwp_eq ?_
  rw [eL_head, sHead]
  simp (contextual := true) (disch := omega) only [zWp, zNum, Int.cast_ofNat_Int, Prod.mk.injEq, and_true, true_and, implies_true, and_self, true_implies, false_implies, not_true_eq_false, not_false_eq_true, and_false, false_and, Int.reduceEq, Int.reduceLT, Int.reduceLE, Int.reduceNeg, Int.reduceAdd, Int.reduceSub, Int.reduceMul, Int.reduceToNat, Nat.reduceEqDiff, cond_true, cond_false, a5, e] <;> ((repeat' (first | intro _ | with_reducible apply And.intro)) <;> (first | omega | (exfalso; omega)))
theorem zC_hunt_6_s (h : zR K x y S) (g : zGp x) (h40 : ∀ e, x 40 e = 0) (n : Nat) (J : Nat) {a l : Int} (hs : zSw x a) (hl : 0 ≤ l ∧ l < 10) : ∀ (m : Nat) (p : Int) (b : Bool), 0 ≤ p → p + m = 4 →
    zC_hunt_6 (n + 2) J (zI a) (zI l) (zI (bif b then 1 else 0)) (zI p) S =
      if 0 ≤ sGo x (sBase x a l) m p b then (zC_hold (n + 2) J (zI (sGo x (sBase x a l) m p b)) (zI 1) S).bind (fun r3 => some r3)
      else some (zu S.1 2 J 3 (zI (if sGo x (sBase x a l) m p b = -1 then 3 else 4)), S.2)
  | 0, p, b, p0, e => by
    rw [eC_hunt_6, zI_n4, zif_pos (by rw [zI_le (by omega) (by omega) (by omega) (by omega)]; omega)]
    cases b
    · rw [if_neg (by simp [sGo])]
      show zif (zI 0 = 0) _ _ = _
      rw [zif_pos (show zI 0 = 0 from rfl)]
      rfl
    · rw [if_neg (by simp [sGo])]
      show zif (zI 1 = 0) _ _ = _
      rw [zif_neg (by decide)]
      rfl
  | m + 1, p, b, p0, e => by
    have b2 := zG2 g
    have b6 := zG6 g (sBase x a l + p)
    have b40 := h40 (x 6 (sBase x a l + p))
    have ih := fun b' => zC_hunt_6_s h g h40 n J hs hl m (p + 1) b' (by omega) (by omega)
    have iht := ih true
    have ihb := ih b
    have q2 := zP_canTake_s h g n (a := x 6 (sBase x a l + p)) (by omega) (by omega)
    rw [eC_hunt_6, zI_n4, zif_neg (by rw [zI_le (by omega) (by omega) (by omega) (by omega)]; omega), zP_leadsFrom_s h g n hs hl (by omega)]
    show (zP_canTake (n + 2) (zI (x 6 (sBase x a l + p))) S).bind _ = _
    rw [q2]
    show zif (zb _ = 0) (zif (zI (bif b then 1 else 0) = 0) (zif (zI (x 6 (sBase x a l + p)) = -1) (zC_hunt_6 (n + 2) J (zI a) (zI l) (zI 0) (zI p + 1) S) (zC_hunt_6 (n + 2) J (zI a) (zI l) (zI 1) (zI p + 1) S)) (zC_hunt_6 (n + 2) J (zI a) (zI l) (zI 1) (zI p + 1) S)) ((zC_hold (n + 2) J (zI (x 6 (sBase x a l + p))) (zI 1) S).bind (fun r3 => some r3)) = _
    rw [show zI p + 1 = zI (p + 1) from zI_add p 1, sGo]
    by_cases h6 : x 6 (sBase x a l + p) < 0
    · rw [if_pos h6, zif_pos (by rw [zb_0]; omega)]
      rw [zif_pos (show zI (x 6 (sBase x a l + p)) = -1 by rw [show x 6 (sBase x a l + p) = -1 by omega]; rfl)]
      cases b
      · show zif (zI 0 = 0) _ _ = _
        rw [zif_pos (show zI 0 = 0 from rfl)]
        exact ihb
      · show zif (zI 1 = 0) _ _ = _
        rw [zif_neg (by decide)]
        exact iht
    · rw [if_neg h6]
      by_cases hf : zFr x (x 6 (sBase x a l + p))
      · rw [if_pos hf, if_pos (show 0 ≤ x 6 (sBase x a l + p) by omega), zif_neg (by rw [zb_0]; omega)]
      · rw [if_neg hf, zif_pos (by rw [zb_0]; omega)]
        rw [zif_neg (show ¬ zI (x 6 (sBase x a l + p)) = -1 by
          rw [show (-1 : Int32) = zI (-1) from rfl, zI_eq (by omega) (by omega) (by omega) (by omega)]; omega)]
        have e0 : ∀ (A : Option ZS), zif (zI (bif b then 1 else 0) = 0) A A = A := by
          intro A
          by_cases hc : zI (bif b then 1 else 0) = 0
          · rw [zif_pos hc]
          · rw [zif_neg hc]
        rw [e0]
        exact iht
theorem zC_hunt_s (h : zR K x y S) (g : zGp x) (h40 : ∀ e, x 40 e = 0) (n : Nat) (J : Nat) {a l : Int} (hs : zSw x a) (hl : 0 ≤ l ∧ l < 10) :
    zC_hunt (n + 3) J (zI a) (zI l) S =
      if 0 ≤ sGoes x a l then (zC_hold (n + 2) J (zI (sGoes x a l)) (zI 1) S).bind (fun r3 => some r3)
      else some (zu S.1 2 J 3 (zI (if sGoes x a l = -1 then 3 else 4)), S.2) := by
  rw [eC_hunt]
  exact zC_hunt_6_s h g h40 n J hs hl 4 0 false (by omega) (by omega)
theorem xu_comm (x : ZW) {g g' : Nat} (h : g ≠ g') (k k' v v' : Int) : xu (xu x g k v) g' k' v' = xu (xu x g' k' v') g k v := by
  funext a b
  show (if a = g' ∧ b = k' then v' else if a = g ∧ b = k then v else x a b) = (if a = g ∧ b = k then v else if a = g' ∧ b = k' then v' else x a b)
  by_cases h1 : a = g ∧ b = k
  · rw [if_pos h1, if_pos h1, if_neg (fun e => h (h1.1.symm.trans e.1))]
  · rw [if_neg h1, if_neg h1]
theorem xu_xu (x : ZW) (g : Nat) (k v v' : Int) : xu (xu x g k v) g k v' = xu x g k v' := by
  funext a b
  simp only [xu]
  split
  · rfl
  · rfl
theorem xu_id (x : ZW) (g : Nat) (k v : Int) (h : x g k = v) : xu x g k v = x := by
  funext a b
  simp only [xu]
  split
  · rename_i e; rw [e.1, e.2, h]
  · rfl
theorem sN_Ed (x : ZW) (l d s : Int) : xu (sN x l d) 16 l s = xu (sEd (sTk (sNd x l d) l) l d) 16 l s := by
  have e20 : sTk (sNd x l d) l 20 l = x 20 l := by rw [sTk_g _ _ (by decide), sNd_g _ _ _ (by decide)]
  unfold sN sEd
  rw [e20, xu_xu]
  by_cases h0 : x 20 l = 0
  · rw [if_pos h0, if_pos h0, xu_comm (sTk (sNd x l d) l) (show 50 ≠ 20 by decide)]
  · rw [if_neg h0, if_neg h0]
theorem sN_sel (x : ZW) (l d s : Int) (h0 : x 20 l = 0) : xu (xu (xu (sN x l d) 16 l s) 20 l (x 20 l)) 50 l (x 50 l) = xu (sTk (sNd x l d) l) 16 l s := by
  have e20 : sTk (sNd x l d) l 20 l = x 20 l := by rw [sTk_g _ _ (by decide), sNd_g _ _ _ (by decide)]
  have e50 : sTk (sNd x l d) l 50 l = x 50 l := by rw [sTk_g _ _ (by decide), sNd_g _ _ _ (by decide)]
  unfold sN
  rw [if_pos h0, xu_comm _ (show 20 ≠ 16 by decide), xu_xu, xu_comm _ (show 50 ≠ 16 by decide), xu_comm _ (show 50 ≠ 20 by decide), xu_xu, xu_id _ 50, xu_id _ 20]
  · rw [xu_g _ (by decide), e20]
  · rw [xu_g _ (by decide), xu_g _ (by decide), e50]
theorem sN_hold (x : ZW) (l d e s : Int) (h0 : x 20 l = 0) : xu (xu (xu (sHold (sN x l d) l e) 20 l 0) 16 l s) 50 l (x 50 l) = xu (sHold (sTk (sNd x l d) l) l e) 16 l s := by
  have e20 : sTk (sNd x l d) l 20 l = x 20 l := by rw [sTk_g _ _ (by decide), sNd_g _ _ _ (by decide)]
  have e50 : sTk (sNd x l d) l 50 l = x 50 l := by rw [sTk_g _ _ (by decide), sNd_g _ _ _ (by decide)]
  funext g k
  unfold sN sHold
  rw [if_pos h0]
  by_cases h50 : g = 50
  · subst h50
    rw [xu_kk]
    by_cases hk : k = l
    · rw [if_pos hk, hk]
      simp only [xu_g _ (show 50 ≠ 16 by decide), xu_g _ (show 50 ≠ 22 by decide), xu_g _ (show 50 ≠ 23 by decide), xu_g _ (show 50 ≠ 8 by decide)]
      exact e50.symm
    · rw [if_neg hk]
      simp only [xu_g _ (show 50 ≠ 16 by decide), xu_g _ (show 50 ≠ 22 by decide), xu_g _ (show 50 ≠ 23 by decide), xu_g _ (show 50 ≠ 8 by decide), xu_g _ (show 50 ≠ 20 by decide), xu_k _ hk]
  · rw [xu_g _ h50]
    by_cases h20 : g = 20
    · subst h20
      simp [xu]
      by_cases hk : k = l
      · rw [if_pos hk, hk, e20, h0]
      · rw [if_neg hk, if_neg hk]
    · have f : ∀ (z : ZW) k' v, xu z 20 k' v g k = z g k := fun z k' v => xu_g z h20
      have f2 : ∀ (z : ZW) k' v, xu z 50 k' v g k = z g k := fun z k' v => xu_g z h50
      have g22 : (xu (xu (xu (xu (sTk (sNd x l d) l) 50 l d) 20 l (x 20 l + 1)) 8 e l) 23 (120 * l + xu (xu (sTk (sNd x l d) l) 50 l d) 20 l (x 20 l + 1) 22 l) e) 22 l = (xu (xu (sTk (sNd x l d) l) 8 e l) 23 (120 * l + sTk (sNd x l d) l 22 l) e) 22 l := by
        rw [xu_g _ (by decide), xu_g _ (by decide), xu_g _ (by decide), xu_g _ (by decide), xu_g _ (by decide), xu_g _ (by decide)]
      have g22' : xu (xu (sTk (sNd x l d) l) 50 l d) 20 l (x 20 l + 1) 22 l = sTk (sNd x l d) l 22 l := by rw [xu_g _ (by decide), xu_g _ (by decide)]
      rw [g22']
      by_cases h16 : g = 16 ∧ k = l
      · simp only [xu, h16, and_self, if_true]
      · simp only [xu, h16, h20, h50, false_and, if_false]
end CD
