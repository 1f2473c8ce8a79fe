/-! look leaves all but the ints alone -/
section LK
variable {K : ZS} {x y : ZW} {S : ZS}
theorem zM_look_f (h : zR K x y S) (g : zGp y) (hn : ∀ l, zLn y l → y 15 l = 1 → 1 ≤ y 22 l ∧ y 22 l ≤ 97) (d : Nat) {l w : Int} (h1 : -2147483648 ≤ l) (h2 : l < 2147483648) (h3 : -2147483648 ≤ w) (h4 : w < 2147483648) :
    zwp (zM_look (d + 3) (zI l) (zI w) S) (fun r => r.2.2 = S.2) := by
  have b11 := zG11 g
  have b15 := zG15 g l
  rw [eM_look]
  have h0 := zR_s h (t := 11) (s := 0) rfl 0 (0 : Int32)
  generalize hS : ((zu S.1 11 0 0 (0 : Int32)), S.2) = S' at h0 ⊢
  have hS1 : zu S.1 11 0 0 (0 : Int32) = S'.1 := by rw [← hS]
  have hS2 : S.2 = S'.2 := by rw [← hS]
  try simp only [hS1, hS2]
  by_cases hc : zLn y l ∧ 0 ≤ w ∧ w ≤ 5
  · by_cases h0w : w = 0
    · subst h0w
      simp (contextual := true) (disch := omega) only [zWp, zNum, Int.cast_ofNat_Int, Prod.mk.injEq, and_true, true_and, implies_true, and_self, true_implies, false_implies, not_true_eq_false, not_false_eq_true, and_false, false_and, Int.reduceEq, Int.reduceLT, Int.reduceLE, Int.reduceNeg, Int.reduceAdd, Int.reduceSub, Int.reduceMul, Int.reduceToNat, Nat.reduceEqDiff, cond_true, cond_false, zM_isLine_s h0 g, zM_within_s S', zRm15 h0] <;> ((repeat' (first | intro _ | with_reducible apply And.intro)) <;> (first | omega | (exfalso; omega)))
    · by_cases hcl : y 15 l = 1
      · have hn := hn l hc.1 hcl
        rcases (show w = 1 ∨ w = 2 ∨ w = 3 ∨ w = 4 ∨ w = 5 by omega) with e | e | e | e | e <;> subst e
        · simp (contextual := true) (disch := omega) only [zWp, zNum, Int.cast_ofNat_Int, Prod.mk.injEq, and_true, true_and, implies_true, and_self, true_implies, false_implies, not_true_eq_false, not_false_eq_true, and_false, false_and, Int.reduceEq, Int.reduceLT, Int.reduceLE, Int.reduceNeg, Int.reduceAdd, Int.reduceSub, Int.reduceMul, Int.reduceToNat, Nat.reduceEqDiff, cond_true, cond_false, zM_isLine_s h0 g, zM_within_s S', zRm15 h0] <;> ((repeat' (first | intro _ | with_reducible apply And.intro)) <;> (first | omega | (exfalso; omega)))
        · simp (contextual := true) (disch := omega) only [zWp, zNum, Int.cast_ofNat_Int, Prod.mk.injEq, and_true, true_and, implies_true, and_self, true_implies, false_implies, not_true_eq_false, not_false_eq_true, and_false, false_and, Int.reduceEq, Int.reduceLT, Int.reduceLE, Int.reduceNeg, Int.reduceAdd, Int.reduceSub, Int.reduceMul, Int.reduceToNat, Nat.reduceEqDiff, cond_true, cond_false, zM_isLine_s h0 g, zM_within_s S', zRm15 h0, zM_head_s h0] <;> ((repeat' (first | intro _ | with_reducible apply And.intro)) <;> (first | omega | (exfalso; omega)))
        · simp (contextual := true) (disch := omega) only [zWp, zNum, Int.cast_ofNat_Int, Prod.mk.injEq, and_true, true_and, implies_true, and_self, true_implies, false_implies, not_true_eq_false, not_false_eq_true, and_false, false_and, Int.reduceEq, Int.reduceLT, Int.reduceLE, Int.reduceNeg, Int.reduceAdd, Int.reduceSub, Int.reduceMul, Int.reduceToNat, Nat.reduceEqDiff, cond_true, cond_false, zM_isLine_s h0 g, zM_within_s S', zRm15 h0] <;> ((repeat' (first | intro _ | with_reducible apply And.intro)) <;> (first | omega | (exfalso; omega)))
        · simp (contextual := true) (disch := omega) only [zWp, zNum, Int.cast_ofNat_Int, Prod.mk.injEq, and_true, true_and, implies_true, and_self, true_implies, false_implies, not_true_eq_false, not_false_eq_true, and_false, false_and, Int.reduceEq, Int.reduceLT, Int.reduceLE, Int.reduceNeg, Int.reduceAdd, Int.reduceSub, Int.reduceMul, Int.reduceToNat, Nat.reduceEqDiff, cond_true, cond_false, zM_isLine_s h0 g, zM_within_s S', zRm15 h0] <;> ((repeat' (first | intro _ | with_reducible apply And.intro)) <;> (first | omega | (exfalso; omega)))
        · simp (contextual := true) (disch := omega) only [zWp, zNum, Int.cast_ofNat_Int, Prod.mk.injEq, and_true, true_and, implies_true, and_self, true_implies, false_implies, not_true_eq_false, not_false_eq_true, and_false, false_and, Int.reduceEq, Int.reduceLT, Int.reduceLE, Int.reduceNeg, Int.reduceAdd, Int.reduceSub, Int.reduceMul, Int.reduceToNat, Nat.reduceEqDiff, cond_true, cond_false, zM_isLine_s h0 g, zM_within_s S', zRm15 h0] <;> ((repeat' (first | intro _ | with_reducible apply And.intro)) <;> (first | omega | (exfalso; omega)))
      · simp (contextual := true) (disch := omega) only [zWp, zNum, Int.cast_ofNat_Int, Prod.mk.injEq, and_true, true_and, implies_true, and_self, true_implies, false_implies, not_true_eq_false, not_false_eq_true, and_false, false_and, Int.reduceEq, Int.reduceLT, Int.reduceLE, Int.reduceNeg, Int.reduceAdd, Int.reduceSub, Int.reduceMul, Int.reduceToNat, Nat.reduceEqDiff, cond_true, cond_false, zM_isLine_s h0 g, zM_within_s S', zRm15 h0] <;> ((repeat' (first | intro _ | with_reducible apply And.intro)) <;> (first | omega | (exfalso; omega)))
  · simp (contextual := true) (disch := omega) only [zWp, zNum, Int.cast_ofNat_Int, Prod.mk.injEq, and_true, true_and, implies_true, and_self, true_implies, false_implies, not_true_eq_false, not_false_eq_true, and_false, false_and, Int.reduceEq, Int.reduceLT, Int.reduceLE, Int.reduceNeg, Int.reduceAdd, Int.reduceSub, Int.reduceMul, Int.reduceToNat, Nat.reduceEqDiff, cond_true, cond_false, zM_isLine_s h0 g, zM_within_s S'] <;> ((repeat' (first | intro _ | with_reducible apply And.intro)) <;> (first | omega | (exfalso; omega)))
end LK
section FN
variable {L : List Nat} {x z w : ZW}
/-- the fields of lines, calls, books, zones, faults: the ones that neither tests, nor tariffs, nor the shape of the plant ask for -/
def zLg : List Nat := [1, 7, 8, 9, 10, 12, 13, 14, 15, 16, 17, 18, 19, 20, 21, 22, 23, 24, 25, 26, 27, 28, 29, 30, 31, 32, 50]
theorem zFn_hold (h : zFm zLg x z) (l e : Int) : zFm zLg x (sHold z l e) := by
  unfold sHold
  repeat refine zFm_u ?_ (by decide) _ _
  exact h
theorem zFn_lift0 (h : zFm zLg x z) (l : Int) : zFm zLg x (sLift0 z l) := by
  unfold sLift0
  repeat refine zFm_u ?_ (by decide) _ _
  exact h
theorem zFn_lift (x : ZW) (l : Int) : zFm zLg x (sLift x l).2 := by
  unfold sLift
  split
  · split
    · exact zFm_r _ _
    · exact zFm_u (zFn_hold (zFn_lift0 (zFm_r _ _) l) l _) (by decide) _ _
  · exact zFm_r _ _
theorem zFn_tk (h : zFm zLg x z) (l : Int) : zFm zLg x (sTk z l) := zFm_u h (by decide) _ _
theorem zFn_nd (h : zFm zLg x z) (l d : Int) : zFm zLg x (sNd z l d) := by
  unfold sNd
  split
  · exact zFm_u h (by decide) _ _
  · exact h
theorem zFn_ed (h : zFm zLg x z) (l d : Int) : zFm zLg x (sEd z l d) := by
  unfold sEd
  refine zFm_u ?_ (by decide) _ _
  split
  · exact zFm_u (zFm_u h (by decide) _ _) (by decide) _ _
  · exact zFm_u h (by decide) _ _
theorem zFn_fin (h : zFm zLg x z) (l o : Int) : zFm zLg x (sFin z l o) := by
  unfold sFin
  split
  · exact zFm_u h (by decide) _ _
  · split
    · exact zFm_u (zFm_u (zFm_u h (by decide) _ _) (by decide) _ _) (by decide) _ _
    · exact zFm_u h (by decide) _ _
theorem zFn_sel (h : zFm zLg x z) (l e : Int) : zFm zLg x (sSel z l e) := by
  unfold sSel
  refine zFm_u ?_ (by decide) _ _
  split
  · exact zFn_hold h l e
  · exact h
theorem zFn_step (x : ZW) (l d : Int) : zFm zLg x (sStep x l d) := by
  have h := zFn_tk (zFn_nd (zFm_r zLg x) l d) l
  have h1 := zFn_ed h l d
  unfold sStep
  split
  · split
    · unfold sJun
      split
      · exact zFm_u h1 (by decide) _ _
      · exact h1
    · split
      · exact h1
      · exact zFn_fin h1 l _
  · exact zFn_sel h l _
theorem zFn_dial (x : ZW) (l d : Int) : zFm zLg x (sDial x l d).2 := by
  unfold sDial
  split
  · split
    · exact zFn_step x l d
    · exact zFm_r _ _
  · exact zFm_r _ _
theorem zFn_seconds (x : ZW) (n : Int) : zFm zLg x (sSeconds x n).2 := by
  unfold sSeconds
  split
  · exact zFm_u (zFm_r _ _) (by decide) _ _
  · exact zFm_r _ _
theorem zFn_zone (x : ZW) (a b : Int) : zFm zLg x (sZone x a b).2 := by
  unfold sZone
  split
  · exact zFm_u (zFm_r _ _) (by decide) _ _
  · exact zFm_r _ _
theorem zFn_out (x : ZW) (a b : Int) : zFm zLg x (sOut x a b).2 := by
  unfold sOut
  split
  · exact zFm_u (zFm_r _ _) (by decide) _ _
  · exact zFm_r _ _
theorem zFn_faulty (x : ZW) (a b : Int) : zFm zLg x (sFaulty x a b).2 := by
  unfold sFaulty
  split
  · exact zFm_u (zFm_r _ _) (by decide) _ _
  · exact zFm_r _ _
theorem zFn_answer (x : ZW) (l : Int) : zFm zLg x (sAnswer x l).2 := by
  unfold sAnswer
  split
  · exact zFm_u (zFm_u (zFm_r _ _) (by decide) _ _) (by decide) _ _
  · exact zFm_r _ _
theorem zFn_word (x : ZW) (c u : Int) : zFm zLg x (sWord x c u).2 := by
  unfold sWord
  split
  · exact zFm_u (zFm_u (zFm_u (zFm_u (zFm_r _ _) (by decide) _ _) (by decide) _ _) (by decide) _ _) (by decide) _ _
  · exact zFm_r _ _
theorem zFn_write (x : ZW) (l u : Int) : zFm zLg x (sWrite x l u) := by
  unfold sWrite
  split
  · exact zFm_u (zFm_u (zFm_u (zFm_u (zFm_u (zFm_r _ _) (by decide) _ _) (by decide) _ _) (by decide) _ _) (by decide) _ _) (by decide) _ _
  · exact zFm_r _ _
theorem zFn_free (h : zFm zLg x z) (l : Int) : ∀ n : Nat, zFm zLg x (sFreeN z l n)
  | 0 => h
  | n + 1 => zFm_u (zFn_free h l n) (by decide) _ _
theorem zFn_rel (h : zFm zLg x z) (l : Int) : zFm zLg x (sRel z l) := by
  unfold sRel
  refine zFm_u ?_ (by decide) _ _
  split
  · exact zFm_u (zFn_free h l _) (by decide) _ _
  · exact zFm_u (zFm_u (zFn_free h l _) (by decide) _ _) (by decide) _ _
theorem zFn_end (x : ZW) (l u : Int) : zFm zLg x (sEnd x l u).2 := by
  unfold sEnd
  split
  · split
    · exact zFn_rel (zFn_write x l u) l
    · exact zFn_rel (zFm_r _ _) l
  · exact zFm_r _ _
end FN
/-! THE LAW'S LOOP: what holds between calls -/
def zInv (W : Nat → Nat → Int32) (x : ZW) (K : ZS) (T : Nat) : Prop := (zGd x ∧ zGb x) ∧ ((∀ e, x 40 e = 0) ∧ (∀ j, x 41 j = 0)) ∧ (0 ≤ x 35 0 ∧ x 35 0 ≤ 60) ∧ zTq x ∧ (zTC x K ∧ zTf x K ∧ zGO x) ∧ K.1 16 = W ∧ (K.2.2.2.2.1 ≤ 123 + 3 * (x 11 0).toNat + T ∧ K.2.2.2.2.2 ≤ 25826 + 114 * (x 11 0).toNat + 8 * T)
section IV
variable {W : Nat → Nat → Int32} {x x' : ZW} {K K' : ZS} {T : Nat}
theorem zInv_r (h : zInv W x K T) : zInv W x K (T + 1) := by
  obtain ⟨a, b, c, e, f, g, k1, k2⟩ := h
  exact ⟨a, b, c, e, f, g, by omega, by omega⟩
theorem zLg_t (f : zFm zLg x x') : ∀ g, 42 ≤ g → g ≤ 49 → x' g = x g := by
  intro g a b
  have : g = 42 ∨ g = 43 ∨ g = 44 ∨ g = 45 ∨ g = 46 ∨ g = 47 ∨ g = 48 ∨ g = 49 := by omega
  rcases this with rfl | rfl | rfl | rfl | rfl | rfl | rfl | rfl <;> exact f _ (by decide)
theorem zInv_L (h : zInv W x K T) (f : zFm zLg x x') (gd : zGd x') (gb : zGb x') : zInv W x' K (T + 1) := by
  obtain ⟨a, ⟨b1, b2⟩, c, e, ⟨f1, f2, f3⟩, g, k1, k2⟩ := h
  have e11 := f 11 (by decide)
  refine ⟨⟨gd, gb⟩, ⟨?_, ?_⟩, ?_, zTq_f e f (by decide) (by decide), ⟨zTC_f f1 f (by decide) (by decide) (by decide) (by decide) (by decide), zTf_x f2 (zLg_t f), zGO_f f3 f (by decide) (by decide) (by decide)⟩, g, ?_, ?_⟩
  · rw [f 40 (by decide)]; exact b1
  · rw [f 41 (by decide)]; exact b2
  · rw [f 35 (by decide)]; exact c
  · rw [e11]; omega
  · rw [e11]; omega
theorem zGb_L (h : zGb x) {L : List Nat} (f : zFm L x x') (hL : ∀ g ∈ L, g < 24 ∨ 32 < g) : zGb x' := zGb_c (fun g a b => f g (fun e => by have := hL g e; omega)) h
theorem zGd_L (h : zGd x) {L : List Nat} (f : zFm L x x') (hL : ∀ g ∈ L, 24 ≤ g ∧ g ≠ 50) : zGd x' := zGd_c (fun g a => f g (fun e => by have := hL g e; omega)) h
theorem zSW {y : ZW} {S : ZS} (h : zR K x y S) (e : K.1 16 = W) : S.1 16 = W := by
  funext i k
  rw [← e]
  exact h.2.2.2.1.1 16 rfl i k
theorem zHn (g : zGd x) : ∀ l, zLn x l → x 15 l = 1 → 1 ≤ x 22 l ∧ x 22 l ≤ 97 := fun l a b => (zCl_e g a b).1
theorem zInv_seconds (h : zInv W x K T) (a : Int) : zInv W (sSeconds x a).2 K (T + 1) := by
  refine zInv_L h (zFn_seconds x a) (zGd_seconds h.1.1 a) (zGb_c (fun g b c => ?_) h.1.2)
  unfold sSeconds
  split
  · funext k
    exact xu_g x (by omega)
  · rfl
theorem zInv_zone (h : zInv W x K T) (a b : Int) : zInv W (sZone x a b).2 K (T + 1) := by
  refine zInv_L h (zFn_zone x a b) (zGd_zone h.1.1 a b) (zGb_c (fun g b c => ?_) h.1.2)
  unfold sZone
  split
  · funext k
    exact xu_g x (by omega)
  · rfl
theorem zInv_out (h : zInv W x K T) (a b : Int) (hb : b = 0 ∨ b = 1) : zInv W (sOut x a b).2 K (T + 1) := by
  refine zInv_L h (zFn_out x a b) (zGd_out h.1.1 a b hb) (zGb_c (fun g b c => ?_) h.1.2)
  unfold sOut
  split
  · funext k
    exact xu_g x (by omega)
  · rfl
theorem zInv_faulty (h : zInv W x K T) (a b : Int) (hb : b = 0 ∨ b = 1) : zInv W (sFaulty x a b).2 K (T + 1) := by
  refine zInv_L h (zFn_faulty x a b) (zGd_faulty h.1.1 a b hb) (zGb_c (fun g b c => ?_) h.1.2)
  unfold sFaulty
  split
  · funext k
    exact xu_g x (by omega)
  · rfl
theorem zInv_answer (h : zInv W x K T) (a : Int) : zInv W (sAnswer x a).2 K (T + 1) := by
  refine zInv_L h (zFn_answer x a) (zGd_answer h.1.1 a) (zGb_c (fun g b c => ?_) h.1.2)
  unfold sAnswer
  split
  · funext k
    exact (xu_g _ (by omega)).trans (xu_g x (by omega))
  · rfl
theorem zInv_word (h : zInv W x K T) (a b : Int) : zInv W (sWord x a b).2 K (T + 1) := by
  refine zInv_L h (zFn_word x a b) (zGd_c (fun g c => ?_) h.1.1) (zGb_word h.1.2 h.1.1.1 a b)
  unfold sWord
  split
  · funext k
    exact (xu_g _ (by omega)).trans ((xu_g _ (by omega)).trans ((xu_g _ (by omega)).trans (xu_g x (by omega))))
  · rfl
theorem zInv_end (h : zInv W x K T) (l u : Int) : zInv W (sEnd x l u).2 K (T + 1) := zInv_L h (zFn_end x l u) (zGd_end h.1.1 l u) (zGb_end h.1.2 h.1.1 l u)
/-- books are kept by fields of lines and calls alone -/
theorem zFk_lift (x : ZW) (l : Int) : ∀ g, 24 ≤ g → g ≤ 32 → (sLift x l).2 g = x g := by
  intro g a b
  funext k
  unfold sLift
  split
  · split
    · rfl
    · unfold sLiftTo sHold sLift0
      dsimp only
      repeat rw [xu_g _ (by omega)]
  · rfl
theorem zFk_dial (x : ZW) (l d : Int) : ∀ g, 24 ≤ g → g ≤ 32 → (sDial x l d).2 g = x g := by
  intro g a b
  have n1 : ∀ z : ZW, (sNd z l d) g = z g := fun z => by
    unfold sNd
    split
    · funext k
      exact xu_g _ (by omega)
    · rfl
  have n2 : ∀ z : ZW, (sTk z l) g = z g := fun z => by
    funext k
    exact xu_g _ (by omega)
  have n3 : ∀ z : ZW, (sEd z l d) g = z g := fun z => by
    unfold sEd
    funext k
    split
    · exact (xu_g _ (by omega)).trans ((xu_g _ (by omega)).trans (xu_g _ (by omega)))
    · exact (xu_g _ (by omega)).trans (xu_g _ (by omega))
  have n4 : ∀ (z : ZW) (e : Int), (sHold z l e) g = z g := fun z e => by
    unfold sHold
    funext k
    repeat rw [xu_g _ (by omega)]
  unfold sDial
  split
  · split
    · dsimp only
      unfold sStep
      split
      · split
        · unfold sJun
          split
          · funext k
            rw [xu_g _ (by omega), n3, n2, n1]
          · rw [n3, n2, n1]
        · split
          · rw [n3, n2, n1]
          · unfold sFin
            split
            · funext k
              rw [xu_g _ (by omega), n3, n2, n1]
            · split
              · funext k
                rw [xu_g _ (by omega), xu_g _ (by omega), xu_g _ (by omega), n3, n2, n1]
              · funext k
                rw [xu_g _ (by omega), n3, n2, n1]
      · unfold sSel
        funext k
        rw [xu_g _ (by omega)]
        split
        · rw [n4, n2, n1]
        · rw [n2, n1]
    · rfl
  · rfl
theorem zGd_lft (h : zGd x) (l : Int) : zGd (sLift x l).2 := by
  unfold sLift
  split
  · rename_i hc
    split
    · exact h
    · rename_i hf
      have hsel := (zGln h.1 hc.1.1 hc.1.2).1
      obtain ⟨h1, h2⟩ := sFF_sw h.1 hsel hf
      exact zGd_lift h hc.1 hc.2 h1 h2
  · exact h
theorem zGd_dl (h : zGd x) (l d : Int) : zGd (sDial x l d).2 := by
  unfold sDial
  split
  · rename_i hc
    split
    · rename_i h16
      exact zGd_dial h hc.1 hc.2.1 h16 hc.2.2
    · exact h
  · exact h
theorem zInv_lift (h : zInv W x K T) (l : Int) : zInv W (sLift x l).2 K (T + 1) := zInv_L h (zFn_lift x l) (zGd_lft h.1.1 l) (zGb_c (zFk_lift x l) h.1.2)
theorem zInv_dial (h : zInv W x K T) (l d : Int) : zInv W (sDial x l d).2 K (T + 1) := zInv_L h (zFn_dial x l d) (zGd_dl h.1.1 l d) (zGb_c (zFk_dial x l d) h.1.2)
/-- a rack -/
theorem zInv_rack (h : zInv W x K T) (a b c : Int) : zInv W (sRack x a b c).2 K (T + 1) := by
  obtain ⟨⟨g1, g2⟩, ⟨b1, b2⟩, c0, e, ⟨f1, f2, f3⟩, g, k1, k2⟩ := h
  have f := zFm_rack x a b c
  have e11 := f 11 (by decide)
  refine ⟨⟨zGd_rack g1 a b c, zGb_L g2 f (by decide)⟩, ⟨?_, ?_⟩, ?_, zTq_f e f (by decide) (by decide), ⟨zTC_rack f1 g1.1 a b c, zTf_x f2 (fun g p q => f g (fun z => by simp at z; omega)), zGO_rack f3 a b c⟩, g, ?_, ?_⟩
  · rw [f 40 (by decide)]; exact b1
  · rw [f 41 (by decide)]; exact b2
  · rw [f 35 (by decide)]; exact c0
  · rw [e11]; omega
  · rw [e11]; omega
theorem zInv_outlet (h : zInv W x K T) (r s l p e' : Int) : zInv W (sOutlet x r s l p e').2 K (T + 1) := by
  obtain ⟨⟨g1, g2⟩, ⟨b1, b2⟩, c0, e, ⟨f1, f2, f3⟩, g, k1, k2⟩ := h
  have f := zFm_outlet x r s l p e'
  have e11 := f 11 (by decide)
  refine ⟨⟨zGd_outlet g1 r s l p e', zGb_L g2 f (by decide)⟩, ⟨?_, ?_⟩, ?_, zTq_f e f (by decide) (by decide), ⟨zTC_f f1 f (by decide) (by decide) (by decide) (by decide) (by decide), zTf_x f2 (fun g p q => f g (fun z => by simp at z; omega)), zGO_outlet f3 g1.1 r s l p e'⟩, g, ?_, ?_⟩
  · rw [f 40 (by decide)]; exact b1
  · rw [f 41 (by decide)]; exact b2
  · rw [f 35 (by decide)]; exact c0
  · rw [e11]; omega
  · rw [e11]; omega
/-- a line -/
theorem zInv_line (h : zInv W x K T) (a b n : Int) (hK : K' = K ∨ ((x 11 0 < 40 ∧ (sLine x a b n).2 11 0 = x 11 0 + 1) ∧ K' = zK3 K)) : zInv W (sLine x a b n).2 K' (T + 1) := by
  obtain ⟨⟨g1, g2⟩, ⟨b1, b2⟩, c0, e, ⟨f1, f2, f3⟩, g, k1, k2⟩ := h
  have f := zFm_line x a b n
  have b11 := zG11 g1.1
  have f42 : ∀ g, 42 ≤ g → g ≤ 49 → (sLine x a b n).2 g = x g := by
    intro g a' b'
    have : g = 42 ∨ g = 43 ∨ g = 44 ∨ g = 45 ∨ g = 46 ∨ g = 47 ∨ g = 48 ∨ g = 49 := by omega
    rcases this with rfl | rfl | rfl | rfl | rfl | rfl | rfl | rfl <;> exact f _ (by decide)
  have gb : zGb (sLine x a b n).2 := by
    refine zGb_c (fun g p q => ?_) g2
    unfold sLine sAdd
    split
    · funext k
      exact (xu_g _ (by omega)).trans ((xu_g _ (by omega)).trans ((xu_g _ (by omega)).trans (xu_g x (by omega))))
    · rfl
  have tc := zTC_f f1 f (by decide) (by decide) (by decide) (by decide) (by decide)
  have tf := zTf_x f2 f42
  have go := zGO_f f3 f (by decide) (by decide) (by decide)
  have l11 : (sLine x a b n).2 11 0 = x 11 0 ∨ (sLine x a b n).2 11 0 = x 11 0 + 1 := by
    unfold sLine sAdd
    split
    · exact Or.inr (xu_s (xu (xu (xu x 12 (x 11 0) a) 13 (x 11 0) b) 14 (x 11 0) n) 11 0 (x 11 0 + 1))
    · exact Or.inl rfl
  have tq := zTq_f e f (by decide) (by decide)
  have c40 : ∀ e, (sLine x a b n).2 40 e = 0 := by rw [f 40 (by decide)]; exact b1
  have c41 : ∀ e, (sLine x a b n).2 41 e = 0 := by rw [f 41 (by decide)]; exact b2
  have c35 : 0 ≤ (sLine x a b n).2 35 0 ∧ (sLine x a b n).2 35 0 ≤ 60 := by rw [f 35 (by decide)]; exact c0
  rcases hK with rfl | ⟨⟨q1, q2⟩, rfl⟩
  · exact ⟨⟨zGd_line g1 a b n, gb⟩, ⟨c40, c41⟩, c35, tq, ⟨tc, tf, go⟩, g, by omega, by omega⟩
  · refine ⟨⟨zGd_line g1 a b n, gb⟩, ⟨c40, c41⟩, c35, tq, ⟨tc, tf, go⟩, g, ?_, ?_⟩
    · show K.2.2.2.2.1 + 3 ≤ _
      omega
    · show K.2.2.2.2.2 + 114 ≤ _
      omega
theorem zInv_feed (h : zInv W x K T) (a b c : Int64) : zInv W (sFeed x a b c).2 K (T + 1) := by
  obtain ⟨⟨g1, g2⟩, ⟨b1, b2⟩, c0, e, ⟨f1, f2, f3⟩, g, k1, k2⟩ := h
  have f := zFm_feed x a b c
  have e11 := f 11 (by decide)
  refine ⟨⟨zGd_L g1 f (by decide), zGb_L g2 f (by decide)⟩, ⟨?_, ?_⟩, ?_, zTq_feed e a b c, ⟨zTC_f f1 f (by decide) (by decide) (by decide) (by decide) (by decide), zTf_x f2 (fun g p q => f g (fun z => by simp at z; omega)), zGO_f f3 f (by decide) (by decide) (by decide)⟩, g, ?_, ?_⟩
  · rw [f 40 (by decide)]; exact b1
  · rw [f 41 (by decide)]; exact b2
  · rw [f 35 (by decide)]; exact c0
  · rw [e11]; omega
  · rw [e11]; omega
theorem zInv_forget (h : zInv W x K T) : zInv W (sForget x).2 K (T + 1) := by
  obtain ⟨⟨g1, g2⟩, ⟨b1, b2⟩, c0, e, ⟨f1, f2, f3⟩, g, k1, k2⟩ := h
  have f := zFm_forget x
  have e11 := f 11 (by decide)
  refine ⟨⟨zGd_L g1 f (by decide), zGb_L g2 f (by decide)⟩, ⟨?_, ?_⟩, ?_, zTq_f e f (by decide) (by decide), ⟨zTC_forget x K, zTf_x f2 (fun g p q => f g (fun z => by simp at z; omega)), zGO_f f3 f (by decide) (by decide) (by decide)⟩, g, ?_, ?_⟩
  · rw [f 40 (by decide)]; exact b1
  · rw [f 41 (by decide)]; exact b2
  · have : (sForget x).2 35 0 = 0 := xu_s x 35 0 0
    omega
  · rw [e11]; omega
  · rw [e11]; omega
theorem zInv_test (h : zInv W x K T) (l v m : Int) (kz : zKz K K') (tc : zTC (sTest x l v m).2 K') : zInv W (sTest x l v m).2 K' (T + 1) := by
  obtain ⟨⟨g1, g2⟩, ⟨b1, b2⟩, c0, e, ⟨f1, f2, f3⟩, g, k1, k2⟩ := h
  have f := zFm_test x l v m
  have e11 := f 11 (by decide)
  have e35 : 0 ≤ (sTest x l v m).2 35 0 ∧ (sTest x l v m).2 35 0 ≤ 60 := by
    unfold sTest
    split
    · split
      · rename_i q
        dsimp only
        rw [s37_g _ _ _ (by decide), xu_s]
        omega
      · exact c0
    · exact c0
  refine ⟨⟨zGd_L g1 f (by decide), zGb_L g2 f (by decide)⟩, ⟨?_, ?_⟩, e35, zTq_f e f (by decide) (by decide), ⟨tc, zTf_K (zTf_x f2 (fun g p q => f g (fun z => by simp at z; omega))) (fun t ht => kz.1 t (by omega) (by omega)) (fun k => by rw [kz.2]), zGO_f f3 f (by decide) (by decide) (by decide)⟩, (kz.1 16 (by decide) (by decide)).trans g, ?_, ?_⟩
  · rw [f 40 (by decide)]; exact b1
  · rw [f 41 (by decide)]; exact b2
  · rw [e11, kz.2]; omega
  · rw [e11, kz.2]; omega
theorem zInv_tariff (h : zInv W x K T) (tf : zTf x' K') (e : ∀ g, g ≠ 33 → ¬ (42 ≤ g ∧ g ≤ 49) → x' g = x g) (e33 : x' 33 0 = 0) (ek : ∀ t, t = 16 ∨ t = 50 ∨ t = 51 → K'.1 t = K.1 t) (ec : K'.2.2.2.2 = K.2.2.2.2) : zInv W x' K' (T + 1) := by
  obtain ⟨⟨g1, g2⟩, ⟨b1, b2⟩, c0, e0, ⟨f1, f2, f3⟩, g, k1, k2⟩ := h
  have tc : zTC x' K' := by
    unfold zTC zSw at f1 ⊢
    rw [e 2 (by decide) (by decide), e 4 (by decide) (by decide), e 35 (by decide) (by decide), e 36 (by decide) (by decide), e 37 (by decide) (by decide), ek 50 (by decide), ek 51 (by decide)]
    exact f1
  have go : zGO x' := by
    unfold zGO zGo at f3 ⊢
    rw [e 2 (by decide) (by decide), e 5 (by decide) (by decide), e 6 (by decide) (by decide)]
    exact f3
  refine ⟨⟨zGd_c (fun g p => e g (by omega) (by omega)) g1, zGb_c (fun g p q => e g (by omega) (by omega)) g2⟩, ⟨?_, ?_⟩, ?_, ⟨by omega, fun i p q => by omega⟩, ⟨tc, tf, go⟩, (ek 16 (by decide)).trans g, ?_, ?_⟩
  · rw [e 40 (by decide) (by decide)]; exact b1
  · rw [e 41 (by decide) (by decide)]; exact b2
  · rw [e 35 (by decide) (by decide)]; exact c0
  · rw [ec, e 11 (by decide) (by decide)]; omega
  · rw [ec, e 11 (by decide) (by decide)]; omega
end IV
