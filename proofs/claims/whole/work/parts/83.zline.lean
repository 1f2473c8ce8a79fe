/-! LINE of both sides -/
theorem zfst_snoc (p : Int → Bool) : ∀ (m : Nat) (k : Int), 0 ≤ k → zfst p (m + 1) k = if zfst p m k < 0 then (bif p (k + m) then k + m else -1) else zfst p m k
  | 0, k, h => by
    show (bif p k then k else -1) = if (-1 : Int) < 0 then (bif p (k + (0 : Nat)) then k + (0 : Nat) else -1) else -1
    rw [if_pos (by decide), show k + ((0 : Nat) : Int) = k by omega]
  | m + 1, k, h => by
    cases hp : p k
    · rw [zfst_n p (m + 1) k hp, zfst_n p m k hp, zfst_snoc p m (k + 1) (by omega), show k + 1 + (m : Int) = k + ((m + 1 : Nat) : Int) by omega]
    · rw [zfst_y p (m + 1) k hp, zfst_y p m k hp, if_neg (by omega)]
theorem zfst_congr (p q : Int → Bool) : ∀ (m : Nat) (k : Int), (∀ i, k ≤ i → i < k + m → p i = q i) → zfst p m k = zfst q m k
  | 0, k, h => rfl
  | m + 1, k, h => by
    have e := h k (by omega) (by omega)
    show (bif p k then k else zfst p m (k + 1)) = bif q k then k else zfst q m (k + 1)
    rw [e, zfst_congr p q m (k + 1) (fun i a b => h i (by omega) (by omega))]
def sAdd (x : ZW) (a b n : Int) : ZW := xu (xu (xu (xu x 12 (x 11 0) a) 13 (x 11 0) b) 14 (x 11 0) n) 11 0 (x 11 0 + 1)
def sLine (x : ZW) (a b n : Int) : Int × ZW := if zSl x a ∧ 0 ≤ b ∧ b < x 2 0 ∧ x 3 b = 1 ∧ 0 ≤ n ∧ n < 100 ∧ zlineOf x b n < 0 ∧ x 11 0 < 40 then (x 11 0, sAdd x a b n) else (-1, x)
theorem zlineOf_add {x : ZW} (g : zGp x) (a b n r m : Int) (h : zlineOf x b n < 0) : zlineOf (sAdd x a b n) r m = if r = b ∧ m = n then x 11 0 else zlineOf x r m := by
  have b11 := zG11 g
  have e11 : sAdd x a b n 11 0 = x 11 0 + 1 := xu_s _ _ _ _
  have e13 : ∀ l, sAdd x a b n 13 l = if l = x 11 0 then b else x 13 l := fun l => by unfold sAdd; rw [xu_g _ (by decide), xu_g _ (by decide), xu_kk, xu_g _ (by decide)]
  have e14 : ∀ l, sAdd x a b n 14 l = if l = x 11 0 then n else x 14 l := fun l => by unfold sAdd; rw [xu_g _ (by decide), xu_kk, xu_g _ (by decide), xu_g _ (by decide)]
  unfold zlineOf
  rw [e11, show (x 11 0 + 1).toNat = (x 11 0).toNat + 1 by omega, zfst_snoc _ _ _ (by omega)]
  have ec : zfst (fun l => decide (sAdd x a b n 13 l = r) && decide (sAdd x a b n 14 l = m)) (x 11 0).toNat 0 = zlineOf x r m := zfst_congr _ _ _ _ (fun i i0 i1 => by
    show (decide (sAdd x a b n 13 i = r) && decide (sAdd x a b n 14 i = m)) = (decide (x 13 i = r) && decide (x 14 i = m))
    rw [e13, e14, if_neg (by omega), if_neg (by omega)])
  rw [ec, show (0 : Int) + (((x 11 0).toNat : Nat) : Int) = x 11 0 by omega]
  show (if zlineOf x r m < 0 then (bif (decide (sAdd x a b n 13 (x 11 0) = r) && decide (sAdd x a b n 14 (x 11 0) = m)) then x 11 0 else -1) else zlineOf x r m) = if r = b ∧ m = n then x 11 0 else zlineOf x r m
  rw [e13, e14, if_pos rfl, if_pos rfl]
  by_cases hrm : r = b ∧ m = n
  · obtain ⟨rfl, rfl⟩ := hrm
    rw [if_pos h, if_pos ⟨rfl, rfl⟩, decide_eq_true rfl, decide_eq_true rfl]
    rfl
  · rw [if_neg hrm]
    by_cases h0 : zlineOf x r m < 0
    · rw [if_pos h0]
      have bz := zlineOf_b g r m
      have : (decide (b = r) && decide (n = m)) = false := by
        rw [Bool.and_eq_false_iff, decide_eq_false_iff_not, decide_eq_false_iff_not]; omega
      rw [this]
      show (-1 : Int) = _
      omega
    · rw [if_neg h0]
def zK3 (K : ZS) : ZS := (K.1, K.2.1, K.2.2.1, K.2.2.2.1, K.2.2.2.2.1 + 3, K.2.2.2.2.2 + 114)
section LN
variable {K : ZS} {x y : ZW} {S : ZS}
/-- S with a line more -/
def zSa (S : ZS) (L a b n : Int) : ZS := (zu (zu (zline S.1 L.toNat (zI L) (zI a)) 21 0 (100 * b + n).toNat (zI L)) 0 0 3 (zI (L + 1)), S.2.1, zu S.2.2.1 20 0 L.toNat (some (2, L.toNat)), S.2.2.2.1 + 1, S.2.2.2.2.1 + 3, S.2.2.2.2.2 + 114)
theorem zR_add (h : zR K x y S) (g : zGp x) (hq : ∀ j, x 11 0 ≤ j → x 15 j = 0) {a b n : Int} (hc : zSl x a ∧ 0 ≤ b ∧ b < x 2 0 ∧ x 3 b = 1 ∧ 0 ≤ n ∧ n < 100 ∧ zlineOf x b n < 0 ∧ x 11 0 < 40) : zR (zK3 K) (sAdd x a b n) y (zSa S (x 11 0) a b n) := by
  have b2 := zG2 g
  have b11 := zG11 g
  have hq := hq (x 11 0) (by omega)
  obtain ⟨h1, h2, h3, h4, h5, h6, h7⟩ := h
  have e11 : sAdd x a b n 11 0 = x 11 0 + 1 := xu_s _ _ _ _
  have n1 : ∀ g, g ≠ 11 → g ≠ 12 → g ≠ 13 → g ≠ 14 → ∀ k, sAdd x a b n g k = x g k := fun g e11 e12 e13 e14 k => by unfold sAdd; rw [xu_g _ e11, xu_g _ e14, xu_g _ e13, xu_g _ e12]
  have e12 : ∀ l, sAdd x a b n 12 l = if l = x 11 0 then a else x 12 l := fun l => by unfold sAdd; rw [xu_g _ (by decide), xu_g _ (by decide), xu_g _ (by decide), xu_kk]
  have z1 : zRt x y (zline S.1 (x 11 0).toNat (zI (x 11 0)) (zI a)) := by
    intro q hq2 k h0 h1'
    have ne : q.2.2.1 ≠ 2 ∧ q.2.2.1 ≠ 29 ∧ q.2.2.1 ≠ 30 := by
      have : ∀ q ∈ zTab, q.2.2.1 ≠ 2 ∧ q.2.2.1 ≠ 29 ∧ q.2.2.1 ≠ 30 := by decide
      exact this q hq2
    refine Eq.trans ?_ (h1 q hq2 k h0 h1')
    unfold zline
    rw [if_neg (fun e => ne.1 e.1), if_neg (fun e => e.1.elim ne.2.1 ne.2.2)]
  have z2 := zRt_t (t := 21) (by decide) (zRt_g (g := 14) (by decide) (zRt_g (g := 13) (by decide) (zRt_g (g := 12) (by decide) z1 (x 11 0) a) (x 11 0) b) (x 11 0) n) 0 (100 * b + n).toNat (zI (x 11 0))
  have z3 := zRt_x (g := 11) (t := 0) (off := 3) (len := 1) (by decide) z2 (k := 0) (x 11 0 + 1) (by decide) (by decide)
  refine ⟨z3, fun j j0 j1 => ?_, fun r m r0 r1 m0 m1 => ?_, ?_, ?_, ?_, h7⟩
  · rw [e11] at j1
    unfold zLC zLA zLQ
    rw [n1 15 (by decide) (by decide) (by decide) (by decide), n1 16 (by decide) (by decide) (by decide) (by decide), n1 17 (by decide) (by decide) (by decide) (by decide), n1 18 (by decide) (by decide) (by decide) (by decide), n1 20 (by decide) (by decide) (by decide) (by decide), n1 21 (by decide) (by decide) (by decide) (by decide), n1 22 (by decide) (by decide) (by decide) (by decide), n1 50 (by decide) (by decide) (by decide) (by decide), e12]
    have n19 : ∀ k, sAdd x a b n 19 k = x 19 k := n1 19 (by decide) (by decide) (by decide) (by decide)
    have n23 : ∀ k, sAdd x a b n 23 k = x 23 k := n1 23 (by decide) (by decide) (by decide) (by decide)
    simp only [n19, n23]
    by_cases hj : j = x 11 0
    · rw [if_pos hj, hj, hq]
      refine ⟨?_, ?_, ?_, ?_, fun e => absurd e (by decide), fun _ => ⟨?_, ?_, ?_, ?_⟩⟩ <;> simp [zSa, zu, zline] <;> rfl
    · rw [if_neg hj]
      have hjn : j.toNat ≠ (x 11 0).toNat := by omega
      have q := h2 j j0 (by omega)
      unfold zLC zLA zLQ at q
      have c2 : ∀ k, (zSa S (x 11 0) a b n).1 2 j.toNat k = S.1 2 j.toNat k := fun k => by simp [zSa, zu, zline, hjn]
      have c29 : ∀ k, (zSa S (x 11 0) a b n).1 29 j.toNat k = S.1 29 j.toNat k := fun k => by simp [zSa, zu, zline, hjn]
      have c30 : ∀ k, (zSa S (x 11 0) a b n).1 30 j.toNat k = S.1 30 j.toNat k := fun k => by simp [zSa, zu, zline, hjn]
      have cD : (zSa S (x 11 0) a b n).2.2.1 20 0 j.toNat = S.2.2.1 20 0 j.toNat := by simp [zSa, zu, hjn]
      simp only [c2, c29, c30, cD]
      exact q
  · rw [zlineOf_add g a b n r m hc.2.2.2.2.2.2.1]
    have e : (zSa S (x 11 0) a b n).1 21 0 (100 * r + m).toNat = if (100 * r + m).toNat = (100 * b + n).toNat then zI (x 11 0) else S.1 21 0 (100 * r + m).toNat := by simp [zSa, zu, zline]
    show (zSa S (x 11 0) a b n).1 21 0 (100 * r + m).toNat = _
    rw [e]
    by_cases hrm : r = b ∧ m = n
    · rw [if_pos hrm, if_pos (by rw [hrm.1, hrm.2])]
    · rw [if_neg hrm, if_neg (by omega)]
      exact h3 r m r0 r1 m0 m1
  · refine ⟨fun t ht i k => ?_, h4.2.1, fun i k => ?_, ?_⟩
    · refine Eq.trans ?_ (h4.1 t ht i k)
      have ne : t ≠ 2 ∧ t ≠ 29 ∧ t ≠ 30 ∧ t ≠ 21 ∧ t ≠ 0 := by
        refine ⟨?_, ?_, ?_, ?_, ?_⟩ <;> (rintro rfl; cases ht)
      simp [zSa, zu, zline, ne]
    · refine Eq.trans ?_ (h4.2.2.1 i k)
      simp [zSa, zu]
    · have := h4.2.2.2
      show (S.2.2.2.2.1 + 3, S.2.2.2.2.2 + 114) = (K.2.2.2.2.1 + 3, K.2.2.2.2.2 + 114)
      rw [this]
  · show S.2.2.2.1 + 1 = _
    rw [e11, h5]
    omega
  · unfold sAdd
    exact zBd_u (zBd_u (zBd_u (zBd_u h6 12 _ (by omega) (by omega)) 13 _ (by omega) (by omega)) 14 _ (by omega) (by omega)) 11 _ (by omega) (by omega)
theorem zX_line_s (h : zR K x y S) (g : zGp x) (hq : ∀ j, x 11 0 ≤ j → x 15 j = 0) (d : Nat) {a b n : Int} (h1 : -2147483648 ≤ a) (h2 : a < 2147483648) (h3 : -2147483648 ≤ b) (h4 : b < 2147483648) (h5 : -2147483648 ≤ n) (h6 : n < 2147483648) :
    zwp (zX_line (d + 3) (zI a) (zI b) (zI n) S) (fun r => r.1 = zI (sLine x a b n).1 ∧ ∃ K', (K' = K ∨ ((x 11 0 < 40 ∧ (sLine x a b n).2 11 0 = x 11 0 + 1) ∧ K' = zK3 K)) ∧ zR K' (sLine x a b n).2 y r.2) := by
  have b2 := zG2 g
  have b11 := zG11 g
  have bl := zlineOf_b g b n
  have hmade := h.2.2.2.2.1
  rw [eX_line, sLine]
  by_cases hc : zSl x a ∧ 0 ≤ b ∧ b < x 2 0 ∧ x 3 b = 1 ∧ 0 ≤ n ∧ n < 100 ∧ zlineOf x b n < 0 ∧ x 11 0 < 40
  · have w := zR_add h g hq hc
    have rn := zRnm h (r := b) (n := n) (by omega) (by omega) (by omega) (by omega)
    rw [show zlineOf x b n = -1 by omega] at rn
    have e1 : b * 100 + n = 100 * b + n := by omega
    have e2 : x 11 0 + 1 - 1 = x 11 0 := by omega
    have ez : ∀ (I : ZMp Int32) (N : Nat) (u v : Int32), zline I N u v 0 0 3 = I 0 0 3 := fun I N u v => by simp [zline]
    rw [if_pos hc]
    refine zwp_mono (P := fun r => r.1 = zI (x 11 0) ∧ r.2 = zSa S (x 11 0) a b n) ?_ (fun r hr => ⟨hr.1, zK3 K, Or.inr ⟨⟨by omega, show sAdd x a b n 11 0 = x 11 0 + 1 from xu_s _ _ _ _⟩, rfl⟩, by rw [hr.2]; exact w⟩)
    simp (contextual := true) (disch := omega) only [zWp, zNum, Int.cast_ofNat_Int, Prod.mk.injEq, and_true, true_and, implies_true, and_self, true_implies, false_implies, not_true_eq_false, not_false_eq_true, and_false, false_and, Int.reduceEq, Int.reduceLT, Int.reduceLE, Int.reduceNeg, Int.reduceAdd, Int.reduceSub, Int.reduceMul, Int.reduceToNat, Nat.reduceEqDiff, cond_true, cond_false, eC_addLine, zP_isRackOf_s h g, zRc11 h, e1, rn, zu_tag, zu_same, ez, e2, zSa, hmade] <;> ((repeat' (first | intro _ | with_reducible apply And.intro)) <;> (first | omega | (exfalso; omega)))
  · rw [if_neg hc]
    refine zwp_mono (P := fun r => r.1 = zI (-1) ∧ r.2 = S) ?_ (fun r hr => ⟨hr.1, K, Or.inl rfl, by rw [hr.2]; exact h⟩)
    have e1 : b * 100 + n = 100 * b + n := by omega
    simp (contextual := true) (disch := omega) only [zWp, zNum, Int.cast_ofNat_Int, Prod.mk.injEq, and_true, true_and, implies_true, and_self, true_implies, false_implies, not_true_eq_false, not_false_eq_true, and_false, false_and, Int.reduceEq, Int.reduceLT, Int.reduceLE, Int.reduceNeg, Int.reduceAdd, Int.reduceSub, Int.reduceMul, Int.reduceToNat, Nat.reduceEqDiff, cond_true, cond_false, eC_addLine, zP_isRackOf_s h g, zRc11 h, e1, zRnm h] <;> ((repeat' (first | intro _ | with_reducible apply And.intro)) <;> (first | omega | (exfalso; omega)))
theorem zM_line_s (h : zR K x y S) (g : zGp y) (d : Nat) {a b n : Int} (h1 : -2147483648 ≤ a) (h2 : a < 2147483648) (h3 : -2147483648 ≤ b) (h4 : b < 2147483648) (h5 : -2147483648 ≤ n) (h6 : n < 2147483648) :
    zwp (zM_line (d + 3) (zI a) (zI b) (zI n) S) (fun r => r.1 = zI (sLine y a b n).1 ∧ zR K x (sLine y a b n).2 r.2) := by
  have b2 := zG2 g
  have b3 := zG3 g b
  have b11 := zG11 g
  have bl := zlineOf_b g b n
  rw [eM_line, sLine]
  have h0 := zR_s h (t := 11) (s := 0) rfl 0 (0 : Int32)
  generalize hS : ((zu S.1 11 0 0 (0 : Int32)), S.2) = S' at h0 ⊢
  have hS1 : zu S.1 11 0 0 (0 : Int32) = S'.1 := by rw [← hS]
  have hS2 : S.2 = S'.2 := by rw [← hS]
  try simp only [hS1, hS2]
  by_cases hc : zSl y a ∧ 0 ≤ b ∧ b < y 2 0 ∧ y 3 b = 1 ∧ 0 ≤ n ∧ n < 100 ∧ zlineOf y b n < 0 ∧ y 11 0 < 40
  · have w := zWm12 h0 (k := y 11 0) (v := a) (by omega) (by omega) (by omega) (by omega)
    have w := zWm13 w (k := y 11 0) (v := b) (by omega) (by omega) (by omega) (by omega)
    have w := zWm14 w (k := y 11 0) (v := n) (by omega) (by omega) (by omega) (by omega)
    have w := zWm11 w (v := y 11 0 + 1) (by omega) (by omega)
    have e2 : y 11 0 + 1 - 1 = y 11 0 := by omega
    rw [if_pos hc]
    unfold sAdd
    simp (contextual := true) (disch := omega) only [zWp, zNum, Int.cast_ofNat_Int, Prod.mk.injEq, and_true, true_and, implies_true, and_self, true_implies, false_implies, not_true_eq_false, not_false_eq_true, and_false, false_and, Int.reduceEq, Int.reduceLT, Int.reduceLE, Int.reduceNeg, Int.reduceAdd, Int.reduceSub, Int.reduceMul, Int.reduceToNat, Nat.reduceEqDiff, cond_true, cond_false, zM_isSelectors_s h0 g, zM_within_s S', zRm2 h0, zRm3 h0, zM_lineOf_s h0 g, zRm11 h0, zu_tag, zu_pl, zu_same, e2, w] <;> ((repeat' (first | intro _ | with_reducible apply And.intro)) <;> (first | omega | (exfalso; omega)))
  · rw [if_neg hc]
    simp (contextual := true) (disch := omega) only [zWp, zNum, Int.cast_ofNat_Int, Prod.mk.injEq, and_true, true_and, implies_true, and_self, true_implies, false_implies, not_true_eq_false, not_false_eq_true, and_false, false_and, Int.reduceEq, Int.reduceLT, Int.reduceLE, Int.reduceNeg, Int.reduceAdd, Int.reduceSub, Int.reduceMul, Int.reduceToNat, Nat.reduceEqDiff, cond_true, cond_false, zM_isSelectors_s h0 g, zM_within_s S', zRm2 h0, zRm3 h0, zM_lineOf_s h0 g, zRm11 h0, h0] <;> ((repeat' (first | intro _ | with_reducible apply And.intro)) <;> (first | omega | (exfalso; omega)))
end LN
