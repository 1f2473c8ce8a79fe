/-! LAID: the class's wishes -/
/-- the cells of a wish -/
def zWs (S : ZS) (w : Nat) (l hm g m : Int) (dg : Int → Int) : Prop := S.1 9 w 0 = zI l ∧ S.1 9 w 1 = zI hm ∧ S.1 9 w 2 = zI g ∧ S.1 9 w 3 = zI m ∧ ∀ i : Int, 0 ≤ i → i < m → S.1 58 w i.toNat = zI (dg i)
/-- bounds of a wish -/
def zWb (x : ZW) (l hm g m : Int) (dg : Int → Int) : Prop := (0 ≤ l ∧ l < 40) ∧ (zSl x hm ∧ hm < 12) ∧ (-2 ≤ g ∧ g < 40) ∧ (0 ≤ m ∧ m ≤ 5) ∧ ∀ i, 0 ≤ dg i ∧ dg i ≤ 9
/-- the states differ in what holds ends alone -/
def zO9 (S S' : ZS) : Prop := S'.2 = S.2 ∧ ∀ t, t ≠ 39 → S'.1 t = S.1 t
def zO8 (x x' : ZW) : Prop := ∀ g, g ≠ 8 → x' g = x g
theorem zO8_r (x : ZW) : zO8 x x := fun _ _ => rfl
theorem zO9_r (S : ZS) : zO9 S S := ⟨rfl, fun _ _ => rfl⟩
theorem zO8_u {x x' : ZW} (h : zO8 x x') (k v : Int) : zO8 x (xu x' 8 k v) := fun g hg => by
  funext k'
  rw [xu_g x' hg, h g hg]
theorem zO9_u {S S' : ZS} (h : zO9 S S') (k : Nat) (v : Int32) : zO9 S (zu S'.1 39 0 k v, S'.2) := ⟨h.1, fun t ht => by
  funext i k'
  exact (zu_tag S'.1 ht).trans (congrFun (congrFun (h.2 t ht) i) k')⟩
theorem zWs_9 {S S' : ZS} (o : zO9 S S') {w : Nat} {l hm g m : Int} {dg : Int → Int} (h : zWs S w l hm g m dg) : zWs S' w l hm g m dg := by
  unfold zWs at h ⊢
  rw [o.2 9 (by decide), o.2 58 (by decide)]
  exact h
theorem zbT {P : Prop} (S : ZS) (h : P) : some ((1 : Int32), S) = some (zb P, S) := by rw [zb_t h]
theorem zbF {P : Prop} (S : ZS) (h : ¬ P) : some ((0 : Int32), S) = some (zb P, S) := by rw [zb_f h]
section WI
variable {K : ZS} {x y : ZW} {S : ZS}
theorem zW_ringsOverJunction_s (d : Nat) {w : Nat} {l hm g m : Int} {dg : Int → Int} (hw : zWs S w l hm g m dg) (b : zWb x l hm g m dg) {k : Int} (hk : 0 ≤ k ∧ k < 100) : zW_ringsOverJunction (d + 1) w (zI k) S = some (zb (3 ≤ m - k ∧ g < 0), S) := by
  obtain ⟨b1, b2, b3, b4, b5⟩ := b
  refine zwp_eq ?_
  rw [eW_ringsOverJunction, hw.2.2.1, hw.2.2.2.1]
  simp (contextual := true) (disch := omega) only [zWp, zNum, Int.cast_ofNat_Int, Prod.mk.injEq, and_true, true_and, implies_true, and_self, true_implies, false_implies, not_true_eq_false, not_false_eq_true, and_false, false_and, Int.reduceEq, Int.reduceLT, Int.reduceLE, Int.reduceNeg, Int.reduceAdd, Int.reduceSub, Int.reduceMul, Int.reduceToNat, Nat.reduceEqDiff, cond_true, cond_false] <;> ((repeat' (first | intro _ | with_reducible apply And.intro)) <;> (first | omega | (exfalso; omega)))
theorem zW_ringsAtFinal_s (h : zR K x y S) (gp : zGp x) (d : Nat) {w : Nat} {l hm g m : Int} {dg : Int → Int} (hw : zWs S w l hm g m dg) (b : zWb x l hm g m dg) {k e : Int} (hk : 0 ≤ k ∧ k < 100) (he : 0 ≤ e ∧ e < 96) :
    zW_ringsAtFinal (d + 2) w (zI e) (zI k) S = some (zb (2 ≤ m - k ∧ 0 ≤ zlineOf x (e / 8) (10 * dg k + dg (k + 1)) ∧ ((g = -2 ∧ zlineOf x (e / 8) (10 * dg k + dg (k + 1)) ≠ l ∧ x 15 (zlineOf x (e / 8) (10 * dg k + dg (k + 1))) = 0) ∨ (g ≠ -2 ∧ zlineOf x (e / 8) (10 * dg k + dg (k + 1)) = g))), S) := by
  obtain ⟨b1, b2, b3, b4, b5⟩ := b
  have bk := b5 k
  have bk1 := b5 (k + 1)
  have b11 := zG11 gp
  have bl := zlineOf_b gp (e / 8) (10 * dg k + dg (k + 1))
  rw [eW_ringsAtFinal, hw.2.2.2.1, zI_sub, zI_n2, zI_le (by omega) (by omega) (by omega) (by omega)]
  by_cases h2 : 2 ≤ m - k
  · rw [zif_pos h2, zg_t (by rw [zI_in (by omega) (by omega)]; omega), zI_n1, zI_add, zg_t (by rw [zI_in (by omega) (by omega)]; omega), zI_zx (by omega) (by omega), zI_zx (by omega) (by omega), hw.2.2.2.2 k (by omega) (by omega), hw.2.2.2.2 (k + 1) (by omega) (by omega), zI_n10, zI_mul, zI_add, show dg k * 10 + dg (k + 1) = 10 * dg k + dg (k + 1) by omega, zC_lineAt_s h gp d he (by omega), zBs]
    dsimp only
    rw [hw.1, hw.2.2.1, zI_neg, zI_neg]
    generalize zlineOf x (e / 8) (10 * dg k + dg (k + 1)) = met at bl ⊢
    have b15 := zG15 gp met
    have hq : zC_isQuiet (d + 1) (zI met) S = some (zb (zLn x met ∧ x 15 met = 0), S) := zC_isQuiet_s h gp d (by omega) (by omega)
    rw [zI_eq (by omega) (by omega) (by omega) (by omega), zI_eq (by omega) (by omega) (by omega) (by omega), zI_eq (by omega) (by omega) (by omega) (by omega), zI_eq (by omega) (by omega) (by omega) (by omega), hq, zBs]
    dsimp only
    rw [zb_0]
    by_cases g2 : g = -2
    · rw [zif_pos g2]
      by_cases ml : met = l
      · rw [zif_pos ml]
        refine zbF S ?_
        rintro ⟨-, -, q | q⟩
        · exact q.2.1 ml
        · exact q.1 g2
      · rw [zif_neg ml]
        by_cases q : zLn x met ∧ x 15 met = 0
        · rw [zif_neg (fun n => n q)]
          exact zbT S ⟨h2, q.1.1, Or.inl ⟨g2, ml, q.2⟩⟩
        · rw [zif_pos q]
          refine zbF S ?_
          rintro ⟨-, m0, r | r⟩
          · exact q ⟨⟨m0, bl.2⟩, r.2.2⟩
          · exact r.1 g2
    · rw [zif_neg g2]
      by_cases m1 : met = -1
      · rw [zif_pos m1]
        refine zbF S ?_
        rintro ⟨-, m0, -⟩
        omega
      · rw [zif_neg m1]
        by_cases mg : met = g
        · rw [zif_pos mg]
          exact zbT S ⟨h2, by omega, Or.inr ⟨g2, mg⟩⟩
        · rw [zif_neg mg]
          refine zbF S ?_
          rintro ⟨-, m0, r | r⟩
          · exact g2 r.1
          · exact mg r.2
  · rw [zif_neg h2]
    exact zbF S (fun q => h2 q.1)
end WI
