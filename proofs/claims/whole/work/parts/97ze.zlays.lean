/-! LAID of the reference: one choice of ways is tried -/
noncomputable def zIt {α : Type} (P : Prop) (a b : α) : α := @ite α P (Classical.propDecidable P) a b
theorem zIt_t {α : Type} {P : Prop} (h : P) (a b : α) : zIt P a b = a := @if_pos P (Classical.propDecidable P) h _ _ _
theorem zIt_f {α : Type} {P : Prop} (h : ¬ P) (a b : α) : zIt P a b = b := @if_neg P (Classical.propDecidable P) h _ _ _
/-- the end may be used, where what line away holds is free too -/
def zUs (y : ZW) (away a : Int) : Prop := (y 8 a < 0 ∨ (0 ≤ away ∧ y 8 a = away)) ∧ y 9 a = 0 ∧ y 10 a = 0 ∧ y 40 a = 0
/-- these are tried -/
def zTr (y : ZW) : List Int → ZW
  | [] => y
  | a :: L => zTr (xu y 40 a 1) L
/-- what lays answers from h on (k digits used), and what it takes; ch says which way -/
noncomputable def sLy (m : Int) (dg : Int → Int) (Rg : Int → Int → Prop) (away : Int) (ch : Int → Int) : Nat → ZW → Int → Int → Int × List Int
  | 0, _, k, _ => (k, [])
  | n + 1, y, k, h => zIt (zEg y h) (zIt (Rg k h) (-1, []) (k, [])) (zIt (m ≤ k) (k, []) (zIt (0 ≤ y 6 (sBase y h (dg k) + ch (k + 1)) ∧ zUs y away (y 6 (sBase y h (dg k) + ch (k + 1))))
      ((sLy m dg Rg away ch n (xu y 40 (y 6 (sBase y h (dg k) + ch (k + 1))) 1) (k + 1) (y 6 (sBase y h (dg k) + ch (k + 1)))).1, y 6 (sBase y h (dg k) + ch (k + 1)) :: (sLy m dg Rg away ch n (xu y 40 (y 6 (sBase y h (dg k) + ch (k + 1))) 1) (k + 1) (y 6 (sBase y h (dg k) + ch (k + 1)))).2) (k + 1, [])))
/-- what lies in the list of the ends taken, from place i on -/
def zAt (t : Nat) (S : ZS) : Int → List Int → Prop
  | _, [] => True
  | i, a :: L => S.1 t 0 i.toNat = zI a ∧ zAt t S (i + 1) L
theorem zAt_c {t : Nat} {S S' : ZS} : ∀ (L : List Int) (i : Int), (∀ j : Int, i ≤ j → j < i + L.length → S'.1 t 0 j.toNat = S.1 t 0 j.toNat) → zAt t S i L → zAt t S' i L
  | [], _, _, _ => trivial
  | a :: L, i, e, h => by
    rw [List.length_cons] at e
    exact ⟨(e i (by omega) (by omega)).trans h.1, zAt_c L (i + 1) (fun j j0 j1 => e j (by omega) (by omega)) h.2⟩
/-- what lays leaves alone -/
def zLf2 (S S' : ZS) : Prop := S'.1 113 = S.1 113 ∧ S'.1 115 = S.1 115
def zWhom (g : Int) : Int := if g = -1 then -3 else g
section LY
variable {K : ZS} {x y : ZW} {S : ZS}
theorem zM_mayUse_s (h : zR K x y S) (gp : zGp y) (d : Nat) {a away : Int} (h0 : 0 ≤ a) (h1 : a < 116) (w0 : -1 ≤ away) (w1 : away < 40) : zM_mayUse (d + 1) (zI a) (zI away) S = some (zb (zUs y away a), S) := by
  have b8 := zG8 gp a
  have b9 := zG9 gp a
  have b10 := zG10 gp a
  have b40 := zRby h 40 a
  have tl : zM_mayUse_23 d (zI a) S = some (zb (y 9 a = 0 ∧ y 10 a = 0 ∧ y 40 a = 0), S) := by
    refine zwp_eq ?_
    rw [eM_mayUse_23]
    simp (contextual := true) (disch := omega) only [zWp, zNum, Int.cast_ofNat_Int, Prod.mk.injEq, and_true, true_and, implies_true, and_self, true_implies, false_implies, not_true_eq_false, not_false_eq_true, and_false, false_and, Int.reduceEq, Int.reduceLT, Int.reduceLE, Int.reduceNeg, Int.reduceAdd, Int.reduceSub, Int.reduceMul, Int.reduceToNat, Nat.reduceEqDiff, cond_true, cond_false, zRm9 h, zRm10 h, zRm40 h] <;> ((repeat' (first | intro _ | with_reducible apply And.intro)) <;> (first | omega | (exfalso; omega)))
  rw [eM_mayUse, zg_t (by rw [zI_in (by omega) (by omega)]; omega), zI_zx (by omega) (by omega), zRm8 h h0 h1, zI_n0, zI_lt (by omega) (by omega) (by omega) (by omega), zI_lt (by omega) (by omega) (by omega) (by omega), zI_eq (by omega) (by omega) (by omega) (by omega), tl]
  by_cases p : y 8 a < 0
  · rw [zif_pos p]
    exact congrArg (fun u => some (u, S)) (zb_c ⟨fun q => ⟨Or.inl p, q⟩, fun q => q.2⟩)
  · rw [zif_neg p]
    by_cases q : away < 0
    · rw [zif_pos q]
      refine zbF S ?_
      rintro ⟨r | r, -⟩ <;> omega
    · rw [zif_neg q, zg_t (by rw [zI_in (by omega) (by omega)]; omega)]
      by_cases r : y 8 a = away
      · rw [zif_pos r]
        exact congrArg (fun u => some (u, S)) (zb_c ⟨fun s => ⟨Or.inr ⟨by omega, r⟩, s⟩, fun s => s.2⟩)
      · rw [zif_neg r]
        refine zbF S ?_
        rintro ⟨s | s, -⟩ <;> omega
theorem zM_takes_s (h : zR K x y S) (d : Nat) {a c : Int} (ha : 0 ≤ a ∧ a < 116) (hc : 0 ≤ c ∧ c < 16) (c72 : S.1 11 0 72 = zI c) :
    zM_takes (d + 1) (zI a) S = some (zu (zu (zu S.1 80 0 a.toNat (zI 1)) 114 0 c.toNat (zI a)) 11 0 72 (zI (c + 1)), S.2) ∧ zR K x (xu y 40 a 1) (zu (zu (zu S.1 80 0 a.toNat (zI 1)) 114 0 c.toNat (zI a)) 11 0 72 (zI (c + 1)), S.2) := by
  have w := zWm40 h (k := a) (v := 1) (by omega) (by omega) (by omega) (by omega)
  have w := zR_t w (t := 114) (by decide) 0 c.toNat (zI a)
  have w := zR_s w (t := 11) (s := 72) (by decide) 0 (zI (c + 1))
  refine ⟨zwp_eq ?_, w⟩
  have hb : zbl (zI 1) = true := rfl
  rw [eM_takes]
  simp (contextual := true) (disch := omega) only [zWp, zNum, Int.cast_ofNat_Int, Prod.mk.injEq, and_true, true_and, implies_true, and_self, true_implies, false_implies, not_true_eq_false, not_false_eq_true, and_false, false_and, Int.reduceEq, Int.reduceLT, Int.reduceLE, Int.reduceNeg, Int.reduceAdd, Int.reduceSub, Int.reduceMul, Int.reduceToNat, Nat.reduceEqDiff, cond_true, cond_false, zu_tag, zu_pl, zu_same, c72, hb] <;> ((repeat' (first | intro _ | with_reducible apply And.intro)) <;> (first | omega | (exfalso; omega)))
theorem zM_isEnding_0 (h : zR K x y S) (gp : zGp y) (d : Nat) {a : Int} (he : zEn y a) : zM_isEnding (d + 1) (zI a) S = some (zb (zEg y a), S) := by
  have b2 := zG2 gp
  unfold zEn zSw zJn at he
  exact zM_isEnding_s h gp d (by omega) (by omega) (by omega)
/-- the digits that a junction wants -/
theorem zly_j (h : zR K x y S) (gp : zGp y) (d : Nat) {l v m base away g a k0 : Int} (hv : 0 ≤ v ∧ v ≤ 99999) (hm : 0 ≤ m ∧ m ≤ 5) (hg : -2 ≤ g ∧ g < 40) (ha : 100 ≤ a ∧ a < 116) (hk0 : 0 ≤ k0 ∧ k0 < 10) :
    ∀ (n : Nat) (c k : Int) (b : Int32), c + n = 3 → 0 ≤ c → 0 ≤ k → k ≤ m → 1 ≤ n → zM_lays_55 (d + 1) (zI l) (zI v) (zI m) (zI base) (zI away) (zI (zWhom g)) (zI a) (zI (k0 + 1)) (zI c) b (zI k) S = some (zI (zIt (n ≤ m - k ∧ g < 0) (-1) k0), S) := by
  intro n
  induction n with
  | zero =>
    intro c k b e c0 hk0 hk hn
    omega
  | succ n ih =>
    intro c k b e c0 hk0' hk hn
    have bw : -3 ≤ zWhom g ∧ zWhom g < 40 := by unfold zWhom; split <;> omega
    rw [eM_lays_55, zI_le (by omega) (by omega) (by omega) (by omega)]
    by_cases q : m ≤ k
    · rw [zif_pos q, zI_n1, zI_sub, zIt_f (by omega), show k0 + 1 - 1 = k0 by omega]
    · have nx : ∀ b', zM_lays_170 (d + 1) (zI l) (zI v) (zI m) (zI base) (zI away) (zI (zWhom g)) (zI a) (zI (k0 + 1)) (zI (c + 1)) b' (zI k) (zI (sDgt v (m - 1 - k))) S = some (zI (zIt (((n + 1 : Nat) : Int) ≤ m - k ∧ g < 0) (-1) k0), S) := by
        intro b'
        rw [eM_lays_170, zI_n100, zI_lt (by omega) (by omega) (by omega) (by omega), zif_neg (by omega), zI_n3, zI_eq (by omega) (by omega) (by omega) (by omega)]
        by_cases c3 : c + 1 = 3
        · rw [zif_pos c3, zI_n2, zI_neg, zI_neg, zI_eq (by omega) (by omega) (by omega) (by omega), zI_eq (by omega) (by omega) (by omega) (by omega), zI_n1, zI_neg, zI_sub, show k0 + 1 - 1 = k0 by omega]
          unfold zWhom
          by_cases g1 : g = -1
          · rw [if_pos g1, zif_neg (by omega), zif_pos rfl, zIt_t (by omega)]
          · rw [if_neg g1]
            by_cases g2 : g = -2
            · rw [zif_pos g2, zIt_t (by omega)]
            · rw [zif_neg g2, zif_neg (by omega), zIt_f (by omega)]
        · rw [zif_neg c3, eM_lays_206, zI_n100, zI_le (by omega) (by omega) (by omega) (by omega), zif_pos (by omega), zI_n1, zI_add, ih (c + 1) (k + 1) b' (by omega) (by omega) (by omega) (by omega) (by omega)]
          have e1 : ((n : Int) ≤ m - (k + 1) ∧ g < 0) = (((n + 1 : Nat) : Int) ≤ m - k ∧ g < 0) := propext (by omega)
          rw [e1]
      rw [zif_neg q, zM_digitOf_s S d hv (by omega) ⟨hk0', by omega⟩, zBs]
      dsimp only
      rw [zM_isEnding_0 h gp d (Or.inr ha), zBs]
      dsimp only
      rw [zb_0, zif_neg (fun w => w (Or.inl ha.1)), zI_n1, zI_add, nx, nx]
      by_cases r : zI (c + 1) = zI 1
      · rw [zif_pos r]
      · rw [zif_neg r]
/-- the digits that a final wants -/
theorem zly_f (h : zR K x y S) (gp : zGp y) (d : Nat) {l v m base away g a k : Int} (hl : 0 ≤ l ∧ l < 40) (hv : 0 ≤ v ∧ v ≤ 99999) (hm : 0 ≤ m ∧ m ≤ 5) (hg : -2 ≤ g ∧ g < 40) (hs : zSw y a) (hf : y 3 (a / 8) = 1) (hk : 0 ≤ k ∧ k ≤ m) (b : Int32) :
    zM_lays_55 (d + 1) (zI l) (zI v) (zI m) (zI base) (zI away) (zI (zWhom g)) (zI a) (zI (k + 1)) (zI 0) b (zI k) S = some (zI (zIt (zRg y l g m (fun i => sDgt v (m - 1 - i)) k a) (-1) k), S) := by
  have b2 := zG2 gp
  have b11 := zG11 gp
  have bd := sDgt_b v (m - 1 - k)
  have bd1 := sDgt_b v (m - 1 - (k + 1))
  have bl := zlineOf_b gp (a / 8) (10 * sDgt v (m - 1 - k) + sDgt v (m - 1 - (k + 1)))
  have bw : -3 ≤ zWhom g ∧ zWhom g < 40 := by unfold zWhom; split <;> omega
  have sw := hs
  unfold zSw at sw
  have hE : zEg y a := Or.inr hf
  have eR : zRg y l g m (fun i => sDgt v (m - 1 - i)) k a ↔ (2 ≤ m - k ∧ 0 ≤ zlineOf y (a / 8) (10 * sDgt v (m - 1 - k) + sDgt v (m - 1 - (k + 1))) ∧ ((g = -2 ∧ zlineOf y (a / 8) (10 * sDgt v (m - 1 - k) + sDgt v (m - 1 - (k + 1))) ≠ l ∧ y 15 (zlineOf y (a / 8) (10 * sDgt v (m - 1 - k) + sDgt v (m - 1 - (k + 1)))) = 0) ∨ (g ≠ -2 ∧ zlineOf y (a / 8) (10 * sDgt v (m - 1 - k) + sDgt v (m - 1 - (k + 1))) = g))) := by
    unfold zRg
    constructor
    · rintro (q | q)
      · omega
      · exact q.2
    · intro q
      exact Or.inr ⟨by omega, q⟩
  rw [eM_lays_55, zI_le (by omega) (by omega) (by omega) (by omega)]
  by_cases q : m ≤ k
  · rw [zif_pos q, zI_n1, zI_sub, zIt_f (fun w => by have := (eR.1 w).1; omega), show k + 1 - 1 = k by omega]
  · rw [zif_neg q, zM_digitOf_s S d hv (by omega) ⟨hk.1, by omega⟩, zBs]
    dsimp only
    rw [zM_isEnding_0 h gp d (Or.inl hs), zBs]
    dsimp only
    rw [zb_0, zif_neg (fun w => w hE), zI_n1, zI_add, zif_pos (show zI (0 + 1) = zI 1 from rfl), eM_lays_170, zI_n100, zI_lt (by omega) (by omega) (by omega) (by omega), zif_pos (by omega), eM_lays_206, zI_n100, zI_le (by omega) (by omega) (by omega) (by omega), zif_neg (by omega), zI_n2, zI_eq (by omega) (by omega) (by omega) (by omega), zif_neg (by omega), zI_n1, zI_add, eM_lays_55, zI_le (by omega) (by omega) (by omega) (by omega)]
    by_cases q2 : m ≤ k + 1
    · rw [zif_pos q2, zI_n1, zI_sub, zIt_f (fun w => by have := (eR.1 w).1; omega), show k + 1 - 1 = k by omega]
    · rw [zif_neg q2, zM_digitOf_s S d hv (by omega) ⟨by omega, by omega⟩, zBs]
      dsimp only
      rw [zM_isEnding_0 h gp d (Or.inl hs), zBs]
      dsimp only
      rw [zb_0, zif_neg (fun w => w hE), zI_n1, zI_add, zI_eq (by omega) (by omega) (by omega) (by omega), zif_neg (by omega), eM_lays_170, zI_n100, zI_lt (by omega) (by omega) (by omega) (by omega), zif_pos (by omega), eM_lays_206, zI_n100, zI_le (by omega) (by omega) (by omega) (by omega), zif_neg (by omega), zI_n2, zI_eq (by omega) (by omega) (by omega) (by omega), zif_pos (by omega), zI_n8, zI_div (by omega) (by omega) (by omega) (by omega), zI_n10, zI_mul, zI_add, zM_lineOf_s h gp d (by omega) (by omega), zBs]
      dsimp only
      rw [zI_neg, zI_n1, zI_neg, zI_sub, show k + 1 - 1 = k by omega]
      generalize zlineOf y (a / 8) (10 * sDgt v (m - 1 - k) + sDgt v (m - 1 - (k + 1))) = met at bl eR ⊢
      have b15 := zG15 gp met
      rw [zI_n0, zI_lt (by omega) (by omega) (by omega) (by omega), zI_eq (a := zWhom g) (b := -2) (by omega) (by omega) (by omega) (by omega)]
      have ew : (zWhom g = -2) ↔ g = -2 := by unfold zWhom; split <;> omega
      by_cases m0 : met < 0
      · rw [zif_pos m0, zif_pos rfl, zIt_f (fun w => by have := (eR.1 w).2.1; omega)]
      · rw [zif_neg m0]
        by_cases g2 : g = -2
        · rw [zif_pos (ew.2 g2), zg_t (by rw [zI_in (by omega) (by omega)]; omega), zI_zx (by omega) (by omega), zRm15 h (by omega) (by omega), zI_eq (a := y 15 met) (b := 0) (by omega) (by omega) (by omega) (by omega)]
          by_cases f15 : y 15 met = 0
          · rw [zif_pos f15, zI_eq (a := met) (b := l) (by omega) (by omega) (by omega) (by omega)]
            by_cases ml : met = l
            · rw [zif_pos ml, zif_pos rfl, zIt_f]
              intro w
              rcases (eR.1 w).2.2 with r | r
              · exact r.2.1 ml
              · exact r.1 g2
            · rw [zif_neg ml, zif_neg (by decide), zIt_t (eR.2 ⟨by omega, by omega, Or.inl ⟨g2, ml, f15⟩⟩)]
          · rw [zif_neg f15, zif_pos rfl, zIt_f]
            intro w
            rcases (eR.1 w).2.2 with r | r
            · exact f15 r.2.2
            · exact r.1 g2
        · rw [zif_neg (fun w => g2 (ew.1 w)), zI_eq (a := zWhom g) (b := met) (by omega) (by omega) (by omega) (by omega)]
          by_cases mg : met = g
          · have wg : zWhom g = met := by unfold zWhom; rw [if_neg (by omega)]; omega
            rw [zif_pos wg, zif_neg (by decide), zIt_t (eR.2 ⟨by omega, by omega, Or.inr ⟨g2, mg⟩⟩)]
          · have wg : ¬ zWhom g = met := by unfold zWhom; split <;> omega
            rw [zif_neg wg, zif_pos rfl, zIt_f]
            intro w
            rcases (eR.1 w).2.2 with r | r
            · exact g2 r.1
            · exact mg r.2
end LY
