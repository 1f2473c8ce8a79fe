/-! THE TAPE of the class: the next token -/
def qB (tp : Int → Int) (n : Int) : Prop := (0 ≤ n ∧ n ≤ 1000) ∧ ∀ i, 0 ≤ i → i < n → 0 ≤ tp i ∧ tp i ≤ 126
/-- the signs lie on the class's tape -/
def qC (tp : Int → Int) (n : Int) (S : ZS) : Prop := S.1 6 0 1 = zI n ∧ ∀ i, 0 ≤ i → i < n → S.1 41 0 i.toNat = zI (tp i)
def qWo (v : Int) : Option ZR := if 0 ≤ qkw v then some (12, (qkw v).toNat) else none
/-- the word that the token is, if it is one -/
def qWr (tp : Int → Int) (n b : Int) : Option ZR := if zkd tp n b = 1 then qWo (zwl tp n b) else none
/-- the class is at the token that begins at b -/
def qA (tp : Int → Int) (n : Int) (S : ZS) (b : Int) : Prop := S.1 6 0 3 = zI b ∧ S.1 6 0 4 = zI (zlnt tp n b) ∧ S.1 6 0 2 = zI (zkd tp n b) ∧ S.2.2.1 6 0 5 = qWr tp n b
/-- what a step to the next token leaves alone -/
def qF6 (S S' : ZS) : Prop := (∀ t, t ≠ 6 → S'.1 t = S.1 t) ∧ S'.1 6 0 1 = S.1 6 0 1 ∧ S'.2.1 = S.2.1 ∧ (∀ t, t ≠ 6 → S'.2.2.1 t = S.2.2.1 t) ∧ S'.2.2.2 = S.2.2.2
theorem qF6_r (S : ZS) : qF6 S S := ⟨fun _ _ => rfl, rfl, rfl, fun _ _ => rfl, rfl⟩
theorem qF6_t {S S' S'' : ZS} (h : qF6 S S') (k : qF6 S' S'') : qF6 S S'' := ⟨fun t ht => (k.1 t ht).trans (h.1 t ht), k.2.1.trans h.2.1, k.2.2.1.trans h.2.2.1, fun t ht => (k.2.2.2.1 t ht).trans (h.2.2.2.1 t ht), k.2.2.2.2.trans h.2.2.2.2⟩
theorem qF6_u (S : ZS) {k : Nat} (hk : k ≠ 1) (v : Int32) : qF6 S (zu S.1 6 0 k v, S.2) := ⟨fun t ht => by
  funext i k'
  exact zu_tag S.1 ht, zu_pl S.1 (Ne.symm hk), rfl, fun _ _ => rfl, rfl⟩
theorem qF6_d (S : ZS) (k : Nat) (v : Option ZR) : qF6 S (S.1, S.2.1, zu S.2.2.1 6 0 k v, S.2.2.2) := ⟨fun _ _ => rfl, rfl, rfl, fun t ht => by
  funext i k'
  exact zu_tag S.2.2.1 ht, rfl⟩
theorem qC_f {tp : Int → Int} {n : Int} {S S' : ZS} (h : qC tp n S) (f : qF6 S S') : qC tp n S' := ⟨f.2.1.trans h.1, fun i a b => (congrFun (congrFun (f.1 41 (by decide)) 0) _).trans (h.2 i a b)⟩
section NC
variable {tp : Int → Int} {n : Int} {S : ZS}
theorem zT_runFrom_s (hB : qB tp n) (hC : qC tp n S) (d : Nat) {b lo hi : Int} (hb : 0 ≤ b ∧ b ≤ n) (hl : 0 ≤ lo ∧ lo < 1000) (hh : 0 ≤ hi ∧ hi < 1000) : zT_runFrom (d + 1) (zI b) (zI lo) (zI hi) S = some (zI (zrnl tp lo hi (n - b).toNat b), S) := by
  have bn := hB.1
  have key : ∀ (k : Nat) (p : Int), b ≤ p → p + k = n → zT_runFrom_3 d (zI b) (zI lo) (zI hi) (zI p) S = some (zI (p - b + zrnl tp lo hi k p), S) := by
    intro k
    induction k with
    | zero =>
      intro p p0 e
      rw [eT_runFrom_3, hC.1, zI_le (by omega) (by omega) (by omega) (by omega), zif_pos (by omega), zI_sub, zrnl, Int.add_zero]
    | succ k ih =>
      intro p p0 e
      have bt := hB.2 p (by omega) (by omega)
      rw [eT_runFrom_3, hC.1, zI_le (by omega) (by omega) (by omega) (by omega), zif_neg (by omega), zg_t (by rw [zI_in (by omega) (by omega)]; omega), zI_zx (by omega) (by omega), hC.2 p (by omega) (by omega), zI_lt (by omega) (by omega) (by omega) (by omega), zI_lt (by omega) (by omega) (by omega) (by omega), zrnl]
      by_cases q : tp p < lo
      · rw [zif_pos q, if_neg (by omega), zI_sub, Int.add_zero]
      · rw [zif_neg q, zg_t (by rw [zI_in (by omega) (by omega)]; omega)]
        by_cases q2 : hi < tp p
        · rw [zif_pos q2, if_neg (by omega), zI_sub, Int.add_zero]
        · rw [zif_neg q2, if_pos (by omega), zI_n1, zI_add, ih (p + 1) (by omega) (by omega), show p + 1 - b + zrnl tp lo hi k (p + 1) = p - b + (zrnl tp lo hi k (p + 1) + 1) by omega]
  rw [eT_runFrom, key (n - b).toNat b (by omega) (by omega), show b - b + zrnl tp lo hi (n - b).toNat b = zrnl tp lo hi (n - b).toNat b by omega]
/-- the word is the candidate -/
def qE (tp : Int → Int) (n b : Int) (i : Nat) : Prop := zLt tp n b = zsl i ∧ ∀ k, 0 ≤ k → k < zLt tp n b → tp (b + k) = (zscw i k.toNat).toInt
theorem qE_v {b : Int} {i : Nat} (hi : i < 13) : zwl tp n b = qcd i ↔ qE tp n b i := by
  obtain ⟨e, l, w⟩ := qcd_t i hi
  have r := zrnl_b tp 97 122 (n - b).toNat b
  have w1 : ∀ k : Int, 0 ≤ k → k < (zLt tp n b).toNat → 1 ≤ tp (b + k) - 96 ∧ tp (b + k) - 96 ≤ 26 := fun k k0 k1 => by
    have := r.2.2 k k0 (by unfold zLt at k1; omega)
    omega
  have w2 : ∀ k : Int, 0 ≤ k → k < (zsl i : Nat) → 1 ≤ (zscw i k.toNat).toInt - 96 ∧ (zscw i k.toNat).toInt - 96 ≤ 26 := fun k k0 k1 => w k.toNat (by omega)
  have r0 : 0 ≤ zLt tp n b := r.1
  unfold zwl qE
  rw [e]
  constructor
  · intro q
    obtain ⟨a, c⟩ := zvl_i (Or.inl rfl) _ _ w1 w2 q
    refine ⟨by omega, fun k k0 k1 => ?_⟩
    have := c k k0 (by omega)
    omega
  · rintro ⟨a, c⟩
    rw [show (zLt tp n b).toNat = zsl i by omega]
    exact zvl_c _ (fun k k0 k1 => by rw [c k k0 (by omega)])
theorem zT_wordRead_s (hB : qB tp n) (hC : qC tp n S) (d : Nat) {b : Int} (hb : 0 ≤ b ∧ b ≤ n) (h8 : 1 ≤ zLt tp n b ∧ zLt tp n b ≤ 8) (c3 : S.1 6 0 3 = zI b) (c4 : S.1 6 0 4 = zI (zLt tp n b)) : zT_wordRead (d + 6) S = some (qWo (zwl tp n b), S) := by
  have bn := hB.1
  have r := zrnl_b tp 97 122 (n - b).toNat b
  have rn : b + zLt tp n b ≤ n := by unfold zLt; omega
  have zt : ∀ v : Int32, zI v.toInt = v := fun v => Int32.ofInt_toInt v
  have nx : ∀ (i : Nat), i < 13 → ∀ (m : Nat) (j : Int), 0 ≤ j → j + m = (if (zsl i : Int) < zLt tp n b then (zsl i : Int) else zLt tp n b) → (∀ k, 0 ≤ k → k < j → tp (b + k) = (zscw i k.toNat).toInt) →
      zT_wordRead_39 (d + 5) (zI 13) (zI i) (some (12, i)) (zI j) (zI (if (zsl i : Int) < zLt tp n b then (zsl i : Int) else zLt tp n b)) S = zIt (qE tp n b i) (some (some (12, i), S)) (zT_wordRead_9 (d + 5) (zI 13) (zI (i + 1)) S) := by
    intro i hi m
    have l8 := (qcd_t i hi).2.1
    have e77 : ∀ j : Int, 0 ≤ j → j ≤ 8 → ((j = zLt tp n b ∧ j = zsl i) ↔ qE tp n b i) → zT_wordRead_77 (d + 5) (zI 13) (zI i) (some (12, i)) (zI j) S = zIt (qE tp n b i) (some (some (12, i), S)) (zT_wordRead_9 (d + 5) (zI 13) (zI (i + 1)) S) := by
      intro j j0 j8 hE
      rw [eT_wordRead_77, c4, zI_eq (by omega) (by omega) (by omega) (by omega), zI_n1, zI_add]
      by_cases q : j = zLt tp n b
      · have dd : ∀ k : Nat → Option (Option ZR × ZS), zder (some (12, i)) 12 k = k i := fun k => rfl
        rw [zif_pos q, dd, qlen_s (d + 3) S (by omega), zBs]
        dsimp only
        rw [zI_eq (by omega) (by omega) (by omega) (by omega)]
        by_cases q2 : j = zsl i
        · rw [zif_pos q2, zIt_t (hE.1 ⟨q, q2⟩)]
        · rw [zif_neg q2, zIt_f (fun w => q2 (hE.2 w).2)]
      · rw [zif_neg q, zIt_f (fun w => q (hE.2 w).1)]
    induction m with
    | zero =>
      intro j j0 e hk
      rw [eT_wordRead_39, zI_le (by omega) (by split <;> omega) (by omega) (by omega), zif_pos (by omega)]
      refine e77 j j0 (by split at e <;> omega) ⟨fun q => ⟨by omega, fun k k0 k1 => hk k k0 (by omega)⟩, fun q => ?_⟩
      have := q.1
      rw [if_neg (by omega)] at e
      omega
    | succ m ih =>
      intro j j0 e hk
      have jb : j < zLt tp n b ∧ j < zsl i := by split at e <;> omega
      have bt := hB.2 (b + j) (by omega) (by omega)
      have dd : ∀ k : Nat → Option (Option ZR × ZS), zder (some (12, i)) 12 k = k i := fun k => rfl
      rw [eT_wordRead_39, zI_le (by omega) (by split <;> omega) (by omega) (by omega), zif_neg (by omega), c3, zI_add, zg_t (by rw [zI_in (by omega) (by omega)]; omega), dd, qchr_s (d + 1) S hi j0 jb.2, zBs]
      dsimp only
      rw [zI_zx (by omega) (by omega), hC.2 (b + j) (by omega) (by omega), zI_n1, zI_add]
      by_cases q : tp (b + j) = (zscw i j.toNat).toInt
      · rw [zif_pos (by rw [q, zt])]
        refine ih (j + 1) (by omega) (by omega) (fun k k0 k1 => ?_)
        by_cases t : k = j
        · rw [t]; exact q
        · exact hk k k0 (by omega)
      · rw [zif_neg (fun w => q (by rw [← w, zI_toInt (by omega) (by omega)]))]
        exact e77 j j0 (by omega) ⟨fun w => by omega, fun w => absurd (w.2 j j0 jb.1) q⟩
  have key : ∀ (m i : Nat), i + m = 13 → (∀ i' : Int, 0 ≤ i' → i' < i → zwl tp n b ≠ qcd i') → zT_wordRead_9 (d + 5) (zI 13) (zI i) S = some (qWo (zwl tp n b), S) := by
    intro m
    induction m with
    | zero =>
      intro i e no
      have : qkw (zwl tp n b) = -1 := by
        rcases qkw_d (zwl tp n b) with q | q
        · exact q
        · have bq := qkw_b (zwl tp n b)
          by_cases w : qkw (zwl tp n b) = -1
          · exact w
          · exact absurd q (no _ (by omega) (by omega))
      rw [eT_wordRead_9, zI_le (by omega) (by omega) (by omega) (by omega), zif_pos (by omega)]
      unfold qWo
      rw [this, if_neg (by omega)]
    | succ m ih =>
      intro i e no
      have l8 := (qcd_t i (by omega)).2.1
      have dd : ∀ (i : Nat) (k : Nat → Option (Option ZR × ZS)), zder (some (12, i)) 12 k = k i := fun i k => rfl
      have mn : zci (zcall (d + 5)) 1001 [zi (zI (zLt tp n b)), zi (zI (zsl i))] S = some (zI (if (zsl i : Int) < zLt tp n b then (zsl i : Int) else zLt tp n b), S) := by
        have e : zci (zcall (d + 5)) 1001 [zi (zI (zLt tp n b)), zi (zI (zsl i))] S = some (if zI (zsl i) < zI (zLt tp n b) then zI (zsl i) else zI (zLt tp n b), S) := rfl
        have c := zI_lt (a := zsl i) (b := zLt tp n b) (by omega) (by omega) (by omega) (by omega)
        rw [e]
        by_cases q : (zsl i : Int) < zLt tp n b
        · rw [if_pos q, if_pos (by rw [c]; exact q)]
        · rw [if_neg q, if_neg (by rw [c]; exact q)]
      rw [eT_wordRead_9, zI_le (by omega) (by omega) (by omega) (by omega), zif_neg (by omega), zg_t (by rw [zI_in (by omega) (by omega)]; omega), zI_zx (by omega) (by omega), show ((i : Int)).toNat = i by omega, dd, qlen_s (d + 3) S (by omega), zBs]
      dsimp only
      rw [c4, mn, zBs]
      dsimp only
      rw [zI_n0, nx i (by omega) _ 0 (by omega) (show (0 : Int) + ((if (zsl i : Int) < zLt tp n b then (zsl i : Int) else zLt tp n b).toNat : Nat) = _ by split <;> omega) (fun k a c => by omega)]
      by_cases q : qE tp n b i
      · have q' := (qE_v (by omega)).2 q
        have k := (qkw_c (zwl tp n b) i (by omega)).2 q'
        rw [zIt_t q]
        unfold qWo
        rw [k, if_pos (by omega), show ((i : Int)).toNat = i by omega]
      · rw [zIt_f q]
        refine ih (i + 1) (by omega) (fun i' a c => ?_)
        by_cases t : i' = i
        · rw [t]
          exact fun w => q ((qE_v (by omega)).1 w)
        · exact no i' a (by omega)
  have z13 : Int32.ofNat 13 = zI 13 := rfl
  rw [eT_wordRead, z13, zI_n0]
  exact key 13 0 (by omega) (fun i' a c => by omega)
end NC
