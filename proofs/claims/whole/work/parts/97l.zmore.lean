/-! LOST and MORE of the reference, whole -/
def zCL (x : ZW) (r l k : Int) : Prop := zSl x r ∧ 0 ≤ l ∧ l < 10 ∧ 1 ≤ k ∧ k ≤ x 4 r
noncomputable def sLost (x : ZW) (r l k : Int) : Int × ZW := (@ite _ (zCL x r l k) (Classical.propDecidable _) (sLosing x r l k 0) (-1), x)
/-- the least a, from here on, that is under the limit; n more at most -/
def zmo (f : Int → Int) (lim : Int) : Nat → Int → Int
  | 0, a => a
  | n + 1, a => if f a * 1000 ≤ lim then a else zmo f lim n (a + 1)
noncomputable def sMore (x : ZW) (r l k m : Int) : Int × ZW := (@ite _ (zCL x r l k ∧ 0 ≤ m ∧ m ≤ 1000) (Classical.propDecidable _) (zmo (sLosing x r l k) (m * zwn (x 4 r) k) k.toNat 0) (-1), x)
section MM
variable {K : ZS} {x y : ZW} {S : ZS}
theorem sW1_b (g : zGp x) (r : Int) : 0 ≤ sW1 x r ∧ sW1 x r ≤ 8 ∧ 0 ≤ x 4 r - sW1 x r ∧ x 4 r - sW1 x r ≤ 8 := by
  have := zG4 g r
  unfold sW1
  split <;> omega
theorem sLosing_b (g : zGp x) (r l a : Int) {k : Int} (hk : 1 ≤ k ∧ k ≤ 8) : 0 ≤ sLosing x r l k a ∧ sLosing x r l k a ≤ 44100 := by
  have b := sW1_b g r
  have q := zls_b (sOwn x r l 0) (sOwn x r l 1) (sShr x r l + a) (w0 := x 4 r - sW1 x r) (w1 := sW1 x r) (k := k) (by omega) (by omega) (by omega) (k.toNat + 1) (by omega)
  unfold sLosing
  omega
theorem sLosing_0 (x : ZW) (r l : Int) {k a : Int} (hk : 1 ≤ k ∧ k ≤ 8) (ha : k ≤ a) : sLosing x r l k a = 0 := by
  have := sOwn_b x r l 0
  have := sOwn_b x r l 1
  have := sShr_b x r l
  exact zls_0 (by omega) (by omega) (by omega) (by omega) _ (by omega)
theorem zM_canLose_s (h : zR K x y S) (g : zGp y) (d : Nat) {r l k : Int} (r1 : -2147483648 ≤ r) (r2 : r < 2147483648) (l1 : -2147483648 ≤ l) (l2 : l < 2147483648) (k1 : -2147483648 ≤ k) (k2 : k < 2147483648) : zM_canLose (d + 3) (zI r) (zI l) (zI k) S = some (zb (zCL y r l k), S) := by
  have b2 := zG2 g
  have b4 := zG4 g r
  have n0 : (0 : Int32) = zI 0 := rfl
  have n1 : (1 : Int32) = zI 1 := rfl
  have n9 : (9 : Int32) = zI 9 := rfl
  have z0 : zI 0 = (0 : Int32) := rfl
  rw [eM_canLose, zM_isSelectors_s h g d r1 r2, zBs]
  dsimp only
  rw [zb_0]
  by_cases hs : zSl y r
  · have hs' := hs
    unfold zSl at hs'
    rw [zif_neg (fun q => q hs), n9, n1, n0, zM_within_s S (d + 1) l1 l2 (by omega) (by omega) (by omega) (by omega), zBs]
    dsimp only
    rw [z0, zb_0]
    by_cases hl : 0 ≤ l ∧ l ≤ 9
    · rw [zif_neg (fun q => q hl), zg_t (by rw [zI_in (by omega) (by omega)]; omega), zI_zx (by omega) (by omega), zRm4 h (by omega) (by omega), zM_within_s S (d + 1) k1 k2 (by omega) (by omega) (by omega) (by omega), zBs]
      dsimp only
      rw [zb_0]
      by_cases hk : 1 ≤ k ∧ k ≤ y 4 r
      · rw [zif_neg (fun q => q hk), zb_t (show zCL y r l k from ⟨hs, by omega, by omega, hk.1, hk.2⟩)]
        rfl
      · rw [zif_pos hk, zb_f (fun q : zCL y r l k => hk q.2.2.2)]
    · rw [zif_pos hl, zb_f (fun q : zCL y r l k => hl ⟨q.2.1, by have := q.2.2.1; omega⟩)]
  · rw [zif_pos hs, zb_f (fun q : zCL y r l k => hs q.1)]
theorem zM_lost_s (h : zR K x y S) (g : zGp y) (go : zGo y) (d : Nat) {r l k : Int} (r1 : -2147483648 ≤ r) (r2 : r < 2147483648) (l1 : -2147483648 ≤ l) (l2 : l < 2147483648) (k1 : -2147483648 ≤ k) (k2 : k < 2147483648) :
    zwp (zM_lost (d + 4) (zI r) (zI l) (zI k) S) (fun q => q.1 = zI (sLost y r l k).1 ∧ zR K x (sLost y r l k).2 q.2) := by
  have b4 := zG4 g r
  rw [eM_lost]
  have h0 := zR_s h (t := 11) (s := 0) rfl 0 (0 : Int32)
  generalize hS : ((zu S.1 11 0 0 (0 : Int32)), S.2) = S' at h0 ⊢
  have hS1 : zu S.1 11 0 0 (0 : Int32) = S'.1 := by rw [← hS]
  have hS2 : S.2 = S'.2 := by rw [← hS]
  try simp only [hS1, hS2]
  rw [zM_canLose_s h0 g d r1 r2 l1 l2 k1 k2, zBs]
  dsimp only
  rw [zb_0]
  unfold sLost
  by_cases hc : zCL y r l k
  · have hc' := hc
    unfold zCL at hc'
    rw [zif_neg (fun q => q hc), @if_pos _ (Classical.propDecidable _) hc, zI_n0]
    dsimp only
    rw [zwp_bind]
    refine zwp_mono (zM_losing_s h0 g go (d + 1) hc'.1 (by omega) (by omega) (by omega)) (fun q w => ?_)
    rw [zwp_some]
    exact w
  · rw [zif_pos hc, zwp_some, @if_neg _ (Classical.propDecidable _) hc]
    exact ⟨rfl, h0⟩
theorem zM_more_32_s (g : zGp y) (go : zGo y) (d : Nat) {r l k m : Int} (hc : zCL y r l k) (hm : 0 ≤ m ∧ m ≤ 1000) : ∀ (j : Nat) (a : Int) (S : ZS), zR K x y S → 0 ≤ a → a + j = k →
    zwp (zM_more_32 (d + 2) (zI r) (zI l) (zI k) (zI m) (zI a) S) (fun q => q.1 = zI (zmo (sLosing y r l k) (m * zwn (y 4 r) k) j a) ∧ zR K x y q.2) := by
  have b2 := zG2 g
  have b4 := zG4 g r
  have hc' := hc
  unfold zCL at hc'
  have hs := hc'.1
  unfold zSl at hs
  have hk : 1 ≤ k ∧ k ≤ 8 := by omega
  have bw := zwn_b (n := y 4 r) (k := k) (by omega) (by omega)
  have m0 := Int.mul_nonneg hm.1 bw.1
  have m1 : m * zwn (y 4 r) k ≤ 1000 * 70 := Int.mul_le_mul hm.2 bw.2 bw.1 (by omega)
  intro j
  induction j with
  | zero =>
    intro a S h a0 e
    have bl := sLosing_b g r l a hk
    have b0 := sLosing_0 y r l hk (a := a) (by omega)
    rw [eM_more_32, zwp_bind]
    refine zwp_mono (zM_losing_s h g go d hc'.1 (by omega) hk (by omega)) (fun q w => ?_)
    obtain ⟨q1, S1⟩ := q
    obtain ⟨w1, w2⟩ := w
    dsimp only at w1 w2 ⊢
    rw [w1, zg_t (by rw [zI_in (by omega) (by omega)]; omega), zI_zx (by omega) (by omega), zRm4 w2 (by omega) (by omega), zM_ways_s S1 (d + 1) (by omega) (by omega), zBs]
    dsimp only
    rw [show (1000 : Int32) = zI 1000 from rfl, zI_mul, zI_mul, zI_le (by omega) (by omega) (by omega) (by omega), zif_pos (by omega), zwp_some]
    exact ⟨rfl, w2⟩
  | succ j ih =>
    intro a S h a0 e
    have bl := sLosing_b g r l a hk
    rw [eM_more_32, zwp_bind]
    refine zwp_mono (zM_losing_s h g go d hc'.1 (by omega) hk (by omega)) (fun q w => ?_)
    obtain ⟨q1, S1⟩ := q
    obtain ⟨w1, w2⟩ := w
    dsimp only at w1 w2 ⊢
    rw [w1, zg_t (by rw [zI_in (by omega) (by omega)]; omega), zI_zx (by omega) (by omega), zRm4 w2 (by omega) (by omega), zM_ways_s S1 (d + 1) (by omega) (by omega), zBs]
    dsimp only
    rw [show (1000 : Int32) = zI 1000 from rfl, zI_mul, zI_mul, zI_le (by omega) (by omega) (by omega) (by omega), zmo]
    by_cases hl : sLosing y r l k a * 1000 ≤ m * zwn (y 4 r) k
    · rw [zif_pos hl, if_pos hl, zwp_some]
      exact ⟨rfl, w2⟩
    · rw [zif_neg hl, if_neg hl, zI_n1, zI_add]
      exact ih (a + 1) S1 w2 (by omega) (by omega)
theorem zM_more_s (h : zR K x y S) (g : zGp y) (go : zGo y) (d : Nat) {r l k m : Int} (r1 : -2147483648 ≤ r) (r2 : r < 2147483648) (l1 : -2147483648 ≤ l) (l2 : l < 2147483648) (k1 : -2147483648 ≤ k) (k2 : k < 2147483648) (m1 : -2147483648 ≤ m) (m2 : m < 2147483648) :
    zwp (zM_more (d + 4) (zI r) (zI l) (zI k) (zI m) S) (fun q => q.1 = zI (sMore y r l k m).1 ∧ zR K x (sMore y r l k m).2 q.2) := by
  rw [eM_more]
  have h0 := zR_s h (t := 11) (s := 0) rfl 0 (0 : Int32)
  generalize hS : ((zu S.1 11 0 0 (0 : Int32)), S.2) = S' at h0 ⊢
  have hS1 : zu S.1 11 0 0 (0 : Int32) = S'.1 := by rw [← hS]
  have hS2 : S.2 = S'.2 := by rw [← hS]
  try simp only [hS1, hS2]
  rw [zM_canLose_s h0 g d r1 r2 l1 l2 k1 k2, zBs]
  dsimp only
  rw [zb_0]
  unfold sMore
  by_cases hc : zCL y r l k
  · have hc' := hc
    unfold zCL at hc'
    rw [zif_neg (fun q => q hc), show (1000 : Int32) = zI 1000 from rfl, zI_n0, zM_within_s S' (d + 2) m1 m2 (by omega) (by omega) (by omega) (by omega), zBs]
    dsimp only
    rw [show zI 0 = (0 : Int32) from rfl, zb_0]
    by_cases hm : 0 ≤ m ∧ m ≤ 1000
    · rw [zif_neg (fun q => q hm), @if_pos _ (Classical.propDecidable _) ⟨hc, hm⟩]
      exact zM_more_32_s g go (d + 1) hc hm k.toNat 0 S' h0 (by omega) (by omega)
    · rw [zif_pos hm, zwp_some, @if_neg _ (Classical.propDecidable _) (fun q => hm q.2)]
      exact ⟨rfl, h0⟩
  · rw [zif_pos hc, zwp_some, @if_neg _ (Classical.propDecidable _) (fun q => hc q.1)]
    exact ⟨rfl, h0⟩
end MM
