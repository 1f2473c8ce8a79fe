/-! LOST and MORE of the class, whole -/
def zMz (K : ZS) (x y : ZW) (r l : Int) (S : ZS) : Prop := zR K x y S ∧ S.1 31 0 0 = zI (sOwn x r l 0) ∧ S.1 31 0 1 = zI (sOwn x r l 1) ∧ S.1 3 0 3 = zI (sShr x r l) ∧ S.1 32 0 0 = zI (x 4 r - sW1 x r) ∧ S.1 32 0 1 = zI (sW1 x r)
section LX
variable {K : ZS} {x y : ZW} {S : ZS}
theorem zO_measure_65_s (g : zGp x) (d : Nat) {r s l u : Int} (hr : 0 ≤ r ∧ r < 12) (hs : 0 ≤ s ∧ s < 2) (hl : 0 ≤ l ∧ l < 10) (Q : Int32 × ZS → Prop) (S0 : ZS)
    (hQ : ∀ S', zMs K x y r s l 4 u S' → (∀ t, t ≠ s.toNat → S'.1 31 0 t = S0.1 31 0 t) → S'.1 32 = S0.1 32 → zwp (zO_measure_40 (d + 4) (zI r) (zI l) (zI (s + 1)) S') Q) :
    ∀ (j : Nat) (p : Int) (S : ZS), 0 ≤ p → p + j = 4 → zMs K x y r s l p u S → (∀ t, t ≠ s.toNat → S.1 31 0 t = S0.1 31 0 t) → S.1 32 = S0.1 32 → zwp (zO_measure_65 (d + 4) (zI r) (zI l) (zI s) (zI p) S) Q := by
  intro j
  induction j with
  | zero =>
    intro p S p0 e h f1 f2
    have ep : p = 4 := by omega
    subst ep
    rw [eO_measure_65, zI_n4, zI_le (by omega) (by omega) (by omega) (by omega), zif_pos (by omega), zI_n1, zI_add]
    exact hQ S h f1 f2
  | succ j ih =>
    intro p S p0 e h f1 f2
    rw [eO_measure_65, zI_n4, zI_le (by omega) (by omega) (by omega) (by omega), zif_neg (by omega), zwp_bind]
    refine zwp_mono (zO_countEnd_s g d hr hs hl (by omega) h) (fun S' w => ?_)
    rw [zI_n1, zI_add]
    exact ih (p + 1) S' (by omega) (by omega) w.1 (fun t ht => (w.2.1 t ht).trans (f1 t ht)) (w.2.2.trans f2)
/-- switches of the first n that ask section 1 -/
def zwq (x : ZW) (r n : Int) : Int := if x 5 r = 2 then n / 2 else 0
theorem zO_measure_96_s (g : zGp x) (d : Nat) {r : Int} (hr : 0 ≤ r ∧ r < 12) (h5 : 1 ≤ x 5 r) (Q : Int32 × ZS → Prop) (S0 : ZS)
    (hQ : ∀ S', zR K x y S' → S'.1 31 = S0.1 31 → S'.1 3 = S0.1 3 → S'.1 32 0 0 = zI (x 4 r - sW1 x r) → S'.1 32 0 1 = zI (sW1 x r) → Q (1, S')) :
    ∀ (j : Nat) (n : Int) (S : ZS), 0 ≤ n → n + j = x 4 r → zR K x y S → S.1 31 = S0.1 31 → S.1 3 = S0.1 3 → S.1 32 0 0 = zI (n - zwq x r n) → S.1 32 0 1 = zI (zwq x r n) → zwp (zO_measure_96 (d + 1) (zI r) (zI n) S) Q := by
  intro j
  induction j with
  | zero =>
    intro n S n0 e h f1 f2 w0 w1
    have b4 := zG4 g r
    have en : n = x 4 r := by omega
    rw [eO_measure_96, zg_t (by rw [zI_in (by omega) (by omega)]; omega), zI_zx (by omega) (by omega), zRc4 h (by omega) (by omega), zI_le (by omega) (by omega) (by omega) (by omega), zif_pos (by omega), zwp_some]
    rw [en] at w0 w1
    exact hQ S h f1 f2 w0 w1
  | succ j ih =>
    intro n S n0 e h f1 f2 w0 w1
    have b4 := zG4 g r
    have b5 := zG5 g r
    have hm : 0 ≤ n % x 5 r ∧ n % x 5 r < 2 ∧ (n % x 5 r = 0 → zwq x r (n + 1) = zwq x r n) ∧ (n % x 5 r = 1 → zwq x r (n + 1) = zwq x r n + 1) := by
      unfold zwq
      by_cases h2 : x 5 r = 2
      · rw [h2, if_pos rfl, if_pos rfl]; omega
      · rw [show x 5 r = 1 by omega, if_neg (by omega), if_neg (by omega)]; omega
    have e8 : (r * 8 + n) / 8 = r := by omega
    have hq0 : (r * 8 + n) % 8 % x 5 ((r * 8 + n) / 8) = n % x 5 r := by rw [e8, show (r * 8 + n) % 8 = n by omega]
    generalize hq : n % x 5 r = q at hm hq0
    have b1 : 0 ≤ zwq x r n ∧ zwq x r n ≤ 8 ∧ zwq x r n ≤ n := by unfold zwq; split <;> omega
    rw [eO_measure_96, zg_t (by rw [zI_in (by omega) (by omega)]; omega), zI_zx (by omega) (by omega), zRc4 h (by omega) (by omega), zI_le (by omega) (by omega) (by omega) (by omega), zif_neg (by omega), zI_n8, zI_mul, zI_add, zP_sectionOf_s h d (a := r * 8 + n) (by omega) (by rw [e8]; omega), zBs]
    dsimp only
    rw [hq0, zg_t (by rw [zI_in (by omega) (by omega)]; omega), zg_t (by rw [zI_in (by omega) (by omega)]; omega), zI_zx (by omega) (by omega), zI_n1, zI_add]
    by_cases h0 : q = 0
    · subst h0
      have e0 : S.1 32 0 (Int.toNat 0) = zI (n - zwq x r n) := w0
      rw [e0, zI_add]
      refine ih (n + 1) _ (by omega) (by omega) (zR_t h (by decide) 0 _ _) f1 f2 ?_ ?_
      · rw [hm.2.2.1 rfl]
        refine (zu_same S.1 32 0 0 (zI (n - zwq x r n + 1))).trans ?_
        rw [show n + 1 - zwq x r n = n - zwq x r n + 1 by omega]
      · rw [hm.2.2.1 rfl]
        exact w1
    · have h1 : q = 1 := by omega
      subst h1
      have e0 : S.1 32 0 (Int.toNat 1) = zI (zwq x r n) := w1
      rw [e0, zI_add]
      refine ih (n + 1) _ (by omega) (by omega) (zR_t h (by decide) 0 _ _) f1 f2 ?_ ?_
      · rw [hm.2.2.2 rfl, show n + 1 - (zwq x r n + 1) = n - zwq x r n by omega]
        exact w0
      · rw [hm.2.2.2 rfl]
        exact zu_same S.1 32 0 1 (zI (zwq x r n + 1))
theorem zO_measure_s (h : zR K x y S) (g : zGp x) (d : Nat) {r l k : Int} (r1 : -2147483648 ≤ r) (r2 : r < 2147483648) (l1 : -2147483648 ≤ l) (l2 : l < 2147483648) (k1 : -2147483648 ≤ k) (k2 : k < 2147483648) :
    zwp (zO_measure (d + 5) (zI r) (zI l) (zI k) S) (fun q => q.1 = zb (zCL x r l k) ∧ zR K x y q.2 ∧ (zCL x r l k → zMz K x y r l q.2)) := by
  have b2 := zG2 g
  have b4 := zG4 g r
  rw [eO_measure, zP_isLevel_s h g (d + 2) r1 r2 l1 l2, zBs]
  dsimp only
  rw [zb_0]
  by_cases hs : zSl x r ∧ 0 ≤ l ∧ l < 10
  · have hs' := hs.1
    unfold zSl at hs'
    have b5 := zG45 g hs'.1 hs'.2.1
    rw [zif_neg (fun q => q hs), zI_n1, zI_lt (by omega) (by omega) (by omega) (by omega)]
    by_cases k0 : k < 1
    · rw [zif_pos k0, zwp_some, zb_f (fun q : zCL x r l k => by have := q.2.2.2.1; omega)]
      exact ⟨rfl, h, fun q => by have := q.2.2.2.1; omega⟩
    · rw [zif_neg k0, zg_t (by rw [zI_in (by omega) (by omega)]; omega), zI_zx (by omega) (by omega), zRc4 h (by omega) (by omega), zI_le (by omega) (by omega) (by omega) (by omega)]
      by_cases k3 : k ≤ x 4 r
      · have hc : zCL x r l k := ⟨hs.1, hs.2.1, hs.2.2, by omega, k3⟩
        rw [zif_pos k3, zb_t hc]
        have w := zR_s h (t := 3) (s := 3) (by decide) 0 (0 : Int32)
        generalize hS1 : ((zu S.1 3 0 3 (0 : Int32)), S.2) = S1 at w
        have c1 : S1.1 3 0 3 = zI 0 := by rw [← hS1]; exact zu_same S.1 3 0 3 (0 : Int32)
        rw [zI_n0]
        rw [eO_measure_40, zI_n2, zI_n0, zI_le (by omega) (by omega) (by omega) (by omega), zif_neg (by omega), zg_t (by rw [zI_in (by omega) (by omega)]; omega), zg_t (by rw [zI_in (by omega) (by omega)]; omega), zI_zx (by omega) (by omega)]
        have w2 : zR K x y (zu (zu S1.1 31 0 (Int.toNat 0) (zI 0)) 32 0 (Int.toNat 0) (zI 0), S1.2) := zR_t (zR_t w (t := 31) (by decide) 0 _ _) (t := 32) (by decide) 0 _ _
        refine zO_measure_65_s g d (s := 0) (u := 0) (by omega) (by omega) hs.2 _ _ (fun S3 m3 f31 f32 => ?_) 4 0 _ (by omega) (by omega) ⟨w2, ?_, ?_⟩ (fun _ _ => rfl) rfl
        · obtain ⟨m1, m2, m3⟩ := m3
          rw [if_pos rfl, zqc_h] at m3
          rw [zqc_o] at m2
          have c32 : S3.1 32 0 0 = zI 0 := by rw [f32]; exact zu_same (zu S1.1 31 0 0 (zI 0)) 32 0 0 (zI 0)
          rw [eO_measure_40, zI_n2, zI_n0, zI_le (by omega) (by omega) (by omega) (by omega), zif_neg (by omega), zg_t (by rw [zI_in (by omega) (by omega)]; omega), zg_t (by rw [zI_in (by omega) (by omega)]; omega), zI_zx (by omega) (by omega)]
          have w4 : zR K x y (zu (zu S3.1 31 0 (Int.toNat (0 + 1)) (zI 0)) 32 0 (Int.toNat (0 + 1)) (zI 0), S3.2) := zR_t (zR_t m1 (t := 31) (by decide) 0 _ _) (t := 32) (by decide) 0 _ _
          refine zO_measure_65_s g d (s := 0 + 1) (u := sShr x r l) (by omega) (by omega) hs.2 _ _ (fun S5 m5 f31' f32' => ?_) 4 0 _ (by omega) (by omega) ⟨w4, ?_, ?_⟩ (fun _ _ => rfl) rfl
          · obtain ⟨n1, n2, n3⟩ := m5
            rw [if_neg (by omega)] at n3
            rw [zqc_o] at n2
            rw [eO_measure_40, zI_n2, zI_le (by omega) (by omega) (by omega) (by omega), zif_pos (by omega), zI_n0]
            have v0 : S5.1 32 0 0 = zI (0 - zwq x r 0) := by
              rw [f32', show (0 : Int) - zwq x r 0 = 0 by unfold zwq; split <;> rfl]
              exact c32
            have v1 : S5.1 32 0 1 = zI (zwq x r 0) := by
              rw [f32', show zwq x r 0 = 0 by unfold zwq; split <;> rfl]
              exact zu_same (zu S3.1 31 0 1 (zI 0)) 32 0 1 (zI 0)
            have v2 : S5.1 31 0 0 = zI (sOwn x r l 0) := (f31' 0 (by decide)).trans m2
            refine zO_measure_96_s g (d + 3) (by omega) b5.2 _ S5 (fun S6 a1 a2 a3 a4 a5 => ⟨rfl, a1, fun _ => ⟨a1, (congrFun (congrFun a2 0) 0).trans v2, (congrFun (congrFun a2 0) 1).trans n2, (congrFun (congrFun a3 0) 3).trans n3, a4, a5⟩⟩) (x 4 r).toNat 0 S5 (by omega) (by omega) n1 rfl rfl v0 v1
          · rw [zqc_0]
            exact zu_same S3.1 31 0 1 (zI 0)
          · rw [if_neg (by omega)]
            exact m3
        · rw [zqc_0]
          exact zu_same S1.1 31 0 0 (zI 0)
        · rw [if_pos rfl, zqc_0]
          exact c1
      · rw [zif_neg k3, zwp_some, zb_f (fun q : zCL x r l k => k3 q.2.2.2.2)]
        exact ⟨rfl, h, fun q => absurd q.2.2.2.2 k3⟩
  · rw [zif_pos hs, zwp_some, zb_f (fun q : zCL x r l k => hs ⟨q.1, q.2.1, q.2.2.1⟩)]
    exact ⟨rfl, h, fun q => absurd ⟨q.1, q.2.1, q.2.2.1⟩ hs⟩
theorem zO_waysLost_5_1 (g : zGp x) (d : Nat) {r l k a m n : Int} (hk : 1 ≤ k ∧ k ≤ 8) (ha : 0 ≤ a ∧ a ≤ 1000) (hn : 0 ≤ n ∧ n ≤ k) (h : zMz K x y r l S) :
    zO_waysLost_5 (d + 9) (zI k) (zI a) (zI m) (zI n) S = zO_waysLost_5 (d + 9) (zI k) (zI a) (zI (if max 0 (n - sOwn x r l 0) + max 0 (k - n - sOwn x r l 1) ≤ sShr x r l + a then m else m + zwn (x 4 r - sW1 x r) n * zwn (sW1 x r) (k - n))) (zI (n + 1)) S := by
  obtain ⟨-, h1, h2, h3, h4, h5⟩ := h
  have o0 := sOwn_b x r l 0
  have o1 := sOwn_b x r l 1
  have os := sShr_b x r l
  have bw := sW1_b g r
  have q0 := zO_ways_s S d (n := x 4 r - sW1 x r) (k := n) (by omega) (by omega)
  have q1 := zO_ways_s S d (n := sW1 x r) (k := k - n) (by omega) (by omega)
  have m0 := zMax_s S (d + 8) (a := 0) (b := n - sOwn x r l 0) (by omega) (by omega) (by omega) (by omega)
  have m1 := zMax_s S (d + 8) (a := 0) (b := k - n - sOwn x r l 1) (by omega) (by omega) (by omega) (by omega)
  have z0 : zx (zI 0) = 0 := rfl
  have z1 : zx (zI 1) = 1 := rfl
  have g0 : zin (zI 0) 2 = true := rfl
  have g1 : zin (zI 1) 2 = true := rfl
  rw [eO_waysLost_5, zI_lt (by omega) (by omega) (by omega) (by omega), zif_neg (by omega), zI_n0, zI_n1, zg_t g0, z0, z1, h1, zI_sub, m0, zBs, zg_t g1]
  dsimp only
  rw [h2, zI_sub, zI_sub, m1, zBs]
  dsimp only
  rw [h3, zI_add, zI_add, zI_le (by omega) (by omega) (by omega) (by omega), zI_add]
  by_cases hc : max 0 (n - sOwn x r l 0) + max 0 (k - n - sOwn x r l 1) ≤ sShr x r l + a
  · rw [if_pos hc, zif_pos hc]
  · rw [if_neg hc, zif_neg hc, zg_t g0, h4, q0, zBs, zg_t g1]
    dsimp only
    rw [h5, q1, zBs]
    dsimp only
    rw [zI_mul, zI_add]
theorem zO_waysLost_5_s (g : zGp x) (d : Nat) {r l k a : Int} (hk : 1 ≤ k ∧ k ≤ 8) (ha : 0 ≤ a ∧ a ≤ 1000) (h : zMz K x y r l S) :
    ∀ (j n : Nat), (n : Int) + j = k + 1 → zO_waysLost_5 (d + 9) (zI k) (zI a) (zI (zls (sOwn x r l 0) (sOwn x r l 1) (sShr x r l + a) (x 4 r - sW1 x r) (sW1 x r) k n)) (zI n) S = some (zI (zls (sOwn x r l 0) (sOwn x r l 1) (sShr x r l + a) (x 4 r - sW1 x r) (sW1 x r) k (n + j)), S) := by
  intro j
  induction j with
  | zero =>
    intro n e
    rw [eO_waysLost_5, zI_lt (by omega) (by omega) (by omega) (by omega), zif_pos (by omega)]
    rfl
  | succ j ih =>
    intro n e
    have i1 := ih (n + 1) (by omega)
    rw [show n + 1 + j = n + (j + 1) by omega, show ((n + 1 : Nat) : Int) = (n : Int) + 1 by omega, zls] at i1
    exact (zO_waysLost_5_1 g d hk ha (by omega) h).trans i1
theorem zO_waysLost_s (g : zGp x) (d : Nat) {r l k a : Int} (hk : 1 ≤ k ∧ k ≤ 8) (ha : 0 ≤ a ∧ a ≤ 1000) (h : zMz K x y r l S) : zO_waysLost (d + 10) (zI k) (zI a) S = some (zI (sLosing x r l k a), S) := by
  have q := zO_waysLost_5_s g d hk ha h (k.toNat + 1) 0 (by omega)
  rw [Nat.zero_add] at q
  rw [eO_waysLost]
  exact q
theorem zX_lost_s (h : zR K x y S) (g : zGp x) (d : Nat) {r l k : Int} (r1 : -2147483648 ≤ r) (r2 : r < 2147483648) (l1 : -2147483648 ≤ l) (l2 : l < 2147483648) (k1 : -2147483648 ≤ k) (k2 : k < 2147483648) :
    zwp (zX_lost (d + 12) (zI r) (zI l) (zI k) S) (fun q => q.1 = zI (sLost x r l k).1 ∧ zR K (sLost x r l k).2 y q.2) := by
  have b4 := zG4 g r
  rw [eX_lost, zwp_bind]
  refine zwp_mono (zO_measure_s h g (d + 6) r1 r2 l1 l2 k1 k2) (fun q w => ?_)
  obtain ⟨q1, S1⟩ := q
  obtain ⟨w1, w2, w3⟩ := w
  dsimp only at w1 w2 w3 ⊢
  unfold sLost
  rw [w1, zb_0]
  by_cases hc : zCL x r l k
  · have hc' := hc
    unfold zCL at hc'
    rw [zif_neg (fun q => q hc), @if_pos _ (Classical.propDecidable _) hc, zI_n0, zO_waysLost_s g (d + 1) (by omega) (by omega) (w3 hc), zBs, zwp_some]
    dsimp only
    exact ⟨rfl, w2⟩
  · rw [zif_pos hc, zwp_some, @if_neg _ (Classical.propDecidable _) hc]
    exact ⟨rfl, w2⟩
theorem zO_sharedMore_21_s (g : zGp x) (d : Nat) {r l k m : Int} (hk : 1 ≤ k ∧ k ≤ 8) (hk4 : k ≤ x 4 r) (hm : 0 ≤ m ∧ m ≤ 1000) (h : zMz K x y r l S) :
    ∀ (j : Nat) (a : Int), 0 ≤ a → a + j = k → zO_sharedMore_21 (d + 10) (zI k) (zI m) (zI (zwn (x 4 r) k)) (zI a) S = some (zI (zmo (sLosing x r l k) (m * zwn (x 4 r) k) j a), S) := by
  have b4 := zG4 g r
  have bw := zwn_b (n := x 4 r) (k := k) (by omega) (by omega)
  have m0 := Int.mul_nonneg hm.1 bw.1
  have m1 : m * zwn (x 4 r) k ≤ 1000 * 70 := Int.mul_le_mul hm.2 bw.2 bw.1 (by omega)
  intro j
  induction j with
  | zero =>
    intro a a0 e
    rw [eO_sharedMore_21, zI_le (by omega) (by omega) (by omega) (by omega), zif_pos (by omega)]
    rfl
  | succ j ih =>
    intro a a0 e
    have bl := sLosing_b g r l a hk
    rw [eO_sharedMore_21, zI_le (by omega) (by omega) (by omega) (by omega), zif_neg (by omega), zO_waysLost_s g d hk (by omega) h, zBs]
    dsimp only
    rw [zI_n1000, zI_mul, zI_mul, zI_le (by omega) (by omega) (by omega) (by omega), zmo]
    by_cases hl : sLosing x r l k a * 1000 ≤ m * zwn (x 4 r) k
    · rw [zif_pos hl, if_pos hl]
    · rw [zif_neg hl, if_neg hl, zI_n1, zI_add]
      exact ih (a + 1) (by omega) (by omega)
theorem zX_more_s (h : zR K x y S) (g : zGp x) (d : Nat) {r l k m : Int} (r1 : -2147483648 ≤ r) (r2 : r < 2147483648) (l1 : -2147483648 ≤ l) (l2 : l < 2147483648) (k1 : -2147483648 ≤ k) (k2 : k < 2147483648) (m1 : -2147483648 ≤ m) (m2 : m < 2147483648) :
    zwp (zX_more (d + 12) (zI r) (zI l) (zI k) (zI m) S) (fun q => q.1 = zI (sMore x r l k m).1 ∧ zR K (sMore x r l k m).2 y q.2) := by
  have b4 := zG4 g r
  unfold sMore
  rw [eX_more, zI_n0, zI_n1000, zI_lt m1 m2 (by omega) (by omega), zI_le m1 m2 (by omega) (by omega)]
  by_cases a0 : m < 0
  · rw [zif_pos a0, zwp_some, @if_neg _ (Classical.propDecidable _) (fun q => by omega)]
    exact ⟨rfl, h⟩
  · by_cases a1 : m ≤ 1000
    · rw [zif_neg a0, zif_pos a1, zwp_bind]
      refine zwp_mono (zO_measure_s h g (d + 6) r1 r2 l1 l2 k1 k2) (fun q w => ?_)
      obtain ⟨q1, S1⟩ := q
      obtain ⟨w1, w2, w3⟩ := w
      dsimp only at w1 w2 w3 ⊢
      rw [w1, show zI 0 = (0 : Int32) from rfl, zb_0]
      by_cases hc : zCL x r l k
      · have hc' := hc
        unfold zCL at hc'
        have hz := w3 hc
        obtain ⟨-, -, -, -, h4, h5⟩ := hz
        have z0 : zx (0 : Int32) = 0 := rfl
        have z1 : zx (1 : Int32) = 1 := rfl
        have g0 : zin (0 : Int32) 2 = true := rfl
        have g1 : zin (1 : Int32) 2 = true := rfl
        rw [zif_neg (fun q => q hc), @if_pos _ (Classical.propDecidable _) ⟨hc, by omega, a1⟩, eO_sharedMore, zg_t g0, zg_t g1, z0, z1, h4, h5, zI_add, show x 4 r - sW1 x r + sW1 x r = x 4 r by omega, zO_ways_s S1 (d + 1) (by omega) (by omega), zBs]
        dsimp only
        rw [zI_n0, zO_sharedMore_21_s g d (by omega) hc'.2.2.2.2 (by omega) (w3 hc) k.toNat 0 (by omega) (by omega), zBs, zwp_some]
        dsimp only
        exact ⟨rfl, w2⟩
      · rw [zif_pos hc, zwp_some, @if_neg _ (Classical.propDecidable _) (fun q => hc q.1)]
        exact ⟨rfl, w2⟩
    · rw [zif_neg a0, zif_neg a1, zwp_some, @if_neg _ (Classical.propDecidable _) (fun q => a1 q.2.2)]
      exact ⟨rfl, h⟩
end LX
