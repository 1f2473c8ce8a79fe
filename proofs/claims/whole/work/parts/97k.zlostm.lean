/-! LOST, MORE of the reference -/
/-- outlets of a section that isn't there lead nowhere -/
def zGo (x : ZW) : Prop := ∀ r j, 0 ≤ r → r < 12 → x 5 r ≤ 1 → 0 ≤ j → j < 40 → x 6 (80 * r + 40 + j) = -1
theorem zMax_s (S : ZS) (d : Nat) {a b : Int} (a1 : -2147483648 ≤ a) (a2 : a < 2147483648) (b1 : -2147483648 ≤ b) (b2 : b < 2147483648) : zci (zcall (d + 1)) 1000 [zi (zI a), zi (zI b)] S = some (zI (max a b), S) := by
  have e : zci (zcall (d + 1)) 1000 [zi (zI a), zi (zI b)] S = some (if zI a < zI b then zI b else zI a, S) := rfl
  rw [e]
  by_cases h : a < b
  · rw [if_pos (show zI a < zI b by rw [zI_lt a1 a2 b1 b2]; exact h), show max a b = b by omega]
  · rw [if_neg (show ¬ zI a < zI b by rw [zI_lt a1 a2 b1 b2]; exact h), show max a b = a by omega]
section LM
variable {K : ZS} {x y : ZW} {S : ZS}
/-- the marks, s sections and p places being told -/
def zMk (y : ZW) (r l s p : Int) (S : ZS) : Prop := ∀ t e, 0 ≤ t → t < 2 → 0 ≤ e → e < 116 → S.1 116 0 (116 * t + e).toNat = zI (sI (y 9 e = 0 ∧ ((t < s ∧ zEl y r t l e) ∨ (t = s ∧ ∃ q, 0 ≤ q ∧ q < p ∧ y 6 (80 * r + 40 * s + 4 * l + q) = e))) 1 0)
theorem sI_c {P Q : Prop} (h : P ↔ Q) (u v : Int) : sI P u v = sI Q u v := by rw [propext h]
theorem zM_losing_13_s (d : Nat) {r l k m : Int} (Q : Int32 × ZS → Prop) (hQ : ∀ S', zR K x y S' → (∀ i : Nat, i < 232 → S'.1 116 0 i = zI 0) → zwp (zM_losing_38 d (zI r) (zI l) (zI k) (zI 0) (zI 0) (zI m) (zI 0) S') Q) :
    ∀ (j n : Nat) (S : ZS), n + j = 232 → zR K x y S → (∀ i : Nat, i < n → S.1 116 0 i = zI 0) → zwp (zM_losing_13 d (zI r) (zI l) (zI k) (zI 0) (zI 0) (zI m) (zI n) S) Q
  | 0, n, S, e, h, c => by
    rw [eM_losing_13, show (232 : Int32) = zI 232 from rfl, zI_le (by omega) (by omega) (by omega) (by omega), zif_pos (by omega), zI_n0]
    exact hQ S h (fun i hi => c i (by omega))
  | j + 1, n, S, e, h, c => by
    have w := zR_t h (t := 116) (by decide) 0 n (zI 0)
    have ih := zM_losing_13_s d Q hQ j (n + 1) _ (by omega) w (fun i hi => by
      by_cases hn : i = n
      · rw [hn]; exact zu_same _ _ _ _ _
      · exact (zu_pl _ hn).trans (c i (by omega)))
    rw [show ((n + 1 : Nat) : Int) = (n : Int) + 1 by omega] at ih
    rw [eM_losing_13, show (232 : Int32) = zI 232 from rfl, zI_le (by omega) (by omega) (by omega) (by omega), zif_neg (by omega), zg_t (by rw [zI_in (by omega) (by omega)]; omega), zg_t (show zbl 0 = true from rfl), zI_n1, zI_add, zI_zx (by omega) (by omega), show ((n : Int)).toNat = n by omega]
    exact ih
theorem zM_losing_52_s (g : zGp y) (d : Nat) {r l k m s : Int} (hr : 0 ≤ r ∧ r < 12) (hl : 0 ≤ l ∧ l < 10) (hs : 0 ≤ s ∧ s < 2) (Q : Int32 × ZS → Prop) (hQ : ∀ S', zR K x y S' → zMk y r l (s + 1) 0 S' → zwp (zM_losing_38 (d + 1) (zI r) (zI l) (zI k) (zI 0) (zI 0) (zI m) (zI (s + 1)) S') Q) :
    ∀ (j p : Nat) (S : ZS), p + j = 4 → zR K x y S → zMk y r l s p S → zwp (zM_losing_52 (d + 1) (zI r) (zI l) (zI k) (zI 0) (zI 0) (zI m) (zI s) (zI p) S) Q
  | 0, p, S, e, h, c => by
    rw [eM_losing_52, show (4 : Int32) = zI 4 from rfl, zI_le (by omega) (by omega) (by omega) (by omega), zif_pos (by omega), zI_n1, zI_add]
    refine hQ S h (fun t e' t0 t1 e0 e1 => (c t e' t0 t1 e0 e1).trans (congrArg zI (sI_c ?_ 1 0)))
    constructor
    · rintro ⟨a, b | ⟨b, q, q0, q1, q2⟩⟩
      · exact ⟨a, Or.inl ⟨by omega, b.2⟩⟩
      · exact ⟨a, Or.inl ⟨by omega, q, q0, by omega, by rw [b]; exact q2⟩⟩
    · rintro ⟨a, b | ⟨b, q, q0, q1, q2⟩⟩
      · by_cases ht : t = s
        · obtain ⟨q, q0, q1, q2⟩ := b.2
          exact ⟨a, Or.inr ⟨ht, q, q0, by omega, by rw [← ht]; exact q2⟩⟩
        · exact ⟨a, Or.inl ⟨by omega, b.2⟩⟩
      · omega
  | j + 1, p, S, e, h, c => by
    have b6 := zG6 g (80 * r + 40 * s + 4 * l + p)
    have r6 := zRm6 h (k := 80 * r + 40 * s + 4 * l + p) (by omega) (by omega)
    have ih := fun S' h' c' => zM_losing_52_s g d hr hl hs Q hQ j (p + 1) S' (by omega) h' c'
    rw [show ((p + 1 : Nat) : Int) = (p : Int) + 1 by omega] at ih
    rw [eM_losing_52, show (4 : Int32) = zI 4 from rfl, zI_le (by omega) (by omega) (by omega) (by omega), zif_neg (by omega), eM_outletAt]
    show zwp (zg (zin ((80 : Int32) * zI r + (40 : Int32) * zI s + (4 : Int32) * zI l + zI p) 960) _) _
    rw [show (80 : Int32) = zI 80 from rfl, show (40 : Int32) = zI 40 from rfl, show (4 : Int32) = zI 4 from rfl, zI_mul, zI_mul, zI_mul, zI_add, zI_add, zI_add, zg_t (by rw [zI_in (by omega) (by omega)]; omega)]
    show zwp (zif (S.1 62 0 (zx (zI (80 * r + 40 * s + 4 * l + p))) < 0) (zM_losing_52 (d + 1) (zI r) (zI l) (zI k) (zI 0) (zI 0) (zI m) (zI s) (zI p + 1) S) (zg (zin (S.1 62 0 (zx (zI (80 * r + 40 * s + 4 * l + p)))) 116) (zif (S.1 65 0 (zx (S.1 62 0 (zx (zI (80 * r + 40 * s + 4 * l + p))))) = 0) (zg (zin ((116 : Int32) * zI s + S.1 62 0 (zx (zI (80 * r + 40 * s + 4 * l + p)))) 232) (zg (zbl 1) (zM_losing_52 (d + 1) (zI r) (zI l) (zI k) (zI 0) (zI 0) (zI m) (zI s) (zI p + 1) ((zu S.1 116 0 (zx ((116 : Int32) * zI s + S.1 62 0 (zx (zI (80 * r + 40 * s + 4 * l + p))))) 1), S.2)))) (zM_losing_52 (d + 1) (zI r) (zI l) (zI k) (zI 0) (zI 0) (zI m) (zI s) (zI p + 1) S)))) _
    rw [zI_zx (by omega) (by omega), r6, show (0 : Int32) = zI 0 from rfl, show (1 : Int32) = zI 1 from rfl, zI_add, zI_lt (by omega) (by omega) (by omega) (by omega)]
    have same : ∀ v : Int, y 6 (80 * r + 40 * s + 4 * l + p) = v → (v < 0 ∨ y 9 v ≠ 0) → zMk y r l s ((p : Int) + 1) S := by
      intro v hv hn t e' t0 t1 e0 e1
      refine (c t e' t0 t1 e0 e1).trans (congrArg zI (sI_c ?_ 1 0))
      constructor
      · rintro ⟨a, b | ⟨b, q, q0, q1, q2⟩⟩
        · exact ⟨a, Or.inl b⟩
        · exact ⟨a, Or.inr ⟨b, q, q0, by omega, q2⟩⟩
      · rintro ⟨a, b | ⟨b, q, q0, q1, q2⟩⟩
        · exact ⟨a, Or.inl b⟩
        · by_cases hq : q = p
          · rw [hq, hv] at q2
            rcases hn with hn | hn
            · omega
            · rw [q2] at hn; exact absurd a hn
          · exact ⟨a, Or.inr ⟨b, q, q0, by omega, q2⟩⟩
    by_cases h6 : y 6 (80 * r + 40 * s + 4 * l + p) < 0
    · rw [zif_pos h6]
      exact ih S h (same _ rfl (Or.inl h6))
    · have b9 := zG9 g (y 6 (80 * r + 40 * s + 4 * l + p))
      rw [zif_neg h6, zg_t (by rw [zI_in (by omega) (by omega)]; omega), zI_zx (by omega) (by omega), zRm9 h (by omega) (by omega), zI_eq (by omega) (by omega) (by omega) (by omega)]
      by_cases h9 : y 9 (y 6 (80 * r + 40 * s + 4 * l + p)) = 0
      · rw [zif_pos h9, show (116 : Int32) = zI 116 from rfl, zI_mul, zI_add, zg_t (by rw [zI_in (by omega) (by omega)]; omega), zg_t (show zbl (zI 1) = true from rfl), zI_zx (by omega) (by omega)]
        have w := zR_t h (t := 116) (by decide) 0 (116 * s + y 6 (80 * r + 40 * s + 4 * l + p)).toNat (zI 1)
        refine ih _ w (fun t e' t0 t1 e0 e1 => ?_)
        by_cases hte : t = s ∧ e' = y 6 (80 * r + 40 * s + 4 * l + p)
        · rw [sI_t ⟨by rw [hte.2]; exact h9, Or.inr ⟨hte.1, p, by omega, by omega, hte.2.symm⟩⟩, hte.1, hte.2]
          exact zu_same _ _ _ _ _
        · refine ((zu_pl _ (by omega)).trans (c t e' t0 t1 e0 e1)).trans (congrArg zI (sI_c ?_ 1 0))
          constructor
          · rintro ⟨a, b | ⟨b, q, q0, q1, q2⟩⟩
            · exact ⟨a, Or.inl b⟩
            · exact ⟨a, Or.inr ⟨b, q, q0, by omega, q2⟩⟩
          · rintro ⟨a, b | ⟨b, q, q0, q1, q2⟩⟩
            · exact ⟨a, Or.inl b⟩
            · by_cases hq : q = p
              · rw [hq] at q2; exact absurd ⟨b, q2.symm⟩ hte
              · exact ⟨a, Or.inr ⟨b, q, q0, by omega, q2⟩⟩
      · rw [zif_neg h9]
        exact ih S h (same _ rfl (Or.inr h9))
theorem zM_losing_38_s (g : zGp y) (d : Nat) {r l k m : Int} (hr : 0 ≤ r ∧ r < 12) (hl : 0 ≤ l ∧ l < 10) (Q : Int32 × ZS → Prop) (hQ : ∀ S', zR K x y S' → zMk y r l (y 5 r) 0 S' → zwp (zM_losing_118 (d + 1) (zI r) (zI k) (zI 0) (zI 0) (zI m) (zI 0) S') Q) :
    ∀ (j s : Nat) (S : ZS), (s : Int) + j = y 5 r → zR K x y S → zMk y r l s 0 S → zwp (zM_losing_38 (d + 1) (zI r) (zI l) (zI k) (zI 0) (zI 0) (zI m) (zI s) S) Q
  | 0, s, S, e, h, c => by
    have b5 := zG5 g r
    rw [eM_losing_38, zg_t (by rw [zI_in (by omega) (by omega)]; omega), zI_zx (by omega) (by omega), zRm5 h hr.1 hr.2, zI_le (by omega) (by omega) (by omega) (by omega), zif_pos (by omega), zI_n0]
    rw [show (s : Int) = y 5 r by omega] at c
    exact hQ S h c
  | j + 1, s, S, e, h, c => by
    have b5 := zG5 g r
    rw [eM_losing_38, zg_t (by rw [zI_in (by omega) (by omega)]; omega), zI_zx (by omega) (by omega), zRm5 h hr.1 hr.2, zI_le (by omega) (by omega) (by omega) (by omega), zif_neg (by omega), zI_n0]
    refine zM_losing_52_s g d hr hl (s := s) (by omega) Q (fun S' h' c' => ?_) 4 0 S (by omega) h c
    have ih := zM_losing_38_s g d hr hl Q hQ j (s + 1) S' (by omega) h'
    rw [show ((s + 1 : Nat) : Int) = (s : Int) + 1 by omega] at ih
    exact ih c'
theorem zsm_b (f : Int → Int) (hf : ∀ i, 0 ≤ f i ∧ f i ≤ 1) : ∀ n : Nat, 0 ≤ zsm f n ∧ zsm f n ≤ n
  | 0 => ⟨Int.le_refl 0, Int.le_refl 0⟩
  | n + 1 => by
    have := zsm_b f hf n
    have := hf n
    rw [zsm]
    omega
theorem sI_01 (P : Prop) : 0 ≤ sI P 1 0 ∧ sI P 1 0 ≤ 1 := by
  by_cases h : P
  · rw [sI_t h]; omega
  · rw [sI_f h]; omega
theorem sOwn_b (x : ZW) (r l s : Int) : 0 ≤ sOwn x r l s ∧ sOwn x r l s ≤ 116 := zsm_b _ (fun _ => sI_01 _) 116
theorem sShr_b (x : ZW) (r l : Int) : 0 ≤ sShr x r l ∧ sShr x r l ≤ 116 := zsm_b _ (fun _ => sI_01 _) 116
theorem zBs {α β : Type} (a : α) (f : α → Option β) : (some a).bind f = f a := rfl
theorem zM_losing_233_1 (S : ZS) (d : Nat) {k o0 o1 sh w0 w1 m n : Int} (hk : 1 ≤ k ∧ k ≤ 8) (h0 : 0 ≤ o0 ∧ o0 ≤ 116) (h1 : 0 ≤ o1 ∧ o1 ≤ 116) (hs : 0 ≤ sh ∧ sh ≤ 100000) (hw0 : 0 ≤ w0 ∧ w0 ≤ 8) (hw1 : 0 ≤ w1 ∧ w1 ≤ 8) (hn : 0 ≤ n ∧ n ≤ k) :
    zM_losing_233 (d + 1) (zI k) (zI o0) (zI o1) (zI sh) (zI w1) (zI w0) (zI m) (zI n) S = zM_losing_233 (d + 1) (zI k) (zI o0) (zI o1) (zI sh) (zI w1) (zI w0) (zI (if max 0 (n - o0) + max 0 (k - n - o1) ≤ sh then m else m + zwn w0 n * zwn w1 (k - n))) (zI (n + 1)) S := by
  have q0 := zM_ways_s (S := S) d (n := w0) (k := n) hw0 (by omega)
  have q1 := zM_ways_s (S := S) d (n := w1) (k := k - n) hw1 (by omega)
  have m0 := zMax_s S d (a := 0) (b := n - o0) (by omega) (by omega) (by omega) (by omega)
  have m1 := zMax_s S d (a := 0) (b := k - n - o1) (by omega) (by omega) (by omega) (by omega)
  rw [eM_losing_233, zI_lt (by omega) (by omega) (by omega) (by omega), zif_neg (by omega), zI_sub, zI_sub, zI_sub]
  have z0 : (0 : Int32) = zI 0 := rfl
  rw [z0, m0, zBs, m1, zBs]
  dsimp only
  rw [zI_add, zI_le (by omega) (by omega) (by omega) (by omega), zI_n1, zI_add]
  by_cases hc : max 0 (n - o0) + max 0 (k - n - o1) ≤ sh
  · rw [if_pos hc, zif_pos hc]
  · rw [if_neg hc, zif_neg hc, q0, zBs, q1, zBs]
    dsimp only
    rw [zI_mul, zI_add]
theorem zM_losing_233_0 (S : ZS) (d : Nat) {k o0 o1 sh w0 w1 m : Int} (hk : 1 ≤ k ∧ k ≤ 8) :
    zM_losing_233 (d + 1) (zI k) (zI o0) (zI o1) (zI sh) (zI w1) (zI w0) (zI m) (zI (k + 1)) S = some (zI m, S) := by
  rw [eM_losing_233, zI_lt (by omega) (by omega) (by omega) (by omega), zif_pos (by omega)]
theorem zM_losing_233_s (S : ZS) (d : Nat) {k o0 o1 sh w0 w1 : Int} (hk : 1 ≤ k ∧ k ≤ 8) (h0 : 0 ≤ o0 ∧ o0 ≤ 116) (h1 : 0 ≤ o1 ∧ o1 ≤ 116) (hs : 0 ≤ sh ∧ sh ≤ 100000) (hw0 : 0 ≤ w0 ∧ w0 ≤ 8) (hw1 : 0 ≤ w1 ∧ w1 ≤ 8) :
    ∀ (j n : Nat), (n : Int) + j = k + 1 → zM_losing_233 (d + 1) (zI k) (zI o0) (zI o1) (zI sh) (zI w1) (zI w0) (zI (zls o0 o1 sh w0 w1 k n)) (zI n) S = some (zI (zls o0 o1 sh w0 w1 k (n + j)), S) := by
  intro j
  induction j with
  | zero =>
    intro n e
    rw [show (n : Int) = k + 1 by omega]
    exact zM_losing_233_0 S d hk
  | succ j ih =>
    intro n e
    have i1 := ih (n + 1) (by omega)
    rw [show n + 1 + j = n + (j + 1) by omega, show ((n + 1 : Nat) : Int) = (n : Int) + 1 by omega, zls] at i1
    exact (zM_losing_233_1 S d hk h0 h1 hs hw0 hw1 (by omega)).trans i1
/-- the counting of the ends -/
theorem zM_losing_118_s (g : zGp y) (go : zGo y) (d : Nat) {r l k a : Int} (hr : 0 ≤ r ∧ r < 12) (hl : 0 ≤ l ∧ l < 10) (hk : 1 ≤ k ∧ k ≤ 8) (ha : 0 ≤ a ∧ a ≤ 1000) (h : zR K x y S) (c : zMk y r l (y 5 r) 0 S) (h5 : 1 ≤ y 5 r) :
    ∀ (j n : Nat), n + j = 116 → zM_losing_118 (d + 1) (zI r) (zI k) (zI (zsm (fun e => sI (zEl y r 0 l e ∧ ¬ zEl y r (1 - 0) l e ∧ y 9 e = 0) 1 0) n)) (zI (zsm (fun e => sI (zEl y r 1 l e ∧ ¬ zEl y r (1 - 1) l e ∧ y 9 e = 0) 1 0) n)) (zI (zsm (fun e => sI (zEl y r 0 l e ∧ zEl y r 1 l e ∧ y 9 e = 0) 1 0) n + a)) (zI n) S = some (zI (sLosing y r l k a), S)
  | 0, n, e => by
    have b4 := zG4 g r
    have b5 := zG5 g r
    have o0 := sOwn_b y r l 0
    have o1 := sOwn_b y r l 1
    have os := sShr_b y r l
    have en : n = 116 := by omega
    subst en
    have e0 : zsm (fun e => sI (zEl y r 0 l e ∧ ¬ zEl y r (1 - 0) l e ∧ y 9 e = 0) 1 0) 116 = sOwn y r l 0 := rfl
    have e1 : zsm (fun e => sI (zEl y r 1 l e ∧ ¬ zEl y r (1 - 1) l e ∧ y 9 e = 0) 1 0) 116 = sOwn y r l 1 := rfl
    have e2 : zsm (fun e => sI (zEl y r 0 l e ∧ zEl y r 1 l e ∧ y 9 e = 0) 1 0) 116 = sShr y r l := rfl
    rw [e0, e1, e2]
    have fin : ∀ w1 : Int, w1 = sW1 y r → zM_losing_233 (d + 1) (zI k) (zI (sOwn y r l 0)) (zI (sOwn y r l 1)) (zI (sShr y r l + a)) (zI w1) (zI (y 4 r - w1)) (zI 0) (zI 0) S = some (zI (sLosing y r l k a), S) := by
      intro w1 hw
      have bw : 0 ≤ w1 ∧ w1 ≤ 8 ∧ 0 ≤ y 4 r - w1 := by rw [hw]; unfold sW1; split <;> omega
      have q := zM_losing_233_s S d (k := k) (o0 := sOwn y r l 0) (o1 := sOwn y r l 1) (sh := sShr y r l + a) (w0 := y 4 r - w1) (w1 := w1) hk o0 o1 (by omega) (by omega) (by omega) (k.toNat + 1) 0 (by omega)
      rw [Nat.zero_add] at q
      unfold sLosing
      rw [← hw]
      exact q
    rw [eM_losing_118, show (116 : Int32) = zI 116 from rfl, zI_le (by omega) (by omega) (by omega) (by omega), zif_pos (by omega), zg_t (by rw [zI_in (by omega) (by omega)]; omega), zI_zx (by omega) (by omega), zRm5 h hr.1 hr.2, show (2 : Int32) = zI 2 from rfl, zI_eq (by omega) (by omega) (by omega) (by omega)]
    by_cases h2 : y 5 r = 2
    · rw [zif_pos h2, zg_t (by rw [zI_in (by omega) (by omega)]; omega), zg_t (by rw [zI_in (by omega) (by omega)]; omega), zRm4 h hr.1 hr.2, zI_div (by omega) (by omega) (by omega) (by omega), zI_sub]
      exact fin (y 4 r / 2) (by unfold sW1; rw [if_pos h2])
    · rw [zif_neg h2, zg_t (by rw [zI_in (by omega) (by omega)]; omega), zRm4 h hr.1 hr.2, zI_n0, zI_sub]
      exact fin 0 (by unfold sW1; rw [if_neg h2])
  | j + 1, n, e => by
    have ih := zM_losing_118_s g go d hr hl hk ha h c h5 j (n + 1) (by omega)
    rw [show ((n + 1 : Nat) : Int) = (n : Int) + 1 by omega, zsm, zsm, zsm] at ih
    have b5 := zG5 g r
    have c0 := c 0 n (by omega) (by omega) (by omega) (by omega)
    have c1 := c 1 n (by omega) (by omega) (by omega) (by omega)
    rw [show 116 * 0 + (n : Int) = n by omega] at c0
    rw [show 116 * 1 + (n : Int) = 116 + n by omega] at c1
    have k0 : (y 9 n = 0 ∧ ((0 < y 5 r ∧ zEl y r 0 l n) ∨ (0 = y 5 r ∧ ∃ q, 0 ≤ q ∧ q < 0 ∧ y 6 (80 * r + 40 * y 5 r + 4 * l + q) = n))) ↔ (y 9 n = 0 ∧ zEl y r 0 l n) :=
      ⟨fun q => ⟨q.1, q.2.elim (fun w => w.2) (fun w => by omega)⟩, fun q => ⟨q.1, Or.inl ⟨by omega, q.2⟩⟩⟩
    have k1 : (y 9 n = 0 ∧ ((1 < y 5 r ∧ zEl y r 1 l n) ∨ (1 = y 5 r ∧ ∃ q, 0 ≤ q ∧ q < 0 ∧ y 6 (80 * r + 40 * y 5 r + 4 * l + q) = n))) ↔ (y 9 n = 0 ∧ zEl y r 1 l n) := by
      constructor
      · rintro ⟨q, w | ⟨w, z, z0, z1, z2⟩⟩
        · exact ⟨q, w.2⟩
        · omega
      · rintro ⟨q, p, p0, p1, p2⟩
        by_cases hs : 1 < y 5 r
        · exact ⟨q, Or.inl ⟨hs, p, p0, p1, p2⟩⟩
        · have := go r (4 * l + p) hr.1 hr.2 (by omega) (by omega) (by omega)
          rw [show 80 * r + 40 + (4 * l + p) = 80 * r + 40 * 1 + 4 * l + p by omega, p2] at this
          omega
    rw [sI_c k0] at c0
    rw [sI_c k1] at c1
    have e10 : (1 : Int) - 0 = 1 := rfl
    have e11 : (1 : Int) - 1 = 0 := rfl
    rw [e10, e11] at ih ⊢
    rw [eM_losing_118, show (116 : Int32) = zI 116 from rfl, zI_le (by omega) (by omega) (by omega) (by omega), zif_neg (by omega), zg_t (by rw [zI_in (by omega) (by omega)]; omega), zI_zx (by omega) (by omega), c0, zI_add, zg_t (by rw [zI_in (by omega) (by omega)]; omega), zI_zx (by omega) (by omega), c1, zI_n1, zI_add, zI_add, eM_losing_154, zg_t (by rw [zI_in (by omega) (by omega)]; omega), zI_zx (by omega) (by omega), c0, show (116 : Int32) = zI 116 from rfl, zI_add, zg_t (by rw [zI_in (by omega) (by omega)]; omega), zI_zx (by omega) (by omega), c1, zI_n1, zI_add, zI_add, zI_add]
    have n0 : zI 0 = (0 : Int32) := rfl
    have n1 : ¬ (zI 1 = (0 : Int32)) := by decide
    by_cases h9 : y 9 n = 0
    · by_cases a0 : zEl y r 0 l n
      · rw [sI_t (show y 9 n = 0 ∧ zEl y r 0 l n from ⟨h9, a0⟩), zif_neg n1]
        by_cases a1 : zEl y r 1 l n
        · rw [sI_t (show y 9 n = 0 ∧ zEl y r 1 l n from ⟨h9, a1⟩), zif_neg n1]
          rw [sI_f (fun q => q.2.1 a1), sI_f (fun q => q.2.1 a0), sI_t ⟨a0, a1, h9⟩, Int.add_zero, Int.add_zero] at ih
          rw [← ih]
          congr 2
          omega
        · rw [sI_f (fun q => a1 q.2), zif_pos n0, zif_neg n1]
          rw [sI_t ⟨a0, a1, h9⟩, sI_f (fun q => a1 q.1), sI_f (fun q => a1 q.2.1), Int.add_zero, Int.add_zero] at ih
          exact ih
      · rw [sI_f (fun q => a0 q.2), zif_pos n0, zif_pos n0]
        by_cases a1 : zEl y r 1 l n
        · rw [sI_t (show y 9 n = 0 ∧ zEl y r 1 l n from ⟨h9, a1⟩), zif_neg n1]
          rw [sI_f (fun q => a0 q.1), sI_t ⟨a1, a0, h9⟩, sI_f (fun q => a0 q.1), Int.add_zero, Int.add_zero] at ih
          exact ih
        · rw [sI_f (fun q => a1 q.2), zif_pos n0]
          rw [sI_f (fun q => a0 q.1), sI_f (fun q => a1 q.1), sI_f (fun q => a0 q.1), Int.add_zero, Int.add_zero, Int.add_zero] at ih
          exact ih
    · rw [sI_f (fun q => h9 q.1), zif_pos n0, zif_pos n0, sI_f (fun q => h9 q.1), zif_pos n0]
      rw [sI_f (fun q => h9 q.2.2), sI_f (fun q => h9 q.2.2), sI_f (fun q => h9 q.2.2), Int.add_zero, Int.add_zero, Int.add_zero] at ih
      exact ih
theorem zM_losing_s (h : zR K x y S) (g : zGp y) (go : zGo y) (d : Nat) {r l k a : Int} (hr : zSl y r) (hl : 0 ≤ l ∧ l < 10) (hk : 1 ≤ k ∧ k ≤ 8) (ha : 0 ≤ a ∧ a ≤ 1000) : zwp (zM_losing (d + 2) (zI r) (zI l) (zI k) (zI a) S) (fun q => q.1 = zI (sLosing y r l k a) ∧ zR K x y q.2) := by
  have b2 := zG2 g
  have b5 := zG45 g hr.1 hr.2.1
  have b5' := zG5 g r
  rw [eM_losing]
  refine zM_losing_13_s (K := K) (x := x) (y := y) (d + 1) _ (fun S1 h1 c1 => ?_) 232 0 S (by omega) h (fun i hi => by omega)
  refine zM_losing_38_s g d (r := r) (l := l) (by omega) hl _ (fun S2 h2 c2 => ?_) (y 5 r).toNat 0 S1 (by omega) h1 (fun t e t0 t1 e0 e1 => ?_)
  · have q := zM_losing_118_s g go d (k := k) (a := a) (by omega) hl hk ha h2 c2 b5.2 116 0 (by omega)
    have q : zM_losing_118 (d + 1) (zI r) (zI k) (zI 0) (zI 0) (zI (0 + a)) (zI 0) S2 = some (zI (sLosing y r l k a), S2) := q
    rw [Int.zero_add] at q
    exact ⟨_, q, rfl, h2⟩
  · rw [c1 _ (by omega), sI_f]
    rintro ⟨q, w | ⟨w, z, z0, z1, z2⟩⟩
    · omega
    · omega
end LM
