/-! LAID of the reference, whole -/
section LD
variable {K : ZS} {x y : ZW} {S : ZS}
theorem zM_laid_56_s (gd : zGd y) (h40 : ∀ e, y 40 e = 0) (d : Nat) {l v m w : Int} (hl : zLn y l) (hv : 0 ≤ v ∧ v ≤ 99999) (hm : 1 ≤ m ∧ m ≤ 5) (hw : 0 ≤ w ∧ w ≤ 1) :
    ∀ (n : Nat) (j : Int) (S : ZS), 0 ≤ j → j + n = y 11 0 → zR K x y S → (∀ i', 0 ≤ i' → i' < j → ¬ (sMv y i' ∧ sBo y l v m i')) →
    zwp (zM_laid_56 (d + 5) (zI l) (zI v) (zI m) (zI w) (zI j) S) (fun r => ∃ u, r.1 = zI u ∧ ((∃ i, 0 ≤ i ∧ i < y 11 0 ∧ (sMv y i ∧ sBo y l v m i) ∧ (∀ i', 0 ≤ i' → i' < i → ¬ (sMv y i' ∧ sBo y l v m i')) ∧ ((w = 0 ∧ u = 1) ∨ (w ≠ 0 ∧ u = i))) ∨ ((∀ i, 0 ≤ i → i < y 11 0 → ¬ (sMv y i ∧ sBo y l v m i)) ∧ u = -1)) ∧ zR K x y r.2) := by
  have b11 := zG11 gd.1
  intro n
  induction n with
  | zero =>
    intro j S j0 e h no
    rw [eM_laid_56, zRm11 h, zI_le (by omega) (by omega) (by omega) (by omega), zif_pos (by omega), zwp_some]
    exact ⟨-1, rfl, Or.inr ⟨fun i a b => no i a (by omega), rfl⟩, h⟩
  | succ n ih =>
    intro j S j0 e h no
    have hj : zLn y j := ⟨j0, by omega⟩
    have b15 := zG15 gd.1 j
    have bx16 := zRby h 16 j
    have bx18 := zRby h 18 j
    have nx : ∀ S', zR K x y S' → ¬ (sMv y j ∧ sBo y l v m j) → zwp (zM_laid_56 (d + 5) (zI l) (zI v) (zI m) (zI w) (zI (j + 1)) S') (fun r => ∃ u, r.1 = zI u ∧ ((∃ i, 0 ≤ i ∧ i < y 11 0 ∧ (sMv y i ∧ sBo y l v m i) ∧ (∀ i', 0 ≤ i' → i' < i → ¬ (sMv y i' ∧ sBo y l v m i')) ∧ ((w = 0 ∧ u = 1) ∨ (w ≠ 0 ∧ u = i))) ∨ ((∀ i, 0 ≤ i → i < y 11 0 → ¬ (sMv y i ∧ sBo y l v m i)) ∧ u = -1)) ∧ zR K x y r.2) := fun S' h' hn => ih (j + 1) S' (by omega) (by omega) h' (fun i' a b => by
      by_cases t : i' = j
      · rw [t]; exact hn
      · exact no i' a (by omega))
    rw [eM_laid_56, zRm11 h, zI_le (by omega) (by omega) (by omega) (by omega), zif_neg (by omega), zg_t (by rw [zI_in (by omega) (by omega)]; omega), zI_zx (by omega) (by omega), zRm15 h (by omega) (by omega), zI_n1, zI_add, zI_eq (by omega) (by omega) (by omega) (by omega)]
    by_cases hc : y 15 j = 1
    · rw [zif_pos hc, zg_t (by rw [zI_in (by omega) (by omega)]; omega), zRm16 h (by omega) (by omega), zI_n5, zI_lt (by omega) (by omega) (by omega) (by omega)]
      by_cases s5 : y 16 j < 5
      · rw [zif_pos s5]
        exact nx S h (fun q => by have := q.1.2.1; omega)
      · rw [zif_neg s5, zg_t (by rw [zI_in (by omega) (by omega)]; omega), zRm18 h (by omega) (by omega), zI_lt (by omega) (by omega) (by omega) (by omega)]
        by_cases t5 : 5 < y 18 j
        · rw [zif_pos t5]
          exact nx S h (fun q => by have := q.1.2.2; omega)
        · have hv' : sMv y j := ⟨hc, by omega, by omega⟩
          rw [zif_neg t5, zwp_bind]
          refine zwp_mono (zM_canMove_s h gd d hj hc (by omega) hl hv (by omega)) (fun r k => ?_)
          obtain ⟨r1, S2⟩ := r
          obtain ⟨k1, k2⟩ := k
          dsimp only at k1 k2 ⊢
          have e := sBo_e (l := l) (v := v) (m := m) gd h40 hl.1 (by omega) hj hc (by omega)
          rw [k1, zb_0]
          by_cases hb : sBo y l v m j
          · rw [zif_neg (fun q => q (e.2 hb)), zI_n0, zI_eq (by omega) (by omega) (by omega) (by omega)]
            by_cases w0 : w = 0
            · rw [zif_pos w0, zwp_some]
              exact ⟨1, rfl, Or.inl ⟨j, j0, hj.2, ⟨hv', hb⟩, no, Or.inl ⟨w0, rfl⟩⟩, k2⟩
            · rw [zif_neg w0, zwp_some]
              exact ⟨j, rfl, Or.inl ⟨j, j0, hj.2, ⟨hv', hb⟩, no, Or.inr ⟨w0, rfl⟩⟩, k2⟩
          · rw [zif_pos (fun q => hb (e.1 q))]
            exact nx S2 k2 (fun q => hb q.2)
    · rw [zif_neg hc]
      exact nx S h (fun q => hc q.1.1)
theorem zM_laid_s (h : zR K x y S) (gd : zGd y) (h40 : ∀ e, y 40 e = 0) (h41 : ∀ j, y 41 j = 0) (d : Nat) {l v m w : Int} (l1 : -2147483648 ≤ l) (l2 : l < 2147483648) (v1 : -2147483648 ≤ v) (v2 : v < 2147483648) (m1 : -2147483648 ≤ m) (m2 : m < 2147483648) (w1 : -2147483648 ≤ w) (w2 : w < 2147483648) :
    zwp (zM_laid (d + 6) (zI l) (zI v) (zI m) (zI w) S) (fun r => ∃ u, r.1 = zI u ∧ zLd y (sA0 y l v m) (fun i => sMv y i ∧ sBo y l v m i) l v m w u ∧ zR K x y r.2) := by
  have b11 := zG11 gd.1
  rw [eM_laid]
  have h0 := zR_s h (t := 11) (s := 0) rfl 0 (0 : Int32)
  generalize hS : ((zu S.1 11 0 0 (0 : Int32)), S.2) = S' at h0 ⊢
  have hS1 : zu S.1 11 0 0 (0 : Int32) = S'.1 := by rw [← hS]
  have hS2 : S.2 = S'.2 := by rw [← hS]
  try simp only [hS1, hS2]
  rw [zM_canTry_s h0 gd.1 (d + 2) l1 l2 v1 v2 m1 m2, zBs]
  dsimp only
  rw [zb_0]
  by_cases hc : sTry y l v m
  · rw [zif_neg (fun q => q hc), zI_n0, zI_n1, zM_within_s S' (d + 4) w1 w2 (by omega) (by omega) (by omega) (by omega), zBs]
    dsimp only
    rw [show zI 0 = (0 : Int32) from rfl, zb_0]
    by_cases hw : 0 ≤ w ∧ w ≤ 1
    · have ok : sTry y l v m ∧ 0 ≤ w ∧ w ≤ 1 := ⟨hc, hw⟩
      have hc' := hc
      unfold sTry at hc'
      rw [zif_neg (fun q => q hw), zwp_bind]
      refine zwp_mono (zM_clears_s h0 h40 h41 (zEv_r y) (d + 4)) (fun S3 h3 => ?_)
      rw [zwp_bind, zI_neg]
      refine zwp_mono (zM_canLay_s h3 gd.1 (d + 1) (l := l) (v := v) (m := m) (away := -1) hc'.1 (by omega) (by omega) (by omega)) (fun r k => ?_)
      obtain ⟨r1, S4⟩ := r
      obtain ⟨k1, k2, -⟩ := k
      dsimp only at k1 k2 ⊢
      have e := sA0_e (l := l) (v := v) (m := m) gd.1 h40 (by omega)
      rw [k1, zb_0]
      by_cases a0 : sA0 y l v m
      · rw [zif_neg (fun q => q (e.2 a0)), zI_n0, zI_eq (by omega) (by omega) (by omega) (by omega)]
        by_cases w0 : w = 0
        · rw [zif_pos w0, zwp_some]
          exact ⟨0, rfl, Or.inr ⟨ok, Or.inl ⟨a0, Or.inl ⟨w0, rfl⟩⟩⟩, k2⟩
        · rw [zif_neg w0, zwp_some]
          exact ⟨-1, rfl, Or.inr ⟨ok, Or.inl ⟨a0, Or.inr ⟨w0, rfl⟩⟩⟩, k2⟩
      · rw [zif_pos (fun q => a0 (e.1 q)), zI_n0]
        refine zwp_mono (zM_laid_56_s gd h40 d hc'.1 (v := v) (m := m) (by omega) (by omega) hw (y 11 0).toNat 0 S4 (by omega) (by omega) k2 (fun i a b => by omega)) (fun r k => ?_)
        obtain ⟨u, u1, u2, u3⟩ := k
        exact ⟨u, u1, Or.inr ⟨ok, Or.inr ⟨a0, u2⟩⟩, u3⟩
    · rw [zif_pos hw, zwp_some]
      exact ⟨-1, rfl, Or.inl ⟨fun q => hw q.2, rfl⟩, h0⟩
  · rw [zif_pos hc, zwp_some]
    exact ⟨-1, rfl, Or.inl ⟨fun q => hc q.1, rfl⟩, h0⟩
end LD
