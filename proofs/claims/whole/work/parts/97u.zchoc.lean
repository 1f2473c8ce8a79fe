/-! EXPLAIN, SURE: the class's reads of its notes -/
section CH
variable {K : ZS} {x y : ZW} {S : ZS}
theorem zK_50 (h : zR K x y S) (i k : Nat) : S.1 50 i k = K.1 50 i k := h.2.2.2.1.1 50 rfl i k
theorem zK_51 (h : zR K x y S) (i k : Nat) : S.1 51 i k = K.1 51 i k := h.2.2.2.1.1 51 rfl i k
theorem zB_isExplained_15_s (d : Nat) {t had i e : Int} (ht : 0 ≤ t ∧ t < 60) (hd : 0 ≤ had ∧ had ≤ 3) (hi : 0 ≤ i ∧ i < 6) (he : 0 ≤ e ∧ e < 96) (hc : S.1 50 0 (6 * t + i).toNat = zI e) {v : Int → Int} (hv : ∀ j, 0 ≤ j → j < had → 0 ≤ v j ∧ v j < 96 ∧ S.1 54 0 j.toNat = zI (v j)) :
    ∀ (m : Nat) (j : Int), 0 ≤ j → j + m = had → ((∃ j', j ≤ j' ∧ j' < had ∧ v j' = e) → zB_isExplained_15 d (zI t) (zI had) (zI i) (zI j) S = some (1, S)) ∧ ((¬ ∃ j', j ≤ j' ∧ j' < had ∧ v j' = e) → zB_isExplained_15 d (zI t) (zI had) (zI i) (zI j) S = zB_isExplained_2 d (zI t) (zI had) (zI (i + 1)) S) := by
  intro m
  induction m with
  | zero =>
    intro j j0 ej
    rw [eB_isExplained_15, zI_le (by omega) (by omega) (by omega) (by omega), zif_pos (by omega), zI_n1, zI_add]
    refine ⟨?_, fun _ => rfl⟩
    rintro ⟨j', a, b, -⟩
    omega
  | succ m ih =>
    intro j j0 ej
    have hj := hv j j0 (by omega)
    have ih := ih (j + 1) (by omega) (by omega)
    rw [eB_isExplained_15, zI_le (by omega) (by omega) (by omega) (by omega), zif_neg (by omega), zI_n6, zI_mul, zI_add, show t * 6 + i = 6 * t + i by omega, zg_t (by rw [zI_in (by omega) (by omega)]; omega), zg_t (by rw [zI_in (by omega) (by omega)]; omega), zI_zx (by omega) (by omega), zI_zx (by omega) (by omega), hc, hj.2.2, zI_eq (by omega) (by omega) (by omega) (by omega), zI_n1, zI_add]
    by_cases q : e = v j
    · rw [zif_pos q]
      exact ⟨fun _ => rfl, fun w => absurd ⟨j, by omega, by omega, q.symm⟩ w⟩
    · rw [zif_neg q]
      refine ⟨fun w => ih.1 ?_, fun w => ih.2 ?_⟩
      · obtain ⟨j', a, b, c⟩ := w
        by_cases hj' : j' = j
        · rw [hj'] at c; exact absurd c.symm q
        · exact ⟨j', by omega, b, c⟩
      · rintro ⟨j', a, b, c⟩
        exact w ⟨j', by omega, b, c⟩
theorem zB_isExplained_2_s (h : zR K x y S) (tc : zTC x K) (d : Nat) {t had n : Int} (ht : 0 ≤ t ∧ t < x 35 0) (h60 : x 35 0 ≤ 60) (hd : 0 ≤ had ∧ had ≤ 3) (hn : 0 ≤ n ∧ n ≤ 6) (hK : K.1 51 0 t.toNat = zI n) (hE : ∀ i, 0 ≤ i → i < n → ∃ e, 0 ≤ e ∧ e < 96 ∧ K.1 50 0 (6 * t + i).toNat = zI e) {v : Int → Int} (hv : ∀ j, 0 ≤ j → j < had → 0 ≤ v j ∧ v j < 96 ∧ S.1 54 0 j.toNat = zI (v j)) :
    ∀ (m : Nat) (i : Int), 0 ≤ i → i + m = n → zB_isExplained_2 d (zI t) (zI had) (zI i) S = some (zb (∃ i' e, i ≤ i' ∧ i' < n ∧ 0 ≤ e ∧ e < 96 ∧ K.1 50 0 (6 * t + i').toNat = zI e ∧ ∃ j, 0 ≤ j ∧ j < had ∧ v j = e), S) := by
  intro m
  induction m with
  | zero =>
    intro i i0 ei
    rw [eB_isExplained_2, zg_t (by rw [zI_in (by omega) (by omega)]; omega), zI_zx (by omega) (by omega), zK_51 h, hK, zI_le (by omega) (by omega) (by omega) (by omega), zif_pos (by omega), zb_f]
    rintro ⟨i', e, a, b, -⟩
    omega
  | succ m ih =>
    intro i i0 ei
    have ih := ih (i + 1) (by omega) (by omega)
    obtain ⟨e, e0, e1, e2⟩ := hE i i0 (by omega)
    have q := zB_isExplained_15_s (S := S) d (t := t) (had := had) (i := i) (e := e) (by omega) hd (by omega) ⟨e0, e1⟩ ((zK_50 h _ _).trans e2) hv had.toNat 0 (by omega) (by omega)
    rw [eB_isExplained_2, zg_t (by rw [zI_in (by omega) (by omega)]; omega), zI_zx (by omega) (by omega), zK_51 h, hK, zI_le (by omega) (by omega) (by omega) (by omega), zif_neg (by omega), zI_n0]
    by_cases hq : ∃ j', 0 ≤ j' ∧ j' < had ∧ v j' = e
    · refine (q.1 hq).trans ?_
      rw [zb_t ⟨i, e, by omega, by omega, e0, e1, e2, hq⟩]
    · refine (q.2 hq).trans (ih.trans (congrArg (fun w => some (w, S)) (zb_c ?_)))
      constructor
      · rintro ⟨i', e', a, b, c⟩
        exact ⟨i', e', by omega, b, c⟩
      · rintro ⟨i', e', a, b, c0, c1, c2, c3⟩
        by_cases hi : i' = i
        · rw [hi, e2, zI_eq (by omega) (by omega) (by omega) (by omega)] at c2
          rw [← c2] at c3
          exact absurd c3 hq
        · exact ⟨i', e', by omega, b, c0, c1, c2, c3⟩
theorem zB_isExplained_s (h : zR K x y S) (tc : zTC x K) (d : Nat) {t had : Int} (ht : 0 ≤ t ∧ t < x 35 0) (h60 : x 35 0 ≤ 60) (hd : 0 ≤ had ∧ had ≤ 3) {v : Int → Int} (hv : ∀ j, 0 ≤ j → j < had → 0 ≤ v j ∧ v j < 96 ∧ S.1 54 0 j.toNat = zI (v j)) :
    zB_isExplained (d + 1) (zI t) (zI had) S = some (zb (∃ j, 0 ≤ j ∧ j < had ∧ x 37 (96 * t + v j) = 1), S) := by
  obtain ⟨-, -, n, n0, n6, hK, h3, h4⟩ := tc t ht.1 ht.2
  rw [eB_isExplained, zI_n0]
  refine (zB_isExplained_2_s h tc d ht h60 hd ⟨n0, n6⟩ hK (fun i i0 i1 => ?_) hv n.toNat 0 (by omega) (by omega)).trans (congrArg (fun w => some (w, S)) (zb_c ?_))
  · obtain ⟨e, e0, e1, -, -, e2⟩ := h3 i i0 i1
    exact ⟨e, e0, e1, e2⟩
  · constructor
    · rintro ⟨i, e, i0, i1, e0, e1, e2, j, j0, j1, j2⟩
      obtain ⟨f, f0, f1, -, f2, f3⟩ := h3 i i0 i1
      rw [e2, zI_eq (by omega) (by omega) (by omega) (by omega)] at f3
      exact ⟨j, j0, j1, by rw [j2, f3]; exact f2⟩
    · rintro ⟨j, j0, j1, j2⟩
      have hj := hv j j0 j1
      obtain ⟨i, i0, i1, i2⟩ := h4 (v j) hj.1 hj.2.1 j2
      exact ⟨i, v j, i0, i1, hj.1, hj.2.1, i2, j, j0, j1, rfl⟩
/-- a failed test that the chosen ones leave unexplained -/
def zUx (x : ZW) (had : Int) (v : Int → Int) (t : Int) : Prop := x 36 t = 1 ∧ ¬ ∃ j, 0 ≤ j ∧ j < had ∧ x 37 (96 * t + v j) = 1
theorem zB_firstUnexplained_2_s (h : zR K x y S) (tc : zTC x K) (d : Nat) {had : Int} (h60 : x 35 0 ≤ 60) (hd : 0 ≤ had ∧ had ≤ 3) {v : Int → Int} (hv : ∀ j, 0 ≤ j → j < had → 0 ≤ v j ∧ v j < 96 ∧ S.1 54 0 j.toNat = zI (v j)) :
    ∀ (m : Nat) (t : Int), 0 ≤ t → t + m = x 35 0 → ∃ r, zB_firstUnexplained_2 (d + 1) (zI had) (zI t) S = some (zI r, S) ∧ ((r = -1 ∧ ∀ t', t ≤ t' → t' < x 35 0 → ¬ zUx x had v t') ∨ (t ≤ r ∧ r < x 35 0 ∧ zUx x had v r)) := by
  intro m
  induction m with
  | zero =>
    intro t t0 e
    refine ⟨-1, ?_, Or.inl ⟨rfl, fun t' a b => by omega⟩⟩
    rw [eB_firstUnexplained_2, zRc35 h, zI_le (by omega) (by omega) (by omega) (by omega), zif_pos (by omega)]
    rfl
  | succ m ih =>
    intro t t0 e
    obtain ⟨r, r1, r2⟩ := ih (t + 1) (by omega) (by omega)
    have b36 := (tc t t0 (by omega)).1
    have skip : ¬ zUx x had v t → (r = -1 ∧ ∀ t', t ≤ t' → t' < x 35 0 → ¬ zUx x had v t') ∨ (t ≤ r ∧ r < x 35 0 ∧ zUx x had v r) := by
      intro hn
      rcases r2 with ⟨a, b⟩ | ⟨a, b⟩
      · refine Or.inl ⟨a, fun t' c0 c1 => ?_⟩
        by_cases ht : t' = t
        · rw [ht]; exact hn
        · exact b t' (by omega) c1
      · exact Or.inr ⟨by omega, b⟩
    rw [eB_firstUnexplained_2, zRc35 h, zI_le (by omega) (by omega) (by omega) (by omega), zif_neg (by omega), zg_t (by rw [zI_in (by omega) (by omega)]; omega), zI_zx (by omega) (by omega), zRc36 h (by omega) (by omega), zI_n0, zI_eq (by omega) (by omega) (by omega) (by omega), zI_n1, zI_add]
    by_cases h36 : x 36 t = 0
    · refine ⟨r, ?_, skip (fun q => by have := q.1; omega)⟩
      rw [zif_pos h36]
      exact r1
    · rw [zif_neg h36, zB_isExplained_s h tc d (by omega) h60 hd hv, zBs]
      dsimp only
      rw [show zI 0 = (0 : Int32) from rfl, zb_0]
      by_cases hx : ∃ j, 0 ≤ j ∧ j < had ∧ x 37 (96 * t + v j) = 1
      · refine ⟨r, ?_, skip (fun q => q.2 hx)⟩
        rw [zif_neg (fun q => q hx)]
        exact r1
      · refine ⟨t, ?_, Or.inr ⟨by omega, by omega, by omega, hx⟩⟩
        rw [zif_pos hx]
theorem zB_firstUnexplained_s (h : zR K x y S) (tc : zTC x K) (d : Nat) {had : Int} (h60 : 0 ≤ x 35 0 ∧ x 35 0 ≤ 60) (hd : 0 ≤ had ∧ had ≤ 3) {v : Int → Int} (hv : ∀ j, 0 ≤ j → j < had → 0 ≤ v j ∧ v j < 96 ∧ S.1 54 0 j.toNat = zI (v j)) :
    ∃ r, zB_firstUnexplained (d + 2) (zI had) S = some (zI r, S) ∧ ((r = -1 ∧ ∀ t', 0 ≤ t' → t' < x 35 0 → ¬ zUx x had v t') ∨ (0 ≤ r ∧ r < x 35 0 ∧ zUx x had v r)) := by
  rw [eB_firstUnexplained, zI_n0]
  exact zB_firstUnexplained_2_s h tc d h60.2 hd hv (x 35 0).toNat 0 (by omega) (by omega)
end CH
