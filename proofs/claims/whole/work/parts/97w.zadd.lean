/-! EXPLAIN, SURE: the class puts a set in order -/
/-- u put in at place to -/
def zAi (w : Int → Int) (u to j : Int) : Int := if j < to then w j else if j = to then u else w (j - 1)
theorem zAi_m {w : Int → Int} {u to i : Int} (t0 : 0 ≤ to) (ti : to ≤ i) (mono : ∀ j, 0 ≤ j → j + 1 < i → w j < w (j + 1)) (h1 : 0 < to → w (to - 1) < u) (h2 : ∀ j, to ≤ j → j < i → u < w j) : ∀ j, 0 ≤ j → j + 1 < i + 1 → zAi w u to j < zAi w u to (j + 1) := by
  intro j j0 j1
  unfold zAi
  by_cases a : j + 1 < to
  · rw [if_pos (by omega), if_pos a]
    exact mono j j0 (by omega)
  · by_cases b : j + 1 = to
    · rw [if_pos (by omega), if_neg a, if_pos b]
      have := h1 (by omega)
      rw [show to - 1 = j by omega] at this
      exact this
    · rw [if_neg (by omega), if_neg a, if_neg b, show j + 1 - 1 = j by omega]
      by_cases c : j = to
      · rw [if_pos c]
        exact h2 j (by omega) (by omega)
      · rw [if_neg c]
        have := mono (j - 1) (by omega) (by omega)
        rw [show j - 1 + 1 = j by omega] at this
        exact this
theorem zAi_e {w : Int → Int} {u to i e : Int} (t0 : 0 ≤ to) (ti : to ≤ i) : (∃ j, 0 ≤ j ∧ j < i + 1 ∧ zAi w u to j = e) ↔ ((∃ j, 0 ≤ j ∧ j < i ∧ w j = e) ∨ u = e) := by
  constructor
  · rintro ⟨j, j0, j1, h⟩
    unfold zAi at h
    by_cases a : j < to
    · rw [if_pos a] at h
      exact Or.inl ⟨j, j0, by omega, h⟩
    · rw [if_neg a] at h
      by_cases b : j = to
      · rw [if_pos b] at h
        exact Or.inr h
      · rw [if_neg b] at h
        exact Or.inl ⟨j - 1, by omega, by omega, h⟩
  · rintro (⟨j, j0, j1, h⟩ | h)
    · by_cases a : j < to
      · exact ⟨j, j0, by omega, by unfold zAi; rw [if_pos a]; exact h⟩
      · exact ⟨j + 1, by omega, by omega, by unfold zAi; rw [if_neg (by omega), if_neg (by omega), show j + 1 - 1 = j by omega]; exact h⟩
    · exact ⟨to, t0, by omega, by unfold zAi; rw [if_neg (by omega), if_pos rfl]; exact h⟩
section AS
variable {K : ZS} {x y : ZW} {S : ZS}
/-- what putting in order leaves alone -/
def zAf (S0 S : ZS) : Prop := S.1 8 = S0.1 8 ∧ S.1 57 = S0.1 57 ∧ S.1 54 = S0.1 54 ∧ S.1 53 = S0.1 53 ∧ S.1 56 = S0.1 56
theorem zB_addSet_24_s (d : Nat) {had i u : Int} (hi : 0 ≤ i ∧ i < had ∧ had ≤ 3) (hu : 0 ≤ u ∧ u < 96) {w : Int → Int} (hw : ∀ j, 0 ≤ j → j < i → 0 ≤ w j ∧ w j < 96 ∧ w j ≠ u) (S0 : ZS) (h54 : S0.1 54 0 i.toNat = zI u) (Q : ZS → Prop)
    (hQ : ∀ S' to, 0 ≤ to → to ≤ i → (0 < to → w (to - 1) < u) → (∀ j, to ≤ j → j < i → u < w j) → zR K x y S' → zAf S0 S' → (∀ j, 0 ≤ j → j ≤ i → S'.1 55 0 j.toNat = zI (zAi w u to j)) → zwp (zB_addSet_2 d (zI had) (zI (i + 1)) S') Q) :
    ∀ (m : Nat) (S : ZS), (m : Int) ≤ i → zR K x y S → zAf S0 S → (∀ j : Int, 0 ≤ j → j < m → S.1 55 0 j.toNat = zI (w j)) → (∀ j : Int, (m : Int) < j → j ≤ i → S.1 55 0 j.toNat = zI (w (j - 1))) → (∀ j : Int, (m : Int) ≤ j → j < i → u < w j) → zwp (zB_addSet_24 d (zI had) (zI i) (zI m) S) Q := by
  intro m
  have put : ∀ (m : Nat) (S : ZS), (m : Int) ≤ i → zR K x y S → zAf S0 S → (∀ j : Int, 0 ≤ j → j < m → S.1 55 0 j.toNat = zI (w j)) → (∀ j : Int, (m : Int) < j → j ≤ i → S.1 55 0 j.toNat = zI (w (j - 1))) → (∀ j : Int, (m : Int) ≤ j → j < i → u < w j) → (0 < (m : Int) → w ((m : Int) - 1) < u) → zwp (zB_addSet_2 d (zI had) (zI (i + 1)) (zu S.1 55 0 (Int.toNat m) (zI u), S.2)) Q := by
    intro m S hm h f c1 c2 c3 c4
    refine hQ _ m (by omega) hm c4 c3 (zR_t h (t := 55) (by decide) 0 _ _) f (fun j j0 j1 => ?_)
    unfold zAi
    by_cases a : j < m
    · rw [if_pos a]
      exact (zu_pl S.1 (show j.toNat ≠ Int.toNat m by omega)).trans (c1 j j0 a)
    · rw [if_neg a]
      by_cases b : j = m
      · rw [if_pos b, b]
        exact zu_same S.1 55 0 (Int.toNat m) (zI u)
      · rw [if_neg b]
        exact (zu_pl S.1 (show j.toNat ≠ Int.toNat m by omega)).trans (c2 j (by omega) j1)
  induction m with
  | zero =>
    intro S hm h f c1 c2 c3
    have e54 : S.1 54 0 i.toNat = zI u := (congrFun (congrFun f.2.2.1 0) _).trans h54
    have p := put 0 S hm h f c1 c2 c3 (fun q => by omega)
    rw [eB_addSet_24, zI_n0, zI_le (by omega) (by omega) (by omega) (by omega), zif_pos (by omega), zg_t (by rw [zI_in (by omega) (by omega)]; omega), zg_t (by rw [zI_in (by omega) (by omega)]; omega), zI_zx (by omega) (by omega), zI_zx (by omega) (by omega), e54, zI_n1, zI_add]
    exact p
  | succ m ih =>
    intro S hm h f c1 c2 c3
    have e54 : S.1 54 0 i.toNat = zI u := (congrFun (congrFun f.2.2.1 0) _).trans h54
    have e55 := c1 m (by omega) (by omega)
    have wm := hw m (by omega) (by omega)
    rw [eB_addSet_24, zI_n0, zI_le (by omega) (by omega) (by omega) (by omega), zif_neg (by omega), zI_n1, zI_neg, zI_sub, zI_add, zI_add, show ((m + 1 : Nat) : Int) - 1 = m by omega, show ((m + 1 : Nat) : Int) + -1 = m by omega, zg_t (by rw [zI_in (by omega) (by omega)]; omega), zg_t (by rw [zI_in (by omega) (by omega)]; omega), zI_zx (by omega) (by omega), zI_zx (by omega) (by omega), e54, e55, zI_le (by omega) (by omega) (by omega) (by omega)]
    by_cases q : w m ≤ u
    · have p := put (m + 1) S hm h f c1 c2 c3 (fun _ => by rw [show ((m + 1 : Nat) : Int) - 1 = m by omega]; omega)
      rw [zif_pos q, zg_t (by rw [zI_in (by omega) (by omega)]; omega), zg_t (by rw [zI_in (by omega) (by omega)]; omega), zI_zx (by omega) (by omega)]
      exact p
    · rw [zif_neg q, zg_t (by rw [zI_in (by omega) (by omega)]; omega), zg_t (by rw [zI_in (by omega) (by omega)]; omega), zI_zx (by omega) (by omega)]
      refine ih _ (by omega) (zR_t h (t := 55) (by decide) 0 _ _) f (fun j j0 j1 => ?_) (fun j j0 j1 => ?_) (fun j j0 j1 => ?_)
      · exact (zu_pl S.1 (show j.toNat ≠ Int.toNat ((m + 1 : Nat) : Int) by omega)).trans (c1 j j0 (by omega))
      · by_cases b : j = ((m + 1 : Nat) : Int)
        · rw [b, show ((m + 1 : Nat) : Int) - 1 = m by omega]
          exact zu_same S.1 55 0 (Int.toNat ((m + 1 : Nat) : Int)) (zI (w m))
        · exact (zu_pl S.1 (show j.toNat ≠ Int.toNat ((m + 1 : Nat) : Int) by omega)).trans (c2 j (by omega) j1)
      · by_cases b : j = m
        · rw [b]; omega
        · exact c3 j (by omega) j1
end AS
