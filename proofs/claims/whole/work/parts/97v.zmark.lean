/-! EXPLAIN, SURE: the class marks what is sound -/
/-- switch e is met by one of the first t tests that passed -/
def zSo (x : ZW) (t e : Int) : Prop := ∃ t', 0 ≤ t' ∧ t' < t ∧ x 36 t' = 0 ∧ x 37 (96 * t' + e) = 1
section MS
variable {K : ZS} {x y : ZW} {S : ZS}
theorem zSo_s {t e : Int} (t0 : 0 ≤ t) : zSo x (t + 1) e ↔ (zSo x t e ∨ (x 36 t = 0 ∧ x 37 (96 * t + e) = 1)) := by
  constructor
  · rintro ⟨t', a, b, c⟩
    by_cases ht : t' = t
    · rw [ht] at c; exact Or.inr c
    · exact Or.inl ⟨t', a, by omega, c⟩
  · rintro (⟨t', a, b, c⟩ | c)
    · exact ⟨t', a, by omega, c⟩
    · exact ⟨t, t0, by omega, c⟩
/-- what marking leaves alone -/
def zMf (S0 S : ZS) : Prop := S.1 8 = S0.1 8 ∧ S.1 57 = S0.1 57 ∧ S.1 54 = S0.1 54 ∧ S.1 55 = S0.1 55 ∧ S.1 56 = S0.1 56
theorem zB_markSound_33_s (tc : zTC x K) (d : Nat) {t n : Int} (ht : 0 ≤ t ∧ t < x 35 0) (h60 : x 35 0 ≤ 60) (hn : 0 ≤ n ∧ n ≤ 6) (hK : K.1 51 0 t.toNat = zI n) (h0 : x 36 t = 0) (hE : ∀ i, 0 ≤ i → i < n → ∃ e, 0 ≤ e ∧ e < 96 ∧ K.1 50 0 (6 * t + i).toNat = zI e) (S0 : ZS) (Q : ZS → Prop)
    (hQ : ∀ S', zR K x y S' → zMf S0 S' → (∀ e, 0 ≤ e → e < 96 → S'.1 53 0 e.toNat = zI (sI (zSo x t e ∨ ∃ i', 0 ≤ i' ∧ i' < n ∧ K.1 50 0 (6 * t + i').toNat = zI e) 1 0)) → zwp (zB_markSound_23 d (zI (t + 1)) S') Q) :
    ∀ (m : Nat) (i : Int) (S : ZS), 0 ≤ i → i + m = n → zR K x y S → zMf S0 S → (∀ e, 0 ≤ e → e < 96 → S.1 53 0 e.toNat = zI (sI (zSo x t e ∨ ∃ i', 0 ≤ i' ∧ i' < i ∧ K.1 50 0 (6 * t + i').toNat = zI e) 1 0)) → zwp (zB_markSound_33 d (zI t) (zI i) S) Q := by
  intro m
  induction m with
  | zero =>
    intro i S i0 ei h f hc
    have e' : i = n := by omega
    subst e'
    rw [eB_markSound_33, zg_t (by rw [zI_in (by omega) (by omega)]; omega), zI_zx (by omega) (by omega), zK_51 h, hK, zI_le (by omega) (by omega) (by omega) (by omega), zif_pos (by omega), zI_n1, zI_add]
    exact hQ S h f hc
  | succ m ih =>
    intro i S i0 ei h f hc
    obtain ⟨e, e0, e1, e2⟩ := hE i i0 (by omega)
    have c50 : S.1 50 0 (6 * t + i).toNat = zI e := (zK_50 h _ _).trans e2
    rw [eB_markSound_33, zg_t (by rw [zI_in (by omega) (by omega)]; omega), zI_zx (by omega) (by omega), zK_51 h, hK, zI_le (by omega) (by omega) (by omega) (by omega), zif_neg (by omega), zg_t (by rw [zI_in (by omega) (by omega)]; omega), zRc36 h (by omega) (by omega), h0, zif_pos (show zI 0 = (0 : Int32) from rfl), zI_n6, zI_mul, zI_add, show t * 6 + i = 6 * t + i by omega, zg_t (by rw [zI_in (by omega) (by omega)]; omega), zI_zx (by omega) (by omega), c50, zg_t (by rw [zI_in (by omega) (by omega)]; omega), zg_t (show zbl 1 = true from rfl), zI_n1, zI_add, zI_zx (by omega) (by omega)]
    refine ih (i + 1) _ (by omega) (by omega) (zR_t h (t := 53) (by decide) 0 _ _) f (fun e' a c => ?_)
    by_cases he : e' = e
    · rw [he, sI_t (Or.inr ⟨i, by omega, by omega, e2⟩)]
      exact zu_same S.1 53 0 e.toNat (zI 1)
    · refine (zu_pl S.1 (show e'.toNat ≠ e.toNat by omega)).trans ((hc e' a c).trans (congrArg zI (sI_c ?_ 1 0)))
      constructor
      · rintro (q | ⟨i', a', b', c'⟩)
        · exact Or.inl q
        · exact Or.inr ⟨i', a', by omega, c'⟩
      · rintro (q | ⟨i', a', b', c'⟩)
        · exact Or.inl q
        · by_cases hi : i' = i
          · rw [hi, e2, zI_eq (by omega) (by omega) (by omega) (by omega)] at c'
            exact absurd c'.symm he
          · exact Or.inr ⟨i', a', by omega, c'⟩
theorem zB_markSound_23_s (tc : zTC x K) (d : Nat) (h60 : x 35 0 ≤ 60) (S0 : ZS) :
    ∀ (m : Nat) (t : Int) (S : ZS), 0 ≤ t → t + m = x 35 0 → zR K x y S → zMf S0 S → (∀ e, 0 ≤ e → e < 96 → S.1 53 0 e.toNat = zI (sI (zSo x t e) 1 0)) →
    zwp (zB_markSound_23 d (zI t) S) (fun S' => zR K x y S' ∧ zMf S0 S' ∧ ∀ e, 0 ≤ e → e < 96 → S'.1 53 0 e.toNat = zI (sI (zSo x (x 35 0) e) 1 0)) := by
  intro m
  induction m with
  | zero =>
    intro t S t0 e h f hc
    have et : t = x 35 0 := by omega
    rw [eB_markSound_23, zRc35 h, zI_le (by omega) (by omega) (by omega) (by omega), zif_pos (by omega), zwp_some]
    rw [← et]
    exact ⟨h, f, hc⟩
  | succ m ih =>
    intro t S t0 e h f hc
    obtain ⟨b36, b37, n, n0, n6, hK, h3, h4⟩ := tc t t0 (by omega)
    rw [eB_markSound_23, zRc35 h, zI_le (by omega) (by omega) (by omega) (by omega), zif_neg (by omega), zI_n0]
    by_cases h0 : x 36 t = 0
    · refine zB_markSound_33_s tc d (by omega) h60 ⟨n0, n6⟩ hK h0 (fun i i0 i1 => ?_) S0 _ (fun S' h' f' hc' => ih (t + 1) S' (by omega) (by omega) h' f' (fun e' a c => ?_)) n.toNat 0 S (by omega) (by omega) h f (fun e' a c => ?_)
      · obtain ⟨e', a, b, -, -, c⟩ := h3 i i0 i1
        exact ⟨e', a, b, c⟩
      · rw [hc' e' a c]
        refine congrArg zI (sI_c (Iff.trans ?_ (zSo_s t0).symm) 1 0)
        constructor
        · rintro (q | ⟨i, i0, i1, i2⟩)
          · exact Or.inl q
          · obtain ⟨e2, a2, b2, -, c2, d2⟩ := h3 i i0 i1
            rw [i2, zI_eq (by omega) (by omega) (by omega) (by omega)] at d2
            exact Or.inr ⟨h0, by rw [d2]; exact c2⟩
        · rintro (q | ⟨-, q⟩)
          · exact Or.inl q
          · exact Or.inr (h4 e' a c q)
      · rw [hc e' a c]
        refine congrArg zI (sI_c ⟨fun q => Or.inl q, fun q => q.elim (fun w => w) (fun w => ?_)⟩ 1 0)
        obtain ⟨i, i0, i1, -⟩ := w
        omega
    · have go : zwp (zB_markSound_23 d (zI (t + 1)) S) (fun S' => zR K x y S' ∧ zMf S0 S' ∧ ∀ e, 0 ≤ e → e < 96 → S'.1 53 0 e.toNat = zI (sI (zSo x (x 35 0) e) 1 0)) := by
        refine ih (t + 1) S (by omega) (by omega) h f (fun e' a c => ?_)
        rw [hc e' a c]
        exact congrArg zI (sI_c (Iff.trans ⟨fun q => Or.inl q, fun q => q.elim (fun w => w) (fun w => absurd w.1 h0)⟩ (zSo_s t0).symm) 1 0)
      rw [eB_markSound_33, zg_t (by rw [zI_in (by omega) (by omega)]; omega), zI_zx (by omega) (by omega), zK_51 h, hK, zI_le (by omega) (by omega) (by omega) (by omega), zI_n1, zI_add]
      by_cases hn : n ≤ 0
      · rw [zif_pos hn]
        exact go
      · rw [zif_neg hn, zg_t (by rw [zI_in (by omega) (by omega)]; omega), zRc36 h (by omega) (by omega), zI_n0, zI_eq (by omega) (by omega) (by omega) (by omega), zif_neg h0]
        exact go
theorem zB_markSound_2_s (tc : zTC x K) (d : Nat) (h60 : 0 ≤ x 35 0 ∧ x 35 0 ≤ 60) (S0 : ZS) :
    ∀ (m : Nat) (a : Int) (S : ZS), 0 ≤ a → a + m = 96 → zR K x y S → zMf S0 S → (∀ e, 0 ≤ e → e < a → S.1 53 0 e.toNat = zI 0) →
    zwp (zB_markSound_2 d (zI a) S) (fun S' => zR K x y S' ∧ zMf S0 S' ∧ ∀ e, 0 ≤ e → e < 96 → S'.1 53 0 e.toNat = zI (sI (zSo x (x 35 0) e) 1 0)) := by
  intro m
  induction m with
  | zero =>
    intro a S a0 e h f hc
    rw [eB_markSound_2, zI_n96, zI_le (by omega) (by omega) (by omega) (by omega), zif_pos (by omega), zI_n0]
    refine zB_markSound_23_s tc d h60.2 S0 (x 35 0).toNat 0 S (by omega) (by omega) h f (fun e' b c => ?_)
    rw [hc e' b (by omega), sI_f]
    rintro ⟨t', q, w, -⟩
    omega
  | succ m ih =>
    intro a S a0 e h f hc
    rw [eB_markSound_2, zI_n96, zI_le (by omega) (by omega) (by omega) (by omega), zif_neg (by omega), zg_t (by rw [zI_in (by omega) (by omega)]; omega), zg_t (show zbl 0 = true from rfl), zI_n1, zI_add, zI_zx (by omega) (by omega), zI_n0]
    refine ih (a + 1) _ (by omega) (by omega) (zR_t h (t := 53) (by decide) 0 _ _) f (fun e' b c => ?_)
    by_cases he : e' = a
    · rw [he]
      exact zu_same S.1 53 0 a.toNat (zI 0)
    · exact (zu_pl S.1 (show e'.toNat ≠ a.toNat by omega)).trans (hc e' b (by omega))
theorem zB_markSound_s (h : zR K x y S) (tc : zTC x K) (d : Nat) (h60 : 0 ≤ x 35 0 ∧ x 35 0 ≤ 60) :
    zwp (zB_markSound (d + 1) S) (fun S' => zR K x y S' ∧ zMf S S' ∧ ∀ e, 0 ≤ e → e < 96 → S'.1 53 0 e.toNat = zI (sI (zSo x (x 35 0) e) 1 0)) := by
  rw [eB_markSound, zI_n0]
  exact zB_markSound_2_s tc d h60 S 96 0 S (by omega) (by omega) h ⟨rfl, rfl, rfl, rfl, rfl⟩ (fun e a b => by omega)
end MS
