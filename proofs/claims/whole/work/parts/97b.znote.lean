/-! TEST of the class: note -/
/-- K with other notes -/
def zKn (K K' : ZS) (T : Int) : Prop := (∀ t, t ≠ 50 → t ≠ 51 → K'.1 t = K.1 t) ∧ K'.2 = K.2 ∧ (∀ k : Nat, (k : Int) < 6 * T → K'.1 50 0 k = K.1 50 0 k) ∧ (∀ k : Nat, (k : Int) ≠ T → K'.1 51 0 k = K.1 51 0 k)
section NO
variable {K : ZS} {x y : ZW} {S : ZS}
/-- a kept cell is written, the keeping with it -/
theorem zR_k (h : zR K x y S) {t : Nat} (ht : t = 50 ∨ t = 51) (k : Nat) (v : Int32) : zR (zu K.1 t 0 k v, K.2) x y (zu S.1 t 0 k v, S.2) := by
  obtain ⟨h1, h2, h3, h4, h5, h6, h7⟩ := h
  have hf : zfrt t = true ∧ t ≠ 2 ∧ t ≠ 29 ∧ t ≠ 30 ∧ t ≠ 21 := by rcases ht with rfl | rfl <;> exact ⟨by decide, by decide, by decide, by decide, by decide⟩
  obtain ⟨n0, n1, n2, n3, n4⟩ := hf
  refine ⟨zRt_t n0 h1 0 k v, fun j a b => ?_, fun r n a b c d => (zu_tag _ n4.symm).trans (h3 r n a b c d), ⟨fun t' h' i' k' => ?_, h4.2⟩, h5, h6, h7⟩
  · have q := h2 j a b
    unfold zLC zLA zLQ at q ⊢
    have e2 : ∀ i' k', zu S.1 t 0 k v 2 i' k' = S.1 2 i' k' := fun i' k' => zu_tag _ n1.symm
    have e29 : ∀ i' k', zu S.1 t 0 k v 29 i' k' = S.1 29 i' k' := fun i' k' => zu_tag _ n2.symm
    have e30 : ∀ i' k', zu S.1 t 0 k v 30 i' k' = S.1 30 i' k' := fun i' k' => zu_tag _ n3.symm
    simp only [e2, e29, e30]
    exact q
  · have q := h4.1 t' h' i' k'
    show (if t' = t ∧ i' = 0 ∧ k' = k then v else S.1 t' i' k') = if t' = t ∧ i' = 0 ∧ k' = k then v else K.1 t' i' k'
    rw [q]
/-- the notes of test T: n switches, of those that p tells below h -/
def zNt (I : ZMp Int32) (T n : Int) (p : Int → Int) (h : Int) : Prop := (∀ j, 0 ≤ j → j < n → ∃ i, 0 ≤ i ∧ i < h ∧ p i < 96 ∧ I 50 0 (6 * T + j).toNat = zI (p i)) ∧ (∀ i, 0 ≤ i → i < h → p i < 96 → ∃ j, 0 ≤ j ∧ j < n ∧ I 50 0 (6 * T + j).toNat = zI (p i))
theorem zB_note_15_s (d : Nat) {l T H f : Int} {p : Int → Int} (g : zGp x) (hT : 0 ≤ T ∧ T < 60) (hH : 0 ≤ H ∧ H ≤ 6) (hp : ∀ i, 0 ≤ i → i < H → zEn x (p i)) (hf : f = 0 ∨ f = 1) :
    ∀ (m n : Nat) (s : Int) (K S : ZS), (n : Int) + m = H → 0 ≤ s → s ≤ n → zR K x y S → x 35 0 = T → S.1 2 l.toNat 5 = zI H → (∀ i, 0 ≤ i → i < H → S.1 29 l.toNat i.toNat = zI (p i)) → zNt S.1 T s p n →
      zwp (zB_note_15 (d + 1) l.toNat (zI f) (zI s) (zI n) S) (fun r => ∃ K' s', 0 ≤ s' ∧ s' ≤ 6 ∧ zKn K K' T ∧ zR K' (xu (xu x 36 T f) 35 0 (T + 1)) y r ∧ K'.1 51 0 T.toNat = zI s' ∧ zNt K'.1 T s' p H)
  | 0, n, s, K, S, e, s0, s1, h, hx, c5, c29, N => by
    have w := zR_k h (t := 51) (Or.inr rfl) T.toNat (zI s)
    have w2 := zWc36 w (k := T) (v := f) (by omega) (by omega) (by omega) (by omega)
    have w3 := zWc35 w2 (v := T + 1) (by omega) (by omega)
    have c35 := zRc35 h
    rw [hx] at c35
    have hbl := zI_bl hf
    have N50 : ∀ k, S.1 50 0 k = K.1 50 0 k := fun k => h.2.2.2.1.1 50 (by decide) 0 k
    have fin : ∃ K' s', 0 ≤ s' ∧ s' ≤ 6 ∧ zKn K K' T ∧ zR K' (xu (xu x 36 T f) 35 0 (T + 1)) y (zu (zu (zu S.1 51 0 T.toNat (zI s)) 52 0 T.toNat (zI f)) 8 0 1 (zI (T + 1)), S.2) ∧ K'.1 51 0 T.toNat = zI s' ∧ zNt K'.1 T s' p H := by
      refine ⟨_, s, s0, by omega, ?_, w3, zu_same _ _ _ _ _, ?_⟩
      · refine ⟨fun t a b => by funext i k; exact zu_tag _ b, rfl, fun k _ => by simp [zu], fun k hk => zu_pl _ (by omega)⟩
      · have e50 : ∀ k, (zu K.1 51 0 T.toNat (zI s)) 50 0 k = S.1 50 0 k := fun k => (zu_tag _ (by decide)).trans (N50 k).symm
        unfold zNt at N ⊢
        rw [show (n : Int) = H by omega] at N
        simp only [e50]
        exact N
    rw [eB_note_15, c5, zI_le (by omega) (by omega) (by omega) (by omega), zif_pos (by omega), eB_note_77]
    simp (contextual := true) (disch := omega) only [zWp, zNum, Int.cast_ofNat_Int, Prod.mk.injEq, and_true, true_and, implies_true, and_self, true_implies, false_implies, not_true_eq_false, not_false_eq_true, and_false, false_and, Int.reduceEq, Int.reduceLT, Int.reduceLE, Int.reduceNeg, Int.reduceAdd, Int.reduceSub, Int.reduceMul, Int.reduceToNat, Nat.reduceEqDiff, cond_true, cond_false, c35, zu_tag, zu_pl, hbl, fin] <;> ((repeat' (first | intro _ | with_reducible apply And.intro)) <;> (first | omega | (exfalso; omega)))
  | m + 1, n, s, K, S, e, s0, s1, h, hx, c5, c29, N => by
    have hpn := hp n (by omega) (by omega)
    have c29n := c29 n (by omega) (by omega)
    have b2 := zG2 g
    have c35 := zRc35 h
    rw [hx] at c35
    have qs := zP_isSwitch_s h g d (a := p n) (by omega) (by omega)
    have eN : zSw x (p n) ↔ p n < 96 := by
      constructor
      · intro hh; omega
      · intro hh
        rcases hpn with c | c
        · exact c
        · omega
    rw [eB_note_15, c5, zI_le (by omega) (by omega) (by omega) (by omega), zif_neg (by omega), zI_n6, zI_le (by omega) (by omega) (by omega) (by omega), zif_neg (by omega), zg_t (by rw [zI_in (by omega) (by omega)]; omega), zI_zx (by omega) (by omega), c29n, qs]
    show zwp (zif (zb _ = 0) (zB_note_15 (d + 1) l.toNat (zI f) (zI s) (zI n + 1) S) (zg (zin (zI n) 97) (zg (zin (S.1 8 0 1 * zI 6 + zI s) 360) (zB_note_15 (d + 1) l.toNat (zI f) (zI s + 1) (zI n + 1) ((zu S.1 50 0 (zx (S.1 8 0 1 * zI 6 + zI s)) (S.1 29 l.toNat (n : Int).toNat)), S.2))))) _
    rw [zI_n1, zI_add]
    by_cases hs : p n < 96
    · rw [zif_neg (by rw [zb_0]; exact fun hn => hn (eN.mpr hs)), zg_t (by rw [zI_in (by omega) (by omega)]; omega), c35, zI_mul, zI_add, zg_t (by rw [zI_in (by omega) (by omega)]; omega), zI_zx (by omega) (by omega), c29n, zI_add, show T * 6 + s = 6 * T + s by omega]
      have w := zR_k h (t := 50) (Or.inl rfl) (6 * T + s).toNat (zI (p n))
      have ih := zB_note_15_s d (l := l) (f := f) (p := p) g hT hH hp hf m (n + 1) (s + 1) _ _ (by omega) (by omega) (by omega) w hx (by simp [zu]; exact c5) (fun i i0 i1 => by simp [zu]; exact c29 i i0 i1) (by
        refine ⟨fun j j0 j1 => ?_, fun i i0 i1 i2 => ?_⟩
        · by_cases hj : j = s
          · refine ⟨n, by omega, by omega, hs, ?_⟩
            rw [hj]; exact zu_same _ _ _ _ _
          · obtain ⟨i, a1, a2, a3, a4⟩ := N.1 j j0 (by omega)
            refine ⟨i, a1, by omega, a3, ?_⟩
            rw [← a4]; exact zu_pl _ (by omega)
        · by_cases hi : i = n
          · refine ⟨s, s0, by omega, ?_⟩
            rw [hi]; exact zu_same _ _ _ _ _
          · obtain ⟨j, a1, a2, a4⟩ := N.2 i i0 (by omega) i2
            refine ⟨j, a1, by omega, ?_⟩
            rw [← a4]; exact zu_pl _ (by omega))
      rw [show ((n + 1 : Nat) : Int) = (n : Int) + 1 by omega] at ih
      refine zwp_mono ih (fun r hr => ?_)
      obtain ⟨K', s', q1, q2, q3, q4⟩ := hr
      refine ⟨K', s', q1, q2, ⟨fun t a b => (q3.1 t a b).trans (by funext i k; exact zu_tag _ a), q3.2.1, fun k hk => (q3.2.2.1 k hk).trans (zu_pl _ (by omega)), fun k hk => (q3.2.2.2 k hk).trans (by simp [zu])⟩, q4⟩
    · rw [zif_pos (by rw [zb_0]; exact fun hn => hs (eN.mp hn))]
      have ih := zB_note_15_s d (l := l) (f := f) (p := p) g hT hH hp hf m (n + 1) s K S (by omega) (by omega) (by omega) h hx c5 c29 (by
        refine ⟨fun j j0 j1 => ?_, fun i i0 i1 i2 => ?_⟩
        · obtain ⟨i, a1, a2, a3, a4⟩ := N.1 j j0 j1
          exact ⟨i, a1, by omega, a3, a4⟩
        · by_cases hi : i = n
          · rw [hi] at i2; exact absurd i2 hs
          · exact N.2 i i0 (by omega) i2)
      rw [show ((n + 1 : Nat) : Int) = (n : Int) + 1 by omega] at ih
      exact ih
theorem zB_note_s (h : zR K x y S) (g : zGd x) (hb : 0 ≤ x 35 0 ∧ x 35 0 ≤ 60) (d : Nat) {l f : Int} (hl : zLn x l) (hc : x 15 l = 1) (h6 : x 22 l ≤ 6) (hf : f = 0 ∨ f = 1) :
    zwp (zB_note (d + 2) l.toNat (zI f) S) (fun r => (x 35 0 = 60 → zR K x y r) ∧ (x 35 0 < 60 → ∃ K' s', 0 ≤ s' ∧ s' ≤ 6 ∧ zKn K K' (x 35 0) ∧ zR K' (xu (xu x 36 (x 35 0) f) 35 0 (x 35 0 + 1)) y r ∧ K'.1 51 0 (x 35 0).toNat = zI s' ∧ zNt K'.1 (x 35 0) s' (fun i => x 23 (120 * l + i)) (x 22 l))) := by
  obtain ⟨a3, a5, a6, a10, a11, a29, a30, a8⟩ := zRLA h hl.1 hl.2 hc
  have c := g.2.2.2.1 l hl hc
  have b22 := g.2.1 l
  have c35 := zRc35 h
  rw [eB_note, c35, show (60 : Int32) = zI 60 from rfl, zI_eq (by omega) (by omega) (by omega) (by omega)]
  by_cases h60 : x 35 0 = 60
  · rw [zif_pos h60, zwp_some]
    exact ⟨fun _ => h, fun hh => by omega⟩
  · rw [zif_neg h60]
    have q := zB_note_15_s (x := x) (y := y) d (l := l) (T := x 35 0) (H := x 22 l) (f := f) (p := fun i => x 23 (120 * l + i)) g.1 (by omega) (by omega) (fun i i0 i1 => (c.2.1 i i0 i1).1) hf (x 22 l).toNat 0 0 K S (by omega) (by omega) (by omega) h rfl a5 a29 ⟨fun j j0 j1 => by omega, fun i i0 i1 i2 => by omega⟩
    exact zwp_mono q (fun r hr => ⟨fun hh => absurd hh h60, fun _ => hr⟩)
end NO
