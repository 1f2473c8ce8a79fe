/-! THE RELATION, OPEN AT A LINE: what one line's cells hold is left to be told -/
def zlt (t : Nat) : Prop := t = 2 ∨ t = 29 ∨ t = 30
def zRo (K : ZS) (l : Int) (x y : ZW) (S : ZS) : Prop :=
  zRt x y S.1 ∧ (∀ j : Int, 0 ≤ j → j < x 11 0 → j ≠ l → zLC x S j) ∧ zNm x S.1 ∧ zKp K S ∧ S.2.2.2.1 = (x 11 0).toNat ∧ zBd x ∧ zBd y ∧ (∀ j : Int, 0 ≤ j → j < x 11 0 → S.2.2.1 20 0 j.toNat = some (2, j.toNat)) ∧ 0 ≤ l
section OP
variable {K : ZS} {x y : ZW} {S : ZS} {l : Int}
theorem zRo_open (h : zR K x y S) (hl : 0 ≤ l) : zRo K l x y S :=
  ⟨h.1, fun j a b _ => h.2.1 j a b, h.2.2.1, h.2.2.2.1, h.2.2.2.2.1, h.2.2.2.2.2.1, h.2.2.2.2.2.2, fun j a b => (h.2.1 j a b).1, hl⟩
theorem zRo_close (h : zRo K l x y S) (hc : zLC x S l) : zR K x y S :=
  ⟨h.1, fun j a b => by
    by_cases e : j = l
    · rw [e]; exact hc
    · exact h.2.1 j a b e, h.2.2.1, h.2.2.2.1, h.2.2.2.2.1, h.2.2.2.2.2.1, h.2.2.2.2.2.2.1⟩
theorem zlt_n {t : Nat} (ht : zlt t) : zfrt t = true ∧ t ≠ 21 ∧ zkt t = false := by
  rcases ht with rfl | rfl | rfl <;> exact ⟨by decide, by decide, by decide⟩
theorem zu_i {α : Type} (f : ZMp α) {t i k t' i' k' : Nat} {v : α} (h : i' ≠ i) : zu f t i k v t' i' k' = f t' i' k' := if_neg fun e => h e.2.1
/-- a cell of the line -/
theorem zRo_c (h : zRo K l x y S) {t : Nat} (ht : zlt t) (k : Nat) (v : Int32) : zRo K l x y (zu S.1 t l.toNat k v, S.2) := by
  obtain ⟨h1, h2, h3, h4, h5, h6, h7, h8, h9⟩ := h
  obtain ⟨n1, n2, n3⟩ := zlt_n ht
  refine ⟨zRt_t n1 h1 _ _ _, fun j a b c => ?_, fun r n a b c d => (zu_tag _ n2.symm).trans (h3 r n a b c d), ⟨fun t' h' i' k' => (zu_tag _ (by rintro rfl; rw [n3] at h'; cases h')).trans (h4.1 t' h' i' k'), h4.2⟩, h5, h6, h7, h8, h9⟩
  have hj : j.toNat ≠ l.toNat := by omega
  have q := h2 j a b c
  unfold zLC zLA zLQ at q ⊢
  have e : ∀ t' k', zu S.1 t l.toNat k v t' j.toNat k' = S.1 t' j.toNat k' := fun t' k' => zu_i _ hj
  simp only [e]
  exact q
/-- fields of the line in the ghost -/
theorem zRo_g (h : zRo K l x y S) {g : Nat} (hg : g = 15 ∨ g = 16 ∨ g = 17 ∨ g = 18 ∨ g = 20 ∨ g = 21 ∨ g = 22 ∨ g = 50) {v : Int} (v1 : -2147483648 ≤ v) (v2 : v < 2147483648) : zRo K l (xu x g l v) y S := by
  obtain ⟨h1, h2, h3, h4, h5, h6, h7, h8, h9⟩ := h
  have n1 : zfrg true g = true ∧ g ≠ 11 ∧ g ≠ 12 ∧ g ≠ 13 ∧ g ≠ 14 ∧ g ≠ 19 ∧ g ≠ 23 := by rcases hg with rfl | rfl | rfl | rfl | rfl | rfl | rfl | rfl <;> exact ⟨by decide, by decide, by decide, by decide, by decide, by decide, by decide⟩
  obtain ⟨n0, n11, n12, n13, n14, n19, n23⟩ := n1
  have e11 : (xu x g l v) 11 0 = x 11 0 := xu_g x n11.symm
  refine ⟨zRt_g n0 h1 _ _, fun j a b c => ?_, fun r n a b c d => ?_, h4, by rw [e11]; exact h5, zBd_u h6 g l v1 v2, h7, fun j a b => h8 j a (by rw [e11] at b; exact b), h9⟩
  · rw [e11] at b
    have q := h2 j a b c
    unfold zLC zLA zLQ at q ⊢
    have e : ∀ g', (xu x g l v) g' j = x g' j := fun g' => if_neg (fun e => c e.2)
    have e19 : ∀ k, (xu x g l v) 19 k = x 19 k := fun k => xu_g x n19.symm
    have e23 : ∀ k, (xu x g l v) 23 k = x 23 k := fun k => xu_g x n23.symm
    simp only [e, e19, e23]
    exact q
  · rw [zlineOf_g ⟨n11, n13, n14⟩]
    exact h3 r n a b c d
theorem zRo_g19 (h : zRo K l x y S) {m v : Int} (m0 : 0 ≤ m) (m1 : m < 5) (v1 : -2147483648 ≤ v) (v2 : v < 2147483648) : zRo K l (xu x 19 (5 * l + m) v) y S := by
  obtain ⟨h1, h2, h3, h4, h5, h6, h7, h8, h9⟩ := h
  have e : ∀ g', g' ≠ 19 → ∀ k, (xu x 19 (5 * l + m) v) g' k = x g' k := fun g' hg k => xu_g x hg
  refine ⟨zRt_g (by decide) h1 _ _, fun j a b c => ?_, fun r n a b c d => ?_, h4, by rw [e 11 (by decide)]; exact h5, zBd_u h6 _ _ v1 v2, h7, fun j a b => h8 j a (by rw [e 11 (by decide)] at b; exact b), h9⟩
  · rw [e 11 (by decide)] at b
    have q := h2 j a b c
    unfold zLC zLA zLQ at q ⊢
    have e19 : ∀ i : Int, 0 ≤ i → i < 5 → (xu x 19 (5 * l + m) v) 19 (5 * j + i) = x 19 (5 * j + i) := fun i i0 i1 => xu_k x (by omega)
    simp only [e 12 (by decide), e 15 (by decide), e 16 (by decide), e 17 (by decide), e 18 (by decide), e 20 (by decide), e 21 (by decide), e 22 (by decide), e 23 (by decide), e 50 (by decide)]
    refine ⟨q.1, q.2.1, q.2.2.1, q.2.2.2.1, fun hc => ?_, q.2.2.2.2.2⟩
    have qc := q.2.2.2.2.1 hc
    exact ⟨qc.1, qc.2.1, qc.2.2.1, qc.2.2.2.1, qc.2.2.2.2.1, qc.2.2.2.2.2.1, fun i i0 i1 i2 => (qc.2.2.2.2.2.2.1 i i0 i1 i2).trans (congrArg zI (e19 i i0 i1).symm), qc.2.2.2.2.2.2.2⟩
  · rw [zlineOf_g ⟨by decide, by decide, by decide⟩]
    exact h3 r n a b c d
theorem zRo_g23 (h : zRo K l x y S) (hb : ∀ j, x 22 j ≤ 120) {m v : Int} (m0 : 0 ≤ m) (m1 : m < 120) (v1 : -2147483648 ≤ v) (v2 : v < 2147483648) : zRo K l (xu x 23 (120 * l + m) v) y S := by
  obtain ⟨h1, h2, h3, h4, h5, h6, h7, h8, h9⟩ := h
  have e : ∀ g', g' ≠ 23 → ∀ k, (xu x 23 (120 * l + m) v) g' k = x g' k := fun g' hg k => xu_g x hg
  refine ⟨zRt_g (by decide) h1 _ _, fun j a b c => ?_, fun r n a b c d => ?_, h4, by rw [e 11 (by decide)]; exact h5, zBd_u h6 _ _ v1 v2, h7, fun j a b => h8 j a (by rw [e 11 (by decide)] at b; exact b), h9⟩
  · rw [e 11 (by decide)] at b
    have q := h2 j a b c
    have hb := hb j
    unfold zLC zLA zLQ at q ⊢
    have e23 : ∀ i : Int, 0 ≤ i → i < x 22 j → (xu x 23 (120 * l + m) v) 23 (120 * j + i) = x 23 (120 * j + i) := fun i i0 i1 => xu_k x (by omega)
    simp only [e 12 (by decide), e 15 (by decide), e 16 (by decide), e 17 (by decide), e 18 (by decide), e 19 (by decide), e 20 (by decide), e 21 (by decide), e 22 (by decide), e 50 (by decide)]
    refine ⟨q.1, q.2.1, q.2.2.1, q.2.2.2.1, fun hc => ?_, q.2.2.2.2.2⟩
    have qc := q.2.2.2.2.1 hc
    exact ⟨qc.1, qc.2.1, qc.2.2.1, qc.2.2.2.1, qc.2.2.2.2.1, fun i i0 i1 => (qc.2.2.2.2.2.1 i i0 i1).trans (congrArg zI (e23 i i0 i1).symm), qc.2.2.2.2.2.2⟩
  · rw [zlineOf_g ⟨by decide, by decide, by decide⟩]
    exact h3 r n a b c d
/-- a cell of the class that holds a field of the table -/
theorem zRo_x (h : zRo K l x y S) {g t off len : Nat} (hp : (true, g, t, off, len) ∈ zTab) (hg : (zot t && zog g) = true) {k v : Int} (h0 : 0 ≤ k) (hk : k < (len : Int)) (hv1 : -2147483648 ≤ v) (hv2 : v < 2147483648) :
    zRo K l (xu x g k v) y (zu S.1 t 0 (off + k.toNat) (zI v), S.2) := by
  obtain ⟨h1, h2, h3, h4, h5, h6, h7, h8, h9⟩ := h
  have hg := Bool.and_eq_true_iff.mp hg
  obtain ⟨n1, n2, n3, n4, n5⟩ := zot_n hg.1
  obtain ⟨n11, n12, n13, n14, -⟩ := zog_n hg.2
  have e11 : (xu x g k v) 11 0 = x 11 0 := xu_g x n11
  refine ⟨zRt_x hp h1 v h0 hk, fun j a b c => zLC_z hg.1 (zLC_g hg.2 (h2 j a (by rw [e11] at b; exact b) c) k v) 0 _ _, fun r n a b c d => ?_, zKp_z hg.1 h4 _ _ _, by rw [e11]; exact h5, zBd_u h6 g k hv1 hv2, h7, fun j a b => h8 j a (by rw [e11] at b; exact b), h9⟩
  rw [zlineOf_g ⟨n11.symm, n13.symm, n14.symm⟩]
  exact (zu_tag _ n4.symm).trans (h3 r n a b c d)
/-- another line that isn't calling gets another condition -/
theorem zRo_w (h : zRo K l x y S) {w v : Int} (w0 : 0 ≤ w) (hw : w ≠ l) (hc : x 15 w ≠ 1) (hv : v ≠ 1) (hv1 : -2147483648 ≤ v) (hv2 : v < 2147483648) : zRo K l (xu x 15 w v) y (zu S.1 2 w.toNat 2 (zI v), S.2) := by
  obtain ⟨h1, h2, h3, h4, h5, h6, h7, h8, h9⟩ := h
  have e : ∀ g', g' ≠ 15 → ∀ k, (xu x 15 w v) g' k = x g' k := fun g' hg k => xu_g x hg
  refine ⟨zRt_t (by decide) (zRt_g (by decide) h1 _ _) _ _ _, fun j a b c => ?_, fun r n a b c d => ?_, ⟨fun t' h' i' k' => (zu_tag _ (by rintro rfl; cases h')).trans (h4.1 t' h' i' k'), h4.2⟩, by rw [e 11 (by decide)]; exact h5, zBd_u h6 _ _ hv1 hv2, h7, fun j a b => h8 j a (by rw [e 11 (by decide)] at b; exact b), h9⟩
  · rw [e 11 (by decide)] at b
    have q := h2 j a b c
    by_cases hj : j = w
    · subst hj
      have e15 : (xu x 15 j v) 15 j = v := xu_s x 15 j v
      unfold zLC zLQ at q ⊢
      simp only [e15, e 12 (by decide), zu_same, zu_pl S.1 (show (0 : Nat) ≠ 2 by decide), zu_pl S.1 (show (1 : Nat) ≠ 2 by decide), zu_pl S.1 (show (5 : Nat) ≠ 2 by decide), zu_pl S.1 (show (6 : Nat) ≠ 2 by decide), zu_pl S.1 (show (10 : Nat) ≠ 2 by decide), zu_pl S.1 (show (11 : Nat) ≠ 2 by decide)]
      exact ⟨q.1, q.2.1, q.2.2.1, trivial, fun e => absurd e hv, fun _ => q.2.2.2.2.2 hc⟩
    · have e15 : (xu x 15 w v) 15 j = x 15 j := xu_k x hj
      have en : ∀ t' k', zu S.1 2 w.toNat 2 (zI v) t' j.toNat k' = S.1 t' j.toNat k' := fun t' k' => zu_i _ (by omega)
      unfold zLC zLA zLQ at q ⊢
      simp only [e15, en, e 12 (by decide), e 16 (by decide), e 17 (by decide), e 18 (by decide), e 19 (by decide), e 20 (by decide), e 21 (by decide), e 22 (by decide), e 23 (by decide), e 50 (by decide)]
      exact q
  · rw [zlineOf_g ⟨by decide, by decide, by decide⟩]
    have q : zu S.1 2 w.toNat 2 (zI v) 21 0 (100 * r + n).toNat = S.1 21 0 (100 * r + n).toNat := zu_tag _ (by decide)
    exact q.trans (h3 r n a b c d)
end OP
