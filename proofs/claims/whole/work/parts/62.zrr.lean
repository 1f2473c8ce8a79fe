/-! THE RELATION: the class holds x, the reference holds y; K keeps what few methods change -/
def zfst (p : Int → Bool) : Nat → Int → Int
  | 0, _ => -1
  | n + 1, k => bif p k then k else zfst p n (k + 1)
/-- the line with a number in a rack of finals -/
def zlineOf (x : ZW) (r n : Int) : Int := zfst (fun l => decide (x 13 l = r) && decide (x 14 l = n)) (x 11 0).toNat 0
/-- a calling line's cells -/
def zLA (x : ZW) (I : ZMp Int32) (j : Int) : Prop :=
  I 2 j.toNat 3 = zI (x 16 j) ∧ I 2 j.toNat 5 = zI (x 22 j) ∧ I 2 j.toNat 6 = zI (x 18 j) ∧ I 2 j.toNat 10 = zI (x 17 j) ∧ I 2 j.toNat 11 = zI (x 21 j) ∧
  (∀ i : Int, 0 ≤ i → i < x 22 j → I 29 j.toNat i.toNat = zI (x 23 (120 * j + i))) ∧
  (∀ i : Int, 0 ≤ i → i < 5 → i < x 18 j → I 30 j.toNat i.toNat = zI (x 19 (5 * j + i))) ∧
  (x 16 j ≤ 1 → I 2 j.toNat 8 = zI (x 20 j) ∧ (x 20 j = 0 → I 2 j.toNat 9 = zI 0) ∧ (x 20 j = 1 → I 2 j.toNat 9 = zI (x 50 j)))
/-- the cells of a line that isn't calling -/
def zLQ (I : ZMp Int32) (j : Int) : Prop := I 2 j.toNat 5 = zI 0 ∧ I 2 j.toNat 6 = zI 0 ∧ I 2 j.toNat 10 = zI (-1) ∧ I 2 j.toNat 11 = zI (-1)
def zLC (x : ZW) (S : ZS) (j : Int) : Prop :=
  S.2.2.1 20 0 j.toNat = some (2, j.toNat) ∧ S.1 2 j.toNat 0 = zI j ∧ S.1 2 j.toNat 1 = zI (x 12 j) ∧ S.1 2 j.toNat 2 = zI (x 15 j) ∧ (x 15 j = 1 → zLA x S.1 j) ∧ (x 15 j ≠ 1 → zLQ S.1 j)
def zkt (t : Nat) : Bool := Nat.beq t 16 || Nat.beq t 7 || Nat.beq t 42 || Nat.beq t 43 || Nat.beq t 44 || Nat.beq t 45 || Nat.beq t 50 || Nat.beq t 51
def zKp (K S : ZS) : Prop := (∀ t, zkt t = true → ∀ i k, S.1 t i k = K.1 t i k) ∧ (∀ t, t = 46 ∨ t = 97 → ∀ i k, S.2.1 t i k = K.2.1 t i k) ∧ (∀ i k, S.2.2.1 10 i k = K.2.2.1 10 i k) ∧ S.2.2.2.2 = K.2.2.2.2
def zBd (x : ZW) : Prop := ∀ g k, -2147483648 ≤ x g k ∧ x g k < 2147483648
def zNm (x : ZW) (I : ZMp Int32) : Prop := ∀ r n : Int, 0 ≤ r → r < 12 → 0 ≤ n → n < 100 → I 21 0 (100 * r + n).toNat = zI (zlineOf x r n)
def zR (K : ZS) (x y : ZW) (S : ZS) : Prop := zRt x y S.1 ∧ (∀ j : Int, 0 ≤ j → j < x 11 0 → zLC x S j) ∧ zNm x S.1 ∧ zKp K S ∧ S.2.2.2.1 = (x 11 0).toNat ∧ zBd x ∧ zBd y
/-- tags that are no lines', no numbers', no kept ones -/
def zot (t : Nat) : Bool := !(Nat.beq t 2 || Nat.beq t 29 || Nat.beq t 30 || Nat.beq t 21 || zkt t)
/-- fields that no line, no number asks for -/
def zog (g : Nat) : Bool := !(Nat.beq g 11 || Nat.beq g 12 || Nat.beq g 13 || Nat.beq g 14 || Nat.beq g 15 || Nat.beq g 16 || Nat.beq g 17 || Nat.beq g 18 || Nat.beq g 19 || Nat.beq g 20 || Nat.beq g 21 || Nat.beq g 22 || Nat.beq g 23 || Nat.beq g 50)
theorem zot_n {t : Nat} (h : zot t = true) : t ≠ 2 ∧ t ≠ 29 ∧ t ≠ 30 ∧ t ≠ 21 ∧ (∀ t', zkt t' = true → t' ≠ t) := by
  refine ⟨?_, ?_, ?_, ?_, ?_⟩
  · rintro rfl; cases h
  · rintro rfl; cases h
  · rintro rfl; cases h
  · rintro rfl; cases h
  · rintro t' h' rfl
    unfold zot at h
    rw [h'] at h
    simp at h
theorem zog_n {g : Nat} (h : zog g = true) : 11 ≠ g ∧ 12 ≠ g ∧ 13 ≠ g ∧ 14 ≠ g ∧ 15 ≠ g ∧ 16 ≠ g ∧ 17 ≠ g ∧ 18 ≠ g ∧ 19 ≠ g ∧ 20 ≠ g ∧ 21 ≠ g ∧ 22 ≠ g ∧ 23 ≠ g ∧ 50 ≠ g := by
  refine ⟨?_, ?_, ?_, ?_, ?_, ?_, ?_, ?_, ?_, ?_, ?_, ?_, ?_, ?_⟩ <;> (rintro rfl; cases h)
theorem zLC_z {t : Nat} (ht : zot t = true) {x : ZW} {S : ZS} {j : Int} (h : zLC x S j) (i k : Nat) (v : Int32) : zLC x (zu S.1 t i k v, S.2) j := by
  obtain ⟨n1, n2, n3, n4, n5⟩ := zot_n ht
  unfold zLC zLA zLQ at h ⊢
  have e2 : ∀ i' k', zu S.1 t i k v 2 i' k' = S.1 2 i' k' := fun i' k' => zu_tag _ n1.symm
  have e29 : ∀ i' k', zu S.1 t i k v 29 i' k' = S.1 29 i' k' := fun i' k' => zu_tag _ n2.symm
  have e30 : ∀ i' k', zu S.1 t i k v 30 i' k' = S.1 30 i' k' := fun i' k' => zu_tag _ n3.symm
  simp only [e2, e29, e30]
  exact h
theorem zLC_g {g : Nat} (hg : zog g = true) {x : ZW} {S : ZS} {j : Int} (h : zLC x S j) (k v : Int) : zLC (xu x g k v) S j := by
  obtain ⟨n11, n12, n13, n14, n15, n16, n17, n18, n19, n20, n21, n22, n23, n50⟩ := zog_n hg
  unfold zLC zLA zLQ at h ⊢
  simp only [xu_g x n12, xu_g x n15, xu_g x n16, xu_g x n17, xu_g x n18, xu_g x n19, xu_g x n20, xu_g x n21, xu_g x n22, xu_g x n23, xu_g x n50]
  exact h
theorem zlineOf_g {g : Nat} (hg : g ≠ 11 ∧ g ≠ 13 ∧ g ≠ 14) (x : ZW) (k v r n : Int) : zlineOf (xu x g k v) r n = zlineOf x r n := by
  unfold zlineOf
  simp only [xu_g x hg.1.symm, xu_g x hg.2.1.symm, xu_g x hg.2.2.symm]
theorem zKp_z {t : Nat} (ht : zot t = true) {K S : ZS} (h : zKp K S) (i k : Nat) (v : Int32) : zKp K (zu S.1 t i k v, S.2) := by
  obtain ⟨n1, n2, n3, n4, n5⟩ := zot_n ht
  exact ⟨fun t' h' i' k' => (zu_tag _ (n5 t' h')).trans (h.1 t' h' i' k'), h.2⟩
theorem zBd_u {x : ZW} (h : zBd x) (g : Nat) (k : Int) {v : Int} (h1 : -2147483648 ≤ v) (h2 : v < 2147483648) : zBd (xu x g k v) := by
  intro g' k'
  unfold xu
  split
  · exact ⟨h1, h2⟩
  · exact h g' k'
section RR
variable {K : ZS} {x y : ZW} {S : ZS}
/-- a cell that holds nothing is written -/
theorem zR_s (h : zR K x y S) {t s : Nat} (hs : (zfre t s && zot t) = true) (i : Nat) (v : Int32) : zR K x y (zu S.1 t i s v, S.2) := by
  obtain ⟨h1, h2, h3, h4, h5, h6, h7⟩ := h
  have hs := Bool.and_eq_true_iff.mp hs
  obtain ⟨n1, n2, n3, n4, n5⟩ := zot_n hs.2
  exact ⟨zRt_s hs.1 h1 i v, fun j h0 h1 => zLC_z hs.2 (h2 j h0 h1) i s v, fun r n a b c d => (zu_tag _ n4.symm).trans (h3 r n a b c d), zKp_z hs.2 h4 i s v, h5, h6, h7⟩
theorem zR_t (h : zR K x y S) {t : Nat} (hs : (zfrt t && zot t) = true) (i s : Nat) (v : Int32) : zR K x y (zu S.1 t i s v, S.2) := by
  obtain ⟨h1, h2, h3, h4, h5, h6, h7⟩ := h
  have hs := Bool.and_eq_true_iff.mp hs
  obtain ⟨n1, n2, n3, n4, n5⟩ := zot_n hs.2
  exact ⟨zRt_t hs.1 h1 i s v, fun j h0 h1 => zLC_z hs.2 (h2 j h0 h1) i s v, fun r n a b c d => (zu_tag _ n4.symm).trans (h3 r n a b c d), zKp_z hs.2 h4 i s v, h5, h6, h7⟩
/-- a cell of the class that holds a field -/
theorem zR_x (h : zR K x y S) {g t off len : Nat} (hp : (true, g, t, off, len) ∈ zTab) (hg : (zot t && zog g) = true) {k v : Int} (h0 : 0 ≤ k) (hk : k < (len : Int)) (hv1 : -2147483648 ≤ v) (hv2 : v < 2147483648) :
    zR K (xu x g k v) y (zu S.1 t 0 (off + k.toNat) (zI v), S.2) := by
  obtain ⟨h1, h2, h3, h4, h5, h6, h7⟩ := h
  have hg := Bool.and_eq_true_iff.mp hg
  obtain ⟨n1, n2, n3, n4, n5⟩ := zot_n hg.1
  obtain ⟨n11, n12, n13, n14, -⟩ := zog_n hg.2
  have e11 : (xu x g k v) 11 0 = x 11 0 := xu_g x n11
  refine ⟨zRt_x hp h1 v h0 hk, fun j a b => zLC_z hg.1 (zLC_g hg.2 (h2 j a (by rw [e11] at b; exact b)) k v) 0 _ _, fun r n a b c d => ?_, zKp_z hg.1 h4 _ _ _, by rw [e11]; exact h5, zBd_u h6 g k hv1 hv2, h7⟩
  rw [zlineOf_g ⟨n11.symm, n13.symm, n14.symm⟩]
  exact (zu_tag _ n4.symm).trans (h3 r n a b c d)
/-- a cell of the reference that holds a field -/
theorem zR_y (h : zR K x y S) {g t off len : Nat} (hp : (false, g, t, off, len) ∈ zTab) (hg : zot t = true) {k v : Int} (h0 : 0 ≤ k) (hk : k < (len : Int)) (hv1 : -2147483648 ≤ v) (hv2 : v < 2147483648) :
    zR K x (xu y g k v) (zu S.1 t 0 (off + k.toNat) (zI v), S.2) := by
  obtain ⟨h1, h2, h3, h4, h5, h6, h7⟩ := h
  obtain ⟨n1, n2, n3, n4, n5⟩ := zot_n hg
  exact ⟨zRt_y hp h1 v h0 hk, fun j a b => zLC_z hg (h2 j a b) 0 _ _, fun r n a b c d => (zu_tag _ n4.symm).trans (h3 r n a b c d), zKp_z hg h4 _ _ _, h5, h6, zBd_u h7 g k hv1 hv2⟩
end RR
