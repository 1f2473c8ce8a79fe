/-! LAID of the class, whole -/
/-- no call need be moved -/
def sA0 (x : ZW) (l v m : Int) : Prop := zLay x l (x 12 l) m (fun i => sDgt v (m - 1 - i)) (zRg x l (-2) m (fun i => sDgt v (m - 1 - i))) (fun _ => True)
/-- r is what laid answers -/
def zLd (x : ZW) (A : Prop) (B : Int → Prop) (l v m w r : Int) : Prop := (¬ (sTry x l v m ∧ 0 ≤ w ∧ w ≤ 1) ∧ r = -1) ∨ ((sTry x l v m ∧ 0 ≤ w ∧ w ≤ 1) ∧
  ((A ∧ ((w = 0 ∧ r = 0) ∨ (w ≠ 0 ∧ r = -1))) ∨ (¬ A ∧ ((∃ i, 0 ≤ i ∧ i < x 11 0 ∧ B i ∧ (∀ i', 0 ≤ i' → i' < i → ¬ B i') ∧ ((w = 0 ∧ r = 1) ∨ (w ≠ 0 ∧ r = i))) ∨ ((∀ i, 0 ≤ i → i < x 11 0 → ¬ B i) ∧ r = -1)))))
theorem zLd_u {x : ZW} {A : Prop} {B : Int → Prop} {l v m w r r' : Int} (h : zLd x A B l v m w r) (h' : zLd x A B l v m w r') : r = r' := by
  rcases h with ⟨a, b⟩ | ⟨a, h⟩
  · rcases h' with ⟨-, c⟩ | ⟨c, -⟩
    · omega
    · exact absurd c a
  · rcases h' with ⟨c, -⟩ | ⟨-, h'⟩
    · exact absurd a c
    · rcases h with ⟨p, h⟩ | ⟨p, h⟩
      · rcases h' with ⟨-, h'⟩ | ⟨q, -⟩
        · omega
        · exact absurd p q
      · rcases h' with ⟨q, -⟩ | ⟨-, h'⟩
        · exact absurd q p
        · rcases h with ⟨i, i0, i1, i2, i3, i4⟩ | ⟨no, e⟩
          · rcases h' with ⟨j, j0, j1, j2, j3, j4⟩ | ⟨no, -⟩
            · have : i = j := by
                by_cases s : i < j
                · exact absurd i2 (j3 i i0 s)
                · by_cases t : j < i
                  · exact absurd j2 (i3 j j0 t)
                  · omega
              omega
            · exact absurd i2 (no i i0 i1)
          · rcases h' with ⟨j, j0, j1, j2, -⟩ | ⟨-, e'⟩
            · exact absurd j2 (no j j0 j1)
            · omega
section FX
variable {K : ZS} {x y : ZW} {S : ZS}
theorem zR_found_s (h : zR K x y S) (d : Nat) {i : Int} {j : Int32} (hi : 0 ≤ i ∧ i < 40) (c : S.1 5 0 5 = zI i) : zR_fewestMoved_44 d j S = some (zI 1, S) := by
  have n1 : ¬ i = -1 := by omega
  rw [eR_fewestMoved_44, c, zI_n1, zI_neg, zI_eq (by omega) (by omega) (by omega) (by omega)]
  by_cases q : S.1 0 0 3 ≤ j
  · rw [zif_pos q, zif_neg n1]
  · rw [zif_neg q, zif_neg n1, zif_neg n1]
theorem zR_fewestMoved_44_s (gd : zGd x) (d : Nat) {l v m : Int} (hl : zLn x l) (hm : 1 ≤ m ∧ m ≤ 5) :
    ∀ (n : Nat) (j : Int) (S : ZS), 0 ≤ j → j + n = x 11 0 → zR K x y S → zWs S 0 l (x 12 l) (-2) m (fun i => sDgt v (m - 1 - i)) → S.1 5 0 5 = zI (-1) →
    zwp (zR_fewestMoved_44 (d + 33) (zI j) S) (fun r => zR K x y r.2 ∧ ((∃ i, j ≤ i ∧ i < x 11 0 ∧ (sMv x i ∧ sBo x l v m i) ∧ (∀ i', j ≤ i' → i' < i → ¬ (sMv x i' ∧ sBo x l v m i')) ∧ r.1 = zI 1 ∧ r.2.1 5 0 5 = zI i) ∨ ((∀ i, j ≤ i → i < x 11 0 → ¬ (sMv x i ∧ sBo x l v m i)) ∧ r.1 = zI (-1) ∧ r.2.1 5 0 5 = zI (-1)))) := by
  have b11 := zG11 gd.1
  intro n
  induction n with
  | zero =>
    intro j S j0 e h hw c
    rw [eR_fewestMoved_44, zRc11 h, zI_le (by omega) (by omega) (by omega) (by omega), zif_pos (by omega), c, zI_n1, zI_neg, zif_pos rfl, zwp_some]
    exact ⟨h, Or.inr ⟨fun i a b => by omega, rfl, c⟩⟩
  | succ n ih =>
    intro j S j0 e h hw c
    have hj : zLn x j := ⟨j0, by omega⟩
    have cm := zR_canMove_s h gd (d + 32) hj
    have cm : zci (zcall (d + 33)) 49 [zo (some (2, j.toNat))] S = some (zb (sMv x j), S) := cm
    have ext : ∀ {r : Int32 × ZS}, ¬ (sMv x j ∧ sBo x l v m j) → (zR K x y r.2 ∧ ((∃ i, j + 1 ≤ i ∧ i < x 11 0 ∧ (sMv x i ∧ sBo x l v m i) ∧ (∀ i', j + 1 ≤ i' → i' < i → ¬ (sMv x i' ∧ sBo x l v m i')) ∧ r.1 = zI 1 ∧ r.2.1 5 0 5 = zI i) ∨ ((∀ i, j + 1 ≤ i → i < x 11 0 → ¬ (sMv x i ∧ sBo x l v m i)) ∧ r.1 = zI (-1) ∧ r.2.1 5 0 5 = zI (-1)))) → (zR K x y r.2 ∧ ((∃ i, j ≤ i ∧ i < x 11 0 ∧ (sMv x i ∧ sBo x l v m i) ∧ (∀ i', j ≤ i' → i' < i → ¬ (sMv x i' ∧ sBo x l v m i')) ∧ r.1 = zI 1 ∧ r.2.1 5 0 5 = zI i) ∨ ((∀ i, j ≤ i → i < x 11 0 → ¬ (sMv x i ∧ sBo x l v m i)) ∧ r.1 = zI (-1) ∧ r.2.1 5 0 5 = zI (-1)))) := by
      intro r hn q
      refine ⟨q.1, ?_⟩
      rcases q.2 with ⟨i, a, b, c, f, g⟩ | ⟨f, g⟩
      · refine Or.inl ⟨i, by omega, b, c, fun i' a' b' => ?_, g⟩
        by_cases t : i' = j
        · rw [t]; exact hn
        · exact f i' (by omega) b'
      · refine Or.inr ⟨fun i' a' b' => ?_, g⟩
        by_cases t : i' = j
        · rw [t]; exact hn
        · exact f i' (by omega) b'
    rw [eR_fewestMoved_44, zRc11 h, zI_le (by omega) (by omega) (by omega) (by omega), zif_neg (by omega), c, zI_n1, zI_neg, zif_pos rfl, zg_t (by rw [zI_in (by omega) (by omega)]; omega), zI_zx (by omega) (by omega), zRD h hj.1 hj.2, cm, zBs]
    dsimp only
    rw [zb_0, zI_add]
    by_cases hv : sMv x j
    · have lb := zR_laysBoth_s h gd d (v := v) hl hm hw hj hv
      have lb : zwp (zci (zcall (d + 33)) 50 [zr 5 0, zo (some (2, j.toNat))] S) _ := lb
      rw [zif_neg (fun q => q hv), zg_t (by rw [zI_in (by omega) (by omega)]; omega), zRD h hj.1 hj.2, zwp_bind]
      refine zwp_mono lb (fun r q => ?_)
      obtain ⟨r1, S2⟩ := r
      obtain ⟨q1, q2, q3, q4⟩ := q
      dsimp only at q1 q2 q3 q4 ⊢
      rw [q1, zb_0]
      by_cases hb : sBo x l v m j
      · rw [zif_neg (fun q => q hb), zR_found_s (zR_t q2 (t := 5) (by decide) 0 5 (zI j)) (d + 33) (i := j) (by omega) (zu_same S2.1 5 0 5 (zI j)), zwp_some]
        exact ⟨zR_t q2 (t := 5) (by decide) 0 5 (zI j), Or.inl ⟨j, by omega, hj.2, ⟨hv, hb⟩, fun i' a b => by omega, rfl, zu_same S2.1 5 0 5 (zI j)⟩⟩
      · rw [zif_pos hb]
        exact zwp_mono (ih (j + 1) S2 (by omega) (by omega) q2 q3 (q4.trans c)) (fun r q => ext (fun n => hb n.2) q)
    · rw [zif_pos hv]
      exact zwp_mono (ih (j + 1) S (by omega) (by omega) h hw c) (fun r q => ext (fun n => hv n.1) q)
theorem zX_laid_s (h : zR K x y S) (gd : zGd x) (d : Nat) {l v m w : Int} (l1 : -2147483648 ≤ l) (l2 : l < 2147483648) (v1 : -2147483648 ≤ v) (v2 : v < 2147483648) (m1 : -2147483648 ≤ m) (m2 : m < 2147483648) (w1 : -2147483648 ≤ w) (w2 : w < 2147483648) :
    zwp (zX_laid (d + 35) (zI l) (zI v) (zI m) (zI w) S) (fun r => ∃ u, r.1 = zI u ∧ zLd x (sA0 x l v m) (fun i => sMv x i ∧ sBo x l v m i) l v m w u ∧ zR K x y r.2) := by
  have b11 := zG11 gd.1
  rw [eX_laid, zX_mayDial_s h gd.1 (d + 32) l1 l2 v1 v2 m1 m2, zBs]
  dsimp only
  rw [zb_0, zI_n1, zI_neg, zI_n0, zI_lt w1 w2 (by omega) (by omega), zI_le w1 w2 (by omega) (by omega), zI_eq w1 w2 (by omega) (by omega)]
  by_cases hc : sTry x l v m
  · rw [zif_neg (fun q => q hc)]
    by_cases a : w < 0
    · rw [zif_pos a, zwp_some]
      exact ⟨-1, rfl, Or.inl ⟨fun q => by omega, rfl⟩, h⟩
    · rw [zif_neg a]
      by_cases b : w ≤ 1
      · rw [zif_pos b]
        have ok : sTry x l v m ∧ 0 ≤ w ∧ w ≤ 1 := ⟨hc, by omega, b⟩
        unfold sTry at hc
        have hl := hc.1
        have wb : zWb x l (x 12 l) (-2) m (fun i => sDgt v (m - 1 - i)) := ⟨⟨hl.1, by have := hl.2; omega⟩, ⟨(zGln gd.1 hl.1 hl.2).1, (zG12 gd.1 l).2⟩, by omega, by omega, fun i => sDgt_b _ _⟩
        have tr := zW_toRing_s h gd.1 (d + 31) (v := v) (m := m) hl (by omega) (by omega)
        have tr : zwp (zcv (zcall (d + 33)) 96 [zr 9 0, zo (some (2, l.toNat)), zi (zI v), zi (zI m)] S) _ := tr
        rw [zwp_bind, eR_fewestMoved, zg_t (by rw [zI_in (by omega) (by omega)]; omega), zI_zx (by omega) (by omega), zRD h hl.1 hl.2, zwp_bind]
        refine zwp_mono tr (fun S1 q => ?_)
        obtain ⟨r1, ws⟩ := q
        have r2 : zR K x y ((zu (zu S1.1 5 0 5 (-1 : Int32)) 5 0 4 (0 : Int32)), S1.2) := zR_t (zR_t r1 (t := 5) (by decide) 0 5 _) (t := 5) (by decide) 0 4 _
        have A := zR_canLay_s (S0 := ((zu (zu S1.1 5 0 5 (-1 : Int32)) 5 0 4 (0 : Int32)), S1.2)) (d + 18) (fun _ => True) ws wb (fun d' x' S' h' _ _ o' => by
          rw [show d + 18 + d' = 1 + (d + 17 + d') by omega]
          exact zrest_1 _ S' (Or.inl ((congrFun (congrFun (o'.2 5 (by decide)) _) _).trans (zu_same (zu S1.1 5 0 5 (-1 : Int32)) 5 0 4 (0 : Int32))))) r2 gd.1
        have A : zR_canLay (d + 33) 0 ((zu (zu S1.1 5 0 5 (-1 : Int32)) 5 0 4 (0 : Int32)), S1.2) = some (zb (sA0 x l v m), ((zu (zu S1.1 5 0 5 (-1 : Int32)) 5 0 4 (0 : Int32)), S1.2)) := A
        rw [zg_t (show zbl 0 = true from rfl), A, zBs]
        dsimp only
        rw [zb_0]
        by_cases a0 : sA0 x l v m
        · rw [zif_neg (fun q => q a0), zwp_some]
          dsimp only
          by_cases e0 : w = 0
          · rw [zif_pos e0, zwp_some]
            exact ⟨0, rfl, Or.inr ⟨ok, Or.inl ⟨a0, Or.inl ⟨e0, rfl⟩⟩⟩, r2⟩
          · rw [zif_neg e0, zwp_some]
            exact ⟨-1, rfl, Or.inr ⟨ok, Or.inl ⟨a0, Or.inr ⟨e0, rfl⟩⟩⟩, r2⟩
        · rw [zif_pos a0]
          refine zwp_mono (zR_fewestMoved_44_s gd d (v := v) hl (by omega) (x 11 0).toNat 0 _ (by omega) (by omega) r2 ws rfl) (fun r q => ?_)
          obtain ⟨q1, q2⟩ := q
          by_cases e0 : w = 0
          · rw [zif_pos e0, zwp_some]
            rcases q2 with ⟨i, i0, i1, i2, i3, i4, i5⟩ | ⟨i3, i4, i5⟩
            · exact ⟨1, i4, Or.inr ⟨ok, Or.inr ⟨a0, Or.inl ⟨i, i0, i1, i2, i3, Or.inl ⟨e0, rfl⟩⟩⟩⟩, q1⟩
            · exact ⟨-1, i4, Or.inr ⟨ok, Or.inr ⟨a0, Or.inr ⟨i3, rfl⟩⟩⟩, q1⟩
          · rw [zif_neg e0, zwp_some]
            rcases q2 with ⟨i, i0, i1, i2, i3, i4, i5⟩ | ⟨i3, i4, i5⟩
            · exact ⟨i, i5, Or.inr ⟨ok, Or.inr ⟨a0, Or.inl ⟨i, i0, i1, i2, i3, Or.inr ⟨e0, rfl⟩⟩⟩⟩, q1⟩
            · exact ⟨-1, i5, Or.inr ⟨ok, Or.inr ⟨a0, Or.inr ⟨i3, rfl⟩⟩⟩, q1⟩
      · rw [zif_neg b, zwp_some]
        exact ⟨-1, rfl, Or.inl ⟨fun q => by omega, rfl⟩, h⟩
  · rw [zif_pos hc, zwp_some]
    exact ⟨-1, rfl, Or.inl ⟨fun q => hc q.1, rfl⟩, h⟩
end FX
