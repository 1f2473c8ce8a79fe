/-! LAID: the class lays a call again, and both -/
noncomputable def zDj (x : ZW) (j i : Int) : Int := sI (0 ≤ i ∧ i < x 18 j ∧ i < 5) (x 19 (5 * j + i)) 0
/-- the line's call may be laid anew -/
def sMv (x : ZW) (j : Int) : Prop := x 15 j = 1 ∧ 5 ≤ x 16 j ∧ x 18 j ≤ 5
/-- both can be laid -/
def sBo (x : ZW) (l v m j : Int) : Prop := zLay (sSetN x j (-1) (x 22 j).toNat) l (x 12 l) m (fun i => sDgt v (m - 1 - i)) (zRg (sSetN x j (-1) (x 22 j).toNat) l (-2) m (fun i => sDgt v (m - 1 - i))) (fun x' => zLay x' j (x 12 j) (x 18 j) (zDj x j) (zRg x' j (x 17 j) (x 18 j) (zDj x j)) (fun _ => True))
theorem zLay_m {x : ZW} {l hm m : Int} {dg : Int → Int} {Rg : Int → Int → Prop} {R R' : ZW → Prop} (h : ∀ x', R x' → R' x') (k : zLay x l hm m dg Rg R) : zLay x l hm m dg Rg R' := by
  obtain ⟨j, j0, j1, L, a, b, c, d⟩ := k
  exact ⟨j, j0, j1, L, a, b, c, h _ d⟩
theorem zDj_b {x : ZW} {j : Int} (hb : ∀ i, 0 ≤ i → i < 5 → i < x 18 j → 0 ≤ x 19 (5 * j + i) ∧ x 19 (5 * j + i) ≤ 9) (i : Int) : 0 ≤ zDj x j i ∧ zDj x j i ≤ 9 := by
  unfold zDj
  by_cases q : 0 ≤ i ∧ i < x 18 j ∧ i < 5
  · rw [sI_t q]
    exact hb i q.1 q.2.2 q.2.1
  · rw [sI_f q]
    omega
theorem zb_z (P : Prop) : (zb P = zI 0) = ¬ P := zb_0 P
section BO
variable {K : ZS} {x y : ZW} {S : ZS}
theorem zcp58 (d : Nat) (S : ZS) (a : Nat) {n : Int} (hn : 0 ≤ n ∧ n ≤ 5) : zcv (zcall (d + 1)) 1003 [zr 30 a, zi (0 : Int32), zr 58 1, zi (0 : Int32), zi (zI n)] S = some (zcpy S.1 30 a 0 58 1 0 n.toNat, S.2) := by
  have l0 : (0 : Int32) ≤ 0 := by
    rw [zI_n0, zI_le (by omega) (by omega) (by omega) (by omega)]
    omega
  have ln : (0 : Int32) ≤ zI n := by
    rw [zI_n0, zI_le (by omega) (by omega) (by omega) (by omega)]
    omega
  have z0 : zx (0 : Int32) = 0 := rfl
  have zn : zx (zI n) = n.toNat := zI_zx (by omega) (by omega)
  have a30 : zaln 30 = 5 := rfl
  have a58 : zaln 58 = 5 := rfl
  have e : zcv (zcall (d + 1)) 1003 [zr 30 a, zi (0 : Int32), zr 58 1, zi (0 : Int32), zi (zI n)] S = (zg (decide (¬ ((30 : Nat) = 58 ∧ a = 1) ∧ (0 : Int32) ≤ 0 ∧ (0 : Int32) ≤ 0 ∧ (0 : Int32) ≤ zI n ∧ zx (0 : Int32) + zx (zI n) ≤ zaln 30 ∧ zx (0 : Int32) + zx (zI n) ≤ zaln 58)) (some (none, (zcpy S.1 30 a (zx (0 : Int32)) 58 1 (zx (0 : Int32)) (zx (zI n)), S.2)))).bind zov := rfl
  rw [e, zg_t (decide_eq_true ⟨fun q => by omega, l0, l0, ln, by rw [z0, zn, a30]; omega, by rw [z0, zn, a58]; omega⟩), z0, zn]
  rfl
/-- the wish for a call that is there -/
theorem zW_again_s (h : zR K x y S) (gd : zGd x) (d : Nat) {j : Int} (hj : zLn x j) (hv : sMv x j) :
    zwp (zW_again (d + 2) 1 j.toNat S) (fun S' => zR K x y S' ∧ zWs S' 1 j (x 12 j) (x 17 j) (x 18 j) (zDj x j) ∧ (∀ t, t ≠ 9 → t ≠ 58 → S'.1 t = S.1 t) ∧ S'.1 9 0 = S.1 9 0 ∧ S'.1 58 0 = S.1 58 0) := by
  have la := zRLA h hj.1 hj.2 hv.1
  have cg := gd.2.2.2.1 j hj hv.1
  have b17 := cg.2.2.1
  have b18 := cg.2.2.2.2.1
  have b11 := zG11 gd.1
  obtain ⟨a16, a22, a18, a17, a21, a23, a19, -⟩ := la
  have hv5 := hv.2.2
  have go : zwp (zW_again_33 (d + 1) 1 j.toNat (zI (x 17 j)) 1 ((zu (zu S.1 9 1 0 (zI j)) 9 1 1 (zI (x 12 j))), S.2)) (fun S' => zR K x y S' ∧ zWs S' 1 j (x 12 j) (x 17 j) (x 18 j) (zDj x j) ∧ (∀ t, t ≠ 9 → t ≠ 58 → S'.1 t = S.1 t) ∧ S'.1 9 0 = S.1 9 0 ∧ S'.1 58 0 = S.1 58 0) := by
    have e6 : (zu (zu (zu S.1 9 1 0 (zI j)) 9 1 1 (zI (x 12 j))) 9 1 2 (zI (x 17 j))) 2 j.toNat 6 = zI (x 18 j) := a18
    rw [eW_again_33]
    dsimp only
    rw [e6, zmin5 d _ ⟨by omega, hv5⟩, zBs]
    dsimp only
    rw [zu_same, zcp58 d _ _ ⟨by omega, hv5⟩, zBs, zwp_some]
    have w1 : zR K x y ((zu (zu (zu (zu S.1 9 1 0 (zI j)) 9 1 1 (zI (x 12 j))) 9 1 2 (zI (x 17 j))) 9 1 3 (zI (x 18 j))), S.2) := zR_t (zR_t (zR_t (zR_t h (t := 9) (by decide) 1 _ _) (t := 9) (by decide) 1 _ _) (t := 9) (by decide) 1 _ _) (t := 9) (by decide) 1 _ _
    refine ⟨zR_tag w1 (t := 58) (by decide) (fun t' ht => ?_), ⟨?_, ?_, ?_, ?_, fun i i0 i1 => ?_⟩, fun t t9 t58 => ?_, ?_, ?_⟩
    · funext i k
      exact if_neg (fun q => ht q.1)
    · rfl
    · rfl
    · rfl
    · rfl
    · have e : zDj x j i = x 19 (5 * j + i) := sI_t ⟨i0, i1, by omega⟩ _ _
      rw [e]
      refine Eq.trans (if_pos ⟨rfl, rfl, by omega, by omega⟩) ?_
      rw [show 0 + (i.toNat - 0) = i.toNat by omega]
      exact a19 i i0 (by omega) i1
    · funext i k
      refine Eq.trans (if_neg (fun q => t58 q.1)) ?_
      exact (zu_tag _ t9).trans ((zu_tag _ t9).trans ((zu_tag _ t9).trans (zu_tag _ t9)))
    · funext k
      rfl
    · funext k
      dsimp only
      unfold zcpy
      rw [if_neg (by omega)]
      rfl
  rw [eW_again, zRix h hj.1 hj.2, show (zu S.1 9 1 0 (zI j)) 2 j.toNat 1 = S.1 2 j.toNat 1 from rfl, zRc12 h hj.1 hj.2, show (zu (zu S.1 9 1 0 (zI j)) 9 1 1 (zI (x 12 j))) 2 j.toNat 10 = S.1 2 j.toNat 10 from rfl, a17, zI_n1, zI_neg, zI_eq (by omega) (by omega) (by omega) (by omega)]
  by_cases q : x 17 j = -1
  · rw [zif_pos q]
    rw [q] at go
    rw [q]
    exact go
  · rw [zif_neg q]
    exact go
theorem zR_canMove_s (h : zR K x y S) (gd : zGd x) (d : Nat) {j : Int} (hj : zLn x j) : zR_canMove (d + 1) j.toNat S = some (zb (sMv x j), S) := by
  have b15 := zG15 gd.1 j
  have c15 := zRc15 h hj.1 hj.2
  have bx := zRbx h 18 j
  rw [eR_canMove]
  by_cases hc : x 15 j = 1
  · have la := zRLA h hj.1 hj.2 hc
    have cg := gd.2.2.2.1 j hj hc
    have b16 := cg.2.2.2.1
    have e22 : ∀ P : Prop, (P ↔ 5 ≤ x 16 j) → zR_canMove_22 d j.toNat (zb P) S = some (zb (sMv x j), S) := by
      intro P hP
      rw [eR_canMove_22, c15, la.2.2.1, zI_n1, zI_n5, zI_eq (by omega) (by omega) (by omega) (by omega), zif_pos hc, zb_0, zI_lt (by omega) (by omega) (by omega) (by omega)]
      by_cases p : P
      · rw [zif_neg (fun n => n p)]
        by_cases q : 5 < x 18 j
        · rw [zif_pos q]
          exact zbF S (fun n => by have := n.2.2; omega)
        · rw [zif_neg q]
          exact zbT S ⟨hc, hP.1 p, by omega⟩
      · rw [zif_pos p]
        exact zbF S (fun n => p (hP.2 n.2.1))
    rw [la.1, zI_n5, zI_n6, zI_eq (by omega) (by omega) (by omega) (by omega), zI_eq (by omega) (by omega) (by omega) (by omega)]
    by_cases p5 : x 16 j = 5
    · rw [zif_pos p5]
      have := e22 True ⟨fun _ => by omega, fun _ => trivial⟩
      rw [zb_t trivial] at this
      exact this
    · rw [zif_neg p5]
      by_cases p6 : x 16 j = 6
      · rw [zif_pos p6]
        have := e22 True ⟨fun _ => by omega, fun _ => trivial⟩
        rw [zb_t trivial] at this
        exact this
      · rw [zif_neg p6]
        have := e22 False ⟨fun q => q.elim, fun q => by omega⟩
        rw [zb_f (fun q => q)] at this
        exact this
  · have e22 : ∀ s : Int32, zR_canMove_22 d j.toNat s S = some (zb (sMv x j), S) := by
      intro s
      rw [eR_canMove_22, c15, zI_n1, zI_eq (by omega) (by omega) (by omega) (by omega), zif_neg hc]
      exact zbF S (fun n => hc n.1)
    rw [e22, e22]
    by_cases q : S.1 2 j.toNat 3 = 5
    · rw [zif_pos q]
    · rw [zif_neg q]
      by_cases q6 : S.1 2 j.toNat 3 = 6
      · rw [zif_pos q6]
      · rw [zif_neg q6]
theorem zR_laysBoth_s (h : zR K x y S) (gd : zGd x) (d : Nat) {l v m j : Int} (hl : zLn x l) (hm : 1 ≤ m ∧ m ≤ 5) (hw0 : zWs S 0 l (x 12 l) (-2) m (fun i => sDgt v (m - 1 - i))) (hj : zLn x j) (hv : sMv x j) :
    zwp (zR_laysBoth (d + 33) j.toNat S) (fun r => r.1 = zb (sBo x l v m j) ∧ zR K x y r.2 ∧ zWs r.2 0 l (x 12 l) (-2) m (fun i => sDgt v (m - 1 - i)) ∧ r.2.1 5 0 5 = S.1 5 0 5) := by
  have cg := gd.2.2.2.1 j hj hv.1
  have b11 := zG11 gd.1
  have b22 := gd.2.1 j
  have b2 := zG2 gd.1
  have b17 := cg.2.2.1
  have b18 := cg.2.2.2.2.1
  have ln := zGln gd.1 hl.1 hl.2
  have jn := zGln gd.1 hj.1 hj.2
  have b12 := zG12 gd.1
  have pth : ∀ i, 0 ≤ i → i < x 22 j → 0 ≤ x 23 (120 * j + i) ∧ x 23 (120 * j + i) < 116 := fun i i0 i1 => by
    have := (cg.2.1 i i0 i1).1
    unfold zEn zSw zJn at this
    omega
  have ox := sSetN_o x j (-1) (x 22 j).toNat
  have gj : zGp (sSetN x j (-1) (x 22 j).toNat) := sSetN_gp gd.1 j (by omega) _
  have back : sSetN (sSetN x j (-1) (x 22 j).toNat) j j (x 22 j).toNat = x := sSetN_b _ (fun i i0 i1 => (cg.2.1 i i0 (by omega)).2)
  have wb0 : zWb (sSetN x j (-1) (x 22 j).toNat) l (x 12 l) (-2) m (fun i => sDgt v (m - 1 - i)) := by
    refine ⟨⟨hl.1, by have := hl.2; omega⟩, ⟨?_, (b12 l).2⟩, by omega, by omega, fun i => sDgt_b _ _⟩
    unfold zSl
    rw [ox 2 (by decide), ox 3 (by decide)]
    exact ln.1
  have wb1 : ∀ x', zO8 (sSetN x j (-1) (x 22 j).toNat) x' → zWb x' j (x 12 j) (x 17 j) (x 18 j) (zDj x j) := by
    intro x' o
    refine ⟨⟨hj.1, by have := hj.2; omega⟩, ⟨?_, (b12 j).2⟩, by omega, ⟨by omega, hv.2.2⟩, zDj_b cg.2.2.2.2.2.2.2⟩
    unfold zSl
    rw [o 2 (by decide), o 3 (by decide), ox 2 (by decide), ox 3 (by decide)]
    exact jn.1
  rw [eR_laysBoth, zwp_bind]
  refine zwp_mono (zW_again_s h gd (d + 30) hj hv) (fun S1 q => ?_)
  obtain ⟨r1, w1, k1, k9, k58⟩ := q
  have w0 : zWs S1 0 l (x 12 l) (-2) m (fun i => sDgt v (m - 1 - i)) := by
    unfold zWs at hw0 ⊢
    rw [k9, k58]
    exact hw0
  rw [zwp_bind, zI_n1, zI_neg]
  refine zwp_mono (zC_setHolder_s r1 (d + 31) hj (by omega) hv.1 (v := -1) (by omega) b22 pth) (fun S2 q => ?_)
  obtain ⟨r2, o2⟩ := q
  have fin : ∀ (S3 : ZS) (P : Prop), zR K (sSetN x j (-1) (x 22 j).toNat) y S3 → (∀ t, t ≠ 39 → t ≠ 5 → S3.1 t = S1.1 t) → S3.1 5 0 5 = S.1 5 0 5 → (P ↔ sBo x l v m j) → zwp ((zC_setHolder (d + 32) j.toNat (S3.1 2 j.toNat 0) S3).bind (fun r4 => zgb (zb P) (some (zb P, r4)))) (fun r => r.1 = zb (sBo x l v m j) ∧ zR K x y r.2 ∧ zWs r.2 0 l (x 12 l) (-2) m (fun i => sDgt v (m - 1 - i)) ∧ r.2.1 5 0 5 = S.1 5 0 5) := by
    intro S3 P r3 o3 e5 hP
    have ix : S3.1 2 j.toNat 0 = zI j := (congrFun (congrFun (o3 2 (by decide) (by decide)) _) _).trans (zRix r1 hj.1 hj.2)
    have q := zC_setHolder_s r3 (d + 31) (l := j) (v := j) (by unfold zLn; rw [ox 11 (by decide)]; exact hj) (by rw [ox 11 (by decide)]; omega) (by rw [ox 15 (by decide)]; exact hv.1) (by have := hj.1; have := hj.2; omega) (by rw [ox 22 (by decide)]; exact b22) (by rw [ox 22 (by decide), ox 23 (by decide)]; exact pth)
    rw [ix, zwp_bind]
    refine zwp_mono q (fun S4 k => ?_)
    obtain ⟨r4, o4⟩ := k
    rw [ox 22 (by decide), back] at r4
    rw [zgb_zb, zwp_some]
    refine ⟨zb_c hP, r4, ?_, ?_⟩
    · unfold zWs at w0 ⊢
      dsimp only
      rw [o4.2 9 (by decide), o4.2 58 (by decide), o3 9 (by decide) (by decide), o3 58 (by decide) (by decide)]
      exact w0
    · dsimp only
      rw [o4.2 5 (by decide)]
      exact e5
  have e505 : S2.1 5 0 5 = S.1 5 0 5 := (congrFun (congrFun (o2.2 5 (by decide)) _) _).trans (congrFun (congrFun (k1 5 (by decide) (by decide)) _) _)
  have u5 : ∀ (f : ZMp Int32) (u : Int32) t, t ≠ 5 → (zu f 5 0 4 u) t = f t := fun f u t ht => by
    funext i k
    exact zu_tag f ht
  have rA : zR K (sSetN x j (-1) (x 22 j).toNat) y ((zu S2.1 5 0 4 (zI 0)), S2.2) := zR_t r2 (t := 5) (by decide) 0 _ _
  have wA : zWs ((zu S2.1 5 0 4 (zI 0)), S2.2) 0 l (x 12 l) (-2) m (fun i => sDgt v (m - 1 - i)) := zWs_9 o2 w0
  have A := zR_canLay_s (d + 17) (fun _ => True) wA wb0 (fun d' x' S' h' _ _ o' => by
    rw [show d + 17 + d' = 1 + (d + 16 + d') by omega]
    exact zrest_1 _ S' (Or.inl ((congrFun (congrFun (o'.2 5 (by decide)) _) _).trans (zu_same S2.1 5 0 4 (zI 0))))) rA gj
  rw [zg_t (show zbl 0 = true from rfl), zI_n0, A, zBs]
  dsimp only
  rw [zb_z]
  by_cases a : zLay (sSetN x j (-1) (x 22 j).toNat) l (x 12 l) m (fun i => sDgt v (m - 1 - i)) (zRg (sSetN x j (-1) (x 22 j).toNat) l (-2) m (fun i => sDgt v (m - 1 - i))) (fun _ => True)
  · have rB : zR K (sSetN x j (-1) (x 22 j).toNat) y ((zu (zu S2.1 5 0 4 (zI 0)) 5 0 4 (zI 1)), S2.2) := zR_t rA (t := 5) (by decide) 0 _ _
    have wB1 : zWs ((zu (zu S2.1 5 0 4 (zI 0)) 5 0 4 (zI 1)), S2.2) 1 j (x 12 j) (x 17 j) (x 18 j) (zDj x j) := zWs_9 o2 w1
    have B := zR_canLay_s (S0 := ((zu (zu S2.1 5 0 4 (zI 0)) 5 0 4 (zI 1)), S2.2)) (d + 17) (fun x' => zLay x' j (x 12 j) (x 18 j) (zDj x j) (zRg x' j (x 17 j) (x 18 j) (zDj x j)) (fun _ => True)) wA wb0 (fun d' x' S' h' g' o8' o' => by
      rw [show d + 17 + d' = 17 + (d + d') by omega]
      exact zrest_2 _ h' g' ((congrFun (congrFun (o'.2 5 (by decide)) _) _).trans (zu_same (zu S2.1 5 0 4 (zI 0)) 5 0 4 (zI 1))) (zWs_9 o' wB1) (wb1 x' o8')) rB gj
    rw [zif_neg (fun n => n a), zg_t (show zbl (zI 1) = true from rfl), B, zBs]
    dsimp only
    refine fin _ _ rB (fun t t39 t5 => ?_) e505 Iff.rfl
    exact (u5 _ _ t t5).trans ((u5 _ _ t t5).trans (o2.2 t t39))
  · rw [zif_pos a]
    refine fin _ _ rA (fun t t39 t5 => ?_) e505 ⟨fun q => absurd q a, fun q => absurd (zLay_m (fun _ _ => trivial) q) a⟩
    exact (u5 _ _ t t5).trans (o2.2 t t39)
end BO
