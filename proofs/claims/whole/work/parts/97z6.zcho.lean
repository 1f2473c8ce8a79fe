/-! EXPLAIN, SURE: the class's search -/
theorem zsrt_u {n : Int} (hn : 0 ≤ n ∧ n ≤ 3) {w u : Int → Int} (mw : ∀ j, 0 ≤ j → j + 1 < n → w j < w (j + 1)) (mu : ∀ j, 0 ≤ j → j + 1 < n → u j < u (j + 1)) (h : ∀ i, 0 ≤ i → i < n → ∃ j, 0 ≤ j ∧ j < n ∧ u j = w i) : ∀ i, 0 ≤ i → i < n → w i = u i := by
  intro i i0 i1
  have : n = 1 ∨ n = 2 ∨ n = 3 := by omega
  rcases this with rfl | rfl | rfl
  · obtain ⟨a, a0, a1, a2⟩ := h i i0 i1
    rw [show a = i by omega] at a2
    exact a2.symm
  · have w0 := mw 0 (by omega) (by omega)
    have u0 := mu 0 (by omega) (by omega)
    rw [show (0 : Int) + 1 = 1 from rfl] at w0 u0
    have f : ∀ i, 0 ≤ i → i < 2 → u 0 = w i ∨ u 1 = w i := by
      intro j a b
      obtain ⟨k, k0, k1, k2⟩ := h j a b
      have : k = 0 ∨ k = 1 := by omega
      rcases this with rfl | rfl
      · exact Or.inl k2
      · exact Or.inr k2
    have f0 := f 0 (by omega) (by omega)
    have f1 := f 1 (by omega) (by omega)
    have : i = 0 ∨ i = 1 := by omega
    rcases this with rfl | rfl <;> omega
  · have w0 := mw 0 (by omega) (by omega)
    have u0 := mu 0 (by omega) (by omega)
    have w1 := mw 1 (by omega) (by omega)
    have u1 := mu 1 (by omega) (by omega)
    rw [show (0 : Int) + 1 = 1 from rfl] at w0 u0
    rw [show (1 : Int) + 1 = 2 from rfl] at w1 u1
    have f : ∀ i, 0 ≤ i → i < 3 → u 0 = w i ∨ u 1 = w i ∨ u 2 = w i := by
      intro j a b
      obtain ⟨k, k0, k1, k2⟩ := h j a b
      have : k = 0 ∨ k = 1 ∨ k = 2 := by omega
      rcases this with rfl | rfl | rfl
      · exact Or.inl k2
      · exact Or.inr (Or.inl k2)
      · exact Or.inr (Or.inr k2)
    have f0 := f 0 (by omega) (by omega)
    have f1 := f 1 (by omega) (by omega)
    have f2 := f 2 (by omega) (by omega)
    have : i = 0 ∨ i = 1 ∨ i = 2 := by omega
    rcases this with rfl | rfl | rfl <;> omega
theorem zXn_u {x : ZW} {n c e : Int} (hn : 0 ≤ n ∧ n ≤ 3) (hc : 0 ≤ c ∧ c < zcd n) (he : 0 ≤ e ∧ e < zcd n) (kc : zXn x n c) (ke : zXn x n e) (h : ∀ i, 0 ≤ i → i < n → zHx n e (zdg n i c)) : c = e := by
  have q := zsrt_u hn (w := fun i => zdg n i c) (u := fun i => zdg n i e) kc.2.1 ke.2.1 h
  have a : ¬ c < e := fun r => by
    obtain ⟨j, j0, j1, j2, -⟩ := (zLx_c hn hc he).2 r
    have := q j j0 j1
    dsimp only at j2 this
    omega
  have b : ¬ e < c := fun r => by
    obtain ⟨j, j0, j1, j2, -⟩ := (zLx_c hn he hc).2 r
    have := q j j0 j1
    dsimp only at j2 this
    omega
  omega
/-- the class's marks -/
def zMkd (x : ZW) (S : ZS) : Prop := ∀ e, 0 ≤ e → e < 96 → S.1 53 0 e.toNat = zI (sI (zSo x (x 35 0) e) 1 0)
/-- the chosen ones -/
def zCn (x : ZW) (had : Int) (v : Int → Int) (S : ZS) : Prop := (∀ j, 0 ≤ j → j < had → 0 ≤ v j ∧ v j < 96 ∧ S.1 54 0 j.toNat = zI (v j)) ∧ (∀ i j, 0 ≤ i → i < j → j < had → v i ≠ v j) ∧ ∀ j, 0 ≤ j → j < had → zSw x (v j) ∧ ¬ zSo x (x 35 0) (v j)
/-- what a search from the chosen ones adds; Q says which sets it tells -/
def zCo (K : ZS) (x y : ZW) (n had : Int) (v : Int → Int) (l : List Int) (N : Nat) (Q : Int → Prop) (S : ZS) : Prop := ∃ l', zLv K x y n l' S ∧ zMkd x S ∧ (∀ j, 0 ≤ j → j < had → S.1 54 0 j.toNat = zI (v j)) ∧ l'.length ≤ l.length + N ∧ (∀ c ∈ l, c ∈ l') ∧
  ∀ c : Int, 0 ≤ c → c < zcd n → zXn x n c → (∀ j, 0 ≤ j → j < had → zHx n c (v j)) → Q c → c ∈ l'
section CO
variable {K : ZS} {x y : ZW} {S : ZS}
theorem zcho_leaf (g : zGp x) (tc : zTC x K) {n : Int} (hn : 0 ≤ n ∧ n ≤ 3) (hmin : ∀ m : Int, 0 ≤ m → m < n → ∀ c : Int, 0 ≤ c → c < zcd m → ¬ zXn x m c) (D : Nat) {had : Int} {v : Int → Int} {l : List Int} (h0 : 0 ≤ had ∧ had ≤ n) (hl : zLv K x y n l S) (hm : zMkd x S) (hc : zCn x had v S) (hlen : l.length < 1000000) (hu : ∀ t, 0 ≤ t → t < x 35 0 → ¬ zUx x had v t) :
    zwp (zB_addSet (D + 3) (zI had) S) (zCo K x y n had v l 1 (fun _ => True)) := by
  obtain ⟨c1, c2, c3⟩ := hc
  have hx : zEX x had v := zEX_l tc (fun j a b => (c3 j a b).2) hu
  have e : n = had := by
    by_cases q : had < n
    · obtain ⟨c, a, b, r⟩ := zXn_l (x := x) (n := had) (v := v) (by omega) (fun j a b => ⟨(c1 j a b).1, (c1 j a b).2.1⟩) c2 (fun j a b => (c3 j a b).1) hx
      exact absurd r (hmin had h0.1 q c a b)
    · omega
  rw [e] at hn hl ⊢
  refine zwp_mono (zLv_a g D hn hlen hl c1 c2 (fun j a b => (c3 j a b).1) hx) (fun S' k => ?_)
  obtain ⟨c, k1, k2, k3, k4⟩ := k
  refine ⟨c :: l, k1, fun e a b => by rw [k3]; exact hm e a b, fun j a b => by rw [k2]; exact (c1 j a b).2.2, ?_, fun e he => List.mem_cons_of_mem _ he, fun e e0 e1 e2 e3 _ => ?_⟩
  · rw [List.length_cons]
    omega
  · have kc := k1.2.2.2.1 c List.mem_cons_self
    have q : e = c := zXn_u hn ⟨e0, e1⟩ ⟨kc.1, kc.2.1⟩ e2 kc.2.2 (fun i i0 i1 => (k4 _).2 (zpig hn (u := fun i => zdg had i e) c2 e3 i i0 i1))
    rw [q]
    exact List.mem_cons_self
theorem zcho_top (g : zGp x) (tc : zTC x K) (h60 : 0 ≤ x 35 0 ∧ x 35 0 ≤ 60) {n : Int} (hn : 0 ≤ n ∧ n ≤ 3) (hmin : ∀ m : Int, 0 ≤ m → m < n → ∀ c : Int, 0 ≤ c → c < zcd m → ¬ zXn x m c) (D : Nat) {had : Int} {v : Int → Int} {l : List Int} (h0 : 0 ≤ had ∧ had ≤ n) (hl : zLv K x y n l S) (hm : zMkd x S) (hc : zCn x had v S) (hlen : l.length < 1000000) (R : ZS → Prop)
    (hleaf : ∀ S', zCo K x y n had v l 1 (fun _ => True) S' → R S') (hloop : ∀ t, 0 ≤ t → t < x 35 0 → zUx x had v t → zwp (zB_choose_20 (D + 3) (zI had) (zI n) (zI t) (zI 0) S) R) : zwp (zB_choose (D + 4) (zI had) (zI n) S) R := by
  obtain ⟨r, r1, r2⟩ := zB_firstUnexplained_s hl.1 tc (D + 1) h60 (had := had) (by omega) hc.1
  have r1 : zB_firstUnexplained (D + 3) (zI had) S = some (zI r, S) := r1
  have br : -1 ≤ r ∧ r < 60 := by
    rcases r2 with ⟨a, -⟩ | ⟨a, b, -⟩ <;> omega
  rw [eB_choose, r1, zBs]
  dsimp only
  rw [zI_n1, zI_neg, zI_n0, zI_eq (by omega) (by omega) (by omega) (by omega)]
  rcases r2 with ⟨a, b⟩ | ⟨a, b, c⟩
  · rw [zif_pos a, zwp_bind]
    refine zwp_mono (zcho_leaf g tc hn hmin D h0 hl hm hc hlen b) (fun S' k => ?_)
    rw [zwp_some]
    exact hleaf S' k
  · rw [zif_neg (by omega)]
    exact hloop r a b c
theorem zcho_loop (g : zGp x) (tc : zTC x K) (h60 : 0 ≤ x 35 0 ∧ x 35 0 ≤ 60) {n : Int} (hn : 0 ≤ n ∧ n ≤ 3) (d k : Nat) (IH : ∀ (had : Int) (v : Int → Int) (l : List Int) (S : ZS), 0 ≤ had → had + k = n → zLv K x y n l S → zMkd x S → zCn x had v S → l.length + 6 ^ k < 1000000 → zwp (zB_choose (d + k + 4) (zI had) (zI n) S) (zCo K x y n had v l (6 ^ k) (fun _ => True)))
    {had : Int} {v : Int → Int} (h0 : 0 ≤ had) (hk : had + (k + 1 : Nat) = n) {t nT : Int} (ht : 0 ≤ t ∧ t < x 35 0) (hux : zUx x had v t) (hnT : 0 ≤ nT ∧ nT ≤ 6) (hK : K.1 51 0 t.toNat = zI nT) (h3 : ∀ j, 0 ≤ j → j < nT → ∃ e, 0 ≤ e ∧ e < 96 ∧ zSw x e ∧ x 37 (96 * t + e) = 1 ∧ K.1 50 0 (6 * t + j).toNat = zI e) :
    ∀ (m : Nat) (i : Int) (l : List Int) (S : ZS), 0 ≤ i → i + m = nT → zLv K x y n l S → zMkd x S → zCn x had v S → l.length + m * 6 ^ k < 1000000 → zwp (zB_choose_20 (d + (k + 1) + 3) (zI had) (zI n) (zI t) (zI i) S) (zCo K x y n had v l (m * 6 ^ k) (fun c => ∃ i' e, i ≤ i' ∧ i' < nT ∧ 0 ≤ e ∧ e < 96 ∧ K.1 50 0 (6 * t + i').toNat = zI e ∧ zHx n c e)) := by
  intro m
  induction m with
  | zero =>
    intro i l S i0 ei hl hm hc hlen
    rw [eB_choose_20, zg_t (by rw [zI_in (by omega) (by omega)]; omega), zI_zx (by omega) (by omega), zK_51 hl.1, hK, zI_le (by omega) (by omega) (by omega) (by omega), zif_pos (by omega), zwp_some]
    refine ⟨l, hl, hm, fun j a b => (hc.1 j a b).2.2, Nat.le_add_right _ _, fun c q => q, fun c _ _ _ _ q => ?_⟩
    obtain ⟨i', e, a, b, -⟩ := q
    omega
  | succ m ih =>
    intro i l S i0 ei hl hm hc hlen
    have p1 : 0 < 6 ^ k := Nat.pow_pos (by decide)
    have hs6 : (m + 1) * 6 ^ k = m * 6 ^ k + 6 ^ k := Nat.succ_mul m (6 ^ k)
    obtain ⟨e, e0, e1, e2, e3, e4⟩ := h3 i i0 (by omega)
    have c50 : S.1 50 0 (6 * t + i).toNat = zI e := (zK_50 hl.1 _ _).trans e4
    rw [eB_choose_20, zg_t (by rw [zI_in (by omega) (by omega)]; omega), zI_zx (by omega) (by omega), zK_51 hl.1, hK, zI_le (by omega) (by omega) (by omega) (by omega), zif_neg (by omega), zI_le (by omega) (by omega) (by omega) (by omega), zif_neg (by omega), zI_n6, zI_mul, zI_add, show t * 6 + i = 6 * t + i by omega, zg_t (by rw [zI_in (by omega) (by omega)]; omega), zI_zx (by omega) (by omega), c50, zg_t (by rw [zI_in (by omega) (by omega)]; omega), zI_zx (by omega) (by omega), hm e e0 e1, zI_n0, zI_n1, zI_add, zI_add]
    by_cases hs : zSo x (x 35 0) e
    · rw [sI_t hs, zI_eq (by omega) (by omega) (by omega) (by omega), zif_neg (by omega)]
      refine zwp_mono (ih (i + 1) l S (by omega) (by omega) hl hm hc (by omega)) (fun S' q => ?_)
      obtain ⟨l', q1, q2, q3, q4, q5, q6⟩ := q
      refine ⟨l', q1, q2, q3, by omega, q5, fun c c0 c1 c2 c3 c4 => ?_⟩
      obtain ⟨i', e', a, b, a0, a1, a2, a3⟩ := c4
      by_cases hi : i' = i
      · rw [hi, e4, zI_eq (by omega) (by omega) (by omega) (by omega)] at a2
        rw [← a2] at a3
        obtain ⟨t', t0, t1, t2, t3⟩ := hs
        obtain ⟨p, p0, p1, p2⟩ := a3
        have := (c2.2.2 t' t0 t1).2 ⟨p, p0, p1, by dsimp only; rw [p2]; exact t3⟩
        omega
      · exact q6 c c0 c1 c2 c3 ⟨i', e', by omega, b, a0, a1, a2, a3⟩
    · rw [sI_f hs, zif_pos rfl, zg_t (by rw [zI_in (by omega) (by omega)]; omega), zI_zx (by omega) (by omega), zwp_bind]
      have hnv : ∀ j, 0 ≤ j → j < had → v j ≠ e := fun j a b q => hux.2 ⟨j, a, b, by rw [q]; exact e3⟩
      have c' : zCn x (had + 1) (fun j => if j = had then e else v j) (zu S.1 54 0 had.toNat (zI e), S.2) := by
        refine ⟨fun j a b => ?_, fun p q a b c => ?_, fun j a b => ?_⟩
        · dsimp only
          by_cases hj : j = had
          · rw [if_pos hj, hj]
            exact ⟨e0, e1, zu_same S.1 54 0 had.toNat (zI e)⟩
          · rw [if_neg hj]
            have := hc.1 j a (by omega)
            exact ⟨this.1, this.2.1, (zu_pl S.1 (show j.toNat ≠ had.toNat by omega)).trans this.2.2⟩
        · dsimp only
          by_cases hq : q = had
          · rw [if_pos hq, if_neg (by omega)]
            exact hnv p a (by omega)
          · rw [if_neg hq, if_neg (by omega)]
            exact hc.2.1 p q a b (by omega)
        · dsimp only
          by_cases hj : j = had
          · rw [if_pos hj]
            exact ⟨e2, hs⟩
          · rw [if_neg hj]
            exact hc.2.2 j a (by omega)
      refine zwp_mono (IH (had + 1) _ l _ (by omega) (by omega) ⟨zR_t hl.1 (t := 54) (by decide) 0 _ _, hl.2⟩ hm c' (by omega)) (fun S2 q => ?_)
      obtain ⟨l1, q1, q2, q3, q4, q5, q6⟩ := q
      have v2 : ∀ j, 0 ≤ j → j < had → S2.1 54 0 j.toNat = zI (v j) := fun j a b => by
        have := q3 j a (by omega)
        dsimp only at this
        rw [if_neg (by omega)] at this
        exact this
      refine zwp_mono (ih (i + 1) l1 S2 (by omega) (by omega) q1 q2 ⟨fun j a b => ⟨(hc.1 j a b).1, (hc.1 j a b).2.1, v2 j a b⟩, hc.2⟩ (by omega)) (fun S3 r => ?_)
      obtain ⟨l2, r1, r2, r3, r4, r5, r6⟩ := r
      refine ⟨l2, r1, r2, r3, by omega, fun c hc' => r5 c (q5 c hc'), fun c c0 c1 c2 c3 c4 => ?_⟩
      obtain ⟨i', e', a, b, a0, a1, a2, a3⟩ := c4
      by_cases hi : i' = i
      · rw [hi, e4, zI_eq (by omega) (by omega) (by omega) (by omega)] at a2
        rw [← a2] at a3
        refine r5 c (q6 c c0 c1 c2 (fun j j0 j1 => ?_) True.intro)
        dsimp only
        by_cases hj : j = had
        · rw [if_pos hj]; exact a3
        · rw [if_neg hj]; exact c3 j j0 (by omega)
      · exact r6 c c0 c1 c2 c3 ⟨i', e', by omega, b, a0, a1, a2, a3⟩
theorem zB_choose_s (g : zGp x) (tc : zTC x K) (h60 : 0 ≤ x 35 0 ∧ x 35 0 ≤ 60) {n : Int} (hn : 0 ≤ n ∧ n ≤ 3) (hmin : ∀ m : Int, 0 ≤ m → m < n → ∀ c : Int, 0 ≤ c → c < zcd m → ¬ zXn x m c) (d : Nat) :
    ∀ (k : Nat) (had : Int) (v : Int → Int) (l : List Int) (S : ZS), 0 ≤ had → had + k = n → zLv K x y n l S → zMkd x S → zCn x had v S → l.length + 6 ^ k < 1000000 → zwp (zB_choose (d + k + 4) (zI had) (zI n) S) (zCo K x y n had v l (6 ^ k) (fun _ => True)) := by
  have b2 := zG2 g
  intro k
  induction k with
  | zero =>
    intro had v l S h0 hk hl hm hc hlen
    refine zcho_top g tc h60 hn hmin (d + 0) ⟨h0, by omega⟩ hl hm hc (by omega) _ (fun S' q => q) (fun t t0 t1 hux => ?_)
    obtain ⟨b36, b37, nT, n0, n6, hK, h3, h4⟩ := tc t t0 t1
    have fin : zCo K x y n had v l (6 ^ 0) (fun _ => True) S := by
      refine ⟨l, hl, hm, fun j a b => (hc.1 j a b).2.2, Nat.le_add_right _ _, fun c q => q, fun c c0 c1 c2 c3 _ => ?_⟩
      exfalso
      obtain ⟨i, i0, i1, i2⟩ := (c2.2.2 t t0 t1).1 hux.1
      have e : n = had := by omega
      rw [e] at hn c3
      obtain ⟨j, j0, j1, j2⟩ := zpig hn (u := fun i => zdg had i c) hc.2.1 c3 i i0 (by omega)
      refine hux.2 ⟨j, j0, j1, ?_⟩
      rw [j2]
      rw [e] at i2
      exact i2
    rw [eB_choose_20, zg_t (by rw [zI_in (by omega) (by omega)]; omega), zI_zx (by omega) (by omega), zK_51 hl.1, hK, zI_le (by omega) (by omega) (by omega) (by omega), zwp_zif]
    refine ⟨fun _ => by rw [zwp_some]; exact fin, fun _ => ?_⟩
    rw [zI_le (by omega) (by omega) (by omega) (by omega), zif_pos (by omega), zwp_some]
    exact fin
  | succ k ih =>
    intro had v l S h0 hk hl hm hc hlen
    have p6 : 6 ^ (k + 1) = 6 * 6 ^ k := by rw [Nat.pow_succ, Nat.mul_comm]
    have p1 : 1 ≤ 6 ^ k := Nat.pow_pos (by decide)
    refine zcho_top g tc h60 hn hmin (d + (k + 1)) ⟨h0, by omega⟩ hl hm hc (by omega) _ (fun S' q => ?_) (fun t t0 t1 hux => ?_)
    · obtain ⟨l', q1, q2, q3, q4, q5, q6⟩ := q
      exact ⟨l', q1, q2, q3, by omega, q5, q6⟩
    · obtain ⟨b36, b37, nT, n0, n6, hK, h3, h4⟩ := tc t t0 t1
      have le : nT.toNat * 6 ^ k ≤ 6 * 6 ^ k := Nat.mul_le_mul_right _ (by omega)
      refine zwp_mono (zcho_loop g tc h60 hn d k ih h0 hk ⟨t0, t1⟩ hux ⟨n0, n6⟩ hK h3 nT.toNat 0 l S (by omega) (by omega) hl hm hc (by omega)) (fun S' q => ?_)
      obtain ⟨l', q1, q2, q3, q4, q5, q6⟩ := q
      refine ⟨l', q1, q2, q3, by omega, q5, fun c c0 c1 c2 c3 _ => q6 c c0 c1 c2 c3 ?_⟩
      obtain ⟨i, i0, i1, i2⟩ := (c2.2.2 t t0 t1).1 hux.1
      have sw := c2.1 i i0 i1
      unfold zSw at sw
      obtain ⟨j, j0, j1, j2⟩ := h4 (zdg n i c) (by omega) (by omega) i2
      exact ⟨j, zdg n i c, j0, j1, by omega, by omega, j2, i, i0, i1, rfl⟩
end CO
