/-! which fields a method may change -/
def zFm (L : List Nat) (x x' : ZW) : Prop := ∀ g, g ∉ L → x' g = x g
section FM
variable {L : List Nat} {x z w : ZW}
theorem zFm_r (L : List Nat) (x : ZW) : zFm L x x := fun _ _ => rfl
theorem zFm_t (h : zFm L x z) (h' : zFm L z w) : zFm L x w := fun g hg => (h' g hg).trans (h g hg)
theorem zFm_u (h : zFm L x z) {g : Nat} (hg : g ∈ L) (k v : Int) : zFm L x (xu z g k v) := fun g' hg' => by
  refine Eq.trans ?_ (h g' hg')
  funext k'
  exact xu_g _ (fun e => hg' (e ▸ hg))
theorem zFm_i (h : zFm L x z) (h' : zFm L x w) (P : Prop) [Decidable P] : zFm L x (if P then z else w) := by split <;> assumption
theorem zFm_i2 (h : zFm L x z) (h' : zFm L x w) (P : Prop) [Decidable P] (a b : Int) : zFm L x (if P then (a, z) else (b, w)).2 := by split <;> assumption
/-- the fields of lines, calls, books, zones, faults: the ones that neither tests, nor tariffs, nor the shape of the plant ask for -/
def zLf : List Nat := [1, 7, 8, 9, 10, 11, 12, 13, 14, 15, 16, 17, 18, 19, 20, 21, 22, 23, 24, 25, 26, 27, 28, 29, 30, 31, 32, 50]
theorem zFm_hold (h : zFm zLf x z) (l e : Int) : zFm zLf x (sHold z l e) := by
  unfold sHold
  repeat refine zFm_u ?_ (by decide) _ _
  exact h
theorem zFm_lift0 (h : zFm zLf x z) (l : Int) : zFm zLf x (sLift0 z l) := by
  unfold sLift0
  repeat refine zFm_u ?_ (by decide) _ _
  exact h
theorem zFm_lift (x : ZW) (l : Int) : zFm zLf x (sLift x l).2 := by
  unfold sLift
  split
  · split
    · exact zFm_r _ _
    · exact zFm_u (zFm_hold (zFm_lift0 (zFm_r _ _) l) l _) (by decide) _ _
  · exact zFm_r _ _
theorem zFm_tk (h : zFm zLf x z) (l : Int) : zFm zLf x (sTk z l) := zFm_u h (by decide) _ _
theorem zFm_nd (h : zFm zLf x z) (l d : Int) : zFm zLf x (sNd z l d) := by
  unfold sNd
  split
  · exact zFm_u h (by decide) _ _
  · exact h
theorem zFm_ed (h : zFm zLf x z) (l d : Int) : zFm zLf x (sEd z l d) := by
  unfold sEd
  refine zFm_u ?_ (by decide) _ _
  split
  · exact zFm_u (zFm_u h (by decide) _ _) (by decide) _ _
  · exact zFm_u h (by decide) _ _
theorem zFm_fin (h : zFm zLf x z) (l o : Int) : zFm zLf x (sFin z l o) := by
  unfold sFin
  split
  · exact zFm_u h (by decide) _ _
  · split
    · exact zFm_u (zFm_u (zFm_u h (by decide) _ _) (by decide) _ _) (by decide) _ _
    · exact zFm_u h (by decide) _ _
theorem zFm_sel (h : zFm zLf x z) (l e : Int) : zFm zLf x (sSel z l e) := by
  unfold sSel
  refine zFm_u ?_ (by decide) _ _
  split
  · exact zFm_hold h l e
  · exact h
theorem zFm_step (x : ZW) (l d : Int) : zFm zLf x (sStep x l d) := by
  have h := zFm_tk (zFm_nd (zFm_r zLf x) l d) l
  have h1 := zFm_ed h l d
  unfold sStep
  split
  · split
    · unfold sJun
      split
      · exact zFm_u h1 (by decide) _ _
      · exact h1
    · split
      · exact h1
      · exact zFm_fin h1 l _
  · exact zFm_sel h l _
theorem zFm_dial (x : ZW) (l d : Int) : zFm zLf x (sDial x l d).2 := by
  unfold sDial
  split
  · split
    · exact zFm_step x l d
    · exact zFm_r _ _
  · exact zFm_r _ _
theorem zFm_seconds (x : ZW) (n : Int) : zFm zLf x (sSeconds x n).2 := by
  unfold sSeconds
  split
  · exact zFm_u (zFm_r _ _) (by decide) _ _
  · exact zFm_r _ _
theorem zFm_zone (x : ZW) (a b : Int) : zFm zLf x (sZone x a b).2 := by
  unfold sZone
  split
  · exact zFm_u (zFm_r _ _) (by decide) _ _
  · exact zFm_r _ _
theorem zFm_out (x : ZW) (a b : Int) : zFm zLf x (sOut x a b).2 := by
  unfold sOut
  split
  · exact zFm_u (zFm_r _ _) (by decide) _ _
  · exact zFm_r _ _
theorem zFm_faulty (x : ZW) (a b : Int) : zFm zLf x (sFaulty x a b).2 := by
  unfold sFaulty
  split
  · exact zFm_u (zFm_r _ _) (by decide) _ _
  · exact zFm_r _ _
theorem zFm_answer (x : ZW) (l : Int) : zFm zLf x (sAnswer x l).2 := by
  unfold sAnswer
  split
  · exact zFm_u (zFm_u (zFm_r _ _) (by decide) _ _) (by decide) _ _
  · exact zFm_r _ _
theorem zFm_word (x : ZW) (c u : Int) : zFm zLf x (sWord x c u).2 := by
  unfold sWord
  split
  · exact zFm_u (zFm_u (zFm_u (zFm_u (zFm_r _ _) (by decide) _ _) (by decide) _ _) (by decide) _ _) (by decide) _ _
  · exact zFm_r _ _
theorem zFm_line (x : ZW) (a b n : Int) : zFm zLf x (sLine x a b n).2 := by
  unfold sLine sAdd
  split
  · exact zFm_u (zFm_u (zFm_u (zFm_u (zFm_r _ _) (by decide) _ _) (by decide) _ _) (by decide) _ _) (by decide) _ _
  · exact zFm_r _ _
theorem zFm_write (x : ZW) (l u : Int) : zFm zLf x (sWrite x l u) := by
  unfold sWrite
  split
  · exact zFm_u (zFm_u (zFm_u (zFm_u (zFm_u (zFm_r _ _) (by decide) _ _) (by decide) _ _) (by decide) _ _) (by decide) _ _) (by decide) _ _
  · exact zFm_r _ _
theorem zFm_free (h : zFm zLf x z) (l : Int) : ∀ n : Nat, zFm zLf x (sFreeN z l n)
  | 0 => h
  | n + 1 => zFm_u (zFm_free h l n) (by decide) _ _
theorem zFm_rel (h : zFm zLf x z) (l : Int) : zFm zLf x (sRel z l) := by
  unfold sRel
  refine zFm_u ?_ (by decide) _ _
  split
  · exact zFm_u (zFm_free h l _) (by decide) _ _
  · exact zFm_u (zFm_u (zFm_free h l _) (by decide) _ _) (by decide) _ _
theorem zFm_end (x : ZW) (l u : Int) : zFm zLf x (sEnd x l u).2 := by
  unfold sEnd
  split
  · split
    · exact zFm_rel (zFm_write x l u) l
    · exact zFm_rel (zFm_r _ _) l
  · exact zFm_r _ _
theorem zFm_rack (x : ZW) (a b c : Int) : zFm [2, 3, 4, 5] x (sRack x a b c).2 := by
  unfold sRack
  split
  · exact zFm_u (zFm_u (zFm_u (zFm_u (zFm_r _ _) (by decide) _ _) (by decide) _ _) (by decide) _ _) (by decide) _ _
  · exact zFm_r _ _
theorem zFm_outlet (x : ZW) (r s l p e : Int) : zFm [6] x (sOutlet x r s l p e).2 := by
  unfold sOutlet
  split
  · exact zFm_u (zFm_r _ _) (by decide) _ _
  · exact zFm_r _ _
theorem zFm_forget (x : ZW) : zFm [35] x (sForget x).2 := zFm_u (zFm_r _ _) (by decide) _ _
theorem zFm_test (x : ZW) (l v m : Int) : zFm [35, 36, 37] x (sTest x l v m).2 := by
  unfold sTest
  split
  · split
    · intro g hg
      refine (s37_g _ _ _ (fun e => hg (by rw [e]; decide))).trans ?_
      exact zFm_u (zFm_u (zFm_r _ _) (by decide) _ _) (by decide) _ _ g hg
    · exact zFm_r _ _
  · exact zFm_r _ _
theorem zFm_sign (h : zFm [33, 34] x z) (v : Int) : zFm [33, 34] x (sSign z v) := by
  unfold sSign
  split
  · exact zFm_u (zFm_u h (by decide) _ _) (by decide) _ _
  · exact h
theorem zFm_f8 (w : Int64) : ∀ (n : Nat) (z : ZW), zFm [33, 34] x z → zFm [33, 34] x (sF8 z w n)
  | 0, _, h => h
  | n + 1, _, h => zFm_f8 w n _ (zFm_sign h _)
theorem zFm_feed (x : ZW) (a b c : Int64) : zFm [33, 34] x (sFeed x a b c).2 := by
  unfold sFeed
  dsimp only
  exact zFm_f8 c 8 _ (zFm_f8 b 8 _ (zFm_f8 a 8 _ (zFm_r _ _)))
end FM
/-! the tests' notes, the tariff's numbers, the outlets: kept -/
section KP
variable {K : ZS} {x z : ZW}
theorem zTC_f {L : List Nat} (h : zTC x K) (f : zFm L x z) (h2 : 2 ∉ L) (h4 : 4 ∉ L) (h35 : 35 ∉ L) (h36 : 36 ∉ L) (h37 : 37 ∉ L) : zTC z K := by
  unfold zTC zSw at h ⊢
  rw [f 2 h2, f 4 h4, f 35 h35, f 36 h36, f 37 h37]
  exact h
theorem zTl_f {L : List Nat} (h : zTl x K) (f : zFm L x z) (h42 : 42 ∉ L) (h48 : 48 ∉ L) : zTl z K := by
  unfold zTl at h ⊢
  rw [f 42 h42, f 48 h48]
  exact h
theorem zTC_forget (x : ZW) (K : ZS) : zTC (sForget x).2 K := by
  intro t t0 t1
  have e : (sForget x).2 35 0 = 0 := xu_s x 35 0 0
  rw [e] at t1
  omega
/-- switches that are there stay there -/
theorem zTC_sw (h : zTC x K) (hs : ∀ a, zSw x a → zSw z a) (h35 : z 35 = x 35) (h36 : z 36 = x 36) (h37 : z 37 = x 37) : zTC z K := by
  unfold zTC at h ⊢
  rw [h35, h36, h37]
  intro t t0 t1
  obtain ⟨a, b, n, n0, n1, n2, n3, n4⟩ := h t t0 t1
  refine ⟨a, b, n, n0, n1, n2, fun j j0 j1 => ?_, n4⟩
  obtain ⟨e, e0, e1, e2, e3⟩ := n3 j j0 j1
  exact ⟨e, e0, e1, hs e e2, e3⟩
theorem zTC_rack (h : zTC x K) (g : zGp x) (a b c : Int) : zTC (sRack x a b c).2 K := by
  have f := zFm_rack x a b c
  refine zTC_sw h (fun e he => ?_) (f 35 (by decide)) (f 36 (by decide)) (f 37 (by decide))
  have b2 := zG2 g
  unfold sRack
  split
  · dsimp only
    unfold zSw at he ⊢
    rw [xu_s, xu_g _ (by decide), xu_g _ (by decide), xu_kk, if_neg (by omega), xu_g _ (by decide)]
    omega
  · exact he
/-- outlets of a section that isn't there lead nowhere; a rack that isn't there has one section at most -/
def zGO (x : ZW) : Prop := zGo x ∧ ∀ r, x 2 0 ≤ r → x 5 r ≤ 1
theorem zGO_f {L : List Nat} (h : zGO x) (f : zFm L x z) (h2 : 2 ∉ L) (h5 : 5 ∉ L) (h6 : 6 ∉ L) : zGO z := by
  unfold zGO zGo at h ⊢
  rw [f 2 h2, f 5 h5, f 6 h6]
  exact h
theorem zGO_0 : zGO zx0 := by
  constructor
  · intro r j _ _ _ _ _
    rfl
  · intro r _
    show (0 : Int) ≤ 1
    omega
theorem zGO_rack (h : zGO x) (a b c : Int) : zGO (sRack x a b c).2 := by
  obtain ⟨h1, h2⟩ := h
  unfold sRack
  split
  · dsimp only
    constructor
    · intro r j r0 r1 r5 j0 j1
      rw [xu_g _ (by decide), xu_kk] at r5
      rw [xu_g _ (by decide), xu_g _ (by decide), xu_g _ (by decide), xu_g _ (by decide)]
      refine h1 r j r0 r1 ?_ j0 j1
      by_cases hr : r = x 2 0
      · exact h2 r (by omega)
      · rw [if_neg hr, xu_g _ (by decide), xu_g _ (by decide)] at r5
        exact r5
    · intro r r0
      rw [xu_s] at r0
      rw [xu_g _ (by decide), xu_kk, if_neg (by omega), xu_g _ (by decide), xu_g _ (by decide)]
      exact h2 r (by omega)
  · exact ⟨h1, h2⟩
theorem zGO_outlet (h : zGO x) (g : zGp x) (r s l p e : Int) : zGO (sOutlet x r s l p e).2 := by
  obtain ⟨h1, h2⟩ := h
  unfold sOutlet
  split
  · rename_i hc
    dsimp only
    constructor
    · intro r' j r0 r1 r5 j0 j1
      have b5 := zG5 g r
      rw [xu_g _ (by decide)] at r5
      have hq := h1 r' j r0 r1 r5 j0 j1
      have : ¬ (r' = r ∧ s = 1) := by
        rintro ⟨e1, e2⟩
        rw [e1] at r5
        omega
      rw [xu_k _ (by omega)]
      exact hq
    · intro r' r0
      rw [xu_g _ (by decide)] at r0 ⊢
      exact h2 r' r0
  · exact ⟨h1, h2⟩
theorem zTC_0 (K : ZS) : zTC zx0 K := by
  intro t t0 t1
  have e : zx0 35 0 = 0 := rfl
  rw [e] at t1
  omega
end KP
