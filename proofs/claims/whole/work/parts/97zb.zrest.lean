/-! LAID: the class's wishes are made; what holds ends is set -/
def sSetN (x : ZW) (l v : Int) : Nat → ZW
  | 0 => x
  | n + 1 => xu (sSetN x l v n) 8 (x 23 (120 * l + n)) v
theorem sSetN_o (x : ZW) (l v : Int) : ∀ n, zO8 x (sSetN x l v n)
  | 0 => zO8_r x
  | n + 1 => zO8_u (sSetN_o x l v n) _ _
theorem sSetN_i (x : ZW) (l v : Int) {a : Int} : ∀ n : Nat, (∃ i : Int, 0 ≤ i ∧ i < n ∧ x 23 (120 * l + i) = a) → sSetN x l v n 8 a = v
  | 0, h => by
    obtain ⟨i, a, b, -⟩ := h
    omega
  | n + 1, h => by
    rw [sSetN, xu_kk]
    by_cases q : a = x 23 (120 * l + n)
    · rw [if_pos q]
    · rw [if_neg q]
      refine sSetN_i x l v n ?_
      obtain ⟨i, i0, i1, i2⟩ := h
      refine ⟨i, i0, ?_, i2⟩
      by_cases e : i = n
      · rw [e] at i2
        exact absurd i2.symm q
      · omega
theorem sSetN_n (x : ZW) (l v : Int) {a : Int} : ∀ n : Nat, (¬ ∃ i : Int, 0 ≤ i ∧ i < n ∧ x 23 (120 * l + i) = a) → sSetN x l v n 8 a = x 8 a
  | 0, _ => rfl
  | n + 1, h => by
    rw [sSetN, xu_kk, if_neg (fun q => h ⟨n, by omega, by omega, q.symm⟩)]
    exact sSetN_n x l v n (fun q => by
      obtain ⟨i, i0, i1, i2⟩ := q
      exact h ⟨i, i0, by omega, i2⟩)
theorem sSetN_gp {x : ZW} (g : zGp x) (l : Int) {v : Int} (hv : -1 ≤ v ∧ v < 40) : ∀ n, zGp (sSetN x l v n)
  | 0 => g
  | n + 1 => zGp_8 (sSetN_gp g l hv n) _ hv
/-- taken away, and given back -/
theorem sSetN_b {x : ZW} {l : Int} (n : Nat) (h : ∀ i : Int, 0 ≤ i → i < n → x 8 (x 23 (120 * l + i)) = l) : sSetN (sSetN x l (-1) n) l l n = x := by
  have o1 := sSetN_o x l (-1) n
  have o2 := sSetN_o (sSetN x l (-1) n) l l n
  funext g a
  by_cases hg : g = 8
  · subst hg
    by_cases q : ∃ i : Int, 0 ≤ i ∧ i < n ∧ x 23 (120 * l + i) = a
    · rw [sSetN_i (sSetN x l (-1) n) l l n (by rw [o1 23 (by decide)]; exact q)]
      obtain ⟨i, i0, i1, i2⟩ := q
      rw [← i2]
      exact (h i i0 i1).symm
    · rw [sSetN_n (sSetN x l (-1) n) l l n (by rw [o1 23 (by decide)]; exact q), sSetN_n x l (-1) n q]
  · rw [o2 g hg, o1 g hg]
section RS
variable {K : ZS} {x y : ZW} {S : ZS}
theorem zC_setHolder_s {x : ZW} {S : ZS} (h : zR K x y S) (d : Nat) {l v : Int} (hl : zLn x l) (hl40 : x 11 0 ≤ 40) (hc : x 15 l = 1) (hv : -1 ≤ v ∧ v < 40) (hn : 0 ≤ x 22 l ∧ x 22 l ≤ 97) (hp : ∀ i, 0 ≤ i → i < x 22 l → 0 ≤ x 23 (120 * l + i) ∧ x 23 (120 * l + i) < 116) :
    zwp (zC_setHolder (d + 1) l.toNat (zI v) S) (fun r => zR K (sSetN x l v (x 22 l).toNat) y r ∧ zO9 S r) := by
  have la := zRLA h hl.1 hl.2 hc
  have key : ∀ (m n : Nat) (S' : ZS), (n : Int) + m = x 22 l → zR K (sSetN x l v n) y S' → zO9 S S' → zwp (zC_setHolder_2 d l.toNat (zI v) (zI n) S') (fun r => zR K (sSetN x l v (x 22 l).toNat) y r ∧ zO9 S r) := by
    intro m
    induction m with
    | zero =>
      intro n S' e h' o'
      have e5 : S'.1 2 l.toNat 5 = zI (x 22 l) := (congrFun (congrFun (o'.2 2 (by decide)) _) _).trans la.2.1
      rw [eC_setHolder_2, e5, zI_le (by omega) (by omega) (by omega) (by omega), zif_pos (by omega), zwp_some, show (x 22 l).toNat = n by omega]
      exact ⟨h', o'⟩
    | succ m ih =>
      intro n S' e h' o'
      have b23 := hp n (by omega) (by omega)
      have e5 : S'.1 2 l.toNat 5 = zI (x 22 l) := (congrFun (congrFun (o'.2 2 (by decide)) _) _).trans la.2.1
      have e29 : S'.1 29 l.toNat (n : Int).toNat = zI (x 23 (120 * l + n)) := (congrFun (congrFun (o'.2 29 (by decide)) _) _).trans (la.2.2.2.2.2.1 n (by omega) (by omega))
      have w1 := zWc8 h' (k := x 23 (120 * l + n)) (v := v) (by omega) (by omega) (by omega) (by omega)
      rw [eC_setHolder_2, e5, zI_le (by omega) (by omega) (by omega) (by omega), zif_neg (by omega), zg_t (by rw [zI_in (by omega) (by omega)]; omega), zI_zx (by omega) (by omega), e29, zg_t (by rw [zI_in (by omega) (by omega)]; omega), zI_zx (by omega) (by omega), zI_n1, zI_add]
      exact ih (n + 1) _ (by omega) w1 (zO9_u o' _ _)
  rw [eC_setHolder, zI_n0]
  exact key (x 22 l).toNat 0 S (by omega) h (zO9_r S)
/-- no second call is to be laid -/
theorem zrest_1 {w : Nat} (d : Nat) (S : ZS) (hw : S.1 5 0 4 = zI 0 ∨ w = 1) : zR_restIsLaid (1 + d) w S = some (zb True, S) := by
  rw [show 1 + d = d + 1 by omega, eR_restIsLaid, zb_t trivial]
  by_cases q : S.1 5 0 4 = 0
  · rw [zif_pos q]
  · rw [zif_neg q]
    rcases hw with h | h
    · exact absurd h q
    · subst h
      rw [zif_pos rfl]
/-- the second call is laid too -/
theorem zrest_2 {x : ZW} (d : Nat) {S : ZS} {l hm g m : Int} {dg : Int → Int} (h : zR K x y S) (gp : zGp x) (h4 : S.1 5 0 4 = zI 1) (hw : zWs S 1 l hm g m dg) (b : zWb x l hm g m dg) : zR_restIsLaid (17 + d) 0 S = some (zb (zLay x l hm m dg (zRg x l g m dg) (fun _ => True)), S) := by
  have q := zR_canLay_s (1 + d) (fun _ => True) hw b (fun d' x' S' h' _ _ o' => by
    rw [show 1 + d + d' = 1 + (d + d') by omega]
    exact zrest_1 (d + d') S' (Or.inr rfl)) h gp
  rw [show 17 + d = 1 + d + 15 + 1 by omega, eR_restIsLaid, h4, zif_neg (show ¬ zI 1 = (0 : Int32) by decide), zif_neg (by decide), q, zBs]
  dsimp only
  rw [zb_0]
  by_cases r : zLay x l hm m dg (zRg x l g m dg) (fun _ => True)
  · rw [zif_neg (fun n => n r)]
    exact zbT S r
  · rw [zif_pos r]
    exact zbF S r
theorem zmin5 (d : Nat) (S : ZS) {a : Int} (ha : 0 ≤ a ∧ a ≤ 5) : zci (zcall (d + 1)) 1001 [zi (zI a), zi (5 : Int32)] S = some (zI a, S) := by
  have e : zci (zcall (d + 1)) 1001 [zi (zI a), zi (5 : Int32)] S = some (if (5 : Int32) < zI a then (5 : Int32) else zI a, S) := rfl
  rw [e, if_neg (by rw [zI_n5, zI_lt (by omega) (by omega) (by omega) (by omega)]; omega)]
/-- the wish for a new call -/
theorem zW_toRing_s (h : zR K x y S) (gp : zGp x) (d : Nat) {l v m : Int} (hl : zLn x l) (hv : 0 ≤ v ∧ v ≤ 99999) (hm : 1 ≤ m ∧ m ≤ 5) :
    zwp (zW_toRing (d + 2) 0 l.toNat (zI v) (zI m) S) (fun S' => zR K x y S' ∧ zWs S' 0 l (x 12 l) (-2) m (fun i => sDgt v (m - 1 - i))) := by
  have key : ∀ (j : Nat) (i : Int) (S' : ZS), 0 ≤ i → i + j = m → zR K x y S' → (S'.1 9 0 0 = zI l ∧ S'.1 9 0 1 = zI (x 12 l) ∧ S'.1 9 0 2 = zI (-2) ∧ S'.1 9 0 3 = zI m) → (∀ p : Int, 0 ≤ p → p < i → S'.1 58 0 p.toNat = zI (sDgt v (m - 1 - p))) →
      zwp (zW_toRing_34 (d + 1) 0 (zI v) (zI m) (zI i) S') (fun S' => zR K x y S' ∧ zWs S' 0 l (x 12 l) (-2) m (fun i => sDgt v (m - 1 - i))) := by
    intro j
    induction j with
    | zero =>
      intro i S' i0 e h' c cd
      rw [eW_toRing_34, c.2.2.2, zI_le (by omega) (by omega) (by omega) (by omega), zif_pos (by omega), zwp_some]
      exact ⟨h', c.1, c.2.1, c.2.2.1, c.2.2.2, fun p p0 p1 => cd p p0 (by omega)⟩
    | succ j ih =>
      intro i S' i0 e h' c cd
      rw [eW_toRing_34, c.2.2.2, zI_le (by omega) (by omega) (by omega) (by omega), zif_neg (by omega), zX_digitAt_s S' d hv hm ⟨i0, by omega⟩, zBs]
      dsimp only
      rw [zg_t (by rw [zI_in (by omega) (by omega)]; omega), zI_zx (by omega) (by omega), zI_n1, zI_add]
      refine ih (i + 1) _ (by omega) (by omega) (zR_t h' (t := 58) (by decide) 0 _ _) c (fun p p0 p1 => ?_)
      by_cases hp : p = i
      · rw [hp]
        exact zu_same S'.1 58 0 i.toNat (zI (sDgt v (m - 1 - i)))
      · exact (zu_pl S'.1 (show p.toNat ≠ i.toNat by omega)).trans (cd p p0 (by omega))
  rw [eW_toRing, zRix h hl.1 hl.2, show (zu S.1 9 0 0 (zI l)) 2 l.toNat 1 = S.1 2 l.toNat 1 from rfl, zRc12 h hl.1 hl.2, zI_n2, zI_neg, zmin5 d _ (by omega), zBs]
  dsimp only
  rw [zI_n0]
  refine key m.toNat 0 _ (by omega) (by omega) (zR_t (zR_t (zR_t (zR_t h (t := 9) (by decide) 0 _ _) (t := 9) (by decide) 0 _ _) (t := 9) (by decide) 0 _ _) (t := 9) (by decide) 0 _ _) ⟨?_, ?_, ?_, ?_⟩ (fun p a b => by omega)
  · rfl
  · rfl
  · rfl
  · rfl
end RS
