/-! LAID: the class's search over free ends -/
theorem zu_bk {f : ZMp Int32} {k : Nat} {u v : Int32} (h : f 39 0 k = v) : zu (zu f 39 0 k u) 39 0 k v = f := by
  funext t i k'
  by_cases a : t = 39 ∧ i = 0 ∧ k' = k
  · obtain ⟨rfl, rfl, rfl⟩ := a
    rw [zu_same]
    exact h.symm
  · unfold zu
    rw [if_neg a, if_neg a]
section OV
variable {K : ZS} {x y : ZW} {S : ZS}
theorem zR_goesOn_84_s {w : Nat} {l hm g m : Int} {dg : Int → Int} (D : Nat) (P : Int → Prop) {x : ZW} {S : ZS} {e k : Int} (h : zR K x y S) (gp : zGp x) (hw : zWs S w l hm g m dg) (b : zWb x l hm g m dg) (hs : zSw x e) (hk : 0 ≤ k ∧ k < m)
    (ih : ∀ f : Int, -1 ≤ f → f < 116 → (0 ≤ f → zEn x f) → zR_layOver (D + 2) w (zI f) (zI (k + 1)) S = some (zb (0 ≤ f ∧ P f), S)) :
    ∀ (j : Nat) (p : Int), 0 ≤ p → p + j = 4 → zR_goesOn_84 (D + 2) w (zI e) (zI k) (zI p) S = some (zb (∃ p', p ≤ p' ∧ p' < 4 ∧ 0 ≤ x 6 (sBase x e (dg k) + p') ∧ P (x 6 (sBase x e (dg k) + p'))), S) := by
  obtain ⟨b1, b2, b3, b4, b5⟩ := b
  have bk := b5 k
  have hb2 := zG2 gp
  intro j
  induction j with
  | zero =>
    intro p p0 ep
    rw [eR_goesOn_84, zI_n4, zI_le (by omega) (by omega) (by omega) (by omega), zif_pos (by omega)]
    refine zbF S ?_
    rintro ⟨p', a, b, -⟩
    omega
  | succ j ihj =>
    intro p p0 ep
    have b6 := zG6 gp (sBase x e (dg k) + p)
    have q := ih (x 6 (sBase x e (dg k) + p)) (by omega) (by omega) (fun f0 => zG6e gp f0)
    rw [eR_goesOn_84, zI_n4, zI_le (by omega) (by omega) (by omega) (by omega), zif_neg (by omega), zg_t (by rw [zI_in (by omega) (by omega)]; omega), zI_zx (by omega) (by omega), hw.2.2.2.2 k (by omega) (by omega), zP_leadsFrom_s h gp D hs ⟨by omega, by omega⟩ ⟨p0, by omega⟩, zBs]
    dsimp only
    rw [zI_n1, zI_add, q, zBs]
    dsimp only
    rw [zb_0, zI_add, ihj (p + 1) (by omega) (by omega)]
    by_cases r : 0 ≤ x 6 (sBase x e (dg k) + p) ∧ P (x 6 (sBase x e (dg k) + p))
    · rw [zif_neg (fun n => n r)]
      exact zbT S ⟨p, by omega, by omega, r.1, r.2⟩
    · rw [zif_pos r]
      refine congrArg (fun u => some (u, S)) (zb_c ?_)
      constructor
      · rintro ⟨p', a, b, c⟩
        exact ⟨p', by omega, b, c⟩
      · rintro ⟨p', a, b, c⟩
        by_cases hp : p' = p
        · rw [hp] at c
          exact absurd c r
        · exact ⟨p', by omega, b, c⟩
theorem zR_goesOn_s {w : Nat} {l hm g m : Int} {dg : Int → Int} (E : Nat) (R : ZW → Prop) {Rg : Int → Int → Prop} {x : ZW} {S : ZS} {e k : Int} (h : zR K x y S) (gp : zGp x) (hw : zWs S w l hm g m dg) (b : zWb x l hm g m dg) (hRg : ∀ k e, Rg k e ↔ zRg x l g m dg k e) (he : zEn x e) (hk : 0 ≤ k ∧ k < 100)
    (hrest : zR_restIsLaid (E + 2) w S = some (zb (R x), S))
    (hin : k < m → ∀ f : Int, -1 ≤ f → f < 116 → (0 ≤ f → zEn x f) → zR_layOver (E + 2) w (zI f) (zI (k + 1)) S = some (zb (0 ≤ f ∧ zLov x l m dg Rg R (k + 1) f), S)) :
    zR_goesOn (E + 3) w (zI e) (zI k) S = some (zb ((zEg x e ∧ Rg k e ∧ R x) ∨ (¬ zEg x e ∧ k < m ∧ ∃ p, 0 ≤ p ∧ p < 4 ∧ 0 ≤ x 6 (sBase x e (dg k) + p) ∧ zLov x l m dg Rg R (k + 1) (x 6 (sBase x e (dg k) + p)))), S) := by
  have hb2 := zG2 gp
  have be : 0 ≤ e ∧ e < 116 := by unfold zEn zSw zJn at he; omega
  rw [eR_goesOn, zP_isJunction_s S (E + 1) (by omega) (by omega), zBs]
  dsimp only
  rw [zb_0]
  by_cases hj : zJn e
  · have hE : zEg x e := Or.inl hj.1
    have rj : Rg k e ↔ (3 ≤ m - k ∧ g < 0) := (hRg k e).trans (by
      unfold zRg
      constructor
      · rintro (q | q)
        · exact q.2
        · unfold zJn at hj; omega
      · intro q
        exact Or.inl ⟨hj.1, q⟩)
    rw [zif_neg (fun q => q hj), zW_ringsOverJunction_s (x := x) (E + 1) hw b hk, zBs]
    dsimp only
    rw [zb_0]
    by_cases r : 3 ≤ m - k ∧ g < 0
    · rw [zif_neg (fun q => q r), hrest, zBs]
      dsimp only
      rw [zb_0]
      by_cases q : R x
      · rw [zif_neg (fun n => n q)]
        exact zbT S (Or.inl ⟨hE, rj.2 r, q⟩)
      · rw [zif_pos q]
        refine zbF S ?_
        rintro (n | n)
        · exact q n.2.2
        · exact n.1 hE
    · rw [zif_pos r]
      refine zbF S ?_
      rintro (n | n)
      · exact r (rj.1 n.2.1)
      · exact n.1 hE
  · have hs : zSw x e := he.elim (fun q => q) (fun q => absurd q hj)
    have e96 : e < 96 := by unfold zSw at hs; omega
    rw [zif_pos hj, zP_isFinal_s h gp (E + 1) (by omega) (by omega), zBs]
    dsimp only
    rw [zb_0]
    by_cases hf : 0 ≤ e ∧ e < 96 ∧ x 3 (e / 8) = 1
    · have hE : zEg x e := Or.inr hf.2.2
      rw [zif_neg (fun q => q hf), zW_ringsAtFinal_s h gp E hw b hk ⟨be.1, e96⟩, zBs]
      dsimp only
      rw [zb_0]
      have rf : Rg k e ↔ (2 ≤ m - k ∧ 0 ≤ zlineOf x (e / 8) (10 * dg k + dg (k + 1)) ∧ ((g = -2 ∧ zlineOf x (e / 8) (10 * dg k + dg (k + 1)) ≠ l ∧ x 15 (zlineOf x (e / 8) (10 * dg k + dg (k + 1))) = 0) ∨ (g ≠ -2 ∧ zlineOf x (e / 8) (10 * dg k + dg (k + 1)) = g))) := (hRg k e).trans (by
        unfold zRg
        constructor
        · rintro (q | q)
          · omega
          · exact q.2
        · intro q
          exact Or.inr ⟨by omega, q⟩)
      by_cases r : (2 ≤ m - k ∧ 0 ≤ zlineOf x (e / 8) (10 * dg k + dg (k + 1)) ∧ ((g = -2 ∧ zlineOf x (e / 8) (10 * dg k + dg (k + 1)) ≠ l ∧ x 15 (zlineOf x (e / 8) (10 * dg k + dg (k + 1))) = 0) ∨ (g ≠ -2 ∧ zlineOf x (e / 8) (10 * dg k + dg (k + 1)) = g)))
      · rw [zif_neg (fun q => q r), hrest, zBs]
        dsimp only
        rw [zb_0]
        by_cases q : R x
        · rw [zif_neg (fun n => n q)]
          exact zbT S (Or.inl ⟨hE, rf.2 r, q⟩)
        · rw [zif_pos q]
          refine zbF S ?_
          rintro (n | n)
          · exact q n.2.2
          · exact n.1 hE
      · rw [zif_pos r]
        refine zbF S ?_
        rintro (n | n)
        · exact r (rf.1 n.2.1)
        · exact n.1 hE
    · have hE : ¬ zEg x e := by
        rintro (q | q)
        · omega
        · exact hf ⟨be.1, e96, q⟩
      have bm := b.2.2.2.1
      rw [zif_pos hf, hw.2.2.2.1, zI_lt (by omega) (by omega) (by omega) (by omega)]
      by_cases km : k < m
      · rw [zif_pos km, zI_n0, zR_goesOn_84_s E (fun f => zLov x l m dg Rg R (k + 1) f) h gp hw b hs ⟨hk.1, km⟩ (hin km) 4 0 (by omega) (by omega)]
        refine congrArg (fun u => some (u, S)) (zb_c ?_)
        constructor
        · rintro ⟨p, p0, p1, p2, p3⟩
          exact Or.inr ⟨hE, km, p, p0, p1, p2, p3⟩
        · rintro (q | q)
          · exact absurd q.1 hE
          · exact q.2.2
      · rw [zif_neg km]
        refine zbF S ?_
        rintro (q | q)
        · exact hE q.1
        · exact km q.2.1
theorem zR_layOver_1 {w : Nat} {l hm g m : Int} {dg : Int → Int} (E : Nat) (R : ZW → Prop) {x : ZW} {S : ZS} {e k : Int} (h : zR K x y S) (gp : zGp x) (hw : zWs S w l hm g m dg) (b : zWb x l hm g m dg) (e0 : -1 ≤ e) (e1 : e < 116) (he : 0 ≤ e → zEn x e) (hk : 0 ≤ k ∧ k < 100)
    (hrest : ∀ S', zR K (xu x 8 e l) y S' → zO9 S S' → zR_restIsLaid (E + 2) w S' = some (zb (R (xu x 8 e l)), S'))
    (hin : k < m → ∀ S' f, zR K (xu x 8 e l) y S' → zO9 S S' → -1 ≤ f → f < 116 → (0 ≤ f → zEn x f) → zR_layOver (E + 2) w (zI f) (zI (k + 1)) S' = some (zb (0 ≤ f ∧ zLov (xu x 8 e l) l m dg (zRg x l g m dg) R (k + 1) f), S')) :
    zR_layOver (E + 4) w (zI e) (zI k) S = some (zb (0 ≤ e ∧ zLov x l m dg (zRg x l g m dg) R k e), S) := by
  have b10 := zG10 gp e
  have b8 := zG8 gp e
  rw [eR_layOver, zP_canTake_s h gp (E + 1) (by omega) (by omega), zBs]
  dsimp only
  rw [zb_0]
  by_cases ct : 0 ≤ e ∧ e < 116 ∧ x 8 e < 0 ∧ x 9 e = 0
  · rw [zif_neg (fun q => q ct), zP_isFaulty_s h gp (E + 2) (by omega) (by omega), zBs]
    dsimp only
    rw [zb_0]
    by_cases fl : 0 ≤ e ∧ e < 96 ∧ x 10 e = 1
    · rw [zif_neg (fun q => q fl)]
      refine zbF S ?_
      rintro ⟨-, L, -, -, q, -⟩
      have := (q e List.mem_cons_self).2.2
      omega
    · have x10 : x 10 e = 0 := by
        by_cases q : e < 96
        · have : ¬ x 10 e = 1 := fun n => fl ⟨ct.1, q, n⟩
          omega
        · exact (zGj gp (by omega)).2
      have hen := he ct.1
      have w8 := zWc8 h (k := e) (v := l) ct.1 (by omega) (by have := b.1; omega) (by have := b.1; omega)
      have c8 : S.1 39 0 e.toNat = zI (-1) := (zRc8 h ct.1 (by omega)).trans (congrArg zI (by omega))
      have g8 := zGp_8 gp e (v := l) (by have := b.1; omega)
      have o8 : zO8 x (xu x 8 e l) := zO8_u (zO8_r x) e l
      have o9 : zO9 S (zu S.1 39 0 e.toNat (zI l), S.2) := zO9_u (zO9_r S) e.toNat (zI l)
      have hwb : zWb (xu x 8 e l) l hm g m dg := by
        unfold zWb zSl at b ⊢
        rw [o8 2 (by decide), o8 3 (by decide)]
        exact b
      have inner := zR_goesOn_s E R (Rg := zRg x l g m dg) (e := e) (k := k) w8 g8 (zWs_9 o9 hw) hwb (fun k' e' => (zRg_c (o8 11 (by decide)) (o8 13 (by decide)) (o8 14 (by decide)) (o8 15 (by decide)) l g m dg k' e').symm) (by unfold zEn zSw at hen ⊢; rw [o8 2 (by decide), o8 4 (by decide)]; exact hen) hk (hrest _ w8 o9) (fun km f f0 f1 hf => hin km _ f w8 o9 f0 f1 (by unfold zEn zSw at hf ⊢; rw [o8 2 (by decide), o8 4 (by decide)] at hf; exact hf))
      rw [zif_pos fl, zg_t (by rw [zI_in (by omega) (by omega)]; omega), zI_zx (by omega) (by omega), hw.1, inner, zBs]
      dsimp only
      rw [zg_t (by rw [zI_in (by omega) (by omega)]; omega), zI_n1, zI_neg, zu_bk c8, zgb_zb]
      refine congrArg (fun u => some (u, S)) (zb_c ?_)
      have eE : zEg (xu x 8 e l) e ↔ zEg x e := by unfold zEg; rw [o8 3 (by decide)]
      by_cases hE : zEg x e
      · rw [zLov_e hE]
        constructor
        · rintro (q | q)
          · exact ⟨ct.1, ct.2.2.1, ct.2.2.2, x10, q.2.1, q.2.2⟩
          · exact absurd (eE.2 hE) q.1
        · rintro ⟨-, -, -, -, q, r⟩
          exact Or.inl ⟨eE.2 hE, q, r⟩
      · rw [zLov_n b.1.1 hE]
        have e6 : (xu x 8 e l) 6 = x 6 := o8 6 (by decide)
        have eb : sBase (xu x 8 e l) e (dg k) = sBase x e (dg k) := by unfold sBase; rw [o8 5 (by decide)]
        rw [e6, eb]
        constructor
        · rintro (q | q)
          · exact absurd (eE.1 q.1) hE
          · exact ⟨ct.1, ct.2.2.1, ct.2.2.2, x10, q.2⟩
        · rintro ⟨-, -, -, -, q⟩
          exact Or.inr ⟨fun n => hE (eE.1 n), q⟩
  · rw [zif_pos ct]
    refine zbF S ?_
    rintro ⟨p, L, -, -, q, -⟩
    obtain ⟨q1, q2, -⟩ := q e List.mem_cons_self
    exact ct ⟨p, e1, q1, q2⟩
theorem zR_layOver_s {x0 : ZW} {S0 : ZS} {w : Nat} {l hm g m : Int} {dg : Int → Int} (D : Nat) (R : ZW → Prop) (hw : zWs S0 w l hm g m dg) (b : zWb x0 l hm g m dg)
    (hR : ∀ (d : Nat) (x : ZW) (S : ZS), zR K x y S → zGp x → zO8 x0 x → zO9 S0 S → zR_restIsLaid (D + d) w S = some (zb (R x), S)) :
    ∀ (n : Nat) (x : ZW) (S : ZS) (k e : Int), k + n = 5 → 0 ≤ k → zR K x y S → zGp x → zO8 x0 x → zO9 S0 S → -1 ≤ e → e < 116 → (0 ≤ e → zEn x0 e) →
      zR_layOver (D + 4 + 2 * n) w (zI e) (zI k) S = some (zb (0 ≤ e ∧ zLov x l m dg (zRg x0 l g m dg) R k e), S) := by
  intro n
  have tr : ∀ {x : ZW} {S : ZS} {k e : Int}, 0 ≤ k → k ≤ 5 → zR K x y S → zGp x → zO8 x0 x → zO9 S0 S → -1 ≤ e → e < 116 → (0 ≤ e → zEn x0 e) → ∀ E c : Nat, E = D + c →
      (k < m → ∀ S' f, zR K (xu x 8 e l) y S' → zO9 S S' → -1 ≤ f → f < 116 → (0 ≤ f → zEn x0 f) → zR_layOver (E + 2) w (zI f) (zI (k + 1)) S' = some (zb (0 ≤ f ∧ zLov (xu x 8 e l) l m dg (zRg x0 l g m dg) R (k + 1) f), S')) →
      zR_layOver (E + 4) w (zI e) (zI k) S = some (zb (0 ≤ e ∧ zLov x l m dg (zRg x0 l g m dg) R k e), S) := by
    intro x S k e k0 k5 h gp o8 o9 e0 e1 he E c hE hin
    have er : zRg x l g m dg = zRg x0 l g m dg := by
      funext k' e'
      exact propext (zRg_c (o8 11 (by decide)) (o8 13 (by decide)) (o8 14 (by decide)) (o8 15 (by decide)) l g m dg k' e')
    have hen : ∀ f, zEn x f = zEn x0 f := fun f => by unfold zEn zSw; rw [o8 2 (by decide), o8 4 (by decide)]
    have hwb : zWb x l hm g m dg := by
      unfold zWb zSl at b ⊢
      rw [o8 2 (by decide), o8 3 (by decide)]
      exact b
    have r := zR_layOver_1 E R h gp (zWs_9 o9 hw) hwb (k := k) e0 e1 (fun q => by rw [hen]; exact he q) ⟨k0, by omega⟩ (fun S' h' o' => ?_) (fun km S' f h' o' f0 f1 hf => by rw [er]; exact hin km S' f h' o' f0 f1 (fun q => by rw [← hen]; exact hf q))
    · rw [er] at r
      exact r
    · have q := hR (c + 2) _ S' h' (zGp_8 gp e (by have := b.1; omega)) (zO8_u o8 e l) ⟨o'.1.trans o9.1, fun t ht => (o'.2 t ht).trans (o9.2 t ht)⟩
      rw [hE]
      exact q
  induction n with
  | zero =>
    intro x S k e hk k0 h gp o8 o9 e0 e1 he
    have bm := b.2.2.2.1
    exact tr k0 (by omega) h gp o8 o9 e0 e1 he D 0 rfl (fun km => by omega)
  | succ n ih =>
    intro x S k e hk k0 h gp o8 o9 e0 e1 he
    have q := tr k0 (by omega) h gp o8 o9 e0 e1 he (D + 2 * (n + 1)) (2 * (n + 1)) rfl (fun km S' f h' o' f0 f1 hf => by
      have r := ih (xu x 8 e l) S' (k + 1) f (by omega) (by omega) h' (zGp_8 gp e (by have := b.1; omega)) (zO8_u o8 e l) ⟨o'.1.trans o9.1, fun t ht => (o'.2 t ht).trans (o9.2 t ht)⟩ f0 f1 hf
      rw [show D + 2 * (n + 1) + 2 = D + 4 + 2 * n by omega]
      exact r)
    rw [show D + 4 + 2 * (n + 1) = D + 2 * (n + 1) + 4 by omega]
    exact q
/-- the class looks for a way from each switch of the home rack -/
theorem zR_canLay_s {x0 : ZW} {S0 : ZS} {w : Nat} {l hm g m : Int} {dg : Int → Int} (D : Nat) (R : ZW → Prop) (hw : zWs S0 w l hm g m dg) (b : zWb x0 l hm g m dg)
    (hR : ∀ (d : Nat) (x : ZW) (S : ZS), zR K x y S → zGp x → zO8 x0 x → zO9 S0 S → zR_restIsLaid (D + d) w S = some (zb (R x), S)) (h : zR K x0 y S0) (gp : zGp x0) :
    zR_canLay (D + 15) w S0 = some (zb (zLay x0 l hm m dg (zRg x0 l g m dg) R), S0) := by
  obtain ⟨b1, b2, b3, b4, b5⟩ := id b
  have b0 := zG4 gp hm
  have hb2 := zG2 gp
  have key : ∀ (j : Nat) (i : Int), 0 ≤ i → i + j = x0 4 hm → zR_canLay_10 (D + 14) w (zI (8 * hm)) (zI (8 * hm + i)) S0 = some (zb (∃ i', i ≤ i' ∧ i' < x0 4 hm ∧ zLov x0 l m dg (zRg x0 l g m dg) R 0 (8 * hm + i')), S0) := by
    have bs := b2.1
    unfold zSl at bs
    intro j
    induction j with
    | zero =>
      intro i i0 e
      rw [eR_canLay_10, hw.2.1, zg_t (by rw [zI_in (by omega) (by omega)]; omega), zI_zx (by omega) (by omega), zRc4 h (by omega) (by omega), zI_add, zI_le (by omega) (by omega) (by omega) (by omega), zif_pos (by omega)]
      refine zbF S0 ?_
      rintro ⟨i', a, c, -⟩
      omega
    | succ j ihj =>
      intro i i0 e
      have q := zR_layOver_s D R hw b hR 5 x0 S0 0 (8 * hm + i) (by omega) (by omega) h gp (zO8_r x0) (zO9_r S0) (by omega) (by omega) (fun _ => Or.inl (by unfold zSw; rw [show (8 * hm + i) / 8 = hm by omega]; omega))
      rw [eR_canLay_10, hw.2.1, zg_t (by rw [zI_in (by omega) (by omega)]; omega), zI_zx (by omega) (by omega), zRc4 h (by omega) (by omega), zI_add, zI_le (by omega) (by omega) (by omega) (by omega), zif_neg (by omega), zI_n0, q, zBs]
      dsimp only
      rw [show zI 0 = (0 : Int32) from rfl, zb_0, zI_n1, zI_add, show 8 * hm + i + 1 = 8 * hm + (i + 1) by omega, ihj (i + 1) (by omega) (by omega)]
      by_cases r : 0 ≤ 8 * hm + i ∧ zLov x0 l m dg (zRg x0 l g m dg) R 0 (8 * hm + i)
      · rw [zif_neg (fun n => n r)]
        exact zbT S0 ⟨i, by omega, by omega, r.2⟩
      · rw [zif_pos r]
        refine congrArg (fun u => some (u, S0)) (zb_c ?_)
        constructor
        · rintro ⟨i', a, c, f⟩
          exact ⟨i', by omega, c, f⟩
        · rintro ⟨i', a, c, f⟩
          by_cases hi : i' = i
          · rw [hi] at f
            exact absurd ⟨by omega, f⟩ r
          · exact ⟨i', by omega, c, f⟩
  have bs := b2.1
  unfold zSl at bs
  have r := key (x0 4 hm).toNat 0 (by omega) (by omega)
  rw [show 8 * hm + 0 = 8 * hm by omega] at r
  rw [eR_canLay, hw.2.1, zI_n8, zI_mul, show hm * 8 = 8 * hm by omega, r]
  rfl
end OV
