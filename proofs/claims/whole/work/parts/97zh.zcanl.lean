/-! LAID of the reference: what a choice leads to; all choices are tried -/
section LP
variable {m away : Int} {dg : Int → Int} {Rg : Int → Int → Prop} {ch ch' : Int → Int}
/-- on what the answer stands -/
def zEnd (k : Int) (r : Int × List Int) : Int := if r.1 = -1 then k + r.2.length else r.1
theorem sLy_b : ∀ (n : Nat) (y : ZW) (k h : Int), 0 ≤ k → k ≤ m → (sLy m dg Rg away ch n y k h).1 = -1 ∨ (k ≤ (sLy m dg Rg away ch n y k h).1 ∧ (sLy m dg Rg away ch n y k h).1 ≤ m)
  | 0, y, k, h, k0, km => Or.inr ⟨Int.le_refl _, km⟩
  | n + 1, y, k, h, k0, km => by
    rw [sLy]
    by_cases hE : zEg y h
    · rw [zIt_t hE]
      by_cases r : Rg k h
      · rw [zIt_t r]; exact Or.inl rfl
      · rw [zIt_f r]; exact Or.inr ⟨Int.le_refl _, km⟩
    · rw [zIt_f hE]
      by_cases q : m ≤ k
      · rw [zIt_t q]; exact Or.inr ⟨Int.le_refl _, km⟩
      · rw [zIt_f q]
        by_cases u : 0 ≤ y 6 (sBase y h (dg k) + ch (k + 1)) ∧ zUs y away (y 6 (sBase y h (dg k) + ch (k + 1)))
        · rw [zIt_t u]
          rcases sLy_b n (xu y 40 (y 6 (sBase y h (dg k) + ch (k + 1))) 1) (k + 1) (y 6 (sBase y h (dg k) + ch (k + 1))) (by omega) (by omega) with w | w
          · exact Or.inl w
          · exact Or.inr ⟨by dsimp only; omega, w.2⟩
        · rw [zIt_f u]; exact Or.inr ⟨by dsimp only; omega, by dsimp only; omega⟩
theorem sLy_n : ∀ (n : Nat) (y : ZW) (k h : Int), k ≤ m → k + (sLy m dg Rg away ch n y k h).2.length ≤ m
  | 0, y, k, h, km => by
    show k + ([] : List Int).length ≤ m
    rw [List.length_nil]; omega
  | n + 1, y, k, h, km => by
    have nil : k + ([] : List Int).length ≤ m := by rw [List.length_nil]; omega
    rw [sLy]
    by_cases hE : zEg y h
    · rw [zIt_t hE]
      by_cases r : Rg k h
      · rw [zIt_t r]; exact nil
      · rw [zIt_f r]; exact nil
    · rw [zIt_f hE]
      by_cases q : m ≤ k
      · rw [zIt_t q]; exact nil
      · rw [zIt_f q]
        by_cases u : 0 ≤ y 6 (sBase y h (dg k) + ch (k + 1)) ∧ zUs y away (y 6 (sBase y h (dg k) + ch (k + 1)))
        · rw [zIt_t u]
          have := sLy_n n (xu y 40 (y 6 (sBase y h (dg k) + ch (k + 1))) 1) (k + 1) (y 6 (sBase y h (dg k) + ch (k + 1))) (by omega)
          dsimp only
          rw [List.length_cons]; omega
        · rw [zIt_f u]; exact nil
/-- the answer stands on the choices as far as zEnd -/
theorem sLy_c : ∀ (n : Nat) (y : ZW) (k h : Int), 0 ≤ k → k ≤ m → (∀ i, k < i → i ≤ zEnd k (sLy m dg Rg away ch n y k h) → ch' i = ch i) → sLy m dg Rg away ch' n y k h = sLy m dg Rg away ch n y k h
  | 0, y, k, h, k0, km, e => rfl
  | n + 1, y, k, h, k0, km, e => by
    rw [sLy] at e
    rw [sLy, sLy]
    by_cases hE : zEg y h
    · rw [zIt_t hE, zIt_t hE]
    · rw [zIt_f hE] at e ⊢
      rw [zIt_f hE]
      by_cases q : m ≤ k
      · rw [zIt_t q, zIt_t q]
      · rw [zIt_f q] at e ⊢
        rw [zIt_f q]
        have b := sLy_b (m := m) (dg := dg) (Rg := Rg) (away := away) (ch := ch) n (xu y 40 (y 6 (sBase y h (dg k) + ch (k + 1))) 1) (k + 1) (y 6 (sBase y h (dg k) + ch (k + 1))) (by omega) (by omega)
        have c1 : ch' (k + 1) = ch (k + 1) := by
          refine e (k + 1) (by omega) ?_
          by_cases u : 0 ≤ y 6 (sBase y h (dg k) + ch (k + 1)) ∧ zUs y away (y 6 (sBase y h (dg k) + ch (k + 1)))
          · rw [zIt_t u]
            unfold zEnd
            dsimp only
            split
            · rw [List.length_cons]; omega
            · omega
          · rw [zIt_f u]
            unfold zEnd
            dsimp only
            rw [if_neg (by omega)]
            omega
        rw [c1]
        by_cases u : 0 ≤ y 6 (sBase y h (dg k) + ch (k + 1)) ∧ zUs y away (y 6 (sBase y h (dg k) + ch (k + 1)))
        · rw [zIt_t u] at e ⊢
          rw [zIt_t u]
          rw [sLy_c n (xu y 40 (y 6 (sBase y h (dg k) + ch (k + 1))) 1) (k + 1) (y 6 (sBase y h (dg k) + ch (k + 1))) (by omega) (by omega) (fun i i0 i1 => e i (by omega) (by
            unfold zEnd at i1 ⊢
            dsimp only
            split
            · rename_i w
              rw [if_pos w] at i1
              rw [List.length_cons]; omega
            · rename_i w
              rw [if_neg w] at i1
              exact i1))]
        · rw [zIt_f u, zIt_f u]
/-- what is taken is there, and was not tried -/
theorem sLy_m : ∀ (n : Nat) (y : ZW) (k h : Int), zGp y → ∀ a ∈ (sLy m dg Rg away ch n y k h).2, (zEn y a ∧ y 40 a = 0)
  | 0, y, k, h, _, a, ha => absurd ha List.not_mem_nil
  | n + 1, y, k, h, g, a, ha => by
    rw [sLy] at ha
    by_cases hE : zEg y h
    · rw [zIt_t hE] at ha
      by_cases r : Rg k h
      · rw [zIt_t r] at ha; exact absurd ha List.not_mem_nil
      · rw [zIt_f r] at ha; exact absurd ha List.not_mem_nil
    · rw [zIt_f hE] at ha
      by_cases q : m ≤ k
      · rw [zIt_t q] at ha; exact absurd ha List.not_mem_nil
      · rw [zIt_f q] at ha
        by_cases u : 0 ≤ y 6 (sBase y h (dg k) + ch (k + 1)) ∧ zUs y away (y 6 (sBase y h (dg k) + ch (k + 1)))
        · rw [zIt_t u] at ha
          rcases List.mem_cons.1 ha with w | w
          · rw [w]
            exact ⟨zG6e g u.1, u.2.2.2.2⟩
          · obtain ⟨p, r⟩ := sLy_m n _ _ _ (zGp_u g (by decide) _ _) a w
            unfold zEn zSw at p ⊢
            rw [xu_g y (by decide), xu_g y (by decide)] at p
            refine ⟨p, ?_⟩
            rw [xu_kk] at r
            split at r
            · omega
            · exact r
        · rw [zIt_f u] at ha; exact absurd ha List.not_mem_nil
end LP
section LQ
variable {y : ZW} {l v m away g : Int} {ch ch' : Int → Int}
theorem sLays_b (hm : 0 ≤ m) : (sLays y l v m away g ch).1 = -1 ∨ (0 ≤ (sLays y l v m away g ch).1 ∧ (sLays y l v m away g ch).1 ≤ m) := by
  unfold sLays
  by_cases u : zUs y away (8 * y 12 l + ch 0)
  · rw [zIt_t u]
    exact sLy_b 6 _ 0 _ (by omega) hm
  · rw [zIt_f u]
    exact Or.inr ⟨Int.le_refl _, hm⟩
theorem sLays_n (hm : 0 ≤ m) : ((sLays y l v m away g ch).2.length : Int) ≤ m + 1 ∧ ((sLays y l v m away g ch).1 = -1 → 1 ≤ (sLays y l v m away g ch).2.length) := by
  unfold sLays
  by_cases u : zUs y away (8 * y 12 l + ch 0)
  · rw [zIt_t u]
    have := sLy_n (m := m) (dg := fun i => sDgt v (m - 1 - i)) (Rg := zRg y l g m (fun i => sDgt v (m - 1 - i))) (away := away) (ch := ch) 6 (xu y 40 (8 * y 12 l + ch 0) 1) 0 (8 * y 12 l + ch 0) hm
    dsimp only
    rw [List.length_cons]
    exact ⟨by omega, fun _ => by omega⟩
  · rw [zIt_f u]
    dsimp only
    rw [List.length_nil]
    exact ⟨by omega, fun q => by omega⟩
/-- the answer stands on the choices as far as it says -/
theorem sLays_c (hm : 0 ≤ m) (e : ∀ i, 0 ≤ i → i ≤ (if (sLays y l v m away g ch).1 = -1 then ((sLays y l v m away g ch).2.length : Int) - 1 else (sLays y l v m away g ch).1) → ch' i = ch i) : sLays y l v m away g ch' = sLays y l v m away g ch := by
  have n := sLays_n (y := y) (l := l) (v := v) (away := away) (g := g) (ch := ch) hm
  have b := sLays_b (y := y) (l := l) (v := v) (away := away) (g := g) (ch := ch) hm
  have c0 : ch' 0 = ch 0 := e 0 (by omega) (by
    split
    · rename_i w
      have := n.2 w
      omega
    · omega)
  unfold sLays at e ⊢
  rw [c0]
  by_cases u : zUs y away (8 * y 12 l + ch 0)
  · rw [zIt_t u] at e
    rw [zIt_t u, zIt_t u]
    rw [sLy_c 6 (xu y 40 (8 * y 12 l + ch 0) 1) 0 (8 * y 12 l + ch 0) (by omega) hm (fun i i0 i1 => e i (by omega) (by
      unfold zEnd at i1
      dsimp only
      split
      · rename_i w
        rw [if_pos w] at i1
        rw [List.length_cons]; omega
      · rename_i w
        rw [if_neg w] at i1
        exact i1))]
  · rw [zIt_f u, zIt_f u]
theorem sLays_m (gp : zGp y) (he : zEn y (8 * y 12 l + ch 0)) : ∀ a ∈ (sLays y l v m away g ch).2, (zEn y a ∧ y 40 a = 0) := by
  intro a ha
  unfold sLays at ha
  by_cases u : zUs y away (8 * y 12 l + ch 0)
  · rw [zIt_t u] at ha
    rcases List.mem_cons.1 ha with w | w
    · rw [w]
      exact ⟨he, u.2.2.2⟩
    · obtain ⟨p, r⟩ := sLy_m 6 _ _ _ (zGp_u gp (by decide) _ _) a w
      unfold zEn zSw at p ⊢
      rw [xu_g y (by decide), xu_g y (by decide)] at p
      refine ⟨p, ?_⟩
      rw [xu_kk] at r
      split at r
      · omega
      · exact r
  · rw [zIt_f u] at ha
    exact absurd ha List.not_mem_nil
end LQ
section CL
variable {K : ZS} {x y : ZW} {S : ZS}
theorem zen_home (gp : zGp y) {l j : Int} (hl : zLn y l) (hj : 0 ≤ j ∧ j < y 4 (y 12 l)) : zEn y (8 * y 12 l + j) := by
  have ln := zGln gp hl.1 hl.2
  have b12 := zG12 gp l
  have b4 := zG4 gp (y 12 l)
  unfold zSl at ln
  refine Or.inl ?_
  unfold zSw
  rw [show (8 * y 12 l + j) / 8 = y 12 l by omega]
  omega
theorem zEn_b {a : Int} (gp : zGp y) (h : zEn y a) : 0 ≤ a ∧ a < 116 := by
  have b2 := zG2 gp
  unfold zEn zSw zJn at h
  omega
theorem zM_canLay_27_s (gp : zGp y) (d : Nat) {l v m away N : Int} (hl : zLn y l) (hv : 0 ≤ v ∧ v ≤ 99999) (hm : 0 ≤ m ∧ m ≤ 5) (haw : -1 ≤ away ∧ away < 40) (hN : y 4 (y 12 l) = N) :
    ∀ (n : Nat) (q : Int) (S : ZS), (1024 * N - q).toNat ≤ n → 0 ≤ q → q < 1024 * N → zR K x y S → zCh S 0 (zchc q) →
    zwp (zM_canLay_27 (d + 3) (zI l) (zI v) (zI m) (zI away) (zI 1) S) (fun r => r.1 = zb (∃ q', q ≤ q' ∧ q' < 1024 * N ∧ (sLays y l v m away (-2) (zchc q')).1 = -1) ∧ zR K x y r.2 ∧ zCf 0 S r.2) := by
  intro n
  induction n with
  | zero =>
    intro q S e q0 q1
    omega
  | succ n ih =>
    intro q S e q0 q1 h hc
    have bq := zchc_b q0 q1
    have b := sLays_b (y := y) (l := l) (v := v) (away := away) (g := -2) (ch := zchc q) hm.1
    have bn := sLays_n (y := y) (l := l) (v := v) (away := away) (g := -2) (ch := zchc q) hm.1
    have bm := sLays_m (y := y) (l := l) (v := v) (m := m) (away := away) (g := -2) (ch := zchc q) gp (zen_home gp hl (by rw [hN]; exact bq.1))
    have lay := zM_lays_s (K := K) (x := x) h gp (l := l) (v := v) (m := m) (base := 0) (away := away) (g := -2) d hl hv hm (by omega) haw (by omega) (ch := zchc q) (by rw [hN]; exact bq.1) bq.2 hc
    have lay : zwp (zM_lays (d + 3) (zI l) (zI v) (zI m) (0 : Int32) (zI away) (-2 : Int32) S) _ := lay
    rw [eM_canLay_27, zif_neg (show ¬ zI 1 = (0 : Int32) by decide), zwp_bind]
    refine zwp_mono lay (fun r1 k => ?_)
    obtain ⟨k1, k2, k3, k4, k5, k6⟩ := k
    rw [zwp_bind]
    refine zwp_mono (zM_gives_s (d + 2) k2 (by omega) k3 k4 (fun a ha => zEn_b gp (bm a ha).1)) (fun S2 w => ?_)
    obtain ⟨w1, w2⟩ := w
    rw [zGv_b (fun a ha => (bm a ha).2)] at w1
    have f2 : zLf2 S S2 := ⟨w2.1.trans k5.1, w2.2.trans k5.2⟩
    rw [k1, zI_n0, zI_le (by omega) (by omega) (by omega) (by omega)]
    by_cases s : (sLays y l v m away (-2) (zchc q)).1 = -1
    · rw [zif_neg (by omega), zwp_some]
      refine ⟨?_, w1, f2.2, fun i _ _ => by rw [f2.1]⟩
      rw [zb_t ⟨q, by omega, q1, s⟩]
    · have hc2 : zCh S2 0 (zchc q) := fun i i0 i1 => by rw [f2.1]; exact hc i i0 i1
      have ba : 0 ≤ (sLays y l v m away (-2) (zchc q)).1 ∧ (sLays y l v m away (-2) (zchc q)).1 ≤ 5 := by omega
      have skip : ∀ q', q ≤ q' → q' < (q / zpwc (sLays y l v m away (-2) (zchc q)).1 + 1) * zpwc (sLays y l v m away (-2) (zchc q)).1 → ¬ (sLays y l v m away (-2) (zchc q')).1 = -1 := by
        intro q' a a' w
        rw [sLays_c (ch := zchc q) (ch' := zchc q') hm.1 (fun i i0 i1 => by
          rw [if_neg s] at i1
          exact zchc_e q0 a a' ba ⟨i0, i1⟩)] at w
        exact s w
      have ct := zM_counts_s (K := K) (x := x) w1 gp (d + 2) (base := 0) (a := (sLays y l v m away (-2) (zchc q)).1) hl (by omega) hN ba ⟨q0, q1⟩ hc2
      rw [zif_pos (by omega), zwp_bind]
      generalize hT : (q / zpwc (sLays y l v m away (-2) (zchc q)).1 + 1) * zpwc (sLays y l v m away (-2) (zchc q)).1 = T at ct skip
      have qT : q < T := by
        rw [← hT]
        generalize (sLays y l v m away (-2) (zchc q)).1 = a at ba
        have : a = 0 ∨ a = 1 ∨ a = 2 ∨ a = 3 ∨ a = 4 ∨ a = 5 := by omega
        unfold zpwc
        rcases this with rfl | rfl | rfl | rfl | rfl | rfl <;> simp only [Int.reduceEq, if_true, if_false] <;> omega
      refine zwp_mono ct (fun r3 k => ?_)
      obtain ⟨c1, c2, c3, c4⟩ := k
      rw [c1]
      by_cases tn : T < 1024 * N
      · rw [zb_t tn]
        refine zwp_mono (ih T r3.2 (by omega) (by omega) tn c2 (c3 tn)) (fun r4 k => ?_)
        obtain ⟨d1, d2, d3⟩ := k
        refine ⟨d1.trans (zb_c ?_), d2, d3.1.trans (c4.1.trans f2.2), fun i i0 i1 => (d3.2 i i0 i1).trans ((c4.2 i i0 i1).trans (by rw [f2.1]))⟩
        constructor
        · rintro ⟨q', a, a', a''⟩
          exact ⟨q', by omega, a', a''⟩
        · rintro ⟨q', a, a', a''⟩
          by_cases w : q' < T
          · exact absurd a'' (skip q' a w)
          · exact ⟨q', by omega, a', a''⟩
      · rw [zb_f tn, eM_canLay_27, zif_pos rfl, zwp_some]
        refine ⟨?_, c2, c4.1.trans f2.2, fun i i0 i1 => (c4.2 i i0 i1).trans (by rw [f2.1])⟩
        rw [zb_f]
        rintro ⟨q', a, a', a''⟩
        exact skip q' a (by omega) a''
theorem zM_canLay_s (h : zR K x y S) (gp : zGp y) (d : Nat) {l v m away : Int} (hl : zLn y l) (hv : 0 ≤ v ∧ v ≤ 99999) (hm : 0 ≤ m ∧ m ≤ 5) (haw : -1 ≤ away ∧ away < 40) :
    zwp (zM_canLay (d + 4) (zI l) (zI v) (zI m) (zI away) S) (fun r => r.1 = zb (∃ q', 0 ≤ q' ∧ q' < 1024 * y 4 (y 12 l) ∧ (sLays y l v m away (-2) (zchc q')).1 = -1) ∧ zR K x y r.2 ∧ zCf 0 S r.2) := by
  have ln := zGln gp hl.1 hl.2
  have b45 := zG45 gp (r := y 12 l) (by have := ln.1; unfold zSl at this; omega) (by have := ln.1; unfold zSl at this; omega)
  have key : ∀ (n : Nat) (i : Int) (S' : ZS), 0 ≤ i → i + n = 6 → zR K x y S' → (∀ j : Int, 0 ≤ j → j < i → S'.1 113 0 j.toNat = zI 0) → zCf 0 S S' →
      zwp (zM_canLay_3 (d + 3) (zI l) (zI v) (zI m) (zI away) (zI i) S') (fun r => r.1 = zb (∃ q', 0 ≤ q' ∧ q' < 1024 * y 4 (y 12 l) ∧ (sLays y l v m away (-2) (zchc q')).1 = -1) ∧ zR K x y r.2 ∧ zCf 0 S r.2) := by
    intro n
    induction n with
    | zero =>
      intro i S' i0 e h' c' f'
      rw [eM_canLay_3, zI_n6, zI_le (by omega) (by omega) (by omega) (by omega), zif_pos (by omega), zI_n1]
      refine zwp_mono (zM_canLay_27_s gp d hl hv hm haw rfl (1024 * y 4 (y 12 l) - 0).toNat 0 S' (by omega) (by omega) (by omega) h' (fun j j0 j1 => ?_)) (fun r k => ?_)
      · rw [show (0 : Int) + j = j by omega, c' j j0 (by omega)]
        have : j = 0 ∨ j = 1 ∨ j = 2 ∨ j = 3 ∨ j = 4 ∨ j = 5 := by omega
        rcases this with rfl | rfl | rfl | rfl | rfl | rfl <;> rfl
      · exact ⟨k.1, k.2.1, k.2.2.1.trans f'.1, fun j j0 j1 => (k.2.2.2 j j0 j1).trans (f'.2 j j0 j1)⟩
    | succ n ih =>
      intro i S' i0 e h' c' f'
      rw [eM_canLay_3, zI_n6, zI_le (by omega) (by omega) (by omega) (by omega), zif_neg (by omega), zg_t (by rw [zI_in (by omega) (by omega)]; omega), zI_zx (by omega) (by omega), zI_n1, zI_add, zI_n0]
      refine ih (i + 1) _ (by omega) (by omega) (zR_t h' (t := 113) (by decide) 0 i.toNat (zI 0)) (fun j j0 j1 => ?_) ⟨f'.1, fun j j0 j1 => (zu_pl S'.1 (show j.toNat ≠ i.toNat by omega)).trans (f'.2 j j0 j1)⟩
      by_cases hj : j = i
      · rw [hj]
        exact zu_same S'.1 113 0 i.toNat (zI 0)
      · exact (zu_pl S'.1 (show j.toNat ≠ i.toNat by omega)).trans (c' j j0 (by omega))
  rw [eM_canLay, zI_n0]
  exact key 6 0 S (by omega) (by omega) h (fun j a b => by omega) ⟨rfl, fun _ _ _ => rfl⟩
end CL
