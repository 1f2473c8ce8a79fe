/-! LAID of the reference: lays, whole -/
section LM
variable {K : ZS} {x y : ZW} {S : ZS}
theorem zTr_g {g : Nat} (hg : g ≠ 40) : ∀ (L : List Int) (y : ZW), zTr y L g = y g
  | [], y => rfl
  | a :: L, y => by
    rw [zTr, zTr_g hg L]
    funext k
    exact xu_g y hg
theorem zRg_m (y y' : ZW) (h : ∀ g, g ≠ 40 → y' g = y g) (l g m : Int) (dg : Int → Int) : zRg y' l g m dg = zRg y l g m dg := by
  funext k e
  exact propext (zRg_c (h 11 (by decide)) (h 13 (by decide)) (h 14 (by decide)) (h 15 (by decide)) l g m dg k e)
theorem zM_lays_55_s {l v m base away g : Int} (d : Nat) (hl : 0 ≤ l ∧ l < 40) (hv : 0 ≤ v ∧ v ≤ 99999) (hm : 0 ≤ m ∧ m ≤ 5) (hb : 0 ≤ base ∧ base ≤ 6) (haw : -1 ≤ away ∧ away < 40) (hg : -2 ≤ g ∧ g < 40) {ch : Int → Int} (hch : ∀ i, 1 ≤ i → i ≤ 5 → 0 ≤ ch i ∧ ch i < 4) :
    ∀ (n : Nat) (y : ZW) (S : ZS) (k a : Int) (b : Int32), k + n = 6 → 0 ≤ k → k ≤ m → zR K x y S → zGp y → zEn y a → S.1 11 0 72 = zI (k + 1) → (∀ i, 0 ≤ i → i ≤ 5 → S.1 113 0 (base + i).toNat = zI (ch i)) →
    zwp (zM_lays_55 (d + 2) (zI l) (zI v) (zI m) (zI base) (zI away) (zI (zWhom g)) (zI a) (zI (k + 1)) (zI 0) b (zI k) S) (fun r => r.1 = zI (sLy m (fun i => sDgt v (m - 1 - i)) (zRg y l g m (fun i => sDgt v (m - 1 - i))) away ch n y k a).1 ∧
      zR K x (zTr y (sLy m (fun i => sDgt v (m - 1 - i)) (zRg y l g m (fun i => sDgt v (m - 1 - i))) away ch n y k a).2) r.2 ∧ zAt 114 r.2 (k + 1) (sLy m (fun i => sDgt v (m - 1 - i)) (zRg y l g m (fun i => sDgt v (m - 1 - i))) away ch n y k a).2 ∧
      r.2.1 11 0 72 = zI (k + 1 + (sLy m (fun i => sDgt v (m - 1 - i)) (zRg y l g m (fun i => sDgt v (m - 1 - i))) away ch n y k a).2.length) ∧ (∀ i : Int, 0 ≤ i → i < k + 1 → r.2.1 114 0 i.toNat = S.1 114 0 i.toNat) ∧ zLf2 S r.2 ∧ zGp (zTr y (sLy m (fun i => sDgt v (m - 1 - i)) (zRg y l g m (fun i => sDgt v (m - 1 - i))) away ch n y k a).2)) := by
  intro n
  induction n with
  | zero =>
    intro y S k a b e k0 hk h gp he c72 cc
    omega
  | succ n ih =>
    intro y S k a b e k0 hk h gp he c72 cc
    have b2 := zG2 gp
    rw [sLy]
    by_cases hE : zEg y a
    · have done : ∀ r : Int, zwp (some (zI r, S)) (fun q => q.1 = zI r ∧ zR K x y q.2 ∧ zAt 114 q.2 (k + 1) [] ∧ q.2.1 11 0 72 = zI (k + 1 + ([] : List Int).length) ∧ (∀ i : Int, 0 ≤ i → i < k + 1 → q.2.1 114 0 i.toNat = S.1 114 0 i.toNat) ∧ zLf2 S q.2 ∧ zGp y) := by
        intro r
        rw [zwp_some]
        exact ⟨rfl, h, trivial, c72.trans (congrArg zI (by rw [List.length_nil]; omega)), fun i _ _ => rfl, ⟨rfl, rfl⟩, gp⟩
      rw [zIt_t hE]
      have val : zM_lays_55 (d + 2) (zI l) (zI v) (zI m) (zI base) (zI away) (zI (zWhom g)) (zI a) (zI (k + 1)) (zI 0) b (zI k) S = some (zI (zIt (zRg y l g m (fun i => sDgt v (m - 1 - i)) k a) (-1) k), S) := by
        by_cases hj : 100 ≤ a
        · have ba : 100 ≤ a ∧ a < 116 := by unfold zEn zSw zJn at he; omega
          refine (zly_j h gp (d + 1) hv hm hg ba (k0 := k) (by omega) 3 0 k b (by omega) (by omega) k0 hk (by omega)).trans ?_
          have er : (((3 : Nat) : Int) ≤ m - k ∧ g < 0) = zRg y l g m (fun i => sDgt v (m - 1 - i)) k a := by
            unfold zRg
            refine propext ⟨fun q => Or.inl ⟨hj, by omega, q.2⟩, fun q => ?_⟩
            rcases q with q | q <;> omega
          rw [er]
        · have hs : zSw y a := he.elim (fun q => q) (fun q => absurd q.1 hj)
          have hf : y 3 (a / 8) = 1 := hE.elim (fun q => absurd q hj) (fun q => q)
          exact zly_f h gp (d + 1) hl hv hm hg hs hf ⟨k0, hk⟩ b
      rw [val]
      by_cases q : zRg y l g m (fun i => sDgt v (m - 1 - i)) k a
      · rw [zIt_t q, zIt_t q]
        exact done (-1)
      · rw [zIt_f q, zIt_f q]
        exact done k
    · have hs : zSw y a := he.elim (fun q => q) (fun q => absurd (Or.inl q.1) hE)
      have sw := hs
      unfold zSw at sw
      have b5 := zG5 gp (a / 8)
      have hmo := sMod gp hs
      have done : ∀ r : Int, zwp (some (zI r, S)) (fun q => q.1 = zI r ∧ zR K x y q.2 ∧ zAt 114 q.2 (k + 1) [] ∧ q.2.1 11 0 72 = zI (k + 1 + ([] : List Int).length) ∧ (∀ i : Int, 0 ≤ i → i < k + 1 → q.2.1 114 0 i.toNat = S.1 114 0 i.toNat) ∧ zLf2 S q.2 ∧ zGp y) := by
        intro r
        rw [zwp_some]
        exact ⟨rfl, h, trivial, c72.trans (congrArg zI (by rw [List.length_nil]; omega)), fun i _ _ => rfl, ⟨rfl, rfl⟩, gp⟩
      rw [zIt_f hE, eM_lays_55, zI_le (by omega) (by omega) (by omega) (by omega)]
      by_cases q : m ≤ k
      · rw [zif_pos q, zIt_t q, zI_n1, zI_sub, show k + 1 - 1 = k by omega]
        exact done k
      · have bd := sDgt_b v (m - 1 - k)
        have hc := hch (k + 1) (by omega) (by omega)
        have e2 : 80 * (a / 8) + 40 * (a % 8 % y 5 (a / 8)) + 4 * sDgt v (m - 1 - k) + ch (k + 1) = sBase y a (sDgt v (m - 1 - k)) + ch (k + 1) := rfl
        have hbb : 0 ≤ sBase y a (sDgt v (m - 1 - k)) + ch (k + 1) ∧ sBase y a (sDgt v (m - 1 - k)) + ch (k + 1) < 960 := by unfold sBase; omega
        have b6 := zG6 gp (sBase y a (sDgt v (m - 1 - k)) + ch (k + 1))
        have b6e := fun w => zG6e gp (k := sBase y a (sDgt v (m - 1 - k)) + ch (k + 1)) w
        have c113 := cc (k + 1) (by omega) (by omega)
        rw [zif_neg q, zIt_f q, zM_digitOf_s S (d + 1) hv (by omega) ⟨k0, by omega⟩, zBs]
        dsimp only
        rw [zM_isEnding_0 h gp (d + 1) he, zBs]
        dsimp only
        rw [zb_0, zif_pos hE, zI_n8, zI_div (by omega) (by omega) (by omega) (by omega), zg_t (by rw [zI_in (by omega) (by omega)]; omega), zI_zx (by omega) (by omega), zRm5 h (by omega) (by omega), zif_zz, zI_n0, zI_eq (by omega) (by omega) (by omega) (by omega), zif_neg (by omega), zI_add, zg_t (by rw [zI_in (by omega) (by omega)]; omega), zI_zx (by omega) (by omega), c113, zI_mul, zI_sub, zmodI, zI_div (by omega) (by omega) (by omega) (by omega), zI_mul, zI_sub, zmodI, eM_outletAt, zBs]
        dsimp only
        rw [show (80 : Int32) = zI 80 from rfl, zI_n40, zI_n4, zI_mul, zI_mul, zI_mul, zI_add, zI_add, zI_add, e2]
        generalize hP : sBase y a (sDgt v (m - 1 - k)) + ch (k + 1) = P at hbb b6 b6e ⊢
        rw [zg_t (by rw [zI_in (by omega) (by omega)]; omega), zI_zx (by omega) (by omega), zRm6 h (by omega) (by omega), zI_lt (by omega) (by omega) (by omega) (by omega)]
        by_cases p6 : y 6 P < 0
        · rw [zif_pos p6, zIt_f (fun w => by have := w.1; omega)]
          exact done (k + 1)
        · have us := zM_mayUse_s h gp (d + 1) (a := y 6 P) (away := away) (by omega) (by omega) haw.1 haw.2
          rw [zif_neg p6, us, zBs]
          dsimp only
          rw [zb_z]
          by_cases hu : zUs y away (y 6 P)
          · obtain ⟨t1, t2⟩ := zM_takes_s h (d + 1) (a := y 6 P) (c := k + 1) (by omega) (by omega) c72
            have gp' : zGp (xu y 40 (y 6 P) 1) := zGp_u gp (by decide) _ _
            have ss : ∀ g', g' ≠ 40 → (xu y 40 (y 6 P) 1) g' = y g' := fun g' hg' => by funext k'; exact xu_g y hg'
            have r := ih (xu y 40 (y 6 P) 1) _ (k + 1) (y 6 P) b (by omega) (by omega) (by omega) t2 gp' (by unfold zEn zSw; rw [ss 2 (by decide), ss 4 (by decide)]; exact b6e (by omega)) (by dsimp only; rw [zu_same]) (fun i i0 i1 => cc i i0 i1)
            rw [zRg_m y _ ss] at r
            rw [zif_neg (fun w => w hu), t1, zBs, zI_n1, zI_add, zI_add, zIt_t ⟨by omega, hu⟩]
            refine zwp_mono r (fun r' q => ?_)
            obtain ⟨q1, q2, q3, q4, q5, q6, q7⟩ := q
            refine ⟨q1, q2, ⟨?_, q3⟩, q4.trans (congrArg zI (by rw [List.length_cons]; omega)), fun i i0 i1 => (q5 i i0 (by omega)).trans ?_, q6, q7⟩
            · exact (q5 (k + 1) (by omega) (by omega)).trans (zu_same (zu S.1 80 0 (y 6 P).toNat (zI 1)) 114 0 (k + 1).toNat (zI (y 6 P)))
            · exact zu_pl (zu S.1 80 0 (y 6 P).toNat (zI 1)) (show i.toNat ≠ (k + 1).toNat by omega)
          · rw [zif_pos hu, zIt_f (fun w => hu w.2)]
            exact done (k + 1)
/-- what lays answers, and what it takes -/
noncomputable def sLays (y : ZW) (l v m away g : Int) (ch : Int → Int) : Int × List Int :=
  zIt (zUs y away (8 * y 12 l + ch 0)) ((sLy m (fun i => sDgt v (m - 1 - i)) (zRg y l g m (fun i => sDgt v (m - 1 - i))) away ch 6 (xu y 40 (8 * y 12 l + ch 0) 1) 0 (8 * y 12 l + ch 0)).1, (8 * y 12 l + ch 0) :: (sLy m (fun i => sDgt v (m - 1 - i)) (zRg y l g m (fun i => sDgt v (m - 1 - i))) away ch 6 (xu y 40 (8 * y 12 l + ch 0) 1) 0 (8 * y 12 l + ch 0)).2) (0, [])
theorem zM_lays_s (h : zR K x y S) (gp : zGp y) {l v m base away g : Int} (d : Nat) (hl : zLn y l) (hv : 0 ≤ v ∧ v ≤ 99999) (hm : 0 ≤ m ∧ m ≤ 5) (hb : 0 ≤ base ∧ base ≤ 6) (haw : -1 ≤ away ∧ away < 40) (hg : -2 ≤ g ∧ g < 40) {ch : Int → Int} (hch0 : 0 ≤ ch 0 ∧ ch 0 < y 4 (y 12 l)) (hch : ∀ i, 1 ≤ i → i ≤ 5 → 0 ≤ ch i ∧ ch i < 4) (cc : ∀ i, 0 ≤ i → i ≤ 5 → S.1 113 0 (base + i).toNat = zI (ch i)) :
    zwp (zM_lays (d + 3) (zI l) (zI v) (zI m) (zI base) (zI away) (zI (zWhom g)) S) (fun r => r.1 = zI (sLays y l v m away g ch).1 ∧ zR K x (zTr y (sLays y l v m away g ch).2) r.2 ∧ zAt 114 r.2 0 (sLays y l v m away g ch).2 ∧ r.2.1 11 0 72 = zI (sLays y l v m away g ch).2.length ∧ zLf2 S r.2 ∧ zGp (zTr y (sLays y l v m away g ch).2)) := by
  have b11 := zG11 gp
  have ln := zGln gp hl.1 hl.2
  have b12 := zG12 gp l
  have b4 := zG4 gp (y 12 l)
  have b2 := zG2 gp
  unfold zSl at ln
  have h0 := zR_s h (t := 11) (s := 72) (by decide) 0 (zI 0)
  have he : zEn y (8 * y 12 l + ch 0) := Or.inl (by unfold zSw; rw [show (8 * y 12 l + ch 0) / 8 = y 12 l by omega]; omega)
  have c0 := cc 0 (by omega) (by omega)
  rw [show base + 0 = base by omega] at c0
  have r12 : (zu S.1 11 0 72 (zI 0)) 67 0 l.toNat = zI (y 12 l) := zRm12 h hl.1 (by have := hl.2; omega)
  have r113 : (zu S.1 11 0 72 (zI 0)) 113 0 base.toNat = zI (ch 0) := c0
  have us := zM_mayUse_s h0 gp (d + 1) (a := 8 * y 12 l + ch 0) (away := away) (by omega) (by omega) haw.1 haw.2
  rw [eM_lays, zg_t (by rw [zI_in (by have := hl.1; omega) (by have := hl.2; omega)]; have := hl.1; have := hl.2; omega), zg_t (by rw [zI_in (by omega) (by omega)]; omega), zI_zx hl.1 (by have := hl.2; omega), zI_zx (by omega) (by omega), zI_n0, r12, r113, zI_n8, zI_mul, zI_add, us, zBs]
  dsimp only
  rw [show zI 0 = (0 : Int32) from rfl, zb_0]
  unfold sLays
  by_cases hu : zUs y away (8 * y 12 l + ch 0)
  · obtain ⟨t1, t2⟩ := zM_takes_s h0 (d + 1) (a := 8 * y 12 l + ch 0) (c := 0) (by omega) (by omega) (zu_same S.1 11 0 72 (zI 0))
    have t1 : zM_takes (d + 2) (zI (8 * y 12 l + ch 0)) (zu S.1 11 0 72 (0 : Int32), S.2) = _ := t1
    have gp' : zGp (xu y 40 (8 * y 12 l + ch 0) 1) := zGp_u gp (by decide) _ _
    have ss : ∀ g', g' ≠ 40 → (xu y 40 (8 * y 12 l + ch 0) 1) g' = y g' := fun g' hg' => by funext k'; exact xu_g y hg'
    have r := zM_lays_55_s (K := K) (x := x) (base := base) (away := away) (g := g) d (l := l) (by have := hl.1; have := hl.2; omega) hv hm hb haw hg hch 6 _ _ 0 (8 * y 12 l + ch 0) 0 (by omega) (by omega) hm.1 t2 gp' (by unfold zEn zSw at he ⊢; rw [ss 2 (by decide), ss 4 (by decide)]; exact he) (by dsimp only; rw [zu_same]) (fun i i0 i1 => cc i i0 i1)
    rw [zRg_m y _ ss] at r
    rw [zif_neg (fun w => w hu), t1, zBs, zIt_t hu]
    refine zwp_mono r (fun r' q => ?_)
    obtain ⟨q1, q2, q3, q4, q5, q6, q7⟩ := q
    refine ⟨q1, q2, ⟨?_, q3⟩, q4.trans (congrArg zI (by rw [List.length_cons]; omega)), q6, q7⟩
    exact (q5 0 (by omega) (by omega)).trans (zu_same (zu (zu S.1 11 0 72 (zI 0)) 80 0 (8 * y 12 l + ch 0).toNat (zI 1)) 114 0 (0 : Int).toNat (zI (8 * y 12 l + ch 0)))
  · rw [zif_pos hu, zIt_f hu, zwp_some]
    exact ⟨rfl, h0, trivial, rfl, ⟨rfl, rfl⟩, gp⟩
end LM
