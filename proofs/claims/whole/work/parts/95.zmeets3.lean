/-! MEETS of the reference, whole -/
section MU
variable {K : ZS} {x y : ZW} {S : ZS}
theorem zT_lo {y z : ZW} (t : zT y z) (r n : Int) : zlineOf y r n = zlineOf z r n := zlineOf_c (t.2.2.1 11 (by simp)).symm (t.2.2.1 13 (by simp)).symm (t.2.2.1 14 (by simp)).symm r n
theorem zM_meets_195_s (h : zR K x y S) (gy : zGp y) {z : ZW} (t : zT y z) (gz : zGd z) (d : Nat) {l v m k dg b c s : Int} (Q : Int32 × ZS → Prop) (hl : zLn z l) (hh : zEn z (sHead z l)) (h20 : 0 ≤ z 20 l ∧ z 20 l ≤ 2) (h20f : sHead z l < 100 → z 20 l ≤ 1) (hb : 0 ≤ b ∧ b ≤ 9) (hd : 0 ≤ dg ∧ dg ≤ 9) (hbe : b = if z 20 l = 0 then dg else z 50 l) (hk : 0 ≤ k ∧ k < 10) (hc : c = z 20 l + 1) (hs : s = sEst z l dg)
    (hQ : ∀ y' S', (sHead z l < 100 ∧ s = 5 → y' = xu y 41 (zlineOf z (sHead z l / 8) (10 * b + dg)) 1 ∧ 0 ≤ zlineOf z (sHead z l / 8) (10 * b + dg)) → (¬ (sHead z l < 100 ∧ s = 5) → y' = y) → zR K x y' S' → S'.1 11 0 68 = S.1 11 0 68 → (∀ i, S'.1 112 0 i = S.1 112 0 i) → zwp (zM_meets_74 (d + 2) (zI v) (zI m) (zI s) (zI c) (zI b) (zI (k + 1)) S') Q) :
    zwp (zM_meets_195 (d + 2) (zI v) (zI m) (zI 1) (zI c) (zI b) (zI k) (zI dg) (zI (sHead z l)) S) Q := by
  have b11 := zG11 gz.1
  have b2 := zG2 gz.1
  have b4 := zG4 gz.1 (sHead z l / 8)
  rw [eM_meets_195]
  unfold sEst at hs
  rw [← hbe] at hs
  clear hbe
  have q := fun (hn : ¬ (sHead z l < 100 ∧ s = 5)) => hQ y S (fun q => absurd q hn) (fun _ => rfl) h rfl (fun _ => rfl)
  by_cases hJ : 100 ≤ sHead z l
  · rw [if_pos hJ] at hs
    have q := q (by omega)
    rcases (show z 20 l = 0 ∨ z 20 l = 1 ∨ z 20 l = 2 by omega) with e | e | e
    · rw [e, if_neg (show ¬ (0 : Int) + 1 = 3 by decide)] at hs
      rw [e] at hc
      subst hs
      subst hc
      rw [show (0 : Int) + 1 = 1 from rfl] at q ⊢
      simp (contextual := true) (disch := omega) only [zWp, zNum, Int.cast_ofNat_Int, Prod.mk.injEq, and_true, true_and, implies_true, and_self, true_implies, false_implies, not_true_eq_false, not_false_eq_true, and_false, false_and, Int.reduceEq, Int.reduceLT, Int.reduceLE, Int.reduceNeg, Int.reduceAdd, Int.reduceSub, Int.reduceMul, Int.reduceToNat, Nat.reduceEqDiff, cond_true, cond_false, q] <;> ((repeat' (first | intro _ | with_reducible apply And.intro)) <;> (first | omega | (exfalso; omega)))
    · rw [e, if_neg (show ¬ (1 : Int) + 1 = 3 by decide)] at hs
      rw [e] at hc
      subst hs
      subst hc
      rw [show (1 : Int) + 1 = 2 from rfl] at q ⊢
      simp (contextual := true) (disch := omega) only [zWp, zNum, Int.cast_ofNat_Int, Prod.mk.injEq, and_true, true_and, implies_true, and_self, true_implies, false_implies, not_true_eq_false, not_false_eq_true, and_false, false_and, Int.reduceEq, Int.reduceLT, Int.reduceLE, Int.reduceNeg, Int.reduceAdd, Int.reduceSub, Int.reduceMul, Int.reduceToNat, Nat.reduceEqDiff, cond_true, cond_false, q] <;> ((repeat' (first | intro _ | with_reducible apply And.intro)) <;> (first | omega | (exfalso; omega)))
    · rw [e, if_pos (show (2 : Int) + 1 = 3 by decide)] at hs
      rw [e] at hc
      subst hs
      subst hc
      rw [show (2 : Int) + 1 = 3 from rfl] at q ⊢
      simp (contextual := true) (disch := omega) only [zWp, zNum, Int.cast_ofNat_Int, Prod.mk.injEq, and_true, true_and, implies_true, and_self, true_implies, false_implies, not_true_eq_false, not_false_eq_true, and_false, false_and, Int.reduceEq, Int.reduceLT, Int.reduceLE, Int.reduceNeg, Int.reduceAdd, Int.reduceSub, Int.reduceMul, Int.reduceToNat, Nat.reduceEqDiff, cond_true, cond_false, q] <;> ((repeat' (first | intro _ | with_reducible apply And.intro)) <;> (first | omega | (exfalso; omega)))
  · rw [if_neg hJ] at hs
    have h20f := h20f (by omega)
    rcases (show z 20 l = 0 ∨ z 20 l = 1 by omega) with e | e
    · rw [e, if_pos (show (0 : Int) < 1 by decide)] at hs
      rw [e] at hc
      subst hs
      subst hc
      have q := q (by omega)
      rw [show (0 : Int) + 1 = 1 from rfl] at q ⊢
      simp (contextual := true) (disch := omega) only [zWp, zNum, Int.cast_ofNat_Int, Prod.mk.injEq, and_true, true_and, implies_true, and_self, true_implies, false_implies, not_true_eq_false, not_false_eq_true, and_false, false_and, Int.reduceEq, Int.reduceLT, Int.reduceLE, Int.reduceNeg, Int.reduceAdd, Int.reduceSub, Int.reduceMul, Int.reduceToNat, Nat.reduceEqDiff, cond_true, cond_false, q] <;> ((repeat' (first | intro _ | with_reducible apply And.intro)) <;> (first | omega | (exfalso; omega)))
    · rw [e, if_neg (show ¬ (1 : Int) < 1 by decide)] at hs
      rw [e] at hc
      subst hc
      rw [show (1 : Int) + 1 = 2 from rfl] at hQ q ⊢
      have q0 := zM_lineOf_s h gy (d + 1) (r := sHead z l / 8) (n := 10 * b + dg) (by omega) (by omega)
      rw [zT_lo t] at q0
      have bo := zlineOf_b gz.1 (sHead z l / 8) (10 * b + dg)
      generalize zlineOf z (sHead z l / 8) (10 * b + dg) = o at hQ q0 bo hs
      by_cases ho : o < 0
      · rw [if_pos ho] at hs
        subst hs
        have q := q (by omega)
        simp (contextual := true) (disch := omega) only [zWp, zNum, Int.cast_ofNat_Int, Prod.mk.injEq, and_true, true_and, implies_true, and_self, true_implies, false_implies, not_true_eq_false, not_false_eq_true, and_false, false_and, Int.reduceEq, Int.reduceLT, Int.reduceLE, Int.reduceNeg, Int.reduceAdd, Int.reduceSub, Int.reduceMul, Int.reduceToNat, Nat.reduceEqDiff, cond_true, cond_false, q0, q] <;> ((repeat' (first | intro _ | with_reducible apply And.intro)) <;> (first | omega | (exfalso; omega)))
      · rw [if_neg ho] at hs
        have tq := t.2.1 o (by omega) (by omega)
        have q1 := zM_isQuiet_s h (d + 1) (a := o) (by omega) (by omega)
        by_cases hq : z 15 o = 0
        · rw [if_pos hq] at hs
          subst hs
          have w := zWm41 h (k := o) (v := 1) (by omega) (by omega) (by omega) (by omega)
          have q := hQ _ _ (fun _ => ⟨rfl, by omega⟩) (fun hn => absurd ⟨by omega, rfl⟩ hn) w (by simp [zu]) (fun i => by simp [zu])
          have hbl : zbl (zI 1) = true := rfl
          simp (contextual := true) (disch := omega) only [zWp, zNum, Int.cast_ofNat_Int, Prod.mk.injEq, and_true, true_and, implies_true, and_self, true_implies, false_implies, not_true_eq_false, not_false_eq_true, and_false, false_and, Int.reduceEq, Int.reduceLT, Int.reduceLE, Int.reduceNeg, Int.reduceAdd, Int.reduceSub, Int.reduceMul, Int.reduceToNat, Nat.reduceEqDiff, cond_true, cond_false, q0, q1, hbl, q] <;> ((repeat' (first | intro _ | with_reducible apply And.intro)) <;> (first | omega | (exfalso; omega)))
        · rw [if_neg hq] at hs
          subst hs
          have q := q (by omega)
          simp (contextual := true) (disch := omega) only [zWp, zNum, Int.cast_ofNat_Int, Prod.mk.injEq, and_true, true_and, implies_true, and_self, true_implies, false_implies, not_true_eq_false, not_false_eq_true, and_false, false_and, Int.reduceEq, Int.reduceLT, Int.reduceLE, Int.reduceNeg, Int.reduceAdd, Int.reduceSub, Int.reduceMul, Int.reduceToNat, Nat.reduceEqDiff, cond_true, cond_false, q0, q1, q] <;> ((repeat' (first | intro _ | with_reducible apply And.intro)) <;> (first | omega | (exfalso; omega)))
theorem zM_meets_138_s (h : zR K x y S) {z : ZW} (gz : zGd z) (d : Nat) {v m k a6 a7 e : Int} (Q : Int32 × ZS → Prop) (he : e = -1 ∨ e = -2 ∨ (0 ≤ e ∧ e < 116)) (e10 : y 10 e = z 10 e) 
    (hQ : zwp (zM_meets_74 d (zI v) (zI m) (zI (sSst z e)) (zI a6) (zI a7) (zI (k + 1)) S) Q) :
    zwp (zM_meets_138 d (zI v) (zI m) (zI a6) (zI a7) (zI k) (zI e) S) Q := by
  have b10 := zG10 gz.1 e
  rw [eM_meets_138]
  unfold sSst at hQ
  by_cases h1 : e = -1
  · rw [if_pos h1] at hQ
    simp (contextual := true) (disch := omega) only [zWp, zNum, Int.cast_ofNat_Int, Prod.mk.injEq, and_true, true_and, implies_true, and_self, true_implies, false_implies, not_true_eq_false, not_false_eq_true, and_false, false_and, Int.reduceEq, Int.reduceLT, Int.reduceLE, Int.reduceNeg, Int.reduceAdd, Int.reduceSub, Int.reduceMul, Int.reduceToNat, Nat.reduceEqDiff, cond_true, cond_false, hQ] <;> ((repeat' (first | intro _ | with_reducible apply And.intro)) <;> (first | omega | (exfalso; omega)))
  · rw [if_neg h1] at hQ
    by_cases h2 : e = -2
    · rw [if_pos h2] at hQ
      simp (contextual := true) (disch := omega) only [zWp, zNum, Int.cast_ofNat_Int, Prod.mk.injEq, and_true, true_and, implies_true, and_self, true_implies, false_implies, not_true_eq_false, not_false_eq_true, and_false, false_and, Int.reduceEq, Int.reduceLT, Int.reduceLE, Int.reduceNeg, Int.reduceAdd, Int.reduceSub, Int.reduceMul, Int.reduceToNat, Nat.reduceEqDiff, cond_true, cond_false, hQ] <;> ((repeat' (first | intro _ | with_reducible apply And.intro)) <;> (first | omega | (exfalso; omega)))
    · rw [if_neg h2] at hQ
      by_cases h3 : z 10 e = 0
      · rw [if_pos h3] at hQ
        simp (contextual := true) (disch := omega) only [zWp, zNum, Int.cast_ofNat_Int, Prod.mk.injEq, and_true, true_and, implies_true, and_self, true_implies, false_implies, not_true_eq_false, not_false_eq_true, and_false, false_and, Int.reduceEq, Int.reduceLT, Int.reduceLE, Int.reduceNeg, Int.reduceAdd, Int.reduceSub, Int.reduceMul, Int.reduceToNat, Nat.reduceEqDiff, cond_true, cond_false, zRm10 h, e10, hQ] <;> ((repeat' (first | intro _ | with_reducible apply And.intro)) <;> (first | omega | (exfalso; omega)))
      · rw [if_neg h3] at hQ
        simp (contextual := true) (disch := omega) only [zWp, zNum, Int.cast_ofNat_Int, Prod.mk.injEq, and_true, true_and, implies_true, and_self, true_implies, false_implies, not_true_eq_false, not_false_eq_true, and_false, false_and, Int.reduceEq, Int.reduceLT, Int.reduceLE, Int.reduceNeg, Int.reduceAdd, Int.reduceSub, Int.reduceMul, Int.reduceToNat, Nat.reduceEqDiff, cond_true, cond_false, zRm10 h, e10, hQ] <;> ((repeat' (first | intro _ | with_reducible apply And.intro)) <;> (first | omega | (exfalso; omega)))
set_option maxHeartbeats 4000000 in
theorem zM_meets_74_s {z0 : ZW} (g0 : zGd z0) (d : Nat) {l v m : Int} (hl0 : zLn z0 l) (hq : z0 15 l = 0) (hf : ¬ sFF z0 (z0 12 l) < 0) (hv : 0 ≤ v ∧ v ≤ 99999) (hm : 1 ≤ m ∧ m ≤ 5) :
    ∀ (j n : Nat) (y : ZW) (S : ZS) (b : Int), (n : Int) + j = m → zMe K x y (sMk z0 l v m n) l S → 0 ≤ b → b ≤ 9 → (1 ≤ (sMk z0 l v m n) 20 l → b = (sMk z0 l v m n) 50 l) → (sMk z0 l v m n) 22 l ≤ n + 1 →
      zwp (zM_meets_74 (d + 2) (zI v) (zI m) (zI ((sMk z0 l v m n) 16 l)) (zI ((sMk z0 l v m n) 20 l)) (zI b) (zI n) S) (fun r => r.1 = zI ((sMk z0 l v m m.toNat) 16 l) ∧ ∃ y', zMe K x y' (sMk z0 l v m m.toNat) l r.2 ∧ zEv y y')
  | 0, n, y, S, b, e, M, b0, b9, hb, h22 => by
    rw [eM_meets_74, zI_le (by omega) (by omega) (by omega) (by omega), zif_pos (by omega), zwp_some, show m.toNat = n by omega]
    exact ⟨rfl, y, M, zEv_r y⟩
  | j + 1, n, y, S, b, e, M, b0, b9, hb, h22 => by
    obtain ⟨h1, h2, h3, h4⟩ := sMk_z g0 (v := v) (m := m) hl0 hq hf n
    have c16 := (h1.2.2.2.1 l h2 h3).2.2.2.1
    have hd := sDgt_b v (m - 1 - n)
    by_cases h16 : (sMk z0 l v m n) 16 l ≤ 1
    · have ego := sMk_go g0 (v := v) (m := m) hl0 hq hf n h16
      have ih := fun y' S' b' => zM_meets_74_s g0 d hl0 hq hf hv hm j (n + 1) y' S' b' (by omega)
      rw [ego, show ((n + 1 : Nat) : Int) = (n : Int) + 1 by omega] at ih
      obtain ⟨cs, cs2⟩ := zCl_s h1 h2 h3 h16
      obtain ⟨k22, kE, k18, k20, k20f, k50, k16⟩ := cs
      have qd := zM_digitOf_s S (d + 1) (v := v) (m := m) (k := n) hv hm (by omega)
      have es8 := fun (g : Nat) hg => sStep_n (sMk z0 l v m n) l (sDgt v (m - 1 - n)) (g := g) hg
      have hA := sStep_a (sMk z0 l v m n) l (sDgt v (m - 1 - n))
      have hB := sStep_e (sMk z0 l v m n) l (sDgt v (m - 1 - n))
      generalize sStep (sMk z0 l v m n) l (sDgt v (m - 1 - n)) = w at ih es8 hA hB
      generalize sMk z0 l v m n = z at *
      generalize sDgt v (m - 1 - n) = dg at *
      generalize hzf : sMk z0 l v m m.toNat = zf at *
      obtain ⟨hR, gy, t, m68, m112⟩ := M
      have b2 := zG2 h1.1
      have b4 := zG4 h1.1 (sHead z l / 8)
      have bl := zG11 h1.1
      have hw : ∀ g, g = 2 ∨ g = 3 ∨ g = 4 ∨ g = 5 ∨ g = 6 ∨ g = 9 ∨ g = 10 ∨ g = 11 ∨ g = 12 ∨ g = 13 ∨ g = 14 ∨ g = 40 → w g = z g := by
        rintro g (rfl | rfl | rfl | rfl | rfl | rfl | rfl | rfl | rfl | rfl | rfl | rfl) <;> exact es8 _ (by decide)
      have mh := m112 (z 22 l - 1) (by omega) (by omega)
      rw [show 120 * l + (z 22 l - 1) = 120 * l + z 22 l - 1 by omega] at mh
      have mh : S.1 112 0 (z 22 l - 1).toNat = zI (sHead z l) := mh
      have qE := zM_isEnding_s hR gy (d + 1) (a := sHead z l) (by omega) (by omega) (by omega)
      have eE : zEg y (sHead z l) = zEg z (sHead z l) := by unfold zEg; rw [t.2.2.1 3 (by simp)]
      rw [eE] at qE
      rw [eM_meets_74]
      by_cases hE : zEg z (sHead z l)
      · obtain ⟨f16, f20, f50, f8, f22, f23, f15⟩ := hB hE h3
        have q := fun b' (hb0 : 0 ≤ b' ∧ b' ≤ 9) (hbe : b' = if z 20 l = 0 then dg else z 50 l) => zM_meets_195_s hR gy t h1 d (l := l) (v := v) (m := m) (k := n) (dg := dg) (b := b') (c := z 20 l + 1) (s := sEst z l dg) (fun r => r.1 = zI (zf 16 l) ∧ ∃ y', zMe K x y' zf l r.2 ∧ zEv y y') h2 kE k20 k20f hb0 hd hbe (by omega) rfl rfl (fun y' S' hy1 hy2 hR' e68 e112 => by
          have hT : zEv y y' ∧ zT y' w := by
            by_cases hc : sHead z l < 100 ∧ sEst z l dg = 5
            · obtain ⟨hy, ho⟩ := hy1 hc
              have bo := zlineOf_b h1.1 (sHead z l / 8) (10 * b' + dg)
              rw [if_pos hc, ← hbe] at f15
              rw [hy]
              exact ⟨zEv_41 y ⟨ho, by omega⟩, zT_s15 t (by decide) f8 f15 hw⟩
            · rw [hy2 hc]
              rw [if_neg hc] at f15
              exact ⟨zEv_r y, zT_s0 t f8 f15 hw⟩
          have ih := ih y' S' b' ⟨hR', zGp_ev gy hT.1, hT.2, by rw [e68, f22]; exact m68, fun i i0 i1 => by rw [f22] at i1; rw [e112, f23]; exact m112 i i0 i1⟩ hb0.1 hb0.2 (fun _ => by rw [f50]; exact hbe) (by rw [f22]; omega)
          rw [f16, f20] at ih
          exact zwp_mono ih (fun r hr => ⟨hr.1, by obtain ⟨y2, a1, a2⟩ := hr.2; exact ⟨y2, a1, zEv_t hT.1 a2⟩⟩))
        have hEx : ∃ b', 0 ≤ b' ∧ b' ≤ 9 ∧ (b' = if z 20 l = 0 then dg else z 50 l) ∧ b' = (if z 20 l + 1 = 1 then dg else b) := by
          refine ⟨if z 20 l + 1 = 1 then dg else b, ?_, ?_, ?_, rfl⟩
          · split <;> omega
          · split <;> omega
          · by_cases h0 : z 20 l = 0
            · rw [if_pos h0, if_pos (by omega)]
            · rw [if_neg h0, if_neg (by omega)]; exact hb (by omega)
        obtain ⟨b', b1, b2', b3, b4'⟩ := hEx
        have q := q b' ⟨b1, b2'⟩ b3
        rw [zI_le (by omega) (by omega) (by omega) (by omega), zif_neg (by omega), zI_n2, zI_le (by omega) (by omega) (by omega) (by omega), zif_neg (by omega), qd]
        show zwp (zg (zin (S.1 11 0 68 - 1) 8) ((zM_isEnding (d + 2) (S.1 112 0 (zx (S.1 11 0 68 - 1))) S).bind _)) _
        rw [m68, zI_n1, zI_sub, zg_t (by rw [zI_in (by omega) (by omega)]; omega), zI_zx (by omega) (by omega), mh, qE]
        show zwp (zif (zb _ = 0) _ (zif (zI (z 20 l) + 1 = 1) _ _)) _
        rw [zif_neg (by rw [zb_0]; exact fun hn => hn hE), zI_n1, zI_add, zI_eq (by omega) (by omega) (by omega) (by omega)]
        by_cases h0 : z 20 l + 1 = 1
        · rw [if_pos h0] at b4'
          rw [zif_pos h0, ← b4']
          subst b4'
          exact q
        · rw [if_neg h0] at b4'
          rw [zif_neg h0, ← b4']
          exact q
      · have be := sGoes_b h1.1 (sHead z l) dg
        have hsw : zSw y (sHead z l) := by
          unfold zSw
          rw [← t.2.2.1 2 (by simp), ← t.2.2.1 4 (by simp)]
          rcases kE with c | c
          · exact c
          · exact absurd (Or.inl c.1) hE
        have qg := zM_goesTo_s hR gy d (a := sHead z l) (l := dg) hsw (by omega)
        rw [zT_goes t h1.1] at qg
        obtain ⟨f16, f20, f50, f15, f8, f22, f23⟩ := hA (sGoes z (sHead z l) dg) hE rfl
        have e10 : ∀ k, y 10 k = z 10 k := fun k => by rw [t.2.2.1 10 (by simp)]
        generalize sGoes z (sHead z l) dg = e at qg f16 f8 f22 f23 be
        have hz0 := (cs2 hE).1
        rw [zI_le (by omega) (by omega) (by omega) (by omega), zif_neg (by omega), zI_n2, zI_le (by omega) (by omega) (by omega) (by omega), zif_neg (by omega), qd]
        show zwp (zg (zin (S.1 11 0 68 - 1) 8) ((zM_isEnding (d + 2) (S.1 112 0 (zx (S.1 11 0 68 - 1))) S).bind _)) _
        rw [m68, zI_n1, zI_sub, zg_t (by rw [zI_in (by omega) (by omega)]; omega), zI_zx (by omega) (by omega), mh, qE]
        show zwp (zif (zb _ = 0) ((zM_goesTo (d + 2) (zI (sHead z l)) (zI dg) S).bind _) _) _
        rw [zif_pos (by rw [zb_0]; exact hE), qg]
        show zwp (zif (zI e < 0) (zM_meets_138 (d + 2) (zI v) (zI m) (zI (z 20 l)) (zI b) (zI n) (zI e) S) ((zM_tries (d + 2) (zI e) S).bind (fun r4 => zM_meets_138 (d + 2) (zI v) (zI m) (zI (z 20 l)) (zI b) (zI n) (zI e) r4))) _
        rw [zI_n0, zI_lt (by omega) (by omega) (by omega) (by omega)]
        by_cases he : e < 0
        · rw [zif_pos he]
          rw [if_neg (by omega)] at f8 f22 f23
          refine zM_meets_138_s hR h1 (d + 2) _ (by omega) (e10 e) ?_
          have ih := ih y S b ⟨hR, gy, zT_s0 t f8 f15 hw, by rw [f22]; exact m68, fun i i0 i1 => by rw [f22] at i1; rw [f23]; exact m112 i i0 i1⟩ b0 b9 (fun _ => by omega) (by rw [f22]; omega)
          rw [f16, f20] at ih
          exact ih
        · rw [zif_neg he]
          rw [if_pos (by omega)] at f8 f22 f23
          obtain ⟨t1, t2⟩ := zM_tries_s hR (d + 1) (e := e) (n := z 22 l) (by omega) (by omega) m68
          rw [t1]
          have hev := zEv_40 y (e := e) (v := 1) (by omega)
          have tz := zT_s8 t h2.1 (by omega) f8 f15 hw
          refine zM_meets_138_s t2 (z := z) h1 (d + 2) _ (by omega) (by rw [xu_g _ (by decide)]; exact e10 e) ?_
          · have ih := ih _ _ b ⟨t2, zGp_ev gy hev, tz, by rw [f22]; simp [zu], fun i i0 i1 => by
              rw [f22] at i1
              rw [f23]
              dsimp only
              by_cases hi : i = z 22 l
              · rw [if_pos (by omega), hi]; simp [zu]
              · rw [if_neg (by omega)]
                have : i.toNat ≠ (z 22 l).toNat := by omega
                simp [zu, this]
                exact m112 i i0 (by omega)⟩ b0 b9 (fun _ => by omega) (by rw [f22]; omega)
            rw [f16, f20] at ih
            exact zwp_mono ih (fun r hr => ⟨hr.1, by obtain ⟨y2, a1, a2⟩ := hr.2; exact ⟨y2, a1, zEv_t hev a2⟩⟩)
    · have est := sMk_stop g0 (v := v) (m := m) hl0 hq hf n h16 (m.toNat - n)
      rw [show n + (m.toNat - n) = m.toNat by omega] at est
      rw [est, eM_meets_74, zI_le (by omega) (by omega) (by omega) (by omega), zif_neg (by omega), zI_n2, zI_le (by omega) (by omega) (by omega) (by omega), zif_pos (by omega), zwp_some]
      exact ⟨rfl, y, M, zEv_r y⟩
end MU
