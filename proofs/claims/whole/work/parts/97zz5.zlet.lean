/-! THE TARIFF: let and unit of the class -/
/-- ahead of the expression of line L -/
def qH (u : Nat) (L : Nat) (S S' : ZS) : Prop := qFu u S S' ∧ (∀ t, t = 7 ∨ t = 44 ∨ t = 45 → ∀ k, S'.1 t u k = S.1 t u k) ∧ (∀ t, t = 42 ∨ t = 43 → ∀ i, i ≠ L → S'.1 t u i = S.1 t u i) ∧ S'.2.1 = S.2.1
theorem qH_t {u L : Nat} {S S' S'' : ZS} (h : qH u L S S') (k : qH u L S' S'') : qH u L S S'' := ⟨qFu_t h.1 k.1, fun t a s => (k.2.1 t a s).trans (h.2.1 t a s), fun t a i b => (k.2.2.1 t a i b).trans (h.2.2.1 t a i b), k.2.2.2.trans h.2.2.2⟩
theorem qH_6 {u L : Nat} {S S' : ZS} (h : qF6 S S') : qH u L S S' := ⟨qFu_6 h, fun t a k => congrFun (congrFun (h.1 t (by omega)) u) k, fun t a i _ => congrFun (congrFun (h.1 t (by omega)) u) i, h.2.2.1⟩
theorem qH_w (u L : Nat) (S : ZS) {t : Nat} (ht : t = 42 ∨ t = 43) (v : Int32) : qH u L S (zu S.1 t u L v, S.2) := ⟨qFu_u (qFu_r u S) (by omega) L v, fun t' a k => zu_tag S.1 (by omega), fun t' a i hi => zu_pl S.1 hi, rfl⟩
section LT
variable {tp : Int → Int} {n : Int} {bt : Int → Int} {m : Int} {u : Nat} {b c : Int} {S : ZS}
theorem qNc_h {L : Nat} {S S' : ZS} (h : qNc tp n bt m u S) (f : qH u L S S') : qNc tp n bt m u S' := ⟨(f.2.1 7 (by omega) 8).trans h.1, fun i a b => by
  rw [f.2.2.2]
  exact h.2 i a b⟩
theorem qLF_h {st : QL} {f : Int} (h : qHd tp n st.2.2.2.1 (st.2.2.1 st.2.1) st.2.1 st.1 = (f, 0)) (hf : f ≠ 0) : qLF tp n st f := Or.inl ⟨by rw [h]; exact hf, by rw [h]⟩
theorem cFl (hA : qA tp n S b) (d : Nat) (k : Int) : zwp ((zF_fail (d + 1) u (zI k) S).bind (fun r => zgb r.1 (some (r.1, r.2)))) (fun x => x.1 = 0 ∧ qFu u S x.2 ∧ x.2.1 7 u 1 = zI (k + 16 * b)) := by
  rw [zF_fail_s hA, zwp_some]
  exact ⟨rfl, qFu_ft (qFt_fail u S _), zu_same S.1 7 u 1 _⟩
/-- it fails ahead of the expression -/
theorem qLx_f {st : QL} {cs : Int} {S S1 : ZS} (f : qFu u S S1) (hA : qA tp n S1 b) (d : Nat) {k : Int} (h : qHd tp n st.2.2.2.1 (st.2.2.1 st.2.1) st.2.1 st.1 = (k + 16 * b, 0)) (hk : 1 ≤ k) (hb : 0 ≤ b) : zwp ((zF_fail (d + 1) u (zI k) S1).bind (fun r => zgb r.1 (some (r.1, r.2)))) (qLx tp n u st cs S) :=
  zwp_mono (cFl hA d k) (fun x q => ⟨qFu_t f q.2.1, Or.inl ⟨q.1, k + 16 * b, q.2.2, qLF_h h (by omega)⟩⟩)
theorem qLx_01 {st : QL} {cs : Int} {x : Int32 × ZS} (h : qLx tp n u st cs S x) : x.1 = 0 ∨ x.1 = 1 := by
  rcases h.2 with h | h
  · exact Or.inl h.1
  · exact Or.inr h.1
/-- the class is at a line -/
def qAt (tp : Int → Int) (n : Int) (u : Nat) (st : QL) (cs : Int) (S : ZS) : Prop := qC tp n S ∧ qA tp n S st.1 ∧ qNc tp n st.2.2.2.1 (st.2.2.1 st.2.1) u S ∧ S.1 7 u 2 = zI st.2.1 ∧ S.1 7 u 7 = zI cs ∧ (0 ≤ cs ∧ cs ≤ st.1)
theorem cLet (hB : qB tp n) (d : Nat) {st : QL} {cs : Int} (hI : qPI tp n st) (h : qAt tp n u st cs S) (t6 : qtc tp n st.1 = 6) (l16 : st.2.1 ≠ 16) {S1 : ZS} (f1 : qF6 S S1) (hA1 : qA tp n S1 (znx tp n st.1)) : zwp (zF_readLet (d + 52) u S1) (qLx tp n u st cs S) := by
  obtain ⟨b, L, MF, bt, rec⟩ := st
  obtain ⟨hb, hL, h3, h4, hN, h6⟩ := hI
  obtain ⟨hC, hA, hNc, h2, h7, hc⟩ := h
  dsimp only at hb hL h3 h4 hN h6 hC hA hNc h2 h7 hc t6 l16 hA1
  have hm := hN.1
  have bn := hB.1
  have xb := znx_b tp n hb
  have hb1 : 0 ≤ znx tp n b ∧ znx tp n b ≤ n := by omega
  have x2 := znx_b tp n hb1
  have hb2 : 0 ≤ znx tp n (znx tp n b) ∧ znx tp n (znx tp n b) ≤ n := by omega
  have x3 := znx_b tp n hb2
  have g1 : qH u L.toNat S S1 := qH_6 f1
  have hC1 := qC_u hC g1.1
  have hN1 := qNc_h hNc g1
  have m1 : (-1 : Int32) = zI (-1) := rfl
  have sb := qsl_b (tp := tp) (n := n) (bt := bt) (b := znx tp n b) hm
  rw [eF_readLet, cT_name hA1 (d + 50), zBs]
  dsimp only
  rw [zb_0]
  by_cases a : qtc tp n (znx tp n b) = 50
  · have k1 : zkd tp n (znx tp n b) = 1 := (qtc_n.2 a).1
    rw [zif_neg (fun e => e a), zT_letters_s hB hC1 hb1 hA1 (d + 50) k1, zBs]
    dsimp only
    rw [zF_slotOf_s hN hN1 k1 (d + 50), zBs]
    dsimp only
    rw [m1, zI_eq (by omega) (by omega) (by omega) (by omega), hN1.1]
    by_cases sl : qsl tp n bt (MF L) (znx tp n b) = -1
    · have e6 : (zI (MF L) = 6) = (MF L = 6) := zI_eq (a := MF L) (b := 6) (by omega) (by omega) (by omega) (by omega)
      rw [zif_pos sl, e6]
      by_cases m6 : MF L = 6
      · rw [zif_pos m6]
        refine qLx_f g1.1 hA1 (d + 50) (k := 5) ?_ (by omega) (by omega)
        unfold qHd
        dsimp only
        rw [if_neg (by omega), if_neg l16, if_pos t6, if_neg (by omega), if_neg (by omega), if_pos m6]
      · obtain ⟨S2, e2, hA2, f2⟩ := zT_next_s hB hC1 (d + 44) hb1 hA1
        have e2 : zT_next (d + 51) S1 = some S2 := e2
        have g2 : qH u L.toNat S S2 := qH_t g1 (qH_6 f2)
        have g2' := qH_t g2 (qH_w u L.toNat S2 (t := 42) (Or.inl rfl) (zI (-1)))
        have c2 : S2.1 7 u 2 = zI L := (g2.2.1 7 (by omega) 2).trans h2
        have hC2 := qC_u hC g2'.1
        have hA2' : qA tp n (zu S2.1 42 u L.toNat (zI (-1)), S2.2) (znx tp n (znx tp n b)) := hA2
        have ps : zF_passSign (d + 51) u (61 : Int32) (zu S2.1 42 u L.toNat (zI (-1)), S2.2) = zif (qtc tp n (znx tp n (znx tp n b)) = 100 + 61) ((zT_next (d + 50) (zu S2.1 42 u L.toNat (zI (-1)), S2.2)).bind (fun r3 => some ((1 : Int32), r3))) ((zF_fail (d + 50) u (zI 1) (zu S2.1 42 u L.toNat (zI (-1)), S2.2)).bind (fun r => zgb r.1 (some (r.1, r.2)))) := cF_passSign (u := u) hB hC2 hb2 hA2' (d + 43) (k := 61) (by omega)
        rw [zif_neg m6, e2, zBs, c2, zg_t (by rw [zI_in (by omega) (by omega)]; omega), zI_zx (by omega) (by omega), ps]
        by_cases t : qtc tp n (znx tp n (znx tp n b)) = 100 + 61
        · obtain ⟨S3, e3, hA3, f3⟩ := zT_next_s hB hC2 (d + 43) hb2 hA2'
          have e3 : zT_next (d + 50) (zu S2.1 42 u L.toNat (zI (-1)), S2.2) = some S3 := e3
          have g3 : qH u L.toNat S S3 := qH_t g2' (qH_6 f3)
          have c42 : S3.1 42 u L.toNat = zI (-1) := (congrFun (congrFun (f3.1 42 (by decide)) u) L.toNat).trans (zu_same S2.1 42 u L.toNat _)
          have hq : qHd tp n bt (MF L) L b = (0, znx tp n (znx tp n (znx tp n b))) := by
            unfold qHd
            rw [if_neg (by omega), if_neg l16, if_pos t6, if_neg (by omega), if_neg (by omega), if_neg m6, if_neg (by omega)]
          rw [zif_pos t, e3, zBs, zBs]
          dsimp only
          rw [zif_neg (by decide)]
          refine cEx hB hN d (qC_u hC g3.1) hA3 (qNc_h hNc g3) (by omega) ((g3.2.1 7 (by omega) 7).trans h7) (by omega) (fun S => zg (zin (S.1 7 u 8) 6) (some ((1 : Int32), ((zu S.1 7 u 8 ((S.1 7 u 8) + (1 : Int32))), (zu S.2.1 46 u (zx (S.1 7 u 8)) (zJ (zwc tp n (znx tp n b)))), S.2.2)))) _ (fun x s' r1 r2 r3 r4 => ?_) (fun x s' C v r1 r2 r3 r4 r5 r6 r7 r8 r9 r10 r11 r12 r13 => ?_)
          · refine ⟨qFu_t g3.1 (qFu_ft r3), Or.inl ⟨rfl, _, r4, Or.inr ⟨by dsimp only; rw [hq], s', ?_, r2, rfl⟩⟩⟩
            dsimp only
            rw [hq]
            exact r1
          · have c8 : x.1 7 u 8 = zI (MF L) := (r3.1 7 u 8 (by decide) (fun e => by omega)).trans ((g3.2.1 7 (by omega) 8).trans hNc.1)
            have gx := qFu_t g3.1 (qFu_ft r3)
            rw [c8, zg_t (by rw [zI_in (by omega) (by omega)]; omega), zI_zx (by omega) (by omega), zI_n1, zI_add, zwp_some]
            have gy := qFu_u gx (t := 7) (Or.inl rfl) 8 (zI (MF L + 1))
            refine ⟨⟨gy.1, gy.2.1, fun t i k a => (show zu x.2.1 46 u (MF L).toNat (zJ (zwc tp n (znx tp n b))) t i k = x.2.1 t i k from if_neg (fun e => a ⟨e.1, e.2.1⟩)).trans (gx.2.2.1 t i k a), gx.2.2.2.1, gx.2.2.2.2⟩, Or.inr ⟨rfl, s', C, v, ⟨by dsimp only; rw [hq], by dsimp only; rw [hq]; exact r1, r2⟩, ⟨r6, ?_, ?_, (show zu x.1 7 u 8 (zI (MF L + 1)) 7 u 7 = x.1 7 u 7 from zu_pl x.1 (by decide)).trans r7, r8, r9, ?_⟩, ⟨r10, r11, r12, r13⟩, Or.inl ⟨t6, zu_same x.1 7 u 8 _, zu_same x.2.1 46 u _ _, fun i hi => ?_, ?_⟩, fun t ht i hi => ?_, fun i => ?_⟩⟩
            · exact (show zu x.1 7 u 8 (zI (MF L + 1)) 7 u 1 = x.1 7 u 1 from zu_pl x.1 (by decide)).trans (r5.trans (g3.2.1 7 (by omega) 1))
            · exact (show zu x.1 7 u 8 (zI (MF L + 1)) 7 u 2 = x.1 7 u 2 from zu_pl x.1 (by decide)).trans <| (r3.1 7 u 2 (by decide) (fun e => by omega)).trans (g3.2.1 7 (by omega) 2)
            · exact fun i hi => (r4 i hi).trans (g3.2.1 45 (by omega) i)
            · refine (show zu x.2.1 46 u (MF L).toNat (zJ (zwc tp n (znx tp n b))) 46 u i = x.2.1 46 u i from zu_pl x.2.1 hi).trans ?_
              rw [r3.2.2.1, g3.2.2.2]
            · exact (r3.1 42 u _ (by decide) (fun e => by omega)).trans c42
            · exact (show zu x.1 7 u 8 (zI (MF L + 1)) t u i = x.1 t u i from zu_tag x.1 (by omega)).trans ((r3.1 t u i (by omega) (fun e => by omega)).trans (g3.2.2.1 t ht i hi))
            · exact (r3.1 44 u i (by decide) (fun e => by omega)).trans (g3.2.1 44 (by omega) i)
        · obtain ⟨y, ey, yq⟩ := qLx_f (st := (b, L, MF, bt, rec)) (cs := cs) g2'.1 hA2' (d + 49) (k := 1) (by
            unfold qHd
            dsimp only
            rw [if_neg (by omega), if_neg l16, if_pos t6, if_neg (by omega), if_neg (by omega), if_neg m6, if_pos (by omega)]) (by omega) (by omega)
          have ey : (zF_fail (d + 50) u (zI 1) (zu S2.1 42 u L.toNat (zI (-1)), S2.2)).bind (fun r => zgb r.1 (some (r.1, r.2))) = some y := ey
          rw [zif_neg t, ey, zBs]
          rcases yq.2 with ⟨y0, yf⟩ | ⟨y1, s', C, v, ⟨z1, -⟩, -⟩
          · rw [zif_pos y0, zwp_some]
            exact ⟨yq.1, Or.inl ⟨rfl, yf⟩⟩
          · exfalso
            have hq : qHd tp n bt (MF L) L b = (1 + 16 * znx tp n (znx tp n b), 0) := by
              unfold qHd
              rw [if_neg (by omega), if_neg l16, if_pos t6, if_neg (by omega), if_neg (by omega), if_neg m6, if_pos (by omega)]
            dsimp only at z1
            rw [hq] at z1
            have z1 : 1 + 16 * znx tp n (znx tp n b) = 0 := z1
            omega
    · rw [zif_neg sl]
      refine qLx_f g1.1 hA1 (d + 50) (k := 3) ?_ (by omega) (by omega)
      unfold qHd
      dsimp only
      rw [if_neg (by omega), if_neg l16, if_pos t6, if_neg (by omega), if_pos (by omega)]
  · rw [zif_pos a]
    refine qLx_f g1.1 hA1 (d + 50) (k := 1) ?_ (by omega) (by omega)
    unfold qHd
    dsimp only
    rw [if_neg (by omega), if_neg l16, if_pos t6, if_pos a]
end LT
