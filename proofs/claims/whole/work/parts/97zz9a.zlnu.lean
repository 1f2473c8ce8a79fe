/-! THE TARIFF: unit of the reference; a line -/
section MV
variable {tp : Int → Int} {n : Int} {S : ZS}
theorem mUnit (hB : qB tp n) (d : Nat) {st : QL} {rb : Int → Int} (hI : qPI tp n st) (h : qMw tp n st rb S) (t7 : qtc tp n st.1 = 7) {Q : Int32 × ZS → Prop} (hW : qWh tp n st S Q) : zwp (zM_readsLine_28 (d + 4) (0 : Int32) S) Q := by
  obtain ⟨b, L, MF, bt, rec⟩ := st
  obtain ⟨⟨hM, hD, hNm⟩, h90, h54, hrb, hls⟩ := id h
  obtain ⟨hb, hL, h3, h4, hN, h6⟩ := id hI
  dsimp only at hb hL h3 h4 hN h6 hM hD hNm h90 h54 hrb hls t7
  have hm := hN.1
  have bn := hB.1
  have xb := znx_b tp n hb
  have z1 : zx (1 : Int32) = 1 := rfl
  have eL : (zI L = 16) = (L = 16) := zI_eq (a := L) (b := 16) (by omega) (by omega) (by omega) (by omega)
  have e16 : (16 : Int32) + zI L = zI (16 + L) := zI_add 16 L
  have l16 : 16 ≤ (16 + L).toNat := by omega
  rw [eM_readsLine_28, zg_t (by decide), z1, h90, eL, e16]
  by_cases lq : L = 16
  · rw [zif_pos lq]
    refine mF hM (d + 3) 5 (qWh_f hW (f := 5 + 16 * b) ?_ (by omega) _ (zu_same S.1 11 0 44 _) (qFw_h (l := 16) (by omega) (qHn_44 16 S _)))
    unfold qHd
    dsimp only
    rw [if_neg (by omega), if_pos lq]
  obtain ⟨S1, e1, hM1, f1⟩ := zM_next_s hB hD (d + 2) hb hM
  have e1 : zM_next (d + 4) S = some S1 := e1
  rw [zif_neg lq, zg_t (by decide), e1, zBs, zif_pos rfl]
  generalize hx1 : znx tp n b = b1 at hM1 xb
  have hb1 : 0 ≤ b1 ∧ b1 ≤ n := by omega
  have x2 := znx_b tp n hb1
  generalize hx2 : znx tp n b1 = b2 at x2
  have hb2 : 0 ≤ b2 ∧ b2 ≤ n := by omega
  have x3 := znx_b tp n hb2
  generalize hx3 : znx tp n b2 = b3 at x3
  have hb3 : 0 ≤ b3 ∧ b3 ≤ n := by omega
  have x4 := znx_b tp n hb3
  generalize hx4 : znx tp n b3 = b4 at x4
  have hb4 : 0 ≤ b4 ∧ b4 ≤ n := by omega
  have x5 := znx_b tp n hb4
  generalize hx5 : znx tp n b4 = b5 at x5
  have hd : qHd tp n bt (MF L) L b = if qtc tp n b1 ≠ 60 then (1 + 16 * b1, 0) else if 99 < znv tp n b1 then (4 + 16 * b1, 0) else if qtc tp n b2 ≠ 8 then (1 + 16 * b2, 0) else if qtc tp n b3 ≠ 60 then (1 + 16 * b3, 0) else if znv tp n b3 < 30 then (4 + 16 * b3, 0) else if qtc tp n b4 ≠ 9 then (1 + 16 * b4, 0) else (0, b5) := by
    unfold qHd
    rw [if_neg (by omega), if_neg lq, if_neg (by omega), hx1, hx2, hx3, hx4, hx5]
  have fault : ∀ (b' kk : Int) (S' : ZS), qM tp n S' b' → 0 ≤ b' → qHn (16 + L).toNat S S' → 1 ≤ kk → qHd tp n bt (MF L) L b = (kk + 16 * b', 0) → zwp ((zM_fails (d + 4) (zI kk) S').bind (fun r => zgb r.1 (some (r.1, r.2)))) Q := fun b' kk S' hM' hb' g hk hq => mF hM' (d + 3) kk (qWh_f hW (f := kk + 16 * b') hq (by omega) _ (zu_same S'.1 11 0 44 _) (qFw_h l16 (qHn_t g (qHn_44 _ S' _))))
  have ek : ∀ b', (zI (zkd tp n b') = 2) = (qtc tp n b' = 60) := fun b' => by
    have k := zkd_b tp n b'
    have e := zI_eq (a := zkd tp n b') (b := 2) (by omega) (by omega) (by omega) (by omega)
    exact Eq.trans e (propext qtc_2)
  have g1 : qHn (16 + L).toNat S S1 := qHn_11 f1
  have hD1 := qD_f hD f1
  rw [hM1.2.2.1, ek]
  by_cases a1 : qtc tp n b1 = 60
  · have k2 := qtc_2.2 a1
    have v1 := znv_b k2
    have e99 : (zI (znv tp n b1) ≤ 99) = (znv tp n b1 ≤ 99) := zI_le (a := znv tp n b1) (b := 99) (by omega) (by omega) (by omega) (by omega)
    rw [zif_pos a1, hM1.2.2.2.2 k2, e99]
    by_cases a99 : znv tp n b1 ≤ 99
    · have w1 := qHn_t g1 (qHn_u (16 + L).toNat S1 (t := 92) (Or.inl rfl) (zI (znv tp n b1)))
      have hD1' : qD tp n (zu S1.1 92 0 (16 + L).toNat (zI (znv tp n b1)), S1.2) := ⟨hD1.1, fun i a c => hD1.2 i a c⟩
      have hM1' : qM tp n (zu S1.1 92 0 (16 + L).toNat (zI (znv tp n b1)), S1.2) b1 := hM1
      obtain ⟨S2, e2, hM2, f2⟩ := zM_next_s hB hD1' (d + 2) hb1 hM1'
      have e2 : zM_next (d + 4) (zu S1.1 92 0 (16 + L).toNat (zI (znv tp n b1)), S1.2) = some S2 := e2
      rw [hx2] at hM2
      have g2 := qHn_t w1 (qHn_11 (l := (16 + L).toNat) f2)
      have hD2 := qD_f hD1' f2
      have c92 : S2.1 92 0 (16 + L).toNat = zI (znv tp n b1) := (congrFun (congrFun (f2.1 92 (by decide)) 0) _).trans (zu_same S1.1 92 0 _ _)
      have w8 : zM_isWord (d + 4) (99233 : Int64) S2 = some (zb (qtc tp n b2 = 8), S2) := cM_word hM2 (d + 3) (i := 8) (by omega) rfl
      rw [zif_pos a99, zg_t (by rw [zI_in (by omega) (by omega)]; omega), zI_zx (by omega) (by omega), e2, zBs, w8, zBs]
      dsimp only
      rw [zb_0]
      by_cases a2 : qtc tp n b2 = 8
      · obtain ⟨S3, e3, hM3, f3⟩ := zM_next_s hB hD2 (d + 2) hb2 hM2
        have e3 : zM_next (d + 4) S2 = some S3 := e3
        rw [hx3] at hM3
        have g3 := qHn_t g2 (qHn_11 (l := (16 + L).toNat) f3)
        have hD3 := qD_f hD2 f3
        have c92 : S3.1 92 0 (16 + L).toNat = zI (znv tp n b1) := (congrFun (congrFun (f3.1 92 (by decide)) 0) _).trans c92
        rw [zif_neg (fun e => e a2), e3, zBs, hM3.2.2.1, ek]
        by_cases a3 : qtc tp n b3 = 60
        · have k3 := qtc_2.2 a3
          have v3 := znv_b k3
          have wi : zM_within (d + 4) (zI (znv tp n b3)) (30 : Int32) (9999 : Int32) S3 = some (zb (30 ≤ znv tp n b3 ∧ znv tp n b3 ≤ 9999), S3) := zM_within_s S3 (d + 3) (lo := 30) (hi := 9999) (by omega) (by omega) (by omega) (by omega) (by omega) (by omega)
          rw [zif_pos a3, hM3.2.2.2.2 k3, wi, zBs]
          dsimp only
          rw [zb_0]
          by_cases a30 : 30 ≤ znv tp n b3 ∧ znv tp n b3 ≤ 9999
          · have w3 := qHn_t g3 (qHn_u (16 + L).toNat S3 (t := 93) (Or.inr rfl) (zI (znv tp n b3)))
            have hD3' : qD tp n (zu S3.1 93 0 (16 + L).toNat (zI (znv tp n b3)), S3.2) := ⟨hD3.1, fun i a c => hD3.2 i a c⟩
            have hM3' : qM tp n (zu S3.1 93 0 (16 + L).toNat (zI (znv tp n b3)), S3.2) b3 := hM3
            obtain ⟨S4, e4, hM4, f4⟩ := zM_next_s hB hD3' (d + 2) hb3 hM3'
            have e4 : zM_next (d + 4) (zu S3.1 93 0 (16 + L).toNat (zI (znv tp n b3)), S3.2) = some S4 := e4
            rw [hx4] at hM4
            have g4 := qHn_t w3 (qHn_11 (l := (16 + L).toNat) f4)
            have hD4 := qD_f hD3' f4
            have c93 : S4.1 93 0 (16 + L).toNat = zI (znv tp n b3) := (congrFun (congrFun (f4.1 93 (by decide)) 0) _).trans (zu_same S3.1 93 0 _ _)
            have c92 : S4.1 92 0 (16 + L).toNat = zI (znv tp n b1) := (congrFun (congrFun (f4.1 92 (by decide)) 0) _).trans c92
            have w9 : zM_isWord (d + 4) (458690 : Int64) S4 = some (zb (qtc tp n b4 = 9), S4) := cM_word hM4 (d + 3) (i := 9) (by omega) rfl
            rw [zif_neg (fun e => e a30), hM3.2.2.2.2 k3, zg_t (by rw [zI_in (by omega) (by omega)]; omega), e4, zBs, w9, zBs]
            dsimp only
            rw [zb_0]
            by_cases a4 : qtc tp n b4 = 9
            · obtain ⟨S5, e5, hM5, f5⟩ := zM_next_s hB hD4 (d + 2) hb4 hM4
              have e5 : zM_next (d + 4) S4 = some S5 := e5
              rw [hx5] at hM5
              have g5 := qHn_t g4 (qHn_11 (l := (16 + L).toNat) f5)
              have hD5 := qD_f hD4 f5
              have c93 : S5.1 93 0 (16 + L).toNat = zI (znv tp n b3) := (congrFun (congrFun (f5.1 93 (by decide)) 0) _).trans c93
              have c92 : S5.1 92 0 (16 + L).toNat = zI (znv tp n b1) := (congrFun (congrFun (f5.1 92 (by decide)) 0) _).trans c92
              have hq : qHd tp n bt (MF L) L b = (0, b5) := by
                rw [hd, if_neg (by omega), if_neg (by omega), if_neg (by omega), if_neg (by omega), if_neg (by omega), if_neg (by omega)]
              obtain ⟨s', rd, out⟩ := qWh_o hW hq
              dsimp only at rd out
              have hb5 : 0 ≤ b5 ∧ b5 ≤ n := by omega
              have sb5 := qRd_b rd hb5
              have cc : (((1000 + rb (L - 1)).toNat : Nat) : Int) = 1000 + rb (L - 1) := by omega
              have N5 : qNm tp n bt (MF L) S5 := ⟨(congrFun (congrFun (g5.1 96 (by decide) (by decide) (by decide)) 0) 1).trans hNm.1, fun i a c => (congrFun (congrFun (g5.2.2.1 97 (by decide)) 0) _).trans (hNm.2 i a c)⟩
              have h54' : S5.1 11 0 54 = zI (((1000 + rb (L - 1)).toNat : Nat) : Int) := by
                rw [cc]
                exact (g5.2.1 54 (by decide) (by decide) (by decide) (by decide) (by decide)).trans h54
              obtain ⟨hs1, hs2, x, ex, fx, px⟩ := zM_reads_s (l := 16 + L) hB hN d (by omega) hb5 hM5 hD5 N5 h54' (by omega) rd
              rw [cc] at hs2 px
              have FX : qFw S x.2 := qFw_t (qFw_h l16 g5) (qFw_fr l16 (by omega) fx)
              rw [zif_neg (fun e => e a4), e5, zBs, ex, zBs]
              rcases px with ⟨p1, p2, p3⟩ | ⟨p1, p2, p3, p4, p5, p6, p7⟩
              · rw [zif_pos p2, zwp_some]
                rcases out with ⟨-, o⟩ | ⟨o, -⟩
                · exact o x.2 p3 FX
                · exact absurd o p1
              · rcases out with ⟨o, -⟩ | ⟨-, o⟩
                · exact absurd p1 o
                · have c90 : x.2.1 90 0 1 = zI L := (congrFun (congrFun (fx.1 90 (by decide) (by decide) (by decide) (by decide) (by decide) (by decide)) 0) 1).trans ((congrFun (congrFun (g5.1 90 (by decide) (by decide) (by decide)) 0) 1).trans h90)
                  have eL1 : zI L + (1 : Int32) = zI (L + 1) := zI_add L 1
                  have c90' : (zu x.2.1 91 0 (16 + L).toNat (-1 : Int32)) 90 0 1 = zI L := c90
                  rw [zif_neg (by rw [p2]; decide), zg_t (by rw [zI_in (by omega) (by omega)]; omega), zg_t (by decide), zg_t (by decide), c90', eL1, zwp_some]
                  have lt : ((16 + L).toNat : Int) = 16 + L := by omega
                  refine o _ ?_ ⟨_, mOk hI h (by show b ≤ s'.1 ∧ s'.1 ≤ n; omega) hs2 lt p3 ?_ ?_ ?_ p6 ?_ (fun t a c i hi => ?_) (fun _ => ?_) p5 p4 (fun i hi => ?_) p7⟩
                  · refine ⟨fun t a c => ?_, fun s a c e f g i => FX.2.1 s a c e f g i, FX.2.2.1, FX.2.2.2.1, fun t a c i e => ?_, fun i a => FX.2.2.2.2.2.1 i a, FX.2.2.2.2.2.2.1, FX.2.2.2.2.2.2.2⟩
                    · refine Eq.trans ?_ (FX.1 t a c)
                      funext i k'
                      exact (zu_tag _ (by omega)).trans (zu_tag x.2.1 (by omega))
                    · refine Eq.trans ?_ (FX.2.2.2.2.1 t a c i e)
                      exact (zu_tag _ (by omega)).trans (zu_pl x.2.1 (by omega))
                  · exact ⟨(fx.2.1 38 (by decide) (by decide) (by decide) (by decide) (by decide) (by decide)).trans hD5.1, fun i a c => (congrFun (congrFun (fx.1 89 (by decide) (by decide) (by decide) (by decide) (by decide) (by decide)) 0) _).trans (hD5.2 i a c)⟩
                  · have t6 : ¬ qtc tp n b = 6 := by omega
                    have eb : (qLA tp n (b, L, MF, bt, rec) s').2.2.2.1 = bt := if_neg t6
                    have em : (qLA tp n (b, L, MF, bt, rec) s').2.2.1 (qLA tp n (b, L, MF, bt, rec) s').2.1 = MF L := by
                      have : (qLA tp n (b, L, MF, bt, rec) s').2.2.1 = qw MF (L + 1) (MF L) := if_neg t6
                      rw [this]
                      exact qw_s _ _ _
                    rw [eb, em]
                    exact ⟨(congrFun (congrFun (fx.1 96 (by decide) (by decide) (by decide) (by decide) (by decide) (by decide)) 0) 1).trans N5.1, fun i i0 i1 => (congrFun (congrFun (fx.2.2.1 97 (by decide)) 0) _).trans (N5.2 i i0 i1)⟩
                  · exact zu_same (zu x.2.1 91 0 (16 + L).toNat (-1 : Int32)) 90 0 1 _
                  · dsimp only
                    rw [if_neg (by omega)]
                    exact zu_same x.2.1 91 0 _ _
                  · refine (show (zu (zu x.2.1 91 0 (16 + L).toNat (-1 : Int32)) 90 0 1 (zI (L + 1))) t 0 i = x.2.1 t 0 i from (zu_tag _ (by omega)).trans (zu_pl x.2.1 hi)).trans ?_
                    by_cases q : t = 94 ∨ t = 95
                    · exact (fx.2.2.2.2.2 t q i hi).trans (congrFun (congrFun (g5.1 t (by omega) (by omega) (by omega)) 0) i)
                    · refine (congrFun (congrFun (fx.1 t (by omega) (by omega) (by omega) (by omega) (by omega) (by omega)) 0) i).trans ?_
                      by_cases q2 : t = 92 ∨ t = 93
                      · exact g5.2.2.2.2 t q2 i hi
                      · exact congrFun (congrFun (g5.1 t (by omega) (by omega) (by omega)) 0) i
                  · dsimp only
                    rw [hx1, hx2, hx3]
                    exact ⟨(congrFun (congrFun (fx.1 92 (by decide) (by decide) (by decide) (by decide) (by decide) (by decide)) 0) _).trans c92, (congrFun (congrFun (fx.1 93 (by decide) (by decide) (by decide) (by decide) (by decide) (by decide)) 0) _).trans c93⟩
                  · exact (fx.2.2.2.2.1 i hi).trans (congrFun (congrFun (g5.1 98 (by decide) (by decide) (by decide)) 0) i)
            · rw [zif_pos a4]
              exact fault b4 1 S4 hM4 hb4.1 g4 (by omega) (by rw [hd, if_neg (by omega), if_neg (by omega), if_neg (by omega), if_neg (by omega), if_neg (by omega), if_pos a4])
          · rw [zif_pos a30]
            exact fault b3 4 S3 hM3 hb3.1 g3 (by omega) (by rw [hd, if_neg (by omega), if_neg (by omega), if_neg (by omega), if_neg (by omega), if_pos (by omega)])
        · rw [zif_neg a3]
          exact fault b3 1 S3 hM3 hb3.1 g3 (by omega) (by rw [hd, if_neg (by omega), if_neg (by omega), if_neg (by omega), if_pos a3])
      · rw [zif_pos a2]
        exact fault b2 1 S2 hM2 hb2.1 g2 (by omega) (by rw [hd, if_neg (by omega), if_neg (by omega), if_pos a2])
    · rw [zif_neg a99]
      exact fault b1 4 S1 hM1 hb1.1 g1 (by omega) (by rw [hd, if_neg (by omega), if_pos (by omega)])
  · rw [zif_neg a1]
    exact fault b1 1 S1 hM1 hb1.1 g1 (by omega) (by rw [hd, if_pos a1])
theorem mLine (hB : qB tp n) (d : Nat) {st : QL} {rb : Int → Int} (hI : qPI tp n st) (h : qMw tp n st rb S) {Q : Int32 × ZS → Prop} (hW : qWh tp n st S Q) : zwp (zM_readsLine (d + 5) S) Q := by
  have hM := h.1.1
  have w6 : zM_isWord (d + 4) (8903 : Int64) S = some (zb (qtc tp n st.1 = 6), S) := cM_word hM (d + 3) (i := 6) (by omega) rfl
  have w7 : zM_isWord (d + 4) (423812 : Int64) S = some (zb (qtc tp n st.1 = 7), S) := cM_word hM (d + 3) (i := 7) (by omega) rfl
  rw [eM_readsLine, w6, zBs]
  dsimp only
  rw [zb_0]
  by_cases t6 : qtc tp n st.1 = 6
  · rw [zif_neg (fun e => e t6), zb_t t6]
    exact mLet hB d hI h t6 hW
  · rw [zif_pos t6, w7, zBs]
    dsimp only
    rw [zb_0]
    by_cases t7 : qtc tp n st.1 = 7
    · rw [zif_neg (fun e => e t7), zb_f t6]
      exact mUnit hB d hI h t7 hW
    · rw [zif_pos t7]
      refine mF hM (d + 3) 1 (qWh_f hW (f := 1 + 16 * st.1) ?_ (by have := hI.1; omega) _ (zu_same S.1 11 0 44 _) (qFw_h (l := 16) (by omega) (qHn_44 16 S _)))
      unfold qHd
      rw [if_pos ⟨t6, t7⟩]
end MV
