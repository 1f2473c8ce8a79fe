/-! THE TARIFF: let and unit of the reference -/
section MU
variable {tp : Int → Int} {n : Int} {S : ZS}
theorem qM_44 {b : Int} (h : qM tp n S b) (v : Int32) : qM tp n (zu S.1 11 0 44 v, S.2) b := h
theorem mLet (hB : qB tp n) (d : Nat) {st : QL} {rb : Int → Int} (hI : qPI tp n st) (h : qMw tp n st rb S) (t6 : qtc tp n st.1 = 6) {Q : Int32 × ZS → Prop} (hW : qWh tp n st S Q) : zwp (zM_readsLine_28 (d + 4) (1 : Int32) S) Q := by
  obtain ⟨b, L, MF, bt, rec⟩ := st
  obtain ⟨⟨hM, hD, hNm⟩, h90, h54, hrb, hls⟩ := id h
  obtain ⟨hb, hL, h3, h4, hN, h6⟩ := id hI
  dsimp only at hb hL h3 h4 hN h6 hM hD hNm h90 h54 hrb hls t6
  have hm := hN.1
  have bn := hB.1
  have xb := znx_b tp n hb
  have z1 : zx (1 : Int32) = 1 := rfl
  have eL : (zI L = 16) = (L = 16) := zI_eq (a := L) (b := 16) (by omega) (by omega) (by omega) (by omega)
  have e16 : (16 : Int32) + zI L = zI (16 + L) := zI_add 16 L
  have l16 : 16 ≤ (16 + L).toNat := by omega
  rw [eM_readsLine_28, zg_t (by decide), z1, h90, eL, e16]
  by_cases lq : L = 16
  · rw [zif_pos lq]
    refine mF hM (d + 3) 5 (qWh_f hW (f := 5 + 16 * b) ?_ (by omega) _ (zu_same S.1 11 0 44 _) (qFw_h (l := 16) (by omega) (qHn_44 16 S _)))
    unfold qHd
    dsimp only
    rw [if_neg (by omega), if_pos lq]
  obtain ⟨S1, e1, hM1, f1⟩ := zM_next_s hB hD (d + 2) hb hM
  have e1 : zM_next (d + 4) S = some S1 := e1
  rw [zif_neg lq, zg_t (by decide), e1, zBs, zif_neg (by decide)]
  generalize hx1 : znx tp n b = b1 at hM1 xb
  have hb1 : 0 ≤ b1 ∧ b1 ≤ n := by omega
  have x2 := znx_b tp n hb1
  generalize hx2 : znx tp n b1 = b2 at x2
  have hb2 : 0 ≤ b2 ∧ b2 ≤ n := by omega
  have x3 := znx_b tp n hb2
  generalize hx3 : znx tp n b2 = b3 at x3
  have hd : qHd tp n bt (MF L) L b = if qtc tp n b1 ≠ 50 then (1 + 16 * b1, 0) else if 0 ≤ qsl tp n bt (MF L) b1 then (3 + 16 * b1, 0) else if MF L = 6 then (5 + 16 * b1, 0) else if qtc tp n b2 ≠ 161 then (1 + 16 * b2, 0) else (0, b3) := by
    unfold qHd
    rw [if_neg (by omega), if_neg lq, if_pos t6, hx1, hx2, hx3]
  have g1 : qHn (16 + L).toNat S S1 := qHn_11 f1
  have hD1 := qD_f hD f1
  have hN1 : qNm tp n bt (MF L) S1 := ⟨(congrFun (congrFun (g1.1 96 (by decide) (by decide) (by decide)) 0) 1).trans hNm.1, fun i a c => (congrFun (congrFun (g1.2.2.1 97 (by decide)) 0) _).trans (hNm.2 i a c)⟩
  have k := zkd_b tp n b1
  have ek : (zI (zkd tp n b1) = 1) = (zkd tp n b1 = 1) := zI_eq (a := zkd tp n b1) (b := 1) (by omega) (by omega) (by omega) (by omega)
  have sb := qsl_b (tp := tp) (n := n) (bt := bt) (b := b1) hm
  -- a fault at b1
  have F1 : ∀ kk : Int, 1 ≤ kk → qHd tp n bt (MF L) L b = (kk + 16 * b1, 0) → zwp ((zM_fails (d + 4) (zI kk) S1).bind (fun r => zgb r.1 (some (r.1, r.2)))) Q := fun kk hk hq => mF hM1 (d + 3) kk (qWh_f hW (f := kk + 16 * b1) hq (by omega) _ (zu_same S1.1 11 0 44 _) (qFw_h l16 (qHn_t g1 (qHn_44 _ S1 _))))
  rw [hM1.2.2.1, ek]
  by_cases k1 : zkd tp n b1 = 1
  · rw [zif_pos k1, cM_own hM1 k1 (d + 2), zBs]
    dsimp only
    rw [zb_0]
    have qf := qtc_f (tp := tp) (n := n) (b := b1)
    by_cases own : qtc tp n b1 ≤ 12
    · rw [zif_neg (fun e => e own)]
      exact F1 1 (by omega) (by rw [hd, if_pos (by omega)])
    · have t50 : qtc tp n b1 = 50 := by omega
      have e0 : (zI (qsl tp n bt (MF L) b1) < 0) = (qsl tp n bt (MF L) b1 < 0) := zI_lt (a := qsl tp n bt (MF L) b1) (b := 0) (by omega) (by omega) (by omega) (by omega)
      rw [zif_pos own, zM_nameAt_s hN hN1 hM1 k1 (d + 3), zBs]
      dsimp only
      rw [e0]
      by_cases sl : qsl tp n bt (MF L) b1 < 0
      · have e6 : (zI (MF L) = 6) = (MF L = 6) := zI_eq (a := MF L) (b := 6) (by omega) (by omega) (by omega) (by omega)
        rw [zif_pos sl, zg_t (by decide), hN1.1, e6]
        by_cases m6 : MF L = 6
        · rw [zif_pos m6]
          exact F1 5 (by omega) (by rw [hd, if_neg (by omega), if_neg (by omega), if_pos m6])
        · obtain ⟨S2, e2, hM2, f2⟩ := zM_next_s hB hD1 (d + 2) hb1 hM1
          have e2 : zM_next (d + 4) S1 = some S2 := e2
          rw [hx2] at hM2
          have g2 := qHn_t g1 (qHn_11 (l := (16 + L).toNat) f2)
          have hD2 := qD_f hD1 f2
          have sg : zM_isSign (d + 4) (61 : Int32) S2 = some (zb (qtc tp n b2 = 161), S2) := cM_sign hB hD2 hb2 hM2 (d + 3) (c := 61) (by omega)
          rw [zif_neg m6, e2, zBs, sg, zBs]
          dsimp only
          rw [zb_0]
          by_cases t61 : qtc tp n b2 = 161
          · obtain ⟨S3, e3, hM3, f3⟩ := zM_next_s hB hD2 (d + 2) hb2 hM2
            have e3 : zM_next (d + 4) S2 = some S3 := e3
            rw [hx3] at hM3
            have g3 := qHn_t g2 (qHn_11 (l := (16 + L).toNat) f3)
            have hD3 := qD_f hD2 f3
            have hq : qHd tp n bt (MF L) L b = (0, b3) := by
              rw [hd, if_neg (by omega), if_neg (by omega), if_neg m6, if_neg (by omega)]
            obtain ⟨s', rd, out⟩ := qWh_o hW hq
            dsimp only at rd out
            have hb3 : 0 ≤ b3 ∧ b3 ≤ n := by omega
            have sb3 := qRd_b rd hb3
            have cc : (((1000 + rb (L - 1)).toNat : Nat) : Int) = 1000 + rb (L - 1) := by omega
            have N3 : qNm tp n bt (MF L) S3 := ⟨(congrFun (congrFun (g3.1 96 (by decide) (by decide) (by decide)) 0) 1).trans hNm.1, fun i a c => (congrFun (congrFun (g3.2.2.1 97 (by decide)) 0) _).trans (hNm.2 i a c)⟩
            have h54' : S3.1 11 0 54 = zI (((1000 + rb (L - 1)).toNat : Nat) : Int) := by
              rw [cc]
              exact (g3.2.1 54 (by decide) (by decide) (by decide) (by decide) (by decide)).trans h54
            obtain ⟨hs1, hs2, x, ex, fx, px⟩ := zM_reads_s (l := 16 + L) hB hN d (by omega) hb3 hM3 hD3 N3 h54' (by omega) rd
            rw [cc] at hs2 px
            have FX : qFw S x.2 := qFw_t (qFw_h l16 g3) (qFw_fr l16 (by omega) fx)
            rw [zif_neg (fun e => e t61), e3, zBs, ex, zBs]
            rcases px with ⟨p1, p2, p3⟩ | ⟨p1, p2, p3, p4, p5, p6, p7⟩
            · rw [zif_pos p2, zwp_some]
              rcases out with ⟨-, o⟩ | ⟨o, -⟩
              · exact o x.2 p3 FX
              · exact absurd o p1
            · rcases out with ⟨o, -⟩ | ⟨-, o⟩
              · exact absurd p1 o
              · have c96 : x.2.1 96 0 1 = zI (MF L) := (congrFun (congrFun (fx.1 96 (by decide) (by decide) (by decide) (by decide) (by decide) (by decide)) 0) 1).trans N3.1
                have c90 : x.2.1 90 0 1 = zI L := (congrFun (congrFun (fx.1 90 (by decide) (by decide) (by decide) (by decide) (by decide) (by decide)) 0) 1).trans ((congrFun (congrFun (g3.1 90 (by decide) (by decide) (by decide)) 0) 1).trans h90)
                have c96' : (zu x.2.1 91 0 (16 + L).toNat (zI (MF L))) 96 0 1 = zI (MF L) := c96
                have c90' : (zu (zu x.2.1 91 0 (16 + L).toNat (zI (MF L))) 96 0 1 (zI (MF L + 1))) 90 0 1 = zI L := c90
                have wd : S1.2.1 11 0 42 = zJ (zwl tp n b1) := hM1.2.2.2.1 k1
                rw [zif_neg (by rw [p2]; decide), zg_t (by decide), c96, zg_t (by rw [zI_in (by omega) (by omega)]; omega), zg_t (by decide), zg_t (by rw [zI_in (by omega) (by omega)]; omega), zg_t (by decide), zg_t (by decide), zg_t (by decide), zg_t (by decide), zI_zx (by omega) (by omega), zI_zx (by omega) (by omega), c96', zI_n1, zI_add, c90', zI_add, wd, zwp_some]
                have lt : ((16 + L).toNat : Int) = 16 + L := by omega
                refine o _ ?_ ⟨_, mOk hI h (by show b ≤ s'.1 ∧ s'.1 ≤ n; omega) hs2 lt p3 ?_ ?_ ?_ p6 ?_ (fun t a c i hi => ?_) (fun e => absurd t6 e) p5 p4 (fun i hi => ?_) p7⟩
                · refine ⟨fun t a c => ?_, fun s a c e f g i => FX.2.1 s a c e f g i, fun t a c => ?_, FX.2.2.2.1, fun t a c i e => ?_, fun i a => FX.2.2.2.2.2.1 i a, ?_, ?_⟩
                  · refine Eq.trans ?_ (FX.1 t a c)
                    funext i k'
                    exact (zu_tag _ (by omega)).trans ((zu_tag _ (by omega)).trans (zu_tag x.2.1 (by omega)))
                  · refine Eq.trans ?_ (FX.2.2.1 t a c)
                    funext i k'
                    exact zu_tag x.2.2.1 c
                  · refine Eq.trans ?_ (FX.2.2.2.2.1 t a c i e)
                    exact (zu_tag _ (by omega)).trans ((zu_tag _ (by omega)).trans (zu_pl x.2.1 (by omega)))
                  · exact FX.2.2.2.2.2.2.1
                  · exact FX.2.2.2.2.2.2.2
                · exact ⟨(fx.2.1 38 (by decide) (by decide) (by decide) (by decide) (by decide) (by decide)).trans hD3.1, fun i a c => (congrFun (congrFun (fx.1 89 (by decide) (by decide) (by decide) (by decide) (by decide) (by decide)) 0) _).trans (hD3.2 i a c)⟩
                · have eb : (qLA tp n (b, L, MF, bt, rec) s').2.2.2.1 = qw bt (MF L) b1 := (if_pos t6).trans (by dsimp only; rw [hx1])
                  have em : (qLA tp n (b, L, MF, bt, rec) s').2.2.1 (qLA tp n (b, L, MF, bt, rec) s').2.1 = MF L + 1 := by
                    have : (qLA tp n (b, L, MF, bt, rec) s').2.2.1 = qw MF (L + 1) (MF L + 1) := if_pos t6
                    rw [this]
                    exact qw_s _ _ _
                  rw [eb, em]
                  refine ⟨zu_same (zu x.2.1 91 0 (16 + L).toNat (zI (MF L))) 96 0 1 _, fun i i0 i1 => ?_⟩
                  by_cases q : i = MF L
                  · rw [q, qw_s]
                    exact zu_same x.2.2.1 97 0 _ _
                  · rw [qw_n _ _ q]
                    refine (show zu x.2.2.1 97 0 (MF L).toNat (zJ (zwl tp n b1)) 97 0 i.toNat = x.2.2.1 97 0 i.toNat from zu_pl x.2.2.1 (by omega)).trans ?_
                    exact (congrFun (congrFun (fx.2.2.1 97 (by decide)) 0) _).trans (N3.2 i i0 (by omega))
                · exact zu_same (zu (zu x.2.1 91 0 (16 + L).toNat (zI (MF L))) 96 0 1 (zI (MF L + 1))) 90 0 1 _
                · dsimp only
                  rw [if_pos t6]
                  exact zu_same x.2.1 91 0 _ _
                · refine (show (zu (zu (zu x.2.1 91 0 (16 + L).toNat (zI (MF L))) 96 0 1 (zI (MF L + 1))) 90 0 1 (zI (L + 1))) t 0 i = x.2.1 t 0 i from (zu_tag _ (by omega)).trans ((zu_tag _ (by omega)).trans (zu_pl x.2.1 hi))).trans ?_
                  by_cases q : t = 94 ∨ t = 95
                  · exact (fx.2.2.2.2.2 t q i hi).trans (congrFun (congrFun (g3.1 t (by omega) (by omega) (by omega)) 0) i)
                  · refine (congrFun (congrFun (fx.1 t (by omega) (by omega) (by omega) (by omega) (by omega) (by omega)) 0) i).trans ?_
                    by_cases q2 : t = 92 ∨ t = 93
                    · exact g3.2.2.2.2 t q2 i hi
                    · exact congrFun (congrFun (g3.1 t (by omega) (by omega) (by omega)) 0) i
                · exact (fx.2.2.2.2.1 i hi).trans (congrFun (congrFun (g3.1 98 (by decide) (by decide) (by decide)) 0) i)
          · rw [zif_pos t61]
            exact mF hM2 (d + 3) 1 (qWh_f hW (f := 1 + 16 * b2) (by dsimp only; rw [hd, if_neg (by omega), if_neg (by omega), if_neg m6, if_pos t61]) (by omega) _ (zu_same S2.1 11 0 44 _) (qFw_h l16 (qHn_t g2 (qHn_44 _ S2 _))))
      · rw [zif_neg sl]
        exact F1 3 (by omega) (by rw [hd, if_neg (by omega), if_pos (by omega)])
  · rw [zif_neg k1]
    exact F1 1 (by omega) (by rw [hd, if_pos (fun e => k1 (qtc_n.2 e).1)])
end MU
