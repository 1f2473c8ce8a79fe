/-! THE TARIFF: unit of the class; its lines -/
section UN
variable {tp : Int → Int} {n : Int} {bt : Int → Int} {m : Int} {u : Nat} {b c : Int} {S : ZS}
theorem qLx_g {st : QL} {cs : Int} {S S1 : ZS} (f : qFu u S S1) (hA : qA tp n S1 b) (d : Nat) {k : Int} (h : qHd tp n st.2.2.2.1 (st.2.2.1 st.2.1) st.2.1 st.1 = (k + 16 * b, 0)) (hk : 1 ≤ k) (hb : 0 ≤ b) : ∃ y : ZS, (zF_fail (d + 1) u (zI k) S1).bind (fun r => zgb r.1 (some (r.1, r.2))) = some ((0 : Int32), y) ∧ qLx tp n u st cs S ((0 : Int32), y) := by
  obtain ⟨x, e, q0, q1, q2⟩ := cFl (u := u) hA d k
  have ex : x = ((0 : Int32), x.2) := Prod.ext q0 rfl
  rw [ex] at e
  exact ⟨x.2, e, qFu_t f q1, Or.inl ⟨rfl, k + 16 * b, q2, qLF_h h (by omega)⟩⟩
theorem cUnit (hB : qB tp n) (d : Nat) {st : QL} {cs : Int} (hI : qPI tp n st) (h : qAt tp n u st cs S) (t7 : qtc tp n st.1 = 7) (l16 : st.2.1 ≠ 16) {S1 : ZS} (f1 : qF6 S S1) (hA1 : qA tp n S1 (znx tp n st.1)) : zwp (zF_readUnit (d + 52) u S1) (qLx tp n u st cs S) := by
  obtain ⟨b, L, MF, bt, rec⟩ := st
  obtain ⟨hb, hL, h3, h4, hN, h6⟩ := hI
  obtain ⟨hC, hA, hNc, h2, h7, hc⟩ := h
  dsimp only at hb hL h3 h4 hN h6 hC hA hNc h2 h7 hc t7 l16 hA1
  have hm := hN.1
  have bn := hB.1
  have xb := znx_b tp n hb
  generalize hx1 : znx tp n b = b1 at hA1 xb
  have hb1 : 0 ≤ b1 ∧ b1 ≤ n := by omega
  have x2 := znx_b tp n hb1
  generalize hx2 : znx tp n b1 = b2 at x2
  have hb2 : 0 ≤ b2 ∧ b2 ≤ n := by omega
  have x3 := znx_b tp n hb2
  generalize hx3 : znx tp n b2 = b3 at x3
  have hb3 : 0 ≤ b3 ∧ b3 ≤ n := by omega
  have x4 := znx_b tp n hb3
  generalize hx4 : znx tp n b3 = b4 at x4
  have hb4 : 0 ≤ b4 ∧ b4 ≤ n := by omega
  have x5 := znx_b tp n hb4
  generalize hx5 : znx tp n b4 = b5 at x5
  have hd : qHd tp n bt (MF L) L b = if qtc tp n b1 ≠ 60 then (1 + 16 * b1, 0) else if 99 < znv tp n b1 then (4 + 16 * b1, 0) else if qtc tp n b2 ≠ 8 then (1 + 16 * b2, 0) else if qtc tp n b3 ≠ 60 then (1 + 16 * b3, 0) else if znv tp n b3 < 30 then (4 + 16 * b3, 0) else if qtc tp n b4 ≠ 9 then (1 + 16 * b4, 0) else (0, b5) := by
    unfold qHd
    rw [if_neg (by omega), if_neg l16, if_neg (by omega), hx1, hx2, hx3, hx4, hx5]
  have g1 : qH u L.toNat S S1 := qH_6 f1
  have hC1 := qC_u hC g1.1
  have nw1 : zF_isNumberWithin (d + 51) u (0 : Int32) (99 : Int32) S1 = zif (qtc tp n b1 = 60) (zif (0 ≤ znv tp n b1 ∧ znv tp n b1 ≤ 99) (some ((1 : Int32), S1)) ((zF_fail (d + 50) u (zI 4) S1).bind (fun r => zgb r.1 (some (r.1, r.2))))) ((zF_fail (d + 50) u (zI 1) S1).bind (fun r => zgb r.1 (some (r.1, r.2)))) := cNW (u := u) hB hC1 hb1 hA1 (d + 49) (lo := 0) (hi := 99) (by omega) (by omega)
  rw [eF_readUnit, nw1]
  by_cases a1 : qtc tp n b1 = 60
  · have k2 := qtc_2.2 a1
    have v1 := znv_b k2
    rw [zif_pos a1]
    by_cases a99 : znv tp n b1 ≤ 99
    · rw [zif_pos ⟨v1.1, a99⟩, zBs]
      dsimp only
      have s2 : S1.1 7 u 2 = zI L := (g1.2.1 7 (by omega) 2).trans h2
      have w1 := qH_t g1 (qH_w u L.toNat S1 (t := 42) (Or.inl rfl) (zI (znv tp n b1)))
      have hCw := qC_u hC w1.1
      have hAw : qA tp n (zu S1.1 42 u L.toNat (zI (znv tp n b1)), S1.2) b1 := hA1
      obtain ⟨S2, e2, hA2, f2⟩ := zT_next_s hB hCw (d + 44) hb1 hAw
      have e2 : zT_next (d + 51) (zu S1.1 42 u L.toNat (zI (znv tp n b1)), S1.2) = some S2 := e2
      rw [hx2] at hA2
      have g2 : qH u L.toNat S S2 := qH_t w1 (qH_6 f2)
      have c42 : S2.1 42 u L.toNat = zI (znv tp n b1) := (congrFun (congrFun (f2.1 42 (by decide)) u) L.toNat).trans (zu_same S1.1 42 u L.toNat _)
      have hC2 := qC_u hC g2.1
      have pw : zF_passWord (d + 51) u 8 S2 = zif (qtc tp n b2 = ((8 : Nat) : Int)) ((zT_next (d + 50) S2).bind (fun r => some ((1 : Int32), r))) ((zF_fail (d + 50) u (zI 1) S2).bind (fun r => zgb r.1 (some (r.1, r.2)))) := cPW (u := u) hA2 (d + 43) (i := 8) (by decide)
      rw [zif_neg (by decide), zT_number_s hB hC1 hb1 hA1 (d + 50) k2, zBs]
      dsimp only
      rw [s2, zg_t (by rw [zI_in (by omega) (by omega)]; omega), zI_zx (by omega) (by omega), e2, zBs, pw]
      by_cases a2 : qtc tp n b2 = ((8 : Nat) : Int)
      · obtain ⟨S3, e3, hA3, f3⟩ := zT_next_s hB hC2 (d + 43) hb2 hA2
        have e3 : zT_next (d + 50) S2 = some S3 := e3
        rw [hx3] at hA3
        have g3 : qH u L.toNat S S3 := qH_t g2 (qH_6 f3)
        have hC3 := qC_u hC g3.1
        have c42 : S3.1 42 u L.toNat = zI (znv tp n b1) := (congrFun (congrFun (f3.1 42 (by decide)) u) L.toNat).trans c42
        have nw3 : zF_isNumberWithin (d + 51) u (30 : Int32) (9999 : Int32) S3 = zif (qtc tp n b3 = 60) (zif (30 ≤ znv tp n b3 ∧ znv tp n b3 ≤ 9999) (some ((1 : Int32), S3)) ((zF_fail (d + 50) u (zI 4) S3).bind (fun r => zgb r.1 (some (r.1, r.2))))) ((zF_fail (d + 50) u (zI 1) S3).bind (fun r => zgb r.1 (some (r.1, r.2)))) := cNW (u := u) hB hC3 hb3 hA3 (d + 49) (lo := 30) (hi := 9999) (by omega) (by omega)
        rw [zif_pos a2, e3, zBs, zBs]
        dsimp only
        rw [zif_neg (by decide), nw3]
        by_cases a3 : qtc tp n b3 = 60
        · have k3 := qtc_2.2 a3
          have v3 := znv_b k3
          rw [zif_pos a3]
          by_cases a30 : 30 ≤ znv tp n b3
          · have s3 : S3.1 7 u 2 = zI L := (g3.2.1 7 (by omega) 2).trans h2
            have w3 := qH_t g3 (qH_w u L.toNat S3 (t := 43) (Or.inr rfl) (zI (znv tp n b3)))
            have hCw3 := qC_u hC w3.1
            have hAw3 : qA tp n (zu S3.1 43 u L.toNat (zI (znv tp n b3)), S3.2) b3 := hA3
            obtain ⟨S4, e4, hA4, f4⟩ := zT_next_s hB hCw3 (d + 44) hb3 hAw3
            have e4 : zT_next (d + 51) (zu S3.1 43 u L.toNat (zI (znv tp n b3)), S3.2) = some S4 := e4
            rw [hx4] at hA4
            have g4 : qH u L.toNat S S4 := qH_t w3 (qH_6 f4)
            have hC4 := qC_u hC g4.1
            have c43 : S4.1 43 u L.toNat = zI (znv tp n b3) := (congrFun (congrFun (f4.1 43 (by decide)) u) L.toNat).trans (zu_same S3.1 43 u L.toNat _)
            have c42 : S4.1 42 u L.toNat = zI (znv tp n b1) := (congrFun (congrFun (f4.1 42 (by decide)) u) L.toNat).trans c42
            have pw4 : zF_passWord (d + 51) u 9 S4 = zif (qtc tp n b4 = ((9 : Nat) : Int)) ((zT_next (d + 50) S4).bind (fun r => some ((1 : Int32), r))) ((zF_fail (d + 50) u (zI 1) S4).bind (fun r => zgb r.1 (some (r.1, r.2)))) := cPW (u := u) hA4 (d + 43) (i := 9) (by decide)
            rw [zif_pos ⟨a30, v3.2⟩, zBs]
            dsimp only
            rw [zif_neg (by decide), zT_number_s hB hC3 hb3 hA3 (d + 50) k3, zBs]
            dsimp only
            rw [s3, zg_t (by rw [zI_in (by omega) (by omega)]; omega), zI_zx (by omega) (by omega), e4, zBs, pw4]
            by_cases a4 : qtc tp n b4 = ((9 : Nat) : Int)
            · obtain ⟨S5, e5, hA5, f5⟩ := zT_next_s hB hC4 (d + 43) hb4 hA4
              have e5 : zT_next (d + 50) S4 = some S5 := e5
              rw [hx5] at hA5
              have g5 : qH u L.toNat S S5 := qH_t g4 (qH_6 f5)
              have c43 : S5.1 43 u L.toNat = zI (znv tp n b3) := (congrFun (congrFun (f5.1 43 (by decide)) u) L.toNat).trans c43
              have c42 : S5.1 42 u L.toNat = zI (znv tp n b1) := (congrFun (congrFun (f5.1 42 (by decide)) u) L.toNat).trans c42
              have hq : qHd tp n bt (MF L) L b = (0, b5) := by
                rw [hd, if_neg (by omega), if_neg (by omega), if_neg (by omega), if_neg (by omega), if_neg (by omega), if_neg (by omega)]
              rw [zif_pos a4, e5, zBs, zBs]
              dsimp only
              rw [zif_neg (by decide)]
              refine cEx hB hN d (qC_u hC g5.1) hA5 (qNc_h hNc g5) (by omega) ((g5.2.1 7 (by omega) 7).trans h7) (by omega) (fun S => some ((1 : Int32), S)) _ (fun x s' r1 r2 r3 r4 => ?_) (fun x s' C v r1 r2 r3 r4 r5 r6 r7 r8 r9 r10 r11 r12 r13 => ?_)
              · refine ⟨qFu_t g5.1 (qFu_ft r3), Or.inl ⟨rfl, _, r4, Or.inr ⟨by dsimp only; rw [hq], s', ?_, r2, rfl⟩⟩⟩
                dsimp only
                rw [hq]
                exact r1
              · have gx := qFu_t g5.1 (qFu_ft r3)
                rw [zwp_some]
                refine ⟨gx, Or.inr ⟨rfl, s', C, v, ⟨by dsimp only; rw [hq], by dsimp only; rw [hq]; exact r1, r2⟩, ⟨r6, ?_, ?_, r7, r8, r9, ?_⟩, ⟨r10, r11, r12, r13⟩, Or.inr ⟨by dsimp only; omega, ?_, fun i => ?_, ?_, ?_⟩, fun t ht i hi => ?_, fun i => ?_⟩⟩
                · exact r5.trans (g5.2.1 7 (by omega) 1)
                · exact (r3.1 7 u 2 (by decide) (fun e => by omega)).trans (g5.2.1 7 (by omega) 2)
                · exact fun i hi => (r4 i hi).trans (g5.2.1 45 (by omega) i)
                · exact (r3.1 7 u 8 (by decide) (fun e => by omega)).trans (g5.2.1 7 (by omega) 8)
                · dsimp only
                  rw [r3.2.2.1, g5.2.2.2]
                · dsimp only
                  rw [hx1]
                  exact (r3.1 42 u _ (by decide) (fun e => by omega)).trans c42
                · dsimp only
                  rw [hx1, hx2, hx3]
                  exact (r3.1 43 u _ (by decide) (fun e => by omega)).trans c43
                · exact (r3.1 t u i (by omega) (fun e => by omega)).trans (g5.2.2.1 t ht i hi)
                · exact (r3.1 44 u i (by decide) (fun e => by omega)).trans (g5.2.1 44 (by omega) i)
            · obtain ⟨y, ey, yq⟩ := qLx_g (st := (b, L, MF, bt, rec)) (cs := cs) g4.1 hA4 (d + 49) (k := 1) (by
                dsimp only
                rw [hd, if_neg (by omega), if_neg (by omega), if_neg (by omega), if_neg (by omega), if_neg (by omega), if_pos (by omega)]) (by omega) (by omega)
              have ey : (zF_fail (d + 50) u (zI 1) S4).bind (fun r => zgb r.1 (some (r.1, r.2))) = some ((0 : Int32), y) := ey
              rw [zif_neg a4, ey, zBs]
              dsimp only
              rw [zif_pos rfl, zwp_some]
              exact yq
          · obtain ⟨y, ey, yq⟩ := qLx_g (st := (b, L, MF, bt, rec)) (cs := cs) g3.1 hA3 (d + 49) (k := 4) (by
              dsimp only
              rw [hd, if_neg (by omega), if_neg (by omega), if_neg (by omega), if_neg (by omega), if_pos (by omega)]) (by omega) (by omega)
            have ey : (zF_fail (d + 50) u (zI 4) S3).bind (fun r => zgb r.1 (some (r.1, r.2))) = some ((0 : Int32), y) := ey
            rw [zif_neg (fun e => a30 e.1), ey, zBs]
            dsimp only
            rw [zif_pos rfl, zwp_some]
            exact yq
        · obtain ⟨y, ey, yq⟩ := qLx_g (st := (b, L, MF, bt, rec)) (cs := cs) g3.1 hA3 (d + 49) (k := 1) (by
            dsimp only
            rw [hd, if_neg (by omega), if_neg (by omega), if_neg (by omega), if_pos (by omega)]) (by omega) (by omega)
          have ey : (zF_fail (d + 50) u (zI 1) S3).bind (fun r => zgb r.1 (some (r.1, r.2))) = some ((0 : Int32), y) := ey
          rw [zif_neg a3, ey, zBs]
          dsimp only
          rw [zif_pos rfl, zwp_some]
          exact yq
      · obtain ⟨y, ey, yq⟩ := qLx_g (st := (b, L, MF, bt, rec)) (cs := cs) g2.1 hA2 (d + 49) (k := 1) (by
          dsimp only
          rw [hd, if_neg (by omega), if_neg (by omega), if_pos (by omega)]) (by omega) (by omega)
        have ey : (zF_fail (d + 50) u (zI 1) S2).bind (fun r => zgb r.1 (some (r.1, r.2))) = some ((0 : Int32), y) := ey
        rw [zif_neg a2, ey, zBs]
        dsimp only
        rw [zif_pos rfl, zwp_some]
        exact yq
    · obtain ⟨y, ey, yq⟩ := qLx_g (st := (b, L, MF, bt, rec)) (cs := cs) g1.1 hA1 (d + 49) (k := 4) (by
        dsimp only
        rw [hd, if_neg (by omega), if_pos (by omega)]) (by omega) (by omega)
      have ey : (zF_fail (d + 50) u (zI 4) S1).bind (fun r => zgb r.1 (some (r.1, r.2))) = some ((0 : Int32), y) := ey
      rw [zif_neg (fun e => a99 e.2), ey, zBs]
      dsimp only
      rw [zif_pos rfl, zwp_some]
      exact yq
  · obtain ⟨y, ey, yq⟩ := qLx_g (st := (b, L, MF, bt, rec)) (cs := cs) g1.1 hA1 (d + 49) (k := 1) (by
      dsimp only
      rw [hd, if_pos (by omega)]) (by omega) (by omega)
    have ey : (zF_fail (d + 50) u (zI 1) S1).bind (fun r => zgb r.1 (some (r.1, r.2))) = some ((0 : Int32), y) := ey
    rw [zif_neg a1, ey, zBs]
    dsimp only
    rw [zif_pos rfl, zwp_some]
    exact yq
end UN
