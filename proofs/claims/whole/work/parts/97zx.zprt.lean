/-! THE TARIFF: the class reads a part -/
theorem qgb {o : Option (Int32 × ZS)} {Q : Int32 × ZS → Prop} (h : zwp o Q) (hq : ∀ r, Q r → r.1 = 0 ∨ r.1 = 1) : zwp (o.bind (fun r => zgb r.1 (some (r.1, r.2)))) Q := by
  obtain ⟨r, e, q⟩ := h
  have e2 : zgb r.1 (some (r.1, r.2)) = some r := by
    unfold zgb
    rw [show zbl r.1 = true by rcases hq r q with h | h <;> (rw [h]; rfl)]
    rfl
  rw [e, zBs, e2, zwp_some]
  exact q
theorem zb01 (P : Prop) : zb P = 0 ∨ zb P = 1 := by
  by_cases h : P
  · exact Or.inr (zb_t h)
  · exact Or.inl (zb_f h)
theorem qput_l (S : ZS) (u : Nat) {j i : Nat} (v v' : Int32) (h : i ≠ j) : (zu (zu S.1 45 u j v) 7 u 7 v') 45 u i = S.1 45 u i := (zu_tag (zu S.1 45 u j v) (t := 7) (t' := 45) (by decide)).trans (zu_pl S.1 h)
theorem qput_s (S : ZS) (u j : Nat) (v v' : Int32) : (zu (zu S.1 45 u j v) 7 u 7 v') 45 u j = v := (zu_tag (zu S.1 45 u j v) (t := 7) (t' := 45) (by decide)).trans (zu_same S.1 45 u j v)
theorem qput_7 (S : ZS) (u j : Nat) (v v' : Int32) : (zu (zu S.1 45 u j v) 7 u 7 v') 7 u 7 = v' := zu_same (zu S.1 45 u j v) 7 u 7 v'
theorem qput_1 (S : ZS) (u j : Nat) (v v' : Int32) : (zu (zu S.1 45 u j v) 7 u 7 v') 7 u 1 = S.1 7 u 1 := (zu_pl (zu S.1 45 u j v) (t := 7) (k := 7) (k' := 1) (by decide)).trans (zu_tag S.1 (t := 45) (t' := 7) (by decide))
section PE
variable {tp : Int → Int} {n : Int} {bt : Int → Int} {m : Int} {u : Nat} {w b c : Int} {op cm : Int → Int} {R0 : List Int} {S : ZS}
theorem qPo_01 {r : Int} {x : Int32 × ZS} (h : qPo tp n bt m u r w b c op cm R0 S x) : x.1 = 0 ∨ x.1 = 1 := by
  rcases h with h | h
  · exact Or.inl h.1
  · exact Or.inr h.1
/-- it fails here -/
theorem qPo_f {r k : Int} (hA : qA tp n S b) (hb : 0 ≤ b ∧ b ≤ n) (h1 : qnx tp n bt m (b, 1, w, op, cm, R0) = none) (h2 : qer tp n bt m (b, 1, w, op, cm, R0) = k) (hk : k ≠ 0) (d : Nat) :
    zwp ((zF_fail (d + 1) u (zI k) S).bind (fun r => zgb r.1 (some (r.1, r.2)))) (qPo tp n bt m u r w b c op cm R0 S) :=
  zwp_mono (qFl_h (u := u) (bt := bt) (m := m) hA (s := (b, 1, w, op, cm, R0)) rfl hb h1 h2 hk d) (fun x q => Or.inl q)
theorem cF_passSign (hB : qB tp n) (hC : qC tp n S) (hb : 0 ≤ b ∧ b ≤ n) (hA : qA tp n S b) (d : Nat) {k : Int} (hk : 0 ≤ k ∧ k < 200) :
    zF_passSign (d + 8) u (zI k) S = zif (qtc tp n b = 100 + k) ((zT_next (d + 7) S).bind (fun r3 => some ((1 : Int32), r3))) ((zF_fail (d + 7) u (zI 1) S).bind (fun r => zgb r.1 (some (r.1, r.2)))) := by
  rw [eF_passSign, cT_sign hB hC hb hA (d + 6) hk, zBs]
  dsimp only
  rw [zb_0, zI_n1]
  by_cases q : qtc tp n b = 100 + k
  · rw [zif_pos q, zif_neg (fun e => e q)]
  · rw [zif_neg q, zif_pos q]
theorem qA_put {b' : Int} (h : qA tp n S b') (j : Nat) (v v' : Int32) : qA tp n (zu (zu S.1 45 u j v) 7 u 7 v', S.2) b' := h
/-- the part under a not, or within brackets -/
theorem qWi (hB : qB tp n) (d : Nat) (h : qPr tp n bt m u 4 w b c op cm S) (hw : 0 ≤ w ∧ w < 5) (ht : qtc tp n b = 12 ∨ qtc tp n b = 140) (hP : qPaOK tp n bt m u (d + 9) (w + 1)) (hO : qOpOK tp n bt m u (d + 9) 0 (w + 1)) :
    zwp (zF_readWithin (d + 10) u (zb (qtc tp n b = 12)) (zI (w + 1)) S) (qPo tp n bt m u 4 w b c op cm R0 S) := by
  obtain ⟨hC, hA, hNc, hb, h7, hc, -, -⟩ := h
  have bn := hB.1
  have hbn : b < n := qtc_l (tp := tp) (n := n) (b := b) (by omega)
  have xb := znx_b tp n hb
  obtain ⟨S1, e1, hA1, f1⟩ := zT_next_s hB hC (d + 2) hb hA
  have e1 : zT_next (d + 9) S = some S1 := e1
  have g1 : qFt u S S1 := qFt_6 f1
  have hC1 := qC_t hC g1
  have hN1 := qNc_t hNc g1
  have s7 : S1.1 7 u 7 = zI c := (congrFun (congrFun (f1.1 7 (by decide)) u) 7).trans h7
  have k1 : S1.1 7 u 1 = S.1 7 u 1 := congrFun (congrFun (f1.1 7 (by decide)) u) 1
  have c45 : ∀ i, S1.1 45 u i = S.1 45 u i := fun i => congrFun (congrFun (f1.1 45 (by decide)) u) i
  rw [eF_readWithin, e1, zBs]
  by_cases t12 : qtc tp n b = 12
  · -- not
    have st : qnx tp n bt m (b, 1, w, op, cm, R0) = some (znx tp n b, 1, w + 1, qw op (w + 1) 1, qw cm (w + 1) 0, R0 ++ [30]) := by
      unfold qnx
      dsimp only
      rw [if_pos rfl, if_neg (by omega), if_pos ht, if_neg (by omega), if_pos t12, if_pos t12]
    have rc := qrc_1 tp n bt m st
    obtain ⟨x, ex, px⟩ := hP (znx tp n b) c (qw op (w + 1) 1) (qw cm (w + 1) 0) (R0 ++ [30]) S1 ⟨hC1, hA1, hN1, by omega, s7, by omega, fun e => by omega, fun e => by omega⟩
    rw [zb_t t12, zif_neg (by decide), ex, zBs]
    rcases px with ⟨x0, px⟩ | ⟨x1, b', op', cm', C, R, v, ⟨⟨p1, p2, p3, p4, p5, p6⟩, ⟨p7, p8, p9, p10⟩, p11, p12, p13, p14, p15, p16⟩, -⟩
    · rw [zif_pos x0, zwp_some]
      exact Or.inl ⟨rfl, qFl_t rc g1 px⟩
    · have l0 : 0 ≤ (C.length : Int) := by omega
      have f3 := qFt_put u x.2 (c + C.length).toNat (zI 30000) (zI (c + C.length + 1))
      rw [zif_neg (by rw [x1]; decide), zI_n30000, zF_put_s (d + 8) (by omega) p5, zBs, zwp_some]
      refine Or.inr ⟨rfl, b', op', cm', C ++ [30000], 30 :: R, fun vf nf => qnt (v vf nf), ⟨⟨qFt_t g1 (qFt_t p1 f3), fun i hi => ?_, ?_, qA_put p4 _ _ _, ?_, ?_⟩, ⟨by omega, ?_, qWl_a _ _ p9 ⟨by unfold qWc; omega, trivial⟩, ⟨by unfold qXc; omega, p10⟩⟩, qP_n p11, ⟨fun e => by omega, fun e => by omega, fun e => by omega, fun e => by omega, fun _ => qR4n hw (p12.2.2.2.2 rfl)⟩, ?_, ?_, ?_, ?_⟩, ⟨fun e => by omega, fun e => by omega, fun e => by omega, fun e => by omega⟩⟩
      · exact (qput_l x.2 u (zI 30000) (zI (c + C.length + 1)) (by omega)).trans ((p2 i hi).trans (c45 i))
      · exact (qput_1 x.2 u _ (zI 30000) (zI (c + C.length + 1))).trans (p3.trans k1)
      · rw [List.length_append, List.length_cons, List.length_nil, show c + ((C.length + (0 + 1) : Nat) : Int) = c + C.length + 1 by omega]
        exact qput_7 x.2 u _ (zI 30000) _
      · refine qLs_a _ _ _ (qLs_f _ _ p6 (fun i i1 i2 => qput_l x.2 u (zI 30000) (zI (c + C.length + 1)) (by omega))) ⟨?_, trivial⟩
        rw [show c.toNat + C.length = (c + C.length).toNat by omega]
        exact qput_s x.2 u _ (zI 30000) (zI (c + C.length + 1))
      · rw [List.length_append, List.length_cons, List.length_nil]
        omega
      · have e : R0 ++ [30] ++ R = R0 ++ 30 :: R := by rw [List.append_assoc]; rfl
        have e2 : qpp (w + 1).toNat (qw op (w + 1) 1) (w + 1) = qpp w.toNat op w := by
          rw [show (w + 1).toNat = w.toNat + 1 by omega, qpp, if_pos (qw_s op (w + 1) 1), show w + 1 - 1 = w by omega]
          exact qpp_c _ _ (fun d hd => qw_n op 1 (by omega))
        rw [e, e2] at p13
        exact qrc_t tp n bt m rc p13
      · exact fun d hd => (p14 d (by omega)).trans (qw_n op 1 (by omega))
      · exact fun d hd => (p15 d (by omega)).trans (qw_n cm 0 (by omega))
      · exact fun _ => (p15 w (by omega)).trans (qw_n cm 0 (by omega))
  · -- brackets
    have st : qnx tp n bt m (b, 1, w, op, cm, R0) = some (znx tp n b, 1, w + 1, qw op (w + 1) 2, qw cm (w + 1) 0, R0 ++ [28]) := by
      unfold qnx
      dsimp only
      rw [if_pos rfl, if_neg (by omega), if_pos ht, if_neg (by omega), if_neg t12, if_neg t12]
    have rc := qrc_1 tp n bt m st
    have o2 : w + 1 = 0 ∨ (qw op (w + 1) 2) (w + 1) ≠ 1 := Or.inr (by rw [qw_s]; decide)
    obtain ⟨x, ex, px⟩ := hO (znx tp n b) c (qw op (w + 1) 2) (qw cm (w + 1) 0) (R0 ++ [28]) S1 ⟨hC1, hA1, hN1, by omega, s7, by omega, fun _ => o2, fun _ => qw_s cm (w + 1) 0⟩
    rw [zb_f t12, zif_pos rfl]
    have ex : zF_readOperations (d + 9) u (0 : Int32) (zI (w + 1)) S1 = some x := ex
    rw [ex, zBs]
    rcases px with ⟨x0, px⟩ | ⟨x1, b', op', cm', C, R, v, ⟨⟨p1, p2, p3, p4, p5, p6⟩, ⟨p7, p8, p9, p10⟩, p11, p12, p13, p14, p15, p16⟩, no⟩
    · rw [zif_pos x0, zwp_some]
      exact Or.inl ⟨rfl, qFl_t rc g1 px⟩
    · have e2 : qpp (w + 1).toNat (qw op (w + 1) 2) (w + 1) = w + 1 := qpp_o (by omega) o2
      rw [e2] at p13
      have rc2 := qrc_t tp n bt m rc p13
      have g2 := qFt_t g1 p1
      have hb' : 0 ≤ b' ∧ b' ≤ n := by omega
      have n1 := no.1 (by omega)
      have n2 := no.2.1 (by omega)
      have n3 := no.2.2.1 (by omega)
      have n4 := no.2.2.2 (by omega)
      rw [zif_neg (by rw [x1]; decide), zI_n41, cF_passSign hB (qC_t hC g2) hb' p4 (d + 1) (by omega)]
      by_cases t : qtc tp n b' = 100 + 41
      · obtain ⟨S3, e3, hA3, f3⟩ := zT_next_s hB (qC_t hC g2) (d + 1) hb' p4
        have e3 : zT_next (d + 1 + 7) x.2 = some S3 := e3
        have g3 : qFt u S S3 := qFt_t g2 (qFt_6 f3)
        have xb' := znx_b tp n hb'
        have hbn' : b' < n := qtc_l (tp := tp) (n := n) (b := b') (by omega)
        have d45 : ∀ i, S3.1 45 u i = x.2.1 45 u i := fun i => congrFun (congrFun (f3.1 45 (by decide)) u) i
        have d7 : ∀ i, S3.1 7 u i = x.2.1 7 u i := fun i => congrFun (congrFun (f3.1 7 (by decide)) u) i
        rw [zif_pos t, e3, zBs, zBs]
        dsimp only
        rw [zif_neg (by decide), zwp_some]
        refine Or.inr ⟨rfl, znx tp n b', op', cm', C, 28 :: R ++ [29], v, ⟨⟨g3, fun i hi => ?_, ?_, hA3, ?_, ?_⟩, ⟨by omega, by omega, p9, ?_⟩, ?_, ⟨fun e => by omega, fun e => by omega, fun e => by omega, fun e => by omega, fun _ => qR4b hw (p12.1 rfl)⟩, ?_, ?_, ?_, ?_⟩, ⟨fun e => by omega, fun e => by omega, fun e => by omega, fun e => by omega⟩⟩
        · exact (d45 i).trans ((p2 i hi).trans (c45 i))
        · exact (d7 1).trans (p3.trans k1)
        · exact (d7 7).trans p5
        · exact qLs_f _ _ p6 (fun i _ _ => d45 i)
        · exact qXl_a (28 :: R) [29] ⟨by unfold qXc; omega, p10⟩ ⟨by unfold qXc; omega, trivial⟩
        · exact fun vf nf st q => p11 vf nf st (by omega)
        · have s2 : qnx tp n bt m (b', 0, w + 1, op', cm', R0 ++ [28] ++ R) = some (znx tp n b', 0, qpp w.toNat op w, op', cm', R0 ++ (28 :: R ++ [29])) := by
            unfold qnx
            dsimp only
            rw [if_neg (by decide), if_neg (by omega), if_neg (by omega), if_neg (by omega), if_pos (by omega), show w + 1 - 1 = w by omega]
            have e4 : qpp w.toNat op' w = qpp w.toNat op w := qpp_c _ _ (fun d hd => (p14 d (by omega)).trans (qw_n op 2 (by omega)))
            have e5 : R0 ++ [28] ++ R ++ [29] = R0 ++ (28 :: R ++ [29]) := by rw [List.append_assoc, List.append_assoc]; rfl
            rw [e4, e5]
          exact qrc_t tp n bt m rc2 (qrc_1 tp n bt m s2)
        · exact fun d hd => (p14 d (by omega)).trans (qw_n op 2 (by omega))
        · exact fun d hd => (p15 d (by omega)).trans (qw_n cm 0 (by omega))
        · exact fun _ => (p15 w (by omega)).trans (qw_n cm 0 (by omega))
      · have s2 : qnx tp n bt m (b', 0, w + 1, op', cm', R0 ++ [28] ++ R) = none := by
          unfold qnx
          dsimp only
          rw [if_neg (by decide), if_neg (by omega), if_neg (fun e => n3 e.1 e.2), if_neg (by omega), if_neg (by omega)]
        have s3 : qer tp n bt m (b', 0, w + 1, op', cm', R0 ++ [28] ++ R) = 1 := by
          unfold qer
          dsimp only
          rw [if_neg (by decide), if_neg (by omega)]
        obtain ⟨y, ey, y0, fy⟩ := qFl_h (u := u) (bt := bt) (m := m) p4 (s := (b', 0, w + 1, op', cm', R0 ++ [28] ++ R)) rfl hb' s2 s3 (by decide) (d + 7)
        have ey : (zF_fail (d + 1 + 7) u (zI 1) x.2).bind (fun r => zgb r.1 (some (r.1, r.2))) = some y := ey
        rw [zif_neg t, ey, zBs, zif_pos y0, zwp_some]
        exact Or.inl ⟨rfl, qFl_t rc2 g2 fy⟩
theorem qPa_1 (hB : qB tp n) (hN : qNb tp n bt m) (d : Nat) (hw : 0 ≤ w ∧ w ≤ 5) (hP : w < 5 → qPaOK tp n bt m u (d + 9) (w + 1)) (hO : w < 5 → qOpOK tp n bt m u (d + 9) 0 (w + 1)) : qPaOK tp n bt m u (d + 11) w := by
  intro b c op cm R0 S h
  obtain ⟨hC, hA, hNc, hb, h7, hc, -, -⟩ := id h
  have bn := hB.1
  have qb := qtc_b (tp := tp) (n := n) (b := b)
  have sb := qsl_b (tp := tp) (n := n) (bt := bt) (b := b) hN.1
  have hm := hN.1
  have m1 : (-1 : Int32) = zI (-1) := rfl
  -- what follows once the token can stand there
  have f111 : ∀ sl : Int, (qtc tp n b = 50 → sl = qsl tp n bt m b ∧ 0 ≤ sl) → (qtc tp n b < 6 ∨ qtc tp n b = 50 ∨ qtc tp n b = 60 ∨ qtc tp n b = 12 ∨ qtc tp n b = 140) →
      zwp (zF_readPart_111 (d + 10) u (zI w) (zI (if qtc tp n b < 6 then qtc tp n b else -1)) (zb (qtc tp n b = 50)) (zb (qtc tp n b = 12)) (zb (qtc tp n b = 140)) (zI sl) S) (qPo tp n bt m u 4 w b c op cm R0 S) := by
    intro sl hsl ht
    rw [eF_readPart_111, zI_n5, zI_lt (by omega) (by omega) (by omega) (by omega), zb_0, zb_0, zb_0]
    by_cases w5 : w < 5
    · rw [zif_pos w5]
      have wi : (qtc tp n b = 12 ∨ qtc tp n b = 140) → zwp ((zF_readWithin (d + 10) u (zb (qtc tp n b = 12)) (zI w + 1) S).bind (fun r8 => zgb r8.1 (some (r8.1, r8.2)))) (qPo tp n bt m u 4 w b c op cm R0 S) := by
        intro t2
        rw [zI_n1, zI_add]
        exact qgb (qWi hB d h ⟨hw.1, w5⟩ t2 (hP w5) (hO w5)) (fun r q => qPo_01 q)
      by_cases t12 : qtc tp n b = 12
      · rw [zif_neg (fun e => e t12)]
        exact wi (Or.inl t12)
      · rw [zif_pos t12]
        by_cases t140 : qtc tp n b = 140
        · rw [zif_neg (fun e => e t140)]
          exact wi (Or.inr t140)
        · rw [zif_pos t140]
          by_cases t50 : qtc tp n b = 50
          · obtain ⟨s1, s2⟩ := hsl t50
            have ql : qtl tp n bt m b = 10 + sl := by unfold qtl; rw [if_pos t50, s1]
            rw [zif_neg (fun e => e t50), show (20000 : Int32) = zI 20000 from rfl, zI_add]
            refine qOpd hB hN h ⟨hw.1, w5⟩ (d + 2) (it := 20000 + sl) (by have := hN.1; omega) (by unfold qWc; omega) (by omega) (fun _ => by omega) (fun vf nf => ?_) ?_
            · rw [ql]
              unfold qro qop
              have := hN.1
              rw [if_neg (by omega), if_neg (by omega), if_neg (by omega), show 10 + sl - 10 = sl by omega, show 20000 + sl - 20000 = sl by omega]
            · rw [ql]
              have := hN.1
              unfold qXc
              omega
          · rw [zif_pos t50, m1, zI_eq (by split <;> omega) (by split <;> omega) (by omega) (by omega)]
            by_cases t6 : qtc tp n b < 6
            · have ql : qtl tp n bt m b = qtc tp n b + 1 := by unfold qtl; rw [if_neg t50, if_neg (by omega)]
              rw [if_pos t6, zif_neg (by omega), show (10000 : Int32) = zI 10000 from rfl, zI_add]
              refine qOpd hB hN h ⟨hw.1, w5⟩ (d + 2) (it := 10000 + qtc tp n b) (by omega) (by unfold qWc; omega) (by omega) (fun _ => by omega) (fun vf nf => ?_) ?_
              · rw [ql]
                unfold qro qop
                rw [if_neg (by omega), if_pos (by omega), if_pos (by omega), if_neg (by omega), show qtc tp n b + 1 - 1 = qtc tp n b by omega, show 10000 + qtc tp n b - 10000 = qtc tp n b by omega]
              · rw [ql]
                unfold qXc
                omega
            · have t60 : qtc tp n b = 60 := by omega
              have k2 := qtc_2.2 t60
              have vb := znv_b k2
              have ql : qtl tp n bt m b = 100 + znv tp n b := by unfold qtl; rw [if_neg t50, if_pos t60]
              rw [if_neg t6, zif_pos rfl, zT_number_s hB hC hb hA (d + 9) k2, zBs]
              refine qOpd hB hN h ⟨hw.1, w5⟩ (d + 2) (it := znv tp n b) (by omega) (by unfold qWc; omega) (by omega) (fun _ => by omega) (fun vf nf => ?_) ?_
              · rw [ql]
                unfold qro qop
                rw [if_pos (by omega), if_pos (by omega), if_pos (by omega), show 100 + znv tp n b - 100 = znv tp n b by omega]
              · rw [ql]
                unfold qXc
                omega
    · have w5' : w = 5 := by omega
      rw [zif_neg w5]
      refine qPo_f hA hb ?_ ?_ (by decide) (d + 9)
      · unfold qnx
        dsimp only
        rw [if_pos rfl]
        by_cases t1 : qtc tp n b < 6 ∨ qtc tp n b = 50 ∨ qtc tp n b = 60
        · rw [if_pos t1, if_neg (fun e => by have := hsl e.1; omega), if_pos w5']
        · rw [if_neg t1, if_pos (by omega), if_pos w5']
      · unfold qer
        dsimp only
        rw [if_pos rfl]
        by_cases t1 : qtc tp n b < 6 ∨ qtc tp n b = 50 ∨ qtc tp n b = 60
        · rw [if_pos t1, if_neg (fun e => by have := hsl e.1; omega)]
        · rw [if_neg t1, if_pos (by omega)]
  have f74 : (qtc tp n b < 6 ∨ qtc tp n b = 50 ∨ qtc tp n b = 60 ∨ qtc tp n b = 12 ∨ qtc tp n b = 140) →
      zwp (zF_readPart_74 (d + 10) u (zI w) (zI (if qtc tp n b < 6 then qtc tp n b else -1)) (zb (qtc tp n b = 50)) (zb (qtc tp n b = 12)) (zb (qtc tp n b = 140)) S) (qPo tp n bt m u 4 w b c op cm R0 S) := by
    intro ht
    rw [eF_readPart_74]
    by_cases t50 : qtc tp n b = 50
    · have k1 : zkd tp n b = 1 := (qtc_n.2 t50).1
      have z0 : ¬ zb (qtc tp n b = 50) = 0 := by rw [zb_0]; exact fun e => e t50
      rw [zif_neg z0, zT_letters_s hB hC hb hA (d + 9) k1, zBs]
      dsimp only
      rw [zF_slotOf_s hN hNc k1 (d + 9), zBs]
      dsimp only
      rw [zif_neg z0, m1, zI_eq (by omega) (by omega) (by omega) (by omega)]
      by_cases sl : qsl tp n bt m b = -1
      · rw [zif_pos sl, zI_n2]
        refine qPo_f hA hb ?_ ?_ (by decide) (d + 9)
        · unfold qnx
          dsimp only
          rw [if_pos rfl, if_pos (by omega), if_pos (by omega)]
        · unfold qer
          dsimp only
          rw [if_pos rfl, if_pos (by omega), if_pos (by omega)]
      · rw [zif_neg sl]
        exact f111 (qsl tp n bt m b) (fun _ => ⟨rfl, by omega⟩) ht
    · have z0 : zb (qtc tp n b = 50) = 0 := zb_f t50
      rw [zif_pos z0, zif_pos z0, m1]
      exact f111 (-1) (fun e => absurd e t50) ht
  have v6 : (zI (if qtc tp n b < 6 then qtc tp n b else -1) = zI (-1)) = ¬ qtc tp n b < 6 := by
    rw [zI_eq (by split <;> omega) (by split <;> omega) (by omega) (by omega)]
    apply propext
    split <;> constructor <;> intro e <;> omega
  have sg : zT_isSign (d + 10) (40 : Int32) S = some (zb (qtc tp n b = 140), S) := cT_sign hB hC hb hA (d + 9) (c := 40) (by omega)
  have wd : zT_isWord (d + 10) 12 S = some (zb (qtc tp n b = 12), S) := cT_word hA (d + 9) (i := 12) (by decide)
  rw [eF_readPart, cT_val hA (d + 9), zBs]
  dsimp only
  rw [cT_name hA (d + 9), zBs]
  dsimp only
  rw [wd, zBs]
  dsimp only
  rw [sg, zBs]
  dsimp only
  rw [zb_0, zb_0, zb_0, m1, v6]
  by_cases t50 : qtc tp n b = 50
  · rw [zif_neg (fun e => e t50)]
    exact f74 (by omega)
  · rw [zif_pos t50]
    by_cases t12 : qtc tp n b = 12
    · rw [zif_neg (fun e => e t12)]
      exact f74 (by omega)
    · rw [zif_pos t12]
      by_cases t140 : qtc tp n b = 140
      · rw [zif_neg (fun e => e t140)]
        exact f74 (by omega)
      · rw [zif_pos t140]
        by_cases t6 : qtc tp n b < 6
        · rw [zif_neg (fun e => e t6)]
          exact f74 (by omega)
        · rw [zif_pos t6, cT_num hA (d + 9), zBs]
          dsimp only
          rw [zb_0]
          by_cases t60 : qtc tp n b = 60
          · rw [zif_neg (fun e => e t60)]
            exact f74 (by omega)
          · rw [zif_pos t60, zI_n1]
            refine qPo_f hA hb ?_ ?_ (by decide) (d + 9)
            · unfold qnx
              dsimp only
              rw [if_pos rfl, if_neg (by omega), if_neg (by omega)]
            · unfold qer
              dsimp only
              rw [if_pos rfl, if_neg (by omega), if_neg (by omega)]
end PE
