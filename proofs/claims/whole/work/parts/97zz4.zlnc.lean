/-! THE TARIFF: the class reads a line -/
def qFu (u : Nat) (S S' : ZS) : Prop := (∀ t i k, t ≠ 6 → ¬ (i = u ∧ (t = 7 ∨ (42 ≤ t ∧ t ≤ 45))) → S'.1 t i k = S.1 t i k) ∧ S'.1 6 0 1 = S.1 6 0 1 ∧ (∀ t i k, ¬ (t = 46 ∧ i = u) → S'.2.1 t i k = S.2.1 t i k) ∧ (∀ t, t ≠ 6 → S'.2.2.1 t = S.2.2.1 t) ∧ S'.2.2.2 = S.2.2.2
theorem qFu_r (u : Nat) (S : ZS) : qFu u S S := ⟨fun _ _ _ _ _ => rfl, rfl, fun _ _ _ _ => rfl, fun _ _ => rfl, rfl⟩
theorem qFu_t {u : Nat} {S S' S'' : ZS} (h : qFu u S S') (k : qFu u S' S'') : qFu u S S'' := ⟨fun t i s a b => (k.1 t i s a b).trans (h.1 t i s a b), k.2.1.trans h.2.1, fun t i s a => (k.2.2.1 t i s a).trans (h.2.2.1 t i s a), fun t ht => (k.2.2.2.1 t ht).trans (h.2.2.2.1 t ht), k.2.2.2.2.trans h.2.2.2.2⟩
theorem qFu_ft {u : Nat} {S S' : ZS} (h : qFt u S S') : qFu u S S' := ⟨fun t i k a b => h.1 t i k a (fun e => b ⟨e.1, by omega⟩), h.2.1, fun t i k _ => by rw [h.2.2.1], h.2.2.2.1, h.2.2.2.2⟩
theorem qFu_6 {u : Nat} {S S' : ZS} (h : qF6 S S') : qFu u S S' := qFu_ft (qFt_6 h)
theorem qFu_u {u : Nat} {S S' : ZS} (h : qFu u S S') {t : Nat} (ht : t = 7 ∨ (42 ≤ t ∧ t ≤ 45)) (k : Nat) (v : Int32) : qFu u S (zu S'.1 t u k v, S'.2) := ⟨fun t' i k' a b => (show zu S'.1 t u k v t' i k' = S'.1 t' i k' from if_neg (fun e => b ⟨e.2.1, by omega⟩)).trans (h.1 t' i k' a b), (show zu S'.1 t u k v 6 0 1 = S'.1 6 0 1 from if_neg (fun e => by omega)).trans h.2.1, h.2.2.1, h.2.2.2.1, h.2.2.2.2⟩
section LC
variable {tp : Int → Int} {n : Int} {bt : Int → Int} {m : Int} {u : Nat} {b c : Int} {S : ZS}
theorem qC_u {S S' : ZS} (h : qC tp n S) (f : qFu u S S') : qC tp n S' := ⟨f.2.1.trans h.1, fun i a b => (f.1 41 0 _ (by decide) (fun e => by omega)).trans (h.2 i a b)⟩
/-- an expression, and the semicolon -/
theorem cEx (hB : qB tp n) (hN : qNb tp n bt m) (d : Nat) (hC : qC tp n S) (hA : qA tp n S b) (hNc : qNc tp n bt m u S) (hb : 0 ≤ b ∧ b ≤ n) (h7 : S.1 7 u 7 = zI c) (hc : 0 ≤ c ∧ c ≤ b) (K : ZS → Option (Int32 × ZS)) (Q : Int32 × ZS → Prop)
    (hf : ∀ x s', qRd tp n bt m b s' → qer tp n bt m s' ≠ 0 → qFt u S x → x.1 7 u 1 = zI (qer tp n bt m s' + 16 * s'.1) → Q ((0 : Int32), x))
    (hs : ∀ x s' C v, qRd tp n bt m b s' → qer tp n bt m s' = 0 → qFt u S x → (∀ i, i < c.toNat → x.1 45 u i = S.1 45 u i) → x.1 7 u 1 = S.1 7 u 1 → qA tp n x (znx tp n s'.1) → x.1 7 u 7 = zI (c + C.length) → c + C.length ≤ s'.1 → qLs (x.1 45 u) c.toNat C → qWl m C → qXl m s'.2.2.2.2.2 → qP 0 0 C v → qR0 0 s'.2.2.2.2.2 v → zwp (K x) Q) :
    zwp ((zF_readOperations (d + 51) u (0 : Int32) (0 : Int32) S).bind (fun r8 => zif (r8.1 = 0) (some ((0 : Int32), r8.2)) ((zF_passSign (d + 51) u (59 : Int32) r8.2).bind (fun r9 => zif (r9.1 = 0) (some ((0 : Int32), r9.2)) (K r9.2))))) Q := by
  obtain ⟨x, ex, px⟩ := qOp_s (u := u) hB hN d b c (fun _ => 0) (fun _ => 0) [] S ⟨hC, hA, hNc, hb, h7, hc, fun _ => Or.inl rfl, fun _ => rfl⟩
  have ex : zF_readOperations (d + 51) u (0 : Int32) (0 : Int32) S = some x := ex
  rw [ex, zBs]
  rcases px with ⟨x0, g, s', r1, r2, r3, r4, -⟩ | ⟨x1, b', op', cm', C, R, v, ⟨⟨p1, p2, p3, p4, p5, p6⟩, ⟨p7, p8, p9, p10⟩, p11, p12, p13, p14, p15, p16⟩, no⟩
  · rw [zif_pos x0, zwp_some]
    exact hf x.2 s' ⟨r1, r2⟩ r3 g r4
  · have hb' : 0 ≤ b' ∧ b' ≤ n := by omega
    have p13 : qrc tp n bt m (q0 b) (b', 0, 0, op', cm', R) := p13
    have n1 := no.1 (by omega)
    have n2 := no.2.1 (by omega)
    have n3 := no.2.2.1 (by omega)
    have n4 := no.2.2.2 (by omega)
    have s2 : qnx tp n bt m (b', 0, 0, op', cm', R) = none := by
      unfold qnx
      dsimp only
      rw [if_neg (by decide), if_neg (by omega), if_neg (fun e => n3 e.1 e.2), if_neg (by omega), if_neg (by omega)]
    have ps : zF_passSign (d + 51) u (59 : Int32) x.2 = zif (qtc tp n b' = 100 + 59) ((zT_next (d + 50) x.2).bind (fun r3 => some ((1 : Int32), r3))) ((zF_fail (d + 50) u (zI 1) x.2).bind (fun r => zgb r.1 (some (r.1, r.2)))) := cF_passSign (u := u) hB (qC_t hC p1) hb' p4 (d + 43) (k := 59) (by omega)
    rw [zif_neg (by rw [x1]; decide), ps]
    by_cases t : qtc tp n b' = 100 + 59
    · have s3 : qer tp n bt m (b', 0, 0, op', cm', R) = 0 := by
        unfold qer
        dsimp only
        rw [if_neg (by decide), if_pos ⟨by omega, rfl⟩]
      obtain ⟨S3, e3, hA3, f3⟩ := zT_next_s hB (qC_t hC p1) (d + 43) hb' p4
      have e3 : zT_next (d + 50) x.2 = some S3 := e3
      have g3 : qFt u S S3 := qFt_t p1 (qFt_6 f3)
      have d45 : ∀ i, S3.1 45 u i = x.2.1 45 u i := fun i => congrFun (congrFun (f3.1 45 (by decide)) u) i
      have d7 : ∀ i, S3.1 7 u i = x.2.1 7 u i := fun i => congrFun (congrFun (f3.1 7 (by decide)) u) i
      rw [zif_pos t, e3, zBs, zBs]
      dsimp only
      rw [zif_neg (by decide)]
      exact hs S3 (b', 0, 0, op', cm', R) C v ⟨p13, s2⟩ s3 g3 (fun i hi => (d45 i).trans (p2 i hi)) ((d7 1).trans p3) hA3 ((d7 7).trans p5) (by show c + (C.length : Int) ≤ b'; omega) (qLs_f _ _ p6 (fun i _ _ => d45 i)) p9 p10 p11 (p12.1 rfl)
    · have s3 : qer tp n bt m (b', 0, 0, op', cm', R) = 1 := by
        unfold qer
        dsimp only
        rw [if_neg (by decide), if_neg (by omega)]
      obtain ⟨y, ey, y0, fy⟩ := qFl_h (u := u) (bt := bt) (m := m) p4 (s := (b', 0, 0, op', cm', R)) rfl hb' s2 s3 (by decide) (d + 49)
      have ey : (zF_fail (d + 50) u (zI 1) x.2).bind (fun r => zgb r.1 (some (r.1, r.2))) = some y := ey
      obtain ⟨g, s', q1, q2, q3, q4, q5⟩ := fy
      rw [zif_neg t, ey, zBs, zif_pos y0, zwp_some]
      exact hf y.2 s' ⟨qrc_t tp n bt m p13 q1, q2⟩ q3 (qFt_t p1 g) q4
theorem cPF (hB : qB tp n) (hC : qC tp n S) (hb : 0 ≤ b ∧ b ≤ n) (hA : qA tp n S b) (d : Nat) {L : Int} (hL : 0 ≤ L ∧ L ≤ 16) (h2 : S.1 7 u 2 = zI L) :
    zF_passFirst (d + 8) u S = zif (qtc tp n b = 6 ∨ qtc tp n b = 7) (zif (L = 16) ((zF_fail (d + 7) u (zI 5) S).bind (fun r => zgb r.1 (some (r.1, r.2)))) ((zT_next (d + 7) S).bind (fun r => some ((1 : Int32), r)))) ((zF_fail (d + 7) u (zI 1) S).bind (fun r => zgb r.1 (some (r.1, r.2)))) := by
  have w6 : zT_isWord (d + 7) 6 S = some (zb (qtc tp n b = 6), S) := cT_word hA (d + 6) (i := 6) (by decide)
  have w7 : zT_isWord (d + 7) 7 S = some (zb (qtc tp n b = 7), S) := cT_word hA (d + 6) (i := 7) (by decide)
  have eL : (zI L = 16) = (L = 16) := zI_eq (a := L) (b := 16) (by omega) (by omega) (by omega) (by omega)
  rw [eF_passFirst, w6, zBs]
  dsimp only
  rw [zb_0, h2, eL]
  by_cases t6 : qtc tp n b = 6
  · rw [zif_neg (fun e => e t6), zif_pos (Or.inl t6)]
    rfl
  rw [zif_pos t6, w7, zBs]
  dsimp only
  rw [zb_0, h2, eL]
  by_cases t7 : qtc tp n b = 7
  · rw [zif_neg (fun e => e t7), zif_pos (Or.inr t7)]
    rfl
  · rw [zif_pos t7, zif_neg (by omega)]
    rfl
theorem cPW (hA : qA tp n S b) (d : Nat) {i : Nat} (hi : i < 13) : zF_passWord (d + 8) u i S = zif (qtc tp n b = i) ((zT_next (d + 7) S).bind (fun r => some ((1 : Int32), r))) ((zF_fail (d + 7) u (zI 1) S).bind (fun r => zgb r.1 (some (r.1, r.2)))) := by
  rw [eF_passWord, cT_word hA (d + 6) hi, zBs]
  dsimp only
  rw [zb_0]
  by_cases q : qtc tp n b = i
  · rw [zif_neg (fun e => e q), zif_pos q]
  · rw [zif_pos q, zif_neg q]
    rfl
theorem cNW (hB : qB tp n) (hC : qC tp n S) (hb : 0 ≤ b ∧ b ≤ n) (hA : qA tp n S b) (d : Nat) {lo hi : Int} (hl : 0 ≤ lo ∧ lo ≤ 9999) (hh : 0 ≤ hi ∧ hi ≤ 9999) : zF_isNumberWithin (d + 2) u (zI lo) (zI hi) S = zif (qtc tp n b = 60) (zif (lo ≤ znv tp n b ∧ znv tp n b ≤ hi) (some ((1 : Int32), S)) ((zF_fail (d + 1) u (zI 4) S).bind (fun r => zgb r.1 (some (r.1, r.2))))) ((zF_fail (d + 1) u (zI 1) S).bind (fun r => zgb r.1 (some (r.1, r.2)))) := by
  have f4 : (zF_fail (d + 1) u (zI 4) S).bind (fun r => zgb r.1 (some (r.1, r.2))) = some (zI 0, ((zu S.1 7 u 1 (zI (4 + 16 * b))), S.2)) := zF_fail_s hA d u 4
  have f4' : zF_fail (d + 1) u (4 : Int32) S = some ((0 : Int32), ((zu S.1 7 u 1 (zI (4 + 16 * b))), S.2)) := by
    rw [eF_fail, hA.1, zI_n16, zI_mul, zI_n4, zI_add]
  rw [eF_isNumberWithin, cT_num hA d, zBs]
  dsimp only
  rw [zb_0]
  by_cases t : qtc tp n b = 60
  · have k2 := qtc_2.2 t
    have vb := znv_b k2
    rw [zif_neg (fun e => e t), zif_pos t, zT_number_s hB hC hb hA d k2, zBs]
    dsimp only
    rw [zI_lt (by omega) (by omega) (by omega) (by omega)]
    by_cases l : znv tp n b < lo
    · rw [zif_pos l, zif_neg (by omega), f4, f4', zBs]
      exact zif_pos rfl
    · rw [zif_neg l, zT_number_s hB hC hb hA d k2, zBs]
      dsimp only
      rw [zI_le (by omega) (by omega) (by omega) (by omega)]
      by_cases h : znv tp n b ≤ hi
      · rw [zif_pos h, zif_pos ⟨by omega, h⟩]
      · rw [zif_neg h, zif_neg (fun e => h e.2), f4, f4', zBs]
        exact zif_pos rfl
  · rw [zif_pos t, zif_neg t]
    rfl
/-- what reading a line comes to -/
def qLx (tp : Int → Int) (n : Int) (u : Nat) (st : QL) (cs : Int) (S : ZS) (x : Int32 × ZS) : Prop := qFu u S x.2 ∧
  ((x.1 = 0 ∧ ∃ f, x.2.1 7 u 1 = zI f ∧ qLF tp n st f) ∨
   (x.1 = 1 ∧ ∃ s' C v, ((qHd tp n st.2.2.2.1 (st.2.2.1 st.2.1) st.2.1 st.1).1 = 0 ∧ qRd tp n st.2.2.2.1 (st.2.2.1 st.2.1) (qHd tp n st.2.2.2.1 (st.2.2.1 st.2.1) st.2.1 st.1).2 s' ∧ qer tp n st.2.2.2.1 (st.2.2.1 st.2.1) s' = 0) ∧
    (qA tp n x.2 (znx tp n s'.1) ∧ x.2.1 7 u 1 = S.1 7 u 1 ∧ x.2.1 7 u 2 = S.1 7 u 2 ∧ x.2.1 7 u 7 = zI (cs + C.length) ∧ cs + C.length ≤ s'.1 ∧ qLs (x.2.1 45 u) cs.toNat C ∧ (∀ i, i < cs.toNat → x.2.1 45 u i = S.1 45 u i)) ∧
    (qWl (st.2.2.1 st.2.1) C ∧ qXl (st.2.2.1 st.2.1) s'.2.2.2.2.2 ∧ qP 0 0 C v ∧ qR0 0 s'.2.2.2.2.2 v) ∧
    ((qtc tp n st.1 = 6 ∧ x.2.1 7 u 8 = zI (st.2.2.1 st.2.1 + 1) ∧ x.2.2.1 46 u (st.2.2.1 st.2.1).toNat = zJ (zwc tp n (znx tp n st.1)) ∧ (∀ i, i ≠ (st.2.2.1 st.2.1).toNat → x.2.2.1 46 u i = S.2.1 46 u i) ∧ x.2.1 42 u st.2.1.toNat = zI (-1)) ∨ (qtc tp n st.1 ≠ 6 ∧ x.2.1 7 u 8 = S.1 7 u 8 ∧ (∀ i, x.2.2.1 46 u i = S.2.1 46 u i) ∧ x.2.1 42 u st.2.1.toNat = zI (znv tp n (znx tp n st.1)) ∧ x.2.1 43 u st.2.1.toNat = zI (znv tp n (znx tp n (znx tp n (znx tp n st.1)))))) ∧
    (∀ t, t = 42 ∨ t = 43 → ∀ i, i ≠ st.2.1.toNat → x.2.1 t u i = S.1 t u i) ∧ (∀ i, x.2.1 44 u i = S.1 44 u i)))
end LC
