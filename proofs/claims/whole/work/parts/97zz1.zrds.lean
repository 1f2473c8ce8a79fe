/-! THE TARIFF: a step of the reference's reading -/
section MS
variable {tp : Int → Int} {n : Int} {bt : Int → Int} {m : Int} {l w b : Int} {S : ZS} {c0 : Nat}
/-- no token is wanted: the three ways -/
theorem mT0 (hB : qB tp n) (hD : qD tp n S) (hM : qM tp n S b) (hb : 0 ≤ b ∧ b ≤ n) (d : Nat) : zM_reads_21 (d + 3) (zI l) (zI w) (0 : Int32) S = zif (qtc tp n b = 143 ∨ qtc tp n b = 145 ∨ qtc tp n b = 142) (zM_reads_280 (d + 3) (zI l) (zI w) S) (zif (qtc tp n b = 160 ∨ qtc tp n b = 161) (zM_reads_337 (d + 3) (zI l) (zI w) (0 : Int32) S) (zM_reads_378 (d + 3) (zI l) (zI w) (0 : Int32) S)) := by
  have s43 : zM_isSign (d + 3) (43 : Int32) S = some (zb (qtc tp n b = 143), S) := cM_sign hB hD hb hM (d + 2) (c := 43) (by omega)
  have s45 : zM_isSign (d + 3) (45 : Int32) S = some (zb (qtc tp n b = 145), S) := cM_sign hB hD hb hM (d + 2) (c := 45) (by omega)
  have s42 : zM_isSign (d + 3) (42 : Int32) S = some (zb (qtc tp n b = 142), S) := cM_sign hB hD hb hM (d + 2) (c := 42) (by omega)
  have s60 : zM_isSign (d + 3) (60 : Int32) S = some (zb (qtc tp n b = 160), S) := cM_sign hB hD hb hM (d + 2) (c := 60) (by omega)
  have s61 : zM_isSign (d + 3) (61 : Int32) S = some (zb (qtc tp n b = 161), S) := cM_sign hB hD hb hM (d + 2) (c := 61) (by omega)
  rw [eM_reads_21, zif_pos rfl, s43, zBs]
  dsimp only
  rw [zb_0]
  by_cases t43 : qtc tp n b = 143
  · rw [zif_neg (fun e => e t43), zif_pos (Or.inl t43)]
  rw [zif_pos t43, s45, zBs]
  dsimp only
  rw [zb_0]
  by_cases t45 : qtc tp n b = 145
  · rw [zif_neg (fun e => e t45), zif_pos (Or.inr (Or.inl t45))]
  rw [zif_pos t45, s42, zBs]
  dsimp only
  rw [zb_0]
  by_cases t42 : qtc tp n b = 142
  · rw [zif_neg (fun e => e t42), zif_pos (Or.inr (Or.inr t42))]
  rw [zif_pos t42, s60, zBs, zif_neg (c := qtc tp n b = 143 ∨ qtc tp n b = 145 ∨ qtc tp n b = 142) (by omega)]
  dsimp only
  rw [zb_0]
  by_cases t60 : qtc tp n b = 160
  · rw [zif_neg (fun e => e t60), zif_pos (Or.inl t60)]
  rw [zif_pos t60, s61, zBs]
  dsimp only
  rw [zb_0]
  by_cases t61 : qtc tp n b = 161
  · rw [zif_neg (fun e => e t61), zif_pos (Or.inr t61)]
  rw [zif_pos t61, zif_neg (by omega)]
theorem mT280 (hB : qB tp n) (hD : qD tp n S) (hM : qM tp n S b) (hb : 0 ≤ b ∧ b ≤ n) (d : Nat) : zM_reads_280 (d + 3) (zI l) (zI w) S = (zM_puts (d + 3) (zI (if qtc tp n b = 143 then 20 else if qtc tp n b = 145 then 21 else 22)) S).bind (fun r => (zM_next (d + 3) r).bind (fun r' => zM_reads_21 (d + 3) (zI l) (zI w) (1 : Int32) r')) := by
  have s43 : zM_isSign (d + 3) (43 : Int32) S = some (zb (qtc tp n b = 143), S) := cM_sign hB hD hb hM (d + 2) (c := 43) (by omega)
  have s45 : zM_isSign (d + 3) (45 : Int32) S = some (zb (qtc tp n b = 145), S) := cM_sign hB hD hb hM (d + 2) (c := 45) (by omega)
  rw [eM_reads_280, s43, zBs]
  dsimp only
  rw [zb_0]
  by_cases t43 : qtc tp n b = 143
  · rw [zif_neg (fun e => e t43), if_pos t43]
    rfl
  rw [zif_pos t43, if_neg t43, s45, zBs]
  dsimp only
  rw [zb_0]
  by_cases t45 : qtc tp n b = 145
  · rw [zif_neg (fun e => e t45), if_pos t45]
    rfl
  · rw [zif_pos t45, if_neg t45]
    rfl
theorem mT378 (hB : qB tp n) (hD : qD tp n S) (hM : qM tp n S b) (hb : 0 ≤ b ∧ b ≤ n) (d : Nat) (hw : 0 ≤ w ∧ w ≤ 5) : zM_reads_378 (d + 3) (zI l) (zI w) (0 : Int32) S = zif (qtc tp n b = 10 ∨ qtc tp n b = 11) (zM_reads_398 (d + 3) (zI l) (zI w) S) (zif (qtc tp n b = 141 ∧ 0 < w) ((zM_puts (d + 3) (29 : Int32) S).bind (fun r4 => zM_reads_453 (d + 3) (zI l) (zI (w - 1)) (0 : Int32) r4)) (zM_reads_473 (d + 3) (zI l) (zI w) S)) := by
  have w10 : zM_isWord (d + 3) (1111 : Int64) S = some (zb (qtc tp n b = 10), S) := cM_word hM (d + 2) (i := 10) (by omega) rfl
  have w11 : zM_isWord (d + 3) (423 : Int64) S = some (zb (qtc tp n b = 11), S) := cM_word hM (d + 2) (i := 11) (by omega) rfl
  have s41 : zM_isSign (d + 3) (41 : Int32) S = some (zb (qtc tp n b = 141), S) := cM_sign hB hD hb hM (d + 2) (c := 41) (by omega)
  have ew : (zI w ≤ 0) = (w ≤ 0) := zI_le (a := w) (b := 0) (by omega) (by omega) (by omega) (by omega)
  have es : zI w + (-1 : Int32) = zI (w - 1) := by rw [show (-1 : Int32) = zI (-1) from rfl, zI_add, show w + -1 = w - 1 by omega]
  rw [eM_reads_378, w10, zBs]
  dsimp only
  rw [zb_0]
  by_cases t10 : qtc tp n b = 10
  · rw [zif_neg (fun e => e t10), zif_pos (Or.inl t10)]
  rw [zif_pos t10, w11, zBs]
  dsimp only
  rw [zb_0]
  by_cases t11 : qtc tp n b = 11
  · rw [zif_neg (fun e => e t11), zif_pos (Or.inr t11)]
  rw [zif_pos t11, s41, zBs, zif_neg (c := qtc tp n b = 10 ∨ qtc tp n b = 11) (by omega)]
  dsimp only
  rw [zb_0, ew, es]
  by_cases t41 : qtc tp n b = 141
  · rw [zif_neg (fun e => e t41)]
    by_cases w0 : 0 < w
    · rw [zif_neg (by omega), zif_pos ⟨t41, w0⟩]
    · rw [zif_pos (by omega), zif_neg (fun e => w0 e.2)]
  · rw [zif_pos t41, zif_neg (fun e => t41 e.1)]
theorem mT398 (hM : qM tp n S b) (d : Nat) (hw : 0 ≤ w ∧ w ≤ 5) : zM_reads_398 (d + 3) (zI l) (zI w) S = (zM_puts (d + 3) (zI (if qtc tp n b = 10 then 26 else 27)) S).bind (fun r => (zM_next (d + 3) (zu r.1 100 0 w.toNat (zI 0), r.2)).bind (fun r' => zM_reads_21 (d + 3) (zI l) (zI w) (1 : Int32) r')) := by
  have w10 : zM_isWord (d + 3) (1111 : Int64) S = some (zb (qtc tp n b = 10), S) := cM_word hM (d + 2) (i := 10) (by omega) rfl
  have zi : zin (zI w) 6 = true := by rw [zI_in (by omega) (by omega)]; omega
  have zz : zx (zI w) = w.toNat := zI_zx (by omega) (by omega)
  rw [eM_reads_398, w10, zBs]
  dsimp only
  rw [zb_0]
  by_cases t10 : qtc tp n b = 10
  · rw [zif_neg (fun e => e t10), if_pos t10]
    simp only [zg_t zi, zz, zg_t (show zbl (0 : Int32) = true from rfl)]
    rfl
  · rw [zif_pos t10, if_neg t10]
    simp only [zg_t zi, zz, zg_t (show zbl (0 : Int32) = true from rfl)]
    rfl
theorem mT337 (hB : qB tp n) (hD : qD tp n S) (hM : qM tp n S b) (hb : 0 ≤ b ∧ b ≤ n) (d : Nat) (hw : 0 ≤ w ∧ w ≤ 5) {k : Int} (hk : k = 0 ∨ k = 1) (h100 : S.1 100 0 w.toNat = zI k) : zM_reads_337 (d + 3) (zI l) (zI w) (0 : Int32) S = zif (k = 0) ((zM_puts (d + 3) (zI (if qtc tp n b = 160 then 24 else 25)) S).bind (fun r => (zM_next (d + 3) (zu r.1 100 0 w.toNat (zI 1), r.2)).bind (fun r' => zM_reads_21 (d + 3) (zI l) (zI w) (1 : Int32) r'))) (zM_reads_378 (d + 3) (zI l) (zI w) (0 : Int32) S) := by
  have s60 : zM_isSign (d + 3) (60 : Int32) S = some (zb (qtc tp n b = 160), S) := cM_sign hB hD hb hM (d + 2) (c := 60) (by omega)
  have zi : zin (zI w) 6 = true := by rw [zI_in (by omega) (by omega)]; omega
  have zz : zx (zI w) = w.toNat := zI_zx (by omega) (by omega)
  have ek : (zI k = 0) = (k = 0) := zI_eq (a := k) (b := 0) (by omega) (by omega) (by omega) (by omega)
  rw [eM_reads_337, zg_t zi, zz, h100, ek]
  by_cases k0 : k = 0
  · rw [zif_pos k0, zif_pos k0, s60, zBs]
    dsimp only
    rw [zb_0]
    by_cases t60 : qtc tp n b = 160
    · rw [zif_neg (fun e => e t60), if_pos t60]
      simp only [zg_t zi, zg_t (show zbl (1 : Int32) = true from rfl)]
      rfl
    · rw [zif_pos t60, if_neg t60]
      simp only [zg_t zi, zg_t (show zbl (1 : Int32) = true from rfl)]
      rfl
  · rw [zif_neg k0, zif_neg k0]
/-- an operand -/
theorem mT122 (hN : qNb tp n bt m) (hNm : qNm tp n bt m S) (hM : qM tp n S b) (d : Nat) (hw : 0 ≤ w ∧ w < 5) (ht : qtc tp n b < 6 ∨ qtc tp n b = 50 ∨ qtc tp n b = 60) : zM_reads_122 (d + 3) (zI l) (zI w) (1 : Int32) (zI (if qtc tp n b < 6 then qtc tp n b + 1 else 0)) (zb (qtc tp n b = 12)) (zb (qtc tp n b = 140)) (zb (qtc tp n b = 50)) S =
    (zM_puts (d + 3) (zI (qtl tp n bt m b)) S).bind (fun r => zM_reads_226 (d + 3) (zI l) (zI w) (0 : Int32) r) := by
  have qb := qtc_b (tp := tp) (n := n) (b := b)
  have hm := hN.1
  have e5 : (zI w = 5) = (w = 5) := zI_eq (a := w) (b := 5) (by omega) (by omega) (by omega) (by omega)
  have f0 : (zI (if qtc tp n b < 6 then qtc tp n b + 1 else 0) ≤ 0) = ¬ qtc tp n b < 6 := by
    have e := zI_le (a := if qtc tp n b < 6 then qtc tp n b + 1 else 0) (b := 0) (by split <;> omega) (by split <;> omega) (by omega) (by omega)
    refine Eq.trans e (propext ?_)
    split <;> constructor <;> intro e <;> omega
  rw [eM_reads_122, e5, zif_neg (by omega), f0, zb_0, zb_0, zb_0, zif_pos (by omega), zif_pos (by omega)]
  unfold qtl
  by_cases t6 : qtc tp n b < 6
  · rw [zif_neg (fun e => e t6), if_pos t6, if_neg (by omega), if_neg (by omega)]
  · rw [zif_pos t6]
    by_cases t50 : qtc tp n b = 50
    · rw [zif_neg (fun e => e t50), if_pos t50, zM_nameAt_s hN hNm hM (qtc_n.2 t50).1 (d + 2), zBs]
      dsimp only
      rw [show (10 : Int32) = zI 10 from rfl, zI_add]
    · rw [zif_pos t50, if_neg t50, if_pos (by omega), hM.2.2.2.2 (qtc_2.2 (by omega)), show (100 : Int32) = zI 100 from rfl, zI_add]
/-- not, or a bracket -/
theorem mT122b (d : Nat) (hw : 0 ≤ w ∧ w < 5) (ht : qtc tp n b = 12 ∨ qtc tp n b = 140) : zM_reads_122 (d + 3) (zI l) (zI w) (1 : Int32) (zI (if qtc tp n b < 6 then qtc tp n b + 1 else 0)) (zb (qtc tp n b = 12)) (zb (qtc tp n b = 140)) (zb (qtc tp n b = 50)) S =
    (zM_puts (d + 3) (zI (if qtc tp n b = 12 then 30 else 28)) S).bind (fun r => (zM_next (d + 3) (zu (zu r.1 99 0 (w + 1).toNat (zI (if qtc tp n b = 12 then 1 else 2))) 100 0 (w + 1).toNat (zI 0), r.2)).bind (fun r' => zM_reads_21 (d + 3) (zI l) (zI (w + 1)) (1 : Int32) r')) := by
  have e5 : (zI w = 5) = (w = 5) := zI_eq (a := w) (b := 5) (by omega) (by omega) (by omega) (by omega)
  have zi : zin (zI (w + 1)) 6 = true := by rw [zI_in (by omega) (by omega)]; omega
  have zz : zx (zI (w + 1)) = (w + 1).toNat := zI_zx (by omega) (by omega)
  have e1 : zI w + (1 : Int32) = zI (w + 1) := zI_add w 1
  rw [eM_reads_122, e5, zif_neg (by omega), zb_0, zb_0]
  by_cases t12 : qtc tp n b = 12
  · rw [zif_neg (fun e => e t12), zif_neg (fun e => e t12), eM_reads_156, zb_0]
    simp only [zif_neg (show ¬ ¬ qtc tp n b = 12 from fun e => e t12), e1, zg_t zi, zz, zg_t (show zbl (0 : Int32) = true from rfl), if_pos t12]
    rfl
  · rw [zif_pos t12, zif_neg (by omega), zif_pos t12, eM_reads_156, zb_0]
    simp only [zif_pos t12, e1, zg_t zi, zz, zg_t (show zbl (0 : Int32) = true from rfl), if_neg t12]
    rfl
/-- a step -/
theorem mSt (hB : qB tp n) (hN : qNb tp n bt m) (d : Nat) {s s1 : QS} (h : qMs tp n bt m c0 s S) (hwa : s.2.1 = 0 ∨ s.2.1 = 1) (hq : qnx tp n bt m s = some s1) :
    ∃ S', zM_reads_21 (d + 3) (zI l) (zI s.2.2.1) (zI s.2.1) S = zM_reads_21 (d + 3) (zI l) (zI s1.2.2.1) (zI s1.2.1) S' ∧ qMs tp n bt m c0 s1 S' ∧ qFm c0 S S' ∧ (s1.2.1 = 0 ∨ s1.2.1 = 1) := by
  obtain ⟨b, wa, w, op, cm, R⟩ := s
  obtain ⟨⟨hM, hD, hNm⟩, ⟨hb, hw, hc⟩, ⟨h54, hL⟩, h99, h100⟩ := id h
  dsimp only at hM hb hw hc h54 hL h99 h100 hwa
  have bn := hB.1
  have hbn : b < n := by
    refine qtc_l (tp := tp) (n := n) (b := b) (fun e => ?_)
    unfold qnx at hq
    dsimp only at hq
    rw [e] at hq
    by_cases q : wa = 1
    · rw [if_pos q, if_neg (by omega), if_neg (by omega)] at hq
      cases hq
    · rw [if_neg q, if_neg (by omega), if_neg (by omega), if_neg (by omega), if_neg (by omega)] at hq
      cases hq
  have lc : 0 ≤ (R.length : Int) := by omega
  have c20 : 0 ≤ (c0 : Int) + R.length ∧ (c0 : Int) + R.length < 2000 := by omega
  have tn : ((c0 : Int) + R.length).toNat = c0 + R.length := by omega
  -- after a put
  have put : ∀ v : Int, zM_puts (d + 3) (zI v) S = some (zu (zu S.1 98 0 (c0 + R.length) (zI v)) 11 0 54 (zI ((c0 : Int) + R.length + 1)), S.2) := fun v => by rw [zM_puts_s (d + 2) c20 h54, tn]
  have fp : ∀ v : Int, qFm c0 S (zu (zu S.1 98 0 (c0 + R.length) (zI v)) 11 0 54 (zI ((c0 : Int) + R.length + 1)), S.2) := fun v => qFm_p c0 S (by omega) _ _
  unfold qnx at hq
  dsimp only at hq
  rcases hwa with hwa | hwa
  · -- nothing is wanted
    subst hwa
    rw [if_neg (by decide)] at hq
    dsimp only
    rw [show zI 0 = (0 : Int32) from rfl, mT0 hB hD hM hb d]
    by_cases t1 : qtc tp n b = 143 ∨ qtc tp n b = 145 ∨ qtc tp n b = 142
    · rw [if_pos t1] at hq
      rw [zif_pos t1, mT280 hB hD hM hb d, put, zBs]
      obtain ⟨S2, e2, m2, f2⟩ := mNx hB (d + 1) (v := (if qtc tp n b = 143 then 20 else if qtc tp n b = 145 then 21 else 22)) (wa := 1) h hbn (fp (if qtc tp n b = 143 then 20 else if qtc tp n b = 145 then 21 else 22)) hM rfl (fun _ => rfl) hw h99 h100
      have e2 : zM_next (d + 3) _ = some S2 := e2
      rw [e2, zBs, ← Option.some.inj hq]
      exact ⟨S2, rfl, m2, f2, Or.inr rfl⟩
    rw [if_neg t1] at hq
    rw [zif_neg t1]
    have g100 := h100 w hw.1 (Int.le_refl w)
    have up100 : ∀ v c : Int, c = 0 ∨ c = 1 → ∀ d', 0 ≤ d' → d' ≤ w → (zu (zu (zu S.1 98 0 (c0 + R.length) (zI v)) 11 0 54 (zI ((c0 : Int) + R.length + 1))) 100 0 w.toNat (zI c)) 100 0 d'.toNat = zI (qw cm w c d') ∧ (qw cm w c d' = 0 ∨ qw cm w c d' = 1) := by
      intro v c hc d' a b
      by_cases q : d' = w
      · rw [q, qw_s]
        exact ⟨zu_same _ 100 0 _ _, hc⟩
      · rw [qw_n cm c q]
        have := h100 d' a b
        exact ⟨(zu_pl (zu (zu S.1 98 0 (c0 + R.length) (zI v)) 11 0 54 (zI ((c0 : Int) + R.length + 1))) (by omega)).trans this.1, this.2⟩
    by_cases t2 : (qtc tp n b = 160 ∨ qtc tp n b = 161) ∧ cm w = 0
    · rw [if_pos t2] at hq
      rw [zif_pos t2.1, mT337 hB hD hM hb d hw g100.2 g100.1, zif_pos t2.2, put, zBs]
      obtain ⟨S2, e2, m2, f2⟩ := mNx hB (d + 1) (v := (if qtc tp n b = 160 then 24 else 25)) (wa := 1) h hbn (qFm_u (fp (if qtc tp n b = 160 then 24 else 25)) (Or.inr rfl) w.toNat (zI 1)) hM rfl (fun _ => rfl) hw h99 (up100 (if qtc tp n b = 160 then 24 else 25) 1 (Or.inr rfl))
      have e2 : zM_next (d + 3) _ = some S2 := e2
      rw [e2, zBs, ← Option.some.inj hq]
      exact ⟨S2, rfl, m2, f2, Or.inr rfl⟩
    rw [if_neg t2] at hq
    have e378 : zif (qtc tp n b = 160 ∨ qtc tp n b = 161) (zM_reads_337 (d + 3) (zI l) (zI w) (0 : Int32) S) (zM_reads_378 (d + 3) (zI l) (zI w) (0 : Int32) S) = zM_reads_378 (d + 3) (zI l) (zI w) (0 : Int32) S := by
      by_cases q : qtc tp n b = 160 ∨ qtc tp n b = 161
      · rw [zif_pos q, mT337 hB hD hM hb d hw g100.2 g100.1, zif_neg (fun e => t2 ⟨q, e⟩)]
      · rw [zif_neg q]
    rw [e378, mT378 hB hD hM hb d hw]
    by_cases t3 : qtc tp n b = 10 ∨ qtc tp n b = 11
    · rw [if_pos t3] at hq
      rw [zif_pos t3, mT398 hM d hw, put, zBs]
      obtain ⟨S2, e2, m2, f2⟩ := mNx hB (d + 1) (v := (if qtc tp n b = 10 then 26 else 27)) (wa := 1) h hbn (qFm_u (fp (if qtc tp n b = 10 then 26 else 27)) (Or.inr rfl) w.toNat (zI 0)) hM rfl (fun _ => rfl) hw h99 (up100 (if qtc tp n b = 10 then 26 else 27) 0 (Or.inl rfl))
      have e2 : zM_next (d + 3) _ = some S2 := e2
      rw [e2, zBs, ← Option.some.inj hq]
      exact ⟨S2, rfl, m2, f2, Or.inr rfl⟩
    rw [if_neg t3] at hq
    rw [zif_neg t3]
    by_cases t4 : qtc tp n b = 141 ∧ 0 < w
    · rw [if_pos t4] at hq
      have wb := qpp_b (op := op) (w - 1).toNat (w - 1) (by omega)
      have p29 : zM_puts (d + 3) (29 : Int32) S = some (zu (zu S.1 98 0 (c0 + R.length) (zI 29)) 11 0 54 (zI ((c0 : Int) + R.length + 1)), S.2) := put 29
      rw [zif_pos t4, p29, zBs, zM_reads_453_s (S := (zu (zu S.1 98 0 (c0 + R.length) (zI 29)) 11 0 54 (zI ((c0 : Int) + R.length + 1)), S.2)) op 0 (d + 3) (w - 1).toNat (w - 1) (by omega) (by omega) (fun d' a b => h99 d' a (by omega))]
      obtain ⟨S2, e2, m2, f2⟩ := mNx hB (d + 1) (v := 29) (wa := 0) (w' := qpp (w - 1).toNat op (w - 1)) h hbn (fp 29) hM rfl (fun _ => rfl) (by omega) (fun d' a b => h99 d' a (by omega)) (fun d' a b => h100 d' a (by omega))
      have e2 : zM_next (d + 3) _ = some S2 := e2
      rw [e2, zBs, ← Option.some.inj hq]
      exact ⟨S2, rfl, m2, f2, Or.inl rfl⟩
    · rw [if_neg t4] at hq
      cases hq
  · -- a token is wanted
    subst hwa
    rw [if_pos rfl] at hq
    dsimp only
    rw [show zI 1 = (1 : Int32) from rfl, mT21 hB hD hM hb d]
    by_cases t1 : qtc tp n b < 6 ∨ qtc tp n b = 50 ∨ qtc tp n b = 60
    · rw [if_pos t1] at hq
      by_cases sl : qtc tp n b = 50 ∧ qsl tp n bt m b < 0
      · rw [if_pos sl] at hq
        cases hq
      rw [if_neg sl] at hq
      by_cases w5 : w = 5
      · rw [if_pos w5] at hq
        cases hq
      rw [if_neg w5] at hq
      have wb := qpp_b (op := op) w.toNat w (by omega)
      rw [mT68 hN hNm hM d (by omega) (fun e => by omega), mT122 hN hNm hM d (by omega) t1, put, zBs, zM_reads_226_s (S := (zu (zu S.1 98 0 (c0 + R.length) (zI (qtl tp n bt m b))) 11 0 54 (zI ((c0 : Int) + R.length + 1)), S.2)) op 0 (d + 3) w.toNat w (by omega) (by omega) h99]
      obtain ⟨S2, e2, m2, f2⟩ := mNx hB (d + 1) (v := (qtl tp n bt m b)) (wa := 0) (w' := qpp w.toNat op w) h hbn (fp (qtl tp n bt m b)) hM rfl (fun _ => rfl) (by omega) (fun d' a b => h99 d' a (by omega)) (fun d' a b => h100 d' a (by omega))
      have e2 : zM_next (d + 3) _ = some S2 := e2
      rw [e2, zBs, ← Option.some.inj hq]
      exact ⟨S2, rfl, m2, f2, Or.inl rfl⟩
    rw [if_neg t1] at hq
    by_cases t2 : qtc tp n b = 12 ∨ qtc tp n b = 140
    · rw [if_pos t2] at hq
      by_cases w5 : w = 5
      · rw [if_pos w5] at hq
        cases hq
      rw [if_neg w5] at hq
      rw [mT68 hN hNm hM d (by omega) (fun e => by omega), mT122b d (by omega) t2, put, zBs]
      have h99' : ∀ d', 1 ≤ d' → d' ≤ w + 1 → (zu (zu (zu (zu S.1 98 0 (c0 + R.length) (zI (if qtc tp n b = 12 then 30 else 28))) 11 0 54 (zI ((c0 : Int) + R.length + 1))) 99 0 (w + 1).toNat (zI (if qtc tp n b = 12 then 1 else 2))) 100 0 (w + 1).toNat (zI 0)) 99 0 d'.toNat = zI (qw op (w + 1) (if qtc tp n b = 12 then 1 else 2) d') ∧ (qw op (w + 1) (if qtc tp n b = 12 then 1 else 2) d' = 1 ∨ qw op (w + 1) (if qtc tp n b = 12 then 1 else 2) d' = 2) := by
        intro d' a b
        by_cases q : d' = w + 1
        · rw [q, qw_s]
          refine ⟨?_, by split <;> omega⟩
          exact zu_same (zu (zu S.1 98 0 (c0 + R.length) (zI (if qtc tp n _ = 12 then 30 else 28))) 11 0 54 (zI ((c0 : Int) + R.length + 1))) 99 0 (w + 1).toNat _
        · rw [qw_n op _ q]
          have := h99 d' a (by omega)
          exact ⟨(show (zu (zu (zu S.1 98 0 (c0 + R.length) (zI (if qtc tp n _ = 12 then 30 else 28))) 11 0 54 (zI ((c0 : Int) + R.length + 1))) 99 0 (w + 1).toNat (zI (if qtc tp n _ = 12 then 1 else 2))) 99 0 d'.toNat = S.1 99 0 d'.toNat from zu_pl (zu (zu S.1 98 0 (c0 + R.length) (zI (if qtc tp n _ = 12 then 30 else 28))) 11 0 54 (zI ((c0 : Int) + R.length + 1))) (by omega)).trans this.1, this.2⟩
      have h100' : ∀ d', 0 ≤ d' → d' ≤ w + 1 → (zu (zu (zu (zu S.1 98 0 (c0 + R.length) (zI (if qtc tp n b = 12 then 30 else 28))) 11 0 54 (zI ((c0 : Int) + R.length + 1))) 99 0 (w + 1).toNat (zI (if qtc tp n b = 12 then 1 else 2))) 100 0 (w + 1).toNat (zI 0)) 100 0 d'.toNat = zI (qw cm (w + 1) 0 d') ∧ (qw cm (w + 1) 0 d' = 0 ∨ qw cm (w + 1) 0 d' = 1) := by
        intro d' a b
        by_cases q : d' = w + 1
        · rw [q, qw_s]
          exact ⟨zu_same _ 100 0 _ _, Or.inl rfl⟩
        · rw [qw_n cm _ q]
          have := h100 d' a (by omega)
          exact ⟨(zu_pl (zu (zu (zu S.1 98 0 (c0 + R.length) (zI (if qtc tp n _ = 12 then 30 else 28))) 11 0 54 (zI ((c0 : Int) + R.length + 1))) 99 0 (w + 1).toNat (zI (if qtc tp n _ = 12 then 1 else 2))) (by omega)).trans this.1, this.2⟩
      obtain ⟨S2, e2, m2, f2⟩ := mNx hB (d + 1) (v := (if qtc tp n b = 12 then 30 else 28)) (wa := 1) (w' := w + 1) h hbn (qFm_u (qFm_u (fp (if qtc tp n b = 12 then 30 else 28)) (Or.inl rfl) (w + 1).toNat (zI (if qtc tp n b = 12 then 1 else 2))) (Or.inr rfl) (w + 1).toNat (zI 0)) hM rfl (fun _ => rfl) (by omega) h99' h100'
      have e2 : zM_next (d + 3) _ = some S2 := e2
      rw [e2, zBs, ← Option.some.inj hq]
      exact ⟨S2, rfl, m2, f2, Or.inr rfl⟩
    · rw [if_neg t2] at hq
      cases hq
end MS
