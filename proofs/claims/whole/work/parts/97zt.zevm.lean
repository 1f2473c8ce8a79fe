/-! THE TARIFF: the reference reckons a code -/
def qFc (F : QF) (S : ZS) : Prop := ∀ d : Int, 0 ≤ d → d < 6 → ∀ k : Nat, k < 9 → S.1 (101 + k) 0 d.toNat = F d k
/-- only the cells of the reckoning change -/
def qFe (S S' : ZS) : Prop := (∀ t, ¬ (101 ≤ t ∧ t ≤ 109) → S'.1 t = S.1 t) ∧ S'.2 = S.2
theorem qFe_r (S : ZS) : qFe S S := ⟨fun _ _ => rfl, rfl⟩
theorem qFe_t {S S' S'' : ZS} (h : qFe S S') (k : qFe S' S'') : qFe S S'' := ⟨fun t n => (k.1 t n).trans (h.1 t n), k.2.trans h.2⟩
theorem qFe_u (S : ZS) {k : Nat} (hk : k < 9) (s : Nat) (v : Int32) : qFe S (zu S.1 (101 + k) 0 s v, S.2) := ⟨fun t n => by
  funext i k'
  exact zu_tag S.1 (by omega), rfl⟩
theorem qFc_u {F : QF} {S : ZS} (h : qFc F S) {d : Int} (hd : 0 ≤ d ∧ d < 6) {k : Nat} (hk : k < 9) (v : Int32) : qFc (qu F d k v) (zu S.1 (101 + k) 0 d.toNat v, S.2) := by
  intro d' h0 h1 k' hk'
  show (if 101 + k' = 101 + k ∧ 0 = 0 ∧ d'.toNat = d.toNat then v else S.1 (101 + k') 0 d'.toNat) = (if d' = d ∧ k' = k then v else F d' k')
  by_cases q : d' = d ∧ k' = k
  · rw [if_pos q, if_pos ⟨by omega, rfl, by omega⟩]
  · rw [if_neg q, if_neg (fun e => q ⟨by omega, by omega⟩)]
    exact h d' h0 h1 k' hk'
section EM
variable {F : QF} {S : ZS} {w : Int}
theorem zM_opens_s (h : qFc F S) (hw : 0 ≤ w ∧ w < 6) (d : Nat) : zwp (zM_opens (d + 1) (zI w) S) (fun S' => qFc (qopn F w) S' ∧ qFe S S') := by
  have zi : zin (zI w) 6 = true := by rw [zI_in (by omega) (by omega)]; omega
  rw [eM_opens, zg_t zi, zg_t zi, zg_t zi, zg_t zi, zg_t zi, zg_t (by decide), zI_zx (by omega) (by omega), zwp_some]
  have h1 := qFc_u h hw (k := 1) (by decide) 0
  have h2 := qFc_u h1 hw (k := 3) (by decide) 0
  have h3 := qFc_u h2 hw (k := 4) (by decide) 0
  have h4 := qFc_u h3 hw (k := 5) (by decide) 20
  have h5 := qFc_u h4 hw (k := 7) (by decide) 0
  have f1 := qFe_u S (k := 1) (by decide) w.toNat 0
  have f2 := qFe_t f1 (qFe_u _ (k := 3) (by decide) w.toNat 0)
  have f3 := qFe_t f2 (qFe_u _ (k := 4) (by decide) w.toNat 0)
  have f4 := qFe_t f3 (qFe_u _ (k := 5) (by decide) w.toNat 20)
  have f5 := qFe_t f4 (qFe_u _ (k := 7) (by decide) w.toNat 0)
  exact ⟨h5, f5⟩
theorem zM_sums_s (h : qFc F S) (hw : 0 ≤ w ∧ w < 6) (d : Nat) : zwp (zM_sums (d + 1) (zI w) S) (fun S' => qFc (qsum F w) S' ∧ qFe S S') := by
  have zi : zin (zI w) 6 = true := by rw [zI_in (by omega) (by omega)]; omega
  have c5 : S.1 106 0 w.toNat = F w 5 := h w hw.1 hw.2 5 (by decide)
  have c4 : S.1 105 0 w.toNat = F w 4 := h w hw.1 hw.2 4 (by decide)
  have c6 : S.1 107 0 w.toNat = F w 6 := h w hw.1 hw.2 6 (by decide)
  have fin : ∀ v, v = qsv F w → qFc (qsum F w) ((zu (zu S.1 105 0 w.toNat v) 108 0 w.toNat (0 : Int32)), S.2) ∧ qFe S ((zu (zu S.1 105 0 w.toNat v) 108 0 w.toNat (0 : Int32)), S.2) := by
    intro v e
    subst e
    have h1 := qFc_u h hw (k := 4) (by decide) (qsv F w)
    have h2 := qFc_u h1 hw (k := 7) (by decide) 0
    exact ⟨h2, qFe_t (qFe_u S (k := 4) (by decide) w.toNat (qsv F w)) (qFe_u _ (k := 7) (by decide) w.toNat 0)⟩
  rw [eM_sums, zg_t zi, zI_zx (by omega) (by omega), c5, c4, c6]
  by_cases q : F w 5 = 21
  · rw [zif_pos q, zg_t zi, zg_t zi, zg_t zi, zg_t zi, zg_t (by decide), zwp_some]
    exact fin _ (by unfold qsv; rw [if_pos q])
  · rw [zif_neg q, zg_t zi, zg_t zi, zg_t zi, zg_t zi, zg_t (by decide), zwp_some]
    exact fin _ (by unfold qsv; rw [if_neg q])
theorem zM_tests_44_s (h : qFc F S) (hw : 0 ≤ w ∧ w < 6) (d : Nat) (v : Int32) : zM_tests_44 d (zI w) v S = zM_tests_76 d (zI w) (if F w 3 = 25 then qjo 30004 (F w 2) (F w 4) else v) S := by
  have zi : zin (zI w) 6 = true := by rw [zI_in (by omega) (by omega)]; omega
  have c3 : S.1 104 0 w.toNat = F w 3 := h w hw.1 hw.2 3 (by decide)
  have c2 : S.1 103 0 w.toNat = F w 2 := h w hw.1 hw.2 2 (by decide)
  have c4 : S.1 105 0 w.toNat = F w 4 := h w hw.1 hw.2 4 (by decide)
  have j : qjo 30004 (F w 2) (F w 4) = if F w 2 = F w 4 then 1 else 0 := rfl
  rw [eM_tests_44, zg_t zi, zI_zx (by omega) (by omega), c3, c2, c4, j]
  by_cases q : F w 3 = 25
  · rw [zif_pos q, if_pos q, zg_t zi, zg_t zi]
    by_cases r : F w 2 = F w 4
    · rw [zif_pos r, if_pos r]
    · rw [zif_neg r, if_neg r]
  · rw [zif_neg q, if_neg q]
theorem zM_tests_76_s (h : qFc F S) (hw : 0 ≤ w ∧ w < 6) (d : Nat) (v : Int32) : zM_tests_76 d (zI w) v S = zM_tests_106 d (zI w) (if F w 1 = 26 then qjo 30001 (F w 0) v else v) S := by
  have zi : zin (zI w) 6 = true := by rw [zI_in (by omega) (by omega)]; omega
  have c1 : S.1 102 0 w.toNat = F w 1 := h w hw.1 hw.2 1 (by decide)
  have c0 : S.1 101 0 w.toNat = F w 0 := h w hw.1 hw.2 0 (by decide)
  have j : qjo 30001 (F w 0) v = if F w 0 = 0 then 0 else if v = 0 then 0 else 1 := rfl
  rw [eM_tests_76, zg_t zi, zI_zx (by omega) (by omega), c1, c0, j]
  by_cases q : F w 1 = 26
  · rw [zif_pos q, if_pos q, zg_t zi]
    by_cases r : F w 0 = 0
    · rw [zif_pos r, if_pos r]
    · rw [zif_neg r, if_neg r]
      by_cases t : v = 0
      · rw [zif_pos t, if_pos t]
      · rw [zif_neg t, if_neg t]
  · rw [zif_neg q, if_neg q]
theorem zM_tests_106_s (h : qFc F S) (hw : 0 ≤ w ∧ w < 6) (d : Nat) (v : Int32) : zM_tests_106 d (zI w) v S = zM_tests_136 d (zI w) (if F w 1 = 27 then qjo 30002 (F w 0) v else v) S := by
  have zi : zin (zI w) 6 = true := by rw [zI_in (by omega) (by omega)]; omega
  have c1 : S.1 102 0 w.toNat = F w 1 := h w hw.1 hw.2 1 (by decide)
  have c0 : S.1 101 0 w.toNat = F w 0 := h w hw.1 hw.2 0 (by decide)
  have j : qjo 30002 (F w 0) v = if F w 0 = 0 then (if v = 0 then 0 else 1) else 1 := rfl
  rw [eM_tests_106, zg_t zi, zI_zx (by omega) (by omega), c1, c0, j]
  by_cases q : F w 1 = 27
  · rw [zif_pos q, if_pos q, zg_t zi]
    by_cases r : F w 0 = 0
    · rw [zif_pos r, if_pos r]
      by_cases t : v = 0
      · rw [zif_pos t, if_pos t]
      · rw [zif_neg t, if_neg t]
    · rw [zif_neg r, if_neg r]
  · rw [zif_neg q, if_neg q]
theorem zM_tests_136_s (h : qFc F S) (hw : 0 ≤ w ∧ w < 6) (d : Nat) (v : Int32) : zwp (zM_tests_136 d (zI w) v S) (fun S' => qFc (qu (qu (qu (qu F w 0 v) w 3 0) w 4 0) w 5 20) S' ∧ qFe S S') := by
  have zi : zin (zI w) 6 = true := by rw [zI_in (by omega) (by omega)]; omega
  rw [eM_tests_136, zg_t zi, zg_t zi, zg_t zi, zg_t zi, zI_zx (by omega) (by omega), zwp_some]
  have h1 := qFc_u h hw (k := 0) (by decide) v
  have h2 := qFc_u h1 hw (k := 3) (by decide) 0
  have h3 := qFc_u h2 hw (k := 4) (by decide) 0
  have h4 := qFc_u h3 hw (k := 5) (by decide) 20
  have f1 := qFe_u S (k := 0) (by decide) w.toNat v
  have f2 := qFe_t f1 (qFe_u _ (k := 3) (by decide) w.toNat 0)
  have f3 := qFe_t f2 (qFe_u _ (k := 4) (by decide) w.toNat 0)
  have f4 := qFe_t f3 (qFe_u _ (k := 5) (by decide) w.toNat 20)
  exact ⟨h4, f4⟩
theorem qsum_k (F : QF) (w : Int) {k : Nat} (h4 : k ≠ 4) (h7 : k ≠ 7) : qsum F w w k = F w k := (qu_k _ w _ h7).trans (qu_k F w _ h4)
theorem qsum_4 (F : QF) (w : Int) : qsum F w w 4 = qsv F w := (qu_k _ w _ (by decide)).trans (qu_s F w 4 _)
theorem zM_tests_s (h : qFc F S) (hw : 0 ≤ w ∧ w < 6) (d : Nat) : zwp (zM_tests (d + 2) (zI w) S) (fun S' => qFc (qtes F w) S' ∧ qFe S S') := by
  have zi : zin (zI w) 6 = true := by rw [zI_in (by omega) (by omega)]; omega
  obtain ⟨S1, e1, h1, f1⟩ := zM_sums_s h hw d
  have c3 : S1.1 104 0 w.toNat = F w 3 := (h1 w hw.1 hw.2 3 (by decide)).trans (qsum_k F w (by decide) (by decide))
  have c2 : S1.1 103 0 w.toNat = F w 2 := (h1 w hw.1 hw.2 2 (by decide)).trans (qsum_k F w (by decide) (by decide))
  have c4 : S1.1 105 0 w.toNat = qsv F w := (h1 w hw.1 hw.2 4 (by decide)).trans (qsum_4 F w)
  have rest : ∀ v, v = (if F w 3 = 24 then qjo 30003 (F w 2) (qsv F w) else qsv F w) → zwp (zM_tests_44 (d + 1) (zI w) v S1) (fun S' => qFc (qtes F w) S' ∧ qFe S S') := by
    intro v hv
    rw [zM_tests_44_s h1 hw, zM_tests_76_s h1 hw, zM_tests_106_s h1 hw, qsum_k F w (k := 1) (by decide) (by decide), qsum_k F w (k := 0) (by decide) (by decide), qsum_4, qsum_k F w (k := 3) (by decide) (by decide), qsum_k F w (k := 2) (by decide) (by decide)]
    have e : (if F w 1 = 27 then qjo 30002 (F w 0) (if F w 1 = 26 then qjo 30001 (F w 0) (if F w 3 = 25 then qjo 30004 (F w 2) (qsv F w) else v) else (if F w 3 = 25 then qjo 30004 (F w 2) (qsv F w) else v)) else (if F w 1 = 26 then qjo 30001 (F w 0) (if F w 3 = 25 then qjo 30004 (F w 2) (qsv F w) else v) else (if F w 3 = 25 then qjo 30004 (F w 2) (qsv F w) else v))) = qkv F w := by
      have et : (if F w 3 = 25 then qjo 30004 (F w 2) (qsv F w) else v) = qtv F w := by
        rw [hv]
        unfold qtv
        by_cases a : F w 3 = 24
        · rw [if_pos a, if_pos a, if_neg (by rw [a]; decide)]
        · rw [if_neg a, if_neg a]
      rw [et]
      unfold qkv
      by_cases a : F w 1 = 26
      · rw [if_pos a, if_pos a, if_neg (by rw [a]; decide)]
      · rw [if_neg a, if_neg a]
    rw [e]
    exact zwp_mono (zM_tests_136_s h1 hw (d + 1) (qkv F w)) (fun S' q => ⟨q.1, qFe_t f1 q.2⟩)
  have j : qjo 30003 (F w 2) (qsv F w) = if qsv F w ≤ F w 2 then 0 else 1 := rfl
  rw [eM_tests, e1, zBs, zg_t zi, zg_t zi, zI_zx (by omega) (by omega), c3, c2, c4]
  by_cases q : F w 3 = 24
  · rw [zif_pos q, zg_t zi, zg_t zi]
    by_cases r : qsv F w ≤ F w 2
    · rw [zif_pos r]
      exact rest 0 (by rw [if_pos q, j, if_pos r])
    · rw [zif_neg r]
      exact rest 1 (by rw [if_pos q, j, if_neg r])
  · rw [zif_neg q]
    exact rest _ (by rw [if_neg q])
end EM
