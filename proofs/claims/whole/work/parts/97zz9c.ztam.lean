/-! TARIFF of the reference -/
section TM
variable {tp : Int → Int} {n : Int} {S : ZS}
theorem qlr_I : ∀ (k : Nat) (st st' : QL), qPI tp n st → qlr tp n k st st' → qPI tp n st'
  | 0, st, st', h, e => by
    have e : st = st' := e
    rw [← e]
    exact h
  | k + 1, st, st', h, e => by
    obtain ⟨st1, e1, e2⟩ := e
    exact (qPI_s (qlr_I k st st1 h e1) e2).1
theorem mTk (d : Nat) {b : Int} (hM : qM tp n S b) (t : qtc tp n b ≠ 70) : zM_tariff_48 d S = (zM_readsLine d S).bind (fun r1 => zif (r1.1 = 0) (some ((r1.2.1 11 0 44), r1.2)) (zM_tariff_48 d r1.2)) := by
  have k := zkd_b tp n b
  have e0 : (zI (zkd tp n b) = 0) = (zkd tp n b = 0) := zI_eq (a := zkd tp n b) (b := 0) (by omega) (by omega) (by omega) (by omega)
  rw [eM_tariff_48, hM.2.2.1, e0, zif_neg (fun e => t (qtc_0.1 e))]
/-- its lines -/
theorem mLines (hB : qB tp n) (d : Nat) {st0 : QL} {S0 : ZS} {rb : Int → Int} (hI : qPI tp n st0) (hM : qMw tp n st0 rb S0) : ∀ (k : Nat) (st : QL), qlr tp n k st0 st → ∃ S' rb', zM_tariff_48 (d + 5) S0 = zM_tariff_48 (d + 5) S' ∧ qMw tp n st rb' S' ∧ qFw S0 S' := by
  intro k
  induction k with
  | zero =>
    intro st h
    have h : st0 = st := h
    rw [← h]
    exact ⟨S0, rb, rfl, hM, qFw_r S0⟩
  | succ k ih =>
    intro st h
    obtain ⟨st1, h1, h2⟩ := h
    obtain ⟨S1, rb1, e1, m1, f1⟩ := ih st1 h1
    have I1 := qlr_I k st0 st1 hI h1
    obtain ⟨x, ex, x1, xf, rb', xm⟩ := mLine hB d I1 m1 (Q := fun x => x.1 = 1 ∧ qFw S1 x.2 ∧ ∃ rb', qMw tp n st rb' x.2) (Or.inr ⟨st, h2, fun y a b => ⟨rfl, a, b⟩⟩)
    refine ⟨x.2, rb', ?_, xm, qFw_t f1 xf⟩
    rw [e1, mTk (d + 5) m1.1.1 h2.1, ex, zBs, zif_neg (by rw [x1]; decide)]
/-- the copies: lines -/
def qCp (j : Nat) (S S' : ZS) : Prop := (∀ t, ¬ (91 ≤ t ∧ t ≤ 95) → S'.1 t = S.1 t) ∧ S'.2 = S.2 ∧ (∀ t, 91 ≤ t → t ≤ 95 → ∀ i, 16 ≤ i → S'.1 t 0 i = S.1 t 0 i) ∧ (∀ t, 91 ≤ t → t ≤ 93 → ∀ i, i < j → S'.1 t 0 i = S.1 t 0 (16 + i)) ∧ (∀ t, 94 ≤ t → t ≤ 95 → ∀ i, i < j → S'.1 t 0 i = S.1 t 0 (16 + i) - 1000)
theorem mC93 (d : Nat) {S0 : ZS} : ∀ (m j : Nat) (S : ZS), j + m = 16 → qCp j S0 S → ∃ S', zM_tariff_93 d (zI j) S = zM_tariff_190 d (0 : Int32) S' ∧ qCp 16 S0 S' := by
  intro m
  induction m with
  | zero =>
    intro j S e h
    rw [eM_tariff_93, show (16 : Int32) = zI 16 from rfl, zI_le (by omega) (by omega) (by omega) (by omega), zif_pos (by omega)]
    have e : j = 16 := by omega
    rw [e] at h
    exact ⟨S, rfl, h⟩
  | succ m ih =>
    intro j S e h
    have b1 : zin (zI (16 + (j : Int))) 32 = true := by rw [zI_in (by omega) (by omega)]; omega
    have b2 : zin (zI (j : Int)) 32 = true := by rw [zI_in (by omega) (by omega)]; omega
    have x1 : zx (zI (16 + (j : Int))) = 16 + j := by rw [zI_zx (by omega) (by omega)]; omega
    have x2 : zx (zI (j : Int)) = j := by rw [zI_zx (by omega) (by omega)]; omega
    have e1 : (16 : Int32) + zI j = zI (16 + j) := zI_add 16 j
    have e2 : zI j + (1 : Int32) = zI ((j + 1 : Nat) : Int) := by
      rw [zI_n1, zI_add]
      rfl
    obtain ⟨h1, h2, h3, h4, h5⟩ := h
    rw [eM_tariff_93, show (16 : Int32) = zI 16 from rfl, zI_le (by omega) (by omega) (by omega) (by omega), zif_neg (by omega), show zI 16 = (16 : Int32) from rfl, e1, zg_t b1, zg_t b2, zg_t b1, zg_t b2, zg_t b1, zg_t b2, zg_t b1, zg_t b2, zg_t b1, zg_t b2, x1, x2, e2]
    refine ih (j + 1) _ (by omega) ⟨fun t a => ?_, h2, fun t a b i i0 => ?_, fun t a b i i0 => ?_, fun t a b i i0 => ?_⟩
    · refine Eq.trans ?_ (h1 t a)
      funext i k
      exact (zu_tag _ (by omega)).trans ((zu_tag _ (by omega)).trans ((zu_tag _ (by omega)).trans ((zu_tag _ (by omega)).trans (zu_tag S.1 (by omega)))))
    · refine Eq.trans ?_ (h3 t a b i i0)
      exact (zu_pl _ (by omega)).trans ((zu_pl _ (by omega)).trans ((zu_pl _ (by omega)).trans ((zu_pl _ (by omega)).trans (zu_pl S.1 (by omega)))))
    · have : t = 91 ∨ t = 92 ∨ t = 93 := by omega
      have hu := h3 t (by omega) (by omega) (16 + j) (by omega)
      by_cases q : i = j
      · rw [q]
        rcases this with rfl | rfl | rfl
        · exact (zu_same S.1 91 0 j _).trans hu
        · exact (zu_same (zu S.1 91 0 j (S.1 91 0 (16 + j))) 92 0 j _).trans hu
        · exact (zu_same (zu (zu S.1 91 0 j (S.1 91 0 (16 + j))) 92 0 j (S.1 92 0 (16 + j))) 93 0 j _).trans hu
      · refine Eq.trans ?_ (h4 t a b i (by omega))
        exact (zu_pl _ q).trans ((zu_pl _ q).trans ((zu_pl _ q).trans ((zu_pl _ q).trans (zu_pl S.1 q))))
    · have : t = 94 ∨ t = 95 := by omega
      have hu := h3 t (by omega) (by omega) (16 + j) (by omega)
      by_cases q : i = j
      · rw [q, ← hu]
        rcases this with rfl | rfl
        · exact zu_same (zu (zu (zu S.1 91 0 j (S.1 91 0 (16 + j))) 92 0 j (S.1 92 0 (16 + j))) 93 0 j (S.1 93 0 (16 + j))) 94 0 j _
        · exact zu_same (zu (zu (zu (zu S.1 91 0 j (S.1 91 0 (16 + j))) 92 0 j (S.1 92 0 (16 + j))) 93 0 j (S.1 93 0 (16 + j))) 94 0 j (S.1 94 0 (16 + j) - 1000)) 95 0 j _
      · refine Eq.trans ?_ (h5 t a b i (by omega))
        exact (zu_pl _ q).trans ((zu_pl _ q).trans ((zu_pl _ q).trans ((zu_pl _ q).trans (zu_pl S.1 q))))
/-- codes -/
def qCq (j : Nat) (S S' : ZS) : Prop := (∀ t, t ≠ 98 → S'.1 t = S.1 t) ∧ S'.2 = S.2 ∧ (∀ i, 1000 ≤ i → S'.1 98 0 i = S.1 98 0 i) ∧ (∀ i, i < j → S'.1 98 0 i = S.1 98 0 (1000 + i))
theorem mC190 (d : Nat) {S0 : ZS} : ∀ (m j : Nat) (S : ZS), j + m = 1000 → qCq j S0 S → zwp (zM_tariff_190 d (zI j) S) (fun r => r.1 = 0 ∧ qCq 1000 S0 r.2) := by
  intro m
  induction m with
  | zero =>
    intro j S e h
    rw [eM_tariff_190, show (1000 : Int32) = zI 1000 from rfl, zI_le (by omega) (by omega) (by omega) (by omega), zif_pos (by omega), zwp_some]
    have e : j = 1000 := by omega
    rw [e] at h
    exact ⟨rfl, h⟩
  | succ m ih =>
    intro j S e h
    have b1 : zin (zI (1000 + (j : Int))) 2000 = true := by rw [zI_in (by omega) (by omega)]; omega
    have b2 : zin (zI (j : Int)) 2000 = true := by rw [zI_in (by omega) (by omega)]; omega
    have x1 : zx (zI (1000 + (j : Int))) = 1000 + j := by rw [zI_zx (by omega) (by omega)]; omega
    have x2 : zx (zI (j : Int)) = j := by rw [zI_zx (by omega) (by omega)]; omega
    have e1 : (1000 : Int32) + zI j = zI (1000 + j) := zI_add 1000 j
    have e2 : zI j + (1 : Int32) = zI ((j + 1 : Nat) : Int) := by
      rw [zI_n1, zI_add]
      rfl
    obtain ⟨h1, h2, h3, h4⟩ := h
    rw [eM_tariff_190, show (1000 : Int32) = zI 1000 from rfl, zI_le (by omega) (by omega) (by omega) (by omega), zif_neg (by omega), show zI 1000 = (1000 : Int32) from rfl, e1, zg_t b1, zg_t b2, x1, x2, e2]
    refine ih (j + 1) _ (by omega) ⟨fun t a => ?_, h2, fun i i0 => ?_, fun i i0 => ?_⟩
    · refine Eq.trans ?_ (h1 t a)
      funext i k
      exact zu_tag S.1 a
    · exact (zu_pl S.1 (by omega)).trans (h3 i i0)
    · by_cases q : i = j
      · rw [q]
        exact (zu_same S.1 98 0 j _).trans (h3 (1000 + j) (by omega))
      · exact (zu_pl S.1 q).trans (h4 i (by omega))
/-- what the reference leaves alone -/
def qFz (S S' : ZS) : Prop := (∀ t, t ≠ 11 → ¬ (90 ≤ t ∧ t ≤ 100) → S'.1 t = S.1 t) ∧ (∀ k, k ≠ 0 → k ≠ 36 → k ≠ 38 → k ≠ 39 → k ≠ 40 → k ≠ 41 → k ≠ 43 → k ≠ 44 → k ≠ 54 → S'.1 11 0 k = S.1 11 0 k) ∧ (∀ t, t ≠ 11 → t ≠ 97 → S'.2.1 t = S.2.1 t) ∧ S'.2.2 = S.2.2 ∧ S'.1 11 0 36 = 0 ∧ S'.1 11 0 0 = 0
/-- the tariff in force is as it was -/
def qFy (S S' : ZS) : Prop := (∀ t, 91 ≤ t → t ≤ 95 → ∀ i, i < 16 → S'.1 t 0 i = S.1 t 0 i) ∧ (∀ i, i < 1000 → S'.1 98 0 i = S.1 98 0 i) ∧ S'.1 90 0 0 = S.1 90 0 0 ∧ S'.1 96 0 0 = S.1 96 0 0
theorem zM_tariff_s (hB : qB tp n) (hT : S.1 11 0 36 = zI n) (hS : ∀ i, 0 ≤ i → i < n → S.1 89 0 i.toNat = zI (tp i)) (d : Nat) :
    (∀ f, qOf tp n f → zwp (zM_tariff (d + 6) S) (fun r => r.1 = zI f ∧ qFz S r.2 ∧ qFy S r.2)) ∧
    (∀ st, qOk tp n st → zwp (zM_tariff (d + 6) S) (fun r => r.1 = 0 ∧ qFz S r.2 ∧ ∃ rb : Int → Int, r.2.1 90 0 0 = zI st.2.1 ∧ r.2.1 96 0 0 = zI (st.2.2.1 st.2.1) ∧ (rb (-1) = 0 ∧ rb (st.2.1 - 1) ≤ 1000) ∧
      ∀ l, 0 ≤ l → l < st.2.1 → r.2.1 91 0 l.toNat = zI (st.2.2.2.2 l).1 ∧ ((st.2.2.2.2 l).1 = -1 → r.2.1 92 0 l.toNat = zI (st.2.2.2.2 l).2.1 ∧ r.2.1 93 0 l.toNat = zI (st.2.2.2.2 l).2.2.1) ∧ r.2.1 94 0 l.toNat = zI (rb (l - 1)) ∧ r.2.1 95 0 l.toNat = zI (rb l) ∧
        (rb l = rb (l - 1) + (st.2.2.2.2 l).2.2.2.length ∧ 0 ≤ rb (l - 1) ∧ rb l ≤ rb (st.2.1 - 1)) ∧ qLs (r.2.1 98 0) (rb (l - 1)).toNat (st.2.2.2.2 l).2.2.2)) := by
  have bn := hB.1
  have bk := zsk_b tp n.toNat 0
  have I0 := qS0_I hB
  have z1 : zx (1 : Int32) = 1 := rfl
  have z0 : zx (0 : Int32) = 0 := rfl
  generalize hSa : ((zu (zu (zu (zu (zu (zu (zu S.1 11 0 0 (0 : Int32)) 11 0 38 (zI n)) 11 0 36 (0 : Int32)) 11 0 39 (0 : Int32)) 90 0 1 (0 : Int32)) 96 0 1 (0 : Int32)) 11 0 54 (1000 : Int32)), S.2) = Sa
  have t0 : ∀ t, t ≠ 11 → t ≠ 90 → t ≠ 96 → Sa.1 t = S.1 t := by
    intro t a b c
    rw [← hSa]
    funext i k
    exact (zu_tag _ a).trans ((zu_tag _ c).trans ((zu_tag _ b).trans ((zu_tag _ a).trans ((zu_tag _ a).trans ((zu_tag _ a).trans (zu_tag S.1 a))))))
  have s11 : ∀ k, k ≠ 0 → k ≠ 38 → k ≠ 36 → k ≠ 39 → k ≠ 54 → Sa.1 11 0 k = S.1 11 0 k := by
    intro k a b c e f
    rw [← hSa]
    exact (zu_pl _ f).trans ((zu_tag _ (by decide)).trans ((zu_tag _ (by decide)).trans ((zu_pl _ e).trans ((zu_pl _ c).trans ((zu_pl _ b).trans (zu_pl S.1 a))))))
  have a39 : Sa.1 11 0 39 = zI 0 := by rw [← hSa]; rfl
  have a38 : Sa.1 11 0 38 = zI n := by rw [← hSa]; rfl
  have a36 : Sa.1 11 0 36 = 0 := by rw [← hSa]; rfl
  have a0 : Sa.1 11 0 0 = 0 := by rw [← hSa]; rfl
  have a54 : Sa.1 11 0 54 = zI 1000 := by rw [← hSa]; rfl
  have a90 : Sa.1 90 0 1 = zI 0 := by rw [← hSa]; rfl
  have a96 : Sa.1 96 0 1 = zI 0 := by rw [← hSa]; rfl
  have a900 : Sa.1 90 0 0 = S.1 90 0 0 := by rw [← hSa]; rfl
  have a960 : Sa.1 96 0 0 = S.1 96 0 0 := by rw [← hSa]; rfl
  have aL : Sa.2 = S.2 := by rw [← hSa]
  have Da : qD tp n Sa := ⟨a38, fun i a b => by
    rw [t0 89 (by decide) (by decide) (by decide)]
    exact hS i a b⟩
  obtain ⟨S1, e1, hM1, f1⟩ := zM_next_p hB Da (d + 3) (p := 0) (by omega) a39
  have e1 : zM_next (d + 5) Sa = some S1 := e1
  rw [show (n - 0).toNat = n.toNat by rw [Int.sub_zero]] at hM1
  have M1 : qMw tp n (qS0 tp n) (fun _ => 0) S1 := by
    refine ⟨⟨hM1, qD_f Da f1, ⟨(congrFun (congrFun (f1.1 96 (by decide)) 0) 1).trans a96, fun i a c => ?_⟩⟩, (congrFun (congrFun (f1.1 90 (by decide)) 0) 1).trans a90, (f1.2.1 54 (by decide) (by decide) (by decide) (by decide)).trans a54, ⟨rfl, ?_, ?_⟩, fun l a c => ?_⟩
    · have c : i < 0 := c
      omega
    · show (0 : Int) ≤ 0
      omega
    · show (0 : Int) ≤ zsk tp n.toNat 0
      omega
    · have c : l < 0 := c
      omega
  have start : zM_tariff (d + 6) S = zM_tariff_48 (d + 5) S1 := by
    rw [eM_tariff, zg_t (by decide), zg_t (by decide), z1, show (zu S.1 11 0 0 (0 : Int32)) 11 0 36 = S.1 11 0 36 from rfl, hT, hSa, e1, zBs]
  -- what stays
  have keep : ∀ S2, qFw S1 S2 → qFz S S2 ∧ qFy S S2 := by
    intro S2 w
    refine ⟨⟨fun t a b => ?_, fun k k0 k36 k38 k39 k40 k41 k43 k44 k54 => ?_, fun t a b => ?_, ?_, ?_, ?_⟩, fun t a b i c => ?_, fun i c => ?_, ?_, ?_⟩
    · rw [w.1 t a b, f1.1 t a, t0 t a (by omega) (by omega)]
    · rw [w.2.1 k k39 k40 k41 k43 k44 k54, f1.2.1 k k39 k40 k41 k43, s11 k k0 k38 k36 k39 k54]
    · rw [w.2.2.1 t a b, f1.2.2.1 t a, aL]
    · rw [w.2.2.2.1, f1.2.2.2, aL]
    · rw [w.2.1 36 (by decide) (by decide) (by decide) (by decide) (by decide) (by decide), f1.2.1 36 (by decide) (by decide) (by decide) (by decide), a36]
    · rw [w.2.1 0 (by decide) (by decide) (by decide) (by decide) (by decide) (by decide), f1.2.1 0 (by decide) (by decide) (by decide) (by decide), a0]
    · rw [w.2.2.2.2.1 t a b i c, f1.1 t (by omega), t0 t (by omega) (by omega) (by omega)]
    · rw [w.2.2.2.2.2.1 i c, f1.1 98 (by decide), t0 98 (by decide) (by decide) (by decide)]
    · rw [w.2.2.2.2.2.2.1, f1.1 90 (by decide), a900]
    · rw [w.2.2.2.2.2.2.2, f1.1 96 (by decide), a960]
  refine ⟨fun f hf => ?_, fun st hk => ?_⟩
  · obtain ⟨k, st, k1, k2, k3⟩ := hf
    obtain ⟨S2, rb, e2, m2, w2⟩ := mLines hB d I0 M1 k st k1
    have I2 := qlr_I k _ st I0 k1
    obtain ⟨x, ex, x0, xf, xw⟩ := mLine hB d I2 m2 (Q := fun x => x.1 = 0 ∧ x.2.1 11 0 44 = zI f ∧ qFw S2 x.2) (Or.inl ⟨f, k3, fun y a b => ⟨rfl, a, b⟩⟩)
    have kp := keep x.2 (qFw_t w2 xw)
    rw [start, e2, mTk (d + 5) m2.1.1 k2, ex, zBs, zif_pos x0, zwp_some]
    exact ⟨xf, kp.1, kp.2⟩
  · obtain ⟨k, k1, k2⟩ := hk
    obtain ⟨S2, rb, e2, m2, w2⟩ := mLines hB d I0 M1 k st k1
    have I2 := qlr_I k _ st I0 k1
    have kp := (keep S2 w2).1
    obtain ⟨⟨hM2, -, hN2⟩, h90, h54, hrb, hls⟩ := m2
    have hL := I2.2.1
    have hb := I2.1
    have k0 : zkd tp n st.1 = 0 := qtc_0.2 k2
    have t41 : S2.1 11 0 41 = 0 := by rw [hM2.2.2.1, k0]; rfl
    have r0 : ∀ l, 0 ≤ l → l < st.2.1 → 0 ≤ rb (l - 1) ∧ rb l ≤ 1000 := fun l a b => by
      have := (hls l a b).2.2.2.2.1
      omega
    generalize hSb : ((zu (zu S2.1 90 0 0 (S2.1 90 0 1)) 96 0 0 (S2.1 96 0 1)), S2.2) = Sb
    have b0 : qCp 0 Sb Sb := ⟨fun _ _ => rfl, rfl, fun _ _ _ _ _ => rfl, fun t a b i c => by omega, fun t a b i c => by omega⟩
    obtain ⟨S3, e3, c3⟩ := mC93 (d + 5) 16 0 Sb rfl b0
    have e3 : zM_tariff_93 (d + 5) (0 : Int32) Sb = zM_tariff_190 (d + 5) (0 : Int32) S3 := e3
    obtain ⟨x, ex, x0, cx⟩ := mC190 (d + 5) (S0 := S3) 1000 0 S3 rfl ⟨fun _ _ => rfl, rfl, fun _ _ => rfl, fun i c => by omega⟩
    have ex : zM_tariff_190 (d + 5) (0 : Int32) S3 = some x := ex
    have tb : ∀ t, t ≠ 90 → t ≠ 96 → Sb.1 t = S2.1 t := fun t a b => by
      rw [← hSb]
      funext i k
      exact (zu_tag _ b).trans (zu_tag S2.1 a)
    have tx : ∀ t, ¬ (91 ≤ t ∧ t ≤ 95) → t ≠ 98 → x.2.1 t = Sb.1 t := fun t a b => (cx.1 t b).trans (c3.1 t a)
    have ty : ∀ t, 91 ≤ t → t ≤ 95 → x.2.1 t = S3.1 t := fun t a b => cx.1 t (by omega)
    have s2 : x.2.2 = S2.2 := by rw [cx.2.1, c3.2.1, ← hSb]
    rw [start, e2, eM_tariff_48, t41, zif_pos rfl, zg_t (by decide), zg_t (by decide), zg_t (by decide), zg_t (by decide), z0, z1, show (zu S2.1 90 0 0 (S2.1 90 0 1)) 96 0 1 = S2.1 96 0 1 from rfl, hSb, e3, ex, zwp_some]
    refine ⟨x0, ⟨fun t a b => ?_, fun k q0 q36 q38 q39 q40 q41 q43 q44 q54 => ?_, fun t a b => ?_, ?_, ?_, ?_⟩, rb, ?_, ?_, ⟨hrb.1, by omega⟩, fun l a b => ?_⟩
    · rw [tx t (by omega) (by omega), tb t (by omega) (by omega)]
      exact kp.1 t a b
    · rw [tx 11 (by omega) (by omega), tb 11 (by omega) (by omega)]
      exact kp.2.1 k q0 q36 q38 q39 q40 q41 q43 q44 q54
    · rw [s2]
      exact kp.2.2.1 t a b
    · rw [s2]
      exact kp.2.2.2.1
    · rw [tx 11 (by omega) (by omega), tb 11 (by omega) (by omega)]
      exact kp.2.2.2.2.1
    · rw [tx 11 (by omega) (by omega), tb 11 (by omega) (by omega)]
      exact kp.2.2.2.2.2
    · rw [tx 90 (by omega) (by omega), ← hSb]
      exact h90
    · rw [tx 96 (by omega) (by omega), ← hSb]
      exact hN2.1
    · obtain ⟨l1, l2, l3, l4, l5, l6⟩ := hls l a b
      have el : (16 + l).toNat = 16 + l.toNat := by omega
      have r1 := r0 l a b
      rw [el] at l1 l2 l3 l4
      have up : ∀ t, 91 ≤ t → t ≤ 93 → x.2.1 t 0 l.toNat = S2.1 t 0 (16 + l.toNat) := fun t p q => by
        rw [ty t p (by omega), c3.2.2.2.1 t p q l.toNat (by omega), tb t (by omega) (by omega)]
      have up2 : ∀ t, 94 ≤ t → t ≤ 95 → x.2.1 t 0 l.toNat = S2.1 t 0 (16 + l.toNat) - 1000 := fun t p q => by
        rw [ty t (by omega) q, c3.2.2.2.2 t p q l.toNat (by omega), tb t (by omega) (by omega)]
      have sub : ∀ v : Int, zI (1000 + v) - 1000 = zI v := fun v => by
        rw [show (1000 : Int32) = zI 1000 from rfl, zI_sub, show 1000 + v - 1000 = v by omega]
      rw [up 91 (by omega) (by omega), up 92 (by omega) (by omega), up 93 (by omega) (by omega), up2 94 (by omega) (by omega), up2 95 (by omega) (by omega), l3, l4, sub, sub]
      refine ⟨l1, l2, rfl, rfl, l5, ?_⟩
      have sh : ∀ (R : List Int) (k : Nat), k + R.length ≤ 1000 → qLs (S2.1 98 0) (1000 + k) R → qLs (x.2.1 98 0) k R := by
        intro R
        induction R with
        | nil => exact fun _ _ _ => trivial
        | cons c R ih =>
          intro k hk h
          rw [List.length_cons] at hk
          refine ⟨?_, ih (k + 1) (by omega) h.2⟩
          rw [cx.2.2.2 k (by omega), c3.1 98 (by omega), tb 98 (by omega) (by omega)]
          exact h.1
      refine sh _ _ (by omega) ?_
      rw [show (1000 + rb (l - 1)).toNat = 1000 + (rb (l - 1)).toNat by omega] at l6
      exact l6
end TM
