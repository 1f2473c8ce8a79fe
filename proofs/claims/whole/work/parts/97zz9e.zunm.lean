/-! UNITS of a call, of the reference -/
def qF1x (S S' : ZS) : Prop := (∀ t, ¬ (101 ≤ t ∧ t ≤ 111) → S'.1 t = S.1 t) ∧ S'.2 = S.2
theorem qF1x_r (S : ZS) : qF1x S S := ⟨fun _ _ => rfl, rfl⟩
theorem qF1x_t {S S' S'' : ZS} (h : qF1x S S') (k : qF1x S' S'') : qF1x S S'' := ⟨fun t a => (k.1 t a).trans (h.1 t a), k.2.trans h.2⟩
theorem qF1x_e {S S' : ZS} (h : qFe S S') : qF1x S S' := ⟨fun t a => h.1 t (fun e => a (by omega)), h.2⟩
theorem qF1x_u (S : ZS) {t : Nat} (ht : t = 110 ∨ t = 111) (k : Nat) (v : Int32) : qF1x S (zu S.1 t 0 k v, S.2) := ⟨fun t' a => by
  funext i k'
  exact zu_tag S.1 (by omega), rfl⟩
/-- the tariff in force of the reference -/
def qMc (st : QL) (vf : Int → QV) (rb : Int → Int) (S : ZS) : Prop := S.1 90 0 0 = zI st.2.1 ∧ (rb (-1) = 0 ∧ rb (st.2.1 - 1) ≤ 1000) ∧
  ∀ l, 0 ≤ l → l < st.2.1 → S.1 91 0 l.toNat = zI (st.2.2.2.2 l).1 ∧ ((st.2.2.2.2 l).1 = -1 → S.1 92 0 l.toNat = zI (st.2.2.2.2 l).2.1 ∧ S.1 93 0 l.toNat = zI (st.2.2.2.2 l).2.2.1) ∧ S.1 94 0 l.toNat = zI (rb (l - 1)) ∧ S.1 95 0 l.toNat = zI (rb l) ∧
    (rb l = rb (l - 1) + (st.2.2.2.2 l).2.2.2.length ∧ 0 ≤ rb (l - 1) ∧ rb l ≤ rb (st.2.1 - 1)) ∧ qLs (S.1 98 0) (rb (l - 1)).toNat (st.2.2.2.2 l).2.2.2 ∧ (qXl (st.2.2.1 l) (st.2.2.2.2 l).2.2.2 ∧ qR0 0 (st.2.2.2.2 l).2.2.2 (vf l))
section UM
variable {st : QL} {vf : Int → QV} {rb : Int → Int}
theorem qMc_f {S S' : ZS} (h : qMc st vf rb S) (f : qF1x S S') : qMc st vf rb S' := by
  unfold qMc at h ⊢
  rw [f.1 90 (by decide), f.1 91 (by decide), f.1 92 (by decide), f.1 93 (by decide), f.1 94 (by decide), f.1 95 (by decide), f.1 98 (by decide)]
  exact h
theorem zM_unitsOf_120_s (hJ : qPJ st) (d : Nat) {e : Int → Int32} {ln h t : Int} {s : Int32} (tb : 0 ≤ t ∧ t ≤ 1100000) : ∀ (k : Nat) (l : Int) (nf : Int → Int32) (S : ZS), 0 ≤ l → l + k = st.2.1 → qMc st vf rb S → (∀ i : Int, 0 ≤ i → i < 6 → S.1 110 0 (i + 1).toNat = e i) → (∀ i : Int, 0 ≤ i → i < st.2.2.1 l → S.1 111 0 i.toNat = nf i) →
    ∃ S', zM_unitsOf_120 (d + 3) (zI ln) (zI h) s (zI t) (60 : Int32) (1 : Int32) (zI l) S = (if qfm st vf e k l nf = -1 then zM_unitsOf_16 (d + 3) (zI ln) (zI h) s (zI (t + 60)) S' else zM_unitsOf_16 (d + 3) (zI ln) (zI h) (s + zI (st.2.2.2.2 (qfm st vf e k l nf)).2.1) (zI (t + (st.2.2.2.2 (qfm st vf e k l nf)).2.2.1)) S') ∧ qF1x S S' := by
  obtain ⟨hL, hM0, hM, hJ⟩ := hJ
  have z0 : zx (0 : Int32) = 0 := rfl
  have e60 : zI t + (60 : Int32) = zI (t + 60) := zI_add t 60
  intro k
  induction k with
  | zero =>
    intro l nf S l0 ek hW hv hn
    rw [eM_unitsOf_120, zg_t (by decide), z0, hW.1, zI_le (by omega) (by omega) (by omega) (by omega), zif_pos (by omega), e60]
    exact ⟨S, rfl, qF1x_r S⟩
  | succ k ih =>
    intro l nf S l0 ek hW hv hn
    obtain ⟨w1, w2, w3, w4, ⟨w5, w6, w7⟩, w8, w9, w10⟩ := hW.2.2 l l0 (by omega)
    have m1 := hM l l0 (by omega)
    have hj := hJ l l0 (by omega)
    have rb1 := hW.2.1.2
    have zi : zin (zI l) 32 = true := by rw [zI_in (by omega) (by omega)]; omega
    have zz : zx (zI l) = l.toNat := zI_zx (by omega) (by omega)
    have lC : 0 ≤ ((st.2.2.2.2 l).2.2.2.length : Int) := by omega
    have ec : (((rb (l - 1)).toNat : Nat) : Int) = rb (l - 1) := by omega
    obtain ⟨x, ex, x1, fx⟩ := zM_worth_s (l := l) (k := (rb (l - 1)).toNat) m1.2 d (vf := e) (nf := nf) (by omega) ⟨hv, hn⟩ w10 w9 w8 (by rw [ec]; exact w3) (by rw [ec, ← w5]; exact w4) (by omega)
    have gx := qF1x_e fx
    have hWx := qMc_f hW gx
    obtain ⟨v1, v2, -⟩ := hWx.2.2 l l0 (by omega)
    have e1 : zI l + (1 : Int32) = zI (l + 1) := zI_add l 1
    have en : (zI (st.2.2.2.2 l).1 < (0 : Int32)) = ((st.2.2.2.2 l).1 < 0) := zI_lt (a := (st.2.2.2.2 l).1) (b := 0) (by omega) (by omega) (by omega) (by omega)
    rw [eM_unitsOf_120, zg_t (by decide), z0, hW.1, zI_le (by omega) (by omega) (by omega) (by omega), zif_neg (by omega), zif_neg (by decide), ex, zBs, zg_t zi, zz, v1, en, qfm]
    rcases hj with ⟨j1, j2, j3⟩ | ⟨j1, j2, j3, j4⟩
    · -- a name
      have f1 := qF1x_u x.2 (t := 111) (Or.inr rfl) (st.2.2.1 l).toNat x.1
      have hvx : ∀ i : Int, 0 ≤ i → i < 6 → x.2.1 110 0 (i + 1).toNat = e i := fun i a b => (congrFun (congrFun (fx.1 110 (by decide)) 0) _).trans (hv i a b)
      have m2 := hM (l + 1) (by omega) (by omega)
      rw [zif_neg (by omega), zg_t zi, j1, zg_t (by rw [zI_in (by omega) (by omega)]; omega), zI_zx (a := st.2.2.1 l) (by omega) (by omega), e1, if_neg (by omega)]
      obtain ⟨S', es, fs⟩ := ih (l + 1) (qup nf (st.2.2.1 l) (vf l e nf)) (zu x.2.1 111 0 (st.2.2.1 l).toNat x.1, x.2.2) (by omega) (by omega) (qMc_f hWx f1) (fun i a b => hvx i a b) (fun i a b => by
        by_cases q : i = st.2.2.1 l
        · rw [q, qup_s]
          exact (zu_same x.2.1 111 0 _ _).trans x1
        · rw [qup_n _ _ q]
          exact (show zu x.2.1 111 0 (st.2.2.1 l).toNat x.1 111 0 i.toNat = x.2.1 111 0 i.toNat from zu_pl x.2.1 (by omega)).trans ((congrFun (congrFun (fx.1 111 (by decide)) 0) _).trans (hn i a (by omega))))
      exact ⟨S', es, qF1x_t gx (qF1x_t f1 fs)⟩
    · have r0 : (x.1 = 0) = (vf l e nf = 0) := by rw [x1]
      have hvx : ∀ i : Int, 0 ≤ i → i < 6 → x.2.1 110 0 (i + 1).toNat = e i := fun i a b => (congrFun (congrFun (fx.1 110 (by decide)) 0) _).trans (hv i a b)
      have hnx : ∀ i : Int, 0 ≤ i → i < st.2.2.1 (l + 1) → x.2.1 111 0 i.toNat = nf i := fun i a b => (congrFun (congrFun (fx.1 111 (by decide)) 0) _).trans (hn i a (by omega))
      have v2 := v2 j1
      rw [zif_pos (by omega), r0, if_pos j1]
      by_cases q : vf l e nf = 0
      · rw [zif_pos q, if_pos q, e1]
        obtain ⟨S', es, fs⟩ := ih (l + 1) nf x.2 (by omega) (by omega) hWx hvx hnx
        exact ⟨S', es, qF1x_t gx fs⟩
      · have e2 : zI (l + 1) = zI (l + 1) := rfl
        rw [zif_neg q, if_neg q, zg_t zi, zg_t zi, v2.1, v2.2, e1]
        refine ⟨x.2, ?_, gx⟩
        rw [if_neg (show ¬ l = -1 by omega), eM_unitsOf_120, zg_t (by decide), zI_add]
        by_cases w : x.2.1 90 0 (zx (0 : Int32)) ≤ zI (l + 1)
        · rw [zif_pos w]
        · rw [zif_neg w, zif_pos rfl]
theorem zM_unitsOf_16_s (hJ : qPJ st) (d : Nat) {ln h t0 t1 z : Int} (ht : 0 ≤ t0 ∧ t0 ≤ 999999 ∧ 0 ≤ t1 ∧ t1 ≤ 999999) (hl : 0 ≤ ln ∧ ln < 40) (hh : 0 ≤ h ∧ h < 116) : ∀ (k : Nat) (t : Int) (s : Int32) (S : ZS), t1 - t ≤ k → t0 ≤ t → t ≤ 1100000 → qMc st vf rb S → S.1 11 0 1 = zI t1 → S.1 77 0 ln.toNat = zI t0 → (h < 100 → z = 0) → (100 ≤ h → S.1 63 0 (h - 100).toNat = zI z) →
    zwp (zM_unitsOf_16 (d + 3) (zI ln) (zI h) s (zI t) S) (fun r => r.1 = qun st vf z t0 t1 ln k t s ∧ qF1x S r.2) := by
  obtain ⟨hL, hM0, hM, hJ'⟩ := id hJ
  intro k
  induction k with
  | zero =>
    intro t s S hk t0t tb hW hn ha hz1 hz2
    rw [eM_unitsOf_16, hn, zI_le (by omega) (by omega) (by omega) (by omega), zif_pos (by omega), zwp_some]
    exact ⟨rfl, qF1x_r S⟩
  | succ k ih =>
    intro t s S hk t0t tb hW hn ha hz1 hz2
    rw [eM_unitsOf_16, hn, zI_le (by omega) (by omega) (by omega) (by omega), qun]
    by_cases q1 : t1 ≤ t
    · rw [zif_pos q1, if_pos q1, zwp_some]
      exact ⟨rfl, qF1x_r S⟩
    · rw [zif_neg q1, if_neg q1]
      have x1 : zx (1 : Int32) = 1 := by decide
      have x2 : zx (2 : Int32) = 2 := by decide
      have x3 : zx (3 : Int32) = 3 := by decide
      have x4 : zx (4 : Int32) = 4 := by decide
      have x5 : zx (5 : Int32) = 5 := by decide
      have x6 : zx (6 : Int32) = 6 := by decide
      have zl : zx (zI ln) = ln.toNat := zI_zx (by omega) (by omega)
      have il : zin (zI ln) 40 = true := by rw [zI_in (by omega) (by omega)]; omega
      have eh : (zI t / (3600 : Int32)) - (zI t / (3600 : Int32)) / (24 : Int32) * (24 : Int32) = zI (t / 3600 % 24) := zmod1 (a := 3600) (b := 24) (by omega) (by omega) (by omega)
      have ed : (zI t / (86400 : Int32)) - (zI t / (86400 : Int32)) / (7 : Int32) * (7 : Int32) = zI (t / 86400 % 7) := zmod1 (a := 86400) (b := 7) (by omega) (by omega) (by omega)
      have e100 : (zI h < (100 : Int32)) = (h < 100) := zI_lt (a := h) (b := 100) (by omega) (by omega) (by omega) (by omega)
      have s100 : zI h - (100 : Int32) = zI (h - 100) := zI_sub h 100
      have go : zwp (zM_unitsOf_49 (d + 3) (zI ln) (zI h) s (zI t) (zI z) (1 : Int32) S) (fun r => r.1 = (if qm1 st vf z t0 ln t s = -1 then qun st vf z t0 t1 ln k (t + 60) s else qun st vf z t0 t1 ln k (t + (st.2.2.2.2 (qm1 st vf z t0 ln t s)).2.2.1) (s + zI (st.2.2.2.2 (qm1 st vf z t0 ln t s)).2.1)) ∧ qF1x S r.2) := by
        rw [eM_unitsOf_49, zg_t (by decide), zg_t (by decide), zg_t (by decide), zg_t il, zg_t (by decide), zg_t (by decide), zg_t (by decide), x1, x2, x3, x4, x5, x6, zl, eh, ed]
        have c77 : (zu (zu (zu S.1 110 0 1 (zI z)) 110 0 2 (zI (t / 3600 % 24))) 110 0 3 (zI (t / 86400 % 7))) 77 0 ln.toNat = zI t0 := ha
        rw [c77, zI_sub]
        have f1 := qF1x_t (qF1x_t (qF1x_t (qF1x_t (qF1x_t (qF1x_u S (t := 110) (Or.inl rfl) 1 (zI z)) (qF1x_u _ (t := 110) (Or.inl rfl) 2 (zI (t / 3600 % 24)))) (qF1x_u _ (t := 110) (Or.inl rfl) 3 (zI (t / 86400 % 7)))) (qF1x_u _ (t := 110) (Or.inl rfl) 4 (zI (t - t0)))) (qF1x_u _ (t := 110) (Or.inl rfl) 5 s)) (qF1x_u _ (t := 110) (Or.inl rfl) 6 (zI ln))
        generalize hS1 : ((zu (zu (zu (zu (zu (zu S.1 110 0 1 (zI z)) 110 0 2 (zI (t / 3600 % 24))) 110 0 3 (zI (t / 86400 % 7))) 110 0 4 (zI (t - t0))) 110 0 5 s) 110 0 6 (zI ln)), S.2) = S1 at f1
        have v1 : ∀ i : Int, 0 ≤ i → i < 6 → S1.1 110 0 (i + 1).toNat = qenv z t0 ln t s i := by
          intro j j0 j6
          have : j = 0 ∨ j = 1 ∨ j = 2 ∨ j = 3 ∨ j = 4 ∨ j = 5 := by omega
          rw [← hS1]
          rcases this with rfl | rfl | rfl | rfl | rfl | rfl <;> rfl
        obtain ⟨S2, e2, f2⟩ := zM_unitsOf_120_s (ln := ln) (h := h) (t := t) (s := s) hJ d (e := qenv z t0 ln t s) (by omega) st.2.1.toNat 0 (fun _ => 0) S1 (by omega) (by omega) (qMc_f hW f1) v1 (fun i a b => by rw [hM0] at b; omega)
        have e2 : zM_unitsOf_120 (d + 3) (zI ln) (zI h) s (zI t) (60 : Int32) (1 : Int32) (0 : Int32) S1 = _ := e2
        have mb := qfm_b st vf (qenv z t0 ln t s) st.2.1.toNat 0 (fun _ => 0) (by omega)
        have em : qm1 st vf z t0 ln t s = qfm st vf (qenv z t0 ln t s) st.2.1.toNat 0 (fun _ => 0) := rfl
        rw [← em] at e2 mb
        rw [e2]
        have fx := qF1x_t f1 f2
        have hW2 := qMc_f hW fx
        have n2 : S2.1 11 0 1 = zI t1 := by rw [fx.1 11 (by decide)]; exact hn
        have a2 : S2.1 77 0 ln.toNat = zI t0 := by rw [fx.1 77 (by decide)]; exact ha
        have z2 : 100 ≤ h → S2.1 63 0 (h - 100).toNat = zI z := by rw [fx.1 63 (by decide)]; exact hz2
        by_cases wq : qm1 st vf z t0 ln t s = -1
        · rw [if_pos wq, if_pos wq]
          exact zwp_mono (ih (t + 60) s S2 (by omega) (by omega) (by omega) hW2 n2 a2 hz1 z2) (fun r q => ⟨q.1, qF1x_t fx q.2⟩)
        · rw [if_neg wq, if_neg wq]
          rcases mb with mb | mb
          · exact absurd mb wq
          · have hj := hJ' (qm1 st vf z t0 ln t s) mb.1 (by omega)
            have m1 := hM (qm1 st vf z t0 ln t s) mb.1 (by omega)
            exact zwp_mono (ih (t + (st.2.2.2.2 (qm1 st vf z t0 ln t s)).2.2.1) _ S2 (by omega) (by omega) (by omega) hW2 n2 a2 hz1 z2) (fun r q => ⟨q.1, qF1x_t fx q.2⟩)
      rw [e100]
      by_cases q2 : h < 100
      · have zz := hz1 q2
        rw [zif_pos q2]
        rw [zz] at go ⊢
        exact go
      · rw [zif_neg q2, s100, zg_t (by rw [zI_in (by omega) (by omega)]; omega), zI_zx (by omega) (by omega), hz2 (by omega)]
        exact go
end UM
