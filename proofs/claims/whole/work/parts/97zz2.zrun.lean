/-! THE TARIFF: the reference's reading, to its end -/
/-- what the reading of line l leaves alone -/
def qFr (l : Nat) (c0 : Nat) (S S' : ZS) : Prop := (∀ t, t ≠ 11 → t ≠ 94 → t ≠ 95 → t ≠ 98 → t ≠ 99 → t ≠ 100 → S'.1 t = S.1 t) ∧ (∀ k, k ≠ 39 → k ≠ 40 → k ≠ 41 → k ≠ 43 → k ≠ 44 → k ≠ 54 → S'.1 11 0 k = S.1 11 0 k) ∧ (∀ t, t ≠ 11 → S'.2.1 t = S.2.1 t) ∧ S'.2.2 = S.2.2 ∧ (∀ i, i < c0 → S'.1 98 0 i = S.1 98 0 i) ∧ (∀ t, t = 94 ∨ t = 95 → ∀ i, i ≠ l → S'.1 t 0 i = S.1 t 0 i)
theorem qFr_t {l c0 : Nat} {S S' S'' : ZS} (h : qFr l c0 S S') (k : qFr l c0 S' S'') : qFr l c0 S S'' := ⟨fun t a b c e f g => (k.1 t a b c e f g).trans (h.1 t a b c e f g), fun s a b c e f g => (k.2.1 s a b c e f g).trans (h.2.1 s a b c e f g), fun t a => (k.2.2.1 t a).trans (h.2.2.1 t a), k.2.2.2.1.trans h.2.2.2.1, fun i hi => (k.2.2.2.2.1 i hi).trans (h.2.2.2.2.1 i hi), fun t ht i hi => (k.2.2.2.2.2 t ht i hi).trans (h.2.2.2.2.2 t ht i hi)⟩
theorem qFr_m {l c0 : Nat} {S S' : ZS} (h : qFm c0 S S') : qFr l c0 S S' := ⟨fun t a _ _ c e f => h.1 t a c e f, h.2.1, h.2.2.1, h.2.2.2.1, h.2.2.2.2, fun t ht i _ => congrFun (congrFun (h.1 t (by omega) (by omega) (by omega) (by omega)) 0) i⟩
theorem qFr_u (l c0 : Nat) (S : ZS) {t : Nat} (ht : t = 94 ∨ t = 95) (v : Int32) : qFr l c0 S (zu S.1 t 0 l v, S.2) := ⟨fun t' a b c e f g => by
  funext i k
  exact zu_tag S.1 (by omega), fun s a b c e f g => zu_tag S.1 (by omega), fun _ _ => rfl, rfl, fun i hi => zu_tag S.1 (by omega), fun t' ht' i hi => zu_pl S.1 hi⟩
theorem qFr_c (l c0 : Nat) (S : ZS) : qFr l c0 S (zu S.1 100 0 0 (0 : Int32), S.2) := ⟨fun t' a b c e f g => by
  funext i k
  exact zu_tag S.1 g, fun s a b c e f g => rfl, fun _ _ => rfl, rfl, fun i hi => rfl, fun t' ht' i hi => zu_tag S.1 (by omega)⟩
def q0 (b : Int) : QS := (b, 1, 0, fun _ => 0, fun _ => 0, [])
/-- the expression that begins at b is read up to s' -/
def qRd (tp : Int → Int) (n : Int) (bt : Int → Int) (m b : Int) (s' : QS) : Prop := qrc tp n bt m (q0 b) s' ∧ qnx tp n bt m s' = none
section RN
variable {tp : Int → Int} {n : Int} {bt : Int → Int} {m : Int} {l : Int} {S : ZS} {c0 : Nat}
theorem mRun (hB : qB tp n) (hN : qNb tp n bt m) (d : Nat) : ∀ (k : Nat) (s s' : QS) (S : ZS), qre tp n bt m k s s' → qMs tp n bt m c0 s S → (s.2.1 = 0 ∨ s.2.1 = 1) →
    ∃ S', zM_reads_21 (d + 3) (zI l) (zI s.2.2.1) (zI s.2.1) S = zM_reads_21 (d + 3) (zI l) (zI s'.2.2.1) (zI s'.2.1) S' ∧ qMs tp n bt m c0 s' S' ∧ qFm c0 S S' ∧ (s'.2.1 = 0 ∨ s'.2.1 = 1) := by
  intro k
  induction k with
  | zero =>
    intro s s' S h hM hw
    have h : s = s' := h
    rw [← h]
    exact ⟨S, rfl, hM, qFm_r c0 S, hw⟩
  | succ k ih =>
    intro s s' S h hM hw
    obtain ⟨s1, h1, h2⟩ := h
    obtain ⟨S1, e1, m1, f1, w1⟩ := mSt (l := l) hB hN d hM hw h1
    obtain ⟨S2, e2, m2, f2, w2⟩ := ih s1 s' S1 h2 m1 w1
    exact ⟨S2, e1.trans e2, m2, qFm_t f1 f2, w2⟩
/-- it stops -/
theorem mEnd (hB : qB tp n) (hN : qNb tp n bt m) (d : Nat) (hl : 0 ≤ l ∧ l < 32) {s : QS} (h : qMs tp n bt m c0 s S) (hwa : s.2.1 = 0 ∨ s.2.1 = 1) (hq : qnx tp n bt m s = none) :
    zwp (zM_reads_21 (d + 3) (zI l) (zI s.2.2.1) (zI s.2.1) S) (fun x => qFr l.toNat c0 S x.2 ∧ ((qer tp n bt m s ≠ 0 ∧ x.1 = 0 ∧ x.2.1 11 0 44 = zI (qer tp n bt m s + 16 * s.1)) ∨ (qer tp n bt m s = 0 ∧ x.1 = 1 ∧ qM tp n x.2 (znx tp n s.1) ∧ x.2.1 95 0 l.toNat = zI ((c0 : Int) + s.2.2.2.2.2.length) ∧ x.2.1 94 0 l.toNat = S.1 94 0 l.toNat ∧ x.2.1 11 0 54 = S.1 11 0 54 ∧ x.2.1 98 = S.1 98))) := by
  obtain ⟨b, wa, w, op, cm, R⟩ := s
  obtain ⟨⟨hM, hD, hNm⟩, ⟨hb, hw, hc⟩, ⟨h54, hL⟩, h99, h100⟩ := id h
  dsimp only at hM hb hw hc h54 hL h99 h100 hwa
  have bn := hB.1
  have fl : ∀ v, qFr l.toNat c0 S (zu S.1 11 0 44 v, S.2) := fun v => qFr_m (qFm_l c0 S v)
  unfold qnx at hq
  dsimp only at hq
  rcases hwa with hwa | hwa
  · subst hwa
    rw [if_neg (by decide)] at hq
    dsimp only
    by_cases t1 : qtc tp n b = 143 ∨ qtc tp n b = 145 ∨ qtc tp n b = 142
    · rw [if_pos t1] at hq
      cases hq
    rw [if_neg t1] at hq
    by_cases t2 : (qtc tp n b = 160 ∨ qtc tp n b = 161) ∧ cm w = 0
    · rw [if_pos t2] at hq
      cases hq
    rw [if_neg t2] at hq
    by_cases t3 : qtc tp n b = 10 ∨ qtc tp n b = 11
    · rw [if_pos t3] at hq
      cases hq
    rw [if_neg t3] at hq
    by_cases t4 : qtc tp n b = 141 ∧ 0 < w
    · rw [if_pos t4] at hq
      cases hq
    have g100 := h100 w hw.1 (Int.le_refl w)
    have e378 : zif (qtc tp n b = 160 ∨ qtc tp n b = 161) (zM_reads_337 (d + 3) (zI l) (zI w) (0 : Int32) S) (zM_reads_378 (d + 3) (zI l) (zI w) (0 : Int32) S) = zM_reads_378 (d + 3) (zI l) (zI w) (0 : Int32) S := by
      by_cases q : qtc tp n b = 160 ∨ qtc tp n b = 161
      · rw [zif_pos q, mT337 hB hD hM hb d hw g100.2 g100.1, zif_neg (fun e => t2 ⟨q, e⟩)]
      · rw [zif_neg q]
    have s59 : zM_isSign (d + 3) (59 : Int32) S = some (zb (qtc tp n b = 159), S) := cM_sign hB hD hb hM (d + 2) (c := 59) (by omega)
    have e0 : (zI w = 0) = (w = 0) := zI_eq (a := w) (b := 0) (by omega) (by omega) (by omega) (by omega)
    rw [show zI 0 = (0 : Int32) from rfl, mT0 hB hD hM hb d, zif_neg t1, e378, mT378 hB hD hM hb d hw, zif_neg t3, zif_neg t4, eM_reads_473, s59, zBs]
    dsimp only
    rw [zb_0, e0]
    unfold qer
    dsimp only
    rw [if_neg (show ¬ (0 : Int) = 1 by decide)]
    by_cases t5 : qtc tp n b = 159
    · rw [zif_neg (fun e => e t5)]
      by_cases w0 : w = 0
      · have f1 := qFr_u l.toNat c0 S (t := 95) (Or.inr rfl) (S.1 11 0 54)
        obtain ⟨S2, e2, hM2, f2⟩ := zM_next_s (S := (zu S.1 95 0 l.toNat (S.1 11 0 54), S.2)) hB hD (d + 1) hb hM
        have e2 : zM_next (d + 3) (zu S.1 95 0 l.toNat (S.1 11 0 54), S.2) = some S2 := e2
        rw [zif_pos w0, zg_t (by rw [zI_in (by omega) (by omega)]; omega), zI_zx (by omega) (by omega), e2, zBs, zwp_some, if_pos ⟨t5, w0⟩]
        refine ⟨qFr_t f1 (qFr_m (qFm_11 f2)), Or.inr ⟨rfl, rfl, hM2, ?_, ?_, ?_, ?_⟩⟩
        · refine (congrFun (congrFun (f2.1 95 (by decide)) 0) l.toNat).trans ?_
          exact (zu_same S.1 95 0 l.toNat _).trans h54
        · exact congrFun (congrFun (f2.1 94 (by decide)) 0) l.toNat
        · exact f2.2.1 54 (by decide) (by decide) (by decide) (by decide)
        · exact f2.1 98 (by decide)
      · rw [zif_neg w0, if_neg (fun e => w0 e.2)]
        refine mF hM (d + 2) 1 ⟨fl _, Or.inl ⟨by decide, rfl, ?_⟩⟩
        exact zu_same S.1 11 0 44 _
    · rw [zif_pos t5, if_neg (fun e => t5 e.1)]
      refine mF hM (d + 2) 1 ⟨fl _, Or.inl ⟨by decide, rfl, ?_⟩⟩
      exact zu_same S.1 11 0 44 _
  · subst hwa
    rw [if_pos rfl] at hq
    dsimp only
    rw [show zI 1 = (1 : Int32) from rfl, mT21 hB hD hM hb d]
    unfold qer
    dsimp only
    rw [if_pos rfl]
    by_cases ok : (qtc tp n b < 6 ∨ qtc tp n b = 50 ∨ qtc tp n b = 60 ∨ qtc tp n b = 12 ∨ qtc tp n b = 140) ∧ (qtc tp n b = 50 → 0 ≤ qsl tp n bt m b)
    · -- too deep
      have w5 : w = 5 := by
        by_cases t1 : qtc tp n b < 6 ∨ qtc tp n b = 50 ∨ qtc tp n b = 60
        · rw [if_pos t1, if_neg (fun e => by have := ok.2 e.1; omega)] at hq
          by_cases q : w = 5
          · exact q
          · rw [if_neg q] at hq
            cases hq
        · rw [if_neg t1, if_pos (by omega)] at hq
          by_cases q : w = 5
          · exact q
          · rw [if_neg q] at hq
            cases hq
      have e5 : (zI w = 5) = (w = 5) := zI_eq (a := w) (b := 5) (by omega) (by omega) (by omega) (by omega)
      have ek : (if qtc tp n b < 6 ∨ qtc tp n b = 50 ∨ qtc tp n b = 60 then (if qtc tp n b = 50 ∧ qsl tp n bt m b < 0 then (2 : Int) else 5) else if qtc tp n b = 12 ∨ qtc tp n b = 140 then 5 else 1) = 5 := by
        by_cases t1 : qtc tp n b < 6 ∨ qtc tp n b = 50 ∨ qtc tp n b = 60
        · rw [if_pos t1, if_neg (fun e => by have := ok.2 e.1; omega)]
        · rw [if_neg t1, if_pos (by omega)]
      rw [ek, mT68 hN hNm hM d ok.1 ok.2, eM_reads_122, e5, zif_pos w5]
      refine mF hM (d + 2) 5 ⟨fl _, Or.inl ⟨by decide, rfl, ?_⟩⟩
      exact zu_same S.1 11 0 44 _
    · have sb := qsl_b (tp := tp) (n := n) (bt := bt) (b := b) hN.1
      have ek : (if qtc tp n b < 6 ∨ qtc tp n b = 50 ∨ qtc tp n b = 60 then (if qtc tp n b = 50 ∧ qsl tp n bt m b < 0 then (2 : Int) else 5) else if qtc tp n b = 12 ∨ qtc tp n b = 140 then 5 else 1) = if qtc tp n b = 50 then 2 else 1 := by
        by_cases t50 : qtc tp n b = 50
        · have : qsl tp n bt m b < 0 := by
            by_cases q : qsl tp n bt m b < 0
            · exact q
            · exact absurd ⟨by omega, fun _ => by omega⟩ ok
          rw [if_pos (by omega), if_pos ⟨t50, this⟩, if_pos t50]
        · have no : ¬ (qtc tp n b < 6 ∨ qtc tp n b = 60 ∨ qtc tp n b = 12 ∨ qtc tp n b = 140) := fun e => ok ⟨by omega, fun e => absurd e t50⟩
          rw [if_neg (by omega), if_neg (by omega), if_neg t50]
      rw [ek]
      refine mF68 hN hNm hM d (fun e => ok ⟨by omega, fun e2 => by omega⟩) (fun e => ?_) ⟨fl _, Or.inl ⟨by split <;> decide, rfl, ?_⟩⟩
      · by_cases q : qsl tp n bt m b < 0
        · exact q
        · exact absurd ⟨by omega, fun _ => by omega⟩ ok
      · exact zu_same S.1 11 0 44 _
/-- an expression -/
theorem zM_reads_s (hB : qB tp n) (hN : qNb tp n bt m) (d : Nat) (hl : 0 ≤ l ∧ l < 32) {b : Int} (hb : 0 ≤ b ∧ b ≤ n) (hM : qM tp n S b) (hD : qD tp n S) (hNm : qNm tp n bt m S) (h54 : S.1 11 0 54 = zI c0) (hc : (c0 : Int) ≤ 1000 + b) {s' : QS} (hr : qRd tp n bt m b s') :
    (0 ≤ s'.1 ∧ s'.1 ≤ n) ∧ (c0 : Int) + s'.2.2.2.2.2.length ≤ 1000 + s'.1 ∧ zwp (zM_reads (d + 4) (zI l) S) (fun x => qFr l.toNat c0 S x.2 ∧ ((qer tp n bt m s' ≠ 0 ∧ x.1 = 0 ∧ x.2.1 11 0 44 = zI (qer tp n bt m s' + 16 * s'.1)) ∨ (qer tp n bt m s' = 0 ∧ x.1 = 1 ∧ qM tp n x.2 (znx tp n s'.1) ∧ x.2.1 95 0 l.toNat = zI ((c0 : Int) + s'.2.2.2.2.2.length) ∧ x.2.1 94 0 l.toNat = zI c0 ∧ x.2.1 11 0 54 = zI ((c0 : Int) + s'.2.2.2.2.2.length) ∧ qLs (x.2.1 98 0) c0 s'.2.2.2.2.2))) := by
  have bn := hB.1
  obtain ⟨⟨k, hr⟩, hq⟩ := hr
  have f0 := qFr_t (qFr_c l.toNat c0 S) (qFr_u l.toNat c0 (zu S.1 100 0 0 (0 : Int32), S.2) (t := 94) (Or.inl rfl) (S.1 11 0 54))
  have m0 : qMs tp n bt m c0 (q0 b) (zu (zu S.1 100 0 0 (0 : Int32)) 94 0 l.toNat (S.1 11 0 54), S.2) := by
    refine ⟨⟨hM, hD, hNm⟩, ⟨hb, by show (0 : Int) ≤ 0 ∧ (0 : Int) ≤ 5; omega, ?_⟩, ⟨?_, trivial⟩, fun d a c => ?_, fun d a c => ?_⟩
    · show (c0 : Int) + (([] : List Int).length : Int) ≤ 1000 + b
      rw [List.length_nil]
      omega
    · show S.1 11 0 54 = zI ((c0 : Int) + (([] : List Int).length : Int))
      rw [List.length_nil, h54, show (c0 : Int) + ((0 : Nat) : Int) = c0 by omega]
    · have c : d ≤ 0 := c
      omega
    · have c : d ≤ 0 := c
      have e : d = 0 := by omega
      rw [e]
      exact ⟨rfl, Or.inl rfl⟩
  obtain ⟨S1, e1, m1, f1, w1⟩ := mRun (l := l) hB hN d k (q0 b) s' _ hr m0 (Or.inr rfl)
  obtain ⟨-, ⟨hb1, hw1, hc1⟩, ⟨h54', hL1⟩, -, -⟩ := id m1
  refine ⟨hb1, hc1, ?_⟩
  have e1 : zM_reads_21 (d + 3) (zI l) (0 : Int32) (1 : Int32) (zu (zu S.1 100 0 0 (0 : Int32)) 94 0 l.toNat (S.1 11 0 54), S.2) = zM_reads_21 (d + 3) (zI l) (zI s'.2.2.1) (zI s'.2.1) S1 := e1
  have z0 : zx (0 : Int32) = 0 := rfl
  rw [eM_reads, zg_t (by decide), zg_t (by decide), zg_t (by rw [zI_in (by omega) (by omega)]; omega), z0, zI_zx (by omega) (by omega)]
  rw [show (zu S.1 100 0 0 (0 : Int32)) 11 0 54 = S.1 11 0 54 from rfl, e1]
  refine zwp_mono (mEnd hB hN d hl m1 w1 hq) (fun x q => ⟨qFr_t f0 (qFr_t (qFr_m f1) q.1), ?_⟩)
  rcases q.2 with ⟨a1, a2, a3⟩ | ⟨a1, a2, a3, a4, a5, a6, a7⟩
  · exact Or.inl ⟨a1, a2, a3⟩
  · refine Or.inr ⟨a1, a2, a3, a4, ?_, a6.trans h54', by rw [a7]; exact hL1⟩
    refine a5.trans ((congrFun (congrFun (f1.1 94 (by decide) (by decide) (by decide) (by decide)) 0) l.toNat).trans ?_)
    exact (zu_same (zu S.1 100 0 0 (0 : Int32)) 94 0 l.toNat (S.1 11 0 54)).trans h54
end RN
