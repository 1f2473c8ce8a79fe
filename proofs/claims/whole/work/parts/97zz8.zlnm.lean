/-! THE TARIFF: the reference reads a line -/
def qFw (S S' : ZS) : Prop := (∀ t, t ≠ 11 → ¬ (90 ≤ t ∧ t ≤ 100) → S'.1 t = S.1 t) ∧ (∀ k, k ≠ 39 → k ≠ 40 → k ≠ 41 → k ≠ 43 → k ≠ 44 → k ≠ 54 → S'.1 11 0 k = S.1 11 0 k) ∧ (∀ t, t ≠ 11 → t ≠ 97 → S'.2.1 t = S.2.1 t) ∧ S'.2.2 = S.2.2 ∧ (∀ t, 91 ≤ t → t ≤ 95 → ∀ i, i < 16 → S'.1 t 0 i = S.1 t 0 i) ∧ (∀ i, i < 1000 → S'.1 98 0 i = S.1 98 0 i) ∧ S'.1 90 0 0 = S.1 90 0 0 ∧ S'.1 96 0 0 = S.1 96 0 0
theorem qFw_r (S : ZS) : qFw S S := ⟨fun _ _ _ => rfl, fun _ _ _ _ _ _ _ => rfl, fun _ _ _ => rfl, rfl, fun _ _ _ _ _ => rfl, fun _ _ => rfl, rfl, rfl⟩
theorem qFw_t {S S' S'' : ZS} (h : qFw S S') (k : qFw S' S'') : qFw S S'' := ⟨fun t a b => (k.1 t a b).trans (h.1 t a b), fun s a b c e f g => (k.2.1 s a b c e f g).trans (h.2.1 s a b c e f g), fun t a b => (k.2.2.1 t a b).trans (h.2.2.1 t a b), k.2.2.2.1.trans h.2.2.2.1, fun t a b i c => (k.2.2.2.2.1 t a b i c).trans (h.2.2.2.2.1 t a b i c), fun i a => (k.2.2.2.2.2.1 i a).trans (h.2.2.2.2.2.1 i a), k.2.2.2.2.2.2.1.trans h.2.2.2.2.2.2.1, k.2.2.2.2.2.2.2.trans h.2.2.2.2.2.2.2⟩
theorem qFw_fr {l c0 : Nat} {S S' : ZS} (hl : 16 ≤ l) (hc : 1000 ≤ c0) (h : qFr l c0 S S') : qFw S S' := ⟨fun t a b => h.1 t a (by omega) (by omega) (by omega) (by omega) (by omega), h.2.1, fun t a _ => h.2.2.1 t a, h.2.2.2.1, fun t a b i c => by
  by_cases q : t = 94 ∨ t = 95
  · exact h.2.2.2.2.2 t q i (by omega)
  · exact congrFun (congrFun (h.1 t (by omega) (by omega) (by omega) (by omega) (by omega) (by omega)) 0) i, fun i a => h.2.2.2.2.1 i (by omega), congrFun (congrFun (h.1 90 (by decide) (by decide) (by decide) (by decide) (by decide) (by decide)) 0) 0, congrFun (congrFun (h.1 96 (by decide) (by decide) (by decide) (by decide) (by decide) (by decide)) 0) 0⟩
/-- ahead of the expression -/
def qHn (l : Nat) (S S' : ZS) : Prop := (∀ t, t ≠ 11 → t ≠ 92 → t ≠ 93 → S'.1 t = S.1 t) ∧ (∀ k, k ≠ 39 → k ≠ 40 → k ≠ 41 → k ≠ 43 → k ≠ 44 → S'.1 11 0 k = S.1 11 0 k) ∧ (∀ t, t ≠ 11 → S'.2.1 t = S.2.1 t) ∧ S'.2.2 = S.2.2 ∧ (∀ t, t = 92 ∨ t = 93 → ∀ i, i ≠ l → S'.1 t 0 i = S.1 t 0 i)
theorem qHn_t {l : Nat} {S S' S'' : ZS} (h : qHn l S S') (k : qHn l S' S'') : qHn l S S'' := ⟨fun t a b c => (k.1 t a b c).trans (h.1 t a b c), fun s a b c e f => (k.2.1 s a b c e f).trans (h.2.1 s a b c e f), fun t a => (k.2.2.1 t a).trans (h.2.2.1 t a), k.2.2.2.1.trans h.2.2.2.1, fun t a i b => (k.2.2.2.2 t a i b).trans (h.2.2.2.2 t a i b)⟩
theorem qHn_r (l : Nat) (S : ZS) : qHn l S S := ⟨fun _ _ _ _ => rfl, fun _ _ _ _ _ _ => rfl, fun _ _ => rfl, rfl, fun _ _ _ _ => rfl⟩
theorem qHn_11 {l : Nat} {S S' : ZS} (h : qF11 S S') : qHn l S S' := ⟨fun t a _ _ => h.1 t a, fun k a b c e _ => h.2.1 k a b c e, h.2.2.1, h.2.2.2, fun t a i _ => congrFun (congrFun (h.1 t (by omega)) 0) i⟩
theorem qHn_u (l : Nat) (S : ZS) {t : Nat} (ht : t = 92 ∨ t = 93) (v : Int32) : qHn l S (zu S.1 t 0 l v, S.2) := ⟨fun t' a b c => by
  funext i k
  exact zu_tag S.1 (by omega), fun s a b c e f => zu_tag S.1 (by omega), fun _ _ => rfl, rfl, fun t' a i hi => zu_pl S.1 hi⟩
theorem qHn_44 (l : Nat) (S : ZS) (v : Int32) : qHn l S (zu S.1 11 0 44 v, S.2) := ⟨fun t a _ _ => by
  funext i k
  exact zu_tag S.1 a, fun s a b c e f => zu_pl S.1 f, fun _ _ => rfl, rfl, fun t a i _ => zu_tag S.1 (by omega)⟩
theorem qFw_h {l : Nat} {S S' : ZS} (hl : 16 ≤ l) (h : qHn l S S') : qFw S S' := ⟨fun t a b => h.1 t a (by omega) (by omega), fun k a b c e f _ => h.2.1 k a b c e f, fun t a _ => h.2.2.1 t a, h.2.2.2.1, fun t a b i c => by
  by_cases q : t = 92 ∨ t = 93
  · exact h.2.2.2.2 t q i (by omega)
  · exact congrFun (congrFun (h.1 t (by omega) (by omega) (by omega)) 0) i, fun i _ => congrFun (congrFun (h.1 98 (by decide) (by decide) (by decide)) 0) i, congrFun (congrFun (h.1 90 (by decide) (by decide) (by decide)) 0) 0, congrFun (congrFun (h.1 96 (by decide) (by decide) (by decide)) 0) 0⟩
section ML
variable {tp : Int → Int} {n : Int}
/-- the lines that the reference holds -/
def qMw (tp : Int → Int) (n : Int) (st : QL) (rb : Int → Int) (S : ZS) : Prop := (qM tp n S st.1 ∧ qD tp n S ∧ qNm tp n st.2.2.2.1 (st.2.2.1 st.2.1) S) ∧ S.1 90 0 1 = zI st.2.1 ∧ S.1 11 0 54 = zI (1000 + rb (st.2.1 - 1)) ∧ (rb (-1) = 0 ∧ 0 ≤ rb (st.2.1 - 1) ∧ rb (st.2.1 - 1) ≤ st.1) ∧
  ∀ l, 0 ≤ l → l < st.2.1 → S.1 91 0 (16 + l).toNat = zI (st.2.2.2.2 l).1 ∧ ((st.2.2.2.2 l).1 = -1 → S.1 92 0 (16 + l).toNat = zI (st.2.2.2.2 l).2.1 ∧ S.1 93 0 (16 + l).toNat = zI (st.2.2.2.2 l).2.2.1) ∧ S.1 94 0 (16 + l).toNat = zI (1000 + rb (l - 1)) ∧ S.1 95 0 (16 + l).toNat = zI (1000 + rb l) ∧
    (rb l = rb (l - 1) + (st.2.2.2.2 l).2.2.2.length ∧ 0 ≤ rb (l - 1) ∧ rb l ≤ rb (st.2.1 - 1)) ∧ qLs (S.1 98 0) (1000 + rb (l - 1)).toNat (st.2.2.2.2 l).2.2.2
/-- what a line comes to, told by what must follow -/
def qWh (tp : Int → Int) (n : Int) (st : QL) (S : ZS) (Q : Int32 × ZS → Prop) : Prop := (∃ f, qLF tp n st f ∧ ∀ y : ZS, y.1 11 0 44 = zI f → qFw S y → Q ((0 : Int32), y)) ∨ (∃ st', qLK tp n st st' ∧ ∀ y : ZS, qFw S y → (∃ rb', qMw tp n st' rb' y) → Q ((1 : Int32), y))
theorem qWh_f {st : QL} {S : ZS} {Q : Int32 × ZS → Prop} (h : qWh tp n st S Q) {f : Int} (hd : qHd tp n st.2.2.2.1 (st.2.2.1 st.2.1) st.2.1 st.1 = (f, 0)) (hf : f ≠ 0) (y : ZS) (h44 : y.1 11 0 44 = zI f) (hy : qFw S y) : Q ((0 : Int32), y) := by
  rcases h with ⟨f', h, k⟩ | ⟨st', h, -⟩
  · rcases h with ⟨h1, h2⟩ | ⟨h1, -⟩
    · rw [hd] at h2
      exact k y (by rw [h44, h2]) hy
    · rw [hd] at h1
      exact absurd h1 hf
  · have h1 := h.2.1
    rw [hd] at h1
    exact absurd h1 hf
theorem qWh_o {st : QL} {S : ZS} {Q : Int32 × ZS → Prop} (h : qWh tp n st S Q) {b' : Int} (hd : qHd tp n st.2.2.2.1 (st.2.2.1 st.2.1) st.2.1 st.1 = (0, b')) : ∃ s', qRd tp n st.2.2.2.1 (st.2.2.1 st.2.1) b' s' ∧ ((qer tp n st.2.2.2.1 (st.2.2.1 st.2.1) s' ≠ 0 ∧ ∀ y : ZS, y.1 11 0 44 = zI (qer tp n st.2.2.2.1 (st.2.2.1 st.2.1) s' + 16 * s'.1) → qFw S y → Q ((0 : Int32), y)) ∨ (qer tp n st.2.2.2.1 (st.2.2.1 st.2.1) s' = 0 ∧ ∀ y : ZS, qFw S y → (∃ rb', qMw tp n (qLA tp n st s') rb' y) → Q ((1 : Int32), y))) := by
  rcases h with ⟨f', h, k⟩ | ⟨st', ⟨h0, h1, s', h2, h3, h4⟩, k⟩
  · rcases h with ⟨h1, h2⟩ | ⟨h1, s', h2, h3, h4⟩
    · rw [hd] at h1
      exact absurd rfl h1
    · rw [hd] at h2
      refine ⟨s', h2, Or.inl ⟨h3, fun y a b => k y ?_ b⟩⟩
      rw [h4]
      exact a
  · rw [hd] at h2
    rw [h4] at k
    exact ⟨s', h2, Or.inr ⟨h3, k⟩⟩
theorem mOk {st : QL} {rb : Int → Int} {S : ZS} {s' : QS} (hI : qPI tp n st) (h : qMw tp n st rb S) (hb' : st.1 ≤ s'.1 ∧ s'.1 ≤ n) (hc : 1000 + rb (st.2.1 - 1) + s'.2.2.2.2.2.length ≤ 1000 + s'.1) {y : ZS} {l : Nat} (hl : (l : Int) = 16 + st.2.1)
    (y1 : qM tp n y (znx tp n s'.1)) (yD : qD tp n y) (yN : qNm tp n (qLA tp n st s').2.2.2.1 ((qLA tp n st s').2.2.1 (qLA tp n st s').2.1) y) (y90 : y.1 90 0 1 = zI (st.2.1 + 1)) (y54 : y.1 11 0 54 = zI (1000 + rb (st.2.1 - 1) + s'.2.2.2.2.2.length)) (y91l : y.1 91 0 l = zI (if qtc tp n st.1 = 6 then st.2.2.1 st.2.1 else -1)) (ys : ∀ t, 91 ≤ t → t ≤ 95 → ∀ i, i ≠ l → y.1 t 0 i = S.1 t 0 i)
    (yu : qtc tp n st.1 ≠ 6 → y.1 92 0 l = zI (znv tp n (znx tp n st.1)) ∧ y.1 93 0 l = zI (znv tp n (znx tp n (znx tp n (znx tp n st.1))))) (y94 : y.1 94 0 l = zI (1000 + rb (st.2.1 - 1))) (y95 : y.1 95 0 l = zI (1000 + rb (st.2.1 - 1) + s'.2.2.2.2.2.length)) (y98 : ∀ i, i < (1000 + rb (st.2.1 - 1)).toNat → y.1 98 0 i = S.1 98 0 i) (yR : qLs (y.1 98 0) (1000 + rb (st.2.1 - 1)).toNat s'.2.2.2.2.2) :
    qMw tp n (qLA tp n st s') (qup rb st.2.1 (rb (st.2.1 - 1) + s'.2.2.2.2.2.length)) y := by
  obtain ⟨-, h90, h54, hrb, hls⟩ := h
  obtain ⟨hb, hL, -, h4, -, -⟩ := hI
  have m4 := h4 st.2.1 hL.1 (Int.le_refl _)
  have xs := znx_b tp n (b := s'.1) (by omega)
  have e1 : (qLA tp n st s').2.1 = st.2.1 + 1 := rfl
  have ee : qup rb st.2.1 (rb (st.2.1 - 1) + s'.2.2.2.2.2.length) ((qLA tp n st s').2.1 - 1) = rb (st.2.1 - 1) + s'.2.2.2.2.2.length := by
    rw [e1, show st.2.1 + 1 - 1 = st.2.1 by omega, qup_s]
  refine ⟨⟨y1, yD, yN⟩, y90, ?_, ⟨?_, ?_, ?_⟩, fun k k0 k1 => ?_⟩
  · rw [ee, y54, show 1000 + rb (st.2.1 - 1) + (s'.2.2.2.2.2.length : Int) = 1000 + (rb (st.2.1 - 1) + s'.2.2.2.2.2.length) by omega]
  · rw [qup_n _ _ (by omega)]
    exact hrb.1
  · rw [ee]
    omega
  · rw [ee]
    show rb (st.2.1 - 1) + (s'.2.2.2.2.2.length : Int) ≤ znx tp n s'.1
    omega
  · have k1 : k < st.2.1 + 1 := k1
    have er : (qLA tp n st s').2.2.2.2 = qwl st.2.2.2.2 st.2.1 (if qtc tp n st.1 = 6 then (st.2.2.1 st.2.1, -1, 0, s'.2.2.2.2.2) else (-1, znv tp n (znx tp n st.1), znv tp n (znx tp n (znx tp n (znx tp n st.1))), s'.2.2.2.2.2)) := rfl
    rw [ee]
    by_cases q : k = st.2.1
    · have el : (16 + st.2.1).toNat = l := by omega
      rw [er, q, qwl_s, qup_s, qup_n _ _ (show st.2.1 - 1 ≠ st.2.1 by omega), el, y94, y95]
      by_cases t6 : qtc tp n st.1 = 6
      · rw [if_pos t6] at y91l ⊢
        refine ⟨y91l, fun e => ?_, rfl, by rw [show 1000 + rb (st.2.1 - 1) + (s'.2.2.2.2.2.length : Int) = 1000 + (rb (st.2.1 - 1) + s'.2.2.2.2.2.length) by omega], ⟨rfl, by omega, by omega⟩, yR⟩
        have e : st.2.2.1 st.2.1 = -1 := e
        omega
      · rw [if_neg t6] at y91l ⊢
        exact ⟨y91l, fun _ => yu t6, rfl, by rw [show 1000 + rb (st.2.1 - 1) + (s'.2.2.2.2.2.length : Int) = 1000 + (rb (st.2.1 - 1) + s'.2.2.2.2.2.length) by omega], ⟨rfl, by omega, by omega⟩, yR⟩
    · obtain ⟨a1, a2, a3, a4, a5, a6⟩ := hls k k0 (by omega)
      have nl : (16 + k).toNat ≠ l := by omega
      rw [er, qwl_n _ _ q, qup_n _ _ q, qup_n _ _ (show k - 1 ≠ st.2.1 by omega), ys 91 (by omega) (by omega) _ nl, ys 92 (by omega) (by omega) _ nl, ys 93 (by omega) (by omega) _ nl, ys 94 (by omega) (by omega) _ nl, ys 95 (by omega) (by omega) _ nl]
      exact ⟨a1, a2, a3, a4, ⟨a5.1, a5.2.1, by omega⟩, qLs_f _ _ a6 (fun i i1 i2 => y98 i (by omega))⟩
end ML
