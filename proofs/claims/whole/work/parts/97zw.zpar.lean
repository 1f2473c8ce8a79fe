/-! THE TARIFF: the class reads an expression -/
/-- what the reading of an expression leaves alone -/
def qFt (u : Nat) (S S' : ZS) : Prop := (∀ t i k, t ≠ 6 → ¬ (i = u ∧ (t = 45 ∨ (t = 7 ∧ (k = 1 ∨ k = 7)))) → S'.1 t i k = S.1 t i k) ∧ S'.1 6 0 1 = S.1 6 0 1 ∧ S'.2.1 = S.2.1 ∧ (∀ t, t ≠ 6 → S'.2.2.1 t = S.2.2.1 t) ∧ S'.2.2.2 = S.2.2.2
theorem qFt_r (u : Nat) (S : ZS) : qFt u S S := ⟨fun _ _ _ _ _ => rfl, rfl, rfl, fun _ _ => rfl, rfl⟩
theorem qFt_t {u : Nat} {S S' S'' : ZS} (h : qFt u S S') (k : qFt u S' S'') : qFt u S S'' := ⟨fun t i s a b => (k.1 t i s a b).trans (h.1 t i s a b), k.2.1.trans h.2.1, k.2.2.1.trans h.2.2.1, fun t ht => (k.2.2.2.1 t ht).trans (h.2.2.2.1 t ht), k.2.2.2.2.trans h.2.2.2.2⟩
theorem qFt_6 {u : Nat} {S S' : ZS} (h : qF6 S S') : qFt u S S' := ⟨fun t i k a _ => congrFun (congrFun (h.1 t a) i) k, h.2.1, h.2.2.1, h.2.2.2.1, h.2.2.2.2⟩
theorem qFt_put (u : Nat) (S : ZS) (j : Nat) (v v' : Int32) : qFt u S (zu (zu S.1 45 u j v) 7 u 7 v', S.2) := ⟨fun t i k a b => by
  have e1 : zu (zu S.1 45 u j v) 7 u 7 v' t i k = zu S.1 45 u j v t i k := if_neg (fun e => b ⟨e.2.1, Or.inr ⟨e.1, Or.inr e.2.2⟩⟩)
  exact e1.trans (if_neg (fun e => b ⟨e.2.1, Or.inl e.1⟩)), rfl, rfl, fun _ _ => rfl, rfl⟩
theorem qFt_fail (u : Nat) (S : ZS) (v : Int32) : qFt u S (zu S.1 7 u 1 v, S.2) := ⟨fun t i k _ b => if_neg (fun e => b ⟨e.2.1, Or.inr ⟨e.1, Or.inl e.2.2⟩⟩), rfl, rfl, fun _ _ => rfl, rfl⟩
def qRr (r w : Int) (R : List Int) (v : QV) : Prop := (r = 0 → qR0 w R v) ∧ (r = 1 → qR1 w R v) ∧ (r = 2 → qR2 w R v) ∧ (r = 3 → qR3 w R v) ∧ (r = 4 → qR4 w R v)
theorem qRr_l {r w : Int} (hr : 0 ≤ r ∧ r ≤ 3) (hw : 0 ≤ w) {R : List Int} {v : QV} (h : qRr (r + 1) w R v) : qRr r w R v :=
  ⟨fun e => qR10 (h.2.1 (by omega)), fun e => qR21 (h.2.2.1 (by omega)), fun e => qR32 (h.2.2.2.1 (by omega)), fun e => qR43 hw (h.2.2.2.2 (by omega)), fun e => by omega⟩
section PC
variable (tp : Int → Int) (n : Int) (bt : Int → Int) (m : Int) (u : Nat)
/-- no operation of rank r or above stands there -/
def qNo (r w b : Int) (cm : Int → Int) : Prop := (r ≤ 3 → qtc tp n b ≠ 142) ∧ (r ≤ 2 → qtc tp n b ≠ 143 ∧ qtc tp n b ≠ 145) ∧ (r ≤ 1 → (qtc tp n b = 160 ∨ qtc tp n b = 161) → cm w ≠ 0) ∧ (r ≤ 0 → qtc tp n b ≠ 10 ∧ qtc tp n b ≠ 11)
/-- an expression of rank r was read: from b to b', its code from c on -/
def qSu (r w b c : Int) (op cm : Int → Int) (R0 : List Int) (S0 S : ZS) (b' : Int) (op' cm' : Int → Int) (C R : List Int) (v : QV) : Prop :=
  (qFt u S0 S ∧ (∀ i, i < c.toNat → S.1 45 u i = S0.1 45 u i) ∧ S.1 7 u 1 = S0.1 7 u 1 ∧ qA tp n S b' ∧ S.1 7 u 7 = zI (c + C.length) ∧ qLs (S.1 45 u) c.toNat C) ∧
  ((b < b' ∧ b' ≤ n) ∧ (C.length : Int) ≤ b' - b ∧ qWl m C ∧ qXl m R) ∧ qP r w C v ∧ qRr r w R v ∧
  qrc tp n bt m (b, 1, w, op, cm, R0) (b', 0, qpp w.toNat op w, op', cm', R0 ++ R) ∧ (∀ d, d ≤ w → op' d = op d) ∧ (∀ d, d < w → cm' d = cm d) ∧ (2 ≤ r → cm' w = cm w)
/-- it was not -/
def qFl (s0 : QS) (S0 S : ZS) : Prop := qFt u S0 S ∧ ∃ s', qrc tp n bt m s0 s' ∧ qnx tp n bt m s' = none ∧ qer tp n bt m s' ≠ 0 ∧ S.1 7 u 1 = zI (qer tp n bt m s' + 16 * s'.1) ∧ (0 ≤ s'.1 ∧ s'.1 ≤ n)
def qPo (r w b c : Int) (op cm : Int → Int) (R0 : List Int) (S0 : ZS) (x : Int32 × ZS) : Prop :=
  (x.1 = 0 ∧ qFl tp n bt m u (b, 1, w, op, cm, R0) S0 x.2) ∨ (x.1 = 1 ∧ ∃ b' op' cm' C R v, qSu tp n bt m u r w b c op cm R0 S0 x.2 b' op' cm' C R v ∧ qNo tp n r w b' cm')
/-- what is asked ahead of it -/
def qPr (r w b c : Int) (op cm : Int → Int) (S : ZS) : Prop := qC tp n S ∧ qA tp n S b ∧ qNc tp n bt m u S ∧ (0 ≤ b ∧ b ≤ n) ∧ S.1 7 u 7 = zI c ∧ (0 ≤ c ∧ c ≤ b) ∧ (r < 4 → w = 0 ∨ op w ≠ 1) ∧ (r ≤ 1 → cm w = 0)
def qPaOK (D : Nat) (w : Int) : Prop := ∀ b c op cm R0 S, qPr tp n bt m u 4 w b c op cm S → zwp (zF_readPart D u (zI w) S) (qPo tp n bt m u 4 w b c op cm R0 S)
def qOpOK (D : Nat) (r w : Int) : Prop := ∀ b c op cm R0 S, qPr tp n bt m u r w b c op cm S → zwp (zF_readOperations D u (zI r) (zI w) S) (qPo tp n bt m u r w b c op cm R0 S)
end PC
section PD
variable {tp : Int → Int} {n : Int} {bt : Int → Int} {m : Int} {u : Nat}
theorem qC_t {S S' : ZS} (h : qC tp n S) (f : qFt u S S') : qC tp n S' := ⟨f.2.1.trans h.1, fun i a b => (f.1 41 0 _ (by decide) (fun e => by omega)).trans (h.2 i a b)⟩
theorem qNc_t {S S' : ZS} (h : qNc tp n bt m u S) (f : qFt u S S') : qNc tp n bt m u S' := ⟨(f.1 7 u 8 (by decide) (fun e => by omega)).trans h.1, fun i a b => by
  rw [f.2.2.1]
  exact h.2 i a b⟩
theorem qFl_t {s0 s1 : QS} {S0 S1 S : ZS} (h : qrc tp n bt m s0 s1) (f : qFt u S0 S1) (k : qFl tp n bt m u s1 S1 S) : qFl tp n bt m u s0 S0 S := by
  obtain ⟨g, s', a, b⟩ := k
  exact ⟨qFt_t f g, s', qrc_t tp n bt m h a, b⟩
/-- it fails here -/
theorem qFl_h {b k : Int} {S : ZS} (hA : qA tp n S b) {s : QS} (hs : s.1 = b) (hb : 0 ≤ b ∧ b ≤ n) (h1 : qnx tp n bt m s = none) (h2 : qer tp n bt m s = k) (hk : k ≠ 0) (d : Nat) :
    zwp ((zF_fail (d + 1) u (zI k) S).bind (fun r => zgb r.1 (some (r.1, r.2)))) (fun x => x.1 = 0 ∧ qFl tp n bt m u s S x.2) := by
  rw [zF_fail_s hA, zwp_some]
  refine ⟨rfl, qFt_fail u S _, s, qrc_r tp n bt m s, h1, by rw [h2]; exact hk, ?_, by omega⟩
  rw [h2, hs]
  exact zu_same S.1 7 u 1 _
/-- an operand: put, and on -/
theorem qOpd {w b c : Int} {op cm : Int → Int} {R0 : List Int} {S : ZS} (hB : qB tp n) (hN : qNb tp n bt m) (h : qPr tp n bt m u 4 w b c op cm S) (hw : 0 ≤ w ∧ w < 5) (d : Nat) {it : Int} (hi : it < 30000) (hit : qWc m it) (ht : qtc tp n b < 6 ∨ qtc tp n b = 50 ∨ qtc tp n b = 60) (hs : qtc tp n b = 50 → 0 ≤ qsl tp n bt m b) (hv : ∀ vf nf : Int → Int32, qro vf nf (qtl tp n bt m b) = qop vf nf it) (hx : qXc m (qtl tp n bt m b) ∧ (qtl tp n bt m b < 20 ∨ 100 ≤ qtl tp n bt m b)) :
    zwp ((zF_put (d + 8) u (zI it) S).bind (fun r => (zT_next (d + 8) r).bind (fun r' => some ((1 : Int32), r')))) (qPo tp n bt m u 4 w b c op cm R0 S) := by
  obtain ⟨hC, hA, hNc, hb, h7, hc, -, -⟩ := h
  have bn := hB.1
  have hbn : b < n := qtc_l (tp := tp) (n := n) (b := b) (by omega)
  have xb := znx_b tp n hb
  have f1 := qFt_put u S c.toNat (zI it) (zI (c + 1))
  have hA1 : qA tp n (zu (zu S.1 45 u c.toNat (zI it)) 7 u 7 (zI (c + 1)), S.2) b := hA
  obtain ⟨S2, e2, hA2, f2⟩ := zT_next_s hB (qC_t hC f1) (d + 1) hb hA1
  have e2 : zT_next (d + 8) (zu (zu S.1 45 u c.toNat (zI it)) 7 u 7 (zI (c + 1)), S.2) = some S2 := e2
  rw [zF_put_s (d + 7) (by omega) h7, zBs, e2, zBs, zwp_some]
  have c45 : ∀ i, S2.1 45 u i = zu (zu S.1 45 u c.toNat (zI it)) 7 u 7 (zI (c + 1)) 45 u i := fun i => congrFun (congrFun (f2.1 45 (by decide)) u) i
  have c7 : ∀ i, S2.1 7 u i = zu (zu S.1 45 u c.toNat (zI it)) 7 u 7 (zI (c + 1)) 7 u i := fun i => congrFun (congrFun (f2.1 7 (by decide)) u) i
  refine Or.inr ⟨rfl, znx tp n b, op, cm, [it], [qtl tp n bt m b], fun vf nf => qop vf nf it, ⟨⟨qFt_t f1 (qFt_6 f2), fun i hi => ?_, ?_, hA2, ?_, ?_, trivial⟩, ⟨by omega, ?_, ⟨hit, trivial⟩, ⟨hx.1, trivial⟩⟩, qP_o (by omega) hi, ⟨fun e => by omega, fun e => by omega, fun e => by omega, fun e => by omega, fun _ => ?_⟩, ?_, fun _ _ => rfl, fun _ _ => rfl, fun _ => rfl⟩, ⟨fun e => by omega, fun e => by omega, fun e => by omega, fun e => by omega⟩⟩
  · rw [c45]
    exact (zu_tag _ (by decide)).trans (zu_pl S.1 (by omega))
  · rw [c7]
    exact (zu_pl _ (by decide)).trans (zu_tag S.1 (by decide))
  · rw [c7]
    exact zu_same _ 7 u 7 _
  · rw [c45]
    exact (zu_tag _ (by decide)).trans (zu_same S.1 45 u c.toNat _)
  · show ((1 : Nat) : Int) ≤ znx tp n b - b
    omega
  · have := qR4o (w := w) (c := qtl tp n bt m b) (fun e => by omega) hx.2
    rw [show (fun vf nf => qop vf nf it) = (fun vf nf => qro vf nf (qtl tp n bt m b)) by funext vf nf; exact (hv vf nf).symm]
    exact this
  · refine qrc_1 tp n bt m ?_
    unfold qnx
    dsimp only
    rw [if_pos rfl, if_pos ht, if_neg (fun e => by have := hs e.1; omega), if_neg (by omega)]
end PD
