/-! UNITS of a call: purely, and of the class -/
/-- lines, names, units, each, as they are told; qPI without the tape -/
def qPJ (st : QL) : Prop := (0 ≤ st.2.1 ∧ st.2.1 ≤ 16) ∧ st.2.2.1 0 = 0 ∧ (∀ l, 0 ≤ l → l ≤ st.2.1 → 0 ≤ st.2.2.1 l ∧ st.2.2.1 l ≤ 6) ∧
  (∀ l, 0 ≤ l → l < st.2.1 → ((st.2.2.2.2 l).1 = st.2.2.1 l ∧ (st.2.2.2.2 l).2.1 = -1 ∧ st.2.2.1 (l + 1) = st.2.2.1 l + 1) ∨ ((st.2.2.2.2 l).1 = -1 ∧ (0 ≤ (st.2.2.2.2 l).2.1 ∧ (st.2.2.2.2 l).2.1 ≤ 99) ∧ (30 ≤ (st.2.2.2.2 l).2.2.1 ∧ (st.2.2.2.2 l).2.2.1 ≤ 9999) ∧ st.2.2.1 (l + 1) = st.2.2.1 l))
theorem qPJ_I {tp : Int → Int} {n : Int} {st : QL} (h : qPI tp n st) : qPJ st := ⟨h.2.1, h.2.2.1, h.2.2.2.1, h.2.2.2.2.2⟩
section UP
variable (st : QL) (vf : Int → QV)
/-- the line that is met first, from l on, k lines being left -/
def qfm (e : Int → Int32) : Nat → Int → (Int → Int32) → Int
  | 0, _, _ => -1
  | k + 1, l, nf => if (st.2.2.2.2 l).1 = -1 then (if vf l e nf = 0 then qfm e k (l + 1) nf else l) else qfm e k (l + 1) (qup nf (st.2.2.1 l) (vf l e nf))
/-- the values at t, when s units are counted -/
def qenv (z t0 ln : Int) (t : Int) (s : Int32) : Int → Int32 := fun i => if i = 0 then zI z else if i = 1 then zI (t / 3600 % 24) else if i = 2 then zI (t / 86400 % 7) else if i = 3 then zI (t - t0) else if i = 4 then s else zI ln
def qm1 (z t0 ln : Int) (t : Int) (s : Int32) : Int := qfm st vf (qenv z t0 ln t s) st.2.1.toNat 0 (fun _ => 0)
/-- units from t on -/
def qun (z t0 t1 ln : Int) : Nat → Int → Int32 → Int32
  | 0, _, s => s
  | k + 1, t, s => if t1 ≤ t then s else if qm1 st vf z t0 ln t s = -1 then qun z t0 t1 ln k (t + 60) s else qun z t0 t1 ln k (t + (st.2.2.2.2 (qm1 st vf z t0 ln t s)).2.2.1) (s + zI (st.2.2.2.2 (qm1 st vf z t0 ln t s)).2.1)
theorem qfm_b (e : Int → Int32) : ∀ (k : Nat) (l : Int) (nf : Int → Int32), 0 ≤ l → qfm st vf e k l nf = -1 ∨ (l ≤ qfm st vf e k l nf ∧ qfm st vf e k l nf < l + k ∧ (st.2.2.2.2 (qfm st vf e k l nf)).1 = -1)
  | 0, l, nf, h => Or.inl rfl
  | k + 1, l, nf, h => by
    have i1 := qfm_b e k (l + 1) nf (by omega)
    have i2 := qfm_b e k (l + 1) (qup nf (st.2.2.1 l) (vf l e nf)) (by omega)
    rw [qfm]
    split
    · rename_i q
      split
      · rcases i1 with i | i
        · exact Or.inl i
        · exact Or.inr ⟨by omega, by omega, i.2.2⟩
      · exact Or.inr ⟨by omega, by omega, q⟩
    · rcases i2 with i | i
      · exact Or.inl i
      · exact Or.inr ⟨by omega, by omega, i.2.2⟩
end UP
/-- only names, values and the stack of u change -/
def qF47 (S S' : ZS) : Prop := (∀ t, t ≠ 47 → t ≠ 48 → t ≠ 49 → S'.1 t = S.1 t) ∧ S'.2 = S.2
theorem qF47_r (S : ZS) : qF47 S S := ⟨fun _ _ _ _ => rfl, rfl⟩
theorem qF47_t {S S' S'' : ZS} (h : qF47 S S') (k : qF47 S' S'') : qF47 S S'' := ⟨fun t a b c => (k.1 t a b c).trans (h.1 t a b c), k.2.trans h.2⟩
theorem qF47_u (S : ZS) {t : Nat} (ht : t = 47 ∨ t = 48 ∨ t = 49) (u k : Nat) (v : Int32) : qF47 S (zu S.1 t u k v, S.2) := ⟨fun t' a b c => by
  funext i k'
  exact zu_tag S.1 (by omega), rfl⟩
theorem qF47_49 {u : Nat} {S S' : ZS} (h : qF49 u S S') : qF47 S S' := ⟨fun t a b c => by
  funext i k
  exact h.1 t i k (fun e => c e.1), h.2⟩
section UC
variable {tp : Int → Int} {n : Int} {u : Nat} {st : QL} {Cf : Int → List Int} {vf : Int → QV} {cb : Int → Int}
theorem qCw_f {S S' : ZS} (h : qCw tp n u st Cf vf cb S) (f : qF47 S S') : qCw tp n u st Cf vf cb S' := by
  have e42 := f.1 42 (by decide) (by decide) (by decide)
  have e43 := f.1 43 (by decide) (by decide) (by decide)
  have e44 := f.1 44 (by decide) (by decide) (by decide)
  have e45 := f.1 45 (by decide) (by decide) (by decide)
  unfold qCw at h ⊢
  rw [e42, e43, e44, e45]
  exact h
theorem zF_firstMet_6_s (hJ : qPJ st) (hc : cb (st.2.1 - 1) ≤ 1000) (d : Nat) {e : Int → Int32} : ∀ (k : Nat) (l : Int) (nf : Int → Int32) (S : ZS), 0 ≤ l → l + k = st.2.1 → qCw tp n u st Cf vf cb S → S.1 7 u 2 = zI st.2.1 → (∀ i : Int, 0 ≤ i → i < 6 → S.1 48 u i.toNat = e i) → (∀ i : Int, 0 ≤ i → i < st.2.2.1 l → S.1 47 u i.toNat = nf i) →
    zwp (zF_firstMet_6 (d + 2) u (zI (cb (l - 1))) (zI (st.2.2.1 l)) (zI l) S) (fun r => r.1 = zI (qfm st vf e k l nf) ∧ qF47 S r.2 ∧ ∀ i : Int, 0 ≤ i → i < 6 → r.2.1 48 u i.toNat = e i) := by
  obtain ⟨hL, hM0, hM, hJ⟩ := hJ
  intro k
  induction k with
  | zero =>
    intro l nf S l0 ek hW h2 hv hn
    rw [eF_firstMet_6, h2, zI_le (by omega) (by omega) (by omega) (by omega), zif_pos (by omega), zwp_some]
    exact ⟨rfl, qF47_r S, hv⟩
  | succ k ih =>
    intro l nf S l0 ek hW h2 hv hn
    obtain ⟨⟨w1, w2, w3⟩, ⟨w4, w5, w6⟩, w7, w8, w9, w10, w11⟩ := hW.2 l l0 (by omega)
    have m1 := hM l l0 (by omega)
    have hj := hJ l l0 (by omega)
    have zi : zin (zI l) 16 = true := by rw [zI_in (by omega) (by omega)]; omega
    have zz : zx (zI l) = l.toNat := zI_zx (by omega) (by omega)
    have lC : 0 ≤ ((Cf l).length : Int) := by omega
    have ec : (((cb (l - 1)).toNat : Nat) : Int) = cb (l - 1) := by omega
    obtain ⟨x, ex, x1, fx⟩ := zF_resultOf_s d (u := u) m1.2 (vf := e) (nf := nf) w10 w7 w8 (by omega) hv hn
    rw [ec, ← w4] at ex
    have gx := qF47_49 fx
    have hWx := qCw_f hW gx
    have h2x : x.2.1 7 u 2 = zI st.2.1 := (fx.1 7 u 2 (fun e => by omega)).trans h2
    have hvx : ∀ i : Int, 0 ≤ i → i < 6 → x.2.1 48 u i.toNat = e i := fun i a b => (fx.1 48 u _ (fun e => by omega)).trans (hv i a b)
    have hnx : ∀ i : Int, 0 ≤ i → i < st.2.2.1 l → x.2.1 47 u i.toNat = nf i := fun i a b => (fx.1 47 u _ (fun e => by omega)).trans (hn i a b)
    have c42 : x.2.1 42 u l.toNat = zI (st.2.2.2.2 l).2.1 := (fx.1 42 u _ (fun e => by omega)).trans w1
    have c44 : x.2.1 44 u l.toNat = zI (cb l) := (fx.1 44 u _ (fun e => by omega)).trans w3
    have bu : -1 ≤ (st.2.2.2.2 l).2.1 ∧ (st.2.2.2.2 l).2.1 ≤ 99 := by omega
    have eu : (zI (st.2.2.2.2 l).2.1 = (-1 : Int32)) = ((st.2.2.2.2 l).2.1 = -1) := by
      rw [show (-1 : Int32) = zI (-1) from rfl]
      exact zI_eq (by omega) (by omega) (by omega) (by omega)
    have e1 : zI l + (1 : Int32) = zI (l + 1) := zI_add l 1
    have el : l + 1 - 1 = l := by omega
    have next := fun (nf' : Int → Int32) (S' : ZS) a b c e' => ih (l + 1) nf' S' (by omega) (by omega) a b c e'
    rw [el] at next
    rw [eF_firstMet_6, h2, zI_le (by omega) (by omega) (by omega) (by omega), zif_neg (by omega), zg_t zi, zz, w3, ex, zBs, zg_t zi, zg_t zi, c42, c44, eu, qfm]
    rcases hj with ⟨j1, j2, j3⟩ | ⟨j1, j2, j3, j4⟩
    · -- a name
      have eM : zI (st.2.2.1 l) + (1 : Int32) = zI (st.2.2.1 (l + 1)) := by rw [zI_n1, zI_add, j3]
      have m2 := hM (l + 1) (by omega) (by omega)
      have e6 : ((6 : Int32) ≤ zI (st.2.2.1 l)) = (6 ≤ st.2.2.1 l) := zI_le (a := 6) (b := st.2.2.1 l) (by omega) (by omega) (by omega) (by omega)
      have f1 := qF47_u x.2 (t := 47) (Or.inl rfl) u (st.2.2.1 l).toNat x.1
      rw [zif_pos j2, if_neg (by omega), eF_firstMet_51, zg_t zi, zz, c42, eu, zif_pos j2, e6, zif_neg (by omega), zg_t (by rw [zI_in (by omega) (by omega)]; omega), zI_zx (by omega) (by omega), eM, e1]
      refine zwp_mono (next (qup nf (st.2.2.1 l) (vf l e nf)) _ (qCw_f hWx f1) h2x (fun i a b => ?_) (fun i a b => ?_)) (fun r q => ⟨q.1, qF47_t gx (qF47_t f1 q.2.1), q.2.2⟩)
      · exact (zu_tag x.2.1 (t := 47) (t' := 48) (i := u) (k := (st.2.2.1 l).toNat) (v := x.1) (by decide)).trans (hvx i a b)
      · by_cases q : i = st.2.2.1 l
        · rw [q, qup_s]
          exact (zu_same x.2.1 47 u _ _).trans x1
        · rw [qup_n _ _ q]
          exact (show zu x.2.1 47 u (st.2.2.1 l).toNat x.1 47 u i.toNat = x.2.1 47 u i.toNat from zu_pl x.2.1 (by omega)).trans (hnx i a (by omega))
    · -- units
      have r0 : (x.1 = 0) = (vf l e nf = 0) := by rw [x1]
      rw [zif_neg (by omega), if_pos j1, r0]
      by_cases q : vf l e nf = 0
      · rw [zif_pos q, if_pos q, eF_firstMet_51, zg_t zi, zz, c42, eu, zif_neg (by omega), e1, ← j4]
        refine zwp_mono (next nf x.2 hWx h2x hvx (fun i a b => hnx i a (by omega))) (fun r q => ⟨q.1, qF47_t gx q.2.1, q.2.2⟩)
      · rw [zif_neg q, if_neg q, zwp_some]
        exact ⟨rfl, gx, hvx⟩
theorem zmod1 {t a b : Int} (ht : 0 ≤ t ∧ t ≤ 1100000) (ha : 1 ≤ a ∧ a ≤ 86400) (hb : 1 ≤ b ∧ b ≤ 86400) : (zI t / zI a) - (zI t / zI a) / zI b * zI b = zI (t / a % b) := by
  have q1 : 0 ≤ t / a := Int.ediv_nonneg ht.1 (by omega)
  have q2 : t / a ≤ t := Int.ediv_le_self a ht.1
  rw [zI_div (by omega) (by omega) (by omega) (by omega), zI_div (by omega) (by omega) (by omega) (by omega), zI_mul, zI_sub, zmodI]
theorem zF_unitsOf_34_s (hJ : qPJ st) (hc : cb (st.2.1 - 1) ≤ 1000) (d : Nat) {z t0 t1 ln : Int} (ht : 0 ≤ t0 ∧ t0 ≤ 999999 ∧ 0 ≤ t1 ∧ t1 ≤ 999999) : ∀ (k : Nat) (t i : Int) (s : Int32) (S : ZS), t1 - t ≤ k → t0 ≤ t → t ≤ 1100000 → 0 ≤ i → i ≤ t - t0 → qCw tp n u st Cf vf cb S → S.1 7 u 2 = zI st.2.1 → S.1 48 u 0 = zI z → S.1 48 u 5 = zI ln →
    zwp (zF_unitsOf_34 (d + 3) u (zI t0) (zI t1) s (zI t) (zI i) S) (fun r => r.1 = qun st vf z t0 t1 ln k t s ∧ qF47 S r.2) := by
  obtain ⟨hL, hM0, hM, hJ'⟩ := id hJ
  intro k
  induction k with
  | zero =>
    intro t i s S hk t0t tb i0 it hW h2 h0 h5
    have a : ((999999 : Int32) < zI i) = (999999 < i) := zI_lt (a := 999999) (b := i) (by omega) (by omega) (by omega) (by omega)
    rw [eF_unitsOf_34, a]
    by_cases q : 999999 < i
    · rw [zif_pos q, zwp_some]
      exact ⟨rfl, qF47_r S⟩
    · rw [zif_neg q, zI_le (by omega) (by omega) (by omega) (by omega), zif_pos (by omega), zwp_some]
      exact ⟨rfl, qF47_r S⟩
  | succ k ih =>
    intro t i s S hk t0t tb i0 it hW h2 h0 h5
    have a : ((999999 : Int32) < zI i) = (999999 < i) := zI_lt (a := 999999) (b := i) (by omega) (by omega) (by omega) (by omega)
    rw [eF_unitsOf_34, a, qun]
    by_cases q1 : t1 ≤ t
    · rw [if_pos q1]
      by_cases q : 999999 < i
      · rw [zif_pos q, zwp_some]
        exact ⟨rfl, qF47_r S⟩
      · rw [zif_neg q, zI_le (by omega) (by omega) (by omega) (by omega), zif_pos q1, zwp_some]
        exact ⟨rfl, qF47_r S⟩
    · have x1 : zx (zwv 1) = 1 := by decide
      have x2 : zx (zwv 2) = 2 := by decide
      have x3 : zx (zwv 3) = 3 := by decide
      have x4 : zx (zwv 4) = 4 := by decide
      have hh : (zI t / (3600 : Int32)) - (zI t / (3600 : Int32)) / (24 : Int32) * (24 : Int32) = zI (t / 3600 % 24) := zmod1 (a := 3600) (b := 24) (by omega) (by omega) (by omega)
      have hd : (zI t / (86400 : Int32)) - (zI t / (86400 : Int32)) / (7 : Int32) * (7 : Int32) = zI (t / 86400 % 7) := zmod1 (a := 86400) (b := 7) (by omega) (by omega) (by omega)
      have e1 : zI i + (1 : Int32) = zI (i + 1) := zI_add i 1
      rw [if_neg q1, zif_neg (by omega), zI_le (by omega) (by omega) (by omega) (by omega), zif_neg q1, zg_t (by decide), zg_t (by decide), zg_t (by decide), zg_t (by decide), x1, x2, x3, x4, hh, hd, zI_sub, eF_firstMet]
      have f1 := qF47_t (qF47_t (qF47_t (qF47_u S (t := 48) (by omega) u 1 (zI (t / 3600 % 24))) (qF47_u _ (t := 48) (by omega) u 2 (zI (t / 86400 % 7)))) (qF47_u _ (t := 48) (by omega) u 3 (zI (t - t0)))) (qF47_u _ (t := 48) (by omega) u 4 s)
      generalize hS1 : ((zu (zu (zu (zu S.1 48 u 1 (zI (t / 3600 % 24))) 48 u 2 (zI (t / 86400 % 7))) 48 u 3 (zI (t - t0))) 48 u 4 s), S.2) = S1 at f1
      have v1 : ∀ i : Int, 0 ≤ i → i < 6 → S1.1 48 u i.toNat = qenv z t0 ln t s i := by
        intro j j0 j6
        have : j = 0 ∨ j = 1 ∨ j = 2 ∨ j = 3 ∨ j = 4 ∨ j = 5 := by omega
        rw [← hS1]
        rcases this with rfl | rfl | rfl | rfl | rfl | rfl
        · exact (zu_pl _ (by decide)).trans ((zu_pl _ (by decide)).trans ((zu_pl _ (by decide)).trans ((zu_pl S.1 (by decide)).trans h0)))
        · exact (zu_pl _ (by decide)).trans ((zu_pl _ (by decide)).trans ((zu_pl _ (by decide)).trans (zu_same S.1 48 u 1 _)))
        · exact (zu_pl _ (by decide)).trans ((zu_pl _ (by decide)).trans (zu_same _ 48 u 2 _))
        · exact (zu_pl _ (by decide)).trans (zu_same _ 48 u 3 _)
        · exact zu_same _ 48 u 4 _
        · exact (zu_pl _ (by decide)).trans ((zu_pl _ (by decide)).trans ((zu_pl _ (by decide)).trans ((zu_pl S.1 (by decide)).trans h5)))
      have h2' : S1.1 7 u 2 = zI st.2.1 := by rw [f1.1 7 (by decide) (by decide) (by decide)]; exact h2
      have hW1 := qCw_f hW f1
      obtain ⟨x, ex, xq, xf, xv⟩ := zF_firstMet_6_s hJ hc d (e := qenv z t0 ln t s) st.2.1.toNat 0 (fun _ => 0) S1 (by omega) (by omega) hW1 h2' v1 (fun i a b => by rw [hM0] at b; omega)
      rw [show (0 : Int) - 1 = -1 by omega, hW.1, hM0] at ex
      have ex : zF_firstMet_6 (d + 2) u (0 : Int32) (0 : Int32) (0 : Int32) S1 = some x := ex
      rw [ex, zBs]
      have mb := qfm_b st vf (qenv z t0 ln t s) st.2.1.toNat 0 (fun _ => 0) (by omega)
      have em : qm1 st vf z t0 ln t s = qfm st vf (qenv z t0 ln t s) st.2.1.toNat 0 (fun _ => 0) := rfl
      rw [← em] at xq mb
      generalize qm1 st vf z t0 ln t s = w at xq mb ⊢
      have ew : (zI w = (-1 : Int32)) = (w = -1) := by
        rw [show (-1 : Int32) = zI (-1) from rfl]
        exact zI_eq (by omega) (by omega) (by omega) (by omega)
      have hWx := qCw_f hW1 xf
      have h2x : x.2.1 7 u 2 = zI st.2.1 := by rw [xf.1 7 (by decide) (by decide) (by decide)]; exact h2'
      have h0x : x.2.1 48 u 0 = zI z := xv 0 (by omega) (by omega)
      have h5x : x.2.1 48 u 5 = zI ln := xv 5 (by omega) (by omega)
      have fx := qF47_t f1 xf
      rw [xq, ew]
      by_cases wq : w = -1
      · have e60 : zI t + (60 : Int32) = zI (t + 60) := zI_add t 60
        rw [zif_pos wq, if_pos wq, eF_unitsOf_139, ew, zif_pos wq, Int32.add_zero, e60, e1]
        exact zwp_mono (ih (t + 60) (i + 1) s x.2 (by omega) (by omega) (by omega) (by omega) (by omega) hWx h2x h0x h5x) (fun r q => ⟨q.1, qF47_t fx q.2⟩)
      · rcases mb with mb | mb
        · exact absurd mb wq
        · have lw : 0 ≤ w ∧ w < st.2.1 := by omega
          have hj := hJ' w lw.1 lw.2
          have m1 := hM w lw.1 (by omega)
          obtain ⟨⟨w1, w2, w3⟩, -⟩ := hWx.2 w lw.1 lw.2
          have w2 := w2 mb.2.2
          have zi : zin (zI w) 16 = true := by rw [zI_in (by omega) (by omega)]; omega
          have zz : zx (zI w) = w.toNat := zI_zx (by omega) (by omega)
          rw [zif_neg wq, if_neg wq, zg_t zi, zz, w1, eF_unitsOf_139, ew, zif_neg wq, zg_t zi, zz, w2, zI_add, e1]
          exact zwp_mono (ih (t + (st.2.2.2.2 w).2.2.1) (i + 1) (s + zI (st.2.2.2.2 w).2.1) x.2 (by omega) (by omega) (by omega) (by omega) (by omega) hWx h2x h0x h5x) (fun r q => ⟨q.1, qF47_t fx q.2⟩)
theorem zF_unitsOf_s {S : ZS} (hJ : qPJ st) (hc : cb (st.2.1 - 1) ≤ 1000) (d : Nat) {z t0 t1 ln : Int} (ht : 0 ≤ t0 ∧ t0 ≤ 999999 ∧ 0 ≤ t1 ∧ t1 ≤ 999999) (hW : qCw tp n u st Cf vf cb S) (h2 : S.1 7 u 2 = zI st.2.1) :
    zwp (zF_unitsOf (d + 4) u (zI t0) (zI t1) (zI z) (zI ln) S) (fun r => r.1 = qun st vf z t0 t1 ln (t1 - t0).toNat t0 0 ∧ qF47 S r.2) := by
  have x0 : zx (zwv 0) = 0 := by decide
  have x5 : zx (zwv 5) = 5 := by decide
  have f1 := qF47_t (qF47_u S (t := 48) (by omega) u 0 (zI z)) (qF47_u _ (t := 48) (by omega) u 5 (zI ln))
  rw [eF_unitsOf, zg_t (by decide), zg_t (by decide), x0, x5, zI_n0]
  exact zwp_mono (zF_unitsOf_34_s hJ hc d ht (t1 - t0).toNat t0 0 0 _ (by omega) (by omega) (by omega) (by omega) (by omega) (qCw_f hW f1) h2 ((show (zu (zu S.1 48 u 0 (zI z)) 48 u 5 (zI ln)) 48 u 0 = (zu S.1 48 u 0 (zI z)) 48 u 0 from zu_pl _ (by decide)).trans (zu_same S.1 48 u 0 _)) (zu_same (zu S.1 48 u 0 (zI z)) 48 u 5 _)) (fun r q => ⟨q.1, qF47_t f1 q.2⟩)
end UC
