/-! THE TARIFF: its lines, purely: where, how many lines, how many names ahead of each, where each name begins, what each line told: name, units, each, the reference's code -/
abbrev QL : Type := Int × Int × (Int → Int) × (Int → Int) × (Int → Int × Int × Int × List Int)
def qwl (f : Int → Int × Int × Int × List Int) (k : Int) (v : Int × Int × Int × List Int) : Int → Int × Int × Int × List Int := fun i => if i = k then v else f i
theorem qwl_s (f : Int → Int × Int × Int × List Int) (k : Int) (v : Int × Int × Int × List Int) : qwl f k v k = v := if_pos rfl
theorem qwl_n (f : Int → Int × Int × Int × List Int) {k i : Int} (v : Int × Int × Int × List Int) (h : i ≠ k) : qwl f k v i = f i := if_neg h
section LN
variable (tp : Int → Int) (n : Int)
/-- ahead of the expression: a fault, or where it begins -/
def qHd (bt : Int → Int) (m L b : Int) : Int × Int :=
  if qtc tp n b ≠ 6 ∧ qtc tp n b ≠ 7 then (1 + 16 * b, 0) else if L = 16 then (5 + 16 * b, 0)
  else if qtc tp n b = 6 then
    (if qtc tp n (znx tp n b) ≠ 50 then (1 + 16 * znx tp n b, 0) else if 0 ≤ qsl tp n bt m (znx tp n b) then (3 + 16 * znx tp n b, 0) else if m = 6 then (5 + 16 * znx tp n b, 0)
    else if qtc tp n (znx tp n (znx tp n b)) ≠ 161 then (1 + 16 * znx tp n (znx tp n b), 0) else (0, znx tp n (znx tp n (znx tp n b))))
  else
    (if qtc tp n (znx tp n b) ≠ 60 then (1 + 16 * znx tp n b, 0) else if 99 < znv tp n (znx tp n b) then (4 + 16 * znx tp n b, 0)
    else if qtc tp n (znx tp n (znx tp n b)) ≠ 8 then (1 + 16 * znx tp n (znx tp n b), 0)
    else if qtc tp n (znx tp n (znx tp n (znx tp n b))) ≠ 60 then (1 + 16 * znx tp n (znx tp n (znx tp n b)), 0)
    else if znv tp n (znx tp n (znx tp n (znx tp n b))) < 30 then (4 + 16 * znx tp n (znx tp n (znx tp n b)), 0)
    else if qtc tp n (znx tp n (znx tp n (znx tp n (znx tp n b)))) ≠ 9 then (1 + 16 * znx tp n (znx tp n (znx tp n (znx tp n b))), 0)
    else (0, znx tp n (znx tp n (znx tp n (znx tp n (znx tp n b))))))
/-- the line that begins there is wrong -/
def qLF (st : QL) (f : Int) : Prop := ((qHd tp n st.2.2.2.1 (st.2.2.1 st.2.1) st.2.1 st.1).1 ≠ 0 ∧ f = (qHd tp n st.2.2.2.1 (st.2.2.1 st.2.1) st.2.1 st.1).1) ∨ ((qHd tp n st.2.2.2.1 (st.2.2.1 st.2.1) st.2.1 st.1).1 = 0 ∧ ∃ s', qRd tp n st.2.2.2.1 (st.2.2.1 st.2.1) (qHd tp n st.2.2.2.1 (st.2.2.1 st.2.1) st.2.1 st.1).2 s' ∧ qer tp n st.2.2.2.1 (st.2.2.1 st.2.1) s' ≠ 0 ∧ f = qer tp n st.2.2.2.1 (st.2.2.1 st.2.1) s' + 16 * s'.1)
/-- what a line that was read adds -/
def qLA (st : QL) (s' : QS) : QL := (znx tp n s'.1, st.2.1 + 1,
  (if qtc tp n st.1 = 6 then qw st.2.2.1 (st.2.1 + 1) (st.2.2.1 st.2.1 + 1) else qw st.2.2.1 (st.2.1 + 1) (st.2.2.1 st.2.1)),
  (if qtc tp n st.1 = 6 then qw st.2.2.2.1 (st.2.2.1 st.2.1) (znx tp n st.1) else st.2.2.2.1),
  qwl st.2.2.2.2 st.2.1 (if qtc tp n st.1 = 6 then (st.2.2.1 st.2.1, -1, 0, s'.2.2.2.2.2) else (-1, znv tp n (znx tp n st.1), znv tp n (znx tp n (znx tp n (znx tp n st.1))), s'.2.2.2.2.2)))
/-- it is right -/
def qLK (st st' : QL) : Prop := qtc tp n st.1 ≠ 70 ∧ (qHd tp n st.2.2.2.1 (st.2.2.1 st.2.1) st.2.1 st.1).1 = 0 ∧ ∃ s', qRd tp n st.2.2.2.1 (st.2.2.1 st.2.1) (qHd tp n st.2.2.2.1 (st.2.2.1 st.2.1) st.2.1 st.1).2 s' ∧ qer tp n st.2.2.2.1 (st.2.2.1 st.2.1) s' = 0 ∧ st' = qLA tp n st s'
def qlr : Nat → QL → QL → Prop
  | 0, st, st' => st = st'
  | k + 1, st, st' => ∃ st1, qlr k st st1 ∧ qLK tp n st1 st'
end LN
section LI
variable {tp : Int → Int} {n : Int}
/-- between lines -/
def qPI (tp : Int → Int) (n : Int) (st : QL) : Prop := (0 ≤ st.1 ∧ st.1 ≤ n) ∧ (0 ≤ st.2.1 ∧ st.2.1 ≤ 16) ∧ st.2.2.1 0 = 0 ∧ (∀ l, 0 ≤ l → l ≤ st.2.1 → 0 ≤ st.2.2.1 l ∧ st.2.2.1 l ≤ 6) ∧ qNb tp n st.2.2.2.1 (st.2.2.1 st.2.1) ∧
  (∀ l, 0 ≤ l → l < st.2.1 → ((st.2.2.2.2 l).1 = st.2.2.1 l ∧ (st.2.2.2.2 l).2.1 = -1 ∧ st.2.2.1 (l + 1) = st.2.2.1 l + 1) ∨ ((st.2.2.2.2 l).1 = -1 ∧ (0 ≤ (st.2.2.2.2 l).2.1 ∧ (st.2.2.2.2 l).2.1 ≤ 99) ∧ (30 ≤ (st.2.2.2.2 l).2.2.1 ∧ (st.2.2.2.2 l).2.2.1 ≤ 9999) ∧ st.2.2.1 (l + 1) = st.2.2.1 l))
/-- what stands ahead of the expression -/
theorem qHd_k {bt : Int → Int} {m L b : Int} (h : (qHd tp n bt m L b).1 = 0) (hb : 0 ≤ b ∧ b ≤ n) (hm : 0 ≤ m) : L ≠ 16 ∧ (0 ≤ (qHd tp n bt m L b).2 ∧ (qHd tp n bt m L b).2 ≤ n) ∧ b ≤ (qHd tp n bt m L b).2 ∧ ((qtc tp n b = 6 ∧ qtc tp n (znx tp n b) = 50 ∧ qsl tp n bt m (znx tp n b) < 0 ∧ m ≠ 6) ∨ (qtc tp n b ≠ 6 ∧ qtc tp n (znx tp n b) = 60 ∧ znv tp n (znx tp n b) ≤ 99 ∧ qtc tp n (znx tp n (znx tp n (znx tp n b))) = 60 ∧ 30 ≤ znv tp n (znx tp n (znx tp n (znx tp n b))))) := by
  have x1 := znx_b tp n hb
  have x2 := znx_b tp n (b := znx tp n b) (by omega)
  have x3 := znx_b tp n (b := znx tp n (znx tp n b)) (by omega)
  have x4 := znx_b tp n (b := znx tp n (znx tp n (znx tp n b))) (by omega)
  have x5 := znx_b tp n (b := znx tp n (znx tp n (znx tp n (znx tp n b)))) (by omega)
  unfold qHd at h ⊢
  by_cases t : qtc tp n b ≠ 6 ∧ qtc tp n b ≠ 7
  · rw [if_pos t] at h
    have h : 1 + 16 * b = 0 := h
    omega
  rw [if_neg t] at h ⊢
  by_cases l16 : L = 16
  · rw [if_pos l16] at h
    have h : 5 + 16 * b = 0 := h
    omega
  rw [if_neg l16] at h ⊢
  by_cases t6 : qtc tp n b = 6
  · rw [if_pos t6] at h ⊢
    by_cases a : qtc tp n (znx tp n b) ≠ 50
    · rw [if_pos a] at h
      have h : 1 + 16 * znx tp n b = 0 := h
      omega
    rw [if_neg a] at h ⊢
    by_cases e : 0 ≤ qsl tp n bt m (znx tp n b)
    · rw [if_pos e] at h
      have h : 3 + 16 * znx tp n b = 0 := h
      omega
    rw [if_neg e] at h ⊢
    by_cases f : m = 6
    · rw [if_pos f] at h
      have h : 5 + 16 * znx tp n b = 0 := h
      omega
    rw [if_neg f] at h ⊢
    by_cases g : qtc tp n (znx tp n (znx tp n b)) ≠ 161
    · rw [if_pos g] at h
      have h : 1 + 16 * znx tp n (znx tp n b) = 0 := h
      omega
    rw [if_neg g] at h ⊢
    dsimp only
    omega
  · rw [if_neg t6] at h ⊢
    by_cases a : qtc tp n (znx tp n b) ≠ 60
    · rw [if_pos a] at h
      have h : 1 + 16 * znx tp n b = 0 := h
      omega
    rw [if_neg a] at h ⊢
    by_cases e : 99 < znv tp n (znx tp n b)
    · rw [if_pos e] at h
      have h : 4 + 16 * znx tp n b = 0 := h
      omega
    rw [if_neg e] at h ⊢
    by_cases f : qtc tp n (znx tp n (znx tp n b)) ≠ 8
    · rw [if_pos f] at h
      have h : 1 + 16 * znx tp n (znx tp n b) = 0 := h
      omega
    rw [if_neg f] at h ⊢
    by_cases g : qtc tp n (znx tp n (znx tp n (znx tp n b))) ≠ 60
    · rw [if_pos g] at h
      have h : 1 + 16 * znx tp n (znx tp n (znx tp n b)) = 0 := h
      omega
    rw [if_neg g] at h ⊢
    by_cases k : znv tp n (znx tp n (znx tp n (znx tp n b))) < 30
    · rw [if_pos k] at h
      have h : 4 + 16 * znx tp n (znx tp n (znx tp n b)) = 0 := h
      omega
    rw [if_neg k] at h ⊢
    by_cases o : qtc tp n (znx tp n (znx tp n (znx tp n (znx tp n b)))) ≠ 9
    · rw [if_pos o] at h
      have h : 1 + 16 * znx tp n (znx tp n (znx tp n (znx tp n b))) = 0 := h
      omega
    rw [if_neg o] at h ⊢
    dsimp only
    omega
/-- an expression goes on from where it begins -/
theorem qnx_b {bt : Int → Int} {m : Int} {s s1 : QS} (h : qnx tp n bt m s = some s1) (hb : 0 ≤ s.1 ∧ s.1 ≤ n) : s.1 ≤ s1.1 ∧ s1.1 ≤ n := by
  have x := znx_b tp n hb
  have e : s1.1 = znx tp n s.1 := by
    unfold qnx at h
    split at h
    · split at h
      · split at h
        · cases h
        · split at h
          · cases h
          · rw [← Option.some.inj h]
      · split at h
        · split at h
          · cases h
          · rw [← Option.some.inj h]
        · cases h
    · split at h
      · rw [← Option.some.inj h]
      · split at h
        · rw [← Option.some.inj h]
        · split at h
          · rw [← Option.some.inj h]
          · split at h
            · rw [← Option.some.inj h]
            · cases h
  omega
theorem qre_b {bt : Int → Int} {m : Int} : ∀ (k : Nat) (s s' : QS), qre tp n bt m k s s' → (0 ≤ s.1 ∧ s.1 ≤ n) → s.1 ≤ s'.1 ∧ s'.1 ≤ n
  | 0, s, s', h, hb => by
    have h : s = s' := h
    rw [← h]
    omega
  | k + 1, s, s', h, hb => by
    obtain ⟨s1, h1, h2⟩ := h
    have a := qnx_b h1 hb
    have b := qre_b k s1 s' h2 (by omega)
    omega
theorem qRd_b {bt : Int → Int} {m b : Int} {s' : QS} (h : qRd tp n bt m b s') (hb : 0 ≤ b ∧ b ≤ n) : b ≤ s'.1 ∧ s'.1 ≤ n := by
  obtain ⟨⟨k, h⟩, -⟩ := h
  exact qre_b k (q0 b) s' h hb
theorem qw_f {bt : Int → Int} {m b v : Int} : qsl tp n (qw bt m v) m b = qsl tp n bt m b := by
  unfold qsl
  have key : ∀ (k : Nat) (i : Int), i + k ≤ m → zfst (fun i => decide (zwl tp n (qw bt m v i) = zwl tp n b)) k i = zfst (fun i => decide (zwl tp n (bt i) = zwl tp n b)) k i := by
    intro k
    induction k with
    | zero => exact fun i h => rfl
    | succ k ih =>
      intro i h
      rw [zfst, zfst, ih (i + 1) (by omega), qw_n bt v (by omega)]
  by_cases hm : 0 ≤ m
  · exact key m.toNat 0 (by omega)
  · rw [show m.toNat = 0 by omega]
    rfl
/-- a line keeps it -/
theorem qPI_s {st st' : QL} (h : qPI tp n st) (k : qLK tp n st st') : qPI tp n st' ∧ st.1 ≤ st'.1 ∧ st'.2.1 = st.2.1 + 1 := by
  obtain ⟨b, L, MF, bt, rec⟩ := st
  obtain ⟨h1, h2, h3, h4, h5, h6⟩ := h
  obtain ⟨k0, k1, s', k2, k3, k4⟩ := k
  dsimp only at h1 h2 h3 h4 h5 h6 k0 k1 k2 k3 k4
  have m4 := h4 L h2.1 (Int.le_refl L)
  obtain ⟨l16, hp, hbp, hk⟩ := qHd_k k1 h1 m4.1
  have sb := qRd_b k2 hp
  have xb := znx_b tp n (b := s'.1) (by omega)
  rw [k4]
  refine ⟨⟨?_, ?_, ?_, fun l a c => ?_, ?_, fun l a c => ?_⟩, ?_, rfl⟩
  · show 0 ≤ znx tp n s'.1 ∧ znx tp n s'.1 ≤ n
    omega
  · show 0 ≤ L + 1 ∧ L + 1 ≤ 16
    omega
  · show (if qtc tp n b = 6 then qw MF (L + 1) (MF L + 1) else qw MF (L + 1) (MF L)) 0 = 0
    split
    · rw [qw_n MF _ (by omega)]; exact h3
    · rw [qw_n MF _ (by omega)]; exact h3
  · have c : l ≤ L + 1 := c
    show 0 ≤ (if qtc tp n b = 6 then qw MF (L + 1) (MF L + 1) else qw MF (L + 1) (MF L)) l ∧ (if qtc tp n b = 6 then qw MF (L + 1) (MF L + 1) else qw MF (L + 1) (MF L)) l ≤ 6
    by_cases q : l = L + 1
    · rw [q]
      split
      · rw [qw_s]; omega
      · rw [qw_s]; omega
    · have := h4 l a (by omega)
      split
      · rw [qw_n MF _ q]; exact this
      · rw [qw_n MF _ q]; exact this
  · show qNb tp n (if qtc tp n b = 6 then qw bt (MF L) (znx tp n b) else bt) ((if qtc tp n b = 6 then qw MF (L + 1) (MF L + 1) else qw MF (L + 1) (MF L)) (L + 1))
    by_cases t6 : qtc tp n b = 6
    · rw [if_pos t6, if_pos t6, qw_s]
      refine ⟨by omega, fun i a c => ?_⟩
      by_cases q : i = MF L
      · rw [q, qw_s]
        exact (qtc_n.2 (by omega)).1
      · rw [qw_n bt _ q]
        exact h5.2 i a (by omega)
    · rw [if_neg t6, if_neg t6, qw_s]
      exact h5
  · have c : l < L + 1 := c
    show ((qwl rec L (if qtc tp n b = 6 then (MF L, -1, 0, s'.2.2.2.2.2) else (-1, znv tp n (znx tp n b), znv tp n (znx tp n (znx tp n (znx tp n b))), s'.2.2.2.2.2)) l).1 = (if qtc tp n b = 6 then qw MF (L + 1) (MF L + 1) else qw MF (L + 1) (MF L)) l ∧ (qwl rec L (if qtc tp n b = 6 then (MF L, -1, 0, s'.2.2.2.2.2) else (-1, znv tp n (znx tp n b), znv tp n (znx tp n (znx tp n (znx tp n b))), s'.2.2.2.2.2)) l).2.1 = -1 ∧ (if qtc tp n b = 6 then qw MF (L + 1) (MF L + 1) else qw MF (L + 1) (MF L)) (l + 1) = (if qtc tp n b = 6 then qw MF (L + 1) (MF L + 1) else qw MF (L + 1) (MF L)) l + 1) ∨
      ((qwl rec L (if qtc tp n b = 6 then (MF L, -1, 0, s'.2.2.2.2.2) else (-1, znv tp n (znx tp n b), znv tp n (znx tp n (znx tp n (znx tp n b))), s'.2.2.2.2.2)) l).1 = -1 ∧ (0 ≤ (qwl rec L (if qtc tp n b = 6 then (MF L, -1, 0, s'.2.2.2.2.2) else (-1, znv tp n (znx tp n b), znv tp n (znx tp n (znx tp n (znx tp n b))), s'.2.2.2.2.2)) l).2.1 ∧ (qwl rec L (if qtc tp n b = 6 then (MF L, -1, 0, s'.2.2.2.2.2) else (-1, znv tp n (znx tp n b), znv tp n (znx tp n (znx tp n (znx tp n b))), s'.2.2.2.2.2)) l).2.1 ≤ 99) ∧
        (30 ≤ (qwl rec L (if qtc tp n b = 6 then (MF L, -1, 0, s'.2.2.2.2.2) else (-1, znv tp n (znx tp n b), znv tp n (znx tp n (znx tp n (znx tp n b))), s'.2.2.2.2.2)) l).2.2.1 ∧ (qwl rec L (if qtc tp n b = 6 then (MF L, -1, 0, s'.2.2.2.2.2) else (-1, znv tp n (znx tp n b), znv tp n (znx tp n (znx tp n (znx tp n b))), s'.2.2.2.2.2)) l).2.2.1 ≤ 9999) ∧ (if qtc tp n b = 6 then qw MF (L + 1) (MF L + 1) else qw MF (L + 1) (MF L)) (l + 1) = (if qtc tp n b = 6 then qw MF (L + 1) (MF L + 1) else qw MF (L + 1) (MF L)) l)
    by_cases q : l = L
    · rw [q, qwl_s]
      by_cases t6 : qtc tp n b = 6
      · rw [if_pos t6, if_pos t6, qw_s, qw_n MF _ (show L ≠ L + 1 by omega)]
        exact Or.inl ⟨rfl, rfl, rfl⟩
      · rw [if_neg t6, if_neg t6, qw_s, qw_n MF _ (show L ≠ L + 1 by omega)]
        have v1 := znv_b (tp := tp) (n := n) (b := znx tp n b) (qtc_2.2 (by omega))
        have v2 := znv_b (tp := tp) (n := n) (b := znx tp n (znx tp n (znx tp n b))) (qtc_2.2 (by omega))
        refine Or.inr ⟨rfl, ?_, ?_, rfl⟩
        · dsimp only
          omega
        · dsimp only
          omega
    · rw [qwl_n rec _ q]
      have := h6 l a (by omega)
      by_cases t6 : qtc tp n b = 6
      · rw [if_pos t6, qw_n MF _ (show l ≠ L + 1 by omega), qw_n MF _ (show l + 1 ≠ L + 1 by omega)]
        exact this
      · rw [if_neg t6, qw_n MF _ (show l ≠ L + 1 by omega), qw_n MF _ (show l + 1 ≠ L + 1 by omega)]
        exact this
  · show b ≤ znx tp n s'.1
    omega
end LI
