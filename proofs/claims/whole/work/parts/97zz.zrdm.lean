/-! THE TARIFF: the reference reads an expression -/
/-- what it leaves alone; its code begins at c0 -/
def qFm (c0 : Nat) (S S' : ZS) : Prop := (∀ t, t ≠ 11 → t ≠ 98 → t ≠ 99 → t ≠ 100 → S'.1 t = S.1 t) ∧ (∀ k, k ≠ 39 → k ≠ 40 → k ≠ 41 → k ≠ 43 → k ≠ 44 → k ≠ 54 → S'.1 11 0 k = S.1 11 0 k) ∧ (∀ t, t ≠ 11 → S'.2.1 t = S.2.1 t) ∧ S'.2.2 = S.2.2 ∧ (∀ i, i < c0 → S'.1 98 0 i = S.1 98 0 i)
theorem qFm_r (c0 : Nat) (S : ZS) : qFm c0 S S := ⟨fun _ _ _ _ _ => rfl, fun _ _ _ _ _ _ _ => rfl, fun _ _ => rfl, rfl, fun _ _ => rfl⟩
theorem qFm_t {c0 : Nat} {S S' S'' : ZS} (h : qFm c0 S S') (k : qFm c0 S' S'') : qFm c0 S S'' := ⟨fun t a b c e => (k.1 t a b c e).trans (h.1 t a b c e), fun s a b c e f g => (k.2.1 s a b c e f g).trans (h.2.1 s a b c e f g), fun t a => (k.2.2.1 t a).trans (h.2.2.1 t a), k.2.2.2.1.trans h.2.2.2.1, fun i hi => (k.2.2.2.2 i hi).trans (h.2.2.2.2 i hi)⟩
theorem qFm_11 {c0 : Nat} {S S' : ZS} (h : qF11 S S') : qFm c0 S S' := ⟨fun t a _ _ _ => h.1 t a, fun k a b c e _ _ => h.2.1 k a b c e, h.2.2.1, h.2.2.2, fun i _ => congrFun (congrFun (h.1 98 (by decide)) 0) i⟩
theorem qFm_u {c0 : Nat} {S S' : ZS} (h : qFm c0 S S') {t : Nat} (ht : t = 99 ∨ t = 100) (k : Nat) (v : Int32) : qFm c0 S (zu S'.1 t 0 k v, S'.2) := ⟨fun t' a b c e => by
  refine Eq.trans ?_ (h.1 t' a b c e)
  funext i k'
  exact zu_tag S'.1 (by omega), fun s a b c e f g => (zu_tag S'.1 (by omega)).trans (h.2.1 s a b c e f g), h.2.2.1, h.2.2.2.1, fun i hi => (zu_tag S'.1 (by omega)).trans (h.2.2.2.2 i hi)⟩
theorem qFm_p (c0 : Nat) (S : ZS) {j : Nat} (hj : c0 ≤ j) (v c' : Int32) : qFm c0 S (zu (zu S.1 98 0 j v) 11 0 54 c', S.2) := ⟨fun t a b c e => by
  funext i k'
  exact (zu_tag (zu S.1 98 0 j v) (t := 11) a).trans (zu_tag S.1 (t := 98) b), fun s a b c e f g => (zu_pl (zu S.1 98 0 j v) (t := 11) (t' := 11) (k := 54) g).trans (zu_tag S.1 (t := 98) (t' := 11) (by decide)), fun _ _ => rfl, rfl, fun i hi => show zu S.1 98 0 j v 98 0 i = S.1 98 0 i from zu_pl S.1 (by omega)⟩
theorem qFm_l (c0 : Nat) (S : ZS) (v : Int32) : qFm c0 S (zu S.1 11 0 44 v, S.2) := ⟨fun t a b c e => by
  funext i k'
  exact zu_tag S.1 a, fun s a b c e f g => zu_pl S.1 f, fun _ _ => rfl, rfl, fun i hi => rfl⟩
section MR
variable {tp : Int → Int} {n : Int} {bt : Int → Int} {m : Int} {l w b : Int} {S : ZS} {c0 : Nat}
theorem qD_m {S S' : ZS} (h : qD tp n S) (f : qFm c0 S S') : qD tp n S' := ⟨(f.2.1 38 (by decide) (by decide) (by decide) (by decide) (by decide) (by decide)).trans h.1, fun i a b => (congrFun (congrFun (f.1 89 (by decide) (by decide) (by decide) (by decide)) 0) _).trans (h.2 i a b)⟩
theorem qNm_m {S S' : ZS} (h : qNm tp n bt m S) (f : qFm c0 S S') : qNm tp n bt m S' := ⟨(congrFun (congrFun (f.1 96 (by decide) (by decide) (by decide) (by decide)) 0) 1).trans h.1, fun i a b => (congrFun (congrFun (f.2.2.1 97 (by decide)) 0) _).trans (h.2 i a b)⟩
/-- the reference is where the pure reading is -/
def qMs (tp : Int → Int) (n : Int) (bt : Int → Int) (m : Int) (c0 : Nat) (s : QS) (S : ZS) : Prop :=
  (qM tp n S s.1 ∧ qD tp n S ∧ qNm tp n bt m S) ∧ ((0 ≤ s.1 ∧ s.1 ≤ n) ∧ (0 ≤ s.2.2.1 ∧ s.2.2.1 ≤ 5) ∧ (c0 : Int) + s.2.2.2.2.2.length ≤ 1000 + s.1) ∧
  (S.1 11 0 54 = zI ((c0 : Int) + s.2.2.2.2.2.length) ∧ qLs (S.1 98 0) c0 s.2.2.2.2.2) ∧
  (∀ d, 1 ≤ d → d ≤ s.2.2.1 → S.1 99 0 d.toNat = zI (s.2.2.2.1 d) ∧ (s.2.2.2.1 d = 1 ∨ s.2.2.2.1 d = 2)) ∧
  (∀ d, 0 ≤ d → d ≤ s.2.2.1 → S.1 100 0 d.toNat = zI (s.2.2.2.2.1 d) ∧ (s.2.2.2.2.1 d = 0 ∨ s.2.2.2.2.1 d = 1))
/-- past the nots, and on -/
theorem zM_reads_226_s (op : Int → Int) (a3 : Int32) (d : Nat) : ∀ (k : Nat) (w : Int), w = k → w ≤ 5 → (∀ d, 1 ≤ d → d ≤ w → S.1 99 0 d.toNat = zI (op d) ∧ (op d = 1 ∨ op d = 2)) →
    zM_reads_226 d (zI l) (zI w) a3 S = (zM_next d S).bind (fun r => zM_reads_21 d (zI l) (zI (qpp k op w)) a3 r) := by
  intro k
  induction k with
  | zero =>
    intro w e h5 h
    rw [eM_reads_226, zI_n0, zI_le (by omega) (by omega) (by omega) (by omega), zif_pos (by omega)]
    rfl
  | succ k ih =>
    intro w e h5 h
    obtain ⟨h1, h2⟩ := h w (by omega) (Int.le_refl w)
    rw [eM_reads_226, zI_n0, zI_le (by omega) (by omega) (by omega) (by omega), zif_neg (by omega), zg_t (by rw [zI_in (by omega) (by omega)]; omega), zI_zx (by omega) (by omega), h1, zI_n1, zI_eq (by omega) (by omega) (by omega) (by omega), zI_neg, zI_add, qpp]
    by_cases q : op w = 1
    · rw [zif_pos q, if_pos q]
      exact ih (w + -1) (by omega) (by omega) (fun d a b => h d a (by omega))
    · rw [zif_neg q, if_neg q]
theorem zM_reads_453_s (op : Int → Int) (a3 : Int32) (d : Nat) : ∀ (k : Nat) (w : Int), w = k → w ≤ 5 → (∀ d, 1 ≤ d → d ≤ w → S.1 99 0 d.toNat = zI (op d) ∧ (op d = 1 ∨ op d = 2)) →
    zM_reads_453 d (zI l) (zI w) a3 S = (zM_next d S).bind (fun r => zM_reads_21 d (zI l) (zI (qpp k op w)) a3 r) := by
  intro k
  induction k with
  | zero =>
    intro w e h5 h
    rw [eM_reads_453, zI_n0, zI_le (by omega) (by omega) (by omega) (by omega), zif_pos (by omega)]
    rfl
  | succ k ih =>
    intro w e h5 h
    obtain ⟨h1, h2⟩ := h w (by omega) (Int.le_refl w)
    rw [eM_reads_453, zI_n0, zI_le (by omega) (by omega) (by omega) (by omega), zif_neg (by omega), zg_t (by rw [zI_in (by omega) (by omega)]; omega), zI_zx (by omega) (by omega), h1, zI_n1, zI_eq (by omega) (by omega) (by omega) (by omega), zI_neg, zI_add, qpp]
    by_cases q : op w = 1
    · rw [zif_pos q, if_pos q]
      exact ih (w + -1) (by omega) (by omega) (fun d a b => h d a (by omega))
    · rw [zif_neg q, if_neg q]
/-- a sign of the code is put, and on to the next token -/
theorem mNx (hB : qB tp n) (d : Nat) {s : QS} (h : qMs tp n bt m c0 s S) (hbn : s.1 < n) {S1 : ZS} (f : qFm c0 S S1) (hM : qM tp n S1 s.1) {v wa w' : Int} {op' cm' : Int → Int} (h54 : S1.1 11 0 54 = zI ((c0 : Int) + s.2.2.2.2.2.length + 1)) (h98 : ∀ i, S1.1 98 0 i = zu S.1 98 0 (c0 + s.2.2.2.2.2.length) (zI v) 98 0 i)
    (hw : 0 ≤ w' ∧ w' ≤ 5) (h99 : ∀ d, 1 ≤ d → d ≤ w' → S1.1 99 0 d.toNat = zI (op' d) ∧ (op' d = 1 ∨ op' d = 2)) (h100 : ∀ d, 0 ≤ d → d ≤ w' → S1.1 100 0 d.toNat = zI (cm' d) ∧ (cm' d = 0 ∨ cm' d = 1)) :
    zwp (zM_next (d + 2) S1) (fun S2 => qMs tp n bt m c0 (znx tp n s.1, wa, w', op', cm', s.2.2.2.2.2 ++ [v]) S2 ∧ qFm c0 S S2) := by
  obtain ⟨⟨-, hD, hN⟩, ⟨hb, -, hc⟩, ⟨-, hL⟩, -, -⟩ := h
  have xb := znx_b tp n hb
  refine zwp_mono (zM_next_s hB (qD_m hD f) d hb hM) (fun S2 q => ?_)
  obtain ⟨q1, q2⟩ := q
  have f2 := qFm_t f (qFm_11 q2)
  have c98 : ∀ i, S2.1 98 0 i = S1.1 98 0 i := fun i => congrFun (congrFun (q2.1 98 (by decide)) 0) i
  have c99 : ∀ i, S2.1 99 0 i = S1.1 99 0 i := fun i => congrFun (congrFun (q2.1 99 (by decide)) 0) i
  have c100 : ∀ i, S2.1 100 0 i = S1.1 100 0 i := fun i => congrFun (congrFun (q2.1 100 (by decide)) 0) i
  have len : ((s.2.2.2.2.2 ++ [v]).length : Int) = (s.2.2.2.2.2.length : Int) + 1 := by rw [List.length_append, List.length_cons, List.length_nil]; omega
  refine ⟨⟨⟨q1, qD_m hD f2, qNm_m hN f2⟩, ⟨?_, hw, ?_⟩, ⟨?_, ?_⟩, fun d a b => ?_, fun d a b => ?_⟩, f2⟩
  · show 0 ≤ znx tp n s.1 ∧ znx tp n s.1 ≤ n
    omega
  · show (c0 : Int) + ((s.2.2.2.2.2 ++ [v]).length : Int) ≤ 1000 + znx tp n s.1
    omega
  · show S2.1 11 0 54 = zI ((c0 : Int) + ((s.2.2.2.2.2 ++ [v]).length : Int))
    rw [len, q2.2.1 54 (by decide) (by decide) (by decide) (by decide), h54, show (c0 : Int) + s.2.2.2.2.2.length + 1 = (c0 : Int) + (s.2.2.2.2.2.length + 1) by omega]
  · show qLs (S2.1 98 0) c0 (s.2.2.2.2.2 ++ [v])
    refine qLs_a _ _ _ (qLs_f _ _ hL (fun i i1 i2 => ?_)) ⟨?_, trivial⟩
    · rw [c98, h98]
      exact zu_pl S.1 (by omega)
    · rw [c98, h98]
      exact zu_same S.1 98 0 _ _
  · rw [c99]
    exact h99 d a b
  · rw [c100]
    exact h100 d a b
/-- a token is wanted: what is asked of it -/
theorem mT21 (hB : qB tp n) (hD : qD tp n S) (hM : qM tp n S b) (hb : 0 ≤ b ∧ b ≤ n) (d : Nat) : zM_reads_21 (d + 3) (zI l) (zI w) (1 : Int32) S = zM_reads_68 (d + 3) (zI l) (zI w) (1 : Int32) (zI (if qtc tp n b < 6 then qtc tp n b + 1 else 0)) (zb (qtc tp n b = 12)) (zb (qtc tp n b = 140)) (zb (qtc tp n b = 50)) S := by
  have k := zkd_b tp n b
  have wd : zM_isWord (d + 3) (10631 : Int64) S = some (zb (qtc tp n b = 12), S) := cM_word hM (d + 2) (i := 12) (by omega) rfl
  have sg : zM_isSign (d + 3) (40 : Int32) S = some (zb (qtc tp n b = 140), S) := cM_sign hB hD hb hM (d + 2) (c := 40) (by omega)
  rw [eM_reads_21, zif_neg (by decide), cM_fact hM (d + 2), zBs]
  dsimp only
  rw [wd, zBs]
  dsimp only
  rw [sg, zBs]
  dsimp only
  rw [hM.2.2.1]
  have e1 : (zI (zkd tp n b) = 1) = (zkd tp n b = 1) := zI_eq (a := zkd tp n b) (b := 1) (by omega) (by omega) (by omega) (by omega)
  rw [e1]
  rcases qtc_f (tp := tp) (n := n) (b := b) with h | h | h | h | h | h
  · rw [zif_neg (by omega), zb_f (P := qtc tp n b = 50) (by omega)]
  · rw [zif_pos h.1, cM_own hM h.1 (d + 1), zBs]
    dsimp only
    rw [zb_0, zif_pos (by omega), zb_t (P := qtc tp n b = 50) (by omega)]
  · rw [zif_pos h.1, cM_own hM h.1 (d + 1), zBs]
    dsimp only
    rw [zb_0, zif_neg (by omega), zb_f (P := qtc tp n b = 50) (by omega)]
  · rw [zif_neg (by omega), zb_f (P := qtc tp n b = 50) (by omega)]
  · rw [zif_neg (by omega), zb_f (P := qtc tp n b = 50) (by omega)]
  · rw [zif_neg (by omega), zb_f (P := qtc tp n b = 50) (by omega)]
/-- it can stand there -/
theorem mT68 (hN : qNb tp n bt m) (hNm : qNm tp n bt m S) (hM : qM tp n S b) (d : Nat) (ht : qtc tp n b < 6 ∨ qtc tp n b = 50 ∨ qtc tp n b = 60 ∨ qtc tp n b = 12 ∨ qtc tp n b = 140) (hs : qtc tp n b = 50 → 0 ≤ qsl tp n bt m b) : zM_reads_68 (d + 3) (zI l) (zI w) (1 : Int32) (zI (if qtc tp n b < 6 then qtc tp n b + 1 else 0)) (zb (qtc tp n b = 12)) (zb (qtc tp n b = 140)) (zb (qtc tp n b = 50)) S =
    zM_reads_122 (d + 3) (zI l) (zI w) (1 : Int32) (zI (if qtc tp n b < 6 then qtc tp n b + 1 else 0)) (zb (qtc tp n b = 12)) (zb (qtc tp n b = 140)) (zb (qtc tp n b = 50)) S := by
  have k := zkd_b tp n b
  have qb := qtc_b (tp := tp) (n := n) (b := b)
  have sb := qsl_b (tp := tp) (n := n) (bt := bt) (b := b) hN.1
  have hm := hN.1
  have f0 : (zI (if qtc tp n b < 6 then qtc tp n b + 1 else 0) = 0) = ¬ qtc tp n b < 6 := by
    have e := zI_eq (a := if qtc tp n b < 6 then qtc tp n b + 1 else 0) (b := 0) (by split <;> omega) (by split <;> omega) (by omega) (by omega)
    refine Eq.trans e (propext ?_)
    split <;> constructor <;> intro e <;> omega
  have e2 : (zI (zkd tp n b) = 2) = (zkd tp n b = 2) := zI_eq (a := zkd tp n b) (b := 2) (by omega) (by omega) (by omega) (by omega)
  rw [eM_reads_68, f0, zb_0, zb_0, zb_0, hM.2.2.1, e2]
  by_cases t6 : qtc tp n b < 6
  · rw [zif_neg (fun e => e t6), zif_pos (by omega)]
  · rw [zif_pos t6]
    by_cases t12 : qtc tp n b = 12
    · rw [zif_neg (fun e => e t12), zif_pos (by omega)]
    · rw [zif_pos t12]
      by_cases t140 : qtc tp n b = 140
      · rw [zif_neg (fun e => e t140), zif_pos (by omega)]
      · rw [zif_pos t140]
        by_cases t50 : qtc tp n b = 50
        · have k1 := (qtc_n.2 t50).1
          have s0 := hs t50
          rw [zif_neg (fun e => e t50), zif_neg (fun e => e t50), zM_nameAt_s hN hNm hM k1 (d + 2), zBs]
          dsimp only
          rw [zI_n0, zI_le (by omega) (by omega) (by omega) (by omega), zif_pos s0]
        · have k2 : zkd tp n b = 2 := qtc_2.2 (by omega)
          rw [zif_pos t50, zif_pos k2, zif_pos t50]
theorem mF {Q : Int32 × ZS → Prop} (hM : qM tp n S b) (d : Nat) (k : Int) (h : Q ((0 : Int32), (zu S.1 11 0 44 (zI (k + 16 * b)), S.2))) : zwp ((zM_fails (d + 1) (zI k) S).bind (fun r => zgb r.1 (some (r.1, r.2)))) Q := by
  rw [zM_fails_s hM, zwp_some]
  exact h
/-- it can't -/
theorem mF68 (hN : qNb tp n bt m) (hNm : qNm tp n bt m S) (hM : qM tp n S b) (d : Nat) (ht : ¬ (qtc tp n b < 6 ∨ qtc tp n b = 60 ∨ qtc tp n b = 12 ∨ qtc tp n b = 140)) (hs : qtc tp n b = 50 → qsl tp n bt m b < 0) {Q : Int32 × ZS → Prop} (h : Q ((0 : Int32), (zu S.1 11 0 44 (zI ((if qtc tp n b = 50 then 2 else 1) + 16 * b)), S.2))) : zwp (zM_reads_68 (d + 3) (zI l) (zI w) (1 : Int32) (zI (if qtc tp n b < 6 then qtc tp n b + 1 else 0)) (zb (qtc tp n b = 12)) (zb (qtc tp n b = 140)) (zb (qtc tp n b = 50)) S) Q := by
  have k := zkd_b tp n b
  have qb := qtc_b (tp := tp) (n := n) (b := b)
  have sb := qsl_b (tp := tp) (n := n) (bt := bt) (b := b) hN.1
  have hm := hN.1
  have f0 : (zI (if qtc tp n b < 6 then qtc tp n b + 1 else 0) = 0) = ¬ qtc tp n b < 6 := by
    have e := zI_eq (a := if qtc tp n b < 6 then qtc tp n b + 1 else 0) (b := 0) (by split <;> omega) (by split <;> omega) (by omega) (by omega)
    refine Eq.trans e (propext ?_)
    split <;> constructor <;> intro e <;> omega
  have e2 : (zI (zkd tp n b) = 2) = (zkd tp n b = 2) := zI_eq (a := zkd tp n b) (b := 2) (by omega) (by omega) (by omega) (by omega)
  rw [eM_reads_68, f0, zb_0, zb_0, zb_0, hM.2.2.1, e2, zif_pos (by omega), zif_pos (by omega), zif_pos (by omega)]
  by_cases t50 : qtc tp n b = 50
  · have k1 := (qtc_n.2 t50).1
    have s0 := hs t50
    rw [if_pos t50] at h
    rw [zif_neg (fun e => e t50), zif_neg (fun e => e t50), zM_nameAt_s hN hNm hM k1 (d + 2), zBs]
    dsimp only
    rw [zI_n0, zI_le (by omega) (by omega) (by omega) (by omega), zif_neg (by omega)]
    exact mF hM (d + 2) 2 h
  · rw [if_neg t50] at h
    rw [zif_pos t50, zif_neg (fun e => by have := qtc_2.1 e; omega)]
    exact mF hM (d + 2) 1 h
end MR
