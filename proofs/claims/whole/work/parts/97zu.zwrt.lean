/-! THE TARIFF: what a line is worth to the reference -/
/-- items of a code of the reference, where m names are told -/
def qXc (m c : Int) : Prop := (c = 20 ∨ c = 21 ∨ c = 22 ∨ c = 24 ∨ c = 25 ∨ c = 26 ∨ c = 27 ∨ c = 28 ∨ c = 29 ∨ c = 30) ∨ (1 ≤ c ∧ c ≤ 6) ∨ (10 ≤ c ∧ c < 10 + m) ∨ (100 ≤ c ∧ c ≤ 10099)
def qXl (m : Int) : List Int → Prop
  | [] => True
  | c :: C => qXc m c ∧ qXl m C
theorem qXl_a {m : Int} : ∀ (A B : List Int), qXl m A → qXl m B → qXl m (A ++ B)
  | [], _, _, h => h
  | _ :: A, B, h, h2 => ⟨h.1, qXl_a A B h.2 h2⟩
section WM
variable {S : ZS} {l w k : Int}
/-- the values -/
def qVr (vf nf : Int → Int32) (m : Int) (S : ZS) : Prop := (∀ i : Int, 0 ≤ i → i < 6 → S.1 110 0 (i + 1).toNat = vf i) ∧ (∀ i : Int, 0 ≤ i → i < m → S.1 111 0 i.toNat = nf i)
theorem qVr_f {vf nf : Int → Int32} {m : Int} {S S' : ZS} (h : qVr vf nf m S) (f : qFe S S') : qVr vf nf m S' := ⟨fun i a b => (congrFun (congrFun (f.1 110 (by decide)) 0) _).trans (h.1 i a b), fun i a b => (congrFun (congrFun (f.1 111 (by decide)) 0) _).trans (h.2 i a b)⟩
/-- the loop goes on at s -/
def qGo (d : Nat) (l k : Int) (o : Option (Int32 × ZS)) (S : ZS) (s : Int × QF) : Prop := ∃ S', o = zM_worth_14 d (zI l) (zI s.1) (zI (k + 1)) S' ∧ qFc s.2 S' ∧ qFe S S' ∧ (0 ≤ s.1 ∧ s.1 < 6)
theorem zM_worth_319_s {F : QF} (h : qFc F S) (hw : 0 ≤ w ∧ w < 6) (d : Nat) (v : Int32) : qGo d l k (zM_worth_319 d (zI l) (zI w) (zI k) v S) S (w, qu F w 6 (if F w 7 = 0 then v else F w 6 * v)) := by
  have zi : zin (zI w) 6 = true := by rw [zI_in (by omega) (by omega)]; omega
  have c7 : S.1 108 0 w.toNat = F w 7 := h w hw.1 hw.2 7 (by decide)
  have c6 : S.1 107 0 w.toNat = F w 6 := h w hw.1 hw.2 6 (by decide)
  have fin : ∀ v', qFc (qu F w 6 v') ((zu S.1 107 0 w.toNat v'), S.2) ∧ qFe S ((zu S.1 107 0 w.toNat v'), S.2) := fun v' => ⟨qFc_u h hw (k := 6) (by decide) v', qFe_u S (k := 6) (by decide) w.toNat v'⟩
  rw [eM_worth_319, zg_t zi, zI_zx (by omega) (by omega), c7, c6, zI_n1, zI_add]
  by_cases q : F w 7 = 0
  · rw [zif_pos q, if_pos q, zg_t zi]
    exact ⟨_, rfl, (fin v).1, (fin v).2, hw⟩
  · rw [zif_neg q, if_neg q, zg_t zi, zg_t zi]
    exact ⟨_, rfl, (fin _).1, (fin _).2, hw⟩
theorem zM_worth_287_s {F : QF} (h : qFc F S) (d : Nat) : ∀ (n : Nat) (w : Int) (v : Int32), w = n → w < 6 → qGo d l k (zM_worth_287 d (zI l) (zI w) (zI k) v S) S (qpv n F w v) := by
  intro n
  induction n with
  | zero =>
    intro w v e hw
    rw [eM_worth_287, zI_n0, zI_le (by omega) (by omega) (by omega) (by omega), zif_pos (by omega)]
    exact zM_worth_319_s h (by omega) d v
  | succ n ih =>
    intro w v e hw
    have zi : zin (zI w) 6 = true := by rw [zI_in (by omega) (by omega)]; omega
    have c8 : S.1 109 0 w.toNat = F w 8 := h w (by omega) hw 8 (by decide)
    have z0 : (0 : Int32) = zI 0 := rfl
    rw [eM_worth_287, zI_n0, zI_le (by omega) (by omega) (by omega) (by omega), zif_neg (by omega), zg_t zi, zI_zx (by omega) (by omega), c8, zI_n1, zI_neg, zI_add, qpv]
    by_cases q : F w 8 = 1
    · rw [if_pos q, zif_pos (show F w 8 = zI 1 from q)]
      by_cases r : v = 0
      · rw [zif_pos (show v = zI 0 from r)]
        have := ih (w + -1) (qnt v) (by omega) (by omega)
        unfold qnt at this ⊢
        rw [if_pos r] at this ⊢
        exact this
      · rw [zif_neg (show ¬ v = zI 0 from r)]
        have := ih (w + -1) (qnt v) (by omega) (by omega)
        unfold qnt at this ⊢
        rw [if_neg r] at this ⊢
        exact this
    · rw [if_neg q, zif_neg (show ¬ F w 8 = zI 1 from q)]
      exact zM_worth_319_s h (by omega) d v
theorem qGo_t {d : Nat} {o : Option (Int32 × ZS)} {S S1 : ZS} {s : Int × QF} (f : qFe S S1) (h : qGo d l k o S1 s) : qGo d l k o S s := by
  obtain ⟨S', a, b, c, e⟩ := h
  exact ⟨S', a, b, qFe_t f c, e⟩
/-- a step -/
theorem zM_worth_14_s {F : QF} (h : qFc F S) (hw : 0 ≤ w ∧ w < 6) {m e c : Int} (hm : m ≤ 6) (d : Nat) {vf nf : Int → Int32} (hV : qVr vf nf m S) (hl : 0 ≤ l ∧ l < 32) (he : S.1 95 0 l.toNat = zI e) (hke : 0 ≤ k ∧ k < e ∧ e ≤ 2000) (hx : qXc m c) (hc : S.1 98 0 k.toNat = zI c) {s : Int × QF} (hq : qrs vf nf c (w, F) = some s) :
    qGo (d + 2) l k (zM_worth_14 (d + 2) (zI l) (zI w) (zI k) S) S s := by
  have zi : zin (zI w) 6 = true := by rw [zI_in (by omega) (by omega)]; omega
  have zl : zin (zI l) 32 = true := by rw [zI_in (by omega) (by omega)]; omega
  have zk : zin (zI k) 2000 = true := by rw [zI_in (by omega) (by omega)]; omega
  unfold qXc at hx
  unfold qrs at hq
  dsimp only at hq
  rw [eM_worth_14, zg_t zl, zI_zx (a := l) (by omega) (by omega), he, zI_le (by omega) (by omega) (by omega) (by omega), zif_neg (by omega), zg_t zk, zI_zx (a := k) (by omega) (by omega), hc]
  rw [zI_n28, zI_eq (by omega) (by omega) (by omega) (by omega), zI_n30, zI_eq (by omega) (by omega) (by omega) (by omega), zI_n20, zI_eq (by omega) (by omega) (by omega) (by omega), zI_n21, zI_eq (by omega) (by omega) (by omega) (by omega), zI_n22, zI_eq (by omega) (by omega) (by omega) (by omega), zI_n24, zI_eq (by omega) (by omega) (by omega) (by omega), zI_n25, zI_eq (by omega) (by omega) (by omega) (by omega), zI_n26, zI_eq (by omega) (by omega) (by omega) (by omega), zI_n27, zI_eq (by omega) (by omega) (by omega) (by omega), zI_n29, zI_eq (by omega) (by omega) (by omega) (by omega), show (100 : Int32) = zI 100 from rfl, zI_lt (by omega) (by omega) (by omega) (by omega), zI_n10, zI_le (by omega) (by omega) (by omega) (by omega), zI_le (by omega) (by omega) (by omega) (by omega)]
  by_cases q28 : c = 28
  · rw [if_pos q28] at hq
    rw [zif_pos q28, eM_worth_46, zI_n30, zI_eq (by omega) (by omega) (by omega) (by omega), zif_neg (by omega), zI_n1, zI_add, zI_add]
    by_cases w5 : w < 5
    · rw [if_pos w5] at hq
      have hq := Option.some.inj hq
      have h1 := qFc_u h (d := w + 1) (by omega) (k := 8) (by decide) 0
      have f1 := qFe_u S (k := 8) (by decide) (w + 1).toNat 0
      obtain ⟨S2, e2, h2, f2⟩ := zM_opens_s h1 (w := w + 1) (by omega) (d + 1)
      have e2 : zM_opens (d + 2) (zI (w + 1)) (zu S.1 109 0 (w + 1).toNat (0 : Int32), S.2) = some S2 := e2
      rw [zg_t (by rw [zI_in (by omega) (by omega)]; omega), zI_zx (by omega) (by omega), e2, zBs, ← hq]
      exact ⟨S2, rfl, h2, qFe_t f1 f2, (show 0 ≤ w + 1 ∧ w + 1 < 6 by omega)⟩
    · rw [if_neg w5] at hq
      cases hq
  rw [if_neg q28] at hq
  rw [zif_neg q28]
  by_cases q30 : c = 30
  · rw [if_pos q30] at hq
    rw [zif_pos q30, eM_worth_46, zI_n30, zI_eq (by omega) (by omega) (by omega) (by omega), zif_pos (by omega), zI_n1, zI_add, zI_add]
    by_cases w5 : w < 5
    · rw [if_pos w5] at hq
      have hq := Option.some.inj hq
      have h1 := qFc_u h (d := w + 1) (by omega) (k := 8) (by decide) 1
      have f1 := qFe_u S (k := 8) (by decide) (w + 1).toNat 1
      obtain ⟨S2, e2, h2, f2⟩ := zM_opens_s h1 (w := w + 1) (by omega) (d + 1)
      have e2 : zM_opens (d + 2) (zI (w + 1)) (zu S.1 109 0 (w + 1).toNat (zI 1), S.2) = some S2 := e2
      rw [zg_t (by rw [zI_in (by omega) (by omega)]; omega), zI_zx (by omega) (by omega), e2, zBs, ← hq]
      exact ⟨S2, rfl, h2, qFe_t f1 f2, (show 0 ≤ w + 1 ∧ w + 1 < 6 by omega)⟩
    · rw [if_neg w5] at hq
      cases hq
  rw [if_neg q30] at hq
  rw [zif_neg q30]
  by_cases q2 : c = 20 ∨ c = 21
  · rw [if_pos q2] at hq
    have hq := Option.some.inj hq
    obtain ⟨S2, e2, h2, f2⟩ := zM_sums_s h hw (d + 1)
    have e2 : zM_sums (d + 2) (zI w) S = some S2 := e2
    have h3 := qFc_u h2 hw (k := 5) (by decide) (zI c)
    have f3 := qFe_t f2 (qFe_u S2 (k := 5) (by decide) w.toNat (zI c))
    have g : qGo (d + 2) l k (zM_worth_14 (d + 2) (zI l) (zI w) (zI (k + 1)) (zu S2.1 106 0 w.toNat (zI c), S2.2)) S s := by
      rw [← hq]
      exact ⟨_, rfl, h3, f3, hw⟩
    by_cases q20 : c = 20
    · rw [zif_pos q20, e2, zBs, zg_t zi, zI_n1, zI_add, zI_zx (by omega) (by omega)]
      exact g
    · rw [zif_neg q20, zif_pos (by omega), e2, zBs, zg_t zi, zI_n1, zI_add, zI_zx (by omega) (by omega)]
      exact g
  rw [if_neg q2] at hq
  rw [zif_neg (by omega), zif_neg (by omega)]
  by_cases q22 : c = 22
  · rw [if_pos q22] at hq
    have hq := Option.some.inj hq
    rw [zif_pos q22, zg_t zi, zg_t (by decide), zI_n1, zI_add, zI_zx (by omega) (by omega), ← hq]
    exact ⟨_, rfl, qFc_u h hw (k := 7) (by decide) 1, qFe_u S (k := 7) (by decide) w.toNat 1, hw⟩
  rw [if_neg q22] at hq
  rw [zif_neg q22]
  by_cases q4 : c = 24 ∨ c = 25
  · rw [if_pos q4] at hq
    have hq := Option.some.inj hq
    obtain ⟨S2, e2, h2, f2⟩ := zM_sums_s h hw (d + 1)
    have e2 : zM_sums (d + 2) (zI w) S = some S2 := e2
    have c4 : S2.1 105 0 w.toNat = qsv F w := (h2 w hw.1 hw.2 4 (by decide)).trans (qsum_4 F w)
    have h3 := qFc_u h2 hw (k := 2) (by decide) (qsv F w)
    have h4 := qFc_u h3 hw (k := 3) (by decide) (zI c)
    have h5 := qFc_u h4 hw (k := 4) (by decide) 0
    have h6 := qFc_u h5 hw (k := 5) (by decide) 20
    have f3 := qFe_t f2 (qFe_u S2 (k := 2) (by decide) w.toNat (qsv F w))
    have f4 := qFe_t f3 (qFe_u _ (k := 3) (by decide) w.toNat (zI c))
    have f5 := qFe_t f4 (qFe_u _ (k := 4) (by decide) w.toNat 0)
    have f6 := qFe_t f5 (qFe_u _ (k := 5) (by decide) w.toNat 20)
    have g : qGo (d + 2) l k (zM_worth_136 (d + 2) (zI l) (zI w) (zI k) (zI c) S) S s := by
      rw [eM_worth_136, e2, zBs, zg_t zi, zg_t zi, zg_t zi, zg_t zi, zg_t zi, zI_n1, zI_add, zI_zx (by omega) (by omega), c4, ← hq]
      exact ⟨_, rfl, h6, f6, hw⟩
    by_cases q24 : c = 24
    · rw [zif_pos q24]
      exact g
    · rw [zif_neg q24, zif_pos (by omega)]
      exact g
  rw [if_neg q4] at hq
  rw [zif_neg (by omega), zif_neg (by omega)]
  obtain ⟨S2, e2, h2, f2⟩ := zM_tests_s h hw d
  by_cases q6 : c = 26 ∨ c = 27
  · rw [if_pos q6] at hq
    have hq := Option.some.inj hq
    have h3 := qFc_u h2 hw (k := 1) (by decide) (zI c)
    have f3 := qFe_t f2 (qFe_u S2 (k := 1) (by decide) w.toNat (zI c))
    have g : qGo (d + 2) l k (zM_worth_14 (d + 2) (zI l) (zI w) (zI (k + 1)) (zu S2.1 102 0 w.toNat (zI c), S2.2)) S s := by
      rw [← hq]
      exact ⟨_, rfl, h3, f3, hw⟩
    by_cases q26 : c = 26
    · rw [zif_pos q26, e2, zBs, zg_t zi, zI_n1, zI_add, zI_zx (by omega) (by omega)]
      exact g
    · rw [zif_neg q26, zif_pos (by omega), e2, zBs, zg_t zi, zI_n1, zI_add, zI_zx (by omega) (by omega)]
      exact g
  rw [if_neg q6] at hq
  rw [zif_neg (by omega), zif_neg (by omega)]
  by_cases q29 : c = 29
  · rw [if_pos q29] at hq
    by_cases w0 : 0 < w
    · rw [if_pos w0] at hq
      have hq := Option.some.inj hq
      have c0 : S2.1 101 0 w.toNat = qkv F w := (h2 w hw.1 hw.2 0 (by decide)).trans ((qu_k _ w _ (by decide)).trans ((qu_k _ w _ (by decide)).trans ((qu_k _ w _ (by decide)).trans (qu_s _ w 0 _))))
      have g := qGo_t f2 (zM_worth_287_s (l := l) (k := k) h2 (d + 2) (w - 1).toNat (w - 1) (qkv F w) (by omega) (by omega))
      rw [zif_pos (by omega), zif_pos (by omega), zif_pos (by omega), zif_pos q29, e2, zBs, zg_t zi, zI_n1, zI_neg, zI_add, zI_zx (by omega) (by omega), c0, ← hq, show w + -1 = w - 1 by omega]
      exact g
    · rw [if_neg w0] at hq
      cases hq
  rw [if_neg q29] at hq
  have hq := Option.some.inj hq
  have g := zM_worth_287_s (l := l) (k := k) h (d + 2) w.toNat w (qro vf nf c) (by omega) (by omega)
  rw [hq] at g
  unfold qro at g
  by_cases c100 : c < 100
  · rw [if_neg (by omega)] at g
    rw [zif_pos c100]
    by_cases c10 : 10 ≤ c
    · rw [if_neg (by omega)] at g
      rw [zif_pos c10, zif_neg (by omega), zI_sub, zg_t (by rw [zI_in (by omega) (by omega)]; omega), zif_neg q29, zI_zx (by omega) (by omega), hV.2 (c - 10) (by omega) (by omega)]
      exact g
    · rw [if_pos (by omega)] at g
      have v := hV.1 (c - 1) (by omega) (by omega)
      rw [show c - 1 + 1 = c by omega] at v
      rw [zif_neg c10, zg_t (by rw [zI_in (by omega) (by omega)]; omega), zif_neg q29, zI_zx (by omega) (by omega), v]
      exact g
  · rw [if_pos (by omega)] at g
    rw [zif_neg c100, zif_neg q29, zI_sub]
    exact g
/-- a line's code is walked -/
theorem zM_worth_14_r {m e : Int} (hm : m ≤ 6) (d : Nat) {vf nf : Int → Int32} (hl : 0 ≤ l ∧ l < 32) (he2 : e ≤ 2000) :
    ∀ (R : List Int) (k : Nat) (w : Int) (F : QF) (s : Int × QF) (S : ZS), qrv vf nf R (w, F) = some s → qFc F S → (0 ≤ w ∧ w < 6) → qVr vf nf m S → S.1 95 0 l.toNat = zI e → (k : Int) + R.length = e → qXl m R → qLs (S.1 98 0) k R →
      ∃ S', zM_worth_14 (d + 2) (zI l) (zI w) (zI k) S = zM_worth_14 (d + 2) (zI l) (zI s.1) (zI e) S' ∧ qFc s.2 S' ∧ qFe S S' ∧ (0 ≤ s.1 ∧ s.1 < 6) := by
  intro R
  induction R with
  | nil =>
    intro k w F s S hq h hw hV h95 ek hx hR
    rw [List.length_nil] at ek
    rw [qrv] at hq
    have hq := Option.some.inj hq
    rw [← hq, show (k : Int) = e by omega]
    exact ⟨S, rfl, h, qFe_r S, hw⟩
  | cons c R ih =>
    intro k w F s S hq h hw hV h95 ek hx hR
    rw [List.length_cons] at ek
    rw [qrv] at hq
    cases hs : qrs vf nf c (w, F) with
    | none =>
      rw [hs] at hq
      cases hq
    | some s1 =>
      rw [hs, zBs] at hq
      obtain ⟨S1, e1, h1, f1, w1⟩ := zM_worth_14_s (k := (k : Int)) h hw hm d hV hl h95 ⟨by omega, by omega, he2⟩ hx.1 (by rw [show ((k : Int)).toNat = k by omega]; exact hR.1) hs
      have c98 : S1.1 98 = S.1 98 := f1.1 98 (by decide)
      have c95 : S1.1 95 = S.1 95 := f1.1 95 (by decide)
      obtain ⟨S2, e2, h2, f2, w2⟩ := ih (k + 1) s1.1 s1.2 s S1 hq h1 w1 (qVr_f hV f1) (by rw [c95]; exact h95) (by omega) hx.2 (by rw [c98]; exact hR.2)
      rw [e1, show (k : Int) + 1 = ((k + 1 : Nat) : Int) by omega, e2]
      exact ⟨S2, rfl, h2, qFe_t f1 f2, w2⟩
/-- what a line is worth -/
theorem zM_worth_s {m : Int} (hm : m ≤ 6) (d : Nat) {vf nf : Int → Int32} {R : List Int} {k : Nat} {v : QV} (hl : 0 ≤ l ∧ l < 32) (hV : qVr vf nf m S) (hR : qR0 0 R v) (hx : qXl m R) (hL : qLs (S.1 98 0) k R) (h94 : S.1 94 0 l.toNat = zI k) (h95 : S.1 95 0 l.toNat = zI ((k : Int) + R.length)) (he : (k : Int) + R.length ≤ 2000) :
    zwp (zM_worth (d + 3) (zI l) S) (fun r => r.1 = v vf nf ∧ qFe S r.2) := by
  have zl : zin (zI l) 32 = true := by rw [zI_in (by omega) (by omega)]; omega
  have h0 : qFc (fun d k => S.1 (101 + k) 0 d.toNat) S := fun _ _ _ _ _ => rfl
  generalize hF : (fun (d : Int) (k : Nat) => S.1 (101 + k) 0 d.toNat) = F at h0
  obtain ⟨S1, e1, h1, f1⟩ := zM_opens_s h0 (w := 0) (by omega) (d + 1)
  have e1 : zM_opens (d + 2) (0 : Int32) S = some S1 := e1
  have c98 : S1.1 98 = S.1 98 := f1.1 98 (by decide)
  have c95 : S1.1 95 = S.1 95 := f1.1 95 (by decide)
  have c94 : S1.1 94 = S.1 94 := f1.1 94 (by decide)
  have g7 : qopn F 0 0 7 = 0 := qu_s _ _ 7 _
  have g5 : qopn F 0 0 5 = 20 := (qu_k _ _ _ (by decide)).trans (qu_s _ _ 5 _)
  have g4 : qopn F 0 0 4 = 0 := (qu_k _ _ _ (by decide)).trans ((qu_k _ _ _ (by decide)).trans (qu_s _ _ 4 _))
  have g3 : qopn F 0 0 3 = 0 := (qu_k _ _ _ (by decide)).trans ((qu_k _ _ _ (by decide)).trans ((qu_k _ _ _ (by decide)).trans (qu_s _ _ 3 _)))
  have g1 : qopn F 0 0 1 = 0 := (qu_k _ _ _ (by decide)).trans ((qu_k _ _ _ (by decide)).trans ((qu_k _ _ _ (by decide)).trans ((qu_k _ _ _ (by decide)).trans (qu_s _ _ 1 _))))
  obtain ⟨F2, q1, q2, q3, q4⟩ := hR vf nf (qopn F 0) (Or.inl rfl) g7 g4 g5 g3 g1
  obtain ⟨S2, e2, h2, f2, -⟩ := zM_worth_14_r hm d hl he R k 0 (qopn F 0) (0, F2) S1 q1 h1 (by omega) (qVr_f hV f1) (by rw [c95]; exact h95) rfl hx (by rw [c98]; exact hL)
  have h2 : qFc F2 S2 := h2
  obtain ⟨S3, e3, h3, f3⟩ := zM_tests_s h2 (w := 0) (by omega) d
  have e3 : zM_tests (d + 2) (0 : Int32) S2 = some S3 := e3
  have c95' : S2.1 95 = S1.1 95 := f2.1 95 (by decide)
  have c0 : S3.1 101 0 0 = qkv F2 0 := (h3 0 (by omega) (by omega) 0 (by decide)).trans ((qu_k _ _ _ (by decide)).trans ((qu_k _ _ _ (by decide)).trans ((qu_k _ _ _ (by decide)).trans (qu_s _ _ 0 _))))
  have e2 : zM_worth_14 (d + 2) (zI l) (zI 0) (zI k) S1 = zM_worth_14 (d + 2) (zI l) (zI 0) (zI ((k : Int) + R.length)) S2 := e2
  rw [eM_worth, e1, zBs, zg_t zl, zI_zx (by omega) (by omega), c94, h94, zI_n0, e2, eM_worth_14, zg_t zl, zI_zx (a := l) (by omega) (by omega), c95', c95, h95, zI_le (by omega) (by omega) (by omega) (by omega), zif_pos (by omega)]
  rw [show zM_tests (d + 2) (0 : Int32) S2 = some S3 from e3, zBs, zg_t (by decide), zwp_some]
  exact ⟨c0.trans q4, qFe_t f1 (qFe_t f2 f3)⟩
end WM
