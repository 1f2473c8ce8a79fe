/-! THE TARIFF: the class reads operations of each rank -/
section PG
variable {tp : Int → Int} {n : Int} {bt : Int → Int} {m : Int} {u : Nat} {w b c : Int} {op cm : Int → Int} {R0 : List Int} {S : ZS}
/-- the operation of rank r that stands there, by the class's number -/
def qoA (tp : Int → Int) (n r b : Int) : Int := if r = 0 then (if qtc tp n b = 10 then 30001 else if qtc tp n b = 11 then 30002 else -1) else if r = 1 then (if qtc tp n b = 160 then 30003 else if qtc tp n b = 161 then 30004 else -1) else if r = 2 then (if qtc tp n b = 143 then 30005 else if qtc tp n b = 145 then 30006 else -1) else if qtc tp n b = 142 then 30007 else -1
/-- by the reference's -/
def qoR (k : Int) : Int := if k = 30001 then 26 else if k = 30002 then 27 else if k = 30003 then 24 else if k = 30004 then 25 else if k = 30005 then 20 else if k = 30006 then 21 else 22
theorem cF_opAt (hB : qB tp n) (hC : qC tp n S) (hb : 0 ≤ b ∧ b ≤ n) (hA : qA tp n S b) (d : Nat) {r : Int} (hr : 0 ≤ r ∧ r ≤ 3) : zF_operationAt (d + 2) u (zI r) S = some (zI (qoA tp n r b), S) := by
  have s60 : zT_isSign (d + 1) (60 : Int32) S = some (zb (qtc tp n b = 160), S) := cT_sign hB hC hb hA d (c := 60) (by omega)
  have s61 : zT_isSign (d + 1) (61 : Int32) S = some (zb (qtc tp n b = 161), S) := cT_sign hB hC hb hA d (c := 61) (by omega)
  have s43 : zT_isSign (d + 1) (43 : Int32) S = some (zb (qtc tp n b = 143), S) := cT_sign hB hC hb hA d (c := 43) (by omega)
  have s45 : zT_isSign (d + 1) (45 : Int32) S = some (zb (qtc tp n b = 145), S) := cT_sign hB hC hb hA d (c := 45) (by omega)
  have s42 : zT_isSign (d + 1) (42 : Int32) S = some (zb (qtc tp n b = 142), S) := cT_sign hB hC hb hA d (c := 42) (by omega)
  have w10 : zT_isWord (d + 1) 10 S = some (zb (qtc tp n b = 10), S) := cT_word hA d (i := 10) (by decide)
  have w11 : zT_isWord (d + 1) 11 S = some (zb (qtc tp n b = 11), S) := cT_word hA d (i := 11) (by decide)
  have z0 : (0 : Int32) = zI 0 := rfl
  have z1 : (1 : Int32) = zI 1 := rfl
  have z2 : (2 : Int32) = zI 2 := rfl
  rw [eF_operationAt, w10, s60, s43, s42, zBs, zBs, zBs, zBs]
  dsimp only
  rw [w11, s61, s45, zBs, zBs, zBs]
  dsimp only
  rw [zb_0, zb_0, zb_0, zb_0, zb_0, zb_0, zb_0, z0, z1, z2, zI_eq (by omega) (by omega) (by omega) (by omega), zI_eq (by omega) (by omega) (by omega) (by omega), zI_eq (by omega) (by omega) (by omega) (by omega)]
  unfold qoA
  by_cases r0 : r = 0
  · rw [zif_pos r0, if_pos r0]
    by_cases a : qtc tp n b = 10
    · rw [zif_neg (fun e => e a), if_pos a]
      rfl
    · rw [zif_pos a, if_neg a]
      by_cases e : qtc tp n b = 11
      · rw [zif_neg (fun k => k e), if_pos e]
        rfl
      · rw [zif_pos e, if_neg e]
        rfl
  · rw [zif_neg r0, if_neg r0]
    by_cases r1 : r = 1
    · rw [zif_pos r1, if_pos r1]
      by_cases a : qtc tp n b = 160
      · rw [zif_neg (fun e => e a), if_pos a]
        rfl
      · rw [zif_pos a, if_neg a]
        by_cases e : qtc tp n b = 161
        · rw [zif_neg (fun k => k e), if_pos e]
          rfl
        · rw [zif_pos e, if_neg e]
          rfl
    · rw [zif_neg r1, if_neg r1]
      by_cases r2 : r = 2
      · rw [zif_pos r2, if_pos r2]
        by_cases a : qtc tp n b = 143
        · rw [zif_neg (fun e => e a), if_pos a]
          rfl
        · rw [zif_pos a, if_neg a]
          by_cases e : qtc tp n b = 145
          · rw [zif_neg (fun k => k e), if_pos e]
            rfl
          · rw [zif_pos e, if_neg e]
            rfl
      · rw [zif_neg r2, if_neg r2]
        by_cases a : qtc tp n b = 142
        · rw [zif_neg (fun e => e a), if_pos a]
          rfl
        · rw [zif_pos a, if_neg a]
          rfl
theorem qoA_k {r : Int} (hr : 0 ≤ r ∧ r ≤ 3) (hk : qoA tp n r b ≠ -1) : (r = 0 ∧ ((qoA tp n r b = 30001 ∧ qtc tp n b = 10) ∨ (qoA tp n r b = 30002 ∧ qtc tp n b = 11))) ∨ (r = 1 ∧ ((qoA tp n r b = 30003 ∧ qtc tp n b = 160) ∨ (qoA tp n r b = 30004 ∧ qtc tp n b = 161))) ∨ (r = 2 ∧ ((qoA tp n r b = 30005 ∧ qtc tp n b = 143) ∨ (qoA tp n r b = 30006 ∧ qtc tp n b = 145))) ∨ (r = 3 ∧ qoA tp n r b = 30007 ∧ qtc tp n b = 142) := by
  unfold qoA at hk ⊢
  by_cases r0 : r = 0
  · rw [if_pos r0] at hk ⊢
    by_cases t : qtc tp n b = 10
    · rw [if_pos t]
      omega
    · rw [if_neg t] at hk ⊢
      by_cases t2 : qtc tp n b = 11
      · rw [if_pos t2]
        omega
      · rw [if_neg t2] at hk
        exact absurd rfl hk
  · rw [if_neg r0] at hk ⊢
    by_cases r1 : r = 1
    · rw [if_pos r1] at hk ⊢
      by_cases t : qtc tp n b = 160
      · rw [if_pos t]
        omega
      · rw [if_neg t] at hk ⊢
        by_cases t2 : qtc tp n b = 161
        · rw [if_pos t2]
          omega
        · rw [if_neg t2] at hk
          exact absurd rfl hk
    · rw [if_neg r1] at hk ⊢
      by_cases r2 : r = 2
      · rw [if_pos r2] at hk ⊢
        by_cases t : qtc tp n b = 143
        · rw [if_pos t]
          omega
        · rw [if_neg t] at hk ⊢
          by_cases t2 : qtc tp n b = 145
          · rw [if_pos t2]
            omega
          · rw [if_neg t2] at hk
            exact absurd rfl hk
      · rw [if_neg r2] at hk ⊢
        by_cases t : qtc tp n b = 142
        · rw [if_pos t]
          omega
        · rw [if_neg t] at hk
          exact absurd rfl hk
/-- the rank of what stands left of an operation -/
def qlf (r : Int) : Int := if r = 1 then 2 else r
/-- an operation was read: what lies left and right of it is joined -/
theorem qoJ {r : Int} (hr : 0 ≤ r ∧ r ≤ 3) (hw : 0 ≤ w) {k : Int} {A B : List Int} {a v : QV} (hk : (r = 0 ∧ (k = 30001 ∨ k = 30002)) ∨ (r = 1 ∧ (k = 30003 ∨ k = 30004)) ∨ (r = 2 ∧ (k = 30005 ∨ k = 30006)) ∨ (r = 3 ∧ k = 30007)) (ha : qRr (qlf r) w A a) (hb : qRr (r + 1) w B v) : qRr r w (A ++ qoR k :: B) (fun vf nf => qjo k (a vf nf) (v vf nf)) := by
  rcases hk with ⟨e, h⟩ | ⟨e, h⟩ | ⟨e, h⟩ | ⟨e, h⟩
  · subst e
    refine ⟨fun _ => ?_, fun e => by omega, fun e => by omega, fun e => by omega, fun e => by omega⟩
    rcases h with rfl | rfl
    · exact qR0j (c := 26) (Or.inl rfl) (ha.1 rfl) (hb.2.1 rfl)
    · exact qR0j (c := 27) (Or.inr rfl) (ha.1 rfl) (hb.2.1 rfl)
  · subst e
    refine ⟨fun e => by omega, fun _ => ?_, fun e => by omega, fun e => by omega, fun e => by omega⟩
    rcases h with rfl | rfl
    · exact qR1j (c := 24) (Or.inl rfl) (ha.2.2.1 rfl) (hb.2.2.1 rfl)
    · exact qR1j (c := 25) (Or.inr rfl) (ha.2.2.1 rfl) (hb.2.2.1 rfl)
  · subst e
    refine ⟨fun e => by omega, fun e => by omega, fun _ => ?_, fun e => by omega, fun e => by omega⟩
    rcases h with rfl | rfl
    · exact qR2j (c := 20) (Or.inl rfl) (ha.2.2.1 rfl) (hb.2.2.2.1 rfl)
    · exact qR2j (c := 21) (Or.inr rfl) (ha.2.2.1 rfl) (hb.2.2.2.1 rfl)
  · subst e
    subst h
    exact ⟨fun e => by omega, fun e => by omega, fun e => by omega, fun _ => qR3j hw (ha.2.2.2.1 rfl) (hb.2.2.2.2 rfl), fun e => by omega⟩
/-- an operation, and what stands right of it -/
theorem qoS (hB : qB tp n) (hNb : qNb tp n bt m) (d : Nat) {r : Int} (hr : 0 ≤ r ∧ r ≤ 3) (hw : 0 ≤ w ∧ w ≤ 5) (hO : qOpOK tp n bt m u (d + 9) (r + 1) w) (hbn : 0 ≤ b ∧ b ≤ n) (hc : 0 ≤ c ∧ c ≤ b) (ho : w = 0 ∨ op w ≠ 1) (hcm : r ≤ 1 → cm w = 0)
    {S0 S1 : ZS} (hC : qC tp n S0) (hNc : qNc tp n bt m u S0) {b1 : Int} {op1 cm1 : Int → Int} {C R : List Int} {v : QV} (h : qSu tp n bt m u (qlf r) w b c op cm R0 S0 S1 b1 op1 cm1 C R v) (hno : qNo tp n (r + 1) w b1 cm1) (hk : qoA tp n r b1 ≠ -1) (h1 : r = 1 → cm1 w = 0)
    (Q : Int32 × ZS → Prop) (hf : ∀ x : ZS, qFl tp n bt m u (b, 1, w, op, cm, R0) S0 x → Q ((0 : Int32), x))
    (o : ZS → Option (Int32 × ZS)) (hs : ∀ S3 b3 op3 cm3 C3 R3 v3, b1 < b3 → qSu tp n bt m u r w b c op cm R0 S0 S3 b3 op3 cm3 C3 R3 v3 → qNo tp n (r + 1) w b3 cm3 → (r = 1 → cm3 w ≠ 0) → zwp (o S3) Q) :
    zwp ((zT_next (d + 9) S1).bind (fun r1 => (zF_readOperations (d + 9) u (zI (r + 1)) (zI w) r1).bind (fun r2 => zif (r2.1 = 0) (some ((0 : Int32), r2.2)) ((zF_put (d + 9) u (zI (qoA tp n r b1)) r2.2).bind o)))) Q := by
  obtain ⟨⟨a1, a2, a3, a4, a5, a6⟩, ⟨a7, a8, a9, a10⟩, a11, a12, a13, a14, a15, a16⟩ := h
  have bn := hB.1
  have kk := qoA_k hr hk
  generalize hK : qoA tp n r b1 = K at hk kk ⊢
  have hbn1 : b1 < n := qtc_l (tp := tp) (n := n) (b := b1) (by omega)
  have hb1 : 0 ≤ b1 ∧ b1 ≤ n := by omega
  have xb := znx_b tp n hb1
  have e2w : qpp w.toNat op w = w := qpp_o hw.1 ho
  rw [e2w] at a13
  -- the reference's step
  have st : ∃ cm2, qnx tp n bt m (b1, 0, w, op1, cm1, R0 ++ R) = some (znx tp n b1, 1, w, op1, cm2, R0 ++ R ++ [qoR K]) ∧ (∀ d, d < w → cm2 d = cm1 d) ∧ (r = 0 → cm2 w = 0) ∧ (r = 1 → cm2 w = 1) ∧ (2 ≤ r → cm2 w = cm1 w) := by
    have n3 := hno.2.2.1
    rcases kk with ⟨e, h⟩ | ⟨e, h⟩ | ⟨e, h⟩ | ⟨e, h⟩
    · refine ⟨qw cm1 w 0, ?_, fun d hd => qw_n cm1 0 (by omega), fun _ => qw_s cm1 w 0, fun q => by omega, fun q => by omega⟩
      unfold qnx qoR
      dsimp only
      rcases h with ⟨h, t⟩ | ⟨h, t⟩ <;> rw [h, if_neg (by decide), if_neg (by omega), if_neg (by omega), if_pos (by omega)] <;> simp [t]
    · refine ⟨qw cm1 w 1, ?_, fun d hd => qw_n cm1 1 (by omega), fun q => by omega, fun _ => qw_s cm1 w 1, fun q => by omega⟩
      have h1 := h1 e
      unfold qnx qoR
      dsimp only
      rcases h with ⟨h, t⟩ | ⟨h, t⟩ <;> rw [h, if_neg (by decide), if_neg (by omega), if_pos ⟨by omega, h1⟩] <;> simp [t]
    · refine ⟨cm1, ?_, fun d hd => rfl, fun q => by omega, fun q => by omega, fun _ => rfl⟩
      unfold qnx qoR
      dsimp only
      rcases h with ⟨h, t⟩ | ⟨h, t⟩ <;> rw [h, if_neg (by decide), if_pos (by omega)] <;> simp [t]
    · refine ⟨cm1, ?_, fun d hd => rfl, fun q => by omega, fun q => by omega, fun _ => rfl⟩
      unfold qnx qoR
      dsimp only
      rw [h.1, if_neg (by decide), if_pos (by omega)]
      simp [h.2]
  obtain ⟨cm2, st, c1, c2, c3, c4⟩ := st
  have rc := qrc_t tp n bt m a13 (qrc_1 tp n bt m st)
  obtain ⟨S2, e2, hA2, f2⟩ := zT_next_s hB (qC_t hC a1) (d + 2) hb1 a4
  have e2 : zT_next (d + 9) S1 = some S2 := e2
  have g2 : qFt u S0 S2 := qFt_t a1 (qFt_6 f2)
  have d45 : ∀ i, S2.1 45 u i = S1.1 45 u i := fun i => congrFun (congrFun (f2.1 45 (by decide)) u) i
  have d7 : ∀ i, S2.1 7 u i = S1.1 7 u i := fun i => congrFun (congrFun (f2.1 7 (by decide)) u) i
  have l0 : 0 ≤ (C.length : Int) := by omega
  obtain ⟨x, ex, px⟩ := hO (znx tp n b1) (c + C.length) op1 cm2 (R0 ++ R ++ [qoR K]) S2 ⟨qC_t hC g2, hA2, qNc_t hNc g2, by omega, (d7 7).trans a5, by omega, fun _ => by rw [a14 w (Int.le_refl w)]; exact ho, fun q => c2 (by omega)⟩
  rw [e2, zBs, ex, zBs]
  rcases px with ⟨x0, px⟩ | ⟨x1, b', op', cm', C2, R2, v2, ⟨⟨p1, p2, p3, p4, p5, p6⟩, ⟨p7, p8, p9, p10⟩, p11, p12, p13, p14, p15, p16⟩, no⟩
  · rw [zif_pos x0, zwp_some]
    exact hf x.2 (qFl_t rc g2 px)
  · have l2 : 0 ≤ (C2.length : Int) := by omega
    have f3 := qFt_put u x.2 (c + C.length + C2.length).toNat (zI K) (zI (c + C.length + C2.length + 1))
    have e3w : qpp w.toNat op1 w = w := qpp_o hw.1 (by rw [a14 w (Int.le_refl w)]; exact ho)
    rw [e3w] at p13
    rw [zif_neg (by rw [x1]; decide), zF_put_s (d + 8) (by omega) p5, zBs]
    have lw : c.toNat + C.length = (c + C.length).toNat := by omega
    have rw2 : c.toNat + (C ++ C2).length = (c + C.length + C2.length).toNat := by rw [List.length_append]; omega
    refine hs _ b' op' cm' (C ++ C2 ++ [K]) (R ++ qoR K :: R2) (fun vf nf => qjo K (v vf nf) (v2 vf nf)) (by omega) ⟨⟨qFt_t g2 (qFt_t p1 f3), fun i hi => ?_, ?_, qA_put p4 _ _ _, ?_, ?_⟩, ⟨by omega, ?_, ?_, ?_⟩, ?_, ?_, ?_, ?_, ?_, ?_⟩ no ?_
    · exact (qput_l x.2 u (zI K) (zI (c + C.length + C2.length + 1)) (by omega)).trans ((p2 i (by omega)).trans ((d45 i).trans (a2 i hi)))
    · exact (qput_1 x.2 u _ (zI K) (zI (c + C.length + C2.length + 1))).trans (p3.trans ((d7 1).trans a3))
    · rw [List.length_append, List.length_append, List.length_cons, List.length_nil, show c + ((C.length + C2.length + (0 + 1) : Nat) : Int) = c + C.length + C2.length + 1 by omega]
      exact qput_7 x.2 u _ (zI K) _
    · have p6' := p6
      rw [← lw] at p6'
      have q1 : qLs (x.2.1 45 u) c.toNat (C ++ C2) := qLs_a _ _ _ (qLs_f _ _ a6 (fun i i1 i2 => (p2 i (by omega)).trans (d45 i))) p6'
      refine qLs_a _ _ _ (qLs_f _ _ q1 (fun i i1 i2 => qput_l x.2 u (zI K) (zI (c + C.length + C2.length + 1)) (by omega))) ⟨?_, trivial⟩
      rw [rw2]
      exact qput_s x.2 u _ (zI K) (zI (c + C.length + C2.length + 1))
    · rw [List.length_append, List.length_append, List.length_cons, List.length_nil]
      omega
    · exact qWl_a _ _ (qWl_a _ _ a9 p9) ⟨by unfold qWc; omega, trivial⟩
    · refine qXl_a _ _ a10 ⟨?_, p10⟩
      unfold qXc qoR
      repeat' split
      all_goals omega
    · refine qP_j (qP_l a11 (by unfold qlf; split <;> omega)) p11 (by omega)
    · exact qoJ hr hw.1 (by omega) a12 p12
    · have e : R0 ++ R ++ [qoR K] ++ R2 = R0 ++ (R ++ qoR K :: R2) := by rw [List.append_assoc, List.append_assoc]; rfl
      rw [e] at p13
      rw [e2w]
      exact qrc_t tp n bt m rc p13
    · exact fun d hd => (p14 d hd).trans (a14 d hd)
    · exact fun d hd => (p15 d hd).trans ((c1 d hd).trans (a15 d hd))
    · exact fun h2 => (p16 (by omega)).trans ((c4 h2).trans (a16 (by unfold qlf; split <;> omega)))
    · exact fun h1 => by rw [p16 (by omega), c3 h1]; decide
/-- a loop over operations of one rank -/
theorem qoL (hB : qB tp n) (hNb : qNb tp n bt m) (d : Nat) {r : Int} (hr : r = 0 ∨ r = 2 ∨ r = 3) (hw : 0 ≤ w ∧ w ≤ 5) (hO : qOpOK tp n bt m u (d + 9) (r + 1) w) (hbn : 0 ≤ b ∧ b ≤ n) (hc : 0 ≤ c ∧ c ≤ b) (ho : w = 0 ∨ op w ≠ 1) (hcm : r ≤ 1 → cm w = 0) {S0 : ZS} (hC : qC tp n S0) (hNc : qNc tp n bt m u S0) :
    ∀ (f : Nat) (S1 : ZS) (b1 i : Int) (op1 cm1 : Int → Int) (C R : List Int) (v : QV), n - b1 ≤ f → 0 ≤ i → i < b1 → qSu tp n bt m u r w b c op cm R0 S0 S1 b1 op1 cm1 C R v → qNo tp n (r + 1) w b1 cm1 → zwp (zF_readOperations_47 (d + 9) u (zI r) (zI w) (1000 : Int32) (zI (qoA tp n r b1)) (zI i) S1) (qPo tp n bt m u r w b c op cm R0 S0) := by
  have bn := hB.1
  have m1 : (-1 : Int32) = zI (-1) := rfl
  have k1 : (1000 : Int32) = zI 1000 := rfl
  intro f
  induction f with
  | zero =>
    intro S1 b1 i op1 cm1 C R v hf i0 ib h hno
    have b1n := h.2.1.1
    have ko : qoA tp n r b1 = -1 := by
      have t := qtc_l (tp := tp) (n := n) (b := b1)
      have t70 : qtc tp n b1 = 70 := by
        by_cases q : qtc tp n b1 = 70
        · exact q
        · have := t q
          omega
      unfold qoA
      rw [t70]
      repeat' split
      all_goals omega
    have res : qPo tp n bt m u r w b c op cm R0 S0 ((1 : Int32), S1) := by
      refine Or.inr ⟨rfl, b1, op1, cm1, C, R, v, h, ?_⟩
      have t := qtc_l (tp := tp) (n := n) (b := b1)
      have t70 : qtc tp n b1 = 70 := by
        by_cases q : qtc tp n b1 = 70
        · exact q
        · have := t q
          omega
      exact ⟨fun _ => by omega, fun _ => by omega, fun _ => by omega, fun _ => by omega⟩
    rw [eF_readOperations_47, m1, ko, zif_pos (c := zI (-1) = zI (-1)) rfl]
    by_cases q : (1000 : Int32) ≤ zI i
    · rw [zif_pos q, zwp_some]
      exact res
    · rw [zif_neg q, zwp_some]
      exact res
  | succ f ih =>
    intro S1 b1 i op1 cm1 C R v hf i0 ib h hno
    have b1n := h.2.1.1
    have hC1 := qC_t hC h.1.1
    have kb : -1 ≤ qoA tp n r b1 ∧ qoA tp n r b1 ≤ 30007 := by
      unfold qoA
      repeat' split
      all_goals omega
    rw [eF_readOperations_47, m1, k1, zI_le (by omega) (by omega) (by omega) (by omega), zI_eq (by omega) (by omega) (by omega) (by omega), zI_n1, zI_add, zI_add, zif_neg (by omega)]
    by_cases q : qoA tp n r b1 = -1
    · rw [zif_pos q, zwp_some]
      refine Or.inr ⟨rfl, b1, op1, cm1, C, R, v, h, ?_⟩
      obtain ⟨o1, o2, o3, o4⟩ := hno
      unfold qoA at q
      refine ⟨fun e => ?_, fun e => ?_, fun e => o3 (by omega), fun e => ?_⟩
      · by_cases r3 : r = 3
        · rw [if_neg (by omega), if_neg (by omega), if_neg (by omega)] at q
          split at q
          · omega
          · assumption
        · exact o1 (by omega)
      · by_cases r2 : r = 2
        · rw [if_neg (by omega), if_neg (by omega), if_pos r2] at q
          split at q
          · omega
          · split at q
            · omega
            · omega
        · exact o2 (by omega)
      · rw [if_pos (by omega)] at q
        split at q
        · omega
        · split at q
          · omega
          · omega
    · rw [zif_neg q]
      have lf : qlf r = r := by unfold qlf; rw [if_neg (by omega)]
      refine qoS hB hNb d (by omega) hw hO hbn hc ho hcm hC hNc (by rw [lf]; exact h) hno q (fun e => by omega) (qPo tp n bt m u r w b c op cm R0 S0) (fun x k => Or.inl ⟨rfl, k⟩) _ (fun S3 b3 op3 cm3 C3 R3 v3 lt h3 no3 _ => ?_)
      have b3n := h3.2.1.1
      rw [cF_opAt hB (qC_t hC h3.1.1) (by omega) h3.1.2.2.2.1 (d + 7) (by omega), zBs]
      exact ih S3 b3 (i + 1) op3 cm3 C3 R3 v3 (by omega) (by omega) (by omega) h3 no3
theorem qOp_4 (d : Nat) (h : qPaOK tp n bt m u d w) : qOpOK tp n bt m u (d + 1) 4 w := by
  intro b c op cm R0 S hp
  rw [eF_readOperations, zI_n4, zif_neg (by rw [zI_lt (by omega) (by omega) (by omega) (by omega)]; omega)]
  exact qgb (h b c op cm R0 S hp) (fun r q => qPo_01 q)
theorem qSu_l {r : Int} (hr : 0 ≤ r ∧ r ≤ 3) (hw : 0 ≤ w) {S0 S1 : ZS} {b1 : Int} {op1 cm1 : Int → Int} {C R : List Int} {v : QV} (h : qSu tp n bt m u (r + 1) w b c op cm R0 S0 S1 b1 op1 cm1 C R v) : qSu tp n bt m u r w b c op cm R0 S0 S1 b1 op1 cm1 C R v := by
  obtain ⟨a, b, p, q, e, f, g, k⟩ := h
  exact ⟨a, b, qP_l p (by omega), qRr_l hr hw q, e, f, g, fun e => k (by omega)⟩
theorem qOp_r (hB : qB tp n) (hNb : qNb tp n bt m) (d : Nat) {r : Int} (hr : 0 ≤ r ∧ r ≤ 3) (hw : 0 ≤ w ∧ w ≤ 5) (hO : qOpOK tp n bt m u (d + 9) (r + 1) w) : qOpOK tp n bt m u (d + 10) r w := by
  intro b c op cm R0 S hp
  obtain ⟨hC, hA, hNc, hb, h7, hc, ho, hcm⟩ := hp
  have ho := ho (by omega)
  have m1 : (-1 : Int32) = zI (-1) := rfl
  have k1 : (1000 : Int32) = zI 1000 := rfl
  obtain ⟨x, ex, px⟩ := hO b c op cm R0 S ⟨hC, hA, hNc, hb, h7, hc, fun _ => ho, fun e => hcm (by omega)⟩
  rw [eF_readOperations, zI_n4, zI_lt (by omega) (by omega) (by omega) (by omega), zif_pos (by omega), zI_n1, zI_add, ex, zBs, zI_eq (by omega) (by omega) (by omega) (by omega)]
  rcases px with ⟨x0, px⟩ | ⟨x1, b1, op1, cm1, C, R, v, h, hno⟩
  · rw [zif_pos x0, zwp_some]
    exact Or.inl ⟨rfl, px⟩
  · have b1n := h.2.1.1
    have hb1 : 0 ≤ b1 ∧ b1 ≤ n := by omega
    rw [zif_neg (by rw [x1]; decide), cF_opAt hB (qC_t hC h.1.1) hb1 h.1.2.2.2.1 (d + 7) hr, zBs]
    dsimp only
    by_cases r1 : r = 1
    · have kb : -1 ≤ qoA tp n r b1 ∧ qoA tp n r b1 ≤ 30007 := by
        unfold qoA
        repeat' split
        all_goals omega
      rw [zif_pos r1, eF_readOperations_47, m1, zI_n1, zI_n0, zI_le (by omega) (by omega) (by omega) (by omega), zif_neg (by omega), zI_eq (by omega) (by omega) (by omega) (by omega), zI_add, zI_add]
      obtain ⟨o1, o2, o3, o4⟩ := id hno
      by_cases q : qoA tp n r b1 = -1
      · rw [zif_pos q, zwp_some]
        refine Or.inr ⟨rfl, b1, op1, cm1, C, R, v, qSu_l hr hw.1 h, fun e => o1 (by omega), fun e => o2 (by omega), fun _ e => ?_, fun e => by omega⟩
        unfold qoA at q
        rw [if_neg (by omega), if_pos r1] at q
        split at q
        · omega
        · split at q
          · omega
          · omega
      · have lf : qlf r = r + 1 := by unfold qlf; rw [if_pos r1]; omega
        have c1 : cm1 w = 0 := (h.2.2.2.2.2.2.2 (by omega)).trans (hcm (by omega))
        rw [zif_neg q]
        refine qoS hB hNb d hr hw hO hb hc ho hcm hC hNc (by rw [lf]; exact h) hno q (fun _ => c1) (qPo tp n bt m u r w b c op cm R0 S) (fun y k => Or.inl ⟨rfl, k⟩) _ (fun S3 b3 op3 cm3 C3 R3 v3 lt h3 no3 c3 => ?_)
        have b3n := h3.2.1.1
        rw [cF_opAt hB (qC_t hC h3.1.1) (by omega) h3.1.2.2.2.1 (d + 7) hr, zBs]
        dsimp only
        rw [eF_readOperations_47, zI_n1, zI_le (by omega) (by omega) (by omega) (by omega), zif_pos (by omega), zwp_some]
        obtain ⟨o1, o2, o3, o4⟩ := no3
        exact Or.inr ⟨rfl, b3, op3, cm3, C3, R3, v3, h3, fun e => o1 (by omega), fun e => o2 (by omega), fun _ _ => c3 r1, fun e => by omega⟩
    · rw [zif_neg r1, zI_n0]
      exact qoL hB hNb d (by omega) hw hO hb hc ho hcm hC hNc (n - b1).toNat x.2 b1 0 op1 cm1 C R v (by omega) (by omega) (by omega) (qSu_l hr hw.1 h) hno
/-- each rank, at each depth -/
theorem qOp_a (hB : qB tp n) (hNb : qNb tp n bt m) (d : Nat) (hw : 0 ≤ w ∧ w ≤ 5) (h : qPaOK tp n bt m u (d + 11) w) : qOpOK tp n bt m u (d + 16) 0 w := by
  have o4 := qOp_4 (d + 11) h
  have o3 := qOp_r hB hNb (d + 3) (r := 3) (by omega) hw o4
  have o2 := qOp_r hB hNb (d + 4) (r := 2) (by omega) hw o3
  have o1 := qOp_r hB hNb (d + 5) (r := 1) (by omega) hw o2
  exact qOp_r hB hNb (d + 6) (r := 0) (by omega) hw o1
theorem qPa_a (hB : qB tp n) (hNb : qNb tp n bt m) : ∀ (j : Nat) (w : Int) (d : Nat), w = 5 - j → 0 ≤ w → qPaOK tp n bt m u (d + 11 + 7 * j) w
  | 0, w, d, e, h0 => qPa_1 hB hNb d (by omega) (fun q => by omega) (fun q => by omega)
  | j + 1, w, d, e, h0 => by
    have ih := fun d => qPa_a hB hNb j (w + 1) d (by omega) (by omega)
    have p := qPa_1 (w := w) hB hNb (d + 7 * j + 7) (by omega) (fun _ => by
      have := ih (d + 5)
      rw [show d + 5 + 11 + 7 * j = d + 7 * j + 7 + 9 by omega] at this
      exact this) (fun _ => by
      have := qOp_a (w := w + 1) (u := u) hB hNb (d + 7 * j) (by omega) (by have := ih d; rw [show d + 11 + 7 * j = d + 7 * j + 11 by omega] at this; exact this)
      exact this)
    rw [show d + 7 * j + 7 + 11 = d + 11 + 7 * (j + 1) by omega] at p
    exact p
/-- a whole expression -/
theorem qOp_s (hB : qB tp n) (hNb : qNb tp n bt m) (d : Nat) : qOpOK tp n bt m u (d + 51) 0 0 := by
  have p := qPa_a (u := u) hB hNb 5 0 d (by omega) (by omega)
  rw [show d + 11 + 7 * 5 = d + 35 + 11 by omega] at p
  exact qOp_a hB hNb (d + 35) (by omega) p
end PG
