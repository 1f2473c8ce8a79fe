/-! THE TARIFF in force, of both sides -/
def qLz (f : Int → Int) : Int → List Int → Prop
  | _, [] => True
  | k, c :: C => f k = c ∧ qLz f (k + 1) C
def qTr (x : ZW) (st : QL) (rb : Int → Int) : Prop := x 42 0 = st.2.1 ∧ x 48 0 = st.2.2.1 st.2.1 ∧ (rb (-1) = 0 ∧ rb (st.2.1 - 1) ≤ 1000) ∧
  ∀ l, 0 ≤ l → l < st.2.1 → x 43 l = (st.2.2.2.2 l).1 ∧ ((st.2.2.2.2 l).1 = -1 → x 44 l = (st.2.2.2.2 l).2.1 ∧ x 45 l = (st.2.2.2.2 l).2.2.1) ∧ x 46 l = rb (l - 1) ∧ x 47 l = rb l ∧ (rb l = rb (l - 1) + (st.2.2.2.2 l).2.2.2.length ∧ 0 ≤ rb (l - 1) ∧ rb l ≤ rb (st.2.1 - 1)) ∧ qLz (x 49) (rb (l - 1)) (st.2.2.2.2 l).2.2.2
def qTk (K : ZS) (u : Nat) (st : QL) (Cf : Int → List Int) (vf : Int → QV) (cb : Int → Int) : Prop := qPJ st ∧ K.1 7 u 2 = zI st.2.1 ∧ K.1 7 u 8 = zI (st.2.2.1 st.2.1) ∧ qCw (fun _ => 0) 0 u st Cf vf cb K ∧ cb (st.2.1 - 1) ≤ 1000
def zTf (x : ZW) (K : ZS) : Prop := ∃ (u u' : Nat) (st : QL) (Cf : Int → List Int) (vf : Int → QV) (cb rb : Int → Int), (K.2.2.1 10 0 7 = some (7, u) ∧ K.2.2.1 10 0 8 = some (7, u') ∧ u ≠ u') ∧ qTk K u st Cf vf cb ∧ qTr x st rb
theorem zTf_l {x : ZW} {K : ZS} (h : zTf x K) : zTl x K := by
  obtain ⟨u, u', st, Cf, vf, cb, rb, ⟨h1, -, -⟩, ⟨-, h2, h3, -⟩, ⟨h4, h5, -⟩⟩ := h
  exact ⟨u, h1, by rw [h4]; exact h2, by rw [h5]; exact h3⟩
theorem zTf_x {x x' : ZW} {K : ZS} (h : zTf x K) (e : ∀ g, 42 ≤ g → g ≤ 49 → x' g = x g) : zTf x' K := by
  obtain ⟨u, u', st, Cf, vf, cb, rb, h1, h2, h3⟩ := h
  refine ⟨u, u', st, Cf, vf, cb, rb, h1, h2, ?_⟩
  unfold qTr at h3 ⊢
  rw [e 42 (by omega) (by omega), e 43 (by omega) (by omega), e 44 (by omega) (by omega), e 45 (by omega) (by omega), e 46 (by omega) (by omega), e 47 (by omega) (by omega), e 48 (by omega) (by omega), e 49 (by omega) (by omega)]
  exact h3
theorem qTk_K {K K' : ZS} {u : Nat} {st : QL} {Cf : Int → List Int} {vf : Int → QV} {cb : Int → Int} (h : qTk K u st Cf vf cb) (e : ∀ t, t = 7 ∨ (42 ≤ t ∧ t ≤ 45) → K'.1 t u = K.1 t u) : qTk K' u st Cf vf cb := by
  unfold qTk qCw at h ⊢
  rw [e 7 (by omega), e 42 (by omega), e 43 (by omega), e 44 (by omega), e 45 (by omega)]
  exact h
theorem zTf_K {x : ZW} {K K' : ZS} (h : zTf x K) (e : ∀ t, t = 7 ∨ (42 ≤ t ∧ t ≤ 45) → K'.1 t = K.1 t) (e2 : ∀ k, K'.2.2.1 10 0 k = K.2.2.1 10 0 k) : zTf x K' := by
  obtain ⟨u, u', st, Cf, vf, cb, rb, ⟨h1, h2, h3⟩, h4, h5⟩ := h
  exact ⟨u, u', st, Cf, vf, cb, rb, ⟨by rw [e2]; exact h1, by rw [e2]; exact h2, h3⟩, qTk_K h4 (fun t a => by rw [e t a]), h5⟩
theorem zTf_0 (L : Nat) (xs : Nat → Int32) (o : Option ZR) : zTf zx0 (zS0 L xs o) := by
  have e : ∃ u u' : Nat, ((zS0 L xs o).2.2.1 10 0 7 = some (7, u) ∧ (zS0 L xs o).2.2.1 10 0 8 = some (7, u') ∧ u ≠ u') ∧ (zS0 L xs o).1 7 u 2 = zI 0 ∧ (zS0 L xs o).1 7 u 8 = zI 0 := by
    first
      | exact ⟨0, 1, ⟨rfl, rfl, by decide⟩, rfl, rfl⟩
      | exact ⟨1, 0, ⟨rfl, rfl, by decide⟩, rfl, rfl⟩
  obtain ⟨u, u', h, c2, c8⟩ := e
  refine ⟨u, u', (0, 0, fun _ => 0, fun _ => 0, fun _ => (-1, 0, 0, [])), fun _ => [], fun _ _ _ => 0, fun _ => 0, fun _ => 0, h, ⟨⟨by show (0 : Int) ≤ 0 ∧ (0 : Int) ≤ 16; omega, rfl, fun l _ _ => by show (0 : Int) ≤ 0 ∧ (0 : Int) ≤ 6; omega, fun l a b => ?_⟩, c2, c8, ⟨rfl, fun l a b => ?_⟩, ?_⟩, rfl, rfl, ⟨rfl, ?_⟩, fun l a b => ?_⟩
  · have b : l < 0 := b
    omega
  · have b : l < 0 := b
    omega
  · show (0 : Int) ≤ 1000
    omega
  · show (0 : Int) ≤ 1000
    omega
  · have b : l < 0 := b
    omega
/-! UNITS, as the end of a call asks for them -/
theorem qLs_z {f : Int → Int} {m : Nat → Int32} : ∀ (R : List Int) (k : Nat), qLz f k R → (∀ i : Nat, k ≤ i → i < k + R.length → m i = zI (f i)) → qLs m k R
  | [], _, _, _ => trivial
  | c :: R, k, h, e => ⟨by rw [e k (Nat.le_refl k) (by rw [List.length_cons]; omega), h.1], qLs_z R (k + 1) (by
    have := h.2
    rw [show ((k : Nat) : Int) + 1 = ((k + 1 : Nat) : Int) by omega] at this
    exact this) (fun i a b => e i (by omega) (by rw [List.length_cons]; omega))⟩
theorem zR_47 {K : ZS} {x y : ZW} {S S' : ZS} (h : zR K x y S) (f : qF47 S S') : zR K x y S' := by
  obtain ⟨h1, h2, h3, h4, h5, h6, h7⟩ := h
  have tg : ∀ p ∈ zTab, p.2.2.1 ≠ 47 ∧ p.2.2.1 ≠ 48 ∧ p.2.2.1 ≠ 49 := by decide +kernel
  have tk : ∀ t, zkt t = true → t ≠ 47 ∧ t ≠ 48 ∧ t ≠ 49 := fun t ht => ⟨fun e => by subst e; exact absurd ht (by decide), fun e => by subst e; exact absurd ht (by decide), fun e => by subst e; exact absurd ht (by decide)⟩
  have s2 := f.2
  refine ⟨fun p hp k a b => ?_, fun j a b => ?_, fun r n a b c e => ?_, ⟨fun t ht i k => ?_, ?_, ?_, ?_⟩, ?_, h6, h7⟩
  · have q := tg p hp
    rw [f.1 _ q.1 q.2.1 q.2.2]
    exact h1 p hp k a b
  · have q := h2 j a b
    unfold zLC zLA zLQ at q ⊢
    rw [f.1 2 (by decide) (by decide) (by decide), f.1 29 (by decide) (by decide) (by decide), f.1 30 (by decide) (by decide) (by decide), s2]
    exact q
  · rw [f.1 21 (by decide) (by decide) (by decide)]
    exact h3 r n a b c e
  · have q := tk t ht
    rw [f.1 _ q.1 q.2.1 q.2.2]
    exact h4.1 t ht i k
  · rw [s2]
    exact h4.2.1
  · rw [s2]
    exact h4.2.2.1
  · rw [s2]
    exact h4.2.2.2
  · rw [s2]
    exact h5
theorem zR_1x {K : ZS} {x y : ZW} {S S' : ZS} (h : zR K x y S) (f : qF1x S S') : zR K x y S' := by
  obtain ⟨h1, h2, h3, h4, h5, h6, h7⟩ := h
  have tg : ∀ p ∈ zTab, ¬ (101 ≤ p.2.2.1 ∧ p.2.2.1 ≤ 111) := by decide +kernel
  have tk : ∀ t, zkt t = true → ¬ (101 ≤ t ∧ t ≤ 111) := fun t ht e => by
    have : t = 101 ∨ t = 102 ∨ t = 103 ∨ t = 104 ∨ t = 105 ∨ t = 106 ∨ t = 107 ∨ t = 108 ∨ t = 109 ∨ t = 110 ∨ t = 111 := by omega
    rcases this with rfl | rfl | rfl | rfl | rfl | rfl | rfl | rfl | rfl | rfl | rfl <;> exact absurd ht (by decide)
  have s2 := f.2
  refine ⟨fun p hp k a b => ?_, fun j a b => ?_, fun r n a b c e => ?_, ⟨fun t ht i k => ?_, ?_, ?_, ?_⟩, ?_, h6, h7⟩
  · rw [f.1 _ (tg p hp)]
    exact h1 p hp k a b
  · have q := h2 j a b
    unfold zLC zLA zLQ at q ⊢
    rw [f.1 2 (by decide), f.1 29 (by decide), f.1 30 (by decide), s2]
    exact q
  · rw [f.1 21 (by decide)]
    exact h3 r n a b c e
  · rw [f.1 _ (tk t ht)]
    exact h4.1 t ht i k
  · rw [s2]
    exact h4.2.1
  · rw [s2]
    exact h4.2.2.1
  · rw [s2]
    exact h4.2.2.2
  · rw [s2]
    exact h5
theorem qMc_R {K : ZS} {x y : ZW} {S : ZS} (h : zR K x y S) {u : Nat} {st : QL} {Cf : Int → List Int} {vf : Int → QV} {cb rb : Int → Int} (hk : qTk K u st Cf vf cb) (hr : qTr y st rb) : qMc st vf rb S := by
  obtain ⟨r1, r2, r3, r4⟩ := hr
  obtain ⟨J, -, -, W, -⟩ := hk
  have hL := J.1
  refine ⟨?_, r3, fun l a b => ?_⟩
  · rw [← r1]
    exact zRm42 h (k := 0) (by omega) (by omega)
  · obtain ⟨q1, q2, q3, q4, q5, q6⟩ := r4 l a b
    obtain ⟨-, -, -, w1, w2, w3, w4⟩ := W.2 l a b
    have c := fun g t (hp : (false, g, t, 0, 32) ∈ zTab) => (congrArg (S.1 t 0) (Nat.zero_add l.toNat).symm).trans (h.1 (false, g, t, 0, 32) hp l a (show l < ((32 : Nat) : Int) by omega))
    refine ⟨?_, fun e => ⟨?_, ?_⟩, ?_, ?_, q5, ?_, w2, w4⟩
    · rw [← q1]
      exact c 43 91 (by decide)
    · rw [← (q2 e).1]
      exact c 44 92 (by decide)
    · rw [← (q2 e).2]
      exact c 45 93 (by decide)
    · rw [← q3]
      exact c 46 94 (by decide)
    · rw [← q4]
      exact c 47 95 (by decide)
    · refine qLs_z (f := y 49) _ _ (by rw [show (((rb (l - 1)).toNat : Nat) : Int) = rb (l - 1) by omega]; exact q6) (fun i i1 i2 => ?_)
      have lR : 0 ≤ ((st.2.2.2.2 l).2.2.2.length : Int) := by omega
      have := zRm49 h (k := (i : Int)) (by omega) (by omega)
      rw [show ((i : Int)).toNat = i by omega] at this
      exact this
theorem zTf_units {x : ZW} {K : ZS} (h : zTf x K) (g : zGd x) {l : Int} (hl : zLn x l) (hc : x 15 l = 1) (h6 : x 16 l = 6) : ∃ U : Int, (-2147483648 ≤ U ∧ U < 2147483648) ∧
    (∀ (d : Nat) (y : ZW) (S : ZS), zR K x y S → zwp (zci (zcall (d + 4)) 82 [zo (S.2.2.1 10 0 7), zi (zI (x 21 l)), zi (zI (x 1 0)), zi (zI (sZof x (sHead x l))), zi (zI l)] S) (fun r => r.1 = zI U ∧ zR K x y r.2)) ∧
    (∀ (d : Nat) (z : ZW) (S : ZS), zR K z x S → zwp (zM_unitsOf (d + 4) (zI l) S) (fun r => r.1 = zI U ∧ zR K z x r.2)) := by
  obtain ⟨u, u', st, Cf, vf, cb, rb, ⟨r7, r8, -⟩, hk, hr⟩ := h
  obtain ⟨c22, cp, c17, -, c21⟩ := zCl_e g hl hc
  have c21 := c21 h6
  have b1 := zG1 g.1
  have b11 := zG11 g.1
  have ph := cp (x 22 l - 1) (by omega) (by omega)
  have bh : 0 ≤ sHead x l ∧ sHead x l < 116 := by
    rw [show 120 * l + (x 22 l - 1) = 120 * l + x 22 l - 1 by omega] at ph
    exact ph
  generalize hv : qun st vf (sZof x (sHead x l)) (x 21 l) (x 1 0) l (x 1 0 - x 21 l).toNat (x 21 l) 0 = v
  have ev : v = zI v.toInt := (Int32.ofInt_toInt v).symm
  refine ⟨v.toInt, ⟨Int32.le_toInt v, Int32.toInt_lt v⟩, fun d y S hS => ?_, fun d z S hS => ?_⟩
  · have r : S.2.2.1 10 0 7 = some (7, u) := (hS.2.2.2.1.2.2.1 0 7).trans r7
    have hW : qCw (fun _ => 0) 0 u st Cf vf cb S := by
      have q := hk.2.2.2.1
      have k := hS.2.2.2.1.1
      unfold qCw at q ⊢
      have e42 : S.1 42 u = K.1 42 u := funext (fun i => k 42 rfl u i)
      have e43 : S.1 43 u = K.1 43 u := funext (fun i => k 43 rfl u i)
      have e44 : S.1 44 u = K.1 44 u := funext (fun i => k 44 rfl u i)
      have e45 : S.1 45 u = K.1 45 u := funext (fun i => k 45 rfl u i)
      rw [e42, e43, e44, e45]
      exact q
    have h2 : S.1 7 u 2 = zI st.2.1 := (hS.2.2.2.1.1 7 rfl u 2).trans hk.2.1
    have q := zF_unitsOf_s (z := sZof x (sHead x l)) (ln := l) hk.1 hk.2.2.2.2 d (t0 := x 21 l) (t1 := x 1 0) (by omega) hW h2
    rw [r]
    show zwp (zF_unitsOf (d + 4) u (zI (x 21 l)) (zI (x 1 0)) (zI (sZof x (sHead x l))) (zI l) S) _
    rw [hv] at q
    exact zwp_mono q (fun r w => ⟨w.1.trans ev, zR_47 hS w.2⟩)
  · have eh := zM_head_s hS (d + 2) (l := l) (by omega) (by omega)
    have q := zM_unitsOf_16_s (z := sZof x (sHead x l)) (ln := l) (h := sHead x l) (t0 := x 21 l) (t1 := x 1 0) hk.1 d (by omega) (by omega) bh (x 1 0 - x 21 l).toNat (x 21 l) 0 S (by omega) (by omega) (by omega) (qMc_R hS hk hr) (zRm1 hS) (zRm21 hS (by omega) (by omega)) (fun e => by unfold sZof; rw [if_neg (by omega)]) (fun e => by
      have := zRm7 hS (k := sHead x l - 100) (by omega) (by omega)
      unfold sZof
      rw [if_pos e]
      exact this)
    rw [hv] at q
    rw [eM_unitsOf, eh, zBs]
    dsimp only
    rw [zg_t (by rw [zI_in (by omega) (by omega)]; omega), zI_zx (by omega) (by omega), zRm21 hS (by omega) (by omega)]
    exact zwp_mono q (fun r w => ⟨w.1.trans ev, zR_1x hS w.2⟩)
