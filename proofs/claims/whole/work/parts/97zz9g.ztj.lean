/-! TARIFF, of both sides at once -/
def qgh (S : ZS) (y : ZW) : ZW := fun g k => if g = 33 then (if k = 0 then 0 else y 33 k) else if g = 42 then (S.1 90 0 k.toNat).toInt else if g = 43 then (S.1 91 0 k.toNat).toInt else if g = 44 then (S.1 92 0 k.toNat).toInt else if g = 45 then (S.1 93 0 k.toNat).toInt else if g = 46 then (S.1 94 0 k.toNat).toInt else if g = 47 then (S.1 95 0 k.toNat).toInt else if g = 48 then (S.1 96 0 k.toNat).toInt else if g = 49 then (S.1 98 0 k.toNat).toInt else y g k
theorem qgh_n (S : ZS) (y : ZW) {g : Nat} (h : g ≠ 33) (h' : ¬ (42 ≤ g ∧ g ≤ 49)) : qgh S y g = y g := by
  funext k
  unfold qgh
  rw [if_neg h, if_neg (by omega), if_neg (by omega), if_neg (by omega), if_neg (by omega), if_neg (by omega), if_neg (by omega), if_neg (by omega), if_neg (by omega)]
theorem qgh_33 (S : ZS) (y : ZW) : qgh S y 33 = xu y 33 0 0 33 := by
  funext k
  by_cases q : k = 0
  · rw [q, xu_s]
    rfl
  · rw [xu_k _ q]
    exact if_neg q
theorem qgh_B (S : ZS) {y : ZW} (h : zBd y) : zBd (qgh S y) := by
  intro g k
  have b := h g k
  have b' := h 33 k
  have t : ∀ v : Int32, -2147483648 ≤ v.toInt ∧ v.toInt < 2147483648 := fun v => ⟨Int32.le_toInt v, Int32.toInt_lt v⟩
  unfold qgh
  repeat' split
  all_goals first | exact t _ | exact b | exact b' | omega
theorem zI_ti (a : Int32) : zI a.toInt = a := Int32.ofInt_toInt a
theorem zR_tm {K : ZS} {x y : ZW} {S S' : ZS} (h : zR K x y S) (f : qFz S S') : zR S' x (qgh S' y) S' := by
  obtain ⟨h1, h2, h3, h4, h5, h6, h7⟩ := h
  have tg1 : ∀ p ∈ zTab, (p.2.2.1 ≠ 11 ∧ ¬ (90 ≤ p.2.2.1 ∧ p.2.2.1 ≤ 100) ∧ (p.1 = false → p.2.1 ≠ 33 ∧ ¬ (42 ≤ p.2.1 ∧ p.2.1 ≤ 49))) ∨ p.2.2.1 = 11 ∨ (90 ≤ p.2.2.1 ∧ p.2.2.1 ≤ 100) := by decide +kernel
  have tg2 : ∀ p ∈ zTab, p.2.2.1 = 11 → p.2.2.2.2 = 1 ∧ p.1 = false ∧ ((p.2.1 = 33 ∧ p.2.2.2.1 = 36) ∨ (p.2.1 ≠ 33 ∧ ¬ (42 ≤ p.2.1 ∧ p.2.1 ≤ 49) ∧ ((1 ≤ p.2.2.2.1 ∧ p.2.2.2.1 ≤ 35) ∨ 55 ≤ p.2.2.2.1))) := by decide +kernel
  have tg3 : ∀ p ∈ zTab, 90 ≤ p.2.2.1 ∧ p.2.2.1 ≤ 100 → p.1 = false ∧ p.2.2.2.1 = 0 ∧ (42 ≤ p.2.1 ∧ p.2.1 ≤ 49) ∧ p.2.2.1 = (if p.2.1 = 49 then 98 else p.2.1 + 48) := by decide +kernel
  have s2 := f.2.2.2.1
  refine ⟨fun p hp k k0 k1 => ?_, fun j a c => ?_, fun r n' a b c e => ?_, ⟨fun _ _ _ _ => rfl, fun _ _ _ _ => rfl, fun _ _ => rfl, rfl⟩, ?_, h6, qgh_B S' h7⟩
  · have q0 := h1 p hp k k0 k1
    rcases tg1 p hp with ⟨a, b, c⟩ | a | a
    · rw [f.1 _ a b, q0]
      obtain ⟨s, g, t, o, l⟩ := p
      cases s
      · have := c rfl
        exact congrArg zI (congrFun (qgh_n S' y this.1 this.2) k).symm
      · rfl
    · obtain ⟨b, c, e⟩ := tg2 p hp a
      obtain ⟨s, g, t, o, l⟩ := p
      dsimp only at a b c e k1 q0 ⊢
      subst c
      subst a
      subst b
      have ke : k = 0 := by omega
      subst ke
      rcases e with ⟨e1, e2⟩ | ⟨e1, e2, e3⟩
      · subst e1
        subst e2
        exact f.2.2.2.2.1
      · refine (f.2.1 o (by omega) (by omega) (by omega) (by omega) (by omega) (by omega) (by omega) (by omega) (by omega)).trans (q0.trans ?_)
        exact congrArg zI (congrFun (qgh_n S' y e1 e2) 0).symm
    · obtain ⟨b, c, ⟨e1, e2⟩, e⟩ := tg3 p hp a
      obtain ⟨s, g, t, o, l⟩ := p
      dsimp only at a b c e e1 e2 k1 q0 ⊢
      subst b
      subst c
      have : g = 42 ∨ g = 43 ∨ g = 44 ∨ g = 45 ∨ g = 46 ∨ g = 47 ∨ g = 48 ∨ g = 49 := by omega
      rw [Nat.zero_add]
      rcases this with rfl | rfl | rfl | rfl | rfl | rfl | rfl | rfl
      · have e : t = 90 := e
        subst e
        exact (zI_ti _).symm
      · have e : t = 91 := e
        subst e
        exact (zI_ti _).symm
      · have e : t = 92 := e
        subst e
        exact (zI_ti _).symm
      · have e : t = 93 := e
        subst e
        exact (zI_ti _).symm
      · have e : t = 94 := e
        subst e
        exact (zI_ti _).symm
      · have e : t = 95 := e
        subst e
        exact (zI_ti _).symm
      · have e : t = 96 := e
        subst e
        exact (zI_ti _).symm
      · have e : t = 98 := e
        subst e
        exact (zI_ti _).symm
  · have q := h2 j a c
    have e2 : S'.1 2 = S.1 2 := f.1 2 (by decide) (by decide)
    have e29 : S'.1 29 = S.1 29 := f.1 29 (by decide) (by decide)
    have e30 : S'.1 30 = S.1 30 := f.1 30 (by decide) (by decide)
    have e20 : S'.2.2.1 = S.2.2.1 := by rw [s2]
    unfold zLC zLA zLQ at q ⊢
    rw [e2, e29, e30, e20]
    exact q
  · rw [f.1 21 (by decide) (by decide)]
    exact h3 r n' a b c e
  · rw [s2]
    exact h5
/-- the class holds none of the fields of the tariff -/
theorem zR_xx {K : ZS} {x x' y : ZW} {S : ZS} (h : zR K x y S) (e : ∀ g, ¬ (42 ≤ g ∧ g ≤ 49) → x' g = x g) (hB : zBd x') : zR K x' y S := by
  obtain ⟨h1, h2, h3, h4, h5, h6, h7⟩ := h
  have tg : ∀ p ∈ zTab, p.1 = false ∨ ¬ (42 ≤ p.2.1 ∧ p.2.1 ≤ 49) := by decide +kernel
  have e11 := e 11 (by decide)
  refine ⟨fun p hp k k0 k1 => ?_, fun j a c => ?_, fun r n' a b c f => ?_, h4, by rw [e11]; exact h5, hB, h7⟩
  · have q0 := h1 p hp k k0 k1
    have q := tg p hp
    obtain ⟨s, g, t, o, l⟩ := p
    cases s
    · exact q0
    · refine q0.trans (congrArg zI ?_)
      rcases q with q | q
      · cases q
      · exact (congrFun (e g q) k).symm
  · rw [e11] at c
    have q := h2 j a c
    unfold zLC zLA zLQ at q ⊢
    rw [e 12 (by decide), e 15 (by decide), e 16 (by decide), e 17 (by decide), e 18 (by decide), e 19 (by decide), e 20 (by decide), e 21 (by decide), e 22 (by decide), e 23 (by decide), e 50 (by decide)]
    exact q
  · have ez : zlineOf x' r n' = zlineOf x r n' := by
      unfold zlineOf
      rw [e11, e 13 (by decide), e 14 (by decide)]
    rw [ez]
    exact h3 r n' a b c f
theorem qLz_c {m : Nat → Int32} {f : Int → Int} (hf : ∀ i : Nat, i < 2000 → f i = (m i).toInt) : ∀ (R : List Int) (k : Nat) (c : Int), c ≤ 6 → qXl c R → qLs m k R → k + R.length ≤ 2000 → qLz f k R
  | [], _, _, _, _, _, _ => trivial
  | c :: R, k, mm, hm, hx, h, hk => by
    rw [List.length_cons] at hk
    have hc := hx.1
    unfold qXc at hc
    refine ⟨?_, ?_⟩
    · rw [hf k (by omega), h.1, zI_toInt (by omega) (by omega)]
    · rw [show ((k : Nat) : Int) + 1 = ((k + 1 : Nat) : Int) by omega]
      exact qLz_c hf R (k + 1) mm hm hx.2 h.2 (by omega)
/-- the signs on the tape -/
def zTq (x : ZW) : Prop := (0 ≤ x 33 0 ∧ x 33 0 ≤ 1000) ∧ ∀ i, 0 ≤ i → i < x 33 0 → 0 ≤ x 34 i ∧ x 34 i ≤ 126
theorem zTar {x : ZW} {K S : ZS} (h : zR K x x S) (hT : zTf x K) (hQ : zTq x) (d : Nat) :
    zwp (zX_tariff (d + 55) S) (fun r => zwp (zM_tariff (d + 55) r.2) (fun r' => r'.1 = r.1 ∧ ∃ x' K', zR K' x' x' r'.2 ∧ zTf x' K' ∧ (∀ g, g ≠ 33 → ¬ (42 ≤ g ∧ g ≤ 49) → x' g = x g) ∧ x' 33 0 = 0 ∧ (∀ t, t = 16 ∨ t = 50 ∨ t = 51 → K'.1 t = K.1 t) ∧ K'.2.2.2.2 = K.2.2.2.2)) := by
  obtain ⟨u, u', st, Cf, vf, cb, rb, ⟨r7, r8, ru⟩, hk, hr⟩ := id hT
  have hB : qB (x 34) (x 33 0) := hQ
  have hC : qC (x 34) (x 33 0) S := ⟨zRc33 h, fun i a b => zRc34 h a (by have := hQ.1; omega)⟩
  have kc := h.2.2.2.1
  obtain ⟨r, e1, f1, p1⟩ := zX_tariff_s hB hC ((kc.2.2.1 0 7).trans r7) ((kc.2.2.1 0 8).trans r8) d
  refine ⟨r, e1, ?_⟩
  have R1 : zR r.2 (xu x 33 0 0) x r.2 := zR_tc h f1
  have t1 : ∀ i, 0 ≤ i → i < x 33 0 → r.2.1 89 0 i.toNat = zI (x 34 i) := fun i a b => zRm34 R1 a (by have := hQ.1; omega)
  obtain ⟨mf, mk⟩ := zM_tariff_s hB (zRm33 R1) t1 (d + 49)
  have hbd := R1.2.2.2.2.2.2
  have last : ∀ S2 : ZS, qFz r.2 S2 → zR S2 (qgh S2 x) (qgh S2 x) S2 ∧ (∀ g, g ≠ 33 → ¬ (42 ≤ g ∧ g ≤ 49) → qgh S2 x g = x g) ∧ qgh S2 x 33 0 = 0 ∧ (∀ t, t = 16 ∨ t = 50 ∨ t = 51 → S2.1 t = K.1 t) ∧ S2.2.2.2.2 = K.2.2.2.2 := by
    intro S2 f2
    refine ⟨zR_xx (zR_tm R1 f2) (fun g hg => ?_) (qgh_B S2 hbd), fun g a b => qgh_n S2 x a b, rfl, fun t ht => ?_, ?_⟩
    · by_cases q : g = 33
      · rw [q]
        exact qgh_33 S2 x
      · rw [qgh_n S2 x q hg]
        funext k
        exact (xu_g x q).symm
    · rw [f2.1 t (by omega) (by omega)]
      funext i k
      rw [f1.1 t i k (by omega) (fun e => by omega)]
      exact kc.1 t (by rcases ht with rfl | rfl | rfl <;> rfl) i k
    · rw [f2.2.2.2.1, f1.2.2.2.2]
      exact kc.2.2.2
  rcases p1 with ⟨f, q1, q2, q3, q4⟩ | ⟨q1, st', Cf', vf', cb', q2, q3, q4, q5, q6, q7, q8, q9⟩
  · -- a fault
    refine zwp_mono (mf f q3) (fun r' w => ?_)
    obtain ⟨w1, w2, w3⟩ := w
    obtain ⟨a1, a2, a3, a4, a5⟩ := last r'.2 w2
    refine ⟨w1.trans q1.symm, qgh r'.2 x, r'.2, a1, ?_, a2, a3, a4, a5⟩
    have l33 : ∀ t, t ≠ 11 → ¬ (90 ≤ t ∧ t ≤ 100) → r'.2.1 t = r.2.1 t := w2.1
    have kt : ∀ t, t = 7 ∨ (42 ≤ t ∧ t ≤ 45) → r'.2.1 t u = K.1 t u := fun t ht => by
      rw [w2.1 t (by omega) (by omega)]
      funext k
      rw [f1.1 t u k (by omega) (fun e => ru e.1)]
      refine kc.1 t ?_ u k
      have : t = 7 ∨ t = 42 ∨ t = 43 ∨ t = 44 ∨ t = 45 := by omega
      rcases this with rfl | rfl | rfl | rfl | rfl <;> rfl
    have k10 : ∀ k, r'.2.2.2.1 10 0 k = K.2.2.1 10 0 k := fun k => by
      rw [w2.2.2.2.1, q4]
      exact kc.2.2.1 0 k
    have ti : ∀ g k, (x g k) = (zI (x g k)).toInt := fun g k => (zI_toInt (hbd g k).1 (hbd g k).2).symm
    have c32 := fun g t (hp : (false, g, t, 0, 32) ∈ zTab) (l : Int) (l0 : 0 ≤ l) (l1 : l < 32) => (congrArg (r.2.1 t 0) (Nat.zero_add l.toNat).symm).trans (R1.1 (false, g, t, 0, 32) hp l l0 (show l < ((32 : Nat) : Int) by omega))
    have g42 : qgh r'.2 x 42 0 = x 42 0 := by
      show (r'.2.1 90 0 0).toInt = x 42 0
      rw [w3.2.2.1, ti 42 0]
      exact congrArg Int32.toInt (zRm42 R1 (k := 0) (by omega) (by omega))
    have g48 : qgh r'.2 x 48 0 = x 48 0 := by
      show (r'.2.1 96 0 0).toInt = x 48 0
      rw [w3.2.2.2, ti 48 0]
      exact congrArg Int32.toInt (zRm48 R1 (k := 0) (by omega) (by omega))
    have gl : ∀ l, 0 ≤ l → l < 16 → qgh r'.2 x 43 l = x 43 l ∧ qgh r'.2 x 44 l = x 44 l ∧ qgh r'.2 x 45 l = x 45 l ∧ qgh r'.2 x 46 l = x 46 l ∧ qgh r'.2 x 47 l = x 47 l := by
      intro l l0 l1
      refine ⟨?_, ?_, ?_, ?_, ?_⟩
      · show (r'.2.1 91 0 l.toNat).toInt = x 43 l
        rw [w3.1 91 (by omega) (by omega) _ (by omega), ti 43 l]
        exact congrArg Int32.toInt (c32 43 91 (by decide) l l0 (by omega))
      · show (r'.2.1 92 0 l.toNat).toInt = x 44 l
        rw [w3.1 92 (by omega) (by omega) _ (by omega), ti 44 l]
        exact congrArg Int32.toInt (c32 44 92 (by decide) l l0 (by omega))
      · show (r'.2.1 93 0 l.toNat).toInt = x 45 l
        rw [w3.1 93 (by omega) (by omega) _ (by omega), ti 45 l]
        exact congrArg Int32.toInt (c32 45 93 (by decide) l l0 (by omega))
      · show (r'.2.1 94 0 l.toNat).toInt = x 46 l
        rw [w3.1 94 (by omega) (by omega) _ (by omega), ti 46 l]
        exact congrArg Int32.toInt (c32 46 94 (by decide) l l0 (by omega))
      · show (r'.2.1 95 0 l.toNat).toInt = x 47 l
        rw [w3.1 95 (by omega) (by omega) _ (by omega), ti 47 l]
        exact congrArg Int32.toInt (c32 47 95 (by decide) l l0 (by omega))
    have g49 : ∀ i : Int, 0 ≤ i → i < 1000 → qgh r'.2 x 49 i = x 49 i := by
      intro i i0 i1
      show (r'.2.1 98 0 i.toNat).toInt = x 49 i
      rw [w3.2.1 i.toNat (by omega), ti 49 i]
      exact congrArg Int32.toInt (zRm49 R1 i0 (by omega))
    have lz : ∀ (R : List Int) (k : Int), 0 ≤ k → k + R.length ≤ 1000 → qLz (x 49) k R → qLz (qgh r'.2 x 49) k R := by
      intro R
      induction R with
      | nil => exact fun _ _ _ _ => trivial
      | cons c R ih =>
        intro k k0 k1 hz
        rw [List.length_cons] at k1
        exact ⟨(g49 k k0 (by omega)).trans hz.1, ih (k + 1) (by omega) (by omega) hz.2⟩
    obtain ⟨J1, J2, J3, J4⟩ := hr
    have hL := hk.1.1
    refine ⟨u, u', st, Cf, vf, cb, rb, ⟨(k10 7).trans r7, (k10 8).trans r8, ru⟩, qTk_K hk kt, g42.trans J1, g48.trans J2, J3, fun l l0 l1 => ?_⟩
    obtain ⟨b1, b2, b3, b4, b5, b6⟩ := J4 l l0 l1
    obtain ⟨c43, c44, c45, c46, c47⟩ := gl l l0 (by omega)
    rw [c43, c44, c45, c46, c47]
    exact ⟨b1, b2, b3, b4, b5, lz _ _ b5.2.1 (by omega) b6⟩
  · -- a tariff
    refine zwp_mono (mk st' q2) (fun r' w => ?_)
    obtain ⟨w1, w2, rb', w3, w4, w5, w6⟩ := w
    obtain ⟨a1, a2, a3, a4, a5⟩ := last r'.2 w2
    refine ⟨w1.trans q1.symm, qgh r'.2 x, r'.2, a1, ?_, a2, a3, a4, a5⟩
    have hJ := qPJ_I q3
    have hL := hJ.1
    have kt : ∀ t, t = 7 ∨ (42 ≤ t ∧ t ≤ 45) → r'.2.1 t u' = r.2.1 t u' := fun t ht => by rw [w2.1 t (by omega) (by omega)]
    have hk' : qTk r.2 u' st' Cf' vf' cb' := ⟨hJ, q6, q7, q4, q5⟩
    have k10 : ∀ k, r'.2.2.2.1 10 0 k = r.2.2.2.1 10 0 k := fun k => by rw [w2.2.2.2.1]
    have ti : ∀ v : Int, -2147483648 ≤ v → v < 2147483648 → (zI v).toInt = v := fun v a b => zI_toInt a b
    have mL := hJ.2.2.1 st'.2.1 hL.1 (Int.le_refl _)
    refine ⟨u', u, st', Cf', vf', cb', rb', ⟨(k10 7).trans q8, (k10 8).trans q9, fun e => ru e.symm⟩, qTk_K hk' kt, ?_, ?_, w5, fun l l0 l1 => ?_⟩
    · show (r'.2.1 90 0 0).toInt = st'.2.1
      rw [w3, ti _ (by omega) (by omega)]
    · show (r'.2.1 96 0 0).toInt = st'.2.2.1 st'.2.1
      rw [w4, ti _ (by omega) (by omega)]
    · obtain ⟨b1, b2, b3, b4, b5, b6⟩ := w6 l l0 l1
      have ml := hJ.2.2.1 l l0 (by omega)
      have j := hJ.2.2.2 l l0 l1
      have lR : 0 ≤ ((st'.2.2.2.2 l).2.2.2.length : Int) := by omega
      have hX := (q4.2 l l0 l1).2.2.2.2.1
      refine ⟨?_, fun e => ⟨?_, ?_⟩, ?_, ?_, b5, ?_⟩
      · show (r'.2.1 91 0 l.toNat).toInt = _
        rw [b1, ti _ (by omega) (by omega)]
      · show (r'.2.1 92 0 l.toNat).toInt = _
        rw [(b2 e).1, ti _ (by omega) (by omega)]
      · show (r'.2.1 93 0 l.toNat).toInt = _
        rw [(b2 e).2, ti _ (by omega) (by omega)]
      · show (r'.2.1 94 0 l.toNat).toInt = _
        rw [b3, ti _ (by omega) (by omega)]
      · show (r'.2.1 95 0 l.toNat).toInt = _
        rw [b4, ti _ (by omega) (by omega)]
      · have z := qLz_c (m := r'.2.1 98 0) (f := qgh r'.2 x 49) (fun i _ => rfl) _ _ _ ml.2 hX b6 (by omega)
        rw [show (((rb' (l - 1)).toNat : Nat) : Int) = rb' (l - 1) by omega] at z
        exact z
/-! what keeps the signs -/
theorem zTq_f {L : List Nat} {x z : ZW} (h : zTq x) (f : zFm L x z) (h33 : 33 ∉ L) (h34 : 34 ∉ L) : zTq z := by
  unfold zTq at h ⊢
  rw [f 33 h33, f 34 h34]
  exact h
theorem zTq_sign {x : ZW} (h : zTq x) (v : Int) : zTq (sSign x v) := by
  unfold sSign
  split
  · rename_i q
    refine ⟨by rw [xu_s]; have := h.1; omega, fun i a b => ?_⟩
    rw [xu_s] at b
    rw [xu_g _ (by decide), xu_kk]
    split
    · have := q.2
      omega
    · exact h.2 i a (by omega)
  · exact h
theorem zTq_8 (w : Int64) : ∀ (n : Nat) (x : ZW), zTq x → zTq (sF8 x w n)
  | 0, _, h => h
  | n + 1, x, h => zTq_8 w n _ (zTq_sign h _)
theorem zTq_feed {x : ZW} (h : zTq x) (a b c : Int64) : zTq (sFeed x a b c).2 := by
  have h1 := zTq_8 a 8 x h
  have h2 := zTq_8 b 8 _ h1
  have h3 := zTq_8 c 8 _ h2
  unfold sFeed
  dsimp only
  exact h3
theorem zTq_0 : zTq zx0 := ⟨by show (0 : Int) ≤ 0 ∧ (0 : Int) ≤ 1000; omega, fun i a b => by
  have b : i < 0 := b
  omega⟩
