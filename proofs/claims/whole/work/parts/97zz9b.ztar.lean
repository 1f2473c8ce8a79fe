/-! TARIFF of the class -/
def qS0 (tp : Int → Int) (n : Int) : QL := (zsk tp n.toNat 0, 0, fun _ => 0, fun _ => 0, fun _ => (-1, 0, 0, []))
theorem qS0_I {tp : Int → Int} {n : Int} (hB : qB tp n) : qPI tp n (qS0 tp n) := by
  have b := zsk_b tp n.toNat 0
  have bn := hB.1
  refine ⟨?_, ?_, rfl, fun l _ _ => ?_, ⟨?_, fun i a c => ?_⟩, fun l a c => ?_⟩
  · show 0 ≤ zsk tp n.toNat 0 ∧ zsk tp n.toNat 0 ≤ n
    omega
  · show (0 : Int) ≤ 0 ∧ (0 : Int) ≤ 16
    omega
  · show (0 : Int) ≤ 0 ∧ (0 : Int) ≤ 6
    omega
  · show (0 : Int) ≤ 0 ∧ (0 : Int) ≤ 6
    omega
  · have c : i < 0 := c
    omega
  · have c : l < 0 := c
    omega
/-- what the class leaves alone as it reads a tariff; the tape is empty then -/
def qFx (u : Nat) (S S' : ZS) : Prop := (∀ t i k, t ≠ 6 → ¬ (i = u ∧ (t = 7 ∨ (42 ≤ t ∧ t ≤ 45))) → S'.1 t i k = S.1 t i k) ∧ S'.1 6 0 1 = 0 ∧ (∀ t i k, ¬ (t = 46 ∧ i = u) → S'.2.1 t i k = S.2.1 t i k) ∧ (∀ t, t ≠ 6 → t ≠ 10 → S'.2.2.1 t = S.2.2.1 t) ∧ S'.2.2.2 = S.2.2.2
/-- the tariff's outcome -/
def qOf (tp : Int → Int) (n f : Int) : Prop := ∃ k st, qlr tp n k (qS0 tp n) st ∧ qtc tp n st.1 ≠ 70 ∧ qLF tp n st f
def qOk (tp : Int → Int) (n : Int) (st : QL) : Prop := ∃ k, qlr tp n k (qS0 tp n) st ∧ qtc tp n st.1 = 70
theorem zX_tariff_s {tp : Int → Int} {n : Int} (hB : qB tp n) {S : ZS} (hC : qC tp n S) {u u' : Nat} (r7 : S.2.2.1 10 0 7 = some (7, u)) (r8 : S.2.2.1 10 0 8 = some (7, u')) (d : Nat) :
    zwp (zX_tariff (d + 55) S) (fun r => qFx u' S r.2 ∧ ((∃ f, r.1 = zI f ∧ (1 ≤ f ∧ f ≤ 5 + 16 * n) ∧ qOf tp n f ∧ r.2.2.2.1 10 = S.2.2.1 10) ∨
      (r.1 = 0 ∧ ∃ st Cf vf cb, qOk tp n st ∧ qPI tp n st ∧ qCw tp n u' st Cf vf cb r.2 ∧ cb (st.2.1 - 1) ≤ 1000 ∧ r.2.1 7 u' 2 = zI st.2.1 ∧ r.2.1 7 u' 8 = zI (st.2.2.1 st.2.1) ∧ r.2.2.2.1 10 0 7 = some (7, u') ∧ r.2.2.2.1 10 0 8 = some (7, u)))) := by
  have bn := hB.1
  have bk := zsk_b tp n.toNat 0
  -- the start
  have f0 := qFu_u (qFu_u (qFu_u (qFu_u (qFu_r u' S) (t := 7) (Or.inl rfl) 1 0) (t := 7) (Or.inl rfl) 2 0) (t := 7) (Or.inl rfl) 8 0) (t := 7) (Or.inl rfl) 7 0
  generalize hS0 : ((zu (zu (zu (zu S.1 7 u' 1 (0 : Int32)) 7 u' 2 (0 : Int32)) 7 u' 8 (0 : Int32)) 7 u' 7 (0 : Int32)), S.2) = S0 at f0
  have c1 : S0.1 7 u' 1 = 0 := by
    rw [← hS0]
    exact (zu_pl _ (by decide)).trans ((zu_pl _ (by decide)).trans ((zu_pl _ (by decide)).trans (zu_same S.1 7 u' 1 _)))
  have c2 : S0.1 7 u' 2 = 0 := by
    rw [← hS0]
    exact (zu_pl _ (by decide)).trans ((zu_pl _ (by decide)).trans (zu_same _ 7 u' 2 _))
  have c8 : S0.1 7 u' 8 = 0 := by
    rw [← hS0]
    exact (zu_pl _ (by decide)).trans (zu_same _ 7 u' 8 _)
  have c7 : S0.1 7 u' 7 = 0 := by
    rw [← hS0]
    exact zu_same _ 7 u' 7 _
  obtain ⟨S1, e1, hA1, f1⟩ := zT_rewind_s hB (qC_u hC f0) (d + 45)
  have e1 : zT_rewind (d + 53) S0 = some S1 := e1
  have g1 : qFu u' S S1 := qFu_t f0 (qFu_6 f1)
  have d7 : ∀ k, S1.1 7 u' k = S0.1 7 u' k := fun k => congrFun (congrFun (f1.1 7 (by decide)) u') k
  have At : qAt tp n u' (qS0 tp n) ((fun _ => (0 : Int)) ((qS0 tp n).2.1 - 1)) S1 := by
    refine ⟨qC_u hC g1, hA1, ⟨(d7 8).trans c8, fun i a c => ?_⟩, (d7 2).trans c2, (d7 7).trans c7, ?_⟩
    · have c : i < 0 := c
      omega
    · show (0 : Int) ≤ 0 ∧ (0 : Int) ≤ zsk tp n.toNat 0
      omega
  have Cw : qCw tp n u' (qS0 tp n) (fun _ => []) (fun _ _ _ => 0) (fun _ => 0) S1 := ⟨rfl, fun l a c => by
    have c : l < 0 := c
    omega⟩
  obtain ⟨x, ex, fx, px⟩ := cTape (u := u') hB d 16 0 (qS0 tp n) _ _ _ S1 rfl rfl (qS0_I hB) At Cw ((d7 1).trans c1) g1
  have ex : zF_readTape_31 (d + 53) u' (1 : Int32) (0 : Int32) S1 = some x := ex
  have er : zci (zcall (d + 54)) 68 [zo (S.2.2.1 10 0 8)] S = some x := by
    rw [r8]
    show zF_readTape (d + 54) u' S = some x
    rw [eF_readTape, hS0, e1, zBs, ex]
  have x10 : x.2.2.2.1 10 = S.2.2.1 10 := fx.2.2.2.1 10 (by decide)
  rw [eX_tariff, er, zBs]
  rcases px with ⟨f, f1, f2, k, st, k1, k2, k3⟩ | ⟨x0, k, st, Cf, vf, cb, k1, k2, k3, k4, k5⟩
  · have e0 : (x.1 = 0) = (f = 0) := by
      rw [f1]
      exact zI_eq (a := f) (b := 0) (by omega) (by omega) (by omega) (by omega)
    rw [e0, zif_neg (by omega), zwp_some]
    refine ⟨⟨fun t i k a c => ?_, rfl, fx.2.2.1, fun t a _ => fx.2.2.2.1 t a, fx.2.2.2.2⟩, Or.inl ⟨f, f1, f2, ⟨k, st, k1, k2, k3⟩, x10⟩⟩
    exact (zu_tag x.2.1 a).trans (fx.1 t i k a c)
  · obtain ⟨-, -, q1, q2, -, q3⟩ := k4
    have hb := k3.1
    rw [zif_pos x0, zwp_some]
    refine ⟨⟨fun t i k a c => (zu_tag x.2.1 a).trans (fx.1 t i k a c), rfl, fx.2.2.1, fun t a c => ?_, fx.2.2.2.2⟩, Or.inr ⟨x0, st, Cf, vf, cb, ⟨k, k1, k2⟩, k3, k5, by omega, q2, q1.1, ?_, ?_⟩⟩
    · refine Eq.trans ?_ (fx.2.2.2.1 t a)
      funext i k'
      exact (zu_tag _ c).trans (zu_tag x.2.2.2.1 c)
    · have : x.2.2.2.1 10 0 8 = some (7, u') := (congrFun (congrFun x10 0) 8).trans r8
      exact (zu_same (zu x.2.2.2.1 10 0 8 (x.2.2.2.1 10 0 7)) 10 0 7 _).trans this
    · have : x.2.2.2.1 10 0 7 = some (7, u) := (congrFun (congrFun x10 0) 7).trans r7
      exact (zu_same x.2.2.2.1 10 0 8 (x.2.2.2.1 10 0 7)).trans this
/-- the relation after it -/
theorem zR_tc {K : ZS} {x y : ZW} {S S' : ZS} {u : Nat} (h : zR K x y S) (f : qFx u S S') : zR S' (xu x 33 0 0) y S' := by
  obtain ⟨h1, h2, h3, h4, h5, h6, h7⟩ := h
  have tg : ∀ p ∈ zTab, (p.2.2.1 ≠ 6 ∧ p.2.2.1 ≠ 7 ∧ ¬ (42 ≤ p.2.2.1 ∧ p.2.2.1 ≤ 45) ∧ (p.1 = true → p.2.1 ≠ 33)) ∨ p = (true, 33, 6, 1, 1) := by decide +kernel
  have z33 : ∀ g, g ≠ 33 → xu x 33 0 0 g = x g := fun g hg => by
    funext k
    exact xu_g x hg
  have z11 : xu x 33 0 0 11 = x 11 := z33 11 (by decide)
  refine ⟨fun p hp k k0 k1 => ?_, fun j a c => ?_, fun r n' a b c e => ?_, ⟨fun _ _ _ _ => rfl, fun _ _ _ _ => rfl, fun _ _ => rfl, rfl⟩, ?_, zBd_u h6 33 0 (by omega) (by omega), h7⟩
  · rcases tg p hp with ⟨a, b, c, e⟩ | q
    · rw [f.1 _ _ _ a (fun z => by omega), h1 p hp k k0 k1]
      obtain ⟨s, g, t, o, l⟩ := p
      cases s
      · rfl
      · exact congrArg zI (congrFun (z33 g (e rfl)) k).symm
    · rw [q] at k1 ⊢
      have k1 : k < ((1 : Nat) : Int) := k1
      have ke : k = 0 := by omega
      rw [ke]
      refine f.2.1.trans ?_
      show (0 : Int32) = zI (xu x 33 0 0 33 0)
      rw [xu_s]
      rfl
  · rw [z11] at c
    have q := h2 j a c
    have e2 : ∀ i k, S'.1 2 i k = S.1 2 i k := fun i k => f.1 2 i k (by decide) (fun z => by omega)
    have e29 : ∀ i k, S'.1 29 i k = S.1 29 i k := fun i k => f.1 29 i k (by decide) (fun z => by omega)
    have e30 : ∀ i k, S'.1 30 i k = S.1 30 i k := fun i k => f.1 30 i k (by decide) (fun z => by omega)
    have e20 : S'.2.2.1 20 = S.2.2.1 20 := f.2.2.2.1 20 (by decide) (by decide)
    unfold zLC zLA zLQ at q ⊢
    simp only [e2, e29, e30, e20, z33 12 (by decide), z33 15 (by decide), z33 16 (by decide), z33 17 (by decide), z33 18 (by decide), z33 19 (by decide), z33 20 (by decide), z33 21 (by decide), z33 22 (by decide), z33 23 (by decide), z33 50 (by decide)]
    exact q
  · rw [zlineOf_g (by decide), f.1 21 _ _ (by decide) (fun z => by omega)]
    exact h3 r n' a b c e
  · rw [z11, f.2.2.2.2]
    exact h5
