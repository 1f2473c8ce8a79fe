/-! EXPLAIN, SURE of the reference, whole -/
/-- the least code of the smallest sets -/
def zLst (x : ZW) (n c : Int) : Prop := 0 ≤ c ∧ c < zcd n ∧ zXn x n c ∧ ∀ c' : Int, 0 ≤ c' → c' < c → ¬ zXn x n c'
/-- v is what explain answers to w -/
def zExp (x : ZW) (w v : Int) : Prop := (¬ (0 ≤ w ∧ w ≤ 3) ∧ v = -1) ∨ (0 ≤ w ∧ w ≤ 3 ∧ ∃ n, zFwd x n ∧ ((w = 0 ∧ v = n) ∨ (1 ≤ w ∧ n < w ∧ v = -1) ∨ (1 ≤ w ∧ w ≤ n ∧ ∃ c, zLst x n c ∧ v = zdg n (w - 1) c)))
/-- v is what sure answers to a -/
def zSur (x : ZW) (a v : Int) : Prop := (¬ zSw x a ∧ v = -1) ∨ (zSw x a ∧ ∃ n, zFwd x n ∧ ((n = -1 ∧ v = -1) ∨ (0 ≤ n ∧ v = sI (∀ c : Int, 0 ≤ c → c < zcd n → zXn x n c → zHx n c a) 1 0)))
theorem zFwd_u {x : ZW} {n m : Int} (h : zFwd x n) (h' : zFwd x m) : n = m := by
  rcases h with ⟨h1, h2⟩ | ⟨h1, h2, h3, c, c0, c1, c2⟩
  · rcases h' with ⟨k1, k2⟩ | ⟨k1, k2, k3, c, c0, c1, c2⟩
    · omega
    · exact absurd c2 (h2 m k1 k2 c c0 c1)
  · rcases h' with ⟨k1, k2⟩ | ⟨k1, k2, k3, e, e0, e1, e2⟩
    · exact absurd c2 (k2 n h1 h2 c c0 c1)
    · by_cases q : n < m
      · exact absurd c2 (k3 n h1 q c c0 c1)
      · by_cases q' : m < n
        · exact absurd e2 (h3 m k1 q' e e0 e1)
        · omega
theorem zLst_u {x : ZW} {n c e : Int} (h : zLst x n c) (h' : zLst x n e) : c = e := by
  obtain ⟨h0, h1, h2, h3⟩ := h
  obtain ⟨k0, k1, k2, k3⟩ := h'
  by_cases q : c < e
  · exact absurd h2 (k3 c h0 q)
  · by_cases q' : e < c
    · exact absurd k2 (h3 e k0 q')
    · omega
theorem zExp_u {x : ZW} {w v u : Int} (h : zExp x w v) (h' : zExp x w u) : v = u := by
  rcases h with ⟨h1, h2⟩ | ⟨h1, h2, n, h3, h4⟩
  · rcases h' with ⟨k1, k2⟩ | ⟨k1, k2, -⟩
    · omega
    · exact absurd ⟨k1, k2⟩ h1
  · rcases h' with ⟨k1, k2⟩ | ⟨k1, k2, m, k3, k4⟩
    · exact absurd ⟨h1, h2⟩ k1
    · have e := zFwd_u h3 k3
      subst e
      rcases h4 with ⟨a, a'⟩ | ⟨a, a', a''⟩ | ⟨a, a', c, c0, c1⟩
      · rcases k4 with ⟨b, b'⟩ | ⟨b, b', b''⟩ | ⟨b, b', -⟩ <;> omega
      · rcases k4 with ⟨b, b'⟩ | ⟨b, b', b''⟩ | ⟨b, b', -⟩ <;> omega
      · rcases k4 with ⟨b, b'⟩ | ⟨b, b', b''⟩ | ⟨b, b', e, e0, e1⟩
        · omega
        · omega
        · rw [c1, e1, zLst_u c0 e0]
theorem zSur_u {x : ZW} {w v u : Int} (h : zSur x w v) (h' : zSur x w u) : v = u := by
  rcases h with ⟨h1, h2⟩ | ⟨h1, n, h3, h4⟩
  · rcases h' with ⟨k1, k2⟩ | ⟨k1, -⟩
    · omega
    · exact absurd k1 h1
  · rcases h' with ⟨k1, k2⟩ | ⟨k1, m, k3, k4⟩
    · exact absurd h1 k1
    · have e := zFwd_u h3 k3
      subst e
      rcases h4 with ⟨a, a'⟩ | ⟨a, a'⟩
      · rcases k4 with ⟨b, b'⟩ | ⟨b, b'⟩ <;> omega
      · rcases k4 with ⟨b, b'⟩ | ⟨b, b'⟩
        · omega
        · rw [a', b']
theorem zcdB (n : Int) : 1 ≤ zcd n ∧ zcd n < 1000000 := by
  unfold zcd
  split
  · omega
  · split
    · omega
    · split <;> omega
/-- a set that is there has a least code -/
theorem zLst_e {x : ZW} {n : Int} (h : ∃ c : Int, 0 ≤ c ∧ c < zcd n ∧ zXn x n c) : ∃ c, zLst x n c := by
  obtain ⟨c, c0, c1, c2⟩ := h
  have q : ∀ (k : Nat) (c : Int), c.toNat ≤ k → 0 ≤ c → c < zcd n → zXn x n c → ∃ e, zLst x n e := by
    intro k
    induction k with
    | zero =>
      intro c hk c0 c1 c2
      exact ⟨c, c0, c1, c2, fun e e0 e1 => by omega⟩
    | succ k ih =>
      intro c hk c0 c1 c2
      by_cases w : ∃ e : Int, 0 ≤ e ∧ e < c ∧ zXn x n e
      · obtain ⟨e, e0, e1, e2⟩ := w
        exact ih e (by omega) e0 (by omega) e2
      · exact ⟨c, c0, c1, c2, fun e e0 e1 e2 => w ⟨e, e0, e1, e2⟩⟩
  exact q c.toNat c (by omega) c0 c1 c2
section SU
variable {K : ZS} {x y : ZW} {S : ZS}
theorem zFs_c {n : Int} {p : Nat} (h : zFs K x y n p S) (hp : p ≤ 1000000) {A B : Option (Int32 × ZS)} {Q : Int32 × ZS → Prop} (hA : zsm (fun c => sI (zXn y n c) 1 0) p = 0 → zwp A Q) (hB : (∃ c : Int, 0 ≤ c ∧ c < p ∧ zXn y n c) → zwp B Q) : zwp (zif (S.1 11 0 81 ≤ 0) A B) Q := by
  have b0 := zsm_b (fun c => sI (zXn y n c) 1 0) (fun _ => sI_01 _) p
  rw [h.2.1, zI_n0, zI_le (by omega) (by omega) (by omega) (by omega)]
  by_cases hz : zsm (fun c => sI (zXn y n c) 1 0) p = 0
  · rw [zif_pos (by omega)]
    exact hA hz
  · rw [zif_neg (by omega)]
    refine hB ?_
    by_cases w : ∃ c : Int, 0 ≤ c ∧ c < p ∧ zXn y n c
    · exact w
    · exact absurd ((zsm_0 (P := zXn y n) p).2 (fun c c0 c1 c2 => w ⟨c, c0, c1, c2⟩)) hz
theorem zM_fewest_s (h : zR K x y S) (g : zGp y) (b : zTb y) (h60 : 0 ≤ y 35 0 ∧ y 35 0 ≤ 60) (d : Nat) :
    zwp (zM_fewest (d + 3) S) (fun q => ∃ n, q.1 = zI n ∧ zFwd y n ∧ (0 ≤ n → zFs K x y n (zcd n) q.2) ∧ zR K x y q.2) := by
  have n0 : ∀ {p : Nat}, zsm (fun c => sI (zXn y 0 c) 1 0) p = 0 → ∀ c : Int, 0 ≤ c → c < p → ¬ zXn y 0 c := fun {p} => (zsm_0 (P := zXn y 0) p).1
  rw [eM_fewest, zI_n0]
  refine zM_fewest_7_s (d + 2) _ (fun S1 w1 => ?_) 96 0 _ (by omega) (zR_s h (t := 11) (s := 81) (by decide) 0 (zI 0)) (zu_same S.1 11 0 81 (zI 0)) (fun e e0 e1 => by omega)
  rw [zwp_bind]
  refine zwp_mono (zM_found_s b h60 d (n := 0) (by omega) (by omega) w1 (fun i i0 i1 => by omega) (fun i i0 i1 => by omega) (fun i i0 i1 => by omega)) (fun S2 w2 => ?_)
  refine zFs_c w2 (by omega) (fun z0 => ?_) (fun hc => ?_)
  · have no0 : ∀ c : Int, 0 ≤ c → c < zcd 0 → ¬ zXn y 0 c := (zsm_0 (P := zXn y 0) 1).1 z0
    refine zM_fewest_42_s g b h60 d _ (fun S3 w3 => ?_) 96 0 S2 (by omega) (zFs_n w2 z0 1)
    refine zFs_c w3 (by omega) (fun z1 => ?_) (fun hc => ?_)
    · have no1 : ∀ c : Int, 0 ≤ c → c < zcd 1 → ¬ zXn y 1 c := (zsm_0 (P := zXn y 1) 96).1 z1
      refine zM_fewest_88_s g b h60 d _ (fun S4 w4 => ?_) 96 0 S3 (by omega) (zFs_n w3 z1 2)
      refine zFs_c w4 (by omega) (fun z2 => ?_) (fun hc => ?_)
      · have no2 : ∀ c : Int, 0 ≤ c → c < zcd 2 → ¬ zXn y 2 c := (zsm_0 (P := zXn y 2) 9216).1 z2
        refine zM_fewest_165_s g b h60 d _ (fun S5 w5 => ?_) 96 0 S4 (by omega) (zFs_n w4 z2 3)
        refine zFs_c w5 (by omega) (fun z3 => ?_) (fun hc => ?_)
        · have no3 : ∀ c : Int, 0 ≤ c → c < zcd 3 → ¬ zXn y 3 c := (zsm_0 (P := zXn y 3) 884736).1 z3
          rw [zwp_some]
          refine ⟨-1, rfl, Or.inl ⟨rfl, fun m m0 m3 => ?_⟩, fun q => by omega, w5.1⟩
          have : m = 0 ∨ m = 1 ∨ m = 2 ∨ m = 3 := by omega
          rcases this with rfl | rfl | rfl | rfl
          · exact no0
          · exact no1
          · exact no2
          · exact no3
        · rw [zwp_some]
          refine ⟨3, rfl, Or.inr ⟨by omega, by omega, fun m m0 m3 => ?_, hc⟩, fun _ => w5, w5.1⟩
          have : m = 0 ∨ m = 1 ∨ m = 2 := by omega
          rcases this with rfl | rfl | rfl
          · exact no0
          · exact no1
          · exact no2
      · rw [zwp_some]
        refine ⟨2, rfl, Or.inr ⟨by omega, by omega, fun m m0 m3 => ?_, hc⟩, fun _ => w4, w4.1⟩
        have : m = 0 ∨ m = 1 := by omega
        rcases this with rfl | rfl
        · exact no0
        · exact no1
    · rw [zwp_some]
      refine ⟨1, rfl, Or.inr ⟨by omega, by omega, fun m m0 m3 => ?_, hc⟩, fun _ => w3, w3.1⟩
      have : m = 0 := by omega
      subst this
      exact no0
  · rw [zwp_some]
    exact ⟨0, rfl, Or.inr ⟨by omega, by omega, fun m m0 m3 => by omega, hc⟩, fun _ => w2, w2.1⟩
theorem zM_explain_s (h : zR K x y S) (g : zGp y) (b : zTb y) (h60 : 0 ≤ y 35 0 ∧ y 35 0 ≤ 60) (d : Nat) {w : Int} (w1 : -2147483648 ≤ w) (w2 : w < 2147483648) :
    zwp (zM_explain (d + 4) (zI w) S) (fun q => ∃ v, q.1 = zI v ∧ zExp y w v ∧ zR K x y q.2) := by
  rw [eM_explain]
  have h0 := zR_s h (t := 11) (s := 0) rfl 0 (0 : Int32)
  generalize hS : ((zu S.1 11 0 0 (0 : Int32)), S.2) = S' at h0 ⊢
  have hS1 : zu S.1 11 0 0 (0 : Int32) = S'.1 := by rw [← hS]
  have hS2 : S.2 = S'.2 := by rw [← hS]
  try simp only [hS1, hS2]
  rw [zI_n3, zI_n0, zM_within_s S' (d + 2) w1 w2 (by omega) (by omega) (by omega) (by omega), zBs]
  dsimp only
  rw [show zI 0 = (0 : Int32) from rfl, zb_0]
  by_cases hw : 0 ≤ w ∧ w ≤ 3
  · rw [zif_neg (fun q => q hw), zwp_bind]
    refine zwp_mono (zM_fewest_s h0 g b h60 d) (fun q k => ?_)
    obtain ⟨q1, S2⟩ := q
    obtain ⟨n, k1, k2, k3, k4⟩ := k
    dsimp only at k1 k2 k3 k4 ⊢
    have bn : -1 ≤ n ∧ n ≤ 3 := by
      rcases k2 with ⟨a, -⟩ | ⟨a, a', -⟩ <;> omega
    rw [k1, zI_n0, zI_eq w1 w2 (by omega) (by omega)]
    by_cases e0 : w = 0
    · rw [zif_pos e0, zwp_some]
      exact ⟨n, rfl, Or.inr ⟨hw.1, hw.2, n, k2, Or.inl ⟨e0, rfl⟩⟩, k4⟩
    · rw [zif_neg e0, zI_lt (by omega) (by omega) w1 w2]
      by_cases e1 : n < w
      · rw [zif_pos e1, zwp_some]
        exact ⟨-1, rfl, Or.inr ⟨hw.1, hw.2, n, k2, Or.inr (Or.inl ⟨by omega, e1, rfl⟩)⟩, k4⟩
      · rw [zif_neg e1, zI_n1, zI_sub, zg_t (by rw [zI_in (by omega) (by omega)]; omega), zI_zx (by omega) (by omega), zwp_some]
        have hex : ∃ c : Int, 0 ≤ c ∧ c < zcd n ∧ zXn y n c := by
          rcases k2 with ⟨a, -⟩ | ⟨-, -, -, a⟩
          · omega
          · exact a
        obtain ⟨c, hc⟩ := zLst_e hex
        refine ⟨zdg n (w - 1) c, ?_, Or.inr ⟨hw.1, hw.2, n, k2, Or.inr (Or.inr ⟨by omega, by omega, c, hc, rfl⟩)⟩, k4⟩
        exact (k3 (by omega)).2.2.2 c hc.1 hc.2.1 hc.2.2.1 hc.2.2.2 (w - 1) (by omega) (by omega)
  · rw [zif_pos hw, zwp_some]
    exact ⟨-1, rfl, Or.inl ⟨hw, rfl⟩, h0⟩
theorem zsm_le {P Q : Int → Prop} (h : ∀ c, P c → Q c) : ∀ n : Nat, zsm (fun c => sI (P c) 1 0) n ≤ zsm (fun c => sI (Q c) 1 0) n ∧ (zsm (fun c => sI (P c) 1 0) n = zsm (fun c => sI (Q c) 1 0) n ↔ ∀ c : Int, 0 ≤ c → c < n → Q c → P c)
  | 0 => ⟨Int.le_refl _, ⟨fun _ c a b => by omega, fun _ => rfl⟩⟩
  | n + 1 => by
    obtain ⟨i1, i2⟩ := zsm_le h n
    rw [zsm, zsm]
    by_cases hq : Q n
    · by_cases hp : P n
      · rw [sI_t hq, sI_t hp]
        refine ⟨by omega, ⟨fun e c a b q => ?_, fun e => ?_⟩⟩
        · by_cases hc : c = n
          · rw [hc]; exact hp
          · exact i2.1 (by omega) c a (by omega) q
        · have := i2.2 (fun c a b q => e c a (by omega) q)
          omega
      · rw [sI_t hq, sI_f hp]
        exact ⟨by omega, ⟨fun e => by omega, fun e => absurd (e n (by omega) (by omega) hq) hp⟩⟩
    · have hp : ¬ P n := fun q => hq (h _ q)
      rw [sI_f hq, sI_f hp]
      refine ⟨by omega, ⟨fun e c a b q => ?_, fun e => ?_⟩⟩
      · by_cases hc : c = n
        · rw [hc] at q; exact absurd q hq
        · exact i2.1 (by omega) c a (by omega) q
      · have := i2.2 (fun c a b q => e c a (by omega) q)
        omega
theorem zM_sure_s (h : zR K x y S) (g : zGp y) (b : zTb y) (h60 : 0 ≤ y 35 0 ∧ y 35 0 ≤ 60) (d : Nat) {a : Int} (a1 : -2147483648 ≤ a) (a2 : a < 2147483648) :
    zwp (zM_sure (d + 4) (zI a) S) (fun q => ∃ v, q.1 = zI v ∧ zSur y a v ∧ zR K x y q.2) := by
  have b2 := zG2 g
  rw [eM_sure]
  have h0 := zR_s h (t := 11) (s := 0) rfl 0 (0 : Int32)
  generalize hS : ((zu S.1 11 0 0 (0 : Int32)), S.2) = S' at h0 ⊢
  have hS1 : zu S.1 11 0 0 (0 : Int32) = S'.1 := by rw [← hS]
  have hS2 : S.2 = S'.2 := by rw [← hS]
  try simp only [hS1, hS2]
  rw [zM_isSwitch_s h0 g (d + 2) a1 a2, zBs]
  dsimp only
  rw [zb_0]
  by_cases hs : zSw y a
  · have hs' := hs
    unfold zSw at hs'
    rw [zif_neg (fun q => q hs), zwp_bind]
    refine zwp_mono (zM_fewest_s h0 g b h60 d) (fun q k => ?_)
    obtain ⟨q1, S2⟩ := q
    obtain ⟨n, k1, k2, k3, k4⟩ := k
    dsimp only at k1 k2 k3 k4 ⊢
    have bn : -1 ≤ n ∧ n ≤ 3 := by
      rcases k2 with ⟨a, -⟩ | ⟨a, a', -⟩ <;> omega
    rw [k1, zI_n0, zI_le (by omega) (by omega) (by omega) (by omega)]
    by_cases e0 : 0 ≤ n
    · have w := k3 e0
      have bp := zcdB n
      have b0 := zsm_b (fun c => sI (zXn y n c) 1 0) (fun _ => sI_01 _) (zcd n)
      have b1 := zsm_b (fun c => sI (zXn y n c ∧ zHx n c a) 1 0) (fun _ => sI_01 _) (zcd n)
      have key := (zsm_le (P := fun c => zXn y n c ∧ zHx n c a) (Q := zXn y n) (fun c q => q.1) (zcd n)).2
      rw [zif_pos e0, zg_t (by rw [zI_in (by omega) (by omega)]; omega), zI_zx (by omega) (by omega), w.2.2.1 a (by omega) (by omega), w.2.1, zI_eq (by omega) (by omega) (by omega) (by omega)]
      by_cases hq : ∀ c : Int, 0 ≤ c → c < zcd n → zXn y n c → zHx n c a
      · rw [zif_pos (key.2 (fun c c0 c1 q => ⟨q, hq c c0 c1 q⟩)), zwp_some]
        exact ⟨1, rfl, Or.inr ⟨hs, n, k2, Or.inr ⟨e0, (sI_t hq 1 0).symm⟩⟩, k4⟩
      · rw [zif_neg (fun e => hq (fun c c0 c1 q => (key.1 e c c0 c1 q).2)), zwp_some]
        exact ⟨0, rfl, Or.inr ⟨hs, n, k2, Or.inr ⟨e0, (sI_f hq 1 0).symm⟩⟩, k4⟩
    · rw [zif_neg e0, zwp_some]
      exact ⟨-1, rfl, Or.inr ⟨hs, n, k2, Or.inl ⟨by omega, rfl⟩⟩, k4⟩
  · rw [zif_pos hs, zwp_some]
    exact ⟨-1, rfl, Or.inl ⟨hs, rfl⟩, h0⟩
end SU
