/-! EXPLAIN, SURE: the reference's search, sizes 2 and 3, and its answer -/
def zcd (n : Int) : Nat := if n = 0 then 1 else if n = 1 then 96 else if n = 2 then 9216 else 884736
/-- n is the size of the smallest sets that explain, -1 if there is none of 3 or fewer -/
def zFwd (x : ZW) (n : Int) : Prop := (n = -1 ∧ ∀ m : Int, 0 ≤ m → m ≤ 3 → ∀ c : Int, 0 ≤ c → c < zcd m → ¬ zXn x m c) ∨
  (0 ≤ n ∧ n ≤ 3 ∧ (∀ m : Int, 0 ≤ m → m < n → ∀ c : Int, 0 ≤ c → c < zcd m → ¬ zXn x m c) ∧ ∃ c : Int, 0 ≤ c ∧ c < zcd n ∧ zXn x n c)
section FV
variable {K : ZS} {x y : ZW} {S : ZS}
theorem zM_fewest_88_s (g : zGp y) (b : zTb y) (h60 : 0 ≤ y 35 0 ∧ y 35 0 ≤ 60) (d : Nat) (Q : Int32 × ZS → Prop) (hQ : ∀ S', zFs K x y 2 9216 S' → zwp (zif (S'.1 11 0 81 ≤ 0) (zM_fewest_165 (d + 2) (zI 0) S') (some (2, S'))) Q) :
    ∀ (m a : Nat) (S : ZS), a + m = 96 → zFs K x y 2 (96 * a) S → zwp (zM_fewest_88 (d + 2) (zI a) S) Q := by
  intro m
  induction m with
  | zero =>
    intro a S e h
    have ea : a = 96 := by omega
    subst ea
    rw [eM_fewest_88, zI_n96, zI_le (by omega) (by omega) (by omega) (by omega), zif_pos (by omega)]
    exact hQ S h
  | succ m ih =>
    intro a S e h
    have ih := fun S' => ih (a + 1) S' (by omega)
    rw [show ((a + 1 : Nat) : Int) = (a : Int) + 1 by omega] at ih
    rw [eM_fewest_88, zI_n96, zI_le (by omega) (by omega) (by omega) (by omega), zif_neg (by omega), zI_n1, zI_add]
    have q := zM_fewest_98_s g b h60 d a (by omega) Q ih (95 - a) (a + 1) S (by omega) (by omega) (zFs_z (by omega) (fun c c0 c1 q => by
      have := (zX_2 q (a := a) (b := c - 96 * a) (by omega) (by omega)).2.2
      omega) h)
    rw [show ((a + 1 : Nat) : Int) = (a : Int) + 1 by omega] at q
    exact q
theorem zM_fewest_193_s (g : zGp y) (b : zTb y) (h60 : 0 ≤ y 35 0 ∧ y 35 0 ≤ 60) (d : Nat) (a f : Nat) (hf : f < 96) (haf : a < f) (hsa : zSw y a) (Q : Int32 × ZS → Prop) (hQ : ∀ S', zFs K x y 3 (9216 * a + 96 * (f + 1)) S' → zwp (zM_fewest_175 (d + 2) (zI a) (zI (f + 1)) S') Q) :
    ∀ (m k : Nat) (S : ZS), k + m = 96 → f < k → zFs K x y 3 (9216 * a + 96 * f + k) S → zwp (zM_fewest_193 (d + 2) (zI a) (zI f) (zI k) S) Q := by
  intro m
  induction m with
  | zero =>
    intro k S e hlt h
    rw [eM_fewest_193, zI_n96, zI_le (by omega) (by omega) (by omega) (by omega), zif_pos (by omega), zI_n1, zI_add]
    rw [show 9216 * a + 96 * f + k = 9216 * a + 96 * (f + 1) by omega] at h
    exact hQ S h
  | succ m ih =>
    intro k S e hlt h
    have ih := fun S' => ih (k + 1) S' (by omega) (by omega)
    rw [show ((k + 1 : Nat) : Int) = (k : Int) + 1 by omega] at ih
    rw [eM_fewest_193, zI_n96, zI_le (by omega) (by omega) (by omega) (by omega), zif_neg (by omega), zM_isSwitch_s h.1 g (d + 1) (by omega) (by omega), zBs]
    dsimp only
    rw [zb_0, zI_n1, zI_add]
    by_cases hs : zSw y f
    · rw [zif_neg (fun q => q hs), zM_isSwitch_s h.1 g (d + 1) (by omega) (by omega), zBs]
      dsimp only
      rw [zb_0, zI_add]
      by_cases hk : zSw y k
      · rw [zif_neg (fun q => q hk), zg_t zin30, zg_t zin31, zI_n2, zg_t zin32, zwp_bind, zI_n3]
        have w : zFs K x y 3 (9216 * a + 96 * f + k) (zu (zu (zu S.1 119 0 (zx 0) (zI a)) 119 0 (zx (zI 1)) (zI f)) 119 0 (zx (zI 2)) (zI k), S.2) := ⟨zR_t (zR_t (zR_t h.1 (t := 119) (by decide) 0 _ _) (t := 119) (by decide) 0 _ _) (t := 119) (by decide) 0 _ _, h.2.1, h.2.2.1, h.2.2.2⟩
        refine zwp_mono (zM_found_s b h60 d (n := 3) (by omega) (by omega) w (fun i i0 i1 => ?_) (fun i i0 i1 => ?_) (fun i i0 i1 => ?_)) (fun S' w' => ih S' w')
        · have : i = 0 ∨ i = 1 ∨ i = 2 := by omega
          rcases this with rfl | rfl | rfl
          · rw [zdg30, show ((9216 * a + 96 * f + k : Nat) : Int) / 9216 = a by omega]
            exact ⟨by omega, by omega, zu_same S.1 119 0 0 (zI a)⟩
          · rw [zdg31, show ((9216 * a + 96 * f + k : Nat) : Int) / 96 % 96 = f by omega]
            exact ⟨by omega, by omega, zu_same (zu S.1 119 0 0 (zI a)) 119 0 1 (zI f)⟩
          · rw [zdg32, show ((9216 * a + 96 * f + k : Nat) : Int) % 96 = k by omega]
            exact ⟨by omega, by omega, zu_same (zu (zu S.1 119 0 0 (zI a)) 119 0 1 (zI f)) 119 0 2 (zI k)⟩
        · have : i = 0 ∨ i = 1 ∨ i = 2 := by omega
          rcases this with rfl | rfl | rfl
          · rw [zdg30, show ((9216 * a + 96 * f + k : Nat) : Int) / 9216 = a by omega]
            exact hsa
          · rw [zdg31, show ((9216 * a + 96 * f + k : Nat) : Int) / 96 % 96 = f by omega]
            exact hs
          · rw [zdg32, show ((9216 * a + 96 * f + k : Nat) : Int) % 96 = k by omega]
            exact hk
        · have : i = 0 ∨ i = 1 := by omega
          rcases this with rfl | rfl
          · rw [show (0 : Int) + 1 = 1 from rfl, zdg30, zdg31]
            omega
          · rw [show (1 : Int) + 1 = 2 from rfl, zdg31, zdg32]
            omega
      · rw [zif_pos hk]
        exact ih S (zFs_z (by omega) (fun c c0 c1 q => hk (zX_3 q (a := a) (b := f) (f := k) (by omega) (by omega) (by omega)).2.2.1) h)
    · rw [zif_pos hs]
      exact hQ S (zFs_z (by omega) (fun c c0 c1 q => hs (zX_3 q (a := a) (b := f) (f := c - 9216 * a - 96 * f) (by omega) (by omega) (by omega)).2.1) h)
theorem zM_fewest_175_s (g : zGp y) (b : zTb y) (h60 : 0 ≤ y 35 0 ∧ y 35 0 ≤ 60) (d : Nat) (a : Nat) (ha : a < 96) (Q : Int32 × ZS → Prop) (hQ : ∀ S', zFs K x y 3 (9216 * (a + 1)) S' → zwp (zM_fewest_165 (d + 2) (zI (a + 1)) S') Q) :
    ∀ (m f : Nat) (S : ZS), f + m = 96 → a < f → zFs K x y 3 (9216 * a + 96 * f) S → zwp (zM_fewest_175 (d + 2) (zI a) (zI f) S) Q := by
  intro m
  induction m with
  | zero =>
    intro f S e hlt h
    rw [eM_fewest_175, zI_n96, zI_le (by omega) (by omega) (by omega) (by omega), zif_pos (by omega), zI_n1, zI_add]
    rw [show 9216 * a + 96 * f = 9216 * (a + 1) by omega] at h
    exact hQ S h
  | succ m ih =>
    intro f S e hlt h
    have ih := fun S' => ih (f + 1) S' (by omega) (by omega)
    rw [show ((f + 1 : Nat) : Int) = (f : Int) + 1 by omega] at ih
    rw [eM_fewest_175, zI_n96, zI_le (by omega) (by omega) (by omega) (by omega), zif_neg (by omega), zM_isSwitch_s h.1 g (d + 1) (by omega) (by omega), zBs]
    dsimp only
    rw [zb_0, zI_n1, zI_add, zI_add]
    by_cases hs : zSw y a
    · rw [zif_neg (fun q => q hs)]
      have q := zM_fewest_193_s g b h60 d a f (by omega) hlt hs Q ih (95 - f) (f + 1) S (by omega) (by omega) (zFs_z (by omega) (fun c c0 c1 q => by
        have := (zX_3 q (a := a) (b := f) (f := c - 9216 * a - 96 * f) (by omega) (by omega) (by omega)).2.2.2.2
        omega) h)
      rw [show ((f + 1 : Nat) : Int) = (f : Int) + 1 by omega] at q
      exact q
    · rw [zif_pos hs]
      exact hQ S (zFs_z (by omega) (fun c c0 c1 q => hs (zX_3 q (a := a) (b := (c - 9216 * a) / 96) (f := (c - 9216 * a) % 96) (by omega) (by omega) (by omega)).1) h)
theorem zM_fewest_165_s (g : zGp y) (b : zTb y) (h60 : 0 ≤ y 35 0 ∧ y 35 0 ≤ 60) (d : Nat) (Q : Int32 × ZS → Prop) (hQ : ∀ S', zFs K x y 3 884736 S' → zwp (zif (S'.1 11 0 81 ≤ 0) (some (-1, S')) (some (3, S'))) Q) :
    ∀ (m a : Nat) (S : ZS), a + m = 96 → zFs K x y 3 (9216 * a) S → zwp (zM_fewest_165 (d + 2) (zI a) S) Q := by
  intro m
  induction m with
  | zero =>
    intro a S e h
    have ea : a = 96 := by omega
    subst ea
    rw [eM_fewest_165, zI_n96, zI_le (by omega) (by omega) (by omega) (by omega), zif_pos (by omega)]
    exact hQ S h
  | succ m ih =>
    intro a S e h
    have ih := fun S' => ih (a + 1) S' (by omega)
    rw [show ((a + 1 : Nat) : Int) = (a : Int) + 1 by omega] at ih
    rw [eM_fewest_165, zI_n96, zI_le (by omega) (by omega) (by omega) (by omega), zif_neg (by omega), zI_n1, zI_add]
    have q := zM_fewest_175_s g b h60 d a (by omega) Q ih (95 - a) (a + 1) S (by omega) (by omega) (zFs_z (by omega) (fun c c0 c1 q => by
      have := (zX_3 q (a := a) (b := (c - 9216 * a) / 96) (f := (c - 9216 * a) % 96) (by omega) (by omega) (by omega)).2.2.2.1
      omega) h)
    rw [show ((a + 1 : Nat) : Int) = (a : Int) + 1 by omega] at q
    exact q
/-- the clearing of the counters -/
theorem zM_fewest_7_s (d : Nat) (Q : Int32 × ZS → Prop) (hQ : ∀ S', zFs K x y 0 0 S' → zwp ((zM_found d (zI 0) S').bind (fun r1 => zif ((r1.1 11 0 81) ≤ 0) (zM_fewest_42 d (zI 0) r1) (some (zI 0, r1)))) Q) :
    ∀ (m a : Nat) (S : ZS), a + m = 96 → zR K x y S → S.1 11 0 81 = zI 0 → (∀ e : Int, 0 ≤ e → e < a → S.1 120 0 e.toNat = zI 0) → zwp (zM_fewest_7 d (zI a) S) Q := by
  intro m
  induction m with
  | zero =>
    intro a S e h h81 hc
    have ea : a = 96 := by omega
    subst ea
    rw [eM_fewest_7, zI_n96, zI_le (by omega) (by omega) (by omega) (by omega), zif_pos (by omega)]
    exact hQ S ⟨h, h81, fun e e0 e1 => hc e e0 e1, fun c c0 c1 => by omega⟩
  | succ m ih =>
    intro a S e h h81 hc
    rw [eM_fewest_7, zI_n96, zI_le (by omega) (by omega) (by omega) (by omega), zif_neg (by omega), zg_t (by rw [zI_in (by omega) (by omega)]; omega), zI_n1, zI_add, zI_zx (by omega) (by omega), zI_n0]
    refine ih (a + 1) _ (by omega) (zR_t h (t := 120) (by decide) 0 _ _) h81 (fun e' e0 e1 => ?_)
    by_cases he : e' = a
    · rw [he]
      exact zu_same S.1 120 0 (Int.toNat a) (zI 0)
    · exact (zu_pl S.1 (show e'.toNat ≠ Int.toNat a by omega)).trans (hc e' e0 (by omega))
end FV
