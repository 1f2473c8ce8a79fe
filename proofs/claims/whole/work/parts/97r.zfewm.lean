/-! EXPLAIN, SURE: the reference's search, whole -/
theorem zdg1 (i c : Int) : zdg 1 i c = c := by simp [zdg]
theorem zdg20 (c : Int) : zdg 2 0 c = c / 96 := by simp [zdg]
theorem zdg21 (c : Int) : zdg 2 1 c = c % 96 := by simp [zdg]
theorem zdg30 (c : Int) : zdg 3 0 c = c / 9216 := by simp [zdg]
theorem zdg31 (c : Int) : zdg 3 1 c = c / 96 % 96 := by simp [zdg]
theorem zdg32 (c : Int) : zdg 3 2 c = c % 96 := by simp [zdg]
theorem zin30 : zin (0 : Int32) 3 = true := rfl
theorem zin31 : zin (zI 1) 3 = true := rfl
theorem zin32 : zin (zI 2) 3 = true := rfl
section FW
variable {K : ZS} {x y : ZW} {S : ZS}
theorem zX_1 {c a : Int} (h : zXn y 1 c) (e : c = a) : zSw y a := by
  have := h.1 0 (by omega) (by omega)
  rw [zdg1, e] at this
  exact this
theorem zX_2 {c a b : Int} (h : zXn y 2 c) (hb : 0 ≤ b ∧ b < 96) (e : c = 96 * a + b) : zSw y a ∧ zSw y b ∧ a < b := by
  have h0 := h.1 0 (by omega) (by omega)
  have h1 := h.1 1 (by omega) (by omega)
  have h2 := h.2.1 0 (by omega) (by omega)
  rw [show (0 : Int) + 1 = 1 from rfl] at h2
  rw [zdg20] at h0 h2
  rw [zdg21] at h1 h2
  rw [show c / 96 = a by omega] at h0 h2
  rw [show c % 96 = b by omega] at h1 h2
  exact ⟨h0, h1, h2⟩
theorem zX_3 {c a b f : Int} (h : zXn y 3 c) (hb : 0 ≤ b ∧ b < 96) (hf : 0 ≤ f ∧ f < 96) (e : c = 9216 * a + 96 * b + f) : zSw y a ∧ zSw y b ∧ zSw y f ∧ a < b ∧ b < f := by
  have h0 := h.1 0 (by omega) (by omega)
  have h1 := h.1 1 (by omega) (by omega)
  have h2 := h.1 2 (by omega) (by omega)
  have h3 := h.2.1 0 (by omega) (by omega)
  have h4 := h.2.1 1 (by omega) (by omega)
  rw [show (0 : Int) + 1 = 1 from rfl] at h3
  rw [show (1 : Int) + 1 = 2 from rfl] at h4
  rw [zdg30] at h0 h3
  rw [zdg31] at h1 h3 h4
  rw [zdg32] at h2 h4
  rw [show c / 9216 = a by omega] at h0 h3
  rw [show c / 96 % 96 = b by omega] at h1 h3 h4
  rw [show c % 96 = f by omega] at h2 h4
  exact ⟨h0, h1, h2, h3, h4⟩
/-- a stage that found nothing leaves the next one a clean start -/
theorem zFs_n {n : Int} {p : Nat} (h : zFs K x y n p S) (hz : zsm (fun c => sI (zXn y n c) 1 0) p = 0) (m : Int) : zFs K x y m 0 S := by
  obtain ⟨h1, h2, h3, -⟩ := h
  refine ⟨h1, ?_, fun e e0 e1 => ?_, fun c c0 c1 => by omega⟩
  · rw [h2, hz]; rfl
  · rw [h3 e e0 e1, (zsm_0 (P := fun c => zXn y n c ∧ zHx n c e) p).2 (fun c c0 c1 q => (zsm_0 (P := zXn y n) p).1 hz c c0 c1 q.1)]
    rfl
theorem zM_fewest_42_s (g : zGp y) (b : zTb y) (h60 : 0 ≤ y 35 0 ∧ y 35 0 ≤ 60) (d : Nat) (Q : Int32 × ZS → Prop) (hQ : ∀ S', zFs K x y 1 96 S' → zwp (zif (S'.1 11 0 81 ≤ 0) (zM_fewest_88 (d + 2) (zI 0) S') (some (1, S'))) Q) :
    ∀ (m a : Nat) (S : ZS), a + m = 96 → zFs K x y 1 a S → zwp (zM_fewest_42 (d + 2) (zI a) S) Q := by
  intro m
  induction m with
  | zero =>
    intro a S e h
    have ea : a = 96 := by omega
    subst ea
    rw [eM_fewest_42, zI_n96, zI_le (by omega) (by omega) (by omega) (by omega), zif_pos (by omega)]
    exact hQ S h
  | succ m ih =>
    intro a S e h
    have ih := fun S' => ih (a + 1) S' (by omega)
    rw [show ((a + 1 : Nat) : Int) = (a : Int) + 1 by omega] at ih
    rw [eM_fewest_42, zI_n96, zI_le (by omega) (by omega) (by omega) (by omega), zif_neg (by omega), zM_isSwitch_s h.1 g (d + 1) (by omega) (by omega), zBs]
    dsimp only
    rw [zb_0, zI_n1, zI_add]
    by_cases hs : zSw y a
    · rw [zif_neg (fun q => q hs), zg_t zin30, zwp_bind]
      have w : zFs K x y 1 a (zu S.1 119 0 (zx 0) (zI a), S.2) := ⟨zR_t h.1 (by decide) 0 _ _, h.2.1, h.2.2.1, h.2.2.2⟩
      refine zwp_mono (zM_found_s b h60 d (n := 1) (by omega) (by omega) w (fun i i0 i1 => ?_) (fun i i0 i1 => ?_) (fun i i0 i1 => by omega)) (fun S' w' => ih S' w')
      · rw [zdg1, show i = 0 by omega]
        exact ⟨by omega, by omega, zu_same S.1 119 0 0 (zI a)⟩
      · rw [zdg1]; exact hs
    · rw [zif_pos hs]
      exact ih S (zFs_z (by omega) (fun c c0 c1 q => hs (zX_1 q (by omega))) h)
theorem zM_fewest_98_s (g : zGp y) (b : zTb y) (h60 : 0 ≤ y 35 0 ∧ y 35 0 ≤ 60) (d : Nat) (a : Nat) (ha : a < 96) (Q : Int32 × ZS → Prop) (hQ : ∀ S', zFs K x y 2 (96 * (a + 1)) S' → zwp (zM_fewest_88 (d + 2) (zI (a + 1)) S') Q) :
    ∀ (m f : Nat) (S : ZS), f + m = 96 → a < f → zFs K x y 2 (96 * a + f) S → zwp (zM_fewest_98 (d + 2) (zI a) (zI f) S) Q := by
  intro m
  induction m with
  | zero =>
    intro f S e hlt h
    rw [eM_fewest_98, zI_n96, zI_le (by omega) (by omega) (by omega) (by omega), zif_pos (by omega), zI_n1, zI_add]
    rw [show 96 * a + f = 96 * (a + 1) by omega] at h
    exact hQ S h
  | succ m ih =>
    intro f S e hlt h
    have ih := fun S' => ih (f + 1) S' (by omega) (by omega)
    rw [show ((f + 1 : Nat) : Int) = (f : Int) + 1 by omega] at ih
    rw [eM_fewest_98, zI_n96, zI_le (by omega) (by omega) (by omega) (by omega), zif_neg (by omega), zM_isSwitch_s h.1 g (d + 1) (by omega) (by omega), zBs]
    dsimp only
    rw [zb_0, zI_n1, zI_add]
    by_cases hs : zSw y a
    · rw [zif_neg (fun q => q hs), zM_isSwitch_s h.1 g (d + 1) (by omega) (by omega), zBs]
      dsimp only
      rw [zb_0, zI_add]
      by_cases hf : zSw y f
      · rw [zif_neg (fun q => q hf), zg_t zin30, zg_t zin31, zwp_bind, zI_n2]
        have w : zFs K x y 2 (96 * a + f) (zu (zu S.1 119 0 (zx 0) (zI a)) 119 0 (zx (zI 1)) (zI f), S.2) := ⟨zR_t (zR_t h.1 (t := 119) (by decide) 0 _ _) (t := 119) (by decide) 0 _ _, h.2.1, h.2.2.1, h.2.2.2⟩
        refine zwp_mono (zM_found_s b h60 d (n := 2) (by omega) (by omega) w (fun i i0 i1 => ?_) (fun i i0 i1 => ?_) (fun i i0 i1 => ?_)) (fun S' w' => ih S' w')
        · have : i = 0 ∨ i = 1 := by omega
          rcases this with rfl | rfl
          · rw [zdg20, show ((96 * a + f : Nat) : Int) / 96 = a by omega]
            exact ⟨by omega, by omega, zu_same S.1 119 0 0 (zI a)⟩
          · rw [zdg21, show ((96 * a + f : Nat) : Int) % 96 = f by omega]
            exact ⟨by omega, by omega, zu_same (zu S.1 119 0 0 (zI a)) 119 0 1 (zI f)⟩
        · have : i = 0 ∨ i = 1 := by omega
          rcases this with rfl | rfl
          · rw [zdg20, show ((96 * a + f : Nat) : Int) / 96 = a by omega]
            exact hs
          · rw [zdg21, show ((96 * a + f : Nat) : Int) % 96 = f by omega]
            exact hf
        · rw [show i = 0 by omega, show (0 : Int) + 1 = 1 from rfl, zdg20, zdg21]
          omega
      · rw [zif_pos hf]
        exact ih S (zFs_z (by omega) (fun c c0 c1 q => hf (zX_2 q (a := a) (b := f) (by omega) (by omega)).2.1) h)
    · rw [zif_pos hs]
      exact hQ S (zFs_z (by omega) (fun c c0 c1 q => hs (zX_2 q (a := a) (b := c - 96 * a) (by omega) (by omega)).1) h)
end FW
