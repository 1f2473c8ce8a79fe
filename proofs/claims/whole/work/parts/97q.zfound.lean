/-! EXPLAIN, SURE: what the reference's search keeps of each set -/
theorem zsm_0 {P : Int → Prop} : ∀ n : Nat, zsm (fun c => sI (P c) 1 0) n = 0 ↔ ∀ c : Int, 0 ≤ c → c < n → ¬ P c
  | 0 => ⟨fun _ c a b => by omega, fun _ => rfl⟩
  | n + 1 => by
    have ih := zsm_0 (P := P) n
    have b := zsm_b (fun c => sI (P c) 1 0) (fun _ => sI_01 _) n
    have b1 := sI_01 (P n)
    rw [zsm]
    constructor
    · intro h c c0 c1
      by_cases hc : c = n
      · intro q
        rw [← hc, sI_t q] at h
        rw [← hc] at b
        omega
      · exact ih.1 (by omega) c c0 (by omega)
    · intro h
      rw [ih.2 (fun c c0 c1 => h c c0 (by omega)), sI_f (h n (by omega) (by omega))]
      rfl
section FO
variable {K : ZS} {x y : ZW} {S : ZS}
theorem zM_found_53_s (d : Nat) {n : Int} (hn : 0 ≤ n ∧ n ≤ 3) {v f : Int → Int} (u : Int32) (B : Nat → Nat → Int32) (inj : ∀ i j, 0 ≤ i → i < j → j < n → v i ≠ v j) :
    ∀ (m : Nat) (j : Int) (S : ZS), 0 ≤ j → j + m = n → zR K x y S → (∀ i, 0 ≤ i → i < n → 0 ≤ v i ∧ v i < 96 ∧ S.1 119 0 i.toNat = zI (v i)) → (∀ e, 0 ≤ e → e < 96 → S.1 120 0 e.toNat = zI (f e + sI (∃ i, 0 ≤ i ∧ i < j ∧ v i = e) 1 0)) → S.1 11 0 81 = u → S.1 121 = B →
    zwp (zM_found_53 d (zI n) (zI j) S) (fun S' => zR K x y S' ∧ (∀ e, 0 ≤ e → e < 96 → S'.1 120 0 e.toNat = zI (f e + sI (∃ i, 0 ≤ i ∧ i < n ∧ v i = e) 1 0)) ∧ S'.1 11 0 81 = u ∧ S'.1 121 = B) := by
  intro m
  induction m with
  | zero =>
    intro j S j0 e h hv hf h81 h121
    have ej : j = n := by omega
    subst ej
    rw [eM_found_53, zI_le (by omega) (by omega) (by omega) (by omega), zif_pos (by omega), zwp_some]
    exact ⟨h, hf, h81, h121⟩
  | succ m ih =>
    intro j S j0 e h hv hf h81 h121
    have hj := hv j j0 (by omega)
    have no : ¬ ∃ i, 0 ≤ i ∧ i < j ∧ v i = v j := by
      rintro ⟨i, i0, i1, i2⟩
      exact inj i j i0 i1 (by omega) i2
    have hfj := hf (v j) hj.1 hj.2.1
    rw [sI_f no, Int.add_zero] at hfj
    rw [eM_found_53, zI_le (by omega) (by omega) (by omega) (by omega), zif_neg (by omega), zg_t (by rw [zI_in (by omega) (by omega)]; omega), zI_zx (by omega) (by omega), hj.2.2, zg_t (by rw [zI_in (by omega) (by omega)]; omega), zg_t (by rw [zI_in (by omega) (by omega)]; omega), zI_zx (by omega) (by omega), hfj, zI_n1, zI_add, zI_add]
    refine ih (j + 1) _ (by omega) (by omega) (zR_t h (by decide) 0 _ _) (fun i i0 i1 => hv i i0 i1) (fun e' e0 e1 => ?_) h81 h121
    by_cases he : e' = v j
    · rw [he, sI_t ⟨j, by omega, by omega, rfl⟩]
      exact zu_same S.1 120 0 (v j).toNat (zI (f (v j) + 1))
    · refine (zu_pl S.1 (show e'.toNat ≠ (v j).toNat by omega)).trans ((hf e' e0 e1).trans ?_)
      refine congrArg (fun w => zI (f e' + w)) (sI_c ?_ 1 0)
      constructor
      · rintro ⟨i, i0, i1, i2⟩; exact ⟨i, i0, by omega, i2⟩
      · rintro ⟨i, i0, i1, i2⟩
        by_cases hi : i = j
        · rw [hi] at i2; exact absurd i2.symm he
        · exact ⟨i, i0, by omega, i2⟩
theorem zM_found_18_s (d : Nat) {n : Int} (hn : 0 ≤ n ∧ n ≤ 3) {v : Int → Int} (Q : ZS → Prop) (u : Int32) (A : Nat → Nat → Int32)
    (hQ : ∀ S', zR K x y S' → (∀ i, 0 ≤ i → i < n → 0 ≤ v i ∧ v i < 96 ∧ S'.1 119 0 i.toNat = zI (v i)) → (∀ i, 0 ≤ i → i < n → S'.1 121 0 i.toNat = zI (v i)) → S'.1 11 0 81 = u + 1 → S'.1 120 = A → zwp (zM_found_53 d (zI n) (zI 0) S') Q) :
    ∀ (m : Nat) (j : Int) (S : ZS), 0 ≤ j → j + m = n → zR K x y S → (∀ i, 0 ≤ i → i < n → 0 ≤ v i ∧ v i < 96 ∧ S.1 119 0 i.toNat = zI (v i)) → (∀ i, 0 ≤ i → i < j → S.1 121 0 i.toNat = zI (v i)) → S.1 11 0 81 = u → S.1 120 = A → zwp (zM_found_18 d (zI n) (zI j) S) Q := by
  intro m
  induction m with
  | zero =>
    intro j S j0 e h hv hb h81 h120
    have ej : j = n := by omega
    subst ej
    rw [eM_found_18, zI_le (by omega) (by omega) (by omega) (by omega), zif_pos (by omega), zI_n0]
    refine hQ _ (zR_s h (by decide) 0 _) hv hb ?_ h120
    rw [h81]
    exact zu_same S.1 11 0 81 (u + 1)
  | succ m ih =>
    intro j S j0 e h hv hb h81 h120
    have hj := hv j j0 (by omega)
    rw [eM_found_18, zI_le (by omega) (by omega) (by omega) (by omega), zif_neg (by omega), zg_t (by rw [zI_in (by omega) (by omega)]; omega), zg_t (by rw [zI_in (by omega) (by omega)]; omega), zI_zx (by omega) (by omega), hj.2.2, zI_n1, zI_add]
    refine ih (j + 1) _ (by omega) (by omega) (zR_t h (by decide) 0 _ _) (fun i i0 i1 => hv i i0 i1) (fun i i0 i1 => ?_) h81 h120
    by_cases hi : i = j
    · rw [hi]
      exact zu_same S.1 121 0 j.toNat (zI (v j))
    · exact (zu_pl S.1 (show i.toNat ≠ j.toNat by omega)).trans (hb i i0 (by omega))
theorem zdg_m {n c : Int} (hn : 0 ≤ n ∧ n ≤ 3) (hs : ∀ i, 0 ≤ i → i + 1 < n → zdg n i c < zdg n (i + 1) c) : ∀ i j, 0 ≤ i → i < j → j < n → zdg n i c ≠ zdg n j c := by
  intro i j i0 ij jn
  have h0 := hs i i0 (by omega)
  by_cases h1 : j = i + 1
  · rw [h1]; omega
  · have h2 := hs (i + 1) (by omega) (by omega)
    rw [show j = i + 1 + 1 by omega]
    omega
theorem zM_found_s (b : zTb y) (h60 : 0 ≤ y 35 0 ∧ y 35 0 ≤ 60) (d : Nat) {n : Int} (hn : 0 ≤ n ∧ n ≤ 3) {p : Nat} (hp : p < 1000000) (h : zFs K x y n p S) (hv : ∀ i, 0 ≤ i → i < n → 0 ≤ zdg n i p ∧ zdg n i p < 96 ∧ S.1 119 0 i.toNat = zI (zdg n i p))
    (hw : ∀ i, 0 ≤ i → i < n → zSw y (zdg n i p)) (hs : ∀ i, 0 ≤ i → i + 1 < n → zdg n i p < zdg n (i + 1) p) : zwp (zM_found (d + 2) (zI n) S) (fun S' => zFs K x y n (p + 1) S') := by
  have h' := h
  obtain ⟨h1, h2, h3, h4⟩ := h
  have inj := zdg_m (c := p) hn hs
  have b0 := zsm_b (fun c => sI (zXn y n c) 1 0) (fun _ => sI_01 _) p
  rw [eM_found, zM_explains_s h1 b d (v := fun i => zdg n i p) hn hv h60, zBs]
  dsimp only
  rw [zb_0]
  by_cases hx : zEX y n (fun i => zdg n i p)
  · have hX : zXn y n p := ⟨hw, hs, hx⟩
    have fin : ∀ S' : ZS, zR K x y S' → (∀ e, 0 ≤ e → e < 96 → S'.1 120 0 e.toNat = zI (zsm (fun c => sI (zXn y n c ∧ zHx n c e) 1 0) p + sI (∃ i, 0 ≤ i ∧ i < n ∧ zdg n i p = e) 1 0)) → S'.1 11 0 81 = zI (zsm (fun c => sI (zXn y n c) 1 0) p) + 1 →
        (∀ c : Int, 0 ≤ c → c < (p + 1 : Nat) → zXn y n c → (∀ c' : Int, 0 ≤ c' → c' < c → ¬ zXn y n c') → ∀ i, 0 ≤ i → i < n → S'.1 121 0 i.toNat = zI (zdg n i c)) → zFs K x y n (p + 1) S' := by
      intro S' q1 q2 q3 q4
      refine ⟨q1, ?_, fun e e0 e1 => ?_, q4⟩
      · rw [q3, zI_n1, zI_add, zsm, sI_t hX]
      · rw [q2 e e0 e1, zsm]
        refine congrArg (fun w => zI (zsm (fun c => sI (zXn y n c ∧ zHx n c e) 1 0) p + w)) (sI_c ?_ 1 0)
        exact ⟨fun w => ⟨hX, w⟩, fun w => w.2⟩
    rw [zif_neg (fun q => q hx), h2, zI_n0, zI_eq (by omega) (by omega) (by omega) (by omega)]
    by_cases hz : zsm (fun c => sI (zXn y n c) 1 0) p = 0
    · have hno := (zsm_0 (P := zXn y n) p).1 hz
      rw [zif_pos hz]
      refine zM_found_18_s (d + 1) hn (v := fun i => zdg n i p) _ (zI (zsm (fun c => sI (zXn y n c) 1 0) p)) (S.1 120) (fun S2 a1 a2 a3 a4 a5 => ?_) n.toNat 0 S (by omega) (by omega) h1 hv (fun i i0 i1 => by omega) h2 rfl
      refine zwp_mono (zM_found_53_s (d + 1) hn (v := fun i => zdg n i p) (f := fun e => zsm (fun c => sI (zXn y n c ∧ zHx n c e) 1 0) p) _ (S2.1 121) inj n.toNat 0 S2 (by omega) (by omega) a1 a2 (fun e e0 e1 => ?_) a4 rfl) (fun S3 w => ?_)
      · rw [a5, sI_f (fun w => by obtain ⟨i, i0, i1, -⟩ := w; omega), Int.add_zero]
        exact h3 e e0 e1
      · refine fin S3 w.1 w.2.1 w.2.2.1 (fun c c0 c1 hc hl i i0 i1 => ?_)
        have ec : c = p := by
          by_cases q : c < p
          · exact absurd hc (hno c c0 q)
          · omega
        rw [w.2.2.2, ec]
        exact a3 i i0 i1
    · rw [zif_neg hz]
      refine zwp_mono (zM_found_53_s (d + 1) hn (v := fun i => zdg n i p) (f := fun e => zsm (fun c => sI (zXn y n c ∧ zHx n c e) 1 0) p) (zI (zsm (fun c => sI (zXn y n c) 1 0) p) + 1) (S.1 121) inj n.toNat 0 _ (by omega) (by omega) (zR_s h1 (by decide) 0 _) hv (fun e e0 e1 => ?_) ?_ rfl) (fun S3 w => ?_)
      · rw [sI_f (fun w => by obtain ⟨i, i0, i1, -⟩ := w; omega), Int.add_zero]
        exact h3 e e0 e1
      · exact zu_same S.1 11 0 81 (zI (zsm (fun c => sI (zXn y n c) 1 0) p) + 1)
      · refine fin S3 w.1 w.2.1 w.2.2.1 (fun c c0 c1 hc hl i i0 i1 => ?_)
        have hcp : c < p := by
          by_cases q : c < p
          · exact q
          · exact absurd ((zsm_0 (P := zXn y n) p).2 (fun c' q0 q1 => hl c' q0 (by omega))) hz
        rw [w.2.2.2]
        exact h4 c c0 hcp hc hl i i0 i1
  · rw [zif_pos hx, zwp_some]
    refine zFs_z (by omega) (fun c c0 c1 q => hx ?_) h'
    rw [show c = p by omega] at q
    exact q.2.2
end FO
