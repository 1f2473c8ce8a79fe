/-! LOST of the class: the counting of the ends -/
theorem zsm_1 {f g : Int → Int} {i c : Int} (h : ∀ j, 0 ≤ j → j ≠ i → f j = g j) (hi : f i = g i + c) : ∀ n : Nat, zsm f n = zsm g n + (if 0 ≤ i ∧ i < n then c else 0)
  | 0 => by
    rw [if_neg (by omega)]
    rfl
  | n + 1 => by
    have ih := zsm_1 h hi n
    rw [zsm, zsm, ih]
    by_cases hn : (n : Int) = i
    · rw [hn, hi, if_neg (by omega), if_pos (by omega)]
      omega
    · rw [h n (by omega) hn]
      by_cases hc : 0 ≤ i ∧ i < (n : Int)
      · rw [if_pos hc, if_pos (by omega)]
        omega
      · rw [if_neg hc, if_neg (by omega)]
        omega
theorem zsm_c {f g : Int → Int} (h : ∀ j, 0 ≤ j → f j = g j) : ∀ n : Nat, zsm f n = zsm g n
  | 0 => rfl
  | n + 1 => by rw [zsm, zsm, zsm_c h n, h n (by omega)]
/-- how many ends that keep P are told at the first p places -/
noncomputable def zqc (P : Int → Prop) (E : Int → Int) (p : Int) : Int := zsm (fun e => sI (P e ∧ ∃ q, 0 ≤ q ∧ q < p ∧ E q = e) 1 0) 116
theorem zqc_0 (P : Int → Prop) (E : Int → Int) : zqc P E 0 = 0 := by
  have q : ∀ n : Nat, zsm (fun _ => 0) n = 0 := fun n => by
    induction n with
    | zero => rfl
    | succ n ih => rw [zsm, ih]; rfl
  refine (zsm_c (g := fun _ => 0) (fun j _ => ?_) 116).trans (q 116)
  refine sI_f ?_ 1 0
  rintro ⟨-, z, z0, z1, -⟩
  omega
theorem zqc_b (P : Int → Prop) (E : Int → Int) (p : Int) : 0 ≤ zqc P E p ∧ zqc P E p ≤ 116 := zsm_b _ (fun _ => sI_01 _) 116
theorem zqc_s {P : Int → Prop} {E : Int → Int} {p : Int} (hp : 0 ≤ p) (h : E p < 0 ∨ ¬ P (E p) ∨ ∃ q, 0 ≤ q ∧ q < p ∧ E q = E p) : zqc P E (p + 1) = zqc P E p := by
  refine zsm_c (fun j hj => sI_c ?_ 1 0) 116
  constructor
  · rintro ⟨a, q, q0, q1, q2⟩
    by_cases hq : q = p
    · rw [hq] at q2
      rcases h with h | h | h
      · omega
      · rw [q2] at h; exact absurd a h
      · obtain ⟨z, z0, z1, z2⟩ := h
        exact ⟨a, z, z0, z1, z2.trans q2⟩
    · exact ⟨a, q, q0, by omega, q2⟩
  · rintro ⟨a, q, q0, q1, q2⟩
    exact ⟨a, q, q0, by omega, q2⟩
theorem zqc_m {P : Int → Prop} {E : Int → Int} {p : Int} (hp : 0 ≤ p) (h0 : 0 ≤ E p) (h1 : E p < 116) (h : P (E p)) (hn : ¬ ∃ q, 0 ≤ q ∧ q < p ∧ E q = E p) : zqc P E (p + 1) = zqc P E p + 1 := by
  refine (zsm_1 (g := fun e => sI (P e ∧ ∃ q, 0 ≤ q ∧ q < p ∧ E q = e) 1 0) (i := E p) (c := 1) (fun j hj hne => sI_c ?_ 1 0) ?_ 116).trans ?_
  · constructor
    · rintro ⟨a, q, q0, q1, q2⟩
      by_cases hq : q = p
      · rw [hq] at q2; exact absurd q2.symm hne
      · exact ⟨a, q, q0, by omega, q2⟩
    · rintro ⟨a, q, q0, q1, q2⟩
      exact ⟨a, q, q0, by omega, q2⟩
  · show sI (P (E p) ∧ ∃ q, 0 ≤ q ∧ q < p + 1 ∧ E q = E p) 1 0 = sI (P (E p) ∧ ∃ q, 0 ≤ q ∧ q < p ∧ E q = E p) 1 0 + 1
    rw [sI_t ⟨h, p, by omega, by omega, rfl⟩, sI_f (fun q => hn q.2)]
    rfl
  · rw [if_pos (by omega)]
    rfl
def zEp (x : ZW) (r s l : Int) (p : Int) : Int := x 6 (80 * r + 40 * s + 4 * l + p)
def zPo (x : ZW) (r s l : Int) (e : Int) : Prop := x 9 e = 0 ∧ ¬ zEl x r (1 - s) l e
def zPs (x : ZW) (r l : Int) (e : Int) : Prop := x 9 e = 0 ∧ zEl x r 1 l e
theorem zqc_o (x : ZW) (r s l : Int) : zqc (zPo x r s l) (zEp x r s l) 4 = sOwn x r l s := by
  refine zsm_c (fun j hj => sI_c ?_ 1 0) 116
  constructor
  · rintro ⟨⟨a, b⟩, q⟩; exact ⟨q, b, a⟩
  · rintro ⟨q, b, a⟩; exact ⟨⟨a, b⟩, q⟩
theorem zqc_h (x : ZW) (r l : Int) : zqc (zPs x r l) (zEp x r 0 l) 4 = sShr x r l := by
  refine zsm_c (fun j hj => sI_c ?_ 1 0) 116
  constructor
  · rintro ⟨⟨a, b⟩, q⟩; exact ⟨q, b, a⟩
  · rintro ⟨q, b, a⟩; exact ⟨⟨a, b⟩, q⟩
section CM
variable {K : ZS} {x y : ZW} {S : ZS}
theorem zP_leadsTo_s (h : zR K x y S) (d : Nat) {r s l p : Int} (hr : 0 ≤ r ∧ r < 12) (hs : 0 ≤ s ∧ s < 2) (hl : 0 ≤ l ∧ l < 10) (hp : 0 ≤ p ∧ p < 4) : zP_leadsTo (d + 2) (zI r) (zI s) (zI l) (zI p) S = some (zI (zEp x r s l p), S) := by
  rw [eP_leadsTo, eP_spot, zBs]
  dsimp only
  rw [zI_n2, zI_n10, zI_n4, zI_mul, zI_add, zI_mul, zI_add, zI_mul, zI_add, zg_t (by rw [zI_in (by omega) (by omega)]; omega), zI_zx (by omega) (by omega), zRc6 h (by omega) (by omega)]
  rw [show (r * 2 + s) * 10 = 20 * r + 10 * s by omega, show (20 * r + 10 * s + l) * 4 + p = 80 * r + 40 * s + 4 * l + p by omega]
  rfl
theorem zO_leadsWithin_3_s (h : zR K x y S) (g : zGp x) (d : Nat) {r s l e P : Int} (hr : 0 ≤ r ∧ r < 12) (hs : 0 ≤ s ∧ s < 2) (hl : 0 ≤ l ∧ l < 10) (hP : P ≤ 4) (he : -1 ≤ e ∧ e < 116) :
    ∀ (j : Nat) (n : Int), 0 ≤ n → n + j = P → zO_leadsWithin_3 (d + 2) (zI r) (zI s) (zI l) (zI P) (zI e) (zI n) S = some (zb (∃ q, n ≤ q ∧ q < P ∧ zEp x r s l q = e), S) := by
  intro j
  induction j with
  | zero =>
    intro n n0 e1
    rw [eO_leadsWithin_3, zI_le (by omega) (by omega) (by omega) (by omega), zif_pos (by omega), zb_f (by rintro ⟨q, q0, q1, -⟩; omega)]
  | succ j ih =>
    intro n n0 e1
    have b6 := zG6 g (80 * r + 40 * s + 4 * l + n)
    have ih := ih (n + 1) (by omega) (by omega)
    rw [eO_leadsWithin_3, zI_le (by omega) (by omega) (by omega) (by omega), zif_neg (by omega), zP_leadsTo_s h d hr hs hl (by omega), zBs]
    dsimp only
    unfold zEp at ih ⊢
    rw [zI_eq (by omega) (by omega) (by omega) (by omega)]
    by_cases hq : x 6 (80 * r + 40 * s + 4 * l + n) = e
    · rw [zif_pos hq, zb_t ⟨n, by omega, by omega, hq⟩]
    · rw [zif_neg hq, zI_n1, zI_add, ih]
      refine congrArg (fun v => some (v, S)) (zb_c ?_)
      constructor
      · rintro ⟨z, z0, z1, z2⟩; exact ⟨z, by omega, z1, z2⟩
      · rintro ⟨z, z0, z1, z2⟩
        by_cases hz : z = n
        · rw [hz] at z2; exact absurd z2 hq
        · exact ⟨z, by omega, z1, z2⟩
theorem zO_leadsWithin_s (h : zR K x y S) (g : zGp x) (d : Nat) {r s l e P : Int} (hr : 0 ≤ r ∧ r < 12) (hs : 0 ≤ s ∧ s < 2) (hl : 0 ≤ l ∧ l < 10) (hP : 0 ≤ P ∧ P ≤ 4) (he : -1 ≤ e ∧ e < 116) :
    zO_leadsWithin (d + 3) (zI r) (zI s) (zI l) (zI P) (zI e) S = some (zb (∃ q, 0 ≤ q ∧ q < P ∧ zEp x r s l q = e), S) := by
  rw [eO_leadsWithin, zI_n0]
  exact zO_leadsWithin_3_s h g d hr hs hl hP.2 he P.toNat 0 (by omega) (by omega)
/-- what has been counted at the first p places of section s -/
def zMs (K : ZS) (x y : ZW) (r s l p u : Int) (S : ZS) : Prop := zR K x y S ∧ S.1 31 0 s.toNat = zI (zqc (zPo x r s l) (zEp x r s l) p) ∧ S.1 3 0 3 = zI (if s = 0 then zqc (zPs x r l) (zEp x r s l) p else u)
theorem zO_countEnd_s (g : zGp x) (d : Nat) {r s l p u : Int} (hr : 0 ≤ r ∧ r < 12) (hs : 0 ≤ s ∧ s < 2) (hl : 0 ≤ l ∧ l < 10) (hp : 0 ≤ p ∧ p < 4) (h : zMs K x y r s l p u S) :
    zwp (zO_countEnd (d + 4) (zI r) (zI s) (zI l) (zI p) S) (fun S' => zMs K x y r s l (p + 1) u S' ∧ (∀ t, t ≠ s.toNat → S'.1 31 0 t = S.1 31 0 t) ∧ S'.1 32 = S.1 32) := by
  obtain ⟨h, h1, h2⟩ := h
  have b6 : -1 ≤ zEp x r s l p ∧ zEp x r s l p < 116 := zG6 g _
  have b9 := zG9 g (zEp x r s l p)
  have b96 : 96 ≤ zEp x r s l p → x 9 (zEp x r s l p) = 0 := fun q => (g.2.2.2.2.2.2.2.2.2.2.2.1 _ q).1
  have same : (zqc (zPo x r s l) (zEp x r s l) (p + 1) = zqc (zPo x r s l) (zEp x r s l) p) → (s = 0 → zqc (zPs x r l) (zEp x r s l) (p + 1) = zqc (zPs x r l) (zEp x r s l) p) → zMs K x y r s l (p + 1) u S := by
    intro q1 q2
    refine ⟨h, by rw [q1]; exact h1, ?_⟩
    rw [h2]
    by_cases h0 : s = 0
    · rw [if_pos h0, if_pos h0, q2 h0]
    · rw [if_neg h0, if_neg h0]
  rw [eO_countEnd, zP_leadsTo_s h (d + 1) hr hs hl hp, zBs]
  dsimp only
  rw [zI_n1, zI_neg, zI_eq (by omega) (by omega) (by omega) (by omega)]
  by_cases e1 : zEp x r s l p = -1
  · rw [zif_pos e1, zwp_some]
    exact ⟨same (zqc_s hp.1 (Or.inl (by omega))) (fun _ => zqc_s hp.1 (Or.inl (by omega))), fun _ _ => rfl, rfl⟩
  · rw [zif_neg e1, zP_isOut_s h g (d + 2) (by omega) (by omega), zBs]
    dsimp only
    rw [zb_0]
    by_cases e2 : 0 ≤ zEp x r s l p ∧ zEp x r s l p < 96 ∧ x 9 (zEp x r s l p) = 1
    · rw [zif_neg (fun q => q e2), zwp_some]
      exact ⟨same (zqc_s hp.1 (Or.inr (Or.inl (fun q => by have := q.1; omega)))) (fun _ => zqc_s hp.1 (Or.inr (Or.inl (fun q => by have := q.1; omega)))), fun _ _ => rfl, rfl⟩
    · have e9 : x 9 (zEp x r s l p) = 0 := by
        by_cases q : 96 ≤ zEp x r s l p
        · exact b96 q
        · omega
      rw [zif_pos e2, zO_leadsWithin_s h g d hr hs hl (by omega) (by omega), zBs]
      dsimp only
      rw [zb_0]
      by_cases e3 : ∃ q, 0 ≤ q ∧ q < p ∧ zEp x r s l q = zEp x r s l p
      · rw [zif_neg (fun q => q e3), zwp_some]
        exact ⟨same (zqc_s hp.1 (Or.inr (Or.inr e3))) (fun _ => zqc_s hp.1 (Or.inr (Or.inr e3))), fun _ _ => rfl, rfl⟩
      · rw [zif_pos e3, zI_sub, zI_n4, zO_leadsWithin_s h g d hr (s := 1 - s) (by omega) hl (by omega) (by omega), zBs]
        dsimp only
        rw [zb_0]
        by_cases e4 : ∃ q, 0 ≤ q ∧ q < 4 ∧ zEp x r (1 - s) l q = zEp x r s l p
        · have no : zqc (zPo x r s l) (zEp x r s l) (p + 1) = zqc (zPo x r s l) (zEp x r s l) p := zqc_s hp.1 (Or.inr (Or.inl (fun q => q.2 e4)))
          rw [zif_neg (fun q => q e4), zI_n0, zI_eq (by omega) (by omega) (by omega) (by omega)]
          by_cases h0 : s = 0
          · subst h0
            rw [zif_pos rfl, zwp_some, h2, if_pos rfl, zI_add]
            refine ⟨⟨zR_s h (by decide) 0 _, ?_, ?_⟩, fun t ht => rfl, rfl⟩
            · rw [no]; exact h1
            · rw [if_pos rfl, zqc_m hp.1 (by omega) (by omega) ⟨e9, e4⟩ e3]
              exact zu_same S.1 3 0 3 (zI (zqc (zPs x r l) (zEp x r 0 l) p + 1))
          · rw [zif_neg h0, zwp_some]
            exact ⟨same no (fun q => absurd q h0), fun _ _ => rfl, rfl⟩
        · have ma : zqc (zPo x r s l) (zEp x r s l) (p + 1) = zqc (zPo x r s l) (zEp x r s l) p + 1 := zqc_m hp.1 (by omega) (by omega) ⟨e9, e4⟩ e3
          rw [zif_pos e4, zg_t (by rw [zI_in (by omega) (by omega)]; omega), zg_t (by rw [zI_in (by omega) (by omega)]; omega), zI_zx (by omega) (by omega), h1, zI_add, zwp_some]
          refine ⟨⟨zR_t h (by decide) 0 _ _, ?_, ?_⟩, fun t ht => ?_, ?_⟩
          · rw [ma]; exact zu_same _ _ _ _ _
          · refine (show _ = _ from h2).trans ?_
            by_cases h0 : s = 0
            · subst h0
              rw [if_pos rfl, if_pos rfl, zqc_s hp.1 (Or.inr (Or.inl (fun q => e4 q.2)))]
            · rw [if_neg h0, if_neg h0]
          · exact zu_pl _ ht
          · rfl
end CM
