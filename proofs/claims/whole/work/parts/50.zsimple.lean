/-! SIMPLE METHODS in closed form: zone, forget (the pattern of the equivalence) -/
theorem zin_of {a : Int32} {n : Nat} (h0 : ¬ a < 0) (h1 : ¬ Int32.ofNat n ≤ a) (hn : n < 2147483648) : zin a n = true := by
  unfold zin
  rw [decide_eq_true_iff]
  rintro (h | h)
  · exact h0 h
  · refine h1 ?_
    rw [Int32.le_iff_toInt_le, Int32.toInt_ofNat_of_lt hn]
    rw [Int32.lt_iff_toInt_lt, Int32.toInt_zero] at h0
    have e : a.toNatClampNeg = a.toInt.toNat := rfl
    rw [e] at h
    omega
theorem zu_same {α : Type} (f : ZMp α) (t i k : Nat) (v : α) : zu f t i k v t i k = v := if_pos ⟨rfl, rfl, rfl⟩
theorem zu_tag {α : Type} (f : ZMp α) {t i k t' i' k' : Nat} {v : α} (h : t' ≠ t) : zu f t i k v t' i' k' = f t' i' k' := if_neg fun e => h e.1
theorem zu_pl {α : Type} (f : ZMp α) {t i k t' i' k' : Nat} {v : α} (h : k' ≠ k) : zu f t i k v t' i' k' = f t' i' k' := if_neg fun e => h e.2.2
/-- the numbers that zone takes -/
def zokz (a b : Int32) : Prop := ¬ a < 0 ∧ ¬ (16 : Int32) ≤ a ∧ ¬ b < 1 ∧ b ≤ 9
theorem zX_zone_c (d : Nat) (a b : Int32) (S : ZS) : zX_zone (d + 2) a b S = zif (zokz a b) (some (1, (zu S.1 40 0 (zx a) b, S.2))) (some (0, S)) := by
  rw [eX_zone, eP_tellZone]
  by_cases h1 : a < 0
  · rw [zif_pos h1, zif_neg (fun q => q.1 h1)]
    rfl
  · rw [zif_neg h1]
    by_cases h2 : (16 : Int32) ≤ a
    · rw [zif_pos h2, zif_neg (fun q => q.2.1 h2)]
      rfl
    · rw [zif_neg h2]
      by_cases h3 : b < 1
      · rw [zif_pos h3, zif_neg (fun q => q.2.2.1 h3)]
        rfl
      · rw [zif_neg h3]
        by_cases h4 : b ≤ 9
        · rw [zif_pos h4, zif_pos ⟨h1, h2, h3, h4⟩, zg_t (zin_of h1 h2 (by decide))]
          rfl
        · rw [zif_neg h4, zif_neg (fun q => h4 q.2.2.2)]
          rfl
theorem zM_within_c (d : Nat) (a lo hi : Int32) (S : ZS) : zM_within (d + 1) a lo hi S = zif (¬ a < lo ∧ ¬ hi < a) (some (1, S)) (some (0, S)) := by
  rw [eM_within]
  by_cases h1 : a < lo
  · rw [zif_pos h1, zif_neg (fun q => q.1 h1)]
  · rw [zif_neg h1]
    by_cases h2 : hi < a
    · rw [zif_pos h2, zif_neg (fun q => q.2 h2)]
    · rw [zif_neg h2, zif_pos ⟨h1, h2⟩]
theorem zX_forget_c (d : Nat) (S : ZS) : zX_forget (d + 1) S = some (S.1 8 0 1, (zu S.1 8 0 1 0, S.2)) := eX_forget d S
theorem zM_forget_c (d : Nat) (S : ZS) : zM_forget (d + 1) S = some (S.1 11 0 75, (zu (zu S.1 11 0 0 0) 11 0 75 0, S.2)) := by
  rw [eM_forget, zu_pl _ (by decide)]
