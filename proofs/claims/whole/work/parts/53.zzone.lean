/-! zone of the reference, held of both, in closed form -/
theorem z15 (a : Int32) : ¬ (15 : Int32) < a ↔ ¬ (16 : Int32) ≤ a := by
  rw [Int32.lt_iff_toInt_lt, Int32.le_iff_toInt_le]
  have h1 : (15 : Int32).toInt = 15 := rfl
  have h2 : (16 : Int32).toInt = 16 := rfl
  rw [h1, h2]
  constructor
  · exact fun h q => h (by omega)
  · exact fun h q => h (by omega)
theorem zM_zone_c (d : Nat) (a b : Int32) (S : ZS) : zM_zone (d + 2) a b S = zif (zokz a b) (some (1, (zu (zu S.1 11 0 0 0) 63 0 (zx a) b, S.2))) (some (0, (zu S.1 11 0 0 0, S.2))) := by
  rw [eM_zone, zM_within_c]
  by_cases h1 : ¬ a < 0 ∧ ¬ (15 : Int32) < a
  · rw [zif_pos h1]
    show zif ((1 : Int32) = 0) _ ((zM_within (d + 1) b 1 9 (zu S.1 11 0 0 0, S.2)).bind _) = _
    rw [zif_neg (by decide), zM_within_c]
    by_cases h2 : ¬ b < 1 ∧ ¬ (9 : Int32) < b
    · rw [zif_pos h2, zif_pos (show zokz a b from ⟨h1.1, (z15 a).mp h1.2, h2.1, Int32.not_lt.mp h2.2⟩)]
      show zif ((1 : Int32) = 0) _ (zg (zin a 16) _) = _
      rw [zif_neg (by decide), zg_t (zin_of h1.1 ((z15 a).mp h1.2) (by decide))]
    · rw [zif_neg h2, zif_neg (show ¬ zokz a b from fun q => h2 ⟨q.2.2.1, Int32.not_lt.mpr q.2.2.2⟩)]
      show zif ((0 : Int32) = 0) _ _ = _
      rw [zif_pos rfl]
  · rw [zif_neg h1, zif_neg (show ¬ zokz a b from fun q => h1 ⟨q.1, (z15 a).mpr q.2.1⟩)]
    show zif ((0 : Int32) = 0) _ _ = _
    rw [zif_pos rfl]
/-- an end lies below 116 -/
theorem zise_in {R : Nat} {w : Nat → Nat} {a : Int32} (hR : R ≤ 12) (h : zise R w a) : zin a 116 = true := by
  rcases h with ⟨n, hn, rfl, h, -⟩ | h
  · rw [n32_in hn]
    exact decide_eq_true (by omega)
  · refine zin_of (fun q => h.1 ?_) h.2 (by decide)
    rw [Int32.lt_iff_toInt_lt] at q ⊢
    have h1 : (0 : Int32).toInt = 0 := rfl
    have h2 : (100 : Int32).toInt = 100 := rfl
    rw [h1] at q
    rw [h2]
    omega
theorem zX_held_c (d : Nat) (a : Int32) (S : ZS) {R : Nat} {w : Nat → Nat} (hR : R ≤ 12) (hr : S.1 4 0 0 = Int32.ofNat R) (hw : ∀ k, k < 12 → S.1 34 0 k = Int32.ofNat (w k)) (hw8 : ∀ k, k < 12 → w k ≤ 8) :
    zX_held (d + 3) a S = zif (zise R w a) (some (S.1 39 0 (zx a), S)) (some (-1, S)) := by
  rw [eX_held, zP_isEnd_c d a S hR hr hw hw8]
  by_cases h : zise R w a
  · rw [zif_pos h, zif_pos h]
    show zif ((1 : Int32) = 0) _ _ = _
    rw [zif_neg (by decide), zg_t (zise_in hR h)]
  · rw [zif_neg h, zif_neg h]
    show zif ((0 : Int32) = 0) _ _ = _
    rw [zif_pos rfl]
theorem zM_held_c (d : Nat) (a : Int32) (S : ZS) {R : Nat} {w : Nat → Nat} (hR : R ≤ 12) (hr : S.1 11 0 2 = Int32.ofNat R) (hw : ∀ k, k < 12 → S.1 60 0 k = Int32.ofNat (w k)) (hw8 : ∀ k, k < 12 → w k ≤ 8) :
    zM_held (d + 3) a S = zif (zise R w a) (some (S.1 64 0 (zx a), (zu S.1 11 0 0 0, S.2))) (some (-1, (zu S.1 11 0 0 0, S.2))) := by
  rw [eM_held, zM_isEnd_c d a (zu S.1 11 0 0 0, S.2) hR (show (zu S.1 11 0 0 0) 11 0 2 = _ by rw [zu_pl _ (by decide)]; exact hr) (fun k hk => show (zu S.1 11 0 0 0) 60 0 k = _ by rw [zu_tag _ (by decide)]; exact hw k hk) hw8]
  by_cases h : zise R w a
  · rw [zif_pos h, zif_pos h]
    show zif ((1 : Int32) = 0) _ (zg (zin a 116) (some ((zu S.1 11 0 0 0) 64 0 (zx a), (zu S.1 11 0 0 0, S.2)))) = _
    rw [zif_neg (by decide), zg_t (zise_in hR h), zu_tag _ (by decide)]
  · rw [zif_neg h, zif_neg h]
    show zif ((0 : Int32) = 0) _ _ = _
    rw [zif_pos rfl]
