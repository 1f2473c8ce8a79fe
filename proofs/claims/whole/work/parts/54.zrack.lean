/-! rack of both in closed form -/
def zmpt (a : Int32) : Int32 := if a = 0 then 2 else if a = 1 then 1 else 0
def zokr (R : Nat) (a1 a2 a3 : Int32) : Prop := ¬ a3 < 1 ∧ ¬ zmpt a1 < a3 ∧ ¬ a2 < 1 ∧ ¬ (8 : Int32) < a2 ∧ R < 12
theorem zP_addRack_c (d : Nat) (a1 a2 a3 : Int32) (S : ZS) {R : Nat} (hR : R ≤ 12) (hr : S.1 4 0 0 = Int32.ofNat R) :
    zP_addRack (d + 1) a1 a2 a3 S = zif (zokr R a1 a2 a3) (some (Int32.ofNat R, (zu (zu (zu (zu S.1 33 0 R a1) 34 0 R a2) 35 0 R a3) 4 0 0 (Int32.ofNat (R + 1)), S.2))) (some (-1, S)) := by
  have key : ∀ s0, s0 = zmpt a1 → zP_addRack_18 d a1 a2 a3 s0 S = zif (zokr R a1 a2 a3) (some (Int32.ofNat R, (zu (zu (zu (zu S.1 33 0 R a1) 34 0 R a2) 35 0 R a3) 4 0 0 (Int32.ofNat (R + 1)), S.2))) (some (-1, S)) := by
    intro s0 hs
    subst hs
    rw [eP_addRack_18]
    by_cases h1 : a3 < 1
    · rw [zif_pos h1, zif_neg (show ¬ zokr R a1 a2 a3 from fun q => q.1 h1)]
    · rw [zif_neg h1]
      by_cases h2 : zmpt a1 < a3
      · rw [zif_pos h2, zif_neg (show ¬ zokr R a1 a2 a3 from fun q => q.2.1 h2)]
      · rw [zif_neg h2]
        by_cases h3 : a2 < 1
        · rw [zif_pos h3, zif_neg (show ¬ zokr R a1 a2 a3 from fun q => q.2.2.1 h3)]
        · rw [zif_neg h3]
          by_cases h4 : (8 : Int32) < a2
          · rw [zif_pos h4, zif_neg (show ¬ zokr R a1 a2 a3 from fun q => q.2.2.2.1 h4)]
          · rw [zif_neg h4, hr]
            by_cases h5 : R = 12
            · subst h5
              rw [zif_pos (show Int32.ofNat 12 = (12 : Int32) from rfl), zif_neg (show ¬ zokr 12 a1 a2 a3 from fun q => absurd q.2.2.2.2 (by decide))]
            · have h12 : R < 12 := by omega
              rw [zif_neg (show ¬ Int32.ofNat R = (12 : Int32) from fun q => h5 ((n32_eq (b := 12) (by omega) (by decide)).mp q)), zif_pos (show zokr R a1 a2 a3 from ⟨h1, h2, h3, h4, h12⟩)]
              have e : zin (Int32.ofNat R) 12 = true := by rw [n32_in (by omega)]; exact decide_eq_true h12
              have e1 : Int32.ofNat R + (1 : Int32) = Int32.ofNat (R + 1) := n32_add R 1
              have e2 : Int32.ofNat (R + 1) - (1 : Int32) = Int32.ofNat R := n32_sub (a := R + 1) (b := 1) (by omega)
              have e3 : zx (Int32.ofNat R) = R := n32_zx (by omega)
              simp (disch := decide) only [zu_tag, zu_pl, zu_same, hr, e1, e2, e3]
              rw [zg_t e, zg_t e, zg_t e]
  rw [eP_addRack]
  by_cases h1 : a1 = 0
  · rw [zif_pos h1]
    exact key 2 (by unfold zmpt; rw [if_pos h1])
  · rw [zif_neg h1]
    by_cases h2 : a1 = 1
    · rw [zif_pos h2]
      exact key 1 (by unfold zmpt; rw [if_neg h1, if_pos h2])
    · rw [zif_neg h2]
      exact key 0 (by unfold zmpt; rw [if_neg h1, if_neg h2])
theorem zX_rack_c (d : Nat) (a1 a2 a3 : Int32) (S : ZS) {R : Nat} (hR : R ≤ 12) (hr : S.1 4 0 0 = Int32.ofNat R) :
    zX_rack (d + 2) a1 a2 a3 S = zif (zokr R a1 a2 a3) (some (Int32.ofNat R, (zu (zu (zu (zu S.1 33 0 R a1) 34 0 R a2) 35 0 R a3) 4 0 0 (Int32.ofNat (R + 1)), S.2))) (some (-1, S)) := by
  rw [eX_rack, zP_addRack_c d a1 a2 a3 S hR hr]
  by_cases h : zokr R a1 a2 a3
  · rw [zif_pos h]
    rfl
  · rw [zif_neg h]
    rfl
theorem z32_01 {a : Int32} (h : ¬ a < 0 ∧ ¬ (1 : Int32) < a) : a = 0 ∨ a = 1 := by
  obtain ⟨n, hn, rfl⟩ := n32_ex h.1
  have h2 : ¬ 1 < n := fun q => h.2 ((n32_lt (a := 1) (by decide) hn).mpr q)
  have : n = 0 ∨ n = 1 := by omega
  rcases this with rfl | rfl
  · exact Or.inl rfl
  · exact Or.inr rfl
theorem zM_rack_c (d : Nat) (a1 a2 a3 : Int32) (S : ZS) {R : Nat} (hR : R ≤ 12) (hr : S.1 11 0 2 = Int32.ofNat R) :
    zM_rack (d + 2) a1 a2 a3 S = zif (zokr R a1 a2 a3) (some (Int32.ofNat R, (zu (zu (zu (zu (zu S.1 11 0 0 0) 59 0 R a1) 60 0 R a2) 61 0 R a3) 11 0 2 (Int32.ofNat (R + 1)), S.2))) (some (-1, (zu S.1 11 0 0 0, S.2))) := by
  have hr2 : (zu S.1 11 0 0 0) 11 0 2 = Int32.ofNat R := by rw [zu_pl _ (by decide)]; exact hr
  have key : ∀ s0, s0 = zmpt a1 → ¬ a2 < 1 ∧ ¬ (8 : Int32) < a2 → zM_rack_35 (d + 1) a1 a2 a3 s0 1 a3 (zu S.1 11 0 0 0, S.2) = zif (zokr R a1 a2 a3) (some (Int32.ofNat R, (zu (zu (zu (zu (zu S.1 11 0 0 0) 59 0 R a1) 60 0 R a2) 61 0 R a3) 11 0 2 (Int32.ofNat (R + 1)), S.2))) (some (-1, (zu S.1 11 0 0 0, S.2))) := by
    intro s0 hs h34
    subst hs
    rw [eM_rack_35, zM_within_c]
    by_cases h1 : ¬ a3 < 1 ∧ ¬ zmpt a1 < a3
    · rw [zif_pos h1]
      generalize hI : zu S.1 11 0 0 0 = I at hr2 ⊢
      show zif ((1 : Int32) = 0) _ (zif (I 11 0 2 = (12 : Int32)) _ _) = _
      rw [zif_neg (by decide)]
      by_cases h5 : R = 12
      · subst h5
        rw [zif_pos (show I 11 0 2 = (12 : Int32) from hr2), zif_neg (show ¬ zokr 12 a1 a2 a3 from fun q => absurd q.2.2.2.2 (by decide))]
      · have h12 : R < 12 := by omega
        rw [zif_neg (by rw [hr2]; exact fun q => h5 ((n32_eq (b := 12) (by omega) (by decide)).mp q)), zif_pos (show zokr R a1 a2 a3 from ⟨h1.1, h1.2, h34.1, h34.2, h12⟩)]
        have e : zin (Int32.ofNat R) 12 = true := by rw [n32_in (by omega)]; exact decide_eq_true h12
        have e1 : Int32.ofNat R + (1 : Int32) = Int32.ofNat (R + 1) := n32_add R 1
        have e2 : Int32.ofNat (R + 1) - (1 : Int32) = Int32.ofNat R := n32_sub (a := R + 1) (b := 1) (by omega)
        have e3 : zx (Int32.ofNat R) = R := n32_zx (by omega)
        simp (disch := decide) only [zu_tag, zu_pl, zu_same, hr2, e1, e2, e3]
        rw [zg_t e, zg_t e, zg_t e]
    · rw [zif_neg h1, zif_neg (show ¬ zokr R a1 a2 a3 from fun q => h1 ⟨q.1, q.2.1⟩)]
      show zif ((0 : Int32) = 0) _ _ = _
      rw [zif_pos rfl]
  rw [eM_rack, zM_within_c]
  by_cases h1 : ¬ a1 < 0 ∧ ¬ (1 : Int32) < a1
  · rw [zif_pos h1]
    show zif ((1 : Int32) = 0) _ ((zM_within (d + 1) a2 1 8 (zu S.1 11 0 0 0, S.2)).bind _) = _
    rw [zif_neg (by decide), zM_within_c]
    by_cases h2 : ¬ a2 < 1 ∧ ¬ (8 : Int32) < a2
    · rw [zif_pos h2]
      show zif ((1 : Int32) = 0) _ (zif (a1 = 0) (zM_rack_35 (d + 1) a1 a2 a3 2 1 a3 (zu S.1 11 0 0 0, S.2)) (zM_rack_35 (d + 1) a1 a2 a3 1 1 a3 (zu S.1 11 0 0 0, S.2))) = _
      rw [zif_neg (by decide)]
      by_cases h3 : a1 = 0
      · rw [zif_pos h3]
        exact key 2 (by unfold zmpt; rw [if_pos h3]) h2
      · have h4 : a1 = 1 := (z32_01 h1).resolve_left h3
        rw [zif_neg h3]
        exact key 1 (by unfold zmpt; rw [if_neg h3, if_pos h4]) h2
    · rw [zif_neg h2, zif_neg (show ¬ zokr R a1 a2 a3 from fun q => h2 ⟨q.2.2.1, q.2.2.2.1⟩)]
      show zif ((0 : Int32) = 0) _ _ = _
      rw [zif_pos rfl]
  · have hno : ¬ zokr R a1 a2 a3 := by
      intro q
      have hz : zmpt a1 = 0 := by
        unfold zmpt
        rw [if_neg (fun e => h1 (by rw [e]; decide)), if_neg (fun e => h1 (by rw [e]; decide))]
      have q1 := q.1
      have q2 := q.2.1
      rw [hz, Int32.lt_iff_toInt_lt, Int32.toInt_zero] at q2
      rw [Int32.lt_iff_toInt_lt] at q1
      have e1 : (1 : Int32).toInt = 1 := rfl
      rw [e1] at q1
      omega
    rw [zif_neg h1, zif_neg hno]
    show zif ((0 : Int32) = 0) _ _ = _
    rw [zif_pos rfl]
