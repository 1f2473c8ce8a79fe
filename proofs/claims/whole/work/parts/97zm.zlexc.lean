/-! THE TAPE of the class: words, signs -/
def qkw (v : Int) : Int := if v = 523076 then 0 else if v = 168984 then 1 else if v = 2968 then 2 else if v = 173107021 then 3 else if v = 11442943 then 4 else if v = 243140 then 5 else if v = 8903 then 6 else if v = 423812 then 7 else if v = 99233 then 8 else if v = 458690 then 9 else if v = 1111 then 10 else if v = 423 then 11 else if v = 10631 then 12 else -1
def qcd (i : Int) : Int := if i = 0 then 523076 else if i = 1 then 168984 else if i = 2 then 2968 else if i = 3 then 173107021 else if i = 4 then 11442943 else if i = 5 then 243140 else if i = 6 then 8903 else if i = 7 then 423812 else if i = 8 then 99233 else if i = 9 then 458690 else if i = 10 then 1111 else if i = 11 then 423 else 10631
theorem qkw_b (v : Int) : -1 ≤ qkw v ∧ qkw v ≤ 12 := by
  unfold qkw
  repeat' split
  all_goals omega
theorem qkw_d (v : Int) : qkw v = -1 ∨ v = qcd (qkw v) := by
  by_cases h0 : v = 523076
  · right
    rw [h0]
    rfl
  by_cases h1 : v = 168984
  · right
    rw [h1]
    rfl
  by_cases h2 : v = 2968
  · right
    rw [h2]
    rfl
  by_cases h3 : v = 173107021
  · right
    rw [h3]
    rfl
  by_cases h4 : v = 11442943
  · right
    rw [h4]
    rfl
  by_cases h5 : v = 243140
  · right
    rw [h5]
    rfl
  by_cases h6 : v = 8903
  · right
    rw [h6]
    rfl
  by_cases h7 : v = 423812
  · right
    rw [h7]
    rfl
  by_cases h8 : v = 99233
  · right
    rw [h8]
    rfl
  by_cases h9 : v = 458690
  · right
    rw [h9]
    rfl
  by_cases h10 : v = 1111
  · right
    rw [h10]
    rfl
  by_cases h11 : v = 423
  · right
    rw [h11]
    rfl
  by_cases h12 : v = 10631
  · right
    rw [h12]
    rfl
  left
  unfold qkw
  rw [if_neg h0, if_neg h1, if_neg h2, if_neg h3, if_neg h4, if_neg h5, if_neg h6, if_neg h7, if_neg h8, if_neg h9, if_neg h10, if_neg h11, if_neg h12]
theorem qkw_c (v i : Int) (hi : 0 ≤ i ∧ i ≤ 12) : qkw v = i ↔ v = qcd i := by
  have : i = 0 ∨ i = 1 ∨ i = 2 ∨ i = 3 ∨ i = 4 ∨ i = 5 ∨ i = 6 ∨ i = 7 ∨ i = 8 ∨ i = 9 ∨ i = 10 ∨ i = 11 ∨ i = 12 := by omega
  constructor
  · intro h
    rcases qkw_d v with q | q
    · omega
    · rw [h] at q
      exact q
  · intro h
    rw [h]
    rcases this with rfl | rfl | rfl | rfl | rfl | rfl | rfl | rfl | rfl | rfl | rfl | rfl | rfl <;> rfl
theorem qcd_t : ∀ i : Nat, i < 13 → qcd i = zvl 27 (fun k => (zscw i k.toNat).toInt - 96) (zsl i) ∧ (1 ≤ zsl i ∧ zsl i ≤ 8) ∧ ∀ k : Nat, k < zsl i → 1 ≤ (zscw i k).toInt - 96 ∧ (zscw i k).toInt - 96 ≤ 26 := by decide +kernel
theorem qlen_s (d : Nat) (S : ZS) {i : Nat} (hi : i < 14) : zS0_length_8abf5 (d + 2) i S = some (zI (zsl i), S) := by
  have h : ∀ i : Nat, i < 14 → (Int32.ofNat (zsl i)) >>> ((0 : Int32) &&& 31) = zI (zsl i) := by decide +kernel
  rw [eS0_length_8abf5, eS0_coder_7d493, zif_neg (by decide), zBs]
  dsimp only
  rw [h i hi]
theorem qlat_s (d : Nat) (S : ZS) (i : Nat) : zS0_isLatin1_aae02 (d + 1) i S = some (1, S) := by
  rw [eS0_isLatin1_aae02, zif_neg (by decide), zif_pos rfl]
theorem qchr_s (d : Nat) (S : ZS) {i : Nat} {k : Int} (hi : i < 13) (k0 : 0 ≤ k) (k1 : k < zsl i) : zS0_charAt_5068e (d + 4) i (zI k) S = some (zscw i k.toNat, S) := by
  have h : ∀ i : Nat, i < 13 → ∀ k : Nat, k < 8 → (((zscw i k) &&& (255 : Int32)).toUInt32 % 65536).toInt32 = zscw i k ∧ ((zscw i k).toUInt32 % 65536).toInt32 = zscw i k := by decide +kernel
  have l8 := (qcd_t i hi).2.1
  obtain ⟨h1, h2⟩ := h i hi k.toNat (by omega)
  have g : ∀ (o : Option (Int32 × ZS)), zgc (zscw i k.toNat) o = o := fun o => by
    unfold zgc
    rw [decide_eq_true h2]
    rfl
  have e : Int32.ofNat (zsl i) = zI (zsl i) := rfl
  rw [eS0_charAt_5068e, qlat_s, zBs]
  dsimp only
  rw [zif_neg (by decide), eS1_charAt_3b067, eS0_checkIndex_df160, eS3_checkIndex_8e157, e, zI_n0, zI_lt (by omega) (by omega) (by omega) (by omega), zI_lt (by omega) (by omega) (by omega) (by omega), zif_neg (by omega), zif_pos k1, zBs, zBs]
  dsimp only
  rw [zg_t (by rw [zI_in (by omega) (by omega)]; omega), zI_zx (by omega) (by omega), h1, g, zBs]
  dsimp only
  rw [g]
/-- the signs of a tariff -/
def qsg (c : Int) : Prop := (40 ≤ c ∧ c ≤ 43) ∨ c = 45 ∨ (59 ≤ c ∧ c ≤ 61)
theorem qidx_s (d : Nat) (S : ZS) {c : Int} (hc : 0 ≤ c ∧ c ≤ 126) : ∃ r : Int, zS0_indexOf_0f7a4 (d + 5) 13 (zI c) S = some (zI r, S) ∧ (-1 ≤ r ∧ r < 8) ∧ (0 ≤ r ↔ qsg c) := by
  have h8 : ∀ c : Nat, c < 127 → (zI c).toInt8.toInt32 = zI c := by decide +kernel
  have hs : ∀ k : Nat, k < 8 → zscw 13 k = zI (if k = 0 then 40 else if k = 1 then 41 else if k = 2 then 60 else if k = 3 then 61 else if k = 4 then 43 else if k = 5 then 45 else if k = 6 then 42 else 59) := by decide +kernel
  have key : ∀ (m : Nat) (j : Int), 0 ≤ j → j + m = 8 → ∃ r : Int, zS1_indexOfChar_4cfef_7 (d + 1) 13 (zI 8) (zI c) (zI j) S = some (zI r, S) ∧ (-1 ≤ r ∧ r < 8) ∧ (0 ≤ r ↔ ∃ k : Int, j ≤ k ∧ k < 8 ∧ c = (if k = 0 then 40 else if k = 1 then 41 else if k = 2 then 60 else if k = 3 then 61 else if k = 4 then 43 else if k = 5 then 45 else if k = 6 then 42 else 59)) := by
    intro m
    induction m with
    | zero =>
      intro j j0 e
      refine ⟨-1, ?_, by omega, ⟨fun q => by omega, fun q => ?_⟩⟩
      · rw [eS1_indexOfChar_4cfef_7, zI_le (by omega) (by omega) (by omega) (by omega), zif_pos (by omega)]
        rfl
      · obtain ⟨k, a, b, -⟩ := q
        omega
    | succ m ih =>
      intro j j0 e
      obtain ⟨r, r1, r2, r3⟩ := ih (j + 1) (by omega) (by omega)
      have z := hs j.toNat (by omega)
      have l13 : zsl 13 = 8 := rfl
      have e1 : (if j.toNat = 0 then (40 : Int) else if j.toNat = 1 then 41 else if j.toNat = 2 then 60 else if j.toNat = 3 then 61 else if j.toNat = 4 then 43 else if j.toNat = 5 then 45 else if j.toNat = 6 then 42 else 59) = (if j = 0 then 40 else if j = 1 then 41 else if j = 2 then 60 else if j = 3 then 61 else if j = 4 then 43 else if j = 5 then 45 else if j = 6 then 42 else 59) := by
        have : j = 0 ∨ j = 1 ∨ j = 2 ∨ j = 3 ∨ j = 4 ∨ j = 5 ∨ j = 6 ∨ j = 7 := by omega
        rcases this with rfl | rfl | rfl | rfl | rfl | rfl | rfl | rfl <;> rfl
      rw [e1] at z
      have bv : 0 ≤ (if j = 0 then (40 : Int) else if j = 1 then 41 else if j = 2 then 60 else if j = 3 then 61 else if j = 4 then 43 else if j = 5 then 45 else if j = 6 then 42 else 59) ∧ (if j = 0 then (40 : Int) else if j = 1 then 41 else if j = 2 then 60 else if j = 3 then 61 else if j = 4 then 43 else if j = 5 then 45 else if j = 6 then 42 else 59) < 100 := by
        repeat' split
        all_goals omega
      rw [eS1_indexOfChar_4cfef_7, zI_le (by omega) (by omega) (by omega) (by omega), zif_neg (by omega), zg_t (by rw [l13, zI_in (by omega) (by omega)]; omega), zI_zx (by omega) (by omega), z, zI_eq (by omega) (by omega) (by omega) (by omega), zI_n1, zI_add]
      by_cases q : (if j = 0 then (40 : Int) else if j = 1 then 41 else if j = 2 then 60 else if j = 3 then 61 else if j = 4 then 43 else if j = 5 then 45 else if j = 6 then 42 else 59) = c
      · rw [zif_pos q]
        exact ⟨j, rfl, by omega, ⟨fun _ => ⟨j, by omega, by omega, q.symm⟩, fun _ => j0⟩⟩
      · rw [zif_neg q]
        refine ⟨r, r1, r2, r3.trans ⟨fun w => ?_, fun w => ?_⟩⟩
        · obtain ⟨k, a, b, c⟩ := w
          exact ⟨k, by omega, b, c⟩
        · obtain ⟨k, a, b, c'⟩ := w
          by_cases t : k = j
          · rw [t] at c'
            exact absurd c'.symm q
          · exact ⟨k, by omega, b, c'⟩
  obtain ⟨r, r1, r2, r3⟩ := key 8 0 (by omega) (by omega)
  refine ⟨r, ?_, r2, r3.trans ⟨fun w => ?_, fun w => ?_⟩⟩
  · have t := h8 c.toNat (by omega)
    rw [show ((c.toNat : Nat) : Int) = c by omega] at t
    have z8 : Int32.ofNat (zsl 13) = zI 8 := rfl
    have mx : zci (zcall (d + 2)) 1000 [zi (0 : Int32), zi (0 : Int32)] S = some (zI 0, S) := rfl
    have mn : zci (zcall (d + 2)) 1001 [zi (zI 8), zi (zI 8)] S = some (zI 8, S) := rfl
    rw [eS0_indexOf_0f7a4, eS0_indexOf_7cf53, qlat_s, zBs]
    dsimp only
    rw [zif_neg (by decide), qlen_s (d + 1) S (by decide), zBs]
    dsimp only
    rw [eS1_indexOf_4cfef, eS1_canEncode_9a6ad, zI_n0, zI_lt (by omega) (by omega) (by omega) (by omega), zif_neg (by omega), zI_n255, zI_lt (by omega) (by omega) (by omega) (by omega), zif_neg (by omega), zBs]
    dsimp only
    rw [zif_neg (by decide), z8]
    rw [show zI ((zsl 13 : Nat) : Int) = zI 8 from rfl]
    rw [show zci (zcall (d + 2)) 1000 [zi (zI 0), zi (zI 0)] S = some (zI 0, S) from mx, zBs]
    dsimp only
    rw [mn, zBs]
    dsimp only
    rw [zI_lt (by omega) (by omega) (by omega) (by omega), zif_pos (by omega), eS1_indexOfChar_4cfef, t, r1, zBs]
    dsimp only
    rw [zBs]
    dsimp only
    rw [zBs]
  · obtain ⟨k, a, b, c'⟩ := w
    have : k = 0 ∨ k = 1 ∨ k = 2 ∨ k = 3 ∨ k = 4 ∨ k = 5 ∨ k = 6 ∨ k = 7 := by omega
    unfold qsg
    rcases this with rfl | rfl | rfl | rfl | rfl | rfl | rfl | rfl <;> simp only [Int.reduceEq, if_true, if_false] at c' <;> omega
  · unfold qsg at w
    have : c = 40 ∨ c = 41 ∨ c = 60 ∨ c = 61 ∨ c = 43 ∨ c = 45 ∨ c = 42 ∨ c = 59 := by omega
    rcases this with w | w | w | w | w | w | w | w
    · exact ⟨0, by omega, by omega, w⟩
    · exact ⟨1, by omega, by omega, w⟩
    · exact ⟨2, by omega, by omega, w⟩
    · exact ⟨3, by omega, by omega, w⟩
    · exact ⟨4, by omega, by omega, w⟩
    · exact ⟨5, by omega, by omega, w⟩
    · exact ⟨6, by omega, by omega, w⟩
    · exact ⟨7, by omega, by omega, w⟩
