/-! out, faulty of both in closed form -/
theorem zisw_in {R m : Nat} {w : Nat → Nat} {a : Int32} (hR : R ≤ 12) (hm : 96 ≤ m) (h : zisw R w a) : zin a m = true := by
  obtain ⟨n, hn, rfl, h, -⟩ := h
  rw [n32_in hn]
  exact decide_eq_true (by omega)
theorem zX_out_c (d : Nat) (a b : Int32) (S : ZS) {R : Nat} {w : Nat → Nat} (hR : R ≤ 12) (hr : S.1 4 0 0 = Int32.ofNat R) (hw : ∀ k, k < 12 → S.1 34 0 k = Int32.ofNat (w k)) (hw8 : ∀ k, k < 12 → w k ≤ 8) (hb : zbl b = true) :
    zX_out (d + 2) a b S = zif (zisw R w a) (some (1, (zu S.1 37 0 (zx a) b, S.2))) (some (0, S)) := by
  rw [eX_out, zP_isSwitch_c d a S hR hr hw hw8]
  by_cases h : zisw R w a
  · rw [zif_pos h, zif_pos h]
    show zif ((1 : Int32) = 0) _ _ = _
    rw [zif_neg (by decide), zg_t (zisw_in hR (by decide) h), zg_t hb]
  · rw [zif_neg h, zif_neg h]
    show zif ((0 : Int32) = 0) _ _ = _
    rw [zif_pos rfl]
theorem zM_out_c (d : Nat) (a b : Int32) (S : ZS) {R : Nat} {w : Nat → Nat} (hR : R ≤ 12) (hr : S.1 11 0 2 = Int32.ofNat R) (hw : ∀ k, k < 12 → S.1 60 0 k = Int32.ofNat (w k)) (hw8 : ∀ k, k < 12 → w k ≤ 8) (hb : zbl b = true) :
    zM_out (d + 2) a b S = zif (zisw R w a) (some (1, (zu (zu S.1 11 0 0 0) 65 0 (zx a) b, S.2))) (some (0, (zu S.1 11 0 0 0, S.2))) := by
  rw [eM_out, zM_isSwitch_c d a (zu S.1 11 0 0 0, S.2) hR (show (zu S.1 11 0 0 0) 11 0 2 = _ by rw [zu_pl _ (by decide)]; exact hr) (fun k hk => show (zu S.1 11 0 0 0) 60 0 k = _ by rw [zu_tag _ (by decide)]; exact hw k hk) hw8]
  by_cases h : zisw R w a
  · rw [zif_pos h, zif_pos h]
    show zif ((1 : Int32) = 0) _ _ = _
    rw [zif_neg (by decide), zg_t (zisw_in hR (by decide) h), zg_t hb]
  · rw [zif_neg h, zif_neg h]
    show zif ((0 : Int32) = 0) _ _ = _
    rw [zif_pos rfl]
theorem zX_faulty_c (d : Nat) (a b : Int32) (S : ZS) {R : Nat} {w : Nat → Nat} (hR : R ≤ 12) (hr : S.1 4 0 0 = Int32.ofNat R) (hw : ∀ k, k < 12 → S.1 34 0 k = Int32.ofNat (w k)) (hw8 : ∀ k, k < 12 → w k ≤ 8) (hb : zbl b = true) :
    zX_faulty (d + 2) a b S = zif (zisw R w a) (some (1, (zu S.1 38 0 (zx a) b, S.2))) (some (0, S)) := by
  rw [eX_faulty, zP_isSwitch_c d a S hR hr hw hw8]
  by_cases h : zisw R w a
  · rw [zif_pos h, zif_pos h]
    show zif ((1 : Int32) = 0) _ _ = _
    rw [zif_neg (by decide), zg_t (zisw_in hR (by decide) h), zg_t hb]
  · rw [zif_neg h, zif_neg h]
    show zif ((0 : Int32) = 0) _ _ = _
    rw [zif_pos rfl]
theorem zM_faulty_c (d : Nat) (a b : Int32) (S : ZS) {R : Nat} {w : Nat → Nat} (hR : R ≤ 12) (hr : S.1 11 0 2 = Int32.ofNat R) (hw : ∀ k, k < 12 → S.1 60 0 k = Int32.ofNat (w k)) (hw8 : ∀ k, k < 12 → w k ≤ 8) (hb : zbl b = true) :
    zM_faulty (d + 2) a b S = zif (zisw R w a) (some (1, (zu (zu S.1 11 0 0 0) 66 0 (zx a) b, S.2))) (some (0, (zu S.1 11 0 0 0, S.2))) := by
  rw [eM_faulty, zM_isSwitch_c d a (zu S.1 11 0 0 0, S.2) hR (show (zu S.1 11 0 0 0) 11 0 2 = _ by rw [zu_pl _ (by decide)]; exact hr) (fun k hk => show (zu S.1 11 0 0 0) 60 0 k = _ by rw [zu_tag _ (by decide)]; exact hw k hk) hw8]
  by_cases h : zisw R w a
  · rw [zif_pos h, zif_pos h]
    show zif ((1 : Int32) = 0) _ _ = _
    rw [zif_neg (by decide), zg_t (zisw_in hR (by decide) h), zg_t hb]
  · rw [zif_neg h, zif_neg h]
    show zif ((0 : Int32) = 0) _ _ = _
    rw [zif_pos rfl]
