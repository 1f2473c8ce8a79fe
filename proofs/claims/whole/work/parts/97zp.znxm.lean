/-! THE TAPE of the reference: next -/
def qD (tp : Int → Int) (n : Int) (S : ZS) : Prop := S.1 11 0 38 = zI n ∧ ∀ i, 0 ≤ i → i < n → S.1 89 0 i.toNat = zI (tp i)
/-- the reference is at the token that begins at b -/
def qM (tp : Int → Int) (n : Int) (S : ZS) (b : Int) : Prop := S.1 11 0 40 = zI b ∧ S.1 11 0 39 = zI (b + zlnt tp n b) ∧ S.1 11 0 41 = zI (zkd tp n b) ∧ (zkd tp n b = 1 → S.2.1 11 0 42 = zJ (zwl tp n b)) ∧ (zkd tp n b = 2 → S.1 11 0 43 = zI (znv tp n b))
def qF11 (S S' : ZS) : Prop := (∀ t, t ≠ 11 → S'.1 t = S.1 t) ∧ (∀ k, k ≠ 39 → k ≠ 40 → k ≠ 41 → k ≠ 43 → S'.1 11 0 k = S.1 11 0 k) ∧ (∀ t, t ≠ 11 → S'.2.1 t = S.2.1 t) ∧ S'.2.2 = S.2.2
theorem qF11_r (S : ZS) : qF11 S S := ⟨fun _ _ => rfl, fun _ _ _ _ _ => rfl, fun _ _ => rfl, rfl⟩
theorem qF11_t {S S' S'' : ZS} (h : qF11 S S') (k : qF11 S' S'') : qF11 S S'' := ⟨fun t ht => (k.1 t ht).trans (h.1 t ht), fun s a b c e => (k.2.1 s a b c e).trans (h.2.1 s a b c e), fun t ht => (k.2.2.1 t ht).trans (h.2.2.1 t ht), k.2.2.2.trans h.2.2.2⟩
theorem qF11_u (S : ZS) {k : Nat} (hk : k = 39 ∨ k = 40 ∨ k = 41 ∨ k = 43) (v : Int32) : qF11 S (zu S.1 11 0 k v, S.2) := ⟨fun t ht => by
  funext i k'
  exact zu_tag S.1 ht, fun s a b c e => zu_pl S.1 (by omega), fun _ _ => rfl, rfl⟩
theorem qF11_l (S : ZS) (k : Nat) (v : Int64) : qF11 S (S.1, zu S.2.1 11 0 k v, S.2.2) := ⟨fun _ _ => rfl, fun _ _ _ _ _ => rfl, fun t ht => by
  funext i k'
  exact zu_tag S.2.1 ht, rfl⟩
theorem qD_f {tp : Int → Int} {n : Int} {S S' : ZS} (h : qD tp n S) (f : qF11 S S') : qD tp n S' := ⟨(f.2.1 38 (by decide) (by decide) (by decide) (by decide)).trans h.1, fun i a b => (congrFun (congrFun (f.1 89 (by decide)) 0) _).trans (h.2 i a b)⟩
section NM
variable {tp : Int → Int} {n b : Int} {S : ZS}
theorem zM_signAt_s (hB : qB tp n) (hD : qD tp n S) (d : Nat) {p : Int} (hp : 0 ≤ p ∧ p ≤ 1000) : zM_signAt (d + 1) (zI p) S = some (zI (if p < n then tp p else 0), S) := by
  have bn := hB.1
  rw [eM_signAt, hD.1, zI_le (by omega) (by omega) (by omega) (by omega)]
  by_cases q : n ≤ p
  · rw [zif_pos q, if_neg (by omega)]
    rfl
  · rw [zif_neg q, zg_t (by rw [zI_in (by omega) (by omega)]; omega), zI_zx (by omega) (by omega), hD.2 p hp.1 (by omega), if_pos (by omega)]
theorem zM_next_109_s (hB : qB tp n) (d : Nat) (hb : 0 ≤ b ∧ b < n) (h0 : 0 < zLt tp n b) :
    ∀ (k i : Nat) (S : ZS), b + i + k = n → zLt tp n b = i + zrnl tp 97 122 k (b + i) → qD tp n S → S.1 11 0 40 = zI b → S.1 11 0 39 = zI (b + i) → (i ≤ 8 → S.2.1 11 0 42 = zJ (zvl 27 (fun k => tp (b + k) - 96) i)) → zwp (zM_next_109 (d + 1) S) (fun S' => qM tp n S' b ∧ qF11 S S') := by
  have bn := hB.1
  have nF := zLF tp n h0
  intro k
  have fin : ∀ (i : Nat) (S : ZS), zLt tp n b = i → b + i ≤ n → S.1 11 0 40 = zI b → S.1 11 0 39 = zI (b + i) → (i ≤ 8 → S.2.1 11 0 42 = zJ (zvl 27 (fun k => tp (b + k) - 96) i)) → zwp (zM_next_188 (d + 1) S) (fun S' => qM tp n S' b ∧ qF11 S S') := by
    intro i S e hin c40 c39 cw
    have ln : zlnt tp n b = zLt tp n b := by unfold zlnt; rw [if_neg (by omega), if_pos h0]
    have kd : zkd tp n b = if zLt tp n b ≤ 8 then 1 else 4 := by unfold zkd; rw [if_neg (by omega), if_pos h0]
    rw [eM_next_188, c40, c39, zI_sub, zI_n8, zI_le (by omega) (by omega) (by omega) (by omega)]
    by_cases q : zLt tp n b ≤ 8
    · rw [if_pos q] at kd
      rw [zif_pos (by omega), zwp_some]
      refine ⟨⟨c40, ?_, ?_, fun _ => ?_, fun z => by omega⟩, qF11_u S (by omega) 1⟩
      · rw [ln, e]
        exact c39
      · rw [kd]
        exact zu_same S.1 11 0 41 1
      · unfold zwl
        rw [show (zLt tp n b).toNat = i by omega]
        exact cw (by omega)
    · rw [if_neg q] at kd
      rw [zif_neg (by omega), zwp_some]
      refine ⟨⟨c40, ?_, ?_, fun z => by omega, fun z => by omega⟩, qF11_u S (by omega) 4⟩
      · rw [ln, e]
        exact c39
      · rw [kd]
        exact zu_same S.1 11 0 41 4
  induction k with
  | zero =>
    intro i S e el hD c40 c39 cw
    rw [zrnl] at el
    rw [eM_next_109, c39, zM_signAt_s hB hD d (by omega), zBs]
    dsimp only
    rw [if_neg (by omega), zI_n97, zI_lt (by omega) (by omega) (by omega) (by omega), zif_pos (by omega)]
    exact fin i S (by omega) (by omega) c40 c39 cw
  | succ k ih =>
    intro i S e el hD c40 c39 cw
    have bt := hB.2 (b + i) (by omega) (by omega)
    rw [zrnl] at el
    rw [eM_next_109, c39, zM_signAt_s hB hD d (by omega), zBs]
    dsimp only
    rw [if_pos (by omega), zI_n97, zI_lt (by omega) (by omega) (by omega) (by omega)]
    by_cases q : tp (b + i) < 97
    · rw [if_neg (by omega)] at el
      rw [zif_pos q]
      exact fin i S (by omega) (by omega) c40 c39 cw
    · rw [zif_neg q, c39, zM_signAt_s hB hD d (by omega), zBs]
      dsimp only
      rw [if_pos (by omega), zI_n122, zI_lt (by omega) (by omega) (by omega) (by omega)]
      by_cases q2 : 122 < tp (b + i)
      · rw [if_neg (by omega)] at el
        rw [zif_pos q2]
        exact fin i S (by omega) (by omega) c40 c39 cw
      · rw [if_pos (by omega)] at el
        rw [zif_neg q2, c39, c40, zI_sub, zI_n8, zI_le (by omega) (by omega) (by omega) (by omega), zI_n1, zI_add]
        have ee : b + ((i + 1 : Nat) : Int) = b + i + 1 := by omega
        by_cases q3 : 8 ≤ b + (i : Int) - b
        · have f1 := qF11_u S (k := 39) (by omega) (zI (b + i + 1))
          rw [zif_pos q3]
          refine zwp_mono (ih (i + 1) _ (by omega) (by rw [ee]; omega) (qD_f hD f1) c40 (by rw [ee]; exact zu_same S.1 11 0 39 (zI (b + i + 1))) (fun z => by omega)) (fun S' w => ⟨w.1, qF11_t f1 w.2⟩)
        · have f1 := qF11_t (qF11_u S (k := 39) (by omega) (zI (b + i + 1))) (qF11_l (zu S.1 11 0 39 (zI (b + i + 1)), S.2) 42 (zJ (zvl 27 (fun k => tp (b + k) - 96) (i + 1))))
          rw [zif_neg q3, zM_signAt_s hB hD d (by omega), zBs]
          dsimp only
          rw [if_pos (by omega), c39, zI_add, cw (by omega), zI_J (by omega) (by omega), zJ_n27, zJ_n96, zJ_mul, zJ_add, zJ_sub, show zvl 27 (fun k => tp (b + k) - 96) i * 27 + tp (b + i) - 96 = zvl 27 (fun k => tp (b + k) - 96) (i + 1) by rw [zvl]; omega]
          exact zwp_mono (ih (i + 1) _ (by omega) (by rw [ee]; omega) (qD_f hD f1) c40 (by rw [ee]; exact zu_same S.1 11 0 39 (zI (b + i + 1))) (fun _ => zu_same S.2.1 11 0 42 (zJ (zvl 27 (fun k => tp (b + k) - 96) (i + 1))))) (fun S' w => ⟨w.1, qF11_t f1 w.2⟩)
theorem zM_next_224_s (hB : qB tp n) (d : Nat) (hb : 0 ≤ b ∧ b < n) (hL : ¬ 0 < zLt tp n b) (h0 : 0 < zFg tp n b) :
    ∀ (k i : Nat) (S : ZS), b + i + k = n → zFg tp n b = i + zrnl tp 48 57 k (b + i) → qD tp n S → S.1 11 0 40 = zI b → S.1 11 0 39 = zI (b + i) → (i ≤ 4 → S.1 11 0 43 = zI (zvl 10 (fun k => tp (b + k) - 48) i)) → zwp (zM_next_224 (d + 1) S) (fun S' => qM tp n S' b ∧ qF11 S S') := by
  have bn := hB.1
  intro k
  have fin : ∀ (i : Nat) (S : ZS), zFg tp n b = i → b + i ≤ n → S.1 11 0 40 = zI b → S.1 11 0 39 = zI (b + i) → (i ≤ 4 → S.1 11 0 43 = zI (zvl 10 (fun k => tp (b + k) - 48) i)) → zwp (zM_next_299 (d + 1) S) (fun S' => qM tp n S' b ∧ qF11 S S') := by
    intro i S e hin c40 c39 cw
    have ln : zlnt tp n b = zFg tp n b := by unfold zlnt; rw [if_neg (by omega), if_neg hL, if_pos h0]
    have kd : zkd tp n b = if zFg tp n b ≤ 4 then 2 else 4 := by unfold zkd; rw [if_neg (by omega), if_neg hL, if_pos h0]
    rw [eM_next_299, c40, c39, zI_sub, zI_n4, zI_le (by omega) (by omega) (by omega) (by omega)]
    by_cases q : zFg tp n b ≤ 4
    · rw [if_pos q] at kd
      rw [zif_pos (by omega), zwp_some]
      refine ⟨⟨c40, ?_, ?_, fun z => by omega, fun _ => ?_⟩, qF11_u S (by omega) 2⟩
      · rw [ln, e]
        exact c39
      · rw [kd]
        exact zu_same S.1 11 0 41 2
      · unfold znv
        rw [show (zFg tp n b).toNat = i by omega]
        exact cw (by omega)
    · rw [if_neg q] at kd
      rw [zif_neg (by omega), zwp_some]
      refine ⟨⟨c40, ?_, ?_, fun z => by omega, fun z => by omega⟩, qF11_u S (by omega) (zI 4)⟩
      · rw [ln, e]
        exact c39
      · rw [kd]
        exact zu_same S.1 11 0 41 (zI 4)
  induction k with
  | zero =>
    intro i S e el hD c40 c39 cw
    rw [zrnl] at el
    rw [eM_next_224, c39, zM_signAt_s hB hD d (by omega), zBs]
    dsimp only
    rw [if_neg (by omega), zI_n48, zI_lt (by omega) (by omega) (by omega) (by omega), zif_pos (by omega)]
    exact fin i S (by omega) (by omega) c40 c39 cw
  | succ k ih =>
    intro i S e el hD c40 c39 cw
    have bt := hB.2 (b + i) (by omega) (by omega)
    rw [zrnl] at el
    rw [eM_next_224, c39, zM_signAt_s hB hD d (by omega), zBs]
    dsimp only
    rw [if_pos (by omega), zI_n48, zI_lt (by omega) (by omega) (by omega) (by omega)]
    by_cases q : tp (b + i) < 48
    · rw [if_neg (by omega)] at el
      rw [zif_pos q]
      exact fin i S (by omega) (by omega) c40 c39 cw
    · rw [zif_neg q, c39, zM_signAt_s hB hD d (by omega), zBs]
      dsimp only
      rw [if_pos (by omega), zI_n57, zI_lt (by omega) (by omega) (by omega) (by omega)]
      by_cases q2 : 57 < tp (b + i)
      · rw [if_neg (by omega)] at el
        rw [zif_pos q2]
        exact fin i S (by omega) (by omega) c40 c39 cw
      · rw [if_pos (by omega)] at el
        rw [zif_neg q2, c39, c40, zI_sub, zI_n4, zI_le (by omega) (by omega) (by omega) (by omega), zI_n1, zI_add]
        have ee : b + ((i + 1 : Nat) : Int) = b + i + 1 := by omega
        by_cases q3 : 4 ≤ b + (i : Int) - b
        · have f1 := qF11_u S (k := 39) (by omega) (zI (b + i + 1))
          rw [zif_pos q3]
          refine zwp_mono (ih (i + 1) _ (by omega) (by rw [ee]; omega) (qD_f hD f1) c40 (by rw [ee]; exact zu_same S.1 11 0 39 (zI (b + i + 1))) (fun z => by omega)) (fun S' w => ⟨w.1, qF11_t f1 w.2⟩)
        · have f1 := qF11_t (qF11_u S (k := 43) (by omega) (zI (zvl 10 (fun k => tp (b + k) - 48) (i + 1)))) (qF11_u (zu S.1 11 0 43 (zI (zvl 10 (fun k => tp (b + k) - 48) (i + 1))), S.2) (k := 39) (by omega) (zI (b + i + 1)))
          rw [zif_neg q3, zM_signAt_s hB hD d (by omega), zBs]
          dsimp only
          rw [if_pos (by omega), cw (by omega), zI_n10, zI_mul, zI_add, zI_sub, show zvl 10 (fun k => tp (b + k) - 48) i * 10 + tp (b + i) - 48 = zvl 10 (fun k => tp (b + k) - 48) (i + 1) by rw [zvl]; omega, show (zu S.1 11 0 43 (zI (zvl 10 (fun k => tp (b + k) - 48) (i + 1)))) 11 0 39 = S.1 11 0 39 from rfl, c39, zI_add]
          exact zwp_mono (ih (i + 1) _ (by omega) (by rw [ee]; omega) (qD_f hD f1) c40 (by rw [ee]; exact zu_same (zu S.1 11 0 43 (zI (zvl 10 (fun k => tp (b + k) - 48) (i + 1)))) 11 0 39 (zI (b + i + 1))) (fun _ => zu_same S.1 11 0 43 (zI (zvl 10 (fun k => tp (b + k) - 48) (i + 1))))) (fun S' w => ⟨w.1, qF11_t f1 w.2⟩)
theorem zrnl_1 {lo hi : Int} (hb : b < n) : (0 < zrnl tp lo hi (n - b).toNat b) ↔ (lo ≤ tp b ∧ tp b ≤ hi) := by
  have e : (n - b).toNat = (n - b - 1).toNat + 1 := by omega
  have r := zrnl_b tp lo hi (n - b - 1).toNat (b + 1)
  rw [e, zrnl]
  split
  · rename_i q
    exact ⟨fun _ => q, fun _ => by omega⟩
  · rename_i q
    exact ⟨fun z => by omega, fun z => absurd z q⟩
theorem zM_next_52_s (hB : qB tp n) (hD : qD tp n S) (d : Nat) (hb : 0 ≤ b ∧ b ≤ n) (c39 : S.1 11 0 39 = zI b) : zwp (zM_next_52 (d + 1) S) (fun S' => qM tp n S' b ∧ qF11 S S') := by
  have bn := hB.1
  rw [eM_next_52, show (zu (zu S.1 11 0 40 (S.1 11 0 39)) 11 0 43 (0 : Int32)) 11 0 39 = S.1 11 0 39 from rfl, show (zu (zu S.1 11 0 40 (S.1 11 0 39)) 11 0 43 (0 : Int32)) 11 0 38 = S.1 11 0 38 from rfl, hD.1, c39, zI_eq (by omega) (by omega) (by omega) (by omega), zI_zx (by omega) (by omega)]
  have f1 : qF11 S ((zu (zu S.1 11 0 40 (zI b)) 11 0 43 (0 : Int32)), (zu S.2.1 11 0 42 (0 : Int64)), S.2.2) := qF11_t (qF11_t (qF11_u S (by omega) (zI b)) (qF11_u _ (k := 43) (by omega) 0)) (qF11_l _ 42 0)
  have hD1 := qD_f hD f1
  by_cases q : b = n
  · have k0 : zkd tp n b = 0 := by unfold zkd; rw [if_pos (by omega)]
    have ln0 : zlnt tp n b = 0 := by unfold zlnt; rw [if_pos (by omega)]
    rw [zif_pos q, zwp_some]
    refine ⟨⟨rfl, ?_, ?_, fun z => by omega, fun z => by omega⟩, qF11_t f1 (qF11_u _ (k := 41) (by omega) 0)⟩
    · rw [ln0, Int.add_zero]
      exact c39
    · rw [k0]
      rfl
  · have hbn : b < n := by omega
    have bt := hB.2 b hb.1 hbn
    have lt : (0 < zLt tp n b) ↔ (97 ≤ tp b ∧ tp b ≤ 122) := zrnl_1 hbn
    have fg : (0 < zFg tp n b) ↔ (48 ≤ tp b ∧ tp b ≤ 57) := zrnl_1 hbn
    have sg : (zu (zu S.1 11 0 40 (zI b)) 11 0 43 (0 : Int32)) 89 0 b.toNat = zI (tp b) := hD.2 b hb.1 hbn
    -- a sign, or no token
    have s322 : ¬ 0 < zLt tp n b → ¬ 0 < zFg tp n b → zwp (zM_next_322 (d + 1) (zI (tp b)) ((zu (zu S.1 11 0 40 (zI b)) 11 0 43 (0 : Int32)), (zu S.2.1 11 0 42 (0 : Int64)), S.2.2)) (fun S' => qM tp n S' b ∧ qF11 S S') := by
      intro hl hf
      have ln : zlnt tp n b = 1 := by unfold zlnt; rw [if_neg (by omega), if_neg hl, if_neg hf]
      have kd : zkd tp n b = if (40 ≤ tp b ∧ tp b ≤ 43) ∨ tp b = 45 ∨ (59 ≤ tp b ∧ tp b ≤ 61) then 3 else 4 := by unfold zkd; rw [if_neg (by omega), if_neg hl, if_neg hf]
      have e39 : (zu (zu S.1 11 0 40 (zI b)) 11 0 43 (0 : Int32)) 11 0 39 = zI b := c39
      have f2 := qF11_t f1 (qF11_u ((zu (zu S.1 11 0 40 (zI b)) 11 0 43 (0 : Int32)), (zu S.2.1 11 0 42 (0 : Int64)), S.2.2) (k := 39) (by omega) (zI (b + 1)))
      have out : ∀ (k : Int), (k = 3 ∨ k = 4) → zkd tp n b = k → zwp (some ((zu (zu (zu (zu S.1 11 0 40 (zI b)) 11 0 43 (0 : Int32)) 11 0 39 (zI (b + 1))) 11 0 41 (zI k)), (zu S.2.1 11 0 42 (0 : Int64)), S.2.2)) (fun S' => qM tp n S' b ∧ qF11 S S') := by
        intro k k34 hk
        rw [zwp_some]
        refine ⟨⟨rfl, ?_, ?_, fun z => by omega, fun z => by omega⟩, qF11_t f2 (qF11_u _ (k := 41) (by omega) (zI k))⟩
        · rw [ln]
          rfl
        · rw [hk]
          exact zu_same (zu (zu (zu S.1 11 0 40 (zI b)) 11 0 43 (0 : Int32)) 11 0 39 (zI (b + 1))) 11 0 41 (zI k)
      have s345 : ¬ (40 ≤ tp b ∧ tp b ≤ 43) → zwp (zM_next_345 (d + 1) (zI (tp b)) ((zu (zu (zu S.1 11 0 40 (zI b)) 11 0 43 (0 : Int32)) 11 0 39 (zI (b + 1))), (zu S.2.1 11 0 42 (0 : Int64)), S.2.2)) (fun S' => qM tp n S' b ∧ qF11 S S') := by
        intro n1
        rw [eM_next_345, zI_n45, zI_eq (by omega) (by omega) (by omega) (by omega), zI_n59, zI_lt (by omega) (by omega) (by omega) (by omega), zI_n61, zI_lt (by omega) (by omega) (by omega) (by omega), zI_n3, zI_n4]
        by_cases q1 : tp b = 45
        · rw [zif_pos q1]
          exact out 3 (by omega) (by rw [kd, if_pos (by omega)])
        · rw [zif_neg q1]
          by_cases q2 : tp b < 59
          · rw [zif_pos q2]
            exact out 4 (by omega) (by rw [kd, if_neg (by omega)])
          · rw [zif_neg q2]
            by_cases q3 : 61 < tp b
            · rw [zif_pos q3]
              exact out 4 (by omega) (by rw [kd, if_neg (by omega)])
            · rw [zif_neg q3]
              exact out 3 (by omega) (by rw [kd, if_pos (by omega)])
      rw [eM_next_322]
      dsimp only
      rw [e39, zI_n1, zI_add, zI_n40, zI_lt (by omega) (by omega) (by omega) (by omega), zI_n43, zI_le (by omega) (by omega) (by omega) (by omega), zI_n3]
      by_cases q1 : tp b < 40
      · rw [zif_pos q1]
        exact s345 (by omega)
      · rw [zif_neg q1]
        by_cases q2 : tp b ≤ 43
        · rw [zif_pos q2]
          exact out 3 (by omega) (by rw [kd, if_pos (by omega)])
        · rw [zif_neg q2]
          exact s345 (by omega)
    rw [zif_neg q, zg_t (by rw [zI_in (by omega) (by omega)]; omega), sg, zI_n97, zI_lt (by omega) (by omega) (by omega) (by omega), zI_n48, zI_lt (by omega) (by omega) (by omega) (by omega), zI_n57, zI_lt (by omega) (by omega) (by omega) (by omega), zI_n122, zI_lt (by omega) (by omega) (by omega) (by omega)]
    by_cases a : tp b < 97
    · rw [zif_pos a]
      by_cases c : tp b < 48
      · rw [zif_pos c]
        exact s322 (fun z => by have := lt.1 z; omega) (fun z => by have := fg.1 z; omega)
      · rw [zif_neg c]
        by_cases e : 57 < tp b
        · rw [zif_pos e]
          exact s322 (fun z => by have := lt.1 z; omega) (fun z => by have := fg.1 z; omega)
        · rw [zif_neg e]
          refine zwp_mono (zM_next_224_s hB d ⟨hb.1, hbn⟩ (fun z => by have := lt.1 z; omega) (fg.2 (by omega)) (n - b).toNat 0 _ (by omega) ?_ hD1 rfl ?_ (fun _ => rfl)) (fun S' w => ⟨w.1, qF11_t f1 w.2⟩)
          · unfold zFg
            rw [show b + ((0 : Nat) : Int) = b by omega]
            omega
          · rw [show b + ((0 : Nat) : Int) = b by omega]
            exact c39
    · rw [zif_neg a]
      by_cases c : 122 < tp b
      · rw [zif_pos c, zif_neg (by omega), zif_pos (by omega)]
        exact s322 (fun z => by have := lt.1 z; omega) (fun z => by have := fg.1 z; omega)
      · rw [zif_neg c]
        refine zwp_mono (zM_next_109_s hB d ⟨hb.1, hbn⟩ (lt.2 (by omega)) (n - b).toNat 0 _ (by omega) ?_ hD1 rfl ?_ (fun _ => rfl)) (fun S' w => ⟨w.1, qF11_t f1 w.2⟩)
        · unfold zLt
          rw [show b + ((0 : Nat) : Int) = b by omega]
          omega
        · rw [show b + ((0 : Nat) : Int) = b by omega]
          exact c39
theorem zM_next_0_s (hB : qB tp n) (d : Nat) :
    ∀ (k : Nat) (p : Int) (S : ZS), 0 ≤ p → p + k = n → qD tp n S → S.1 11 0 39 = zI p → zwp (zM_next_0 (d + 1) S) (fun S' => qM tp n S' (zsk tp k p) ∧ qF11 S S') := by
  have bn := hB.1
  intro k
  induction k with
  | zero =>
    intro p S p0 e hD c39
    rw [eM_next_0, hD.1, c39, zI_le (by omega) (by omega) (by omega) (by omega), zif_pos (by omega), zsk]
    exact zM_next_52_s hB hD d (by omega) c39
  | succ k ih =>
    intro p S p0 e hD c39
    have bt := hB.2 p p0 (by omega)
    have f1 := qF11_u S (k := 39) (by omega) (zI (p + 1))
    have w := zwp_mono (ih (p + 1) ((zu S.1 11 0 39 (zI (p + 1))), S.2) (by omega) (by omega) (qD_f hD f1) (zu_same S.1 11 0 39 (zI (p + 1)))) (fun S' q => And.intro q.1 (qF11_t f1 q.2))
    rw [eM_next_0, hD.1, c39, zI_le (by omega) (by omega) (by omega) (by omega), zif_neg (by omega), zg_t (by rw [zI_in (by omega) (by omega)]; omega), zI_zx (by omega) (by omega), hD.2 p p0 (by omega), zI_n32, zI_eq (by omega) (by omega) (by omega) (by omega), zI_n10, zI_eq (by omega) (by omega) (by omega) (by omega), zI_n1, zI_add, zsk]
    by_cases q : tp p = 32
    · rw [zif_pos q, if_pos (Or.inl q)]
      exact w
    · rw [zif_neg q, zg_t (by rw [zI_in (by omega) (by omega)]; omega)]
      by_cases q2 : tp p = 10
      · rw [zif_pos q2, if_pos (Or.inr q2)]
        exact w
      · rw [zif_neg q2, if_neg (by omega)]
        exact zM_next_52_s hB hD d (by omega) c39
theorem zM_next_p (hB : qB tp n) (hD : qD tp n S) (d : Nat) {p : Int} (hp : 0 ≤ p ∧ p ≤ n) (c39 : S.1 11 0 39 = zI p) : zwp (zM_next (d + 2) S) (fun S' => qM tp n S' (zsk tp (n - p).toNat p) ∧ qF11 S S') := by
  have e : zM_next (d + 2) S = zM_next_0 (d + 1) S := (eM_next (d + 1) S).trans (eM_next_0 (d + 1) S).symm
  rw [e]
  exact zM_next_0_s hB d (n - p).toNat p S hp.1 (by omega) hD c39
theorem zM_next_s (hB : qB tp n) (hD : qD tp n S) (d : Nat) (hb : 0 ≤ b ∧ b ≤ n) (hM : qM tp n S b) : zwp (zM_next (d + 2) S) (fun S' => qM tp n S' (znx tp n b) ∧ qF11 S S') := by
  have l := zlnt_b tp n hb
  exact zM_next_p hB hD d (by omega) hM.2.1
end NM
