/-! THE TAPE: what the reference asks of a token; names; the class's put and fail -/
theorem zkd_1 {tp : Int → Int} {n b : Int} (h : zkd tp n b = 1) : b < n ∧ 0 < zLt tp n b ∧ zLt tp n b ≤ 8 := by
  unfold zkd at h
  split at h
  · omega
  · split at h
    · split at h <;> omega
    · split at h
      · split at h <;> omega
      · split at h <;> omega
theorem zkd_2 {tp : Int → Int} {n b : Int} (h : zkd tp n b = 2) : b < n ∧ 0 < zFg tp n b ∧ zFg tp n b ≤ 4 := by
  unfold zkd at h
  split at h
  · omega
  · split at h
    · split at h <;> omega
    · split at h
      · split at h <;> omega
      · split at h <;> omega
theorem znv_b {tp : Int → Int} {n b : Int} (h : zkd tp n b = 2) : 0 ≤ znv tp n b ∧ znv tp n b ≤ 9999 := by
  obtain ⟨h1, h2, h3⟩ := zkd_2 h
  have f := zrnl_b tp 48 57 (n - b).toNat b
  have w : ∀ k : Int, 0 ≤ k → k < zFg tp n b → 0 ≤ tp (b + k) - 48 ∧ tp (b + k) - 48 ≤ 9 := fun k k0 k1 => by
    have := f.2.2 k k0 (by unfold zFg at k1; omega)
    omega
  have key : ∀ i : Nat, (i : Int) ≤ zFg tp n b → 0 ≤ zvl 10 (fun k => tp (b + k) - 48) i ∧ zvl 10 (fun k => tp (b + k) - 48) i < 10 ^ i := by
    intro i
    induction i with
    | zero => exact fun _ => ⟨Int.le_refl _, show (0 : Int) < 10 ^ 0 by decide⟩
    | succ i ih =>
      intro hi
      have ih := ih (by omega)
      have q := w i (by omega) (by omega)
      have p : (10 : Int) ^ (i + 1) = 10 * 10 ^ i := by rw [Int.pow_succ, Int.mul_comm]
      rw [zvl, p]
      omega
  have r := key (zFg tp n b).toNat (by omega)
  have : (zFg tp n b).toNat = 1 ∨ (zFg tp n b).toNat = 2 ∨ (zFg tp n b).toNat = 3 ∨ (zFg tp n b).toNat = 4 := by omega
  unfold znv
  rcases this with q | q | q | q <;> rw [q] at r ⊢ <;> omega
/-- the slot of a name: the names begin at the places bt -/
def qsl (tp : Int → Int) (n : Int) (bt : Int → Int) (m b : Int) : Int := zfst (fun i => decide (zwl tp n (bt i) = zwl tp n b)) m.toNat 0
def qNb (tp : Int → Int) (n : Int) (bt : Int → Int) (m : Int) : Prop := (0 ≤ m ∧ m ≤ 6) ∧ ∀ i, 0 ≤ i → i < m → zkd tp n (bt i) = 1
def qNc (tp : Int → Int) (n : Int) (bt : Int → Int) (m : Int) (u : Nat) (S : ZS) : Prop := S.1 7 u 8 = zI m ∧ ∀ i, 0 ≤ i → i < m → S.2.1 46 u i.toNat = zJ (zwc tp n (bt i))
def qNm (tp : Int → Int) (n : Int) (bt : Int → Int) (m : Int) (S : ZS) : Prop := S.1 96 0 1 = zI m ∧ ∀ i, 0 ≤ i → i < m → S.2.1 97 0 i.toNat = zJ (zwl tp n (bt i))
theorem qsl_b {tp : Int → Int} {n : Int} {bt : Int → Int} {m b : Int} (hm : 0 ≤ m ∧ m ≤ 6) : -1 ≤ qsl tp n bt m b ∧ qsl tp n bt m b < m := by
  unfold qsl
  rcases zfst_b (fun i => decide (zwl tp n (bt i) = zwl tp n b)) m.toNat 0 with h | h <;> omega
section AK
variable {tp : Int → Int} {n b : Int} {S : ZS}
theorem zF_slotOf_s {bt : Int → Int} {m : Int} {u : Nat} (hN : qNb tp n bt m) (hc : qNc tp n bt m u S) (h1 : zkd tp n b = 1) (d : Nat) : zF_slotOf (d + 1) u (zJ (zwc tp n b)) S = some (zI (qsl tp n bt m b), S) := by
  have hm := hN.1
  have key : ∀ (k : Nat) (i : Int), 0 ≤ i → i + k = m → zF_slotOf_2 d u (zJ (zwc tp n b)) (zI i) S = some (zI (zfst (fun i => decide (zwl tp n (bt i) = zwl tp n b)) k i), S) := by
    intro k
    induction k with
    | zero =>
      intro i i0 e
      rw [eF_slotOf_2, hc.1, zI_le (by omega) (by omega) (by omega) (by omega), zif_pos (by omega)]
      rfl
    | succ k ih =>
      intro i i0 e
      have ki := hN.2 i i0 (by omega)
      have b1 := (zwl_b tp n (zkd_1 h1).2.2).2
      have b2 := (zwl_b tp n (zkd_1 ki).2.2).2
      have sm := zw_same tp n (b := bt i) (c := b) tp n
      rw [eF_slotOf_2, hc.1, zI_le (by omega) (by omega) (by omega) (by omega), zif_neg (by omega), zg_t (by rw [zI_in (by omega) (by omega)]; omega), zI_zx (by omega) (by omega), hc.2 i i0 (by omega), zlg0, zJ_eq (by omega) (by omega) (by omega) (by omega), zfst, zI_n1, zI_add]
      by_cases q : zwc tp n (bt i) = zwc tp n b
      · rw [zif_pos q, decide_eq_true (sm.2 q)]
        rfl
      · rw [zif_neg q, decide_eq_false (fun w => q (sm.1 w)), ih (i + 1) (by omega) (by omega)]
        rfl
  rw [eF_slotOf, zI_n0]
  exact key m.toNat 0 (by omega) (by omega)
theorem zM_nameAt_s {bt : Int → Int} {m : Int} (hN : qNb tp n bt m) (hc : qNm tp n bt m S) (hM : qM tp n S b) (h1 : zkd tp n b = 1) (d : Nat) : zM_nameAt (d + 1) S = some (zI (qsl tp n bt m b), S) := by
  have hm := hN.1
  have z1 : zx (1 : Int32) = 1 := rfl
  have key : ∀ (k : Nat) (i : Int), 0 ≤ i → i + k = m → zM_nameAt_2 d (zI i) S = some (zI (zfst (fun i => decide (zwl tp n (bt i) = zwl tp n b)) k i), S) := by
    intro k
    induction k with
    | zero =>
      intro i i0 e
      rw [eM_nameAt_2, zg_t (by decide), z1, hc.1, zI_le (by omega) (by omega) (by omega) (by omega), zif_pos (by omega)]
      rfl
    | succ k ih =>
      intro i i0 e
      have ki := hN.2 i i0 (by omega)
      have b1 := (zwl_b tp n (zkd_1 h1).2.2).1
      have b2 := (zwl_b tp n (zkd_1 ki).2.2).1
      rw [eM_nameAt_2, zg_t (by decide), z1, hc.1, zI_le (by omega) (by omega) (by omega) (by omega), zif_neg (by omega), zg_t (by rw [zI_in (by omega) (by omega)]; omega), zI_zx (by omega) (by omega), hc.2 i i0 (by omega), hM.2.2.2.1 h1, zlg0, zJ_eq (by omega) (by omega) (by omega) (by omega), zfst, zI_n1, zI_add]
      by_cases q : zwl tp n (bt i) = zwl tp n b
      · rw [zif_pos q, decide_eq_true q]
        rfl
      · rw [zif_neg q, decide_eq_false q, ih (i + 1) (by omega) (by omega)]
        rfl
  rw [eM_nameAt, zI_n0]
  exact key m.toNat 0 (by omega) (by omega)
theorem zM_isWord_s (hM : qM tp n S b) (d : Nat) {v : Int} (hv : 0 ≤ v ∧ v < 1099511627776) : zM_isWord (d + 1) (zJ v) S = some (zb (zkd tp n b = 1 ∧ zwl tp n b = v), S) := by
  have k := zkd_b tp n b
  rw [eM_isWord, hM.2.2.1, zI_n1, zI_eq (by omega) (by omega) (by omega) (by omega)]
  by_cases q : zkd tp n b = 1
  · have b1 := (zwl_b tp n (zkd_1 q).2.2).1
    rw [zif_pos q, hM.2.2.2.1 q, zlg0, zJ_eq (by omega) (by omega) (by omega) (by omega)]
    by_cases w : zwl tp n b = v
    · rw [zif_pos w]
      exact zbT S ⟨q, w⟩
    · rw [zif_neg w]
      exact zbF S (fun z => w z.2)
  · rw [zif_neg q]
    exact zbF S (fun z => q z.1)
theorem zM_isSign_s (hB : qB tp n) (hD : qD tp n S) (hb : 0 ≤ b ∧ b ≤ n) (hM : qM tp n S b) (d : Nat) {c : Int} (hc : 0 ≤ c ∧ c < 200) : zM_isSign (d + 1) (zI c) S = some (zb (zkd tp n b = 3 ∧ tp b = c), S) := by
  have k := zkd_b tp n b
  have bn := hB.1
  rw [eM_isSign, hM.2.2.1, hM.1, zI_n3, zI_eq (by omega) (by omega) (by omega) (by omega)]
  by_cases q : zkd tp n b = 3
  · have hbn : b < n := zkd_n (tp := tp) (n := n) (b := b) (by omega)
    have bt := hB.2 b hb.1 hbn
    rw [zif_pos q, zg_t (by rw [zI_in (by omega) (by omega)]; omega), zI_zx (by omega) (by omega), hD.2 b hb.1 hbn, zI_eq (by omega) (by omega) (by omega) (by omega)]
    by_cases w : tp b = c
    · rw [zif_pos w]
      exact zbT S ⟨q, w⟩
    · rw [zif_neg w]
      exact zbF S (fun z => w z.2)
  · rw [zif_neg q]
    exact zbF S (fun z => q z.1)
theorem zM_fact_s (hM : qM tp n S b) (d : Nat) : zM_fact (d + 1) S = some (zI (qva tp n b + 1), S) := by
  have k := zkd_b tp n b
  rw [eM_fact, hM.2.2.1, zI_n1, zI_eq (by omega) (by omega) (by omega) (by omega)]
  unfold qva
  by_cases q : zkd tp n b = 1
  · have b1 := (zwl_b tp n (zkd_1 q).2.2).1
    have c0 := qkw_c (zwl tp n b) 0 (by omega)
    have c1 := qkw_c (zwl tp n b) 1 (by omega)
    have c2 := qkw_c (zwl tp n b) 2 (by omega)
    have c3 := qkw_c (zwl tp n b) 3 (by omega)
    have c4 := qkw_c (zwl tp n b) 4 (by omega)
    have c5 := qkw_c (zwl tp n b) 5 (by omega)
    rw [show qcd 0 = 523076 from rfl] at c0
    rw [show qcd 1 = 168984 from rfl] at c1
    rw [show qcd 2 = 2968 from rfl] at c2
    rw [show qcd 3 = 173107021 from rfl] at c3
    rw [show qcd 4 = 11442943 from rfl] at c4
    rw [show qcd 5 = 243140 from rfl] at c5
    rw [zif_pos q, hM.2.2.2.1 q, show (523076 : Int64) = zJ 523076 from rfl, show (168984 : Int64) = zJ 168984 from rfl, show (2968 : Int64) = zJ 2968 from rfl, show (173107021 : Int64) = zJ 173107021 from rfl, show (11442943 : Int64) = zJ 11442943 from rfl, show (243140 : Int64) = zJ 243140 from rfl]
    generalize zwl tp n b = v at b1 c0 c1 c2 c3 c4 c5 ⊢
    have kb := qkw_b v
    rw [zlg0, zlg0, zlg0, zlg0, zlg0, zlg0, zJ_eq (by omega) (by omega) (by omega) (by omega), zJ_eq (by omega) (by omega) (by omega) (by omega), zJ_eq (by omega) (by omega) (by omega) (by omega), zJ_eq (by omega) (by omega) (by omega) (by omega), zJ_eq (by omega) (by omega) (by omega) (by omega), zJ_eq (by omega) (by omega) (by omega) (by omega)]
    by_cases q0 : v = 523076
    · rw [zif_pos q0, if_pos ⟨q, by omega, by omega⟩, c0.2 q0]
      rfl
    · rw [zif_neg q0]
      by_cases q1 : v = 168984
      · rw [zif_pos q1, if_pos ⟨q, by omega, by omega⟩, c1.2 q1]
        rfl
      · rw [zif_neg q1]
        by_cases q2 : v = 2968
        · rw [zif_pos q2, if_pos ⟨q, by omega, by omega⟩, c2.2 q2]
          rfl
        · rw [zif_neg q2]
          by_cases q3 : v = 173107021
          · rw [zif_pos q3, if_pos ⟨q, by omega, by omega⟩, c3.2 q3]
            rfl
          · rw [zif_neg q3]
            by_cases q4 : v = 11442943
            · rw [zif_pos q4, if_pos ⟨q, by omega, by omega⟩, c4.2 q4]
              rfl
            · rw [zif_neg q4]
              by_cases q5 : v = 243140
              · rw [zif_pos q5, if_pos ⟨q, by omega, by omega⟩, c5.2 q5]
                rfl
              · rw [zif_neg q5, if_neg (by omega)]
                rfl
  · rw [zif_neg q, if_neg (fun z => q z.1)]
    rfl
theorem zM_isOwn_s (hM : qM tp n S b) (h1 : zkd tp n b = 1) (d : Nat) : zM_isOwn (d + 2) S = some (zb (0 ≤ qkw (zwl tp n b)), S) := by
  have b1 := (zwl_b tp n (zkd_1 h1).2.2).1
  have c6 := qkw_c (zwl tp n b) 6 (by omega)
  have c7 := qkw_c (zwl tp n b) 7 (by omega)
  have c8 := qkw_c (zwl tp n b) 8 (by omega)
  have c9 := qkw_c (zwl tp n b) 9 (by omega)
  have c10 := qkw_c (zwl tp n b) 10 (by omega)
  have c11 := qkw_c (zwl tp n b) 11 (by omega)
  have c12 := qkw_c (zwl tp n b) 12 (by omega)
  rw [show qcd 6 = 8903 from rfl] at c6
  rw [show qcd 7 = 423812 from rfl] at c7
  rw [show qcd 8 = 99233 from rfl] at c8
  rw [show qcd 9 = 458690 from rfl] at c9
  rw [show qcd 10 = 1111 from rfl] at c10
  rw [show qcd 11 = 423 from rfl] at c11
  rw [show qcd 12 = 10631 from rfl] at c12
  have fc := zM_fact_s hM d
  rw [eM_isOwn, fc, hM.2.2.2.1 h1, show (8903 : Int64) = zJ 8903 from rfl, show (423812 : Int64) = zJ 423812 from rfl, show (99233 : Int64) = zJ 99233 from rfl, show (458690 : Int64) = zJ 458690 from rfl, show (1111 : Int64) = zJ 1111 from rfl, show (423 : Int64) = zJ 423 from rfl, show (10631 : Int64) = zJ 10631 from rfl, zBs]
  dsimp only
  have hq : qva tp n b = if 0 ≤ qkw (zwl tp n b) ∧ qkw (zwl tp n b) < 6 then qkw (zwl tp n b) else -1 := by
    unfold qva
    by_cases w : 0 ≤ qkw (zwl tp n b) ∧ qkw (zwl tp n b) < 6
    · rw [if_pos w, if_pos ⟨h1, w⟩]
    · rw [if_neg w, if_neg (fun z => w z.2)]
  rw [hq]
  generalize zwl tp n b = v at b1 c6 c7 c8 c9 c10 c11 c12 ⊢
  have kb := qkw_b v
  have bq : -1 ≤ (if 0 ≤ qkw v ∧ qkw v < 6 then qkw v else -1) ∧ (if 0 ≤ qkw v ∧ qkw v < 6 then qkw v else -1) ≤ 5 := by split <;> omega
  rw [zlg0, zlg0, zlg0, zlg0, zlg0, zlg0, zlg0, zJ_eq (by omega) (by omega) (by omega) (by omega), zJ_eq (by omega) (by omega) (by omega) (by omega), zJ_eq (by omega) (by omega) (by omega) (by omega), zJ_eq (by omega) (by omega) (by omega) (by omega), zJ_eq (by omega) (by omega) (by omega) (by omega), zJ_eq (by omega) (by omega) (by omega) (by omega), zJ_eq (by omega) (by omega) (by omega) (by omega)]
  by_cases q6 : v = 8903
  · rw [zif_pos q6]
    exact zbT S (by omega)
  · rw [zif_neg q6]
    by_cases q7 : v = 423812
    · rw [zif_pos q7]
      exact zbT S (by omega)
    · rw [zif_neg q7]
      by_cases q8 : v = 99233
      · rw [zif_pos q8]
        exact zbT S (by omega)
      · rw [zif_neg q8]
        by_cases q9 : v = 458690
        · rw [zif_pos q9]
          exact zbT S (by omega)
        · rw [zif_neg q9]
          by_cases q10 : v = 1111
          · rw [zif_pos q10]
            exact zbT S (by omega)
          · rw [zif_neg q10]
            by_cases q11 : v = 423
            · rw [zif_pos q11]
              exact zbT S (by omega)
            · rw [zif_neg q11]
              by_cases q12 : v = 10631
              · rw [zif_pos q12]
                exact zbT S (by omega)
              · rw [zif_neg q12, zI_n0, zI_le (by omega) (by omega) (by omega) (by omega)]
                by_cases w : 0 ≤ qkw v ∧ qkw v < 6
                · rw [if_pos w, zif_neg (by omega)]
                  exact zbT S w.1
                · rw [if_neg w, zif_pos (by omega)]
                  exact zbF S (by omega)
/-! what is put, and failing -/
theorem zM_puts_s (d : Nat) {c v : Int} (hc : 0 ≤ c ∧ c < 2000) (c54 : S.1 11 0 54 = zI c) : zM_puts (d + 1) (zI v) S = some (zu (zu S.1 98 0 c.toNat (zI v)) 11 0 54 (zI (c + 1)), S.2) := by
  rw [eM_puts, c54, zg_t (by rw [zI_in (by omega) (by omega)]; omega), zI_zx (by omega) (by omega), show (zu S.1 98 0 c.toNat (zI v)) 11 0 54 = S.1 11 0 54 from rfl, c54, zI_n1, zI_add]
theorem zF_put_s (d : Nat) {u : Nat} {c v : Int} (hc : 0 ≤ c ∧ c < 1000) (c7 : S.1 7 u 7 = zI c) : zF_put (d + 1) u (zI v) S = some (zu (zu S.1 45 u c.toNat (zI v)) 7 u 7 (zI (c + 1)), S.2) := by
  have z : Int32.ofNat 1000 = zI 1000 := rfl
  rw [eF_put, c7, z, zI_le (by omega) (by omega) (by omega) (by omega), zif_neg (by omega), zg_t (by rw [zI_in (by omega) (by omega)]; omega), zI_zx (by omega) (by omega), show (zu S.1 45 u c.toNat (zI v)) 7 u 7 = S.1 7 u 7 from rfl, c7, zI_n1, zI_add]
theorem zF_fail_s (hA : qA tp n S b) (d : Nat) (u : Nat) (k : Int) : (zF_fail (d + 1) u (zI k) S).bind (fun r => zgb r.1 (some (r.1, r.2))) = some (zI 0, ((zu S.1 7 u 1 (zI (k + 16 * b))), S.2)) := by
  rw [eF_fail, hA.1, zBs, zI_n16, zI_mul, zI_add]
  rfl
theorem zM_fails_s (hM : qM tp n S b) (d : Nat) (k : Int) : (zM_fails (d + 1) (zI k) S).bind (fun r => zgb r.1 (some (r.1, r.2))) = some (zI 0, ((zu S.1 11 0 44 (zI (k + 16 * b))), S.2)) := by
  rw [eM_fails, hM.1, zBs, zI_n16, zI_mul, zI_add]
  rfl
end AK
