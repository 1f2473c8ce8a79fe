/-! FEED of both sides -/
def zbt (w : Int64) (sh : Int32) : Int32 := ((w.toUInt64 >>> (sh.toInt64.toUInt64 &&& Int64.toUInt64 63)).toInt64 &&& (255 : Int64)).toInt32
abbrev zSg (v : Int) : Prop := v = 10 ∨ (32 ≤ v ∧ v ≤ 126)
def sSign (x : ZW) (v : Int) : ZW := if x 33 0 < 1000 ∧ zSg v then xu (xu x 34 (x 33 0) v) 33 0 (x 33 0 + 1) else x
/-- n bytes of a word, the highest of them first -/
def sF8 (x : ZW) (w : Int64) : Nat → ZW
  | 0 => x
  | n + 1 => sF8 (sSign x (zbt w (zI (8 * n))).toInt) w n
def sFeed (x : ZW) (a b c : Int64) : Int × ZW := ((sF8 (sF8 (sF8 x a 8) b 8) c 8) 33 0, sF8 (sF8 (sF8 x a 8) b 8) c 8)
theorem zch (v : Int) (h : zSg v) : (((zI v).toUInt32 % 65536).toInt32.toUInt32 % 65536).toInt32 = zI v := by
  have key : ∀ n : Fin 127, (((zI (n.val : Int)).toUInt32 % 65536).toInt32.toUInt32 % 65536).toInt32 = zI (n.val : Int) := by decide +kernel
  have e : v = (((⟨v.toNat, by omega⟩ : Fin 127).val : Nat) : Int) := by
    show v = (v.toNat : Int)
    omega
  rw [e]
  exact key _
theorem zsh (n q : Int) (hn : 1 ≤ n ∧ n ≤ 8) (hq : 0 ≤ q ∧ q ≤ 2) : (56 : Int32) - 8 * (zI (8 * q + 8 - n) &&& 7) = zI (8 * (n - 1)) := by
  have key : ∀ (n : Fin 8) (q : Fin 3), (56 : Int32) - 8 * (zI (8 * (q.val : Int) + 8 - ((n.val : Int) + 1)) &&& 7) = zI (8 * (((n.val : Int) + 1) - 1)) := by decide +kernel
  have k := key ⟨(n - 1).toNat, by omega⟩ ⟨q.toNat, by omega⟩
  have e1 : (((⟨(n - 1).toNat, by omega⟩ : Fin 8).val : Nat) : Int) = n - 1 := by
    show ((n - 1).toNat : Int) = n - 1
    omega
  have e2 : (((⟨q.toNat, by omega⟩ : Fin 3).val : Nat) : Int) = q := by
    show (q.toNat : Int) = q
    omega
  rw [e1, e2, show n - 1 + 1 = n by omega] at k
  exact k
theorem zbyt (w : Int64) (sh : Int32) : ∃ v, -2147483648 ≤ v ∧ v < 2147483648 ∧ zbt w sh = zI v ∧ (zbt w sh).toInt = v := by
  refine ⟨(zbt w sh).toInt, Int32.le_toInt _, Int32.toInt_lt _, (Int32.ofInt_toInt _).symm, rfl⟩
section FD
variable {K : ZS} {x y : ZW} {S : ZS}
theorem sSign_b {x : ZW} (h : 0 ≤ x 33 0 ∧ x 33 0 ≤ 1000) (v : Int) : 0 ≤ (sSign x v) 33 0 ∧ (sSign x v) 33 0 ≤ 1000 := by
  unfold sSign
  split
  · rw [xu_s]; omega
  · exact h
theorem sF8_b (w : Int64) : ∀ (n : Nat) (x : ZW), (0 ≤ x 33 0 ∧ x 33 0 ≤ 1000) → 0 ≤ (sF8 x w n) 33 0 ∧ (sF8 x w n) 33 0 ≤ 1000
  | 0, x, h => h
  | n + 1, x, h => sF8_b w n _ (sSign_b h _)
theorem zT_addSigns_3_s (d : Nat) (w : Int64) : ∀ (n : Nat) (x : ZW) (S : ZS), n ≤ 8 → (0 ≤ x 33 0 ∧ x 33 0 ≤ 1000) → zR K x y S → zwp (zT_addSigns_3 d w (zI (8 * (n : Int) - 8)) S) (fun r => zR K (sF8 x w n) y r)
  | 0, x, S, hn, hb, h => by
    rw [eT_addSigns_3, zI_n0, zI_lt (by omega) (by omega) (by omega) (by omega), zif_pos (by omega), zwp_some]
    exact h
  | n + 1, x, S, hn, hb, h => by
    obtain ⟨v, v1, v2, v3, v4⟩ := zbyt w (zI (8 * n))
    have e8 : 8 * ((n + 1 : Nat) : Int) - 8 = 8 * n := by omega
    have ih := fun x' S' => zT_addSigns_3_s d w n x' S' (by omega)
    rw [e8, eT_addSigns_3]
    show zwp (zif (zI (8 * (n : Int)) < 0) _ (zif (zbt w (zI (8 * (n : Int))) = 10) (zT_addSigns_43 d w (zI (8 * (n : Int))) (zbt w (zI (8 * (n : Int)))) 1 S) (zif (zbt w (zI (8 * (n : Int))) < 32) (zT_addSigns_43 d w (zI (8 * (n : Int))) (zbt w (zI (8 * (n : Int)))) 0 S) (zif (126 < zbt w (zI (8 * (n : Int)))) (zT_addSigns_43 d w (zI (8 * (n : Int))) (zbt w (zI (8 * (n : Int)))) 0 S) (zT_addSigns_43 d w (zI (8 * (n : Int))) (zbt w (zI (8 * (n : Int)))) 1 S))))) _
    rw [v3, zI_n0, zI_lt (by omega) (by omega) (by omega) (by omega), zif_neg (by omega)]
    have eF : sF8 x w (n + 1) = sF8 (sSign x v) w n := by rw [sF8, v4]
    rw [eF]
    have step : ∀ s : Int, (s = 1 ↔ zSg v) → (s = 0 ∨ s = 1) → zwp (zT_addSigns_43 d w (zI (8 * (n : Int))) (zI v) (zI s) S) (fun r => zR K (sF8 (sSign x v) w n) y r) := by
      intro s hs hs2
      have e9 : zI (8 * (n : Int)) + -8 = zI (8 * (n : Int) - 8) := by
        rw [show (-8 : Int32) = zI (-8) from rfl, zI_add]
        exact congrArg zI (by omega)
      have c33 := zRc33 h
      rw [eT_addSigns_43, e9, c33, show (1000 : Int32) = zI 1000 from rfl, zI_le (by omega) (by omega) (by omega) (by omega), zI_n0, zI_eq (by omega) (by omega) (by omega) (by omega)]
      by_cases h0 : s = 0
      · rw [zif_pos h0]
        have es : sSign x v = x := by unfold sSign; rw [if_neg (fun hn => by have := hs.mpr hn.2; omega)]
        rw [es]
        exact ih x S hb h
      · rw [zif_neg h0]
        have hv := hs.mp (by omega)
        by_cases hf : 1000 ≤ x 33 0
        · rw [zif_pos hf]
          have es : sSign x v = x := by unfold sSign; rw [if_neg (fun hn => by omega)]
          rw [es]
          exact ih x S hb h
        · rw [zif_neg hf, zg_t (by rw [zI_in (by omega) (by omega)]; omega), zch v hv, zI_zx (by omega) (by omega)]
          have w1 := zWc34 h (k := x 33 0) (v := v) (by omega) (by omega) (by omega) (by omega)
          have w2 := zWc33 w1 (v := x 33 0 + 1) (by omega) (by omega)
          have es : sSign x v = xu (xu x 34 (x 33 0) v) 33 0 (x 33 0 + 1) := by unfold sSign; rw [if_pos ⟨by omega, hv⟩]
          rw [← es] at w2
          have ec : (zu S.1 41 0 (x 33 0).toNat (zI v)) 6 0 1 + (1 : Int32) = zI (x 33 0 + 1) := by
            rw [zu_tag _ (by decide), c33, zI_n1, zI_add]
          rw [ec]
          exact ih _ _ (sSign_b hb v) w2
    rw [show (10 : Int32) = zI 10 from rfl, show (32 : Int32) = zI 32 from rfl, show (126 : Int32) = zI 126 from rfl, zI_eq (by omega) (by omega) (by omega) (by omega), zI_lt (by omega) (by omega) (by omega) (by omega), zI_lt (by omega) (by omega) (by omega) (by omega)]
    by_cases h10 : v = 10
    · rw [zif_pos h10]; exact step 1 (by omega) (Or.inr rfl)
    · rw [zif_neg h10]
      by_cases h32 : v < 32
      · rw [zif_pos h32]; exact step 0 (by omega) (Or.inl rfl)
      · rw [zif_neg h32]
        by_cases h126 : 126 < v
        · rw [zif_pos h126]; exact step 0 (by omega) (Or.inl rfl)
        · rw [zif_neg h126]; exact step 1 (by omega) (Or.inr rfl)
theorem zX_feed_s (h : zR K x y S) (hb : 0 ≤ x 33 0 ∧ x 33 0 ≤ 1000) (d : Nat) (a b c : Int64) : zwp (zX_feed (d + 2) a b c S) (fun r => r.1 = zI (sFeed x a b c).1 ∧ zR K (sFeed x a b c).2 y r.2) := by
  have st : ∀ (x : ZW) (w : Int64) (S : ZS), (0 ≤ x 33 0 ∧ x 33 0 ≤ 1000) → zR K x y S → zwp (zT_addSigns (d + 1) w S) (fun r => zR K (sF8 x w 8) y r) := by
    intro x w S hb h
    rw [eT_addSigns]
    exact zT_addSigns_3_s d w 8 x S (by omega) hb h
  obtain ⟨S1, e1, r1⟩ := st x a S hb h
  obtain ⟨S2, e2, r2⟩ := st _ b S1 (sF8_b a 8 x hb) r1
  obtain ⟨S3, e3, r3⟩ := st _ c S2 (sF8_b b 8 _ (sF8_b a 8 x hb)) r2
  rw [eX_feed, e1]
  show zwp ((zT_addSigns (d + 1) b S1).bind _) _
  rw [e2]
  show zwp ((zT_addSigns (d + 1) c S2).bind _) _
  rw [e3]
  show zwp (some (S3.1 6 0 1, S3)) _
  rw [zwp_some]
  unfold sFeed
  generalize sF8 (sF8 (sF8 x a 8) b 8) c 8 = X at r3 ⊢
  exact ⟨zRc33 r3, r3⟩
theorem zM_feed_8_s (d : Nat) (a b c w : Int64) {q : Int} (hq : 0 ≤ q ∧ q ≤ 2) (hw : w = if q = 0 then a else if q = 1 then b else c) (Q : Int32 × ZS → Prop) : ∀ (n : Nat) (y : ZW) (S : ZS), n ≤ 8 → (0 ≤ y 33 0 ∧ y 33 0 ≤ 1000) → zR K x y S → (∀ S', zR K x (sF8 y w n) S' → zwp (zM_feed_8 d a b c (zI (8 * q + 8)) S') Q) → zwp (zM_feed_8 d a b c (zI (8 * q + 8 - n)) S) Q
  | 0, y, S, hn, hb, h, hQ => by
    rw [show 8 * q + 8 - ((0 : Nat) : Int) = 8 * q + 8 by omega]
    exact hQ S h
  | n + 1, y, S, hn, hb, h, hQ => by
    obtain ⟨v, v1, v2, v3, v4⟩ := zbyt w (zI (8 * n))
    have eF : sF8 y w (n + 1) = sF8 (sSign y v) w n := by rw [sF8, v4]
    rw [eF] at hQ
    have ih := fun y' S' hb' h' hQ' => zM_feed_8_s d a b c w hq hw Q n y' S' (by omega) hb' h' hQ'
    have e9 : zI (8 * q + 8 - ((n + 1 : Nat) : Int)) + 1 = zI (8 * q + 8 - (n : Int)) := by rw [zI_n1, zI_add]; exact congrArg zI (by omega)
    have c33 := zRm33 h
    have es := zsh (((n + 1 : Nat) : Int)) q (by omega) hq
    rw [show ((n + 1 : Nat) : Int) - 1 = n by omega] at es
    have step : zwp (zM_feed_39 d a b c (zI (8 * q + 8 - ((n + 1 : Nat) : Int))) w S) Q := by
      rw [eM_feed_39, es, e9, c33]
      show zwp (zif ((1000 : Int32) ≤ zI (y 33 0)) _ (zif (zbt w (zI (8 * (n : Int))) = 10) (zg (zin (zI (y 33 0)) 1000) (zM_feed_8 d a b c (zI (8 * q + 8 - (n : Int))) ((zu (zu S.1 89 0 (zx (zI (y 33 0))) (zbt w (zI (8 * (n : Int))))) 11 0 36 (((zu S.1 89 0 (zx (zI (y 33 0))) (zbt w (zI (8 * (n : Int))))) 11 0 36) + 1)), S.2))) (zif (zbt w (zI (8 * (n : Int))) < 32) (zM_feed_8 d a b c (zI (8 * q + 8 - (n : Int))) S) (zif (126 < zbt w (zI (8 * (n : Int)))) (zM_feed_8 d a b c (zI (8 * q + 8 - (n : Int))) S) (zg (zin (zI (y 33 0)) 1000) (zM_feed_8 d a b c (zI (8 * q + 8 - (n : Int))) ((zu (zu S.1 89 0 (zx (zI (y 33 0))) (zbt w (zI (8 * (n : Int))))) 11 0 36 (((zu S.1 89 0 (zx (zI (y 33 0))) (zbt w (zI (8 * (n : Int))))) 11 0 36) + 1)), S.2))))))) _
      rw [v3, show (1000 : Int32) = zI 1000 from rfl, zI_le (by omega) (by omega) (by omega) (by omega)]
      by_cases hf : 1000 ≤ y 33 0
      · rw [zif_pos hf]
        have es2 : sSign y v = y := by unfold sSign; rw [if_neg (fun hn => by omega)]
        rw [es2] at hQ
        exact ih y S hb h hQ
      · rw [zif_neg hf]
        have no : ¬ zSg v → zwp (zM_feed_8 d a b c (zI (8 * q + 8 - (n : Int))) S) Q := by
          intro hv
          have es2 : sSign y v = y := by unfold sSign; rw [if_neg (fun hn => hv hn.2)]
          rw [es2] at hQ
          exact ih y S hb h hQ
        have yes : zSg v → zwp (zg (zin (zI (y 33 0)) 1000) (zM_feed_8 d a b c (zI (8 * q + 8 - (n : Int))) ((zu (zu S.1 89 0 (zx (zI (y 33 0))) (zI v)) 11 0 36 (((zu S.1 89 0 (zx (zI (y 33 0))) (zI v)) 11 0 36) + 1)), S.2))) Q := by
          intro hv
          rw [zg_t (by rw [zI_in (by omega) (by omega)]; omega), zI_zx (by omega) (by omega)]
          have w1 := zWm34 h (k := y 33 0) (v := v) (by omega) (by omega) (by omega) (by omega)
          have w2 := zWm33 w1 (v := y 33 0 + 1) (by omega) (by omega)
          have es2 : sSign y v = xu (xu y 34 (y 33 0) v) 33 0 (y 33 0 + 1) := by unfold sSign; rw [if_pos ⟨by omega, hv⟩]
          rw [← es2] at w2
          have ec : (zu S.1 89 0 (y 33 0).toNat (zI v)) 11 0 36 + (1 : Int32) = zI (y 33 0 + 1) := by
            rw [zu_tag _ (by decide), c33, zI_n1, zI_add]
          rw [ec]
          exact ih _ _ (sSign_b hb v) w2 hQ
        rw [show (10 : Int32) = zI 10 from rfl, show (32 : Int32) = zI 32 from rfl, show (126 : Int32) = zI 126 from rfl, zI_eq (by omega) (by omega) (by omega) (by omega), zI_lt (by omega) (by omega) (by omega) (by omega), zI_lt (by omega) (by omega) (by omega) (by omega)]
        by_cases h10 : v = 10
        · rw [zif_pos h10]; exact yes (Or.inl h10)
        · rw [zif_neg h10]
          by_cases h32 : v < 32
          · rw [zif_pos h32]; exact no (by omega)
          · rw [zif_neg h32]
            by_cases h126 : 126 < v
            · rw [zif_pos h126]; exact no (by omega)
            · rw [zif_neg h126]; exact yes (by omega)
    rw [eM_feed_8, show (24 : Int32) = zI 24 from rfl, show (8 : Int32) = zI 8 from rfl, show (16 : Int32) = zI 16 from rfl, zI_le (by omega) (by omega) (by omega) (by omega), zI_le (by omega) (by omega) (by omega) (by omega), zI_le (by omega) (by omega) (by omega) (by omega), zif_neg (by omega)]
    rcases (show q = 0 ∨ q = 1 ∨ q = 2 by omega) with e | e | e
    · rw [if_pos e] at hw
      rw [zif_neg (by omega)]; rw [hw] at step; exact step
    · rw [if_neg (by omega), if_pos e] at hw
      rw [zif_pos (by omega), zif_neg (by omega)]; rw [hw] at step; exact step
    · rw [if_neg (by omega), if_neg (by omega)] at hw
      rw [zif_pos (by omega), zif_pos (by omega)]; rw [hw] at step; exact step
theorem zM_feed_s (h : zR K x y S) (hb : 0 ≤ y 33 0 ∧ y 33 0 ≤ 1000) (d : Nat) (a b c : Int64) : zwp (zM_feed (d + 1) a b c S) (fun r => r.1 = zI (sFeed y a b c).1 ∧ zR K x (sFeed y a b c).2 r.2) := by
  rw [eM_feed]
  unfold sFeed
  have h0 := zR_s h (t := 11) (s := 0) rfl 0 (0 : Int32)
  generalize hS : ((zu S.1 11 0 0 (0 : Int32)), S.2) = S' at h0 ⊢
  have hS1 : zu S.1 11 0 0 (0 : Int32) = S'.1 := by rw [← hS]
  have hS2 : S.2 = S'.2 := by rw [← hS]
  try simp only [hS1, hS2]
  refine zM_feed_8_s (K := K) (x := x) d a b c a (q := 0) (by omega) rfl _ 8 y S' (by omega) hb h0 (fun S1 h1 => ?_)
  refine zM_feed_8_s (K := K) (x := x) d a b c b (q := 1) (by omega) rfl _ 8 _ S1 (by omega) (sF8_b a 8 y hb) h1 (fun S2 h2 => ?_)
  refine zM_feed_8_s (K := K) (x := x) d a b c c (q := 2) (by omega) rfl _ 8 _ S2 (by omega) (sF8_b b 8 _ (sF8_b a 8 y hb)) h2 (fun S3 h3 => ?_)
  rw [eM_feed_8, show (24 : Int32) = zI 24 from rfl, zI_le (by omega) (by omega) (by omega) (by omega), zif_pos (by omega), zwp_some]
  generalize sF8 (sF8 (sF8 y a 8) b 8) c 8 = X at h3 ⊢
  exact ⟨zRm33 h3, h3⟩
end FD
