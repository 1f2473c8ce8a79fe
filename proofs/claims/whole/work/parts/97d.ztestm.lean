/-! TEST of the reference -/
section TM
variable {K : ZS} {x y : ZW} {S : ZS}
theorem zM_clears_23_f (d : Nat) : ∀ (m n : Nat) (S : ZS), (n : Int) + m = 40 → zwp (zM_clears_23 d (zI n) S) (fun r => ∀ t, t ≠ 80 → t ≠ 81 → r.1 t = S.1 t)
  | 0, n, S, e => by
    rw [eM_clears_23, show (40 : Int32) = zI 40 from rfl, zI_le (by omega) (by omega) (by omega) (by omega), zif_pos (by omega), zwp_some]
    exact fun t _ _ => rfl
  | m + 1, n, S, e => by
    have ih := zM_clears_23_f d m (n + 1) (zu S.1 81 0 (n : Int).toNat (zI 0), S.2) (by omega)
    rw [show ((n + 1 : Nat) : Int) = (n : Int) + 1 by omega] at ih
    rw [eM_clears_23, show (40 : Int32) = zI 40 from rfl, zI_le (by omega) (by omega) (by omega) (by omega), zif_neg (by omega), zg_t (by rw [zI_in (by omega) (by omega)]; omega), zg_t (show zbl 0 = true from rfl), zI_n1, zI_add, zI_zx (by omega) (by omega)]
    exact zwp_mono ih (fun r hr t a b => (hr t a b).trans (by funext i k; exact zu_tag _ b))
theorem zM_clears_2_f (d : Nat) : ∀ (m n : Nat) (S : ZS), (n : Int) + m = 116 → zwp (zM_clears_2 d (zI n) S) (fun r => ∀ t, t ≠ 80 → t ≠ 81 → r.1 t = S.1 t)
  | 0, n, S, e => by
    rw [eM_clears_2, show (116 : Int32) = zI 116 from rfl, zI_le (by omega) (by omega) (by omega) (by omega), zif_pos (by omega)]
    exact zM_clears_23_f d 40 0 S (by omega)
  | m + 1, n, S, e => by
    have ih := zM_clears_2_f d m (n + 1) (zu S.1 80 0 (n : Int).toNat (zI 0), S.2) (by omega)
    rw [show ((n + 1 : Nat) : Int) = (n : Int) + 1 by omega] at ih
    rw [eM_clears_2, show (116 : Int32) = zI 116 from rfl, zI_le (by omega) (by omega) (by omega) (by omega), zif_neg (by omega), zg_t (by rw [zI_in (by omega) (by omega)]; omega), zg_t (show zbl 0 = true from rfl), zI_n1, zI_add, zI_zx (by omega) (by omega)]
    exact zwp_mono ih (fun r hr t a b => (hr t a b).trans (by funext i k; exact zu_tag _ a))
theorem zM_clears_f (S : ZS) (d : Nat) : zwp (zM_clears (d + 1) S) (fun r => ∀ t, t ≠ 80 → t ≠ 81 → r.1 t = S.1 t) := by
  rw [eM_clears]
  exact zM_clears_2_f d 116 0 S (by omega)
theorem zwp_and {α : Type} {o : Option α} {P Q : α → Prop} (h : zwp o P) (h' : zwp o Q) : zwp o (fun r => P r ∧ Q r) := by
  obtain ⟨r, e, p⟩ := h
  obtain ⟨r', e', q⟩ := h'
  rw [e] at e'
  cases e'
  exact ⟨r, e, p, q⟩
theorem zM_test_113_s (d : Nat) {w : ZW} {T H a : Int} {p : Int → Int} (hT : 0 ≤ T ∧ T < 60) (hH : 0 ≤ H ∧ H ≤ 6) (hp : ∀ i, 0 ≤ i → i < H → 0 ≤ p i ∧ p i < 116) (h35 : w 35 0 = T) :
    ∀ (m n : Nat) (S : ZS), (n : Int) + m = H → zR K x (s37 w T (fun e => ∃ i, 0 ≤ i ∧ i < (n : Int) ∧ p i = e)) S → S.1 11 0 68 = zI H → (∀ i, 0 ≤ i → i < H → S.1 112 0 i.toNat = zI (p i)) →
      zwp (zM_test_113 d (zI a) (zI n) S) (fun r => r.1 = zI a ∧ zR K x (s37 (xu w 35 0 (T + 1)) T (fun e => ∃ i, 0 ≤ i ∧ i < H ∧ p i = e)) r.2)
  | 0, n, S, e, h, c68, c112 => by
    have c35 := zRm35 h
    rw [s37_g _ _ _ (by decide), h35] at c35
    have w1 := zWm35 h (v := T + 1) (by omega) (by omega)
    have ee : xu (s37 w T (fun e => ∃ i, 0 ≤ i ∧ i < (n : Int) ∧ p i = e)) 35 0 (T + 1) = s37 (xu w 35 0 (T + 1)) T (fun e => ∃ i, 0 ≤ i ∧ i < H ∧ p i = e) := by
      rw [show (n : Int) = H by omega]
      funext g k
      unfold xu s37
      dsimp only
      by_cases h1 : g = 35 ∧ k = 0
      · rw [if_pos h1, if_neg (by omega), if_pos h1]
      · rw [if_neg h1, if_neg h1]
    rw [ee] at w1
    rw [eM_test_113, c68, zI_le (by omega) (by omega) (by omega) (by omega), zif_pos (by omega), zwp_some, c35, zI_n1, zI_add]
    exact ⟨rfl, w1⟩
  | m + 1, n, S, e, h, c68, c112 => by
    have c35 := zRm35 h
    rw [s37_g _ _ _ (by decide), h35] at c35
    have hpn := hp n (by omega) (by omega)
    have cn := c112 n (by omega) (by omega)
    rw [eM_test_113, c68, zI_le (by omega) (by omega) (by omega) (by omega), zif_neg (by omega), zg_t (by rw [zI_in (by omega) (by omega)]; omega), zI_zx (by omega) (by omega), cn, show (96 : Int32) = zI 96 from rfl, zI_le (by omega) (by omega) (by omega) (by omega), zI_n1, zI_add]
    by_cases h96 : 96 ≤ p n
    · rw [zif_pos h96]
      have ee : s37 w T (fun e => ∃ i, 0 ≤ i ∧ i < (n : Int) ∧ p i = e) = s37 w T (fun e => ∃ i, 0 ≤ i ∧ i < ((n + 1 : Nat) : Int) ∧ p i = e) := by
        funext g k
        unfold s37
        by_cases h1 : g = 37 ∧ 96 * T ≤ k ∧ k < 96 * T + 96
        · rw [if_pos h1, if_pos h1]
          by_cases hq : ∃ i, 0 ≤ i ∧ i < (n : Int) ∧ p i = k - 96 * T
          · rw [sI_t hq, sI_t]
            obtain ⟨i, a1, a2, a3⟩ := hq
            exact ⟨i, a1, by omega, a3⟩
          · rw [sI_f hq, sI_f]
            rintro ⟨i, a1, a2, a3⟩
            by_cases hi : i = n
            · rw [hi] at a3; omega
            · exact hq ⟨i, a1, by omega, a3⟩
        · rw [if_neg h1, if_neg h1]
      rw [ee] at h
      have ih := zM_test_113_s d (a := a) hT hH hp h35 m (n + 1) S (by omega) h c68 c112
      rw [show ((n + 1 : Nat) : Int) = (n : Int) + 1 by omega] at ih
      exact ih
    · rw [zif_neg h96, zg_t (by rw [zI_in (by omega) (by omega)]; omega), c35, zI_mul, zI_add, zg_t (by rw [zI_in (by omega) (by omega)]; omega), zg_t (show zbl (zI 1) = true from rfl), zI_zx (by omega) (by omega)]
      have w1 := zWm37 h (k := 96 * T + p n) (v := 1) (by omega) (by omega) (by omega) (by omega)
      have ee : xu (s37 w T (fun e => ∃ i, 0 ≤ i ∧ i < (n : Int) ∧ p i = e)) 37 (96 * T + p n) 1 = s37 w T (fun e => ∃ i, 0 ≤ i ∧ i < ((n + 1 : Nat) : Int) ∧ p i = e) := by
        funext g k
        unfold xu
        by_cases h0 : g = 37 ∧ k = 96 * T + p n
        · rw [if_pos h0]
          unfold s37
          rw [if_pos (by omega), sI_t]
          exact ⟨n, by omega, by omega, by omega⟩
        · rw [if_neg h0]
          unfold s37
          by_cases h1 : g = 37 ∧ 96 * T ≤ k ∧ k < 96 * T + 96
          · rw [if_pos h1, if_pos h1]
            by_cases hq : ∃ i, 0 ≤ i ∧ i < (n : Int) ∧ p i = k - 96 * T
            · rw [sI_t hq, sI_t]
              obtain ⟨i, a1, a2, a3⟩ := hq
              exact ⟨i, a1, by omega, a3⟩
            · rw [sI_f hq, sI_f]
              rintro ⟨i, a1, a2, a3⟩
              by_cases hi : i = n
              · rw [hi] at a3; exact h0 ⟨h1.1, by omega⟩
              · exact hq ⟨i, a1, by omega, a3⟩
          · rw [if_neg h1, if_neg h1]
      rw [ee] at w1
      have ih := zM_test_113_s d (a := a) hT hH hp h35 m (n + 1) _ (by omega) w1 (by simp [zu]; exact c68) (fun i i0 i1 => by simp [zu]; exact c112 i i0 i1)
      rw [show ((n + 1 : Nat) : Int) = (n : Int) + 1 by omega] at ih
      exact ih
def zc37 (w : ZW) (T n : Int) : ZW := fun g k => if g = 37 ∧ 96 * T ≤ k ∧ k < 96 * T + n then 0 else w g k
theorem zM_test_81_s (d : Nat) {w : ZW} {T H a : Int} {p : Int → Int} (hT : 0 ≤ T ∧ T < 60) (hH : 0 ≤ H ∧ H ≤ 6) (hp : ∀ i, 0 ≤ i → i < H → 0 ≤ p i ∧ p i < 116) (h35 : w 35 0 = T) :
    ∀ (m n : Nat) (S : ZS), (n : Int) + m = 96 → zR K x (zc37 w T n) S → S.1 11 0 68 = zI H → (∀ i, 0 ≤ i → i < H → S.1 112 0 i.toNat = zI (p i)) →
      zwp (zM_test_81 d (zI a) (zI n) S) (fun r => r.1 = zI a ∧ zR K x (s37 (xu w 35 0 (T + 1)) T (fun e => ∃ i, 0 ≤ i ∧ i < H ∧ p i = e)) r.2)
  | 0, n, S, e, h, c68, c112 => by
    have ee : zc37 w T n = s37 w T (fun e => ∃ i, 0 ≤ i ∧ i < ((0 : Nat) : Int) ∧ p i = e) := by
      funext g k
      unfold zc37 s37
      rw [show (n : Int) = 96 by omega]
      by_cases h1 : g = 37 ∧ 96 * T ≤ k ∧ k < 96 * T + 96
      · rw [if_pos h1, if_pos h1, sI_f]
        rintro ⟨i, a1, a2, a3⟩
        omega
      · rw [if_neg h1, if_neg h1]
    rw [ee] at h
    rw [eM_test_81, show (96 : Int32) = zI 96 from rfl, zI_le (by omega) (by omega) (by omega) (by omega), zif_pos (by omega)]
    exact zM_test_113_s d (a := a) hT hH hp h35 H.toNat 0 S (by omega) h c68 c112
  | m + 1, n, S, e, h, c68, c112 => by
    have c35 := zRm35 h
    rw [show zc37 w T n 35 0 = w 35 0 from if_neg (by omega), h35] at c35
    have w1 := zWm37 h (k := 96 * T + n) (v := 0) (by omega) (by omega) (by omega) (by omega)
    have ee : xu (zc37 w T n) 37 (96 * T + n) 0 = zc37 w T ((n + 1 : Nat) : Int) := by
      funext g k
      unfold xu zc37
      by_cases h0 : g = 37 ∧ k = 96 * T + n
      · rw [if_pos h0, if_pos (by omega)]
      · rw [if_neg h0]
        by_cases h1 : g = 37 ∧ 96 * T ≤ k ∧ k < 96 * T + n
        · rw [if_pos h1, if_pos (by omega)]
        · rw [if_neg h1, if_neg (by omega)]
    rw [ee] at w1
    have ih := zM_test_81_s d (a := a) hT hH hp h35 m (n + 1) _ (by omega) w1 (by simp [zu]; exact c68) (fun i i0 i1 => by simp [zu]; exact c112 i i0 i1)
    rw [show ((n + 1 : Nat) : Int) = (n : Int) + 1 by omega] at ih
    rw [eM_test_81, show (96 : Int32) = zI 96 from rfl, zI_le (by omega) (by omega) (by omega) (by omega), zif_neg (by omega), c35, zI_mul, zI_add, zg_t (by rw [zI_in (by omega) (by omega)]; omega), zg_t (show zbl 0 = true from rfl), zI_n1, zI_add, zI_zx (by omega) (by omega)]
    exact ih
theorem zM_test_s (h : zR K x y S) (g : zGd y) (h40 : ∀ e, y 40 e = 0) (h41 : ∀ j, y 41 j = 0) (h35 : 0 ≤ y 35 0 ∧ y 35 0 ≤ 60) (d : Nat) {l v m : Int} (l1 : -2147483648 ≤ l) (l2 : l < 2147483648) (v1 : -2147483648 ≤ v) (v2 : v < 2147483648) (m1 : -2147483648 ≤ m) (m2 : m < 2147483648) : zwp (zM_test (d + 4) (zI l) (zI v) (zI m) S) (fun r => r.1 = zI (sTest y l v m).1 ∧ zR K x (sTest y l v m).2 r.2) := by
  unfold sTest
  rw [eM_test]
  have h0 := zR_s h (t := 11) (s := 0) rfl 0 (0 : Int32)
  generalize hS : ((zu S.1 11 0 0 (0 : Int32)), S.2) = S' at h0 ⊢
  have hS1 : zu S.1 11 0 0 (0 : Int32) = S'.1 := by rw [← hS]
  have hS2 : S.2 = S'.2 := by rw [← hS]
  try simp only [hS1, hS2]
  rw [zM_canTry_s h0 g.1 d l1 l2 v1 v2 m1 m2]
  show zwp (zif (zb _ = 0) (some (-1, S')) ((zM_clears (d + 3) S').bind _)) _
  by_cases hc : sTry y l v m
  · rw [if_pos hc, zif_neg (by rw [zb_0]; exact fun hn => hn hc)]
    have bA := sAt_b g (v := v) (m := m) hc.1 hc.2.1
    obtain ⟨S1, e1, r1⟩ := zM_clears_s h0 h40 h41 (zEv_r y) (d + 2)
    obtain ⟨⟨rv, S2⟩, e2, q1, y', q2, q3, q4, q5, q6⟩ := zM_meets_s r1 g.1 (zT_refl h40 h41) g d (l := l) (v := v) (m := m) hc.1 ⟨hc.2.2.1, hc.2.2.2.1⟩ hc.2.2.2.2
    rw [if_pos hc.2.1] at q1
    have q1 : rv = zI (sAt y l v m) := q1
    subst q1
    obtain ⟨S3, e3, r3, fr⟩ := zwp_and (zM_clears_s q2 h40 h41 q4 (d + 2)) (zM_clears_f S2 (d + 2))
    rw [e1]
    show zwp ((zM_meets (d + 3) (zI l) (zI v) (zI m) S1).bind _) _
    rw [e2]
    show zwp ((zM_clears (d + 3) S2).bind _) _
    rw [e3]
    show zwp (zif (zI (sAt y l v m) = 2) (zM_test_46 (d + 3) (zI (sAt y l v m)) S3) (zif (zI (sAt y l v m) = 5) (zM_test_46 (d + 3) (zI (sAt y l v m)) S3) (some (zI (sAt y l v m), S3)))) _
    rw [zI_n2, zI_n5, zI_eq (by omega) (by omega) (by omega) (by omega), zI_eq (by omega) (by omega) (by omega) (by omega)]
    by_cases h25 : sAt y l v m = 2 ∨ sAt y l v m = 5
    · have hf : ¬ sFF y (y 12 l) < 0 := by
        intro hf
        unfold sAt at h25
        rw [if_pos hf] at h25
        omega
      obtain ⟨k1, k2, k3, k4⟩ := sMk_z g (v := v) (m := m) hc.1 hc.2.1 hf m.toNat
      have k22 := sMk_22 g (v := v) (m := m) hc.1 hc.2.1 hf m.toNat
      have b22 := k1.2.1 l
      obtain ⟨-, -, -, c68, c112⟩ := q6 ⟨hc.2.1, hf⟩
      have c68 : S3.1 11 0 68 = zI ((sMk y l v m m.toNat) 22 l) := by rw [fr 11 (by decide) (by decide)]; exact c68
      have c112 : ∀ i, 0 ≤ i → i < (sMk y l v m m.toNat) 22 l → S3.1 112 0 i.toNat = zI ((sMk y l v m m.toNat) 23 (120 * l + i)) := fun i i0 i1 => by rw [fr 112 (by decide) (by decide)]; exact c112 i i0 i1
      have hp : ∀ i, 0 ≤ i → i < (sMk y l v m m.toNat) 22 l → 0 ≤ (sMk y l v m m.toNat) 23 (120 * l + i) ∧ (sMk y l v m m.toNat) 23 (120 * l + i) < 116 := by
        intro i i0 i1
        have := (zCl_e k1 k2 k3).2.1 i i0 i1
        exact this
      have main : zwp (zM_test_46 (d + 3) (zI (sAt y l v m)) S3) (fun r => r.1 = zI (if (sAt y l v m = 2 ∨ sAt y l v m = 5) ∧ y 35 0 < 60 then (sAt y l v m, s37 (xu (xu y 36 (y 35 0) (if sAt y l v m = 2 then 1 else 0)) 35 0 (y 35 0 + 1)) (y 35 0) (zHd (sMk y l v m m.toNat) l)) else (sAt y l v m, y)).1 ∧ zR K x (if (sAt y l v m = 2 ∨ sAt y l v m = 5) ∧ y 35 0 < 60 then (sAt y l v m, s37 (xu (xu y 36 (y 35 0) (if sAt y l v m = 2 then 1 else 0)) 35 0 (y 35 0 + 1)) (y 35 0) (zHd (sMk y l v m m.toNat) l)) else (sAt y l v m, y)).2 r.2) := by
        have c35 := zRm35 r3
        rw [eM_test_46, c35, show (60 : Int32) = zI 60 from rfl, zI_eq (by omega) (by omega) (by omega) (by omega)]
        by_cases h60 : y 35 0 = 60
        · rw [zif_pos h60, zwp_some, if_neg (fun hn => by omega)]
          exact ⟨rfl, r3⟩
        · rw [zif_neg h60, if_pos ⟨h25, by omega⟩]
          have step : ∀ f : Int, f = (if sAt y l v m = 2 then 1 else 0) → (f = 0 ∨ f = 1) → zwp (zg (zin (zI (y 35 0)) 60) (zg (zbl (zI f)) (zM_test_81 (d + 3) (zI (sAt y l v m)) (zI 0) ((zu S3.1 117 0 (zx (zI (y 35 0))) (zI f)), S3.2)))) (fun r => r.1 = zI (sAt y l v m) ∧ zR K x (s37 (xu (xu y 36 (y 35 0) (if sAt y l v m = 2 then 1 else 0)) 35 0 (y 35 0 + 1)) (y 35 0) (zHd (sMk y l v m m.toNat) l)) r.2) := by
            intro f hf2 hf01
            rw [← hf2, zg_t (by rw [zI_in (by omega) (by omega)]; omega), zg_t (zI_bl hf01), zI_zx (by omega) (by omega)]
            have w1 := zWm36 r3 (k := y 35 0) (v := f) (by omega) (by omega) (by omega) (by omega)
            have ee : zc37 (xu y 36 (y 35 0) f) (y 35 0) ((0 : Nat) : Int) = xu y 36 (y 35 0) f := by
              funext g' k'
              unfold zc37
              rw [if_neg (by omega)]
            exact zM_test_81_s (K := K) (x := x) (d + 3) (w := xu y 36 (y 35 0) f) (T := y 35 0) (H := (sMk y l v m m.toNat) 22 l) (p := fun i => (sMk y l v m m.toNat) 23 (120 * l + i)) (by omega) (by omega) hp (xu_g _ (by decide)) 96 0 _ (by omega) (by rw [ee]; exact w1) (by simp [zu]; exact c68) (fun i i0 i1 => by simp [zu]; exact c112 i i0 i1)
          rw [zI_n2, zI_eq (by omega) (by omega) (by omega) (by omega)]
          by_cases h2 : sAt y l v m = 2
          · rw [zif_pos h2]
            exact step 1 (by rw [if_pos h2]) (Or.inr rfl)
          · rw [zif_neg h2]
            exact step 0 (by rw [if_neg h2]) (Or.inl rfl)
      by_cases h2 : sAt y l v m = 2
      · rw [zif_pos h2]; exact main
      · rw [zif_neg h2, zif_pos (h25.resolve_left h2)]; exact main
    · rw [zif_neg (fun hn => h25 (Or.inl hn)), zif_neg (fun hn => h25 (Or.inr hn)), if_neg (fun hn => h25 hn.1), zwp_some]
      exact ⟨rfl, r3⟩
  · rw [if_neg hc, zif_pos (by rw [zb_0]; exact hc), zwp_some]
    exact ⟨rfl, h0⟩
end TM
