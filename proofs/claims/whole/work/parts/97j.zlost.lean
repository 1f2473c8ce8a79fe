/-! LOST, MORE: the spec, and ways, of both sides -/
def zwy (n : Int) : Nat → Int
  | 0 => 1
  | i + 1 => zwy n i * (n - i) / (i + 1)
def zwm (n k : Int) : Nat → Int
  | 0 => 1
  | i + 1 => zwm n k i * (n - k + (i + 1)) / (i + 1)
/-- how many ways to choose k of n -/
def zwn (n k : Int) : Int := zwy n k.toNat
theorem zwy_f : ∀ (n : Fin 9) (i : Fin 9), 0 ≤ zwy (n.val : Int) i.val ∧ zwy (n.val : Int) i.val ≤ 70 ∧ 0 ≤ zwy (n.val : Int) i.val * ((n.val : Int) - i.val) := by decide +kernel
theorem zwy_0 : ∀ k : Fin 8, zwy ((0 : Nat) : Int) (k.val + 1) = 0 := by decide +kernel
theorem zwy_p : ∀ (n : Fin 8) (k : Fin 8), zwy ((n.val + 1 : Nat) : Int) (k.val + 1) = zwy (n.val : Int) k.val + zwy (n.val : Int) (k.val + 1) := by decide +kernel
theorem zwm_f : ∀ (n : Fin 9) (k : Fin 9) (i : Fin 9), k.val ≤ n.val → 0 ≤ zwm (n.val : Int) k.val i.val ∧ zwm (n.val : Int) k.val i.val ≤ 100000 := by decide +kernel
theorem zwe_f : ∀ (n : Fin 9) (k : Fin 9), zwy (n.val : Int) k.val = if k.val ≤ n.val then zwm (n.val : Int) k.val k.val else 0 := by decide +kernel
theorem zwy_b {n : Int} {i : Nat} (hn : 0 ≤ n ∧ n ≤ 8) (hi : i ≤ 8) : 0 ≤ zwy n i ∧ zwy n i ≤ 70 ∧ 0 ≤ zwy n i * (n - i) := by
  have q := zwy_f ⟨n.toNat, by omega⟩ ⟨i, by omega⟩
  dsimp only at q
  rw [show ((n.toNat : Nat) : Int) = n by omega] at q
  exact q
theorem zwm_b {n : Int} {k i : Nat} (hn : 0 ≤ n ∧ n ≤ 8) (hk : (k : Int) ≤ n) (hi : i ≤ 8) : 0 ≤ zwm n k i ∧ zwm n k i ≤ 100000 := by
  have q := zwm_f ⟨n.toNat, by omega⟩ ⟨k, by omega⟩ ⟨i, by omega⟩ (by show k ≤ n.toNat; omega)
  dsimp only at q
  rw [show ((n.toNat : Nat) : Int) = n by omega] at q
  exact q
theorem zwe_b {n : Int} {k : Nat} (hn : 0 ≤ n ∧ n ≤ 8) (hk : k ≤ 8) : zwy n k = if (k : Int) ≤ n then zwm n k k else 0 := by
  have q := zwe_f ⟨n.toNat, by omega⟩ ⟨k, by omega⟩
  dsimp only at q
  rw [show ((n.toNat : Nat) : Int) = n by omega] at q
  rw [q]
  by_cases h : (k : Int) ≤ n
  · rw [if_pos h, if_pos (by omega)]
  · rw [if_neg h, if_neg (by omega)]
theorem zwn_b {n k : Int} (hn : 0 ≤ n ∧ n ≤ 8) (hk : 0 ≤ k ∧ k ≤ 8) : 0 ≤ zwn n k ∧ zwn n k ≤ 70 := by
  have q := zwy_b hn (i := k.toNat) (by omega)
  exact ⟨q.1, q.2.1⟩
section WY
variable (S : ZS)
theorem zO_ways_n (d : Nat) : ∀ n k : Nat, n ≤ 8 → k ≤ 8 → zO_ways (d + n + 1) (zI n) (zI k) S = some (zI (zwy n k), S)
  | n, 0, _, _ => by
    rw [eO_ways, zI_n0, zI_eq (by omega) (by omega) (by omega) (by omega), zif_pos (by omega)]
    rfl
  | 0, k + 1, _, hk => by
    rw [eO_ways, zI_n0, zI_eq (by omega) (by omega) (by omega) (by omega), zif_neg (by omega), zI_lt (by omega) (by omega) (by omega) (by omega), zif_neg (by omega)]
    have q := zwy_0 ⟨k, by omega⟩
    dsimp only at q
    show some (zI 0, S) = some (zI (zwy ((0 : Nat) : Int) (k + 1)), S)
    rw [q]
  | n + 1, k + 1, hn, hk => by
    have i1 := zO_ways_n d n k (by omega) (by omega)
    have i2 := zO_ways_n d n (k + 1) (by omega) (by omega)
    have q := zwy_p ⟨n, by omega⟩ ⟨k, by omega⟩
    dsimp only at q
    rw [eO_ways, zI_n0, zI_eq (by omega) (by omega) (by omega) (by omega), zif_neg (by omega), zI_lt (by omega) (by omega) (by omega) (by omega), zif_pos (by omega), zI_n1, zI_sub, zI_sub, show ((n + 1 : Nat) : Int) - 1 = (n : Int) by omega, show ((k + 1 : Nat) : Int) - 1 = (k : Int) by omega, show d + (n + 1) = d + n + 1 from rfl, i1, zBs0]
    dsimp only
    rw [i2, zBs0]
    dsimp only
    rw [zI_add, q]
theorem zO_ways_s (d : Nat) {n k : Int} (hn : 0 ≤ n ∧ n ≤ 8) (hk : 0 ≤ k ∧ k ≤ 8) : zO_ways (d + 9) (zI n) (zI k) S = some (zI (zwn n k), S) := by
  have q := zO_ways_n S (d + (8 - n.toNat)) n.toNat k.toNat (by omega) (by omega)
  rw [show d + (8 - n.toNat) + n.toNat + 1 = d + 9 by omega, show ((n.toNat : Nat) : Int) = n by omega, show ((k.toNat : Nat) : Int) = k by omega] at q
  exact q
theorem zM_ways_15_s (d : Nat) {n : Int} {k : Nat} (hn : 0 ≤ n ∧ n ≤ 8) (hk : (k : Int) ≤ n) : ∀ (m i : Nat), i + m = k → zM_ways_15 d (zI n) (zI k) (zI (zwm n k i)) (zI ((i : Int) + 1)) S = some (zI (zwm n k (i + m)), S)
  | 0, i, e => by
    rw [eM_ways_15, zI_lt (by omega) (by omega) (by omega) (by omega), zif_pos (by omega)]
    rfl
  | m + 1, i, e => by
    have b := zwm_b hn hk (i := i) (by omega)
    have ih := zM_ways_15_s d hn hk m (i + 1) (by omega)
    rw [show i + 1 + m = i + (m + 1) by omega, show ((i + 1 : Nat) : Int) = (i : Int) + 1 by omega, zwm] at ih
    have h0 : 0 ≤ n - k + ((i : Int) + 1) ∧ n - k + ((i : Int) + 1) ≤ 16 := by omega
    have b1 := Int.mul_nonneg b.1 h0.1
    have b2 : zwm n k i * (n - k + ((i : Int) + 1)) ≤ 100000 * 16 := Int.mul_le_mul b.2 h0.2 h0.1 (by omega)
    rw [eM_ways_15, zI_lt (by omega) (by omega) (by omega) (by omega), zif_neg (by omega), zif_zz, show (0 : Int32) = zI 0 from rfl, zI_eq (by omega) (by omega) (by omega) (by omega), zif_neg (by omega), zI_sub, zI_add, zI_mul, zI_div b1 (by omega) (by omega) (by omega), zI_n1, zI_add]
    exact ih
theorem zM_ways_s (d : Nat) {n k : Int} (hn : 0 ≤ n ∧ n ≤ 8) (hk : 0 ≤ k ∧ k ≤ 8) : zM_ways (d + 1) (zI n) (zI k) S = some (zI (zwn n k), S) := by
  have e := zwe_b hn (k := k.toNat) (by omega)
  rw [show ((k.toNat : Nat) : Int) = k by omega] at e
  unfold zwn
  rw [e, eM_ways, zI_n0, zI_lt (by omega) (by omega) (by omega) (by omega), zif_neg (by omega), zI_le (by omega) (by omega) (by omega) (by omega)]
  by_cases h : k ≤ n
  · have q := zM_ways_15_s S d (n := n) (k := k.toNat) hn (by omega) k.toNat 0 (by omega)
    rw [show ((k.toNat : Nat) : Int) = k by omega, Nat.zero_add] at q
    rw [zif_pos h, if_pos h]
    exact q
  · rw [zif_neg h, if_neg h]
end WY
/-- an end of a section's level -/
def zEl (x : ZW) (r s l : Int) (e : Int) : Prop := ∃ p, 0 ≤ p ∧ p < 4 ∧ x 6 (80 * r + 40 * s + 4 * l + p) = e
noncomputable def sOwn (x : ZW) (r l s : Int) : Int := zsm (fun e => sI (zEl x r s l e ∧ ¬ zEl x r (1 - s) l e ∧ x 9 e = 0) 1 0) 116
noncomputable def sShr (x : ZW) (r l : Int) : Int := zsm (fun e => sI (zEl x r 0 l e ∧ zEl x r 1 l e ∧ x 9 e = 0) 1 0) 116
def sW1 (x : ZW) (r : Int) : Int := if x 5 r = 2 then x 4 r / 2 else 0
/-- ways that lose, by the first n numbers of switches of section 0 -/
def zls (o0 o1 sh w0 w1 k : Int) : Nat → Int
  | 0 => 0
  | n + 1 => if max 0 ((n : Int) - o0) + max 0 (k - n - o1) ≤ sh then zls o0 o1 sh w0 w1 k n else zls o0 o1 sh w0 w1 k n + zwn w0 n * zwn w1 (k - n)
noncomputable def sLosing (x : ZW) (r l k a : Int) : Int := zls (sOwn x r l 0) (sOwn x r l 1) (sShr x r l + a) (x 4 r - sW1 x r) (sW1 x r) k (k.toNat + 1)
theorem zls_b (o0 o1 sh : Int) {w0 w1 k : Int} (h0 : 0 ≤ w0 ∧ w0 ≤ 8) (h1 : 0 ≤ w1 ∧ w1 ≤ 8) (hk : 0 ≤ k ∧ k ≤ 8) : ∀ n : Nat, (n : Int) ≤ k + 1 → 0 ≤ zls o0 o1 sh w0 w1 k n ∧ zls o0 o1 sh w0 w1 k n ≤ 4900 * n
  | 0, _ => by unfold zls; omega
  | n + 1, h => by
    have ih := zls_b o0 o1 sh h0 h1 hk n (by omega)
    have a := zwn_b h0 (k := n) (by omega)
    have b := zwn_b h1 (k := k - n) (by omega)
    have m0 := Int.mul_nonneg a.1 b.1
    have m1 : zwn w0 n * zwn w1 (k - n) ≤ 70 * 70 := Int.mul_le_mul a.2 b.2 b.1 (by omega)
    rw [zls]
    split <;> omega
theorem zls_0 {o0 o1 sh w0 w1 k : Int} (ho0 : 0 ≤ o0) (ho1 : 0 ≤ o1) (hs : k ≤ sh) (hk : 0 ≤ k) : ∀ n : Nat, (n : Int) ≤ k + 1 → zls o0 o1 sh w0 w1 k n = 0
  | 0, _ => rfl
  | n + 1, h => by
    rw [zls, if_pos (by omega)]
    exact zls_0 ho0 ho1 hs hk n (by omega)
