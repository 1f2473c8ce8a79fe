/-! LONGS: Int64 as Int -/
def zJ (n : Int) : Int64 := Int64.ofInt n
theorem zJ_toInt {n : Int} (h1 : -9223372036854775808 ≤ n) (h2 : n < 9223372036854775808) : (zJ n).toInt = n := Int64.toInt_ofInt_of_le h1 h2
theorem zJ_add (a b : Int) : zJ a + zJ b = zJ (a + b) := (Int64.ofInt_add a b).symm
theorem zJ_sub (a b : Int) : zJ a - zJ b = zJ (a - b) := (Int64.ofInt_sub a b).symm
theorem zJ_mul (a b : Int) : zJ a * zJ b = zJ (a * b) := (Int64.ofInt_mul a b).symm
theorem zJ_eq {a b : Int} (h1 : -9223372036854775808 ≤ a) (h2 : a < 9223372036854775808) (h3 : -9223372036854775808 ≤ b) (h4 : b < 9223372036854775808) : (zJ a = zJ b) = (a = b) := by
  rw [← Int64.toInt_inj, zJ_toInt h1 h2, zJ_toInt h3 h4]
theorem zI_J {a : Int} (h1 : -2147483648 ≤ a) (h2 : a < 2147483648) : (zI a).toInt64 = zJ a := by
  rw [← Int64.toInt_inj, Int32.toInt_toInt64, zI_toInt h1 h2, zJ_toInt (by omega) (by omega)]
theorem zlg0 (x y : Int64) : (lg_cmp x y = 0) = (x = y) := by
  apply propext
  unfold lg_cmp
  by_cases h : x > y
  · rw [if_pos h]
    constructor
    · intro e
      exact absurd e (by decide)
    · intro e
      rw [e] at h
      exact absurd h (Int64.lt_irrefl)
  · rw [if_neg h]
    by_cases e : x = y
    · rw [if_pos e]
      exact ⟨fun _ => e, fun _ => rfl⟩
    · rw [if_neg e]
      exact ⟨fun q => absurd q (by decide), fun q => absurd q e⟩
theorem zJ_n0 : (0 : Int64) = zJ 0 := rfl
theorem zJ_n1 : (1 : Int64) = zJ 1 := rfl
theorem zJ_n27 : (27 : Int64) = zJ 27 := rfl
theorem zJ_n32 : (32 : Int64) = zJ 32 := rfl
theorem zJ_n96 : (96 : Int64) = zJ 96 := rfl
/-! THE TAPE: tokens -/
/-- the value of the first letters -/
def zvl (b : Int) (f : Int → Int) : Nat → Int
  | 0 => 0
  | k + 1 => b * zvl b f k + f k
theorem zvl_c {b : Int} {f g : Int → Int} : ∀ n : Nat, (∀ k : Int, 0 ≤ k → k < n → f k = g k) → zvl b f n = zvl b g n
  | 0, _ => rfl
  | n + 1, h => by
    rw [zvl, zvl, zvl_c n (fun k a c => h k a (by omega)), h n (by omega) (by omega)]
theorem zvl_b {f : Int → Int} {b : Int} (hb : b = 27 ∨ b = 32) : ∀ n : Nat, (∀ k : Int, 0 ≤ k → k < n → 1 ≤ f k ∧ f k ≤ 26) → 0 ≤ zvl b f n ∧ zvl b f n < 32 ^ n
  | 0, _ => ⟨Int.le_refl _, show (0 : Int) < 32 ^ 0 by decide⟩
  | n + 1, h => by
    have ih := zvl_b hb n (fun k a c => h k a (by omega))
    have q := h n (by omega) (by omega)
    have p : (32 : Int) ^ (n + 1) = 32 * 32 ^ n := by rw [Int.pow_succ, Int.mul_comm]
    rw [zvl, p]
    rcases hb with rfl | rfl <;> omega
/-- the value says which letters -/
theorem zvl_i {b : Int} (hb : b = 27 ∨ b = 32) {f g : Int → Int} : ∀ n m : Nat, (∀ k : Int, 0 ≤ k → k < n → 1 ≤ f k ∧ f k ≤ 26) → (∀ k : Int, 0 ≤ k → k < m → 1 ≤ g k ∧ g k ≤ 26) → zvl b f n = zvl b g m → n = m ∧ ∀ k : Int, 0 ≤ k → k < n → f k = g k
  | 0, 0, _, _, _ => ⟨rfl, fun k a c => by omega⟩
  | 0, m + 1, hf, hg, e => by
    have q := hg m (by omega) (by omega)
    have w := zvl_b hb m (fun k a c => hg k a (by omega))
    rw [zvl, zvl] at e
    rcases hb with rfl | rfl <;> omega
  | n + 1, 0, hf, hg, e => by
    have q := hf n (by omega) (by omega)
    have w := zvl_b hb n (fun k a c => hf k a (by omega))
    rw [zvl, zvl] at e
    rcases hb with rfl | rfl <;> omega
  | n + 1, m + 1, hf, hg, e => by
    have q := hf n (by omega) (by omega)
    have q' := hg m (by omega) (by omega)
    rw [zvl, zvl] at e
    have e1 : zvl b f n = zvl b g m ∧ f n = g m := by rcases hb with rfl | rfl <;> omega
    obtain ⟨r, s⟩ := zvl_i hb n m (fun k a c => hf k a (by omega)) (fun k a c => hg k a (by omega)) e1.1
    refine ⟨by omega, fun k a c => ?_⟩
    by_cases t : k = n
    · rw [t, e1.2, show (m : Int) = n by omega]
    · exact s k a (by omega)
/-- the first sign from p on that is no blank -/
def zsk (tp : Int → Int) : Nat → Int → Int
  | 0, p => p
  | k + 1, p => if tp p = 32 ∨ tp p = 10 then zsk tp k (p + 1) else p
/-- how many signs from p on lie within -/
def zrnl (tp : Int → Int) (lo hi : Int) : Nat → Int → Int
  | 0, _ => 0
  | k + 1, p => if lo ≤ tp p ∧ tp p ≤ hi then zrnl tp lo hi k (p + 1) + 1 else 0
theorem zsk_b (tp : Int → Int) : ∀ (k : Nat) (p : Int), p ≤ zsk tp k p ∧ zsk tp k p ≤ p + k
  | 0, p => by rw [zsk]; omega
  | k + 1, p => by
    have ih := zsk_b tp k (p + 1)
    rw [zsk]
    split <;> omega
theorem zrnl_b (tp : Int → Int) (lo hi : Int) : ∀ (k : Nat) (p : Int), 0 ≤ zrnl tp lo hi k p ∧ zrnl tp lo hi k p ≤ k ∧ ∀ i, 0 ≤ i → i < zrnl tp lo hi k p → lo ≤ tp (p + i) ∧ tp (p + i) ≤ hi
  | 0, p => by
    rw [zrnl]
    exact ⟨by omega, by omega, fun i a b => by omega⟩
  | k + 1, p => by
    obtain ⟨a, b, c⟩ := zrnl_b tp lo hi k (p + 1)
    rw [zrnl]
    split
    · rename_i q
      refine ⟨by omega, by omega, fun i i0 i1 => ?_⟩
      by_cases t : i = 0
      · rw [t, show p + 0 = p by omega]; exact q
      · have := c (i - 1) (by omega) (by omega)
        rw [show p + 1 + (i - 1) = p + i by omega] at this
        exact this
    · exact ⟨by omega, by omega, fun i a b => by omega⟩
section TK
variable (tp : Int → Int) (n : Int)
def zLt (b : Int) : Int := zrnl tp 97 122 (n - b).toNat b
def zFg (b : Int) : Int := zrnl tp 48 57 (n - b).toNat b
/-- end, word, number, sign, no token -/
def zkd (b : Int) : Int := if n ≤ b then 0 else if 0 < zLt tp n b then (if zLt tp n b ≤ 8 then 1 else 4) else if 0 < zFg tp n b then (if zFg tp n b ≤ 4 then 2 else 4) else if (40 ≤ tp b ∧ tp b ≤ 43) ∨ tp b = 45 ∨ (59 ≤ tp b ∧ tp b ≤ 61) then 3 else 4
def zlnt (b : Int) : Int := if n ≤ b then 0 else if 0 < zLt tp n b then zLt tp n b else if 0 < zFg tp n b then zFg tp n b else 1
def zwl (b : Int) : Int := zvl 27 (fun k => tp (b + k) - 96) (zLt tp n b).toNat
def zwc (b : Int) : Int := zvl 32 (fun k => tp (b + k) - 96) (zLt tp n b).toNat
def znv (b : Int) : Int := zvl 10 (fun k => tp (b + k) - 48) (zFg tp n b).toNat
def znx (b : Int) : Int := zsk tp (n - (b + zlnt tp n b)).toNat (b + zlnt tp n b)
theorem zlnt_b {b : Int} (hb : 0 ≤ b ∧ b ≤ n) : 0 ≤ zlnt tp n b ∧ b + zlnt tp n b ≤ n ∧ (b < n → 1 ≤ zlnt tp n b) := by
  have l := zrnl_b tp 97 122 (n - b).toNat b
  have f := zrnl_b tp 48 57 (n - b).toNat b
  unfold zlnt zLt zFg
  split
  · omega
  · split
    · omega
    · split <;> omega
theorem znx_b {b : Int} (hb : 0 ≤ b ∧ b ≤ n) : b ≤ znx tp n b ∧ znx tp n b ≤ n ∧ (b < n → b < znx tp n b) := by
  have l := zlnt_b tp n hb
  have s := zsk_b tp (n - (b + zlnt tp n b)).toNat (b + zlnt tp n b)
  unfold znx
  omega
theorem zkd_b (b : Int) : 0 ≤ zkd tp n b ∧ zkd tp n b ≤ 4 := by
  unfold zkd
  repeat' split
  all_goals omega
/-- no letter is a figure -/
theorem zLF {b : Int} (h : 0 < zLt tp n b) : zFg tp n b = 0 := by
  have l := (zrnl_b tp 97 122 (n - b).toNat b).2.2 0 (by omega) h
  have f := zrnl_b tp 48 57 (n - b).toNat b
  unfold zFg
  by_cases q : 0 < zrnl tp 48 57 (n - b).toNat b
  · have := f.2.2 0 (by omega) q
    omega
  · omega
theorem zwl_b {b : Int} (h8 : zLt tp n b ≤ 8) : (0 ≤ zwl tp n b ∧ zwl tp n b < 1099511627776) ∧ (0 ≤ zwc tp n b ∧ zwc tp n b < 1099511627776) := by
  have l := zrnl_b tp 97 122 (n - b).toNat b
  have w : ∀ k : Int, 0 ≤ k → k < (zLt tp n b).toNat → 1 ≤ tp (b + k) - 96 ∧ tp (b + k) - 96 ≤ 26 := fun k k0 k1 => by
    have := l.2.2 k k0 (by unfold zLt at k1; omega)
    omega
  have a := zvl_b (f := fun k => tp (b + k) - 96) (b := 27) (Or.inl rfl) (zLt tp n b).toNat w
  have c := zvl_b (f := fun k => tp (b + k) - 96) (b := 32) (Or.inr rfl) (zLt tp n b).toNat w
  have p : (32 : Int) ^ (zLt tp n b).toNat ≤ 1099511627776 := by
    have e : (32 : Int) ^ (zLt tp n b).toNat = ((32 ^ (zLt tp n b).toNat : Nat) : Int) := by push_cast; rfl
    have := Nat.pow_le_pow_right (show 0 < 32 by decide) (show (zLt tp n b).toNat ≤ 8 by omega)
    rw [e]
    omega
  unfold zwl zwc
  omega
/-- two words have one value by 27 where they have one by 32 -/
theorem zw_same {b c : Int} (tp' : Int → Int) (n' : Int) : (zwl tp n b = zwl tp' n' c) ↔ (zwc tp n b = zwc tp' n' c) := by
  have l := zrnl_b tp 97 122 (n - b).toNat b
  have l' := zrnl_b tp' 97 122 (n' - c).toNat c
  have w : ∀ k : Int, 0 ≤ k → k < (zLt tp n b).toNat → 1 ≤ tp (b + k) - 96 ∧ tp (b + k) - 96 ≤ 26 := fun k k0 k1 => by
    have := l.2.2 k k0 (by unfold zLt at k1; omega)
    omega
  have w' : ∀ k : Int, 0 ≤ k → k < (zLt tp' n' c).toNat → 1 ≤ tp' (c + k) - 96 ∧ tp' (c + k) - 96 ≤ 26 := fun k k0 k1 => by
    have := l'.2.2 k k0 (by unfold zLt at k1; omega)
    omega
  unfold zwl zwc
  constructor
  · intro e
    obtain ⟨r, s⟩ := zvl_i (Or.inl rfl) _ _ w w' e
    rw [r] at s ⊢
    exact zvl_c _ s
  · intro e
    obtain ⟨r, s⟩ := zvl_i (Or.inr rfl) _ _ w w' e
    rw [r] at s ⊢
    exact zvl_c _ s
end TK
