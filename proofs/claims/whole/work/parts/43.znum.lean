/-! NUMBERS: an Int32 that is not below 0 is a Nat's -/
theorem n32_toInt {n : Nat} (h : n < 2147483648) : (Int32.ofNat n).toInt = (n : Int) := Int32.toInt_ofNat_of_lt h
theorem n32_ex {a : Int32} (h : ¬ a < 0) : ∃ n : Nat, n < 2147483648 ∧ a = Int32.ofNat n := by
  rw [Int32.lt_iff_toInt_lt, Int32.toInt_zero] at h
  have h2 : a.toInt < 2147483648 := Int32.toInt_lt a
  refine ⟨a.toInt.toNat, by omega, Int32.toInt_inj.mp ?_⟩
  rw [n32_toInt (by omega)]
  omega
theorem n32_zx {n : Nat} (h : n < 2147483648) : zx (Int32.ofNat n) = n := by
  show (Int32.ofNat n).toInt.toNat = n
  rw [n32_toInt h]
  rfl
theorem n32_lt {a b : Nat} (ha : a < 2147483648) (hb : b < 2147483648) : Int32.ofNat a < Int32.ofNat b ↔ a < b := by
  rw [Int32.lt_iff_toInt_lt, n32_toInt ha, n32_toInt hb]
  omega
theorem n32_le {a b : Nat} (ha : a < 2147483648) (hb : b < 2147483648) : Int32.ofNat a ≤ Int32.ofNat b ↔ a ≤ b := by
  rw [Int32.le_iff_toInt_le, n32_toInt ha, n32_toInt hb]
  omega
theorem n32_eq {a b : Nat} (ha : a < 2147483648) (hb : b < 2147483648) : Int32.ofNat a = Int32.ofNat b ↔ a = b := by
  rw [← Int32.toInt_inj, n32_toInt ha, n32_toInt hb]
  omega
theorem n32_ge0 {n : Nat} (h : n < 2147483648) : ¬ Int32.ofNat n < 0 := by
  rw [Int32.lt_iff_toInt_lt, n32_toInt h, Int32.toInt_zero]
  omega
theorem n32_add (a b : Nat) : Int32.ofNat a + Int32.ofNat b = Int32.ofNat (a + b) := (Int32.ofNat_add a b).symm
theorem n32_mul (a b : Nat) : Int32.ofNat a * Int32.ofNat b = Int32.ofNat (a * b) := (Int32.ofNat_mul a b).symm
theorem n32_sub {a b : Nat} (h : b ≤ a) : Int32.ofNat a - Int32.ofNat b = Int32.ofNat (a - b) := by
  have e : Int32.ofNat a = Int32.ofNat (a - b) + Int32.ofNat b := by rw [n32_add, Nat.sub_add_cancel h]
  rw [e, Int32.add_sub_cancel]
theorem n32_div {a b : Nat} (ha : a < 2147483648) (hb : b < 2147483648) : Int32.ofNat a / Int32.ofNat b = Int32.ofNat (a / b) := by
  have h1 : a / b < 2147483648 := Nat.lt_of_le_of_lt (Nat.div_le_self a b) ha
  refine Int32.toInt_inj.mp ?_
  rw [Int32.toInt_div, n32_toInt ha, n32_toInt hb, n32_toInt h1, ← Int.ofNat_tdiv]
  generalize a / b = q at h1
  refine Int.bmod_eq_of_le ?_ ?_
  · omega
  · omega
theorem n32_mod {a b : Nat} (ha : a < 2147483648) (hb : b < 2147483648) : Int32.ofNat a - Int32.ofNat a / Int32.ofNat b * Int32.ofNat b = Int32.ofNat (a % b) := by
  rw [n32_div ha hb, n32_mul, n32_sub (by rw [Nat.mul_comm]; exact Nat.mul_div_le a b)]
  congr 1
  have := Nat.div_add_mod a b
  rw [Nat.mul_comm] at this
  omega
theorem n32_in {n m : Nat} (h : n < 2147483648) : zin (Int32.ofNat n) m = decide (n < m) := by
  unfold zin
  have e : (Int32.ofNat n).toNatClampNeg = n := n32_zx h
  rw [e]
  by_cases hm : n < m
  · rw [decide_eq_true hm, decide_eq_true_iff]
    rintro (h2 | h2)
    · exact n32_ge0 h h2
    · omega
  · rw [decide_eq_false hm, decide_eq_false_iff_not]
    exact fun h2 => h2 (Or.inr (by omega))
