/-! READS: what a cell of the table holds; WRITES with their places -/
section RD
variable {K : ZS} {x y : ZW} {S : ZS}
theorem zRc1 (h : zR K x y S) : S.1 10 0 9 = zI (x 1 0) := h.1 (true, 1, 10, 9, 1) (by decide) 0 (by decide) (by decide)
theorem zWc1 (h : zR K x y S) {v : Int} (h1 : -2147483648 ≤ v) (h2 : v < 2147483648) : zR K (xu x 1 0 v) y (zu S.1 10 0 9 (zI v), S.2) := zR_x h (g := 1) (t := 10) (off := 9) (len := 1) (by decide) (by decide) (k := 0) (by decide) (by decide) h1 h2
theorem zRc2 (h : zR K x y S) : S.1 4 0 0 = zI (x 2 0) := h.1 (true, 2, 4, 0, 1) (by decide) 0 (by decide) (by decide)
theorem zWc2 (h : zR K x y S) {v : Int} (h1 : -2147483648 ≤ v) (h2 : v < 2147483648) : zR K (xu x 2 0 v) y (zu S.1 4 0 0 (zI v), S.2) := zR_x h (g := 2) (t := 4) (off := 0) (len := 1) (by decide) (by decide) (k := 0) (by decide) (by decide) h1 h2
theorem zRc3 (h : zR K x y S) {k : Int} (h0 : 0 ≤ k) (h1 : k < 12) : S.1 33 0 k.toNat = zI (x 3 k) := (congrArg (S.1 33 0) (Nat.zero_add _).symm).trans (h.1 (true, 3, 33, 0, 12) (by decide) k h0 h1)
theorem zWc3 (h : zR K x y S) {k v : Int} (h0 : 0 ≤ k) (hk : k < 12) (h1 : -2147483648 ≤ v) (h2 : v < 2147483648) : zR K (xu x 3 k v) y (zu S.1 33 0 k.toNat (zI v), S.2) := by
  have q := zR_x h (g := 3) (t := 33) (off := 0) (len := 12) (by decide) (by decide) h0 hk h1 h2
  rw [Nat.zero_add] at q
  exact q
theorem zRc4 (h : zR K x y S) {k : Int} (h0 : 0 ≤ k) (h1 : k < 12) : S.1 34 0 k.toNat = zI (x 4 k) := (congrArg (S.1 34 0) (Nat.zero_add _).symm).trans (h.1 (true, 4, 34, 0, 12) (by decide) k h0 h1)
theorem zWc4 (h : zR K x y S) {k v : Int} (h0 : 0 ≤ k) (hk : k < 12) (h1 : -2147483648 ≤ v) (h2 : v < 2147483648) : zR K (xu x 4 k v) y (zu S.1 34 0 k.toNat (zI v), S.2) := by
  have q := zR_x h (g := 4) (t := 34) (off := 0) (len := 12) (by decide) (by decide) h0 hk h1 h2
  rw [Nat.zero_add] at q
  exact q
theorem zRc5 (h : zR K x y S) {k : Int} (h0 : 0 ≤ k) (h1 : k < 12) : S.1 35 0 k.toNat = zI (x 5 k) := (congrArg (S.1 35 0) (Nat.zero_add _).symm).trans (h.1 (true, 5, 35, 0, 12) (by decide) k h0 h1)
theorem zWc5 (h : zR K x y S) {k v : Int} (h0 : 0 ≤ k) (hk : k < 12) (h1 : -2147483648 ≤ v) (h2 : v < 2147483648) : zR K (xu x 5 k v) y (zu S.1 35 0 k.toNat (zI v), S.2) := by
  have q := zR_x h (g := 5) (t := 35) (off := 0) (len := 12) (by decide) (by decide) h0 hk h1 h2
  rw [Nat.zero_add] at q
  exact q
theorem zRc6 (h : zR K x y S) {k : Int} (h0 : 0 ≤ k) (h1 : k < 960) : S.1 36 0 k.toNat = zI (x 6 k) := (congrArg (S.1 36 0) (Nat.zero_add _).symm).trans (h.1 (true, 6, 36, 0, 960) (by decide) k h0 h1)
theorem zWc6 (h : zR K x y S) {k v : Int} (h0 : 0 ≤ k) (hk : k < 960) (h1 : -2147483648 ≤ v) (h2 : v < 2147483648) : zR K (xu x 6 k v) y (zu S.1 36 0 k.toNat (zI v), S.2) := by
  have q := zR_x h (g := 6) (t := 36) (off := 0) (len := 960) (by decide) (by decide) h0 hk h1 h2
  rw [Nat.zero_add] at q
  exact q
theorem zRc7 (h : zR K x y S) {k : Int} (h0 : 0 ≤ k) (h1 : k < 16) : S.1 40 0 k.toNat = zI (x 7 k) := (congrArg (S.1 40 0) (Nat.zero_add _).symm).trans (h.1 (true, 7, 40, 0, 16) (by decide) k h0 h1)
theorem zWc7 (h : zR K x y S) {k v : Int} (h0 : 0 ≤ k) (hk : k < 16) (h1 : -2147483648 ≤ v) (h2 : v < 2147483648) : zR K (xu x 7 k v) y (zu S.1 40 0 k.toNat (zI v), S.2) := by
  have q := zR_x h (g := 7) (t := 40) (off := 0) (len := 16) (by decide) (by decide) h0 hk h1 h2
  rw [Nat.zero_add] at q
  exact q
theorem zRc8 (h : zR K x y S) {k : Int} (h0 : 0 ≤ k) (h1 : k < 116) : S.1 39 0 k.toNat = zI (x 8 k) := (congrArg (S.1 39 0) (Nat.zero_add _).symm).trans (h.1 (true, 8, 39, 0, 116) (by decide) k h0 h1)
theorem zWc8 (h : zR K x y S) {k v : Int} (h0 : 0 ≤ k) (hk : k < 116) (h1 : -2147483648 ≤ v) (h2 : v < 2147483648) : zR K (xu x 8 k v) y (zu S.1 39 0 k.toNat (zI v), S.2) := by
  have q := zR_x h (g := 8) (t := 39) (off := 0) (len := 116) (by decide) (by decide) h0 hk h1 h2
  rw [Nat.zero_add] at q
  exact q
theorem zRc9 (h : zR K x y S) {k : Int} (h0 : 0 ≤ k) (h1 : k < 96) : S.1 37 0 k.toNat = zI (x 9 k) := (congrArg (S.1 37 0) (Nat.zero_add _).symm).trans (h.1 (true, 9, 37, 0, 96) (by decide) k h0 h1)
theorem zWc9 (h : zR K x y S) {k v : Int} (h0 : 0 ≤ k) (hk : k < 96) (h1 : -2147483648 ≤ v) (h2 : v < 2147483648) : zR K (xu x 9 k v) y (zu S.1 37 0 k.toNat (zI v), S.2) := by
  have q := zR_x h (g := 9) (t := 37) (off := 0) (len := 96) (by decide) (by decide) h0 hk h1 h2
  rw [Nat.zero_add] at q
  exact q
theorem zRc10 (h : zR K x y S) {k : Int} (h0 : 0 ≤ k) (h1 : k < 96) : S.1 38 0 k.toNat = zI (x 10 k) := (congrArg (S.1 38 0) (Nat.zero_add _).symm).trans (h.1 (true, 10, 38, 0, 96) (by decide) k h0 h1)
theorem zWc10 (h : zR K x y S) {k v : Int} (h0 : 0 ≤ k) (hk : k < 96) (h1 : -2147483648 ≤ v) (h2 : v < 2147483648) : zR K (xu x 10 k v) y (zu S.1 38 0 k.toNat (zI v), S.2) := by
  have q := zR_x h (g := 10) (t := 38) (off := 0) (len := 96) (by decide) (by decide) h0 hk h1 h2
  rw [Nat.zero_add] at q
  exact q
theorem zRc11 (h : zR K x y S) : S.1 0 0 3 = zI (x 11 0) := h.1 (true, 11, 0, 3, 1) (by decide) 0 (by decide) (by decide)
theorem zRc24 (h : zR K x y S) : S.1 1 0 0 = zI (x 24 0) := h.1 (true, 24, 1, 0, 1) (by decide) 0 (by decide) (by decide)
theorem zWc24 (h : zR K x y S) {v : Int} (h1 : -2147483648 ≤ v) (h2 : v < 2147483648) : zR K (xu x 24 0 v) y (zu S.1 1 0 0 (zI v), S.2) := zR_x h (g := 24) (t := 1) (off := 0) (len := 1) (by decide) (by decide) (k := 0) (by decide) (by decide) h1 h2
theorem zRc25 (h : zR K x y S) {k : Int} (h0 : 0 ≤ k) (h1 : k < 200) : S.1 22 0 k.toNat = zI (x 25 k) := (congrArg (S.1 22 0) (Nat.zero_add _).symm).trans (h.1 (true, 25, 22, 0, 200) (by decide) k h0 h1)
theorem zWc25 (h : zR K x y S) {k v : Int} (h0 : 0 ≤ k) (hk : k < 200) (h1 : -2147483648 ≤ v) (h2 : v < 2147483648) : zR K (xu x 25 k v) y (zu S.1 22 0 k.toNat (zI v), S.2) := by
  have q := zR_x h (g := 25) (t := 22) (off := 0) (len := 200) (by decide) (by decide) h0 hk h1 h2
  rw [Nat.zero_add] at q
  exact q
theorem zRc26 (h : zR K x y S) {k : Int} (h0 : 0 ≤ k) (h1 : k < 200) : S.1 23 0 k.toNat = zI (x 26 k) := (congrArg (S.1 23 0) (Nat.zero_add _).symm).trans (h.1 (true, 26, 23, 0, 200) (by decide) k h0 h1)
theorem zWc26 (h : zR K x y S) {k v : Int} (h0 : 0 ≤ k) (hk : k < 200) (h1 : -2147483648 ≤ v) (h2 : v < 2147483648) : zR K (xu x 26 k v) y (zu S.1 23 0 k.toNat (zI v), S.2) := by
  have q := zR_x h (g := 26) (t := 23) (off := 0) (len := 200) (by decide) (by decide) h0 hk h1 h2
  rw [Nat.zero_add] at q
  exact q
theorem zRc27 (h : zR K x y S) {k : Int} (h0 : 0 ≤ k) (h1 : k < 200) : S.1 24 0 k.toNat = zI (x 27 k) := (congrArg (S.1 24 0) (Nat.zero_add _).symm).trans (h.1 (true, 27, 24, 0, 200) (by decide) k h0 h1)
theorem zWc27 (h : zR K x y S) {k v : Int} (h0 : 0 ≤ k) (hk : k < 200) (h1 : -2147483648 ≤ v) (h2 : v < 2147483648) : zR K (xu x 27 k v) y (zu S.1 24 0 k.toNat (zI v), S.2) := by
  have q := zR_x h (g := 27) (t := 24) (off := 0) (len := 200) (by decide) (by decide) h0 hk h1 h2
  rw [Nat.zero_add] at q
  exact q
theorem zRc28 (h : zR K x y S) {k : Int} (h0 : 0 ≤ k) (h1 : k < 200) : S.1 25 0 k.toNat = zI (x 28 k) := (congrArg (S.1 25 0) (Nat.zero_add _).symm).trans (h.1 (true, 28, 25, 0, 200) (by decide) k h0 h1)
theorem zWc28 (h : zR K x y S) {k v : Int} (h0 : 0 ≤ k) (hk : k < 200) (h1 : -2147483648 ≤ v) (h2 : v < 2147483648) : zR K (xu x 28 k v) y (zu S.1 25 0 k.toNat (zI v), S.2) := by
  have q := zR_x h (g := 28) (t := 25) (off := 0) (len := 200) (by decide) (by decide) h0 hk h1 h2
  rw [Nat.zero_add] at q
  exact q
theorem zRc29 (h : zR K x y S) : S.1 1 0 5 = zI (x 29 0) := h.1 (true, 29, 1, 5, 1) (by decide) 0 (by decide) (by decide)
theorem zWc29 (h : zR K x y S) {v : Int} (h1 : -2147483648 ≤ v) (h2 : v < 2147483648) : zR K (xu x 29 0 v) y (zu S.1 1 0 5 (zI v), S.2) := zR_x h (g := 29) (t := 1) (off := 5) (len := 1) (by decide) (by decide) (k := 0) (by decide) (by decide) h1 h2
theorem zRc30 (h : zR K x y S) {k : Int} (h0 : 0 ≤ k) (h1 : k < 200) : S.1 26 0 k.toNat = zI (x 30 k) := (congrArg (S.1 26 0) (Nat.zero_add _).symm).trans (h.1 (true, 30, 26, 0, 200) (by decide) k h0 h1)
theorem zWc30 (h : zR K x y S) {k v : Int} (h0 : 0 ≤ k) (hk : k < 200) (h1 : -2147483648 ≤ v) (h2 : v < 2147483648) : zR K (xu x 30 k v) y (zu S.1 26 0 k.toNat (zI v), S.2) := by
  have q := zR_x h (g := 30) (t := 26) (off := 0) (len := 200) (by decide) (by decide) h0 hk h1 h2
  rw [Nat.zero_add] at q
  exact q
theorem zRc31 (h : zR K x y S) {k : Int} (h0 : 0 ≤ k) (h1 : k < 200) : S.1 27 0 k.toNat = zI (x 31 k) := (congrArg (S.1 27 0) (Nat.zero_add _).symm).trans (h.1 (true, 31, 27, 0, 200) (by decide) k h0 h1)
theorem zWc31 (h : zR K x y S) {k v : Int} (h0 : 0 ≤ k) (hk : k < 200) (h1 : -2147483648 ≤ v) (h2 : v < 2147483648) : zR K (xu x 31 k v) y (zu S.1 27 0 k.toNat (zI v), S.2) := by
  have q := zR_x h (g := 31) (t := 27) (off := 0) (len := 200) (by decide) (by decide) h0 hk h1 h2
  rw [Nat.zero_add] at q
  exact q
theorem zRc32 (h : zR K x y S) {k : Int} (h0 : 0 ≤ k) (h1 : k < 200) : S.1 28 0 k.toNat = zI (x 32 k) := (congrArg (S.1 28 0) (Nat.zero_add _).symm).trans (h.1 (true, 32, 28, 0, 200) (by decide) k h0 h1)
theorem zWc32 (h : zR K x y S) {k v : Int} (h0 : 0 ≤ k) (hk : k < 200) (h1 : -2147483648 ≤ v) (h2 : v < 2147483648) : zR K (xu x 32 k v) y (zu S.1 28 0 k.toNat (zI v), S.2) := by
  have q := zR_x h (g := 32) (t := 28) (off := 0) (len := 200) (by decide) (by decide) h0 hk h1 h2
  rw [Nat.zero_add] at q
  exact q
theorem zRc33 (h : zR K x y S) : S.1 6 0 1 = zI (x 33 0) := h.1 (true, 33, 6, 1, 1) (by decide) 0 (by decide) (by decide)
theorem zWc33 (h : zR K x y S) {v : Int} (h1 : -2147483648 ≤ v) (h2 : v < 2147483648) : zR K (xu x 33 0 v) y (zu S.1 6 0 1 (zI v), S.2) := zR_x h (g := 33) (t := 6) (off := 1) (len := 1) (by decide) (by decide) (k := 0) (by decide) (by decide) h1 h2
theorem zRc34 (h : zR K x y S) {k : Int} (h0 : 0 ≤ k) (h1 : k < 1000) : S.1 41 0 k.toNat = zI (x 34 k) := (congrArg (S.1 41 0) (Nat.zero_add _).symm).trans (h.1 (true, 34, 41, 0, 1000) (by decide) k h0 h1)
theorem zWc34 (h : zR K x y S) {k v : Int} (h0 : 0 ≤ k) (hk : k < 1000) (h1 : -2147483648 ≤ v) (h2 : v < 2147483648) : zR K (xu x 34 k v) y (zu S.1 41 0 k.toNat (zI v), S.2) := by
  have q := zR_x h (g := 34) (t := 41) (off := 0) (len := 1000) (by decide) (by decide) h0 hk h1 h2
  rw [Nat.zero_add] at q
  exact q
theorem zRc35 (h : zR K x y S) : S.1 8 0 1 = zI (x 35 0) := h.1 (true, 35, 8, 1, 1) (by decide) 0 (by decide) (by decide)
theorem zWc35 (h : zR K x y S) {v : Int} (h1 : -2147483648 ≤ v) (h2 : v < 2147483648) : zR K (xu x 35 0 v) y (zu S.1 8 0 1 (zI v), S.2) := zR_x h (g := 35) (t := 8) (off := 1) (len := 1) (by decide) (by decide) (k := 0) (by decide) (by decide) h1 h2
theorem zRc36 (h : zR K x y S) {k : Int} (h0 : 0 ≤ k) (h1 : k < 60) : S.1 52 0 k.toNat = zI (x 36 k) := (congrArg (S.1 52 0) (Nat.zero_add _).symm).trans (h.1 (true, 36, 52, 0, 60) (by decide) k h0 h1)
theorem zWc36 (h : zR K x y S) {k v : Int} (h0 : 0 ≤ k) (hk : k < 60) (h1 : -2147483648 ≤ v) (h2 : v < 2147483648) : zR K (xu x 36 k v) y (zu S.1 52 0 k.toNat (zI v), S.2) := by
  have q := zR_x h (g := 36) (t := 52) (off := 0) (len := 60) (by decide) (by decide) h0 hk h1 h2
  rw [Nat.zero_add] at q
  exact q
theorem zRm1 (h : zR K x y S) : S.1 11 0 1 = zI (y 1 0) := h.1 (false, 1, 11, 1, 1) (by decide) 0 (by decide) (by decide)
theorem zWm1 (h : zR K x y S) {v : Int} (h1 : -2147483648 ≤ v) (h2 : v < 2147483648) : zR K x (xu y 1 0 v) (zu S.1 11 0 1 (zI v), S.2) := zR_y h (g := 1) (t := 11) (off := 1) (len := 1) (by decide) (by decide) (k := 0) (by decide) (by decide) h1 h2
theorem zRm2 (h : zR K x y S) : S.1 11 0 2 = zI (y 2 0) := h.1 (false, 2, 11, 2, 1) (by decide) 0 (by decide) (by decide)
theorem zWm2 (h : zR K x y S) {v : Int} (h1 : -2147483648 ≤ v) (h2 : v < 2147483648) : zR K x (xu y 2 0 v) (zu S.1 11 0 2 (zI v), S.2) := zR_y h (g := 2) (t := 11) (off := 2) (len := 1) (by decide) (by decide) (k := 0) (by decide) (by decide) h1 h2
theorem zRm3 (h : zR K x y S) {k : Int} (h0 : 0 ≤ k) (h1 : k < 12) : S.1 59 0 k.toNat = zI (y 3 k) := (congrArg (S.1 59 0) (Nat.zero_add _).symm).trans (h.1 (false, 3, 59, 0, 12) (by decide) k h0 h1)
theorem zWm3 (h : zR K x y S) {k v : Int} (h0 : 0 ≤ k) (hk : k < 12) (h1 : -2147483648 ≤ v) (h2 : v < 2147483648) : zR K x (xu y 3 k v) (zu S.1 59 0 k.toNat (zI v), S.2) := by
  have q := zR_y h (g := 3) (t := 59) (off := 0) (len := 12) (by decide) (by decide) h0 hk h1 h2
  rw [Nat.zero_add] at q
  exact q
theorem zRm4 (h : zR K x y S) {k : Int} (h0 : 0 ≤ k) (h1 : k < 12) : S.1 60 0 k.toNat = zI (y 4 k) := (congrArg (S.1 60 0) (Nat.zero_add _).symm).trans (h.1 (false, 4, 60, 0, 12) (by decide) k h0 h1)
theorem zWm4 (h : zR K x y S) {k v : Int} (h0 : 0 ≤ k) (hk : k < 12) (h1 : -2147483648 ≤ v) (h2 : v < 2147483648) : zR K x (xu y 4 k v) (zu S.1 60 0 k.toNat (zI v), S.2) := by
  have q := zR_y h (g := 4) (t := 60) (off := 0) (len := 12) (by decide) (by decide) h0 hk h1 h2
  rw [Nat.zero_add] at q
  exact q
theorem zRm5 (h : zR K x y S) {k : Int} (h0 : 0 ≤ k) (h1 : k < 12) : S.1 61 0 k.toNat = zI (y 5 k) := (congrArg (S.1 61 0) (Nat.zero_add _).symm).trans (h.1 (false, 5, 61, 0, 12) (by decide) k h0 h1)
theorem zWm5 (h : zR K x y S) {k v : Int} (h0 : 0 ≤ k) (hk : k < 12) (h1 : -2147483648 ≤ v) (h2 : v < 2147483648) : zR K x (xu y 5 k v) (zu S.1 61 0 k.toNat (zI v), S.2) := by
  have q := zR_y h (g := 5) (t := 61) (off := 0) (len := 12) (by decide) (by decide) h0 hk h1 h2
  rw [Nat.zero_add] at q
  exact q
theorem zRm6 (h : zR K x y S) {k : Int} (h0 : 0 ≤ k) (h1 : k < 960) : S.1 62 0 k.toNat = zI (y 6 k) := (congrArg (S.1 62 0) (Nat.zero_add _).symm).trans (h.1 (false, 6, 62, 0, 960) (by decide) k h0 h1)
theorem zWm6 (h : zR K x y S) {k v : Int} (h0 : 0 ≤ k) (hk : k < 960) (h1 : -2147483648 ≤ v) (h2 : v < 2147483648) : zR K x (xu y 6 k v) (zu S.1 62 0 k.toNat (zI v), S.2) := by
  have q := zR_y h (g := 6) (t := 62) (off := 0) (len := 960) (by decide) (by decide) h0 hk h1 h2
  rw [Nat.zero_add] at q
  exact q
theorem zRm7 (h : zR K x y S) {k : Int} (h0 : 0 ≤ k) (h1 : k < 16) : S.1 63 0 k.toNat = zI (y 7 k) := (congrArg (S.1 63 0) (Nat.zero_add _).symm).trans (h.1 (false, 7, 63, 0, 16) (by decide) k h0 h1)
theorem zWm7 (h : zR K x y S) {k v : Int} (h0 : 0 ≤ k) (hk : k < 16) (h1 : -2147483648 ≤ v) (h2 : v < 2147483648) : zR K x (xu y 7 k v) (zu S.1 63 0 k.toNat (zI v), S.2) := by
  have q := zR_y h (g := 7) (t := 63) (off := 0) (len := 16) (by decide) (by decide) h0 hk h1 h2
  rw [Nat.zero_add] at q
  exact q
theorem zRm8 (h : zR K x y S) {k : Int} (h0 : 0 ≤ k) (h1 : k < 116) : S.1 64 0 k.toNat = zI (y 8 k) := (congrArg (S.1 64 0) (Nat.zero_add _).symm).trans (h.1 (false, 8, 64, 0, 116) (by decide) k h0 h1)
theorem zWm8 (h : zR K x y S) {k v : Int} (h0 : 0 ≤ k) (hk : k < 116) (h1 : -2147483648 ≤ v) (h2 : v < 2147483648) : zR K x (xu y 8 k v) (zu S.1 64 0 k.toNat (zI v), S.2) := by
  have q := zR_y h (g := 8) (t := 64) (off := 0) (len := 116) (by decide) (by decide) h0 hk h1 h2
  rw [Nat.zero_add] at q
  exact q
theorem zRm9 (h : zR K x y S) {k : Int} (h0 : 0 ≤ k) (h1 : k < 116) : S.1 65 0 k.toNat = zI (y 9 k) := (congrArg (S.1 65 0) (Nat.zero_add _).symm).trans (h.1 (false, 9, 65, 0, 116) (by decide) k h0 h1)
theorem zWm9 (h : zR K x y S) {k v : Int} (h0 : 0 ≤ k) (hk : k < 116) (h1 : -2147483648 ≤ v) (h2 : v < 2147483648) : zR K x (xu y 9 k v) (zu S.1 65 0 k.toNat (zI v), S.2) := by
  have q := zR_y h (g := 9) (t := 65) (off := 0) (len := 116) (by decide) (by decide) h0 hk h1 h2
  rw [Nat.zero_add] at q
  exact q
theorem zRm10 (h : zR K x y S) {k : Int} (h0 : 0 ≤ k) (h1 : k < 116) : S.1 66 0 k.toNat = zI (y 10 k) := (congrArg (S.1 66 0) (Nat.zero_add _).symm).trans (h.1 (false, 10, 66, 0, 116) (by decide) k h0 h1)
theorem zWm10 (h : zR K x y S) {k v : Int} (h0 : 0 ≤ k) (hk : k < 116) (h1 : -2147483648 ≤ v) (h2 : v < 2147483648) : zR K x (xu y 10 k v) (zu S.1 66 0 k.toNat (zI v), S.2) := by
  have q := zR_y h (g := 10) (t := 66) (off := 0) (len := 116) (by decide) (by decide) h0 hk h1 h2
  rw [Nat.zero_add] at q
  exact q
theorem zRm11 (h : zR K x y S) : S.1 11 0 11 = zI (y 11 0) := h.1 (false, 11, 11, 11, 1) (by decide) 0 (by decide) (by decide)
theorem zWm11 (h : zR K x y S) {v : Int} (h1 : -2147483648 ≤ v) (h2 : v < 2147483648) : zR K x (xu y 11 0 v) (zu S.1 11 0 11 (zI v), S.2) := zR_y h (g := 11) (t := 11) (off := 11) (len := 1) (by decide) (by decide) (k := 0) (by decide) (by decide) h1 h2
theorem zRm12 (h : zR K x y S) {k : Int} (h0 : 0 ≤ k) (h1 : k < 40) : S.1 67 0 k.toNat = zI (y 12 k) := (congrArg (S.1 67 0) (Nat.zero_add _).symm).trans (h.1 (false, 12, 67, 0, 40) (by decide) k h0 h1)
theorem zWm12 (h : zR K x y S) {k v : Int} (h0 : 0 ≤ k) (hk : k < 40) (h1 : -2147483648 ≤ v) (h2 : v < 2147483648) : zR K x (xu y 12 k v) (zu S.1 67 0 k.toNat (zI v), S.2) := by
  have q := zR_y h (g := 12) (t := 67) (off := 0) (len := 40) (by decide) (by decide) h0 hk h1 h2
  rw [Nat.zero_add] at q
  exact q
theorem zRm13 (h : zR K x y S) {k : Int} (h0 : 0 ≤ k) (h1 : k < 40) : S.1 68 0 k.toNat = zI (y 13 k) := (congrArg (S.1 68 0) (Nat.zero_add _).symm).trans (h.1 (false, 13, 68, 0, 40) (by decide) k h0 h1)
theorem zWm13 (h : zR K x y S) {k v : Int} (h0 : 0 ≤ k) (hk : k < 40) (h1 : -2147483648 ≤ v) (h2 : v < 2147483648) : zR K x (xu y 13 k v) (zu S.1 68 0 k.toNat (zI v), S.2) := by
  have q := zR_y h (g := 13) (t := 68) (off := 0) (len := 40) (by decide) (by decide) h0 hk h1 h2
  rw [Nat.zero_add] at q
  exact q
theorem zRm14 (h : zR K x y S) {k : Int} (h0 : 0 ≤ k) (h1 : k < 40) : S.1 69 0 k.toNat = zI (y 14 k) := (congrArg (S.1 69 0) (Nat.zero_add _).symm).trans (h.1 (false, 14, 69, 0, 40) (by decide) k h0 h1)
theorem zWm14 (h : zR K x y S) {k v : Int} (h0 : 0 ≤ k) (hk : k < 40) (h1 : -2147483648 ≤ v) (h2 : v < 2147483648) : zR K x (xu y 14 k v) (zu S.1 69 0 k.toNat (zI v), S.2) := by
  have q := zR_y h (g := 14) (t := 69) (off := 0) (len := 40) (by decide) (by decide) h0 hk h1 h2
  rw [Nat.zero_add] at q
  exact q
theorem zRm15 (h : zR K x y S) {k : Int} (h0 : 0 ≤ k) (h1 : k < 40) : S.1 70 0 k.toNat = zI (y 15 k) := (congrArg (S.1 70 0) (Nat.zero_add _).symm).trans (h.1 (false, 15, 70, 0, 40) (by decide) k h0 h1)
theorem zWm15 (h : zR K x y S) {k v : Int} (h0 : 0 ≤ k) (hk : k < 40) (h1 : -2147483648 ≤ v) (h2 : v < 2147483648) : zR K x (xu y 15 k v) (zu S.1 70 0 k.toNat (zI v), S.2) := by
  have q := zR_y h (g := 15) (t := 70) (off := 0) (len := 40) (by decide) (by decide) h0 hk h1 h2
  rw [Nat.zero_add] at q
  exact q
theorem zRm16 (h : zR K x y S) {k : Int} (h0 : 0 ≤ k) (h1 : k < 40) : S.1 71 0 k.toNat = zI (y 16 k) := (congrArg (S.1 71 0) (Nat.zero_add _).symm).trans (h.1 (false, 16, 71, 0, 40) (by decide) k h0 h1)
theorem zWm16 (h : zR K x y S) {k v : Int} (h0 : 0 ≤ k) (hk : k < 40) (h1 : -2147483648 ≤ v) (h2 : v < 2147483648) : zR K x (xu y 16 k v) (zu S.1 71 0 k.toNat (zI v), S.2) := by
  have q := zR_y h (g := 16) (t := 71) (off := 0) (len := 40) (by decide) (by decide) h0 hk h1 h2
  rw [Nat.zero_add] at q
  exact q
theorem zRm17 (h : zR K x y S) {k : Int} (h0 : 0 ≤ k) (h1 : k < 40) : S.1 72 0 k.toNat = zI (y 17 k) := (congrArg (S.1 72 0) (Nat.zero_add _).symm).trans (h.1 (false, 17, 72, 0, 40) (by decide) k h0 h1)
theorem zWm17 (h : zR K x y S) {k v : Int} (h0 : 0 ≤ k) (hk : k < 40) (h1 : -2147483648 ≤ v) (h2 : v < 2147483648) : zR K x (xu y 17 k v) (zu S.1 72 0 k.toNat (zI v), S.2) := by
  have q := zR_y h (g := 17) (t := 72) (off := 0) (len := 40) (by decide) (by decide) h0 hk h1 h2
  rw [Nat.zero_add] at q
  exact q
theorem zRm18 (h : zR K x y S) {k : Int} (h0 : 0 ≤ k) (h1 : k < 40) : S.1 73 0 k.toNat = zI (y 18 k) := (congrArg (S.1 73 0) (Nat.zero_add _).symm).trans (h.1 (false, 18, 73, 0, 40) (by decide) k h0 h1)
theorem zWm18 (h : zR K x y S) {k v : Int} (h0 : 0 ≤ k) (hk : k < 40) (h1 : -2147483648 ≤ v) (h2 : v < 2147483648) : zR K x (xu y 18 k v) (zu S.1 73 0 k.toNat (zI v), S.2) := by
  have q := zR_y h (g := 18) (t := 73) (off := 0) (len := 40) (by decide) (by decide) h0 hk h1 h2
  rw [Nat.zero_add] at q
  exact q
theorem zRm19 (h : zR K x y S) {k : Int} (h0 : 0 ≤ k) (h1 : k < 200) : S.1 74 0 k.toNat = zI (y 19 k) := (congrArg (S.1 74 0) (Nat.zero_add _).symm).trans (h.1 (false, 19, 74, 0, 200) (by decide) k h0 h1)
theorem zWm19 (h : zR K x y S) {k v : Int} (h0 : 0 ≤ k) (hk : k < 200) (h1 : -2147483648 ≤ v) (h2 : v < 2147483648) : zR K x (xu y 19 k v) (zu S.1 74 0 k.toNat (zI v), S.2) := by
  have q := zR_y h (g := 19) (t := 74) (off := 0) (len := 200) (by decide) (by decide) h0 hk h1 h2
  rw [Nat.zero_add] at q
  exact q
theorem zRm20 (h : zR K x y S) {k : Int} (h0 : 0 ≤ k) (h1 : k < 40) : S.1 75 0 k.toNat = zI (y 20 k) := (congrArg (S.1 75 0) (Nat.zero_add _).symm).trans (h.1 (false, 20, 75, 0, 40) (by decide) k h0 h1)
theorem zWm20 (h : zR K x y S) {k v : Int} (h0 : 0 ≤ k) (hk : k < 40) (h1 : -2147483648 ≤ v) (h2 : v < 2147483648) : zR K x (xu y 20 k v) (zu S.1 75 0 k.toNat (zI v), S.2) := by
  have q := zR_y h (g := 20) (t := 75) (off := 0) (len := 40) (by decide) (by decide) h0 hk h1 h2
  rw [Nat.zero_add] at q
  exact q
theorem zRm50 (h : zR K x y S) {k : Int} (h0 : 0 ≤ k) (h1 : k < 40) : S.1 76 0 k.toNat = zI (y 50 k) := (congrArg (S.1 76 0) (Nat.zero_add _).symm).trans (h.1 (false, 50, 76, 0, 40) (by decide) k h0 h1)
theorem zWm50 (h : zR K x y S) {k v : Int} (h0 : 0 ≤ k) (hk : k < 40) (h1 : -2147483648 ≤ v) (h2 : v < 2147483648) : zR K x (xu y 50 k v) (zu S.1 76 0 k.toNat (zI v), S.2) := by
  have q := zR_y h (g := 50) (t := 76) (off := 0) (len := 40) (by decide) (by decide) h0 hk h1 h2
  rw [Nat.zero_add] at q
  exact q
theorem zRm21 (h : zR K x y S) {k : Int} (h0 : 0 ≤ k) (h1 : k < 40) : S.1 77 0 k.toNat = zI (y 21 k) := (congrArg (S.1 77 0) (Nat.zero_add _).symm).trans (h.1 (false, 21, 77, 0, 40) (by decide) k h0 h1)
theorem zWm21 (h : zR K x y S) {k v : Int} (h0 : 0 ≤ k) (hk : k < 40) (h1 : -2147483648 ≤ v) (h2 : v < 2147483648) : zR K x (xu y 21 k v) (zu S.1 77 0 k.toNat (zI v), S.2) := by
  have q := zR_y h (g := 21) (t := 77) (off := 0) (len := 40) (by decide) (by decide) h0 hk h1 h2
  rw [Nat.zero_add] at q
  exact q
theorem zRm22 (h : zR K x y S) {k : Int} (h0 : 0 ≤ k) (h1 : k < 40) : S.1 78 0 k.toNat = zI (y 22 k) := (congrArg (S.1 78 0) (Nat.zero_add _).symm).trans (h.1 (false, 22, 78, 0, 40) (by decide) k h0 h1)
theorem zWm22 (h : zR K x y S) {k v : Int} (h0 : 0 ≤ k) (hk : k < 40) (h1 : -2147483648 ≤ v) (h2 : v < 2147483648) : zR K x (xu y 22 k v) (zu S.1 78 0 k.toNat (zI v), S.2) := by
  have q := zR_y h (g := 22) (t := 78) (off := 0) (len := 40) (by decide) (by decide) h0 hk h1 h2
  rw [Nat.zero_add] at q
  exact q
theorem zRm23 (h : zR K x y S) {k : Int} (h0 : 0 ≤ k) (h1 : k < 4800) : S.1 79 0 k.toNat = zI (y 23 k) := (congrArg (S.1 79 0) (Nat.zero_add _).symm).trans (h.1 (false, 23, 79, 0, 4800) (by decide) k h0 h1)
theorem zWm23 (h : zR K x y S) {k v : Int} (h0 : 0 ≤ k) (hk : k < 4800) (h1 : -2147483648 ≤ v) (h2 : v < 2147483648) : zR K x (xu y 23 k v) (zu S.1 79 0 k.toNat (zI v), S.2) := by
  have q := zR_y h (g := 23) (t := 79) (off := 0) (len := 4800) (by decide) (by decide) h0 hk h1 h2
  rw [Nat.zero_add] at q
  exact q
theorem zRm40 (h : zR K x y S) {k : Int} (h0 : 0 ≤ k) (h1 : k < 116) : S.1 80 0 k.toNat = zI (y 40 k) := (congrArg (S.1 80 0) (Nat.zero_add _).symm).trans (h.1 (false, 40, 80, 0, 116) (by decide) k h0 h1)
theorem zWm40 (h : zR K x y S) {k v : Int} (h0 : 0 ≤ k) (hk : k < 116) (h1 : -2147483648 ≤ v) (h2 : v < 2147483648) : zR K x (xu y 40 k v) (zu S.1 80 0 k.toNat (zI v), S.2) := by
  have q := zR_y h (g := 40) (t := 80) (off := 0) (len := 116) (by decide) (by decide) h0 hk h1 h2
  rw [Nat.zero_add] at q
  exact q
theorem zRm41 (h : zR K x y S) {k : Int} (h0 : 0 ≤ k) (h1 : k < 40) : S.1 81 0 k.toNat = zI (y 41 k) := (congrArg (S.1 81 0) (Nat.zero_add _).symm).trans (h.1 (false, 41, 81, 0, 40) (by decide) k h0 h1)
theorem zWm41 (h : zR K x y S) {k v : Int} (h0 : 0 ≤ k) (hk : k < 40) (h1 : -2147483648 ≤ v) (h2 : v < 2147483648) : zR K x (xu y 41 k v) (zu S.1 81 0 k.toNat (zI v), S.2) := by
  have q := zR_y h (g := 41) (t := 81) (off := 0) (len := 40) (by decide) (by decide) h0 hk h1 h2
  rw [Nat.zero_add] at q
  exact q
theorem zRm24 (h : zR K x y S) : S.1 11 0 27 = zI (y 24 0) := h.1 (false, 24, 11, 27, 1) (by decide) 0 (by decide) (by decide)
theorem zWm24 (h : zR K x y S) {v : Int} (h1 : -2147483648 ≤ v) (h2 : v < 2147483648) : zR K x (xu y 24 0 v) (zu S.1 11 0 27 (zI v), S.2) := zR_y h (g := 24) (t := 11) (off := 27) (len := 1) (by decide) (by decide) (k := 0) (by decide) (by decide) h1 h2
theorem zRm25 (h : zR K x y S) {k : Int} (h0 : 0 ≤ k) (h1 : k < 200) : S.1 82 0 k.toNat = zI (y 25 k) := (congrArg (S.1 82 0) (Nat.zero_add _).symm).trans (h.1 (false, 25, 82, 0, 200) (by decide) k h0 h1)
theorem zWm25 (h : zR K x y S) {k v : Int} (h0 : 0 ≤ k) (hk : k < 200) (h1 : -2147483648 ≤ v) (h2 : v < 2147483648) : zR K x (xu y 25 k v) (zu S.1 82 0 k.toNat (zI v), S.2) := by
  have q := zR_y h (g := 25) (t := 82) (off := 0) (len := 200) (by decide) (by decide) h0 hk h1 h2
  rw [Nat.zero_add] at q
  exact q
theorem zRm26 (h : zR K x y S) {k : Int} (h0 : 0 ≤ k) (h1 : k < 200) : S.1 83 0 k.toNat = zI (y 26 k) := (congrArg (S.1 83 0) (Nat.zero_add _).symm).trans (h.1 (false, 26, 83, 0, 200) (by decide) k h0 h1)
theorem zWm26 (h : zR K x y S) {k v : Int} (h0 : 0 ≤ k) (hk : k < 200) (h1 : -2147483648 ≤ v) (h2 : v < 2147483648) : zR K x (xu y 26 k v) (zu S.1 83 0 k.toNat (zI v), S.2) := by
  have q := zR_y h (g := 26) (t := 83) (off := 0) (len := 200) (by decide) (by decide) h0 hk h1 h2
  rw [Nat.zero_add] at q
  exact q
theorem zRm27 (h : zR K x y S) {k : Int} (h0 : 0 ≤ k) (h1 : k < 200) : S.1 84 0 k.toNat = zI (y 27 k) := (congrArg (S.1 84 0) (Nat.zero_add _).symm).trans (h.1 (false, 27, 84, 0, 200) (by decide) k h0 h1)
theorem zWm27 (h : zR K x y S) {k v : Int} (h0 : 0 ≤ k) (hk : k < 200) (h1 : -2147483648 ≤ v) (h2 : v < 2147483648) : zR K x (xu y 27 k v) (zu S.1 84 0 k.toNat (zI v), S.2) := by
  have q := zR_y h (g := 27) (t := 84) (off := 0) (len := 200) (by decide) (by decide) h0 hk h1 h2
  rw [Nat.zero_add] at q
  exact q
theorem zRm28 (h : zR K x y S) {k : Int} (h0 : 0 ≤ k) (h1 : k < 200) : S.1 85 0 k.toNat = zI (y 28 k) := (congrArg (S.1 85 0) (Nat.zero_add _).symm).trans (h.1 (false, 28, 85, 0, 200) (by decide) k h0 h1)
theorem zWm28 (h : zR K x y S) {k v : Int} (h0 : 0 ≤ k) (hk : k < 200) (h1 : -2147483648 ≤ v) (h2 : v < 2147483648) : zR K x (xu y 28 k v) (zu S.1 85 0 k.toNat (zI v), S.2) := by
  have q := zR_y h (g := 28) (t := 85) (off := 0) (len := 200) (by decide) (by decide) h0 hk h1 h2
  rw [Nat.zero_add] at q
  exact q
theorem zRm29 (h : zR K x y S) : S.1 11 0 32 = zI (y 29 0) := h.1 (false, 29, 11, 32, 1) (by decide) 0 (by decide) (by decide)
theorem zWm29 (h : zR K x y S) {v : Int} (h1 : -2147483648 ≤ v) (h2 : v < 2147483648) : zR K x (xu y 29 0 v) (zu S.1 11 0 32 (zI v), S.2) := zR_y h (g := 29) (t := 11) (off := 32) (len := 1) (by decide) (by decide) (k := 0) (by decide) (by decide) h1 h2
theorem zRm30 (h : zR K x y S) {k : Int} (h0 : 0 ≤ k) (h1 : k < 200) : S.1 86 0 k.toNat = zI (y 30 k) := (congrArg (S.1 86 0) (Nat.zero_add _).symm).trans (h.1 (false, 30, 86, 0, 200) (by decide) k h0 h1)
theorem zWm30 (h : zR K x y S) {k v : Int} (h0 : 0 ≤ k) (hk : k < 200) (h1 : -2147483648 ≤ v) (h2 : v < 2147483648) : zR K x (xu y 30 k v) (zu S.1 86 0 k.toNat (zI v), S.2) := by
  have q := zR_y h (g := 30) (t := 86) (off := 0) (len := 200) (by decide) (by decide) h0 hk h1 h2
  rw [Nat.zero_add] at q
  exact q
theorem zRm31 (h : zR K x y S) {k : Int} (h0 : 0 ≤ k) (h1 : k < 200) : S.1 87 0 k.toNat = zI (y 31 k) := (congrArg (S.1 87 0) (Nat.zero_add _).symm).trans (h.1 (false, 31, 87, 0, 200) (by decide) k h0 h1)
theorem zWm31 (h : zR K x y S) {k v : Int} (h0 : 0 ≤ k) (hk : k < 200) (h1 : -2147483648 ≤ v) (h2 : v < 2147483648) : zR K x (xu y 31 k v) (zu S.1 87 0 k.toNat (zI v), S.2) := by
  have q := zR_y h (g := 31) (t := 87) (off := 0) (len := 200) (by decide) (by decide) h0 hk h1 h2
  rw [Nat.zero_add] at q
  exact q
theorem zRm32 (h : zR K x y S) {k : Int} (h0 : 0 ≤ k) (h1 : k < 200) : S.1 88 0 k.toNat = zI (y 32 k) := (congrArg (S.1 88 0) (Nat.zero_add _).symm).trans (h.1 (false, 32, 88, 0, 200) (by decide) k h0 h1)
theorem zWm32 (h : zR K x y S) {k v : Int} (h0 : 0 ≤ k) (hk : k < 200) (h1 : -2147483648 ≤ v) (h2 : v < 2147483648) : zR K x (xu y 32 k v) (zu S.1 88 0 k.toNat (zI v), S.2) := by
  have q := zR_y h (g := 32) (t := 88) (off := 0) (len := 200) (by decide) (by decide) h0 hk h1 h2
  rw [Nat.zero_add] at q
  exact q
theorem zRm33 (h : zR K x y S) : S.1 11 0 36 = zI (y 33 0) := h.1 (false, 33, 11, 36, 1) (by decide) 0 (by decide) (by decide)
theorem zWm33 (h : zR K x y S) {v : Int} (h1 : -2147483648 ≤ v) (h2 : v < 2147483648) : zR K x (xu y 33 0 v) (zu S.1 11 0 36 (zI v), S.2) := zR_y h (g := 33) (t := 11) (off := 36) (len := 1) (by decide) (by decide) (k := 0) (by decide) (by decide) h1 h2
theorem zRm34 (h : zR K x y S) {k : Int} (h0 : 0 ≤ k) (h1 : k < 1000) : S.1 89 0 k.toNat = zI (y 34 k) := (congrArg (S.1 89 0) (Nat.zero_add _).symm).trans (h.1 (false, 34, 89, 0, 1000) (by decide) k h0 h1)
theorem zWm34 (h : zR K x y S) {k v : Int} (h0 : 0 ≤ k) (hk : k < 1000) (h1 : -2147483648 ≤ v) (h2 : v < 2147483648) : zR K x (xu y 34 k v) (zu S.1 89 0 k.toNat (zI v), S.2) := by
  have q := zR_y h (g := 34) (t := 89) (off := 0) (len := 1000) (by decide) (by decide) h0 hk h1 h2
  rw [Nat.zero_add] at q
  exact q
theorem zRm35 (h : zR K x y S) : S.1 11 0 75 = zI (y 35 0) := h.1 (false, 35, 11, 75, 1) (by decide) 0 (by decide) (by decide)
theorem zWm35 (h : zR K x y S) {v : Int} (h1 : -2147483648 ≤ v) (h2 : v < 2147483648) : zR K x (xu y 35 0 v) (zu S.1 11 0 75 (zI v), S.2) := zR_y h (g := 35) (t := 11) (off := 75) (len := 1) (by decide) (by decide) (k := 0) (by decide) (by decide) h1 h2
theorem zRm36 (h : zR K x y S) {k : Int} (h0 : 0 ≤ k) (h1 : k < 60) : S.1 117 0 k.toNat = zI (y 36 k) := (congrArg (S.1 117 0) (Nat.zero_add _).symm).trans (h.1 (false, 36, 117, 0, 60) (by decide) k h0 h1)
theorem zWm36 (h : zR K x y S) {k v : Int} (h0 : 0 ≤ k) (hk : k < 60) (h1 : -2147483648 ≤ v) (h2 : v < 2147483648) : zR K x (xu y 36 k v) (zu S.1 117 0 k.toNat (zI v), S.2) := by
  have q := zR_y h (g := 36) (t := 117) (off := 0) (len := 60) (by decide) (by decide) h0 hk h1 h2
  rw [Nat.zero_add] at q
  exact q
theorem zRm37 (h : zR K x y S) {k : Int} (h0 : 0 ≤ k) (h1 : k < 5760) : S.1 118 0 k.toNat = zI (y 37 k) := (congrArg (S.1 118 0) (Nat.zero_add _).symm).trans (h.1 (false, 37, 118, 0, 5760) (by decide) k h0 h1)
theorem zWm37 (h : zR K x y S) {k v : Int} (h0 : 0 ≤ k) (hk : k < 5760) (h1 : -2147483648 ≤ v) (h2 : v < 2147483648) : zR K x (xu y 37 k v) (zu S.1 118 0 k.toNat (zI v), S.2) := by
  have q := zR_y h (g := 37) (t := 118) (off := 0) (len := 5760) (by decide) (by decide) h0 hk h1 h2
  rw [Nat.zero_add] at q
  exact q
theorem zRm42 (h : zR K x y S) {k : Int} (h0 : 0 ≤ k) (h1 : k < 2) : S.1 90 0 k.toNat = zI (y 42 k) := (congrArg (S.1 90 0) (Nat.zero_add _).symm).trans (h.1 (false, 42, 90, 0, 2) (by decide) k h0 h1)
theorem zWm42 (h : zR K x y S) {k v : Int} (h0 : 0 ≤ k) (hk : k < 2) (h1 : -2147483648 ≤ v) (h2 : v < 2147483648) : zR K x (xu y 42 k v) (zu S.1 90 0 k.toNat (zI v), S.2) := by
  have q := zR_y h (g := 42) (t := 90) (off := 0) (len := 2) (by decide) (by decide) h0 hk h1 h2
  rw [Nat.zero_add] at q
  exact q
theorem zRm43 (h : zR K x y S) {k : Int} (h0 : 0 ≤ k) (h1 : k < 32) : S.1 91 0 k.toNat = zI (y 43 k) := (congrArg (S.1 91 0) (Nat.zero_add _).symm).trans (h.1 (false, 43, 91, 0, 32) (by decide) k h0 h1)
theorem zWm43 (h : zR K x y S) {k v : Int} (h0 : 0 ≤ k) (hk : k < 32) (h1 : -2147483648 ≤ v) (h2 : v < 2147483648) : zR K x (xu y 43 k v) (zu S.1 91 0 k.toNat (zI v), S.2) := by
  have q := zR_y h (g := 43) (t := 91) (off := 0) (len := 32) (by decide) (by decide) h0 hk h1 h2
  rw [Nat.zero_add] at q
  exact q
theorem zRm44 (h : zR K x y S) {k : Int} (h0 : 0 ≤ k) (h1 : k < 32) : S.1 92 0 k.toNat = zI (y 44 k) := (congrArg (S.1 92 0) (Nat.zero_add _).symm).trans (h.1 (false, 44, 92, 0, 32) (by decide) k h0 h1)
theorem zWm44 (h : zR K x y S) {k v : Int} (h0 : 0 ≤ k) (hk : k < 32) (h1 : -2147483648 ≤ v) (h2 : v < 2147483648) : zR K x (xu y 44 k v) (zu S.1 92 0 k.toNat (zI v), S.2) := by
  have q := zR_y h (g := 44) (t := 92) (off := 0) (len := 32) (by decide) (by decide) h0 hk h1 h2
  rw [Nat.zero_add] at q
  exact q
theorem zRm45 (h : zR K x y S) {k : Int} (h0 : 0 ≤ k) (h1 : k < 32) : S.1 93 0 k.toNat = zI (y 45 k) := (congrArg (S.1 93 0) (Nat.zero_add _).symm).trans (h.1 (false, 45, 93, 0, 32) (by decide) k h0 h1)
theorem zWm45 (h : zR K x y S) {k v : Int} (h0 : 0 ≤ k) (hk : k < 32) (h1 : -2147483648 ≤ v) (h2 : v < 2147483648) : zR K x (xu y 45 k v) (zu S.1 93 0 k.toNat (zI v), S.2) := by
  have q := zR_y h (g := 45) (t := 93) (off := 0) (len := 32) (by decide) (by decide) h0 hk h1 h2
  rw [Nat.zero_add] at q
  exact q
theorem zRm46 (h : zR K x y S) {k : Int} (h0 : 0 ≤ k) (h1 : k < 32) : S.1 94 0 k.toNat = zI (y 46 k) := (congrArg (S.1 94 0) (Nat.zero_add _).symm).trans (h.1 (false, 46, 94, 0, 32) (by decide) k h0 h1)
theorem zWm46 (h : zR K x y S) {k v : Int} (h0 : 0 ≤ k) (hk : k < 32) (h1 : -2147483648 ≤ v) (h2 : v < 2147483648) : zR K x (xu y 46 k v) (zu S.1 94 0 k.toNat (zI v), S.2) := by
  have q := zR_y h (g := 46) (t := 94) (off := 0) (len := 32) (by decide) (by decide) h0 hk h1 h2
  rw [Nat.zero_add] at q
  exact q
theorem zRm47 (h : zR K x y S) {k : Int} (h0 : 0 ≤ k) (h1 : k < 32) : S.1 95 0 k.toNat = zI (y 47 k) := (congrArg (S.1 95 0) (Nat.zero_add _).symm).trans (h.1 (false, 47, 95, 0, 32) (by decide) k h0 h1)
theorem zWm47 (h : zR K x y S) {k v : Int} (h0 : 0 ≤ k) (hk : k < 32) (h1 : -2147483648 ≤ v) (h2 : v < 2147483648) : zR K x (xu y 47 k v) (zu S.1 95 0 k.toNat (zI v), S.2) := by
  have q := zR_y h (g := 47) (t := 95) (off := 0) (len := 32) (by decide) (by decide) h0 hk h1 h2
  rw [Nat.zero_add] at q
  exact q
theorem zRm48 (h : zR K x y S) {k : Int} (h0 : 0 ≤ k) (h1 : k < 2) : S.1 96 0 k.toNat = zI (y 48 k) := (congrArg (S.1 96 0) (Nat.zero_add _).symm).trans (h.1 (false, 48, 96, 0, 2) (by decide) k h0 h1)
theorem zWm48 (h : zR K x y S) {k v : Int} (h0 : 0 ≤ k) (hk : k < 2) (h1 : -2147483648 ≤ v) (h2 : v < 2147483648) : zR K x (xu y 48 k v) (zu S.1 96 0 k.toNat (zI v), S.2) := by
  have q := zR_y h (g := 48) (t := 96) (off := 0) (len := 2) (by decide) (by decide) h0 hk h1 h2
  rw [Nat.zero_add] at q
  exact q
theorem zRm49 (h : zR K x y S) {k : Int} (h0 : 0 ≤ k) (h1 : k < 2000) : S.1 98 0 k.toNat = zI (y 49 k) := (congrArg (S.1 98 0) (Nat.zero_add _).symm).trans (h.1 (false, 49, 98, 0, 2000) (by decide) k h0 h1)
theorem zWm49 (h : zR K x y S) {k v : Int} (h0 : 0 ≤ k) (hk : k < 2000) (h1 : -2147483648 ≤ v) (h2 : v < 2147483648) : zR K x (xu y 49 k v) (zu S.1 98 0 k.toNat (zI v), S.2) := by
  have q := zR_y h (g := 49) (t := 98) (off := 0) (len := 2000) (by decide) (by decide) h0 hk h1 h2
  rw [Nat.zero_add] at q
  exact q
theorem zRnm (h : zR K x y S) {r n : Int} (h1 : 0 ≤ r) (h2 : r < 12) (h3 : 0 ≤ n) (h4 : n < 100) : S.1 21 0 (100 * r + n).toNat = zI (zlineOf x r n) := h.2.2.1 r n h1 h2 h3 h4
theorem zRl (h : zR K x y S) {j : Int} (h0 : 0 ≤ j) (h1 : j < x 11 0) : zLC x S j := h.2.1 j h0 h1
theorem zRD (h : zR K x y S) {j : Int} (h0 : 0 ≤ j) (h1 : j < x 11 0) : S.2.2.1 20 0 j.toNat = some (2, j.toNat) := (h.2.1 j h0 h1).1
theorem zRix (h : zR K x y S) {j : Int} (h0 : 0 ≤ j) (h1 : j < x 11 0) : S.1 2 j.toNat 0 = zI j := (h.2.1 j h0 h1).2.1
theorem zRc12 (h : zR K x y S) {j : Int} (h0 : 0 ≤ j) (h1 : j < x 11 0) : S.1 2 j.toNat 1 = zI (x 12 j) := (h.2.1 j h0 h1).2.2.1
theorem zRc15 (h : zR K x y S) {j : Int} (h0 : 0 ≤ j) (h1 : j < x 11 0) : S.1 2 j.toNat 2 = zI (x 15 j) := (h.2.1 j h0 h1).2.2.2.1
theorem zRLA (h : zR K x y S) {j : Int} (h0 : 0 ≤ j) (h1 : j < x 11 0) (h2 : x 15 j = 1) : zLA x S.1 j := (h.2.1 j h0 h1).2.2.2.2.1 h2
theorem zRLQ (h : zR K x y S) {j : Int} (h0 : 0 ≤ j) (h1 : j < x 11 0) (h2 : x 15 j ≠ 1) : zLQ S.1 j := (h.2.1 j h0 h1).2.2.2.2.2 h2
theorem zRbx (h : zR K x y S) : zBd x := h.2.2.2.2.2.1
theorem zRby (h : zR K x y S) : zBd y := h.2.2.2.2.2.2
end RD
