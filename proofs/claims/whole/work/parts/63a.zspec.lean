/-! THE SPEC: what a call answers and leaves, over the ghost -/
abbrev zSw (x : ZW) (a : Int) : Prop := 0 ≤ a ∧ a < 8 * x 2 0 ∧ a % 8 < x 4 (a / 8)
abbrev zJn (a : Int) : Prop := 100 ≤ a ∧ a < 116
abbrev zEn (x : ZW) (a : Int) : Prop := zSw x a ∨ zJn a
abbrev zLn (x : ZW) (l : Int) : Prop := 0 ≤ l ∧ l < x 11 0
abbrev zSl (x : ZW) (r : Int) : Prop := 0 ≤ r ∧ r < x 2 0 ∧ x 3 r = 0
abbrev zFr (x : ZW) (e : Int) : Prop := x 8 e < 0 ∧ x 9 e = 0 ∧ x 40 e = 0
abbrev zQt (x : ZW) (l : Int) : Prop := x 15 l = 0 ∧ x 41 l = 0
abbrev zEg (x : ZW) (h : Int) : Prop := 100 ≤ h ∨ x 3 (h / 8) = 1
/-- the first free switch of a rack -/
def sFF (x : ZW) (r : Int) : Int := zfst (fun e => decide (zFr x e)) (x 4 r).toNat (8 * r)
def sGo (x : ZW) (b : Int) : Nat → Int → Bool → Int
  | 0, _, leads => bif leads then -1 else -2
  | n + 1, p, leads => if x 6 (b + p) < 0 then sGo x b n (p + 1) leads else if zFr x (x 6 (b + p)) then x 6 (b + p) else sGo x b n (p + 1) true
def sBase (x : ZW) (h d : Int) : Int := 80 * (h / 8) + 40 * (h % 8 % x 5 (h / 8)) + 4 * d
def sGoes (x : ZW) (h d : Int) : Int := sGo x (sBase x h d) 4 0 false
/-- racks, switches, sections, outlets, zones, holders are in their bounds -/
def zGp (x : ZW) : Prop :=
  (0 ≤ x 1 0 ∧ x 1 0 ≤ 999999) ∧ (0 ≤ x 2 0 ∧ x 2 0 ≤ 12) ∧ (∀ r, 0 ≤ x 3 r ∧ x 3 r ≤ 1) ∧ (∀ r, 0 ≤ x 4 r ∧ x 4 r ≤ 8) ∧ (∀ r, 0 ≤ x 5 r ∧ x 5 r ≤ 2) ∧
  (∀ r, 0 ≤ r → r < x 2 0 → 1 ≤ x 4 r ∧ 1 ≤ x 5 r) ∧ (∀ k, -1 ≤ x 6 k ∧ x 6 k < 116 ∧ (0 ≤ x 6 k → zEn x (x 6 k))) ∧ (∀ k, 0 ≤ x 7 k ∧ x 7 k ≤ 9) ∧
  (∀ e, -1 ≤ x 8 e ∧ x 8 e < 40) ∧ (∀ e, 0 ≤ x 9 e ∧ x 9 e ≤ 1) ∧ (∀ e, 0 ≤ x 10 e ∧ x 10 e ≤ 1) ∧ (∀ e, 96 ≤ e → x 9 e = 0 ∧ x 10 e = 0) ∧ (0 ≤ x 11 0 ∧ x 11 0 ≤ 40) ∧
  (∀ j, 0 ≤ x 12 j ∧ x 12 j < 12) ∧ (∀ j, 0 ≤ x 13 j ∧ x 13 j < 12) ∧ (∀ j, 0 ≤ x 14 j ∧ x 14 j < 100) ∧ (∀ j, 0 ≤ j → j < x 11 0 → zSl x (x 12 j) ∧ x 13 j < x 2 0 ∧ x 3 (x 13 j) = 1) ∧
  (∀ j, 0 ≤ x 15 j ∧ x 15 j ≤ 2)
section GP
variable {x : ZW}
theorem zG1 (h : zGp x) : 0 ≤ x 1 0 ∧ x 1 0 ≤ 999999 := h.1
theorem zG2 (h : zGp x) : 0 ≤ x 2 0 ∧ x 2 0 ≤ 12 := h.2.1
theorem zG3 (h : zGp x) (r : Int) : 0 ≤ x 3 r ∧ x 3 r ≤ 1 := h.2.2.1 r
theorem zG4 (h : zGp x) (r : Int) : 0 ≤ x 4 r ∧ x 4 r ≤ 8 := h.2.2.2.1 r
theorem zG5 (h : zGp x) (r : Int) : 0 ≤ x 5 r ∧ x 5 r ≤ 2 := h.2.2.2.2.1 r
theorem zG45 (h : zGp x) {r : Int} (h0 : 0 ≤ r) (h1 : r < x 2 0) : 1 ≤ x 4 r ∧ 1 ≤ x 5 r := h.2.2.2.2.2.1 r h0 h1
theorem zG6 (h : zGp x) (k : Int) : -1 ≤ x 6 k ∧ x 6 k < 116 := ⟨(h.2.2.2.2.2.2.1 k).1, (h.2.2.2.2.2.2.1 k).2.1⟩
theorem zG6e (h : zGp x) {k : Int} (h0 : 0 ≤ x 6 k) : zEn x (x 6 k) := (h.2.2.2.2.2.2.1 k).2.2 h0
theorem zG7 (h : zGp x) (k : Int) : 0 ≤ x 7 k ∧ x 7 k ≤ 9 := h.2.2.2.2.2.2.2.1 k
theorem zG8 (h : zGp x) (e : Int) : -1 ≤ x 8 e ∧ x 8 e < 40 := h.2.2.2.2.2.2.2.2.1 e
theorem zG9 (h : zGp x) (e : Int) : 0 ≤ x 9 e ∧ x 9 e ≤ 1 := h.2.2.2.2.2.2.2.2.2.1 e
theorem zG10 (h : zGp x) (e : Int) : 0 ≤ x 10 e ∧ x 10 e ≤ 1 := h.2.2.2.2.2.2.2.2.2.2.1 e
theorem zGj (h : zGp x) {e : Int} (he : 96 ≤ e) : x 9 e = 0 ∧ x 10 e = 0 := h.2.2.2.2.2.2.2.2.2.2.2.1 e he
theorem zG11 (h : zGp x) : 0 ≤ x 11 0 ∧ x 11 0 ≤ 40 := h.2.2.2.2.2.2.2.2.2.2.2.2.1
theorem zG12 (h : zGp x) (j : Int) : 0 ≤ x 12 j ∧ x 12 j < 12 := h.2.2.2.2.2.2.2.2.2.2.2.2.2.1 j
theorem zG13 (h : zGp x) (j : Int) : 0 ≤ x 13 j ∧ x 13 j < 12 := h.2.2.2.2.2.2.2.2.2.2.2.2.2.2.1 j
theorem zG14 (h : zGp x) (j : Int) : 0 ≤ x 14 j ∧ x 14 j < 100 := h.2.2.2.2.2.2.2.2.2.2.2.2.2.2.2.1 j
theorem zGln (h : zGp x) {j : Int} (h0 : 0 ≤ j) (h1 : j < x 11 0) : zSl x (x 12 j) ∧ x 13 j < x 2 0 ∧ x 3 (x 13 j) = 1 := h.2.2.2.2.2.2.2.2.2.2.2.2.2.2.2.2.1 j h0 h1
theorem zG15 (h : zGp x) (j : Int) : 0 ≤ x 15 j ∧ x 15 j ≤ 2 := h.2.2.2.2.2.2.2.2.2.2.2.2.2.2.2.2.2 j
end GP
