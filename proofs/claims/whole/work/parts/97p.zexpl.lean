/-! EXPLAIN, SURE: the spec, and the reference's search: a set of n switches is told by one number, its code -/
/-- switch i of the set of n switches with code c -/
def zdg (n i c : Int) : Int := if n = 1 then c else if n = 2 then (if i = 0 then c / 96 else c % 96) else (if i = 0 then c / 9216 else if i = 1 then c / 96 % 96 else c % 96)
/-- test t is as the switches v i, i < n, say -/
def zEt (x : ZW) (n : Int) (v : Int → Int) (t : Int) : Prop := x 36 t = 1 ↔ ∃ i, 0 ≤ i ∧ i < n ∧ x 37 (96 * t + v i) = 1
def zEX (x : ZW) (n : Int) (v : Int → Int) : Prop := ∀ t, 0 ≤ t → t < x 35 0 → zEt x n v t
/-- the code is that of a set, in order, that explains the tests -/
def zXn (x : ZW) (n c : Int) : Prop := (∀ i, 0 ≤ i → i < n → zSw x (zdg n i c)) ∧ (∀ i, 0 ≤ i → i + 1 < n → zdg n i c < zdg n (i + 1) c) ∧ zEX x n (fun i => zdg n i c)
def zHx (n c e : Int) : Prop := ∃ i, 0 ≤ i ∧ i < n ∧ zdg n i c = e
/-- the tests' cells are truth values -/
def zTb (x : ZW) : Prop := ∀ t, 0 ≤ t → t < x 35 0 → (x 36 t = 0 ∨ x 36 t = 1) ∧ ∀ e, 0 ≤ e → e < 96 → x 37 (96 * t + e) = 0 ∨ x 37 (96 * t + e) = 1
theorem zTb_c {x : ZW} {K : ZS} (h : zTC x K) : zTb x := fun t t0 t1 => ⟨(h t t0 t1).1, (h t t0 t1).2.1⟩
section EM
variable {K : ZS} {x y : ZW} {S : ZS}
theorem zM_explains_15_s (h : zR K x y S) (b : zTb y) (d : Nat) {n t : Int} (hn : 0 ≤ n ∧ n ≤ 3) {v : Int → Int} (hv : ∀ i, 0 ≤ i → i < n → 0 ≤ v i ∧ v i < 96 ∧ S.1 119 0 i.toNat = zI (v i)) (ht : 0 ≤ t ∧ t < y 35 0) (h60 : y 35 0 ≤ 60) :
    ∀ (m : Nat) (j : Int), 0 ≤ j → j + m = n → (zEt y n v t → zM_explains_15 d (zI n) (zI t) (zI (sI (∃ i, 0 ≤ i ∧ i < j ∧ y 37 (96 * t + v i) = 1) 1 0)) (zI j) S = zM_explains_2 d (zI n) (zI (t + 1)) S) ∧ (¬ zEt y n v t → zM_explains_15 d (zI n) (zI t) (zI (sI (∃ i, 0 ≤ i ∧ i < j ∧ y 37 (96 * t + v i) = 1) 1 0)) (zI j) S = some (0, S)) := by
  intro m
  induction m with
  | zero =>
    intro j j0 e
    have ej : j = n := by omega
    subst ej
    have b36 := (b t ht.1 ht.2).1
    have key : (sI (∃ i, 0 ≤ i ∧ i < j ∧ y 37 (96 * t + v i) = 1) 1 0 = y 36 t) ↔ zEt y j v t := by
      unfold zEt
      by_cases hq : ∃ i, 0 ≤ i ∧ i < j ∧ y 37 (96 * t + v i) = 1
      · rw [sI_t hq]
        exact ⟨fun w => ⟨fun _ => hq, fun _ => w.symm⟩, fun w => (w.2 hq).symm⟩
      · rw [sI_f hq]
        exact ⟨fun w => ⟨fun q => by omega, fun q => absurd q hq⟩, fun w => by
          rcases b36 with q | q
          · exact q.symm
          · exact absurd (w.1 q) hq⟩
    have b01 := sI_01 (∃ i, 0 ≤ i ∧ i < j ∧ y 37 (96 * t + v i) = 1)
    rw [eM_explains_15, zI_le (by omega) (by omega) (by omega) (by omega), zif_pos (by omega), zg_t (by rw [zI_in (by omega) (by omega)]; omega), zI_zx (by omega) (by omega), zRm36 h (by omega) (by omega), zI_eq (by omega) (by omega) (by omega) (by omega), zI_n1, zI_add]
    exact ⟨fun w => zif_pos (key.2 w), fun w => zif_neg (fun q => w (key.1 q))⟩
  | succ m ih =>
    intro j j0 e
    have hj := hv j j0 (by omega)
    have b37 := (b t ht.1 ht.2).2 (v j) hj.1 hj.2.1
    have ih := ih (j + 1) (by omega) (by omega)
    have b01 := sI_01 (∃ i, 0 ≤ i ∧ i < j ∧ y 37 (96 * t + v i) = 1)
    have step : zM_explains_15 d (zI n) (zI t) (zI (sI (∃ i, 0 ≤ i ∧ i < j ∧ y 37 (96 * t + v i) = 1) 1 0)) (zI j) S = zM_explains_15 d (zI n) (zI t) (zI (sI (∃ i, 0 ≤ i ∧ i < j + 1 ∧ y 37 (96 * t + v i) = 1) 1 0)) (zI (j + 1)) S := by
      have z0 : (0 : Int32) = zI 0 := rfl
      rw [eM_explains_15, zI_le (by omega) (by omega) (by omega) (by omega), zif_neg (by omega), z0, zI_eq (by omega) (by omega) (by omega) (by omega), zI_n1, zI_add]
      by_cases hq : ∃ i, 0 ≤ i ∧ i < j ∧ y 37 (96 * t + v i) = 1
      · rw [sI_t hq, zif_neg (by omega), sI_t (by obtain ⟨i, i0, i1, i2⟩ := hq; exact ⟨i, i0, by omega, i2⟩)]
      · rw [sI_f hq, zif_pos rfl, zg_t (by rw [zI_in (by omega) (by omega)]; omega), zI_zx (by omega) (by omega), hj.2.2, zI_n96, zI_mul, zI_add, zg_t (by rw [zI_in (by omega) (by omega)]; omega), zI_zx (by omega) (by omega), zRm37 h (by omega) (by omega), zI_eq (by omega) (by omega) (by omega) (by omega)]
        by_cases h0 : y 37 (96 * t + v j) = 0
        · rw [zif_pos h0, sI_f]
          rintro ⟨i, i0, i1, i2⟩
          by_cases hi : i = j
          · rw [hi] at i2; omega
          · exact hq ⟨i, i0, by omega, i2⟩
        · rw [zif_neg h0, sI_t ⟨j, by omega, by omega, by omega⟩]
    rw [step]
    exact ih
theorem zM_explains_2_s (h : zR K x y S) (b : zTb y) (d : Nat) {n : Int} (hn : 0 ≤ n ∧ n ≤ 3) {v : Int → Int} (hv : ∀ i, 0 ≤ i → i < n → 0 ≤ v i ∧ v i < 96 ∧ S.1 119 0 i.toNat = zI (v i)) (h60 : y 35 0 ≤ 60) :
    ∀ (m : Nat) (t : Int), 0 ≤ t → t + m = y 35 0 → zM_explains_2 d (zI n) (zI t) S = some (zb (∀ t', t ≤ t' → t' < y 35 0 → zEt y n v t'), S) := by
  intro m
  induction m with
  | zero =>
    intro t t0 e
    rw [eM_explains_2, zRm35 h, zI_le (by omega) (by omega) (by omega) (by omega), zif_pos (by omega), zb_t (fun t' a b => by omega)]
  | succ m ih =>
    intro t t0 e
    have q := zM_explains_15_s h b d hn hv (t := t) (by omega) h60 n.toNat 0 (by omega) (by omega)
    rw [sI_f (fun w => by obtain ⟨i, i0, i1, -⟩ := w; omega)] at q
    rw [eM_explains_2, zRm35 h, zI_le (by omega) (by omega) (by omega) (by omega), zif_neg (by omega)]
    by_cases ht : zEt y n v t
    · refine (q.1 ht).trans ((ih (t + 1) (by omega) (by omega)).trans (congrArg (fun w => some (w, S)) (zb_c ?_)))
      constructor
      · intro w t' a c
        by_cases e' : t' = t
        · rw [e']; exact ht
        · exact w t' (by omega) c
      · intro w t' a c
        exact w t' (by omega) c
    · refine (q.2 ht).trans ?_
      rw [zb_f (fun w => ht (w t (by omega) (by omega)))]
theorem zM_explains_s (h : zR K x y S) (b : zTb y) (d : Nat) {n : Int} (hn : 0 ≤ n ∧ n ≤ 3) {v : Int → Int} (hv : ∀ i, 0 ≤ i → i < n → 0 ≤ v i ∧ v i < 96 ∧ S.1 119 0 i.toNat = zI (v i)) (h60 : 0 ≤ y 35 0 ∧ y 35 0 ≤ 60) : zM_explains (d + 1) (zI n) S = some (zb (zEX y n v), S) := by
  rw [eM_explains, zI_n0]
  exact zM_explains_2_s h b d hn hv h60.2 (y 35 0).toNat 0 (by omega) (by omega)
/-- what the search has found among the codes under p -/
def zFs (K : ZS) (x y : ZW) (n : Int) (p : Nat) (S : ZS) : Prop := zR K x y S ∧ S.1 11 0 81 = zI (zsm (fun c => sI (zXn y n c) 1 0) p) ∧ (∀ e, 0 ≤ e → e < 96 → S.1 120 0 e.toNat = zI (zsm (fun c => sI (zXn y n c ∧ zHx n c e) 1 0) p)) ∧
  (∀ c : Int, 0 ≤ c → c < p → zXn y n c → (∀ c' : Int, 0 ≤ c' → c' < c → ¬ zXn y n c') → ∀ i, 0 ≤ i → i < n → S.1 121 0 i.toNat = zI (zdg n i c))
/-- no set's code is passed over -/
theorem zsm_z {f : Int → Int} {p : Nat} (h : ∀ j : Int, (p : Int) ≤ j → f j = 0) : ∀ m : Nat, zsm f (p + m) = zsm f p
  | 0 => rfl
  | m + 1 => by
    show zsm f (p + m) + f ((p + m : Nat) : Int) = _
    rw [zsm_z h m, h _ (by omega), Int.add_zero]
theorem zsm_zz {f : Int → Int} {p q : Nat} (hpq : p ≤ q) (h : ∀ j : Int, (p : Int) ≤ j → j < q → f j = 0) : zsm f q = zsm f p := by
  have e : ∀ m : Nat, p + m ≤ q → zsm f (p + m) = zsm f p := by
    intro m
    induction m with
    | zero => intro _; rfl
    | succ m ih =>
      intro hm
      show zsm f (p + m) + f ((p + m : Nat) : Int) = _
      rw [ih (by omega), h _ (by omega) (by omega), Int.add_zero]
  have := e (q - p) (by omega)
  rw [show p + (q - p) = q by omega] at this
  exact this
theorem zFs_z {n : Int} {p q : Nat} (hpq : p ≤ q) (hz : ∀ c : Int, (p : Int) ≤ c → c < q → ¬ zXn y n c) (h : zFs K x y n p S) : zFs K x y n q S := by
  obtain ⟨h1, h2, h3, h4⟩ := h
  refine ⟨h1, ?_, fun e e0 e1 => ?_, fun c c0 c1 hc hl => ?_⟩
  · rw [zsm_zz hpq (fun j a b => sI_f (hz j a b) 1 0)]
    exact h2
  · rw [zsm_zz hpq (fun j a b => sI_f (fun w => hz j a b w.1) 1 0)]
    exact h3 e e0 e1
  · by_cases hp : c < p
    · exact h4 c c0 hp hc hl
    · exact absurd hc (hz c (by omega) c1)
end EM
