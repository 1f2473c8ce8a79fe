/-! THE GHOST: what class and reference hold, by fields; the table of the cells that hold a field as it is -/
abbrev ZW : Type := Nat → Int → Int
def xu (x : ZW) (g : Nat) (k v : Int) : ZW := fun g' k' => if g' = g ∧ k' = k then v else x g' k'
theorem xu_s (x : ZW) (g : Nat) (k v : Int) : xu x g k v g k = v := if_pos ⟨rfl, rfl⟩
theorem xu_g (x : ZW) {g g' : Nat} {k k' v : Int} (h : g' ≠ g) : xu x g k v g' k' = x g' k' := if_neg fun e => h e.1
theorem xu_k (x : ZW) {g : Nat} {k k' v : Int} (h : k' ≠ k) : xu x g k v g k' = x g k' := if_neg fun e => h e.2
theorem xu_kk (x : ZW) (g : Nat) (k k' v : Int) : xu x g k v g k' = if k' = k then v else x g k' := by
  by_cases h : k' = k
  · rw [if_pos h, h, xu_s]
  · rw [if_neg h, xu_k _ h]
/-- side (the class, or the reference), field, tag, first slot, length -/
def zTab : List (Bool × Nat × Nat × Nat × Nat) := [
  (true, 1, 10, 9, 1), (true, 2, 4, 0, 1), (true, 3, 33, 0, 12), (true, 4, 34, 0, 12), (true, 5, 35, 0, 12), (true, 6, 36, 0, 960), (true, 7, 40, 0, 16), (true, 8, 39, 0, 116), (true, 9, 37, 0, 96), (true, 10, 38, 0, 96), (true, 11, 0, 3, 1),
  (true, 24, 1, 0, 1), (true, 25, 22, 0, 200), (true, 26, 23, 0, 200), (true, 27, 24, 0, 200), (true, 28, 25, 0, 200), (true, 29, 1, 5, 1), (true, 30, 26, 0, 200), (true, 31, 27, 0, 200), (true, 32, 28, 0, 200), (true, 33, 6, 1, 1), (true, 34, 41, 0, 1000), (true, 35, 8, 1, 1), (true, 36, 52, 0, 60),
  (false, 1, 11, 1, 1), (false, 2, 11, 2, 1), (false, 3, 59, 0, 12), (false, 4, 60, 0, 12), (false, 5, 61, 0, 12), (false, 6, 62, 0, 960), (false, 7, 63, 0, 16), (false, 8, 64, 0, 116), (false, 9, 65, 0, 116), (false, 10, 66, 0, 116), (false, 11, 11, 11, 1),
  (false, 12, 67, 0, 40), (false, 13, 68, 0, 40), (false, 14, 69, 0, 40), (false, 15, 70, 0, 40), (false, 16, 71, 0, 40), (false, 17, 72, 0, 40), (false, 18, 73, 0, 40), (false, 19, 74, 0, 200), (false, 20, 75, 0, 40), (false, 50, 76, 0, 40), (false, 21, 77, 0, 40), (false, 22, 78, 0, 40), (false, 23, 79, 0, 4800),
  (false, 40, 80, 0, 116), (false, 41, 81, 0, 40), (false, 24, 11, 27, 1), (false, 25, 82, 0, 200), (false, 26, 83, 0, 200), (false, 27, 84, 0, 200), (false, 28, 85, 0, 200), (false, 29, 11, 32, 1), (false, 30, 86, 0, 200), (false, 31, 87, 0, 200), (false, 32, 88, 0, 200), (false, 33, 11, 36, 1), (false, 34, 89, 0, 1000), (false, 35, 11, 75, 1), (false, 36, 117, 0, 60), (false, 37, 118, 0, 5760),
  (false, 42, 90, 0, 2), (false, 43, 91, 0, 32), (false, 44, 92, 0, 32), (false, 45, 93, 0, 32), (false, 46, 94, 0, 32), (false, 47, 95, 0, 32), (false, 48, 96, 0, 2), (false, 49, 98, 0, 2000)]
theorem zTab_ok : ∀ p ∈ zTab, ∀ q ∈ zTab, p = q ∨ ((p.1 = q.1 → p.2.1 ≠ q.2.1) ∧ (p.2.2.1 = q.2.2.1 → p.2.2.2.1 + p.2.2.2.2 ≤ q.2.2.2.1 ∨ q.2.2.2.1 + q.2.2.2.2 ≤ p.2.2.2.1)) := by decide +kernel
def zRt (x y : ZW) (I : ZMp Int32) : Prop := ∀ p ∈ zTab, ∀ k : Int, 0 ≤ k → k < (p.2.2.2.2 : Int) → I p.2.2.1 0 (p.2.2.2.1 + k.toNat) = zI ((bif p.1 then x else y) p.2.1 k)
theorem zRt_w {b : Bool} {g t off len : Nat} (hp : (b, g, t, off, len) ∈ zTab) {x y : ZW} {I : ZMp Int32} (h : zRt x y I) {k : Int} (v : Int) (h0 : 0 ≤ k) (h1 : k < (len : Int)) :
    zRt (bif b then xu x g k v else x) (bif b then y else xu y g k v) (zu I t 0 (off + k.toNat) (zI v)) := by
  intro q hq k' h0' h1'
  rcases zTab_ok _ hp q hq with e | ⟨e1, e2⟩
  · subst e
    show (if t = t ∧ 0 = 0 ∧ off + k'.toNat = off + k.toNat then zI v else I t 0 (off + k'.toNat)) = zI ((bif b then (bif b then xu x g k v else x) else (bif b then y else xu y g k v) : ZW) g k')
    have hg := h _ hp k' h0' h1'
    by_cases hk : k' = k
    · subst hk
      rw [if_pos ⟨rfl, rfl, rfl⟩]
      cases b
      · exact congrArg zI (xu_s y g k' v).symm
      · exact congrArg zI (xu_s x g k' v).symm
    · rw [if_neg (fun e => hk (by omega))]
      cases b
      · exact hg.trans (congrArg zI (xu_k y hk).symm)
      · exact hg.trans (congrArg zI (xu_k x hk).symm)
  · obtain ⟨b', g', t', off', len'⟩ := q
    have hg := h _ hq k' h0' h1'
    have e1 : b = b' → g ≠ g' := e1
    have e2 : t = t' → off + len ≤ off' ∨ off' + len' ≤ off := e2
    have h1' : k' < (len' : Int) := h1'
    show (if t' = t ∧ 0 = 0 ∧ off' + k'.toNat = off + k.toNat then zI v else I t' 0 (off' + k'.toNat)) = zI ((bif b' then (bif b then xu x g k v else x) else (bif b then y else xu y g k v) : ZW) g' k')
    rw [if_neg (fun e => by have := e2 e.1.symm; omega)]
    refine hg.trans (congrArg zI ?_)
    cases b <;> cases b'
    · exact (xu_g y (fun e => e1 rfl e.symm)).symm
    · rfl
    · rfl
    · exact (xu_g x (fun e => e1 rfl e.symm)).symm
theorem zRt_x {g t off len : Nat} (hp : (true, g, t, off, len) ∈ zTab) {x y : ZW} {I : ZMp Int32} (h : zRt x y I) {k : Int} (v : Int) (h0 : 0 ≤ k) (h1 : k < (len : Int)) : zRt (xu x g k v) y (zu I t 0 (off + k.toNat) (zI v)) := zRt_w hp h v h0 h1
theorem zRt_y {g t off len : Nat} (hp : (false, g, t, off, len) ∈ zTab) {x y : ZW} {I : ZMp Int32} (h : zRt x y I) {k : Int} (v : Int) (h0 : 0 ≤ k) (h1 : k < (len : Int)) : zRt x (xu y g k v) (zu I t 0 (off + k.toNat) (zI v)) := zRt_w hp h v h0 h1
/-- a cell that holds no field of the table -/
def zfre (t s : Nat) : Bool := zTab.all (fun p => !(Nat.beq p.2.2.1 t && Nat.ble p.2.2.2.1 s && Nat.blt s (p.2.2.2.1 + p.2.2.2.2)))
def zfrt (t : Nat) : Bool := zTab.all (fun p => !Nat.beq p.2.2.1 t)
theorem zRt_s {t s : Nat} (ht : zfre t s = true) {x y : ZW} {I : ZMp Int32} (h : zRt x y I) (i : Nat) (v : Int32) : zRt x y (zu I t i s v) := by
  intro q hq k h0 h1
  have hn := List.all_eq_true.mp ht q hq
  refine Eq.trans (if_neg ?_) (h q hq k h0 h1)
  rintro ⟨e1, _, e2⟩
  have a1 : Nat.beq q.2.2.1 t = true := by rw [e1]; exact Nat.beq_refl t
  have a2 : Nat.ble q.2.2.2.1 s = true := by rw [Nat.ble_eq]; omega
  have a3 : Nat.blt s (q.2.2.2.1 + q.2.2.2.2) = true := by rw [Nat.blt_eq]; omega
  rw [a1, a2, a3] at hn
  cases hn
theorem zRt_t {t : Nat} (ht : zfrt t = true) {x y : ZW} {I : ZMp Int32} (h : zRt x y I) (i s : Nat) (v : Int32) : zRt x y (zu I t i s v) := by
  intro q hq k h0 h1
  have hn := List.all_eq_true.mp ht q hq
  refine Eq.trans (if_neg ?_) (h q hq k h0 h1)
  rintro ⟨e1, _, _⟩
  rw [e1, Nat.beq_refl] at hn
  cases hn
/-- a field that no cell of the side holds as it is -/
def zfrg (b : Bool) (g : Nat) : Bool := zTab.all (fun p => !(Nat.beq p.2.1 g && (p.1 == b)))
theorem zRt_g {g : Nat} (hg : zfrg true g = true) {x y : ZW} {I : ZMp Int32} (h : zRt x y I) (k v : Int) : zRt (xu x g k v) y I := by
  intro q hq k' h0 h1
  have hn := List.all_eq_true.mp hg q hq
  refine (h q hq k' h0 h1).trans (congrArg zI ?_)
  obtain ⟨b, g', r⟩ := q
  cases b
  · rfl
  · refine (xu_g x ?_).symm
    rintro rfl
    have hn : (!(Nat.beq g' g' && (true == true))) = true := hn
    rw [Nat.beq_refl] at hn
    cases hn
