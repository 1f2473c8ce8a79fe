/-! EXPLAIN, SURE: what the class has found, and how a set more is told -/
noncomputable def zctl (n e : Int) : List Int → Int
  | [] => 0
  | c :: l => zctl n e l + sI (zHx n c e) 1 0
/-- the class has told the sets with these codes -/
def zLv (K : ZS) (x y : ZW) (n : Int) (l : List Int) (S : ZS) : Prop := zR K x y S ∧ S.1 8 0 9 = zI (l.length : Nat) ∧ (∀ e, 0 ≤ e → e < 96 → S.1 57 0 e.toNat = zI (zctl n e l)) ∧ (∀ c ∈ l, 0 ≤ c ∧ c < zcd n ∧ zXn x n c) ∧
  (l ≠ [] → ∃ c, c ∈ l ∧ (∀ c' ∈ l, c ≤ c') ∧ ∀ j, 0 ≤ j → j < n → S.1 56 0 j.toNat = zI (zdg n j c))
section LF
variable {K : ZS} {x y : ZW} {S : ZS}
theorem zLv_a (g : zGp x) (d : Nat) {n : Int} (hn : 0 ≤ n ∧ n ≤ 3) {l : List Int} (hl : l.length < 1000000) (h : zLv K x y n l S) {v : Int → Int} (hv : ∀ j, 0 ≤ j → j < n → 0 ≤ v j ∧ v j < 96 ∧ S.1 54 0 j.toNat = zI (v j)) (inj : ∀ i j, 0 ≤ i → i < j → j < n → v i ≠ v j)
    (hw : ∀ j, 0 ≤ j → j < n → zSw x (v j)) (hx : zEX x n v) :
    zwp (zB_addSet (d + 3) (zI n) S) (fun S' => ∃ c, zLv K x y n (c :: l) S' ∧ S'.1 54 = S.1 54 ∧ S'.1 53 = S.1 53 ∧ ∀ e, zHx n c e ↔ ∃ j, 0 ≤ j ∧ j < n ∧ v j = e) := by
  obtain ⟨h1, h2, h3, h4, h5⟩ := h
  have hu : ∃ u : Int → Int, ∃ c0 : Int, ((l.length : Int) ≠ 0 → c0 ∈ l ∧ (∀ c' ∈ l, c0 ≤ c') ∧ ∀ j, 0 ≤ j → j < n → u j = zdg n j c0 ∧ 0 ≤ u j ∧ u j < 96 ∧ S.1 56 0 j.toNat = zI (u j)) := by
    by_cases q : l = []
    · refine ⟨fun _ => 0, 0, fun p => ?_⟩
      rw [q] at p
      exact absurd rfl p
    · obtain ⟨c0, a, b, c⟩ := h5 q
      refine ⟨fun j => zdg n j c0, c0, fun _ => ⟨a, b, fun j j0 j1 => ?_⟩⟩
      have := (h4 c0 a).2.2.1 j j0 j1
      have b2 := zG2 g
      unfold zSw at this
      dsimp only
      exact ⟨rfl, by omega, by omega, c j j0 j1⟩
  obtain ⟨u, c0, hu⟩ := hu
  refine zwp_mono (zB_addSet_s h1 d (c := (l.length : Nat)) (f := fun e => zctl n e l) (u := u) hn (by omega) hv inj h2 h3 (fun p j j0 j1 => ((hu p).2.2 j j0 j1).2)) (fun S' k => ?_)
  obtain ⟨w, k1, k2, k3, k4, k5, k6, k7, k8⟩ := k
  have bw : ∀ j, 0 ≤ j → j < n → 0 ≤ w j ∧ w j < 96 := by
    intro j a b
    obtain ⟨i, i0, i1, i2⟩ := (k1.2 (w j)).1 ⟨j, a, b, rfl⟩
    have := hv i i0 i1
    omega
  obtain ⟨c, c0', c1, c2⟩ := zdg_e hn bw
  have same : ∀ e, zHx n c e ↔ ∃ j, 0 ≤ j ∧ j < n ∧ v j = e := by
    intro e
    refine Iff.trans ?_ (k1.2 e)
    constructor
    · rintro ⟨j, a, b, q⟩
      exact ⟨j, a, b, by rw [← c2 j a b]; exact q⟩
    · rintro ⟨j, a, b, q⟩
      exact ⟨j, a, b, by rw [c2 j a b]; exact q⟩
  have hX : zXn x n c := by
    refine ⟨fun i i0 i1 => ?_, fun i i0 i1 => ?_, fun t t0 t1 => Iff.trans (hx t t0 t1) ?_⟩
    · obtain ⟨j, a, b, q⟩ := (same (zdg n i c)).1 ⟨i, i0, i1, rfl⟩
      rw [← q]
      exact hw j a b
    · rw [c2 i i0 (by omega), c2 (i + 1) (by omega) i1]
      exact k1.1 i i0 i1
    · constructor
      · rintro ⟨i, a, b, q⟩
        obtain ⟨j, ja, jb, jq⟩ := (same (v i)).2 ⟨i, a, b, rfl⟩
        exact ⟨j, ja, jb, by dsimp only; rw [jq]; exact q⟩
      · rintro ⟨i, a, b, q⟩
        obtain ⟨j, ja, jb, jq⟩ := (same (zdg n i c)).1 ⟨i, a, b, rfl⟩
        exact ⟨j, ja, jb, by rw [jq]; exact q⟩
  refine ⟨c, ⟨k2, ?_, fun e a b => ?_, fun e he => ?_, fun _ => ?_⟩, k5, k6, same⟩
  · rw [k3]
    rfl
  · rw [k4 e a b]
    exact congrArg (fun w => zI (zctl n e l + w)) (sI_c (same e).symm 1 0)
  · rcases List.mem_cons.1 he with q | q
    · rw [q]; exact ⟨c0', c1, hX⟩
    · exact h4 e q
  · by_cases q : (l.length : Int) = 0 ∨ zLx w u n
    · refine ⟨c, List.mem_cons_self, fun c' hc' => ?_, fun j a b => by rw [k7 q j a b, c2 j a b]⟩
      rcases List.mem_cons.1 hc' with p | p
      · rw [p]; omega
      · have nz : (l.length : Int) ≠ 0 := by
          have := List.length_pos_of_mem p
          omega
        obtain ⟨u1, u2, u3⟩ := hu nz
        have lt : zLx w u n := q.elim (fun r => absurd r nz) (fun r => r)
        have := (zLx_c (c := c) (e := c0) hn ⟨c0', c1⟩ ⟨(h4 c0 u1).1, (h4 c0 u1).2.1⟩).1 ((zLx_x (fun j a b => (c2 j a b)) (fun j a b => ((u3 j a b).1).symm)).2 lt)
        have := u2 c' p
        omega
    · have nz : (l.length : Int) ≠ 0 := fun r => q (Or.inl r)
      obtain ⟨u1, u2, u3⟩ := hu nz
      refine ⟨c0, List.mem_cons_of_mem _ u1, fun c' hc' => ?_, fun j a b => by rw [k8 q j a b, (u3 j a b).1]⟩
      rcases List.mem_cons.1 hc' with p | p
      · have : ¬ c < c0 := fun r => q (Or.inr ((zLx_x (fun j a b => (c2 j a b)) (fun j a b => ((u3 j a b).1).symm)).1 ((zLx_c (c := c) (e := c0) hn ⟨c0', c1⟩ ⟨(h4 c0 u1).1, (h4 c0 u1).2.1⟩).2 r)))
        omega
      · exact u2 c' p
end LF
