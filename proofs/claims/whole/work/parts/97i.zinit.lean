/-! THE START: the ghost of a new object -/
def zx0 : ZW := fun g _ => if g = 6 ∨ g = 8 then -1 else if g = 7 then 1 else 0
section ST
variable (L : Nat) (xs : Nat → Int32) (o : Option ZR)
theorem zff_in {j k : Nat} {v : Int32} (h : k < j) : zff (fun _ => 0) j v k = v := if_pos h
set_option maxRecDepth 100000 in
theorem zS0_rt : ∀ p ∈ zTab, ∀ k : Nat, k < p.2.2.2.2 → zS0I L xs p.2.2.1 0 (p.2.2.2.1 + k) = zI (zx0 p.2.1 0) := by
  unfold zTab
  repeat (refine List.forall_mem_cons.mpr ⟨fun k hk => ?_, ?_⟩; (first | rfl | exact zff_in (by rw [Nat.zero_add]; exact hk)))
  exact fun p hp => absurd hp (by simp)
theorem zx0_gd : zGd zx0 := by
  have f : ∀ g k, g ≠ 6 → g ≠ 7 → g ≠ 8 → zx0 g k = 0 := fun g k a b c => by unfold zx0; rw [if_neg (by omega), if_neg b]
  have f6 : ∀ k, zx0 6 k = -1 := fun k => rfl
  have f8 : ∀ k, zx0 8 k = -1 := fun k => rfl
  have f7 : ∀ k, zx0 7 k = 1 := fun k => rfl
  have z : ∀ g k, g = 1 ∨ g = 2 ∨ g = 3 ∨ g = 4 ∨ g = 5 ∨ g = 9 ∨ g = 10 ∨ g = 11 ∨ g = 12 ∨ g = 13 ∨ g = 14 ∨ g = 15 ∨ g = 22 ∨ g = 50 → zx0 g k = 0 := fun g k hg => f g k (by omega) (by omega) (by omega)
  unfold zGd zGp zLn
  simp only [f6, f7, f8, z 1 _ (by omega), z 2 _ (by omega), z 3 _ (by omega), z 4 _ (by omega), z 5 _ (by omega), z 9 _ (by omega), z 10 _ (by omega), z 11 _ (by omega), z 12 _ (by omega), z 13 _ (by omega), z 14 _ (by omega), z 15 _ (by omega), z 22 _ (by omega), z 50 _ (by omega)]
  refine ⟨⟨?_, ?_, ?_, ?_, ?_, ?_, ?_, ?_, ?_, ?_, ?_, ?_, ?_, ?_, ?_, ?_, ?_, ?_⟩, ?_, ?_, ?_, ?_, ?_, ?_⟩ <;> (intros; first | omega | trivial | exact ⟨trivial, trivial⟩ | simp_all)
theorem zS0_R : zR (zS0 L xs o) zx0 zx0 (zS0 L xs o) := by
  have e11 : zx0 11 0 = 0 := rfl
  refine ⟨fun p hp k k0 k1 => ?_, fun j a b => ?_, fun r n a b c d => ?_, ⟨fun _ _ _ _ => rfl, fun _ _ _ _ => rfl, fun _ _ => rfl, rfl⟩, rfl, fun g k => ?_, fun g k => ?_⟩
  · have q := zS0_rt L xs p hp k.toNat (by omega)
    refine q.trans (congrArg zI ?_)
    cases p.1 <;> rfl
  · rw [e11] at b; omega
  · have e : zlineOf zx0 r n = -1 := by
      unfold zlineOf
      rw [e11]
      rfl
    rw [e]
    have q : zS0I L xs 21 0 (100 * r + n).toNat = zff (fun _ => 0) 1200 (-1) (100 * r + n).toNat := rfl
    exact q.trans (zff_in (by omega))
  · unfold zx0; split
    · omega
    · split <;> omega
  · unfold zx0; split
    · omega
    · split <;> omega
theorem zx0_gb : zGb zx0 := by
  have z : ∀ g k, 24 ≤ g → zx0 g k = 0 := fun g k hg => by unfold zx0; rw [if_neg (by omega), if_neg (by omega)]
  unfold zGb
  simp only [z 24 _ (by omega), z 29 _ (by omega), z 27 _ (by omega), z 28 _ (by omega), z 32 _ (by omega)]
  refine ⟨?_, ?_, ?_, ?_, ?_⟩ <;> (intros; omega)
end ST
