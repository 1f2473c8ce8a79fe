/-! EXPLAIN, SURE: the class's addSet, whole -/
section AW
variable {K : ZS} {x y : ZW} {S : ZS}
theorem zB_addSet_s (h : zR K x y S) (d : Nat) {had c : Int} (hd : 0 ≤ had ∧ had ≤ 3) (hc : 0 ≤ c ∧ c < 1000000) {v f u : Int → Int} (hv : ∀ j, 0 ≤ j → j < had → 0 ≤ v j ∧ v j < 96 ∧ S.1 54 0 j.toNat = zI (v j)) (inj : ∀ i j, 0 ≤ i → i < j → j < had → v i ≠ v j)
    (h8 : S.1 8 0 9 = zI c) (h57 : ∀ e, 0 ≤ e → e < 96 → S.1 57 0 e.toNat = zI (f e)) (h56 : c ≠ 0 → ∀ j, 0 ≤ j → j < had → 0 ≤ u j ∧ u j < 96 ∧ S.1 56 0 j.toNat = zI (u j)) :
    zwp (zB_addSet (d + 3) (zI had) S) (fun S' => ∃ w, zSrt v w had ∧ zR K x y S' ∧ S'.1 8 0 9 = zI (c + 1) ∧ (∀ e, 0 ≤ e → e < 96 → S'.1 57 0 e.toNat = zI (f e + sI (∃ j, 0 ≤ j ∧ j < had ∧ v j = e) 1 0)) ∧ S'.1 54 = S.1 54 ∧ S'.1 53 = S.1 53 ∧
      ((c = 0 ∨ zLx w u had) → ∀ j, 0 ≤ j → j < had → S'.1 56 0 j.toNat = zI (w j)) ∧ (¬ (c = 0 ∨ zLx w u had) → ∀ j, 0 ≤ j → j < had → S'.1 56 0 j.toNat = zI (u j))) := by
  rw [eB_addSet, zI_n0]
  refine zB_addSet_2_s (K := K) (x := x) (y := y) (f := f) (v := v) (d + 2) hd (fun j a b => ⟨(hv j a b).1, (hv j a b).2.1⟩) inj S (fun j a b => (hv j a b).2.2) _ (fun S' w hs h' g c55 c57 => ?_) had.toNat 0 (fun _ => 0) S (by omega) (by omega) ⟨fun j a b => by omega, fun e => ⟨fun q => ?_, fun q => ?_⟩⟩ h ⟨rfl, rfl, rfl, rfl⟩ (fun j a b => by omega) (fun e a b => ?_)
  · have e8 : S'.1 8 0 9 = zI c := (congrFun (congrFun g.1 0) 9).trans h8
    have hw : ∀ j, 0 ≤ j → j < had → 0 ≤ w j ∧ w j < 96 ∧ S'.1 55 0 j.toNat = zI (w j) := by
      intro j a b
      obtain ⟨k, k0, k1, k2⟩ := (hs.2 (w j)).1 ⟨j, a, b, rfl⟩
      have := hv k k0 k1
      exact ⟨by omega, by omega, c55 j a b⟩
    have keep : (c = 0 ∨ zLx w u had) → zwp (zB_addSet_98 (d + 2) (zI had) S') (fun S' => ∃ w, zSrt v w had ∧ zR K x y S' ∧ S'.1 8 0 9 = zI (c + 1) ∧ (∀ e, 0 ≤ e → e < 96 → S'.1 57 0 e.toNat = zI (f e + sI (∃ j, 0 ≤ j ∧ j < had ∧ v j = e) 1 0)) ∧ S'.1 54 = S.1 54 ∧ S'.1 53 = S.1 53 ∧
        ((c = 0 ∨ zLx w u had) → ∀ j, 0 ≤ j → j < had → S'.1 56 0 j.toNat = zI (w j)) ∧ (¬ (c = 0 ∨ zLx w u had) → ∀ j, 0 ≤ j → j < had → S'.1 56 0 j.toNat = zI (u j))) := by
      intro hx
      refine zwp_mono (zB_addSet_98_s h' (d + 1) hd c55) (fun S2 k => ?_)
      obtain ⟨k1, k2, k3, k4, k5, k6⟩ := k
      refine ⟨w, hs, k1, ?_, fun e a b => ?_, k4.trans g.2.1, k5.trans g.2.2.1, fun _ => k6, fun q => absurd hx q⟩
      · rw [k2, e8, zI_n1, zI_add]
      · rw [k3]
        exact c57 e a b
    rw [eB_addSet_2, zI_le (by omega) (by omega) (by omega) (by omega), zif_pos (by omega), e8, zI_n0, zI_eq (by omega) (by omega) (by omega) (by omega)]
    by_cases z : c = 0
    · rw [zif_pos z]
      exact keep (Or.inl z)
    · have hu : ∀ j, 0 ≤ j → j < had → 0 ≤ u j ∧ u j < 96 ∧ S'.1 56 0 j.toNat = zI (u j) := fun j a b => ⟨(h56 z j a b).1, (h56 z j a b).2.1, (congrFun (congrFun g.2.2.2 0) _).trans (h56 z j a b).2.2⟩
      rw [zif_neg z, zB_comesFirst_s (d + 1) hd hw hu, zBs]
      dsimp only
      rw [show zI 0 = (0 : Int32) from rfl, zb_0]
      by_cases q : zLx w u had
      · rw [zif_neg (fun p => p q)]
        exact keep (Or.inr q)
      · rw [zif_pos q, e8, zI_n1, zI_add, zwp_some]
        refine ⟨w, hs, zR_s h' (t := 8) (s := 9) (by decide) 0 _, zu_same S'.1 8 0 9 (zI (c + 1)), c57, g.2.1, g.2.2.1, fun p => absurd p (fun r => r.elim z q), fun _ j a b => (hu j a b).2.2⟩
  · obtain ⟨j, a, b, -⟩ := q
    omega
  · obtain ⟨j, a, b, -⟩ := q
    omega
  · rw [h57 e a b, sI_f, Int.add_zero]
    rintro ⟨j, p, q, -⟩
    omega
end AW
