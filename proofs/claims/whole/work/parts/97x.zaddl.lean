/-! EXPLAIN, SURE: the class puts all of a set in order, and counts its switches -/
section AL
variable {K : ZS} {x y : ZW} {S : ZS}
/-- w is v, in order, as far as i -/
def zSrt (v w : Int → Int) (i : Int) : Prop := (∀ j, 0 ≤ j → j + 1 < i → w j < w (j + 1)) ∧ ∀ e, (∃ j, 0 ≤ j ∧ j < i ∧ w j = e) ↔ ∃ j, 0 ≤ j ∧ j < i ∧ v j = e
/-- what is left alone while a set is put in order, and its switches counted -/
def zAg (S0 S : ZS) : Prop := S.1 8 = S0.1 8 ∧ S.1 54 = S0.1 54 ∧ S.1 53 = S0.1 53 ∧ S.1 56 = S0.1 56
theorem zB_addSet_2_s (d : Nat) {had : Int} (hd : 0 ≤ had ∧ had ≤ 3) {v f : Int → Int} (hv : ∀ j, 0 ≤ j → j < had → 0 ≤ v j ∧ v j < 96) (inj : ∀ i j, 0 ≤ i → i < j → j < had → v i ≠ v j) (S0 : ZS) (h54 : ∀ j, 0 ≤ j → j < had → S0.1 54 0 j.toNat = zI (v j)) (Q : ZS → Prop)
    (hQ : ∀ S' w, zSrt v w had → zR K x y S' → zAg S0 S' → (∀ j, 0 ≤ j → j < had → S'.1 55 0 j.toNat = zI (w j)) → (∀ e, 0 ≤ e → e < 96 → S'.1 57 0 e.toNat = zI (f e + sI (∃ j, 0 ≤ j ∧ j < had ∧ v j = e) 1 0)) → zwp (zB_addSet_2 d (zI had) (zI had) S') Q) :
    ∀ (m : Nat) (i : Int) (w : Int → Int) (S : ZS), 0 ≤ i → i + m = had → zSrt v w i → zR K x y S → zAg S0 S → (∀ j, 0 ≤ j → j < i → S.1 55 0 j.toNat = zI (w j)) → (∀ e, 0 ≤ e → e < 96 → S.1 57 0 e.toNat = zI (f e + sI (∃ j, 0 ≤ j ∧ j < i ∧ v j = e) 1 0)) → zwp (zB_addSet_2 d (zI had) (zI i) S) Q := by
  intro m
  induction m with
  | zero =>
    intro i w S i0 e hs h g c1 c2
    have ei : i = had := by omega
    subst ei
    exact hQ S w hs h g c1 c2
  | succ m ih =>
    intro i w S i0 e hs h g c1 c2
    have hvi := hv i i0 (by omega)
    have e54 : S.1 54 0 i.toNat = zI (v i) := (congrFun (congrFun g.2.1 0) _).trans (h54 i i0 (by omega))
    have no : ¬ ∃ j, 0 ≤ j ∧ j < i ∧ v j = v i := by
      rintro ⟨j, j0, j1, j2⟩
      exact inj j i j0 j1 (by omega) j2
    have e57 := c2 (v i) hvi.1 hvi.2
    rw [sI_f no, Int.add_zero] at e57
    have hw : ∀ j, 0 ≤ j → j < i → 0 ≤ w j ∧ w j < 96 ∧ w j ≠ v i := by
      intro j j0 j1
      obtain ⟨k, k0, k1, k2⟩ := (hs.2 (w j)).1 ⟨j, j0, j1, rfl⟩
      have := hv k k0 (by omega)
      refine ⟨by omega, by omega, fun q => no ⟨k, k0, k1, by omega⟩⟩
    rw [eB_addSet_2, zI_le (by omega) (by omega) (by omega) (by omega), zif_neg (by omega), zg_t (by rw [zI_in (by omega) (by omega)]; omega), zI_zx (by omega) (by omega), e54, zg_t (by rw [zI_in (by omega) (by omega)]; omega), zg_t (by rw [zI_in (by omega) (by omega)]; omega), zI_zx (by omega) (by omega), e57, zI_n1, zI_add]
    have c2' : ∀ e', 0 ≤ e' → e' < 96 → (zu S.1 57 0 (v i).toNat (zI (f (v i) + 1))) 57 0 e'.toNat = zI (f e' + sI (∃ j, 0 ≤ j ∧ j < i + 1 ∧ v j = e') 1 0) := by
      intro e' a b
      by_cases he : e' = v i
      · rw [he, sI_t ⟨i, i0, by omega, rfl⟩]
        exact zu_same S.1 57 0 (v i).toNat (zI (f (v i) + 1))
      · refine (zu_pl S.1 (show e'.toNat ≠ (v i).toNat by omega)).trans ((c2 e' a b).trans (congrArg (fun u => zI (f e' + u)) (sI_c ?_ 1 0)))
        constructor
        · rintro ⟨j, j0, j1, j2⟩; exact ⟨j, j0, by omega, j2⟩
        · rintro ⟨j, j0, j1, j2⟩
          by_cases hj : j = i
          · rw [hj] at j2; exact absurd j2.symm he
          · exact ⟨j, j0, by omega, j2⟩
    have w1 : zR K x y (zu S.1 57 0 (v i).toNat (zI (f (v i) + 1)), S.2) := zR_t h (t := 57) (by decide) 0 _ _
    have key := zB_addSet_24_s (K := K) (x := x) (y := y) d (had := had) (i := i) (u := v i) (by omega) hvi hw (zu S.1 57 0 (v i).toNat (zI (f (v i) + 1)), S.2) e54 Q (fun S' to t0 t1 t2 t3 h' f' c55 => ?_) i.toNat _ (by omega) w1 ⟨rfl, rfl, rfl, rfl, rfl⟩ (fun j j0 j1 => c1 j j0 (by omega)) (fun j j0 j1 => by omega) (fun j j0 j1 => by omega)
    · rw [show ((i.toNat : Nat) : Int) = i by omega] at key
      exact key
    · refine ih (i + 1) (zAi w (v i) to) S' (by omega) (by omega) ⟨zAi_m t0 t1 hs.1 t2 t3, fun e' => ?_⟩ h' ⟨f'.1.trans g.1, f'.2.2.1.trans g.2.1, f'.2.2.2.1.trans g.2.2.1, f'.2.2.2.2.trans g.2.2.2⟩ (fun j j0 j1 => c55 j j0 (by omega)) (fun e' a b => ?_)
      · refine (zAi_e t0 t1).trans ⟨fun q => ?_, fun q => ?_⟩
        · rcases q with q | q
          · obtain ⟨j, j0, j1, j2⟩ := (hs.2 e').1 q
            exact ⟨j, j0, by omega, j2⟩
          · exact ⟨i, i0, by omega, q⟩
        · obtain ⟨j, j0, j1, j2⟩ := q
          by_cases hj : j = i
          · rw [hj] at j2; exact Or.inr j2
          · exact Or.inl ((hs.2 e').2 ⟨j, j0, by omega, j2⟩)
      · exact (congrFun (congrFun f'.2.1 0) _).trans (c2' e' a b)
end AL
