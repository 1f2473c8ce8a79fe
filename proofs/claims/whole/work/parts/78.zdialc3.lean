/-! DIAL of the class, whole -/
section CE
variable {K : ZS} {x y : ZW} {S : ZS}
theorem zC_stepFinal_s (h : zR K x y S) (g : zGp x) (n : Nat) {l a u : Int} (hl : zLn x l) (hc : x 15 l = 1) (h16 : x 16 l ≤ 1) (ha : 0 ≤ a ∧ a < 96) (h20 : 0 ≤ x 20 l ∧ x 20 l ≤ 400) (h9 : x 20 l = 2 → S.1 2 l.toNat 9 = zI u) (hu : 0 ≤ u ∧ u < 100) :
    zwp (zC_stepFinal (n + 2) l.toNat (zI a) S) (fun r => zR K (if x 20 l < 2 then xu x 16 l 1 else sFin x l (zlineOf x (a / 8) u)) y r) := by
  sorry
/-- the class's step -/
theorem zC_step_20_s (h : zR K x y S) (g : zGp x) (h40 : ∀ e, x 40 e = 0) (hb : ∀ j, x 22 j ≤ 120) (n : Nat) {l d : Int} (hl : zLn x l) (hc : x 15 l = 1) (h16 : x 16 l ≤ 1) (hd : 0 ≤ d ∧ d ≤ 9) (cs : zCs x l) (c20 : ¬ zEg x (sHead x l) → x 20 l = 0) :
    zwp (zC_step_20 (n + 3) l.toNat (zI d) S) (fun r => r.1 = zI ((sStep x l d) 16 l) ∧ zR K (sStep x l d) y r.2) := by
  sorry
end CE
