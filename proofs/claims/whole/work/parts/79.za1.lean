/-! seconds, rack, zone, out, faulty, forget, held of both sides -/
def sSeconds (x : ZW) (n : Int) : Int × ZW := if 0 ≤ n ∧ n ≤ 100000 ∧ x 1 0 + n ≤ 999999 then (x 1 0 + n, xu x 1 0 (x 1 0 + n)) else (-1, x)
def sRack (x : ZW) (a b c : Int) : Int × ZW := if 0 ≤ a ∧ a ≤ 1 ∧ 1 ≤ b ∧ b ≤ 8 ∧ 1 ≤ c ∧ c ≤ 2 - a ∧ x 2 0 < 12 then (x 2 0, xu (xu (xu (xu x 3 (x 2 0) a) 4 (x 2 0) b) 5 (x 2 0) c) 2 0 (x 2 0 + 1)) else (-1, x)
def sZone (x : ZW) (a b : Int) : Int × ZW := if 0 ≤ a ∧ a ≤ 15 ∧ 1 ≤ b ∧ b ≤ 9 then (1, xu x 7 a b) else (0, x)
def sOut (x : ZW) (a b : Int) : Int × ZW := if zSw x a then (1, xu x 9 a b) else (0, x)
def sFaulty (x : ZW) (a b : Int) : Int × ZW := if zSw x a then (1, xu x 10 a b) else (0, x)
def sForget (x : ZW) : Int × ZW := (x 35 0, xu x 35 0 0)
def sHeld (x : ZW) (a : Int) : Int × ZW := (if zEn x a then x 8 a else -1, x)
theorem zgb_1 {α : Type} (k : Option α) : zgb (zI 1) k = k := rfl
theorem zgb_0 {α : Type} (k : Option α) : zgb (zI 0) k = k := rfl
section A1
variable {K : ZS} {x y : ZW} {S : ZS}
theorem zX_seconds_s (h : zR K x y S) (g : zGp x) (d : Nat) {a : Int} (h1 : -2147483648 ≤ a) (h2 : a < 2147483648) : zwp (zX_seconds (d + 1) (zI a) S) (fun r => r.1 = zI (sSeconds x a).1 ∧ zR K (sSeconds x a).2 y r.2) := by
  have b1 := zG1 g
  rw [eX_seconds, sSeconds]
  by_cases hc : 0 ≤ a ∧ a ≤ 100000 ∧ x 1 0 + a ≤ 999999
  · have w := zWc1 h (v := x 1 0 + a) (by omega) (by omega)
    rw [if_pos hc]
    simp (contextual := true) (disch := omega) only [zWp, zNum, Int.cast_ofNat_Int, Prod.mk.injEq, and_true, true_and, implies_true, and_self, true_implies, false_implies, not_true_eq_false, not_false_eq_true, and_false, false_and, Int.reduceEq, Int.reduceLT, Int.reduceLE, Int.reduceNeg, Int.reduceAdd, Int.reduceSub, Int.reduceMul, Int.reduceToNat, Nat.reduceEqDiff, cond_true, cond_false, zRc1 h, zu_same, w] <;> ((repeat' (first | intro _ | with_reducible apply And.intro)) <;> (first | omega | (exfalso; omega)))
  · rw [if_neg hc]
    simp (contextual := true) (disch := omega) only [zWp, zNum, Int.cast_ofNat_Int, Prod.mk.injEq, and_true, true_and, implies_true, and_self, true_implies, false_implies, not_true_eq_false, not_false_eq_true, and_false, false_and, Int.reduceEq, Int.reduceLT, Int.reduceLE, Int.reduceNeg, Int.reduceAdd, Int.reduceSub, Int.reduceMul, Int.reduceToNat, Nat.reduceEqDiff, cond_true, cond_false, zRc1 h, zu_same, h] <;> ((repeat' (first | intro _ | with_reducible apply And.intro)) <;> (first | omega | (exfalso; omega)))
theorem zM_seconds_s (h : zR K x y S) (g : zGp y) (d : Nat) {a : Int} (h1 : -2147483648 ≤ a) (h2 : a < 2147483648) : zwp (zM_seconds (d + 2) (zI a) S) (fun r => r.1 = zI (sSeconds y a).1 ∧ zR K x (sSeconds y a).2 r.2) := by
  have b1 := zG1 g
  rw [eM_seconds, sSeconds]
  have h0 := zR_s h (t := 11) (s := 0) rfl 0 (0 : Int32)
  generalize hS : ((zu S.1 11 0 0 (0 : Int32)), S.2) = S' at h0 ⊢
  have hS1 : zu S.1 11 0 0 (0 : Int32) = S'.1 := by rw [← hS]
  have hS2 : S.2 = S'.2 := by rw [← hS]
  try simp only [hS1, hS2]
  by_cases hc : 0 ≤ a ∧ a ≤ 100000 ∧ y 1 0 + a ≤ 999999
  · have w := zWm1 h0 (v := y 1 0 + a) (by omega) (by omega)
    rw [if_pos hc]
    simp (contextual := true) (disch := omega) only [zWp, zNum, Int.cast_ofNat_Int, Prod.mk.injEq, and_true, true_and, implies_true, and_self, true_implies, false_implies, not_true_eq_false, not_false_eq_true, and_false, false_and, Int.reduceEq, Int.reduceLT, Int.reduceLE, Int.reduceNeg, Int.reduceAdd, Int.reduceSub, Int.reduceMul, Int.reduceToNat, Nat.reduceEqDiff, cond_true, cond_false, zRm1 h0, zu_same, w, zM_within_s S'] <;> ((repeat' (first | intro _ | with_reducible apply And.intro)) <;> (first | omega | (exfalso; omega)))
  · rw [if_neg hc]
    simp (contextual := true) (disch := omega) only [zWp, zNum, Int.cast_ofNat_Int, Prod.mk.injEq, and_true, true_and, implies_true, and_self, true_implies, false_implies, not_true_eq_false, not_false_eq_true, and_false, false_and, Int.reduceEq, Int.reduceLT, Int.reduceLE, Int.reduceNeg, Int.reduceAdd, Int.reduceSub, Int.reduceMul, Int.reduceToNat, Nat.reduceEqDiff, cond_true, cond_false, zRm1 h0, zu_same, h0, zM_within_s S'] <;> ((repeat' (first | intro _ | with_reducible apply And.intro)) <;> (first | omega | (exfalso; omega)))
theorem zX_rack_s (h : zR K x y S) (g : zGp x) (d : Nat) {a b c : Int} (h1 : -2147483648 ≤ a) (h2 : a < 2147483648) (h3 : -2147483648 ≤ b) (h4 : b < 2147483648) (h5 : -2147483648 ≤ c) (h6 : c < 2147483648) : zwp (zX_rack (d + 2) (zI a) (zI b) (zI c) S) (fun r => r.1 = zI (sRack x a b c).1 ∧ zR K (sRack x a b c).2 y r.2) := by
  have b2 := zG2 g
  rw [eX_rack, sRack]
  by_cases hc : 0 ≤ a ∧ a ≤ 1 ∧ 1 ≤ b ∧ b ≤ 8 ∧ 1 ≤ c ∧ c ≤ 2 - a ∧ x 2 0 < 12
  · have w := zWc3 h (k := x 2 0) (v := a) (by omega) (by omega) (by omega) (by omega)
    have w := zWc4 w (k := x 2 0) (v := b) (by omega) (by omega) (by omega) (by omega)
    have w := zWc5 w (k := x 2 0) (v := c) (by omega) (by omega) (by omega) (by omega)
    have w := zWc2 w (v := x 2 0 + 1) (by omega) (by omega)
    have e : x 2 0 + 1 - 1 = x 2 0 := by omega
    rw [if_pos hc]
    rcases (show a = 0 ∨ a = 1 by omega) with e0 | e0
    · subst e0
      simp (contextual := true) (disch := omega) only [zWp, zNum, Int.cast_ofNat_Int, Prod.mk.injEq, and_true, true_and, implies_true, and_self, true_implies, false_implies, not_true_eq_false, not_false_eq_true, and_false, false_and, Int.reduceEq, Int.reduceLT, Int.reduceLE, Int.reduceNeg, Int.reduceAdd, Int.reduceSub, Int.reduceMul, Int.reduceToNat, Nat.reduceEqDiff, cond_true, cond_false, eP_addRack, eP_addRack_18, zRc2 h, zu_tag, zu_pl, zu_same, w, e] <;> ((repeat' (first | intro _ | with_reducible apply And.intro)) <;> (first | omega | (exfalso; omega)))
    · subst e0
      simp (contextual := true) (disch := omega) only [zWp, zNum, Int.cast_ofNat_Int, Prod.mk.injEq, and_true, true_and, implies_true, and_self, true_implies, false_implies, not_true_eq_false, not_false_eq_true, and_false, false_and, Int.reduceEq, Int.reduceLT, Int.reduceLE, Int.reduceNeg, Int.reduceAdd, Int.reduceSub, Int.reduceMul, Int.reduceToNat, Nat.reduceEqDiff, cond_true, cond_false, eP_addRack, eP_addRack_18, zRc2 h, zu_tag, zu_pl, zu_same, w, e] <;> ((repeat' (first | intro _ | with_reducible apply And.intro)) <;> (first | omega | (exfalso; omega)))
  · rw [if_neg hc]
    simp (contextual := true) (disch := omega) only [zWp, zNum, Int.cast_ofNat_Int, Prod.mk.injEq, and_true, true_and, implies_true, and_self, true_implies, false_implies, not_true_eq_false, not_false_eq_true, and_false, false_and, Int.reduceEq, Int.reduceLT, Int.reduceLE, Int.reduceNeg, Int.reduceAdd, Int.reduceSub, Int.reduceMul, Int.reduceToNat, Nat.reduceEqDiff, cond_true, cond_false, eP_addRack, eP_addRack_18, zRc2 h, zu_tag, zu_pl, zu_same, h] <;> ((repeat' (first | intro _ | with_reducible apply And.intro)) <;> (first | omega | (exfalso; omega)))
theorem zM_rack_s (h : zR K x y S) (g : zGp y) (d : Nat) {a b c : Int} (h1 : -2147483648 ≤ a) (h2 : a < 2147483648) (h3 : -2147483648 ≤ b) (h4 : b < 2147483648) (h5 : -2147483648 ≤ c) (h6 : c < 2147483648) : zwp (zM_rack (d + 2) (zI a) (zI b) (zI c) S) (fun r => r.1 = zI (sRack y a b c).1 ∧ zR K x (sRack y a b c).2 r.2) := by
  have b2 := zG2 g
  rw [eM_rack, sRack]
  have h0 := zR_s h (t := 11) (s := 0) rfl 0 (0 : Int32)
  generalize hS : ((zu S.1 11 0 0 (0 : Int32)), S.2) = S' at h0 ⊢
  have hS1 : zu S.1 11 0 0 (0 : Int32) = S'.1 := by rw [← hS]
  have hS2 : S.2 = S'.2 := by rw [← hS]
  try simp only [hS1, hS2]
  by_cases hc : 0 ≤ a ∧ a ≤ 1 ∧ 1 ≤ b ∧ b ≤ 8 ∧ 1 ≤ c ∧ c ≤ 2 - a ∧ y 2 0 < 12
  · have w := zWm3 h0 (k := y 2 0) (v := a) (by omega) (by omega) (by omega) (by omega)
    have w := zWm4 w (k := y 2 0) (v := b) (by omega) (by omega) (by omega) (by omega)
    have w := zWm5 w (k := y 2 0) (v := c) (by omega) (by omega) (by omega) (by omega)
    have w := zWm2 w (v := y 2 0 + 1) (by omega) (by omega)
    have e : y 2 0 + 1 - 1 = y 2 0 := by omega
    rw [if_pos hc]
    rcases (show a = 0 ∨ a = 1 by omega) with e0 | e0
    · subst e0
      simp (contextual := true) (disch := omega) only [zWp, zNum, Int.cast_ofNat_Int, Prod.mk.injEq, and_true, true_and, implies_true, and_self, true_implies, false_implies, not_true_eq_false, not_false_eq_true, and_false, false_and, Int.reduceEq, Int.reduceLT, Int.reduceLE, Int.reduceNeg, Int.reduceAdd, Int.reduceSub, Int.reduceMul, Int.reduceToNat, Nat.reduceEqDiff, cond_true, cond_false, eM_rack_35, zM_within_s S', zRm2 h0, zu_tag, zu_pl, zu_same, w, e] <;> ((repeat' (first | intro _ | with_reducible apply And.intro)) <;> (first | omega | (exfalso; omega)))
    · subst e0
      simp (contextual := true) (disch := omega) only [zWp, zNum, Int.cast_ofNat_Int, Prod.mk.injEq, and_true, true_and, implies_true, and_self, true_implies, false_implies, not_true_eq_false, not_false_eq_true, and_false, false_and, Int.reduceEq, Int.reduceLT, Int.reduceLE, Int.reduceNeg, Int.reduceAdd, Int.reduceSub, Int.reduceMul, Int.reduceToNat, Nat.reduceEqDiff, cond_true, cond_false, eM_rack_35, zM_within_s S', zRm2 h0, zu_tag, zu_pl, zu_same, w, e] <;> ((repeat' (first | intro _ | with_reducible apply And.intro)) <;> (first | omega | (exfalso; omega)))
  · rw [if_neg hc]
    simp (contextual := true) (disch := omega) only [zWp, zNum, Int.cast_ofNat_Int, Prod.mk.injEq, and_true, true_and, implies_true, and_self, true_implies, false_implies, not_true_eq_false, not_false_eq_true, and_false, false_and, Int.reduceEq, Int.reduceLT, Int.reduceLE, Int.reduceNeg, Int.reduceAdd, Int.reduceSub, Int.reduceMul, Int.reduceToNat, Nat.reduceEqDiff, cond_true, cond_false, eM_rack_35, zM_within_s S', zRm2 h0, zu_tag, zu_pl, zu_same, h0] <;> ((repeat' (first | intro _ | with_reducible apply And.intro)) <;> (first | omega | (exfalso; omega)))
theorem zX_zone_s (h : zR K x y S) (d : Nat) {a b : Int} (h1 : -2147483648 ≤ a) (h2 : a < 2147483648) (h3 : -2147483648 ≤ b) (h4 : b < 2147483648) : zwp (zX_zone (d + 2) (zI a) (zI b) S) (fun r => r.1 = zI (sZone x a b).1 ∧ zR K (sZone x a b).2 y r.2) := by
  rw [eX_zone, sZone]
  by_cases hc : 0 ≤ a ∧ a ≤ 15 ∧ 1 ≤ b ∧ b ≤ 9
  · have w := zWc7 h (k := a) (v := b) (by omega) (by omega) (by omega) (by omega)
    rw [if_pos hc]
    simp (contextual := true) (disch := omega) only [zWp, zNum, Int.cast_ofNat_Int, Prod.mk.injEq, and_true, true_and, implies_true, and_self, true_implies, false_implies, not_true_eq_false, not_false_eq_true, and_false, false_and, Int.reduceEq, Int.reduceLT, Int.reduceLE, Int.reduceNeg, Int.reduceAdd, Int.reduceSub, Int.reduceMul, Int.reduceToNat, Nat.reduceEqDiff, cond_true, cond_false, eP_tellZone, zgb_1, w] <;> ((repeat' (first | intro _ | with_reducible apply And.intro)) <;> (first | omega | (exfalso; omega)))
  · rw [if_neg hc]
    simp (contextual := true) (disch := omega) only [zWp, zNum, Int.cast_ofNat_Int, Prod.mk.injEq, and_true, true_and, implies_true, and_self, true_implies, false_implies, not_true_eq_false, not_false_eq_true, and_false, false_and, Int.reduceEq, Int.reduceLT, Int.reduceLE, Int.reduceNeg, Int.reduceAdd, Int.reduceSub, Int.reduceMul, Int.reduceToNat, Nat.reduceEqDiff, cond_true, cond_false, eP_tellZone, zgb_1, zgb_0, h] <;> ((repeat' (first | intro _ | with_reducible apply And.intro)) <;> (first | omega | (exfalso; omega)))
theorem zM_zone_s (h : zR K x y S) (d : Nat) {a b : Int} (h1 : -2147483648 ≤ a) (h2 : a < 2147483648) (h3 : -2147483648 ≤ b) (h4 : b < 2147483648) : zwp (zM_zone (d + 2) (zI a) (zI b) S) (fun r => r.1 = zI (sZone y a b).1 ∧ zR K x (sZone y a b).2 r.2) := by
  rw [eM_zone, sZone]
  have h0 := zR_s h (t := 11) (s := 0) rfl 0 (0 : Int32)
  generalize hS : ((zu S.1 11 0 0 (0 : Int32)), S.2) = S' at h0 ⊢
  have hS1 : zu S.1 11 0 0 (0 : Int32) = S'.1 := by rw [← hS]
  have hS2 : S.2 = S'.2 := by rw [← hS]
  try simp only [hS1, hS2]
  by_cases hc : 0 ≤ a ∧ a ≤ 15 ∧ 1 ≤ b ∧ b ≤ 9
  · have w := zWm7 h0 (k := a) (v := b) (by omega) (by omega) (by omega) (by omega)
    rw [if_pos hc]
    simp (contextual := true) (disch := omega) only [zWp, zNum, Int.cast_ofNat_Int, Prod.mk.injEq, and_true, true_and, implies_true, and_self, true_implies, false_implies, not_true_eq_false, not_false_eq_true, and_false, false_and, Int.reduceEq, Int.reduceLT, Int.reduceLE, Int.reduceNeg, Int.reduceAdd, Int.reduceSub, Int.reduceMul, Int.reduceToNat, Nat.reduceEqDiff, cond_true, cond_false, zM_within_s S', w] <;> ((repeat' (first | intro _ | with_reducible apply And.intro)) <;> (first | omega | (exfalso; omega)))
  · rw [if_neg hc]
    simp (contextual := true) (disch := omega) only [zWp, zNum, Int.cast_ofNat_Int, Prod.mk.injEq, and_true, true_and, implies_true, and_self, true_implies, false_implies, not_true_eq_false, not_false_eq_true, and_false, false_and, Int.reduceEq, Int.reduceLT, Int.reduceLE, Int.reduceNeg, Int.reduceAdd, Int.reduceSub, Int.reduceMul, Int.reduceToNat, Nat.reduceEqDiff, cond_true, cond_false, zM_within_s S', h0] <;> ((repeat' (first | intro _ | with_reducible apply And.intro)) <;> (first | omega | (exfalso; omega)))
theorem zX_out_s (h : zR K x y S) (g : zGp x) (d : Nat) {a b : Int} (h1 : -2147483648 ≤ a) (h2 : a < 2147483648) (hb : b = 0 ∨ b = 1) : zwp (zX_out (d + 2) (zI a) (zI b) S) (fun r => r.1 = zI (sOut x a b).1 ∧ zR K (sOut x a b).2 y r.2) := by
  have b2 := zG2 g
  have hbl := zI_bl hb
  rw [eX_out, sOut]
  by_cases hc : zSw x a
  · have w := zWc9 h (k := a) (v := b) (by omega) (by omega) (by omega) (by omega)
    rw [if_pos hc]
    simp (contextual := true) (disch := omega) only [zWp, zNum, Int.cast_ofNat_Int, Prod.mk.injEq, and_true, true_and, implies_true, and_self, true_implies, false_implies, not_true_eq_false, not_false_eq_true, and_false, false_and, Int.reduceEq, Int.reduceLT, Int.reduceLE, Int.reduceNeg, Int.reduceAdd, Int.reduceSub, Int.reduceMul, Int.reduceToNat, Nat.reduceEqDiff, cond_true, cond_false, zP_isSwitch_s h g, w, hbl] <;> ((repeat' (first | intro _ | with_reducible apply And.intro)) <;> (first | omega | (exfalso; omega)))
  · rw [if_neg hc]
    simp (contextual := true) (disch := omega) only [zWp, zNum, Int.cast_ofNat_Int, Prod.mk.injEq, and_true, true_and, implies_true, and_self, true_implies, false_implies, not_true_eq_false, not_false_eq_true, and_false, false_and, Int.reduceEq, Int.reduceLT, Int.reduceLE, Int.reduceNeg, Int.reduceAdd, Int.reduceSub, Int.reduceMul, Int.reduceToNat, Nat.reduceEqDiff, cond_true, cond_false, zP_isSwitch_s h g, h] <;> ((repeat' (first | intro _ | with_reducible apply And.intro)) <;> (first | omega | (exfalso; omega)))
theorem zM_out_s (h : zR K x y S) (g : zGp y) (d : Nat) {a b : Int} (h1 : -2147483648 ≤ a) (h2 : a < 2147483648) (hb : b = 0 ∨ b = 1) : zwp (zM_out (d + 2) (zI a) (zI b) S) (fun r => r.1 = zI (sOut y a b).1 ∧ zR K x (sOut y a b).2 r.2) := by
  have b2 := zG2 g
  have hbl := zI_bl hb
  rw [eM_out, sOut]
  have h0 := zR_s h (t := 11) (s := 0) rfl 0 (0 : Int32)
  generalize hS : ((zu S.1 11 0 0 (0 : Int32)), S.2) = S' at h0 ⊢
  have hS1 : zu S.1 11 0 0 (0 : Int32) = S'.1 := by rw [← hS]
  have hS2 : S.2 = S'.2 := by rw [← hS]
  try simp only [hS1, hS2]
  by_cases hc : zSw y a
  · have w := zWm9 h0 (k := a) (v := b) (by omega) (by omega) (by omega) (by omega)
    rw [if_pos hc]
    simp (contextual := true) (disch := omega) only [zWp, zNum, Int.cast_ofNat_Int, Prod.mk.injEq, and_true, true_and, implies_true, and_self, true_implies, false_implies, not_true_eq_false, not_false_eq_true, and_false, false_and, Int.reduceEq, Int.reduceLT, Int.reduceLE, Int.reduceNeg, Int.reduceAdd, Int.reduceSub, Int.reduceMul, Int.reduceToNat, Nat.reduceEqDiff, cond_true, cond_false, zM_isSwitch_s h0 g, w, hbl] <;> ((repeat' (first | intro _ | with_reducible apply And.intro)) <;> (first | omega | (exfalso; omega)))
  · rw [if_neg hc]
    simp (contextual := true) (disch := omega) only [zWp, zNum, Int.cast_ofNat_Int, Prod.mk.injEq, and_true, true_and, implies_true, and_self, true_implies, false_implies, not_true_eq_false, not_false_eq_true, and_false, false_and, Int.reduceEq, Int.reduceLT, Int.reduceLE, Int.reduceNeg, Int.reduceAdd, Int.reduceSub, Int.reduceMul, Int.reduceToNat, Nat.reduceEqDiff, cond_true, cond_false, zM_isSwitch_s h0 g, h0] <;> ((repeat' (first | intro _ | with_reducible apply And.intro)) <;> (first | omega | (exfalso; omega)))
theorem zX_faulty_s (h : zR K x y S) (g : zGp x) (d : Nat) {a b : Int} (h1 : -2147483648 ≤ a) (h2 : a < 2147483648) (hb : b = 0 ∨ b = 1) : zwp (zX_faulty (d + 2) (zI a) (zI b) S) (fun r => r.1 = zI (sFaulty x a b).1 ∧ zR K (sFaulty x a b).2 y r.2) := by
  have b2 := zG2 g
  have hbl := zI_bl hb
  rw [eX_faulty, sFaulty]
  by_cases hc : zSw x a
  · have w := zWc10 h (k := a) (v := b) (by omega) (by omega) (by omega) (by omega)
    rw [if_pos hc]
    simp (contextual := true) (disch := omega) only [zWp, zNum, Int.cast_ofNat_Int, Prod.mk.injEq, and_true, true_and, implies_true, and_self, true_implies, false_implies, not_true_eq_false, not_false_eq_true, and_false, false_and, Int.reduceEq, Int.reduceLT, Int.reduceLE, Int.reduceNeg, Int.reduceAdd, Int.reduceSub, Int.reduceMul, Int.reduceToNat, Nat.reduceEqDiff, cond_true, cond_false, zP_isSwitch_s h g, w, hbl] <;> ((repeat' (first | intro _ | with_reducible apply And.intro)) <;> (first | omega | (exfalso; omega)))
  · rw [if_neg hc]
    simp (contextual := true) (disch := omega) only [zWp, zNum, Int.cast_ofNat_Int, Prod.mk.injEq, and_true, true_and, implies_true, and_self, true_implies, false_implies, not_true_eq_false, not_false_eq_true, and_false, false_and, Int.reduceEq, Int.reduceLT, Int.reduceLE, Int.reduceNeg, Int.reduceAdd, Int.reduceSub, Int.reduceMul, Int.reduceToNat, Nat.reduceEqDiff, cond_true, cond_false, zP_isSwitch_s h g, h] <;> ((repeat' (first | intro _ | with_reducible apply And.intro)) <;> (first | omega | (exfalso; omega)))
theorem zM_faulty_s (h : zR K x y S) (g : zGp y) (d : Nat) {a b : Int} (h1 : -2147483648 ≤ a) (h2 : a < 2147483648) (hb : b = 0 ∨ b = 1) : zwp (zM_faulty (d + 2) (zI a) (zI b) S) (fun r => r.1 = zI (sFaulty y a b).1 ∧ zR K x (sFaulty y a b).2 r.2) := by
  have b2 := zG2 g
  have hbl := zI_bl hb
  rw [eM_faulty, sFaulty]
  have h0 := zR_s h (t := 11) (s := 0) rfl 0 (0 : Int32)
  generalize hS : ((zu S.1 11 0 0 (0 : Int32)), S.2) = S' at h0 ⊢
  have hS1 : zu S.1 11 0 0 (0 : Int32) = S'.1 := by rw [← hS]
  have hS2 : S.2 = S'.2 := by rw [← hS]
  try simp only [hS1, hS2]
  by_cases hc : zSw y a
  · have w := zWm10 h0 (k := a) (v := b) (by omega) (by omega) (by omega) (by omega)
    rw [if_pos hc]
    simp (contextual := true) (disch := omega) only [zWp, zNum, Int.cast_ofNat_Int, Prod.mk.injEq, and_true, true_and, implies_true, and_self, true_implies, false_implies, not_true_eq_false, not_false_eq_true, and_false, false_and, Int.reduceEq, Int.reduceLT, Int.reduceLE, Int.reduceNeg, Int.reduceAdd, Int.reduceSub, Int.reduceMul, Int.reduceToNat, Nat.reduceEqDiff, cond_true, cond_false, zM_isSwitch_s h0 g, w, hbl] <;> ((repeat' (first | intro _ | with_reducible apply And.intro)) <;> (first | omega | (exfalso; omega)))
  · rw [if_neg hc]
    simp (contextual := true) (disch := omega) only [zWp, zNum, Int.cast_ofNat_Int, Prod.mk.injEq, and_true, true_and, implies_true, and_self, true_implies, false_implies, not_true_eq_false, not_false_eq_true, and_false, false_and, Int.reduceEq, Int.reduceLT, Int.reduceLE, Int.reduceNeg, Int.reduceAdd, Int.reduceSub, Int.reduceMul, Int.reduceToNat, Nat.reduceEqDiff, cond_true, cond_false, zM_isSwitch_s h0 g, h0] <;> ((repeat' (first | intro _ | with_reducible apply And.intro)) <;> (first | omega | (exfalso; omega)))
theorem zX_forget_s (h : zR K x y S) (d : Nat) : zwp (zX_forget (d + 1) S) (fun r => r.1 = zI (sForget x).1 ∧ zR K (sForget x).2 y r.2) := by
  have w := zWc35 h (v := 0) (by omega) (by omega)
  rw [eX_forget, sForget]
  simp (contextual := true) (disch := omega) only [zWp, zNum, Int.cast_ofNat_Int, Prod.mk.injEq, and_true, true_and, implies_true, and_self, true_implies, false_implies, not_true_eq_false, not_false_eq_true, and_false, false_and, Int.reduceEq, Int.reduceLT, Int.reduceLE, Int.reduceNeg, Int.reduceAdd, Int.reduceSub, Int.reduceMul, Int.reduceToNat, Nat.reduceEqDiff, cond_true, cond_false, zRc35 h, w] <;> ((repeat' (first | intro _ | with_reducible apply And.intro)) <;> (first | omega | (exfalso; omega)))
theorem zM_forget_s (h : zR K x y S) (d : Nat) : zwp (zM_forget (d + 1) S) (fun r => r.1 = zI (sForget y).1 ∧ zR K x (sForget y).2 r.2) := by
  rw [eM_forget, sForget]
  have h0 := zR_s h (t := 11) (s := 0) rfl 0 (0 : Int32)
  generalize hS : ((zu S.1 11 0 0 (0 : Int32)), S.2) = S' at h0 ⊢
  have hS1 : zu S.1 11 0 0 (0 : Int32) = S'.1 := by rw [← hS]
  have hS2 : S.2 = S'.2 := by rw [← hS]
  try simp only [hS1, hS2]
  have w := zWm35 h0 (v := 0) (by omega) (by omega)
  simp (contextual := true) (disch := omega) only [zWp, zNum, Int.cast_ofNat_Int, Prod.mk.injEq, and_true, true_and, implies_true, and_self, true_implies, false_implies, not_true_eq_false, not_false_eq_true, and_false, false_and, Int.reduceEq, Int.reduceLT, Int.reduceLE, Int.reduceNeg, Int.reduceAdd, Int.reduceSub, Int.reduceMul, Int.reduceToNat, Nat.reduceEqDiff, cond_true, cond_false, zRm35 h0, w] <;> ((repeat' (first | intro _ | with_reducible apply And.intro)) <;> (first | omega | (exfalso; omega)))
theorem zX_held_s (h : zR K x y S) (g : zGp x) (d : Nat) {a : Int} (h1 : -2147483648 ≤ a) (h2 : a < 2147483648) : zwp (zX_held (d + 3) (zI a) S) (fun r => r.1 = zI (sHeld x a).1 ∧ zR K (sHeld x a).2 y r.2) := by
  have b2 := zG2 g
  rw [eX_held, sHeld]
  by_cases hc : zEn x a
  · rw [if_pos hc]
    simp (contextual := true) (disch := omega) only [zWp, zNum, Int.cast_ofNat_Int, Prod.mk.injEq, and_true, true_and, implies_true, and_self, true_implies, false_implies, not_true_eq_false, not_false_eq_true, and_false, false_and, Int.reduceEq, Int.reduceLT, Int.reduceLE, Int.reduceNeg, Int.reduceAdd, Int.reduceSub, Int.reduceMul, Int.reduceToNat, Nat.reduceEqDiff, cond_true, cond_false, zP_isEnd_s h g, zRc8 h, h] <;> ((repeat' (first | intro _ | with_reducible apply And.intro)) <;> (first | omega | (exfalso; omega)))
  · rw [if_neg hc]
    simp (contextual := true) (disch := omega) only [zWp, zNum, Int.cast_ofNat_Int, Prod.mk.injEq, and_true, true_and, implies_true, and_self, true_implies, false_implies, not_true_eq_false, not_false_eq_true, and_false, false_and, Int.reduceEq, Int.reduceLT, Int.reduceLE, Int.reduceNeg, Int.reduceAdd, Int.reduceSub, Int.reduceMul, Int.reduceToNat, Nat.reduceEqDiff, cond_true, cond_false, zP_isEnd_s h g, zRc8 h, h] <;> ((repeat' (first | intro _ | with_reducible apply And.intro)) <;> (first | omega | (exfalso; omega)))
theorem zM_held_s (h : zR K x y S) (g : zGp y) (d : Nat) {a : Int} (h1 : -2147483648 ≤ a) (h2 : a < 2147483648) : zwp (zM_held (d + 3) (zI a) S) (fun r => r.1 = zI (sHeld y a).1 ∧ zR K x (sHeld y a).2 r.2) := by
  have b2 := zG2 g
  rw [eM_held, sHeld]
  have h0 := zR_s h (t := 11) (s := 0) rfl 0 (0 : Int32)
  generalize hS : ((zu S.1 11 0 0 (0 : Int32)), S.2) = S' at h0 ⊢
  have hS1 : zu S.1 11 0 0 (0 : Int32) = S'.1 := by rw [← hS]
  have hS2 : S.2 = S'.2 := by rw [← hS]
  try simp only [hS1, hS2]
  by_cases hc : zEn y a
  · rw [if_pos hc]
    simp (contextual := true) (disch := omega) only [zWp, zNum, Int.cast_ofNat_Int, Prod.mk.injEq, and_true, true_and, implies_true, and_self, true_implies, false_implies, not_true_eq_false, not_false_eq_true, and_false, false_and, Int.reduceEq, Int.reduceLT, Int.reduceLE, Int.reduceNeg, Int.reduceAdd, Int.reduceSub, Int.reduceMul, Int.reduceToNat, Nat.reduceEqDiff, cond_true, cond_false, zM_isEnd_s h0 g, zRm8 h0, h0] <;> ((repeat' (first | intro _ | with_reducible apply And.intro)) <;> (first | omega | (exfalso; omega)))
  · rw [if_neg hc]
    simp (contextual := true) (disch := omega) only [zWp, zNum, Int.cast_ofNat_Int, Prod.mk.injEq, and_true, true_and, implies_true, and_self, true_implies, false_implies, not_true_eq_false, not_false_eq_true, and_false, false_and, Int.reduceEq, Int.reduceLT, Int.reduceLE, Int.reduceNeg, Int.reduceAdd, Int.reduceSub, Int.reduceMul, Int.reduceToNat, Nat.reduceEqDiff, cond_true, cond_false, zM_isEnd_s h0 g, zRm8 h0, h0] <;> ((repeat' (first | intro _ | with_reducible apply And.intro)) <;> (first | omega | (exfalso; omega)))
end A1
