/-! COUNT of both sides -/
def zsm (f : Int → Int) : Nat → Int
  | 0 => 0
  | n + 1 => zsm f n + f n
def sCount (x : ZW) (w : Int) : Int × ZW := (if w = 0 then x 1 0 else if w = 1 then x 2 0 else if w = 2 then x 11 0 else if w = 3 then zsm (fun l => if x 15 l = 1 then 1 else 0) (x 11 0).toNat else
  if w = 4 then zsm (fun e => if 0 ≤ x 8 e then 1 else 0) 96 else if w = 5 then x 24 0 else if w = 6 then x 29 0 else if w = 7 then x 35 0 else if w = 8 then x 42 0 else if w = 9 then x 48 0 else if w = 10 then x 33 0 else
  if w = 11 then zsm (x 4) (x 2 0).toNat else if w = 12 then zsm (fun e => if 0 ≤ x 8 (100 + e) then 1 else 0) 16 else -1, x)
/-- lines and names of the tariff that is in force -/
def zTl (x : ZW) (K : ZS) : Prop := ∃ u, K.2.2.1 10 0 7 = some (7, u) ∧ K.1 7 u 2 = zI (x 42 0) ∧ K.1 7 u 8 = zI (x 48 0)
section CO
variable {K : ZS} {x y : ZW} {S : ZS}
theorem zC_callingLines_4_s (h : zR K x y S) (g : zGp x) (d : Nat) : ∀ (m n : Nat), (n : Int) + m = x 11 0 → zC_callingLines_4 (d + 1) (zI (zsm (fun l => if x 15 l = 1 then 1 else 0) n)) (zI n) S = some (zI (zsm (fun l => if x 15 l = 1 then 1 else 0) (n + m)), S)
  | 0, n, e => by
    have b := zG11 g
    rw [eC_callingLines_4, zRc11 h, zI_le (by omega) (by omega) (by omega) (by omega), zif_pos (by omega)]
    rfl
  | m + 1, n, e => by
    have b := zG11 g
    have ih := zC_callingLines_4_s h g d m (n + 1) (by omega)
    rw [show n + 1 + m = n + (m + 1) by omega, show ((n + 1 : Nat) : Int) = (n : Int) + 1 by omega, zsm] at ih
    rw [eC_callingLines_4, zRc11 h, zI_le (by omega) (by omega) (by omega) (by omega), zif_neg (by omega), zC_isCalling_s h g d (by omega) (by omega)]
    show zif (zb _ = 0) (zC_callingLines_4 (d + 1) (zI _ + 0) (zI n + 1) S) (zC_callingLines_4 (d + 1) (zI _ + 1) (zI n + 1) S) = _
    rw [zI_n1, zI_n0, zI_add, zI_add, zI_add]
    by_cases hc : x 15 n = 1
    · rw [if_pos hc] at ih
      rw [show zI 0 = (0 : Int32) from rfl, zb_0, zif_neg (fun hn => hn ⟨by omega, hc⟩)]
      exact ih
    · rw [if_neg hc] at ih
      rw [show zI 0 = (0 : Int32) from rfl, zb_0, zif_pos (fun hn => hc hn.2)]
      exact ih
theorem zM_count_93_s (h : zR K x y S) (g : zGp y) (d : Nat) : ∀ (m n : Nat), (n : Int) + m = y 11 0 → zM_count_93 d (zI (zsm (fun l => if y 15 l = 1 then 1 else 0) n)) (zI n) S = some (zI (zsm (fun l => if y 15 l = 1 then 1 else 0) (n + m)), S)
  | 0, n, e => by
    have b := zG11 g
    rw [eM_count_93, zRm11 h, zI_le (by omega) (by omega) (by omega) (by omega), zif_pos (by omega)]
    rfl
  | m + 1, n, e => by
    have b := zG11 g
    have b15 := zG15 g n
    have ih := zM_count_93_s h g d m (n + 1) (by omega)
    rw [show n + 1 + m = n + (m + 1) by omega, show ((n + 1 : Nat) : Int) = (n : Int) + 1 by omega, zsm] at ih
    rw [eM_count_93, zRm11 h, zI_le (by omega) (by omega) (by omega) (by omega), zif_neg (by omega), zg_t (by rw [zI_in (by omega) (by omega)]; omega), zI_zx (by omega) (by omega), zRm15 h (by omega) (by omega), zI_n1, zI_eq (by omega) (by omega) (by omega) (by omega), zI_add, zI_add]
    by_cases hc : y 15 n = 1
    · rw [if_pos hc] at ih
      rw [zif_pos hc]
      exact ih
    · rw [if_neg hc] at ih
      rw [zif_neg hc]
      rw [show zsm (fun l => if y 15 l = 1 then 1 else 0) n + 0 = zsm (fun l => if y 15 l = 1 then 1 else 0) n by omega] at ih
      exact ih
/-- holders from a on -/
theorem zP_heldWithin_5_s (h : zR K x y S) (g : zGp x) (d : Nat) {a b : Int} (ha : 0 ≤ a) (hb : b ≤ 116) : ∀ (m n : Nat), a + n + m = b → zP_heldWithin_5 d (zI b) (zI (zsm (fun e => if 0 ≤ x 8 (a + e) then 1 else 0) n)) (zI (a + n)) S = some (zI (zsm (fun e => if 0 ≤ x 8 (a + e) then 1 else 0) (n + m)), S)
  | 0, n, e => by
    rw [eP_heldWithin_5, zI_le (by omega) (by omega) (by omega) (by omega), zif_pos (by omega)]
    rfl
  | m + 1, n, e => by
    have b8 := zG8 g (a + n)
    have ih := zP_heldWithin_5_s h g d ha hb m (n + 1) (by omega)
    rw [show n + 1 + m = n + (m + 1) by omega, show a + ((n + 1 : Nat) : Int) = a + n + 1 by omega, zsm] at ih
    rw [eP_heldWithin_5, zI_le (by omega) (by omega) (by omega) (by omega), zif_neg (by omega), zg_t (by rw [zI_in (by omega) (by omega)]; omega), zI_zx (by omega) (by omega), zRc8 h (by omega) (by omega), zI_n1, zI_n0, zI_neg, zI_eq (by omega) (by omega) (by omega) (by omega), zI_add, zI_add, zI_add]
    by_cases hc : 0 ≤ x 8 (a + n)
    · rw [if_pos hc] at ih
      rw [zif_neg (by omega)]
      exact ih
    · rw [if_neg hc] at ih
      rw [zif_pos (by omega)]
      exact ih
theorem zM_count_124_s (h : zR K x y S) (g : zGp y) (d : Nat) : ∀ (m n : Nat), (n : Int) + m = 96 → zM_count_124 d (zI (zsm (fun e => if 0 ≤ y 8 e then 1 else 0) n)) (zI n) S = some (zI (zsm (fun e => if 0 ≤ y 8 e then 1 else 0) (n + m)), S)
  | 0, n, e => by
    rw [eM_count_124, show (96 : Int32) = zI 96 from rfl, zI_le (by omega) (by omega) (by omega) (by omega), zif_pos (by omega)]
    rfl
  | m + 1, n, e => by
    have b8 := zG8 g n
    have ih := zM_count_124_s h g d m (n + 1) (by omega)
    rw [show n + 1 + m = n + (m + 1) by omega, show ((n + 1 : Nat) : Int) = (n : Int) + 1 by omega, zsm] at ih
    rw [eM_count_124, show (96 : Int32) = zI 96 from rfl, zI_le (by omega) (by omega) (by omega) (by omega), zif_neg (by omega), zg_t (by rw [zI_in (by omega) (by omega)]; omega), zI_zx (by omega) (by omega), zRm8 h (by omega) (by omega), zI_n0, zI_lt (by omega) (by omega) (by omega) (by omega), zI_n1, zI_add, zI_add]
    by_cases hc : 0 ≤ y 8 n
    · rw [if_pos hc] at ih
      rw [zif_neg (by omega)]
      exact ih
    · rw [if_neg hc] at ih
      rw [zif_pos (by omega)]
      rw [show ∀ u : Int, u + 0 = u from fun u => by omega] at ih
      exact ih
theorem zM_count_214_s (h : zR K x y S) (g : zGp y) (d : Nat) : ∀ (m n : Nat), (n : Int) + m = 16 → zM_count_214 d (zI (zsm (fun e => if 0 ≤ y 8 (100 + e) then 1 else 0) n)) (zI (100 + n)) S = some (zI (zsm (fun e => if 0 ≤ y 8 (100 + e) then 1 else 0) (n + m)), S)
  | 0, n, e => by
    rw [eM_count_214, show (116 : Int32) = zI 116 from rfl, zI_le (by omega) (by omega) (by omega) (by omega), zif_pos (by omega)]
    rfl
  | m + 1, n, e => by
    have b8 := zG8 g (100 + n)
    have ih := zM_count_214_s h g d m (n + 1) (by omega)
    rw [show n + 1 + m = n + (m + 1) by omega, show 100 + ((n + 1 : Nat) : Int) = 100 + n + 1 by omega, zsm] at ih
    rw [eM_count_214, show (116 : Int32) = zI 116 from rfl, zI_le (by omega) (by omega) (by omega) (by omega), zif_neg (by omega), zg_t (by rw [zI_in (by omega) (by omega)]; omega), zI_zx (by omega) (by omega), zRm8 h (by omega) (by omega), zI_n0, zI_lt (by omega) (by omega) (by omega) (by omega), zI_n1, zI_add, zI_add]
    by_cases hc : 0 ≤ y 8 (100 + n)
    · rw [if_pos hc] at ih
      rw [zif_neg (by omega)]
      exact ih
    · rw [if_neg hc] at ih
      rw [zif_pos (by omega)]
      rw [show ∀ u : Int, u + 0 = u from fun u => by omega] at ih
      exact ih
theorem zP_allSwitches_4_s (h : zR K x y S) (g : zGp x) (d : Nat) : ∀ (m n : Nat), (n : Int) + m = x 2 0 → zP_allSwitches_4 d (zI (zsm (x 4) n)) (zI n) S = some (zI (zsm (x 4) (n + m)), S)
  | 0, n, e => by
    have b := zG2 g
    rw [eP_allSwitches_4, zRc2 h, zI_le (by omega) (by omega) (by omega) (by omega), zif_pos (by omega)]
    rfl
  | m + 1, n, e => by
    have b := zG2 g
    have ih := zP_allSwitches_4_s h g d m (n + 1) (by omega)
    rw [show n + 1 + m = n + (m + 1) by omega, show ((n + 1 : Nat) : Int) = (n : Int) + 1 by omega, zsm] at ih
    rw [eP_allSwitches_4, zRc2 h, zI_le (by omega) (by omega) (by omega) (by omega), zif_neg (by omega), zg_t (by rw [zI_in (by omega) (by omega)]; omega), zI_zx (by omega) (by omega), zRc4 h (by omega) (by omega), zI_n1, zI_add, zI_add]
    exact ih
theorem zM_count_186_s (h : zR K x y S) (g : zGp y) (d : Nat) : ∀ (m n : Nat), (n : Int) + m = y 2 0 → zM_count_186 d (zI (zsm (y 4) n)) (zI n) S = some (zI (zsm (y 4) (n + m)), S)
  | 0, n, e => by
    have b := zG2 g
    rw [eM_count_186, zRm2 h, zI_le (by omega) (by omega) (by omega) (by omega), zif_pos (by omega)]
    rfl
  | m + 1, n, e => by
    have b := zG2 g
    have ih := zM_count_186_s h g d m (n + 1) (by omega)
    rw [show n + 1 + m = n + (m + 1) by omega, show ((n + 1 : Nat) : Int) = (n : Int) + 1 by omega, zsm] at ih
    rw [eM_count_186, zRm2 h, zI_le (by omega) (by omega) (by omega) (by omega), zif_neg (by omega), zg_t (by rw [zI_in (by omega) (by omega)]; omega), zI_zx (by omega) (by omega), zRm4 h (by omega) (by omega), zI_n1, zI_add, zI_add]
    exact ih
theorem zX_count_s (h : zR K x y S) (g : zGp x) (t : zTl x K) (d : Nat) {w : Int} (h1 : -2147483648 ≤ w) (h2 : w < 2147483648) : zwp (zX_count (d + 3) (zI w) S) (fun r => r.1 = zI (sCount x w).1 ∧ zR K (sCount x w).2 y r.2) := by
  have b2 := zG2 g
  have b11 := zG11 g
  obtain ⟨u, t1, t2, t3⟩ := t
  have u1 : S.2.2.1 10 0 7 = some (7, u) := (h.2.2.2.1.2.2.1 0 7).trans t1
  have u2 : S.1 7 u 2 = zI (x 42 0) := (h.2.2.2.1.1 7 (by decide) u 2).trans t2
  have u3 : S.1 7 u 8 = zI (x 48 0) := (h.2.2.2.1.1 7 (by decide) u 8).trans t3
  have k3 : zC_callingLines (d + 2) S = some (zI (zsm (fun l => if x 15 l = 1 then 1 else 0) (x 11 0).toNat), S) := by
    have q := zC_callingLines_4_s h g d (x 11 0).toNat 0 (by omega)
    rw [Nat.zero_add] at q
    rw [eC_callingLines]; exact q
  have k4 : zP_heldWithin (d + 2) (zI 0) (zI 96) S = some (zI (zsm (fun e => if 0 ≤ x 8 e then 1 else 0) 96), S) := by
    have q := zP_heldWithin_5_s h g (d + 1) (a := 0) (b := 96) (by omega) (by omega) 96 0 (by omega)
    have e : (fun e => if 0 ≤ x 8 (0 + e) then (1 : Int) else 0) = fun e => if 0 ≤ x 8 e then 1 else 0 := by funext e; rw [Int.zero_add]
    rw [e] at q
    rw [eP_heldWithin]; exact q
  have k12 : zP_heldWithin (d + 2) (zI 100) (zI 116) S = some (zI (zsm (fun e => if 0 ≤ x 8 (100 + e) then 1 else 0) 16), S) := by
    rw [eP_heldWithin]; exact zP_heldWithin_5_s h g (d + 1) (a := 100) (b := 116) (by omega) (by omega) 16 0 (by omega)
  have k11 : zP_allSwitches (d + 2) S = some (zI (zsm (x 4) (x 2 0).toNat), S) := by
    have q := zP_allSwitches_4_s h g (d + 1) (x 2 0).toNat 0 (by omega)
    rw [Nat.zero_add] at q
    rw [eP_allSwitches]; exact q
  rw [eX_count, sCount]
  by_cases hw : 0 ≤ w ∧ w ≤ 12
  · rcases (show w = 0 ∨ w = 1 ∨ w = 2 ∨ w = 3 ∨ w = 4 ∨ w = 5 ∨ w = 6 ∨ w = 7 ∨ w = 8 ∨ w = 9 ∨ w = 10 ∨ w = 11 ∨ w = 12 by omega) with e | e | e | e | e | e | e | e | e | e | e | e | e <;> subst e <;> (simp only [Int.reduceEq, if_true, if_false, ↓reduceIte]) <;> simp (contextual := true) (disch := omega) only [zWp, zNum, Int.cast_ofNat_Int, Prod.mk.injEq, and_true, true_and, implies_true, and_self, true_implies, false_implies, not_true_eq_false, not_false_eq_true, and_false, false_and, Int.reduceEq, Int.reduceLT, Int.reduceLE, Int.reduceNeg, Int.reduceAdd, Int.reduceSub, Int.reduceMul, Int.reduceToNat, Nat.reduceEqDiff, cond_true, cond_false, zRc1 h, zRc2 h, zRc11 h, k3, k4, zRc24 h, zRc29 h, zRc35 h, u1, u2, u3, zRc33 h, k11, k12, h]
  · rw [if_neg (by omega), if_neg (by omega), if_neg (by omega), if_neg (by omega), if_neg (by omega), if_neg (by omega), if_neg (by omega), if_neg (by omega), if_neg (by omega), if_neg (by omega), if_neg (by omega), if_neg (by omega), if_neg (by omega)]
    simp (contextual := true) (disch := omega) only [zWp, zNum, Int.cast_ofNat_Int, Prod.mk.injEq, and_true, true_and, implies_true, and_self, true_implies, false_implies, not_true_eq_false, not_false_eq_true, and_false, false_and, Int.reduceEq, Int.reduceLT, Int.reduceLE, Int.reduceNeg, Int.reduceAdd, Int.reduceSub, Int.reduceMul, Int.reduceToNat, Nat.reduceEqDiff, cond_true, cond_false, h, u1] <;> ((repeat' (first | intro _ | with_reducible apply And.intro)) <;> (first | omega | (exfalso; omega)))
theorem zM_count_s (h : zR K x y S) (g : zGp y) (d : Nat) {w : Int} (h1 : -2147483648 ≤ w) (h2 : w < 2147483648) : zwp (zM_count (d + 3) (zI w) S) (fun r => r.1 = zI (sCount y w).1 ∧ zR K x (sCount y w).2 r.2) := by
  have b2 := zG2 g
  have b11 := zG11 g
  rw [eM_count, sCount]
  have h0 := zR_s h (t := 11) (s := 0) rfl 0 (0 : Int32)
  generalize hS : ((zu S.1 11 0 0 (0 : Int32)), S.2) = S' at h0 ⊢
  have hS1 : zu S.1 11 0 0 (0 : Int32) = S'.1 := by rw [← hS]
  have hS2 : S.2 = S'.2 := by rw [← hS]
  try simp only [hS1, hS2]
  have k3 : zM_count_93 (d + 2) (zI 0) (zI 0) S' = some (zI (zsm (fun l => if y 15 l = 1 then 1 else 0) (y 11 0).toNat), S') := by
    have q := zM_count_93_s h0 g (d + 2) (y 11 0).toNat 0 (by omega)
    rw [Nat.zero_add] at q
    exact q
  have k4 : zM_count_124 (d + 2) (zI 0) (zI 0) S' = some (zI (zsm (fun e => if 0 ≤ y 8 e then 1 else 0) 96), S') := zM_count_124_s h0 g (d + 2) 96 0 (by omega)
  have k12 : zM_count_214 (d + 2) (zI 0) (zI 100) S' = some (zI (zsm (fun e => if 0 ≤ y 8 (100 + e) then 1 else 0) 16), S') := zM_count_214_s h0 g (d + 2) 16 0 (by omega)
  have k11 : zM_count_186 (d + 2) (zI 0) (zI 0) S' = some (zI (zsm (y 4) (y 2 0).toNat), S') := by
    have q := zM_count_186_s h0 g (d + 2) (y 2 0).toNat 0 (by omega)
    rw [Nat.zero_add] at q
    exact q
  have k8 : S'.1 90 0 0 = zI (y 42 0) := zRm42 h0 (k := 0) (by omega) (by omega)
  have k9 : S'.1 96 0 0 = zI (y 48 0) := zRm48 h0 (k := 0) (by omega) (by omega)
  by_cases hw : 0 ≤ w ∧ w ≤ 12
  · rcases (show w = 0 ∨ w = 1 ∨ w = 2 ∨ w = 3 ∨ w = 4 ∨ w = 5 ∨ w = 6 ∨ w = 7 ∨ w = 8 ∨ w = 9 ∨ w = 10 ∨ w = 11 ∨ w = 12 by omega) with e | e | e | e | e | e | e | e | e | e | e | e | e <;> subst e <;> (simp only [Int.reduceEq, if_true, if_false, ↓reduceIte]) <;> simp (contextual := true) (disch := omega) only [zWp, zNum, Int.cast_ofNat_Int, Prod.mk.injEq, and_true, true_and, implies_true, and_self, true_implies, false_implies, not_true_eq_false, not_false_eq_true, and_false, false_and, Int.reduceEq, Int.reduceLT, Int.reduceLE, Int.reduceNeg, Int.reduceAdd, Int.reduceSub, Int.reduceMul, Int.reduceToNat, Nat.reduceEqDiff, cond_true, cond_false, zRm1 h0, zRm2 h0, zRm11 h0, k3, k4, zRm24 h0, zRm29 h0, zRm35 h0, k8, k9, zRm33 h0, k11, k12, h0] <;> ((repeat' (first | intro _ | with_reducible apply And.intro)) <;> (first | omega | (exfalso; omega)))
  · rw [if_neg (by omega), if_neg (by omega), if_neg (by omega), if_neg (by omega), if_neg (by omega), if_neg (by omega), if_neg (by omega), if_neg (by omega), if_neg (by omega), if_neg (by omega), if_neg (by omega), if_neg (by omega), if_neg (by omega)]
    simp (contextual := true) (disch := omega) only [zWp, zNum, Int.cast_ofNat_Int, Prod.mk.injEq, and_true, true_and, implies_true, and_self, true_implies, false_implies, not_true_eq_false, not_false_eq_true, and_false, false_and, Int.reduceEq, Int.reduceLT, Int.reduceLE, Int.reduceNeg, Int.reduceAdd, Int.reduceSub, Int.reduceMul, Int.reduceToNat, Nat.reduceEqDiff, cond_true, cond_false, h0] <;> ((repeat' (first | intro _ | with_reducible apply And.intro)) <;> (first | omega | (exfalso; omega)))
end CO
