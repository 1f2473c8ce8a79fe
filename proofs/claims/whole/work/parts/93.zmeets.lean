/-! MEETS of the reference: what is tried stands for what a lifted line holds -/
def zT (y z : ZW) : Prop :=
  (∀ e, 0 ≤ e → e < 116 → ((y 8 e < 0 ∧ y 40 e = 0) ↔ z 8 e < 0)) ∧ (∀ j, 0 ≤ j → j < 40 → ((y 15 j = 0 ∧ y 41 j = 0) ↔ z 15 j = 0)) ∧
  (∀ g, g = 2 ∨ g = 3 ∨ g = 4 ∨ g = 5 ∨ g = 6 ∨ g = 9 ∨ g = 10 ∨ g = 11 ∨ g = 12 ∨ g = 13 ∨ g = 14 → z g = y g) ∧ (∀ e, z 40 e = 0)
/-- y' is y but for what is tried -/
def zEv (y y' : ZW) : Prop := ∀ g k, (g ≠ 40 ∧ g ≠ 41) ∨ (g = 40 ∧ (k < 0 ∨ 116 ≤ k)) ∨ (g = 41 ∧ (k < 0 ∨ 40 ≤ k)) → y' g k = y g k
theorem zEv_t {a b c : ZW} (h : zEv a b) (h' : zEv b c) : zEv a c := fun g k q => (h' g k q).trans (h g k q)
theorem zEv_r (a : ZW) : zEv a a := fun _ _ _ => rfl
theorem zEv_40 (y : ZW) {e v : Int} (h : 0 ≤ e ∧ e < 116) : zEv y (xu y 40 e v) := fun g k q => if_neg (fun w => by obtain ⟨rfl, rfl⟩ := w; omega)
theorem zEv_41 (y : ZW) {e v : Int} (h : 0 ≤ e ∧ e < 40) : zEv y (xu y 41 e v) := fun g k q => if_neg (fun w => by obtain ⟨rfl, rfl⟩ := w; omega)
theorem zT_fr {y z : ZW} (t : zT y z) {e : Int} (h0 : 0 ≤ e) (h1 : e < 116) : zFr y e ↔ zFr z e := by
  have a := t.1 e h0 h1
  have b := t.2.2.1 9 (by simp)
  have c := t.2.2.2 e
  unfold zFr
  rw [b]
  omega
theorem zT_ff {y z : ZW} (t : zT y z) (gz : zGp z) {r : Int} (hr : 0 ≤ r ∧ r < 12) : sFF y r = sFF z r := by
  have b4 := zG4 gz r
  unfold sFF
  rw [t.2.2.1 4 (by simp)] at b4 ⊢
  refine zfst_congr _ _ _ _ (fun i i0 i1 => ?_)
  have := zT_fr t (e := i) (by omega) (by omega)
  by_cases h : zFr z i
  · rw [decide_eq_true h, decide_eq_true (this.mpr h)]
  · rw [decide_eq_false h, decide_eq_false (fun q => h (this.mp q))]
theorem zT_go {y z : ZW} (t : zT y z) (gz : zGp z) (b : Int) : ∀ (n : Nat) (p : Int) (c : Bool), sGo y b n p c = sGo z b n p c
  | 0, p, c => rfl
  | n + 1, p, c => by
    have e6 := t.2.2.1 6 (by simp)
    have b6 := zG6 gz (b + p)
    rw [sGo, sGo, zT_go t gz b n, zT_go t gz b n, ← e6]
    by_cases h : z 6 (b + p) < 0
    · rw [if_pos h, if_pos h]
    · rw [if_neg h, if_neg h]
      have := zT_fr t (e := z 6 (b + p)) (by omega) (by omega)
      by_cases hf : zFr z (z 6 (b + p))
      · rw [if_pos hf, if_pos (this.mpr hf)]
      · rw [if_neg hf, if_neg (fun q => hf (this.mp q))]
theorem zT_goes {y z : ZW} (t : zT y z) (gz : zGp z) (h d : Int) : sGoes y h d = sGoes z h d := by
  unfold sGoes sBase
  rw [zT_go t gz, t.2.2.1 5 (by simp)]
theorem zT_gp {y z : ZW} (t : zT y z) (gy : zGp y) : True := trivial
theorem zGp_ev {y y' : ZW} (g : zGp y) (h : zEv y y') : zGp y' := by
  have e : ∀ g, g < 40 → y' g = y g := fun g hg => by funext k; exact h g k (Or.inl ⟨by omega, by omega⟩)
  refine zGp_e g (fun g' h' _ _ => e g' (by omega)) ?_ ?_
  · rw [e 8 (by omega)]; exact zG8 g
  · rw [e 15 (by omega)]; exact zG15 g
section MT
variable {K : ZS} {x y : ZW} {S : ZS}
theorem zM_tries_s (h : zR K x y S) (d : Nat) {e n : Int} (he : 0 ≤ e ∧ e < 116) (hn : 0 ≤ n ∧ n < 8) (c68 : S.1 11 0 68 = zI n) :
    zM_tries (d + 1) (zI e) S = some (zu (zu (zu S.1 80 0 e.toNat (zI 1)) 112 0 n.toNat (zI e)) 11 0 68 (zI (n + 1)), S.2) ∧ zR K x (xu y 40 e 1) (zu (zu (zu S.1 80 0 e.toNat (zI 1)) 112 0 n.toNat (zI e)) 11 0 68 (zI (n + 1)), S.2) := by
  have w := zWm40 h (k := e) (v := 1) (by omega) (by omega) (by omega) (by omega)
  have w := zR_t w (t := 112) (by decide) 0 n.toNat (zI e)
  have w := zR_s w (t := 11) (s := 68) (by decide) 0 (zI (n + 1))
  refine ⟨zwp_eq ?_, w⟩
  have hb : zbl (zI 1) = true := rfl
  rw [eM_tries]
  simp (contextual := true) (disch := omega) only [zWp, zNum, Int.cast_ofNat_Int, Prod.mk.injEq, and_true, true_and, implies_true, and_self, true_implies, false_implies, not_true_eq_false, not_false_eq_true, and_false, false_and, Int.reduceEq, Int.reduceLT, Int.reduceLE, Int.reduceNeg, Int.reduceAdd, Int.reduceSub, Int.reduceMul, Int.reduceToNat, Nat.reduceEqDiff, cond_true, cond_false, zu_tag, zu_pl, zu_same, c68, hb] <;> ((repeat' (first | intro _ | with_reducible apply And.intro)) <;> (first | omega | (exfalso; omega)))
/-- what meets has told when the line has dialled: z is what it would hold -/
def zMe (K : ZS) (x y z : ZW) (l : Int) (S : ZS) : Prop := zR K x y S ∧ zGp y ∧ zT y z ∧ S.1 11 0 68 = zI (z 22 l) ∧ (∀ i, 0 ≤ i → i < z 22 l → S.1 112 0 i.toNat = zI (z 23 (120 * l + i)))
theorem zT_s8 {y z w : ZW} {l e : Int} (t : zT y z) (hl : 0 ≤ l) (he : 0 ≤ e) (h8 : w 8 = fun i => if i = e then l else z 8 i) (h15 : w 15 = z 15) (hg : ∀ g, g = 2 ∨ g = 3 ∨ g = 4 ∨ g = 5 ∨ g = 6 ∨ g = 9 ∨ g = 10 ∨ g = 11 ∨ g = 12 ∨ g = 13 ∨ g = 14 ∨ g = 40 → w g = z g) : zT (xu y 40 e 1) w := by
  refine ⟨fun i i0 i1 => ?_, fun j j0 j1 => ?_, fun g hg' => ?_, fun i => ?_⟩
  · rw [h8, xu_g _ (by decide), xu_kk]
    dsimp only
    by_cases h : i = e
    · rw [if_pos h, if_pos h]; omega
    · rw [if_neg h, if_neg h]; exact t.1 i i0 i1
  · rw [h15, xu_g _ (by decide), xu_g _ (by decide)]; exact t.2.1 j j0 j1
  · rw [hg g (by rcases hg' with rfl | rfl | rfl | rfl | rfl | rfl | rfl | rfl | rfl | rfl | rfl <;> simp), t.2.2.1 g hg']
    funext k
    exact (xu_g _ (by rcases hg' with rfl | rfl | rfl | rfl | rfl | rfl | rfl | rfl | rfl | rfl | rfl <;> decide)).symm
  · rw [hg 40 (by simp)]; exact t.2.2.2 i
theorem zT_s0 {y z w : ZW} (t : zT y z) (h8 : w 8 = z 8) (h15 : w 15 = z 15) (hg : ∀ g, g = 2 ∨ g = 3 ∨ g = 4 ∨ g = 5 ∨ g = 6 ∨ g = 9 ∨ g = 10 ∨ g = 11 ∨ g = 12 ∨ g = 13 ∨ g = 14 ∨ g = 40 → w g = z g) : zT y w := by
  refine ⟨fun i i0 i1 => ?_, fun j j0 j1 => ?_, fun g hg' => ?_, fun i => ?_⟩
  · rw [h8]; exact t.1 i i0 i1
  · rw [h15]; exact t.2.1 j j0 j1
  · rw [hg g (by rcases hg' with rfl | rfl | rfl | rfl | rfl | rfl | rfl | rfl | rfl | rfl | rfl <;> simp), t.2.2.1 g hg']
  · rw [hg 40 (by simp)]; exact t.2.2.2 i
theorem zT_s15 {y z w : ZW} {o v : Int} (t : zT y z) (hv : v ≠ 0) (h8 : w 8 = z 8) (h15 : w 15 = fun i => if i = o then v else z 15 i) (hg : ∀ g, g = 2 ∨ g = 3 ∨ g = 4 ∨ g = 5 ∨ g = 6 ∨ g = 9 ∨ g = 10 ∨ g = 11 ∨ g = 12 ∨ g = 13 ∨ g = 14 ∨ g = 40 → w g = z g) : zT (xu y 41 o 1) w := by
  refine ⟨fun i i0 i1 => ?_, fun j j0 j1 => ?_, fun g hg' => ?_, fun i => ?_⟩
  · rw [h8, xu_g _ (by decide), xu_g _ (by decide)]; exact t.1 i i0 i1
  · rw [h15, xu_g _ (by decide), xu_kk]
    dsimp only
    by_cases h : j = o
    · rw [if_pos h, if_pos h]; omega
    · rw [if_neg h, if_neg h]; exact t.2.1 j j0 j1
  · rw [hg g (by rcases hg' with rfl | rfl | rfl | rfl | rfl | rfl | rfl | rfl | rfl | rfl | rfl <;> simp), t.2.2.1 g hg']
    funext k
    exact (xu_g _ (by rcases hg' with rfl | rfl | rfl | rfl | rfl | rfl | rfl | rfl | rfl | rfl | rfl <;> decide)).symm
  · rw [hg 40 (by simp)]; exact t.2.2.2 i
end MT
