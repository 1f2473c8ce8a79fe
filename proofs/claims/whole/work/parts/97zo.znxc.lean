/-! THE TAPE of the class: next, and what is asked of a token -/
section NX
variable {tp : Int → Int} {n b : Int} {S : ZS}
theorem zT_next_121_s (hB : qB tp n) (hC : qC tp n S) (d : Nat) {b : Int} (hb : 0 ≤ b ∧ b ≤ n) {w : Option ZR} (c3 : S.1 6 0 3 = zI b) (c4 : b < n → S.1 6 0 4 = zI (zlnt tp n b)) (hw : w = qWr tp n b) :
    zwp (zT_next_121 (d + 5) (zI (zLt tp n b)) (zI (zFg tp n b)) w S) (fun S' => qA tp n S' b ∧ qF6 S S') := by
  have bn := hB.1
  have l := zrnl_b tp 97 122 (n - b).toNat b
  have f := zrnl_b tp 48 57 (n - b).toNat b
  have bl : 0 ≤ zLt tp n b ∧ zLt tp n b ≤ 1000 := by unfold zLt; omega
  have bf : 0 ≤ zFg tp n b ∧ zFg tp n b ≤ 1000 := by unfold zFg; omega
  have out : ∀ (k : Int) (S1 : ZS), zkd tp n b = k → S1 = ((zu S.1 6 0 2 (zI k)), S.2.1, (zu S.2.2.1 6 0 5 w), S.2.2.2) → b < n → qA tp n S1 b ∧ qF6 S S1 := by
    intro k S1 hk e hbn
    rw [e]
    refine ⟨⟨c3, c4 hbn, ?_, ?_⟩, qF6_t (qF6_u S (k := 2) (by decide) (zI k)) (qF6_d _ 5 w)⟩
    · rw [hk]
      exact zu_same S.1 6 0 2 (zI k)
    · rw [← hw]
      exact zu_same S.2.2.1 6 0 5 w
  have z0 : zI 0 = (0 : Int32) := rfl
  rw [eT_next_121, c3, hC.1, zI_lt (by omega) (by omega) (by omega) (by omega)]
  by_cases hbn : b < n
  · rw [zif_pos hbn, zI_n0, zI_le (by omega) (by omega) (by omega) (by omega), zI_le (by omega) (by omega) (by omega) (by omega), zI_n4, zI_lt (by omega) (by omega) (by omega) (by omega), zI_n8, zI_lt (by omega) (by omega) (by omega) (by omega)]
    by_cases l0 : zLt tp n b ≤ 0
    · rw [zif_pos l0]
      by_cases f0 : zFg tp n b ≤ 0
      · have bt := hB.2 b hb.1 hbn
        obtain ⟨r, r1, r2, r3⟩ := qidx_s d ((S.1, S.2.1, (zu S.2.2.1 6 0 5 w), S.2.2.2)) bt
        rw [zif_pos f0, zg_t (by rw [zI_in (by omega) (by omega)]; omega), zI_zx (by omega) (by omega), hC.2 b hb.1 hbn, r1, zBs]
        dsimp only
        rw [zI_lt (by omega) (by omega) (by omega) (by omega)]
        by_cases r0 : r < 0
        · rw [zif_pos r0, zwp_some]
          refine out 4 _ ?_ rfl hbn
          unfold zkd
          rw [if_neg (by omega), if_neg (by omega), if_neg (by omega), if_neg (fun q => by have := r3.2 q; omega)]
        · rw [zif_neg r0, zwp_some]
          refine out 3 _ ?_ rfl hbn
          unfold zkd
          rw [if_neg (by omega), if_neg (by omega), if_neg (by omega), if_pos (show (40 ≤ tp b ∧ tp b ≤ 43) ∨ tp b = 45 ∨ (59 ≤ tp b ∧ tp b ≤ 61) from r3.1 (by omega))]
      · rw [zif_neg f0]
        by_cases f4 : 4 < zFg tp n b
        · rw [zif_pos f4, zwp_some]
          refine out 4 _ ?_ rfl hbn
          unfold zkd
          rw [if_neg (by omega), if_neg (by omega), if_pos (by omega), if_neg (by omega)]
        · rw [zif_neg f4, zwp_some]
          refine out 2 _ ?_ rfl hbn
          unfold zkd
          rw [if_neg (by omega), if_neg (by omega), if_pos (by omega), if_pos (by omega)]
    · rw [zif_neg l0]
      by_cases l8 : 8 < zLt tp n b
      · rw [zif_pos l8, zwp_some]
        refine out 4 _ ?_ rfl hbn
        unfold zkd
        rw [if_neg (by omega), if_pos (by omega), if_neg (by omega)]
      · rw [zif_neg l8, zwp_some]
        refine out 1 _ ?_ rfl hbn
        unfold zkd
        rw [if_neg (by omega), if_pos (by omega), if_pos (by omega)]
  · have k0 : zkd tp n b = 0 := by unfold zkd; rw [if_pos (by omega)]
    have ln0 : zlnt tp n b = 0 := by unfold zlnt; rw [if_pos (by omega)]
    rw [zif_neg hbn, zwp_some]
    refine ⟨⟨c3, ?_, ?_, ?_⟩, qF6_t (qF6_t (qF6_u S (k := 2) (by decide) 0) (qF6_u _ (k := 4) (by decide) 0)) (qF6_d _ 5 w)⟩
    · rw [ln0]
      exact zu_same (zu S.1 6 0 2 0) 6 0 4 0
    · rw [k0]
      exact zu_same S.1 6 0 2 0
    · rw [← hw]
      exact zu_same S.2.2.1 6 0 5 w
theorem zT_next_65_s (hB : qB tp n) (hC : qC tp n S) (d : Nat) {b : Int} (hb : 0 ≤ b ∧ b ≤ n) (c3 : S.1 6 0 3 = zI b) :
    zwp (zT_next_65 (d + 6) S) (fun S' => qA tp n S' b ∧ qF6 S S') := by
  have bn := hB.1
  have l := zrnl_b tp 97 122 (n - b).toNat b
  have f := zrnl_b tp 48 57 (n - b).toNat b
  have bl : 0 ≤ zLt tp n b ∧ zLt tp n b ≤ 1000 := by unfold zLt; omega
  have bf : 0 ≤ zFg tp n b ∧ zFg tp n b ≤ 1000 := by unfold zFg; omega
  have r1 : zT_runFrom (d + 6) (zI b) (97 : Int32) (122 : Int32) S = some (zI (zLt tp n b), S) := zT_runFrom_s (lo := 97) (hi := 122) hB hC (d + 5) hb (by omega) (by omega)
  have r2 : zT_runFrom (d + 6) (zI b) (48 : Int32) (57 : Int32) S = some (zI (zFg tp n b), S) := zT_runFrom_s (lo := 48) (hi := 57) hB hC (d + 5) hb (by omega) (by omega)
  have mx : zci (zcall (d + 6)) 1000 [zi (1 : Int32), zi (zI (zLt tp n b + zFg tp n b))] S = some (zI (if 1 < zLt tp n b + zFg tp n b then zLt tp n b + zFg tp n b else 1), S) := by
    have e : zci (zcall (d + 6)) 1000 [zi (1 : Int32), zi (zI (zLt tp n b + zFg tp n b))] S = some (if (1 : Int32) < zI (zLt tp n b + zFg tp n b) then zI (zLt tp n b + zFg tp n b) else 1, S) := rfl
    have c := zI_lt (a := 1) (b := zLt tp n b + zFg tp n b) (by omega) (by omega) (by omega) (by omega)
    have c : ((1 : Int32) < zI (zLt tp n b + zFg tp n b)) = (1 < zLt tp n b + zFg tp n b) := c
    rw [e]
    by_cases q : 1 < zLt tp n b + zFg tp n b
    · rw [if_pos q, if_pos (by rw [c]; exact q)]
    · rw [if_neg q, if_neg (by rw [c]; exact q)]
      rfl
  have ml : b < n → (if 1 < zLt tp n b + zFg tp n b then zLt tp n b + zFg tp n b else 1) = zlnt tp n b := by
    intro hbn
    have lf := zLF tp n (b := b)
    unfold zlnt
    repeat' split
    all_goals omega
  have wk : zkd tp n b ≠ 1 → qWr tp n b = none := fun q => by unfold qWr; rw [if_neg q]
  rw [eT_next_65, c3, r1, zBs]
  dsimp only
  rw [c3, r2, zBs]
  dsimp only
  rw [zI_add, mx, zBs]
  dsimp only
  rw [zI_n0, zI_le (by omega) (by omega) (by omega) (by omega), zI_n8, zI_lt (by omega) (by omega) (by omega) (by omega)]
  generalize hm : (if 1 < zLt tp n b + zFg tp n b then zLt tp n b + zFg tp n b else 1) = ln at ml
  have f1 : qF6 S ((zu S.1 6 0 4 (zI ln)), S.2) := qF6_u S (k := 4) (by decide) (zI ln)
  have c1 := qC_f hC f1
  have c4 : (zu S.1 6 0 4 (zI ln)) 6 0 4 = zI ln := zu_same S.1 6 0 4 (zI ln)
  have done : ∀ w, w = qWr tp n b → zwp (zT_next_121 (d + 6) (zI (zLt tp n b)) (zI (zFg tp n b)) w ((zu S.1 6 0 4 (zI ln)), S.2)) (fun S' => qA tp n S' b ∧ qF6 S S') := fun w hw => zwp_mono (zT_next_121_s hB c1 (d + 1) hb c3 (fun hbn => by rw [← ml hbn]; exact c4) hw) (fun S' k => ⟨k.1, qF6_t f1 k.2⟩)
  by_cases l0 : zLt tp n b ≤ 0
  · rw [zif_pos l0]
    refine done none (wk ?_).symm
    unfold zkd
    repeat' split
    all_goals omega
  · rw [zif_neg l0]
    have hbn : b < n := by unfold zLt at l0; omega
    by_cases l8 : 8 < zLt tp n b
    · rw [zif_pos l8]
      refine done none (wk ?_).symm
      unfold zkd
      rw [if_neg (by omega), if_pos (by omega), if_neg (by omega)]
      omega
    · have k1 : zkd tp n b = 1 := by
        unfold zkd
        rw [if_neg (by omega), if_pos (by omega), if_pos (by omega)]
      have lnL : ln = zLt tp n b := by
        rw [ml hbn]
        unfold zlnt
        rw [if_neg (by omega), if_pos (by omega)]
      have wr := zT_wordRead_s hB c1 d hb (by omega) c3 (by rw [← lnL]; exact c4)
      rw [zif_neg l8, wr, zBs]
      dsimp only
      refine done _ ?_
      unfold qWr
      rw [if_pos k1]
theorem zT_next_13_s (hB : qB tp n) (d : Nat) :
    ∀ (k : Nat) (p : Int) (S : ZS), 0 ≤ p → p + k = n → qC tp n S → S.1 6 0 3 = zI p → zwp (zT_next_13 (d + 6) S) (fun S' => qA tp n S' (zsk tp k p) ∧ qF6 S S') := by
  have bn := hB.1
  intro k
  induction k with
  | zero =>
    intro p S p0 e hC c3
    rw [eT_next_13, hC.1, c3, zI_le (by omega) (by omega) (by omega) (by omega), zif_pos (by omega), zsk]
    exact zT_next_65_s hB hC d (by omega) c3
  | succ k ih =>
    intro p S p0 e hC c3
    have bt := hB.2 p p0 (by omega)
    have w := ih (p + 1) ((zu S.1 6 0 3 (zI (p + 1))), S.2) (by omega) (by omega) (qC_f hC (qF6_u S (k := 3) (by decide) _)) (zu_same S.1 6 0 3 (zI (p + 1)))
    have w := zwp_mono w (fun S' q => And.intro q.1 (qF6_t (qF6_u S (k := 3) (by decide) (zI (p + 1))) q.2))
    rw [eT_next_13, hC.1, c3, zI_le (by omega) (by omega) (by omega) (by omega), zif_neg (by omega), zg_t (by rw [zI_in (by omega) (by omega)]; omega), zI_zx (by omega) (by omega), hC.2 p p0 (by omega), zI_n32, zI_eq (by omega) (by omega) (by omega) (by omega), zI_n10, zI_eq (by omega) (by omega) (by omega) (by omega), zI_n1, zI_add, zsk]
    by_cases q : tp p = 32
    · rw [zif_pos q, if_pos (Or.inl q)]
      exact w
    · rw [zif_neg q, zg_t (by rw [zI_in (by omega) (by omega)]; omega)]
      by_cases q2 : tp p = 10
      · rw [zif_pos q2, if_pos (Or.inr q2)]
        exact w
      · rw [zif_neg q2, if_neg (by omega)]
        exact zT_next_65_s hB hC d (by omega) c3
theorem zT_next_s (hB : qB tp n) (hC : qC tp n S) (d : Nat) {b : Int} (hb : 0 ≤ b ∧ b ≤ n) (hA : qA tp n S b) : zwp (zT_next (d + 7) S) (fun S' => qA tp n S' (znx tp n b) ∧ qF6 S S') := by
  have bn := hB.1
  have l := zlnt_b tp n hb
  rw [eT_next, hA.1, hA.2.1, zI_add]
  refine zwp_mono (zT_next_13_s hB d (n - (b + zlnt tp n b)).toNat (b + zlnt tp n b) _ (by omega) (by omega) (qC_f hC (qF6_u S (k := 3) (by decide) _)) (zu_same S.1 6 0 3 (zI (b + zlnt tp n b)))) (fun S' q => ?_)
  exact ⟨q.1, qF6_t (qF6_u S (k := 3) (by decide) _) q.2⟩
theorem zT_rewind_s (hB : qB tp n) (hC : qC tp n S) (d : Nat) : zwp (zT_rewind (d + 8) S) (fun S' => qA tp n S' (zsk tp n.toNat 0) ∧ qF6 S S') := by
  have bn := hB.1
  have f1 : qF6 S ((zu (zu S.1 6 0 3 (0 : Int32)) 6 0 4 (0 : Int32)), S.2) := qF6_t (qF6_u S (k := 3) (by decide) 0) (qF6_u _ (k := 4) (by decide) 0)
  have f2 := qF6_t f1 (qF6_u ((zu (zu S.1 6 0 3 (0 : Int32)) 6 0 4 (0 : Int32)), S.2) (k := 3) (by decide) (zI (0 + 0)))
  rw [eT_rewind, zwp_bind, eT_next]
  dsimp only
  rw [show (zu (zu S.1 6 0 3 (0 : Int32)) 6 0 4 (0 : Int32)) 6 0 3 = zI 0 from rfl, show (zu (zu S.1 6 0 3 (0 : Int32)) 6 0 4 (0 : Int32)) 6 0 4 = zI 0 from rfl, zI_add]
  refine zwp_mono (zT_next_13_s hB d n.toNat 0 _ (by omega) (by omega) (qC_f hC f2) rfl) (fun S' q => ?_)
  rw [zwp_some]
  exact ⟨q.1, qF6_t f2 q.2⟩
/-! what is asked of the token at b -/
theorem zT_isAtEnd_s (hA : qA tp n S b) (d : Nat) : zT_isAtEnd (d + 1) S = some (zb (zkd tp n b = 0), S) := by
  have k := zkd_b tp n b
  rw [eT_isAtEnd, hA.2.2.1, zI_n0, zI_eq (by omega) (by omega) (by omega) (by omega)]
  by_cases q : zkd tp n b = 0
  · rw [zif_pos q]
    exact zbT S q
  · rw [zif_neg q]
    exact zbF S q
theorem zT_isNumber_s (hA : qA tp n S b) (d : Nat) : zT_isNumber (d + 1) S = some (zb (zkd tp n b = 2), S) := by
  have k := zkd_b tp n b
  rw [eT_isNumber, hA.2.2.1, zI_n2, zI_eq (by omega) (by omega) (by omega) (by omega)]
  by_cases q : zkd tp n b = 2
  · rw [zif_pos q]
    exact zbT S q
  · rw [zif_neg q]
    exact zbF S q
theorem zkd_n {b : Int} (h : zkd tp n b ≠ 0) : b < n := by
  unfold zkd at h
  split at h
  · exact absurd rfl h
  · omega
theorem zT_isSign_s (hB : qB tp n) (hC : qC tp n S) {b : Int} (hb : 0 ≤ b ∧ b ≤ n) (hA : qA tp n S b) (d : Nat) {c : Int} (hc : 0 ≤ c ∧ c < 200) : zT_isSign (d + 1) (zI c) S = some (zb (zkd tp n b = 3 ∧ tp b = c), S) := by
  have k := zkd_b tp n b
  have bn := hB.1
  rw [eT_isSign, hA.2.2.1, hA.1, zI_n3, zI_eq (by omega) (by omega) (by omega) (by omega)]
  by_cases q : zkd tp n b = 3
  · have hbn : b < n := zkd_n (tp := tp) (n := n) (b := b) (by omega)
    have bt := hB.2 b hb.1 hbn
    rw [zif_pos q, zg_t (by rw [zI_in (by omega) (by omega)]; omega), zI_zx (by omega) (by omega), hC.2 b hb.1 hbn, zI_eq (by omega) (by omega) (by omega) (by omega)]
    by_cases w : tp b = c
    · rw [zif_pos w]
      exact zbT S ⟨q, w⟩
    · rw [zif_neg w]
      exact zbF S (fun z => w z.2)
  · rw [zif_neg q]
    exact zbF S (fun z => q z.1)
theorem qWr_cm (b : Int) {α : Type} (k : Option α) : zcm (qWr tp n b) k = k := by
  unfold qWr qWo
  split
  · split <;> rfl
  · rfl
theorem zT_isWord_s (hA : qA tp n S b) (d : Nat) {i : Nat} (hi : i < 13) : zT_isWord (d + 1) i S = some (zb (zkd tp n b = 1 ∧ zwl tp n b = qcd i), S) := by
  rw [eT_isWord, hA.2.2.2, qWr_cm]
  have e : (qWr tp n b = some (12, i)) ↔ (zkd tp n b = 1 ∧ zwl tp n b = qcd i) := by
    have c := qkw_c (zwl tp n b) i (by omega)
    unfold qWr qWo
    constructor
    · intro q
      split at q
      · split at q
        · rename_i u w
          refine ⟨u, c.1 ?_⟩
          have := congrArg (fun o : Option ZR => (o.getD (0, 0)).2) q
          have : (qkw (zwl tp n b)).toNat = i := this
          omega
        · cases q
      · cases q
    · rintro ⟨u, w⟩
      rw [if_pos u, if_pos (by rw [c.2 w]; omega), c.2 w, show ((i : Int)).toNat = i by omega]
  by_cases q : qWr tp n b = some (12, i)
  · rw [zif_pos q]
    exact zbT S (e.1 q)
  · rw [zif_neg q]
    exact zbF S (fun w => q (e.2 w))
theorem qWr_n {b : Int} : qWr tp n b = none ↔ ¬ (zkd tp n b = 1 ∧ 0 ≤ qkw (zwl tp n b)) := by
  unfold qWr qWo
  constructor
  · intro q
    split at q
    · split at q
      · cases q
      · rename_i u w
        exact fun z => w z.2
    · rename_i u
      exact fun z => u z.1
  · intro q
    split
    · split
      · rename_i u w
        exact absurd ⟨u, w⟩ q
      · rfl
    · rfl
theorem zT_isName_s (hA : qA tp n S b) (d : Nat) : zT_isName (d + 1) S = some (zb (zkd tp n b = 1 ∧ qkw (zwl tp n b) < 0), S) := by
  have k := zkd_b tp n b
  rw [eT_isName, hA.2.2.1, hA.2.2.2, zI_n1, zI_eq (by omega) (by omega) (by omega) (by omega)]
  by_cases q : zkd tp n b = 1
  · rw [zif_pos q]
    by_cases w : qWr tp n b = none
    · rw [zif_pos w]
      exact zbT S ⟨q, by have := qWr_n.1 w; omega⟩
    · rw [zif_neg w]
      exact zbF S (fun z => w (qWr_n.2 (by omega)))
  · rw [zif_neg q]
    exact zbF S (fun z => q z.1)
/-- the value that the word stands for, or -1 -/
def qva (tp : Int → Int) (n b : Int) : Int := if zkd tp n b = 1 ∧ 0 ≤ qkw (zwl tp n b) ∧ qkw (zwl tp n b) < 6 then qkw (zwl tp n b) else -1
theorem zT_value_s (hA : qA tp n S b) (d : Nat) : zT_value (d + 1) S = some (zI (qva tp n b), S) := by
  have kb := qkw_b (zwl tp n b)
  have wv : ∀ i : Nat, i < 13 → zwv i = zI (if i < 6 then (i : Int) else -1) := by decide +kernel
  rw [eT_value, hA.2.2.2]
  by_cases w : qWr tp n b = none
  · rw [zif_pos w]
    have e : qva tp n b = -1 := by
      have := qWr_n.1 w
      unfold qva
      rw [if_neg (fun z => this ⟨z.1, z.2.1⟩)]
    rw [e]
    rfl
  · have h : zkd tp n b = 1 ∧ 0 ≤ qkw (zwl tp n b) := by
      by_cases q : zkd tp n b = 1 ∧ 0 ≤ qkw (zwl tp n b)
      · exact q
      · exact absurd (qWr_n.2 q) w
    have e : qWr tp n b = some (12, (qkw (zwl tp n b)).toNat) := by
      unfold qWr qWo
      rw [if_pos h.1, if_pos h.2]
    rw [zif_neg w, e]
    have dd : ∀ (i : Nat) (k : Nat → Option (Int32 × ZS)), zder (some (12, i)) 12 k = k i := fun i k => rfl
    rw [dd, wv _ (by omega)]
    unfold qva
    by_cases q : qkw (zwl tp n b) < 6
    · rw [if_pos (by omega), if_pos ⟨h.1, h.2, q⟩, show (((qkw (zwl tp n b)).toNat : Nat) : Int) = qkw (zwl tp n b) by omega]
    · rw [if_neg (by omega), if_neg (fun z => q z.2.2)]
theorem zT_number_s (hB : qB tp n) (hC : qC tp n S) {b : Int} (hb : 0 ≤ b ∧ b ≤ n) (hA : qA tp n S b) (d : Nat) (h2 : zkd tp n b = 2) : zT_number (d + 1) S = some (zI (znv tp n b), S) := by
  have bn := hB.1
  have hbn : b < n := zkd_n (tp := tp) (n := n) (b := b) (by omega)
  have f := zrnl_b tp 48 57 (n - b).toNat b
  have hk : ¬ 0 < zLt tp n b ∧ 0 < zFg tp n b ∧ zFg tp n b ≤ 4 := by
    unfold zkd at h2
    rw [if_neg (by omega)] at h2
    split at h2
    · split at h2 <;> omega
    · split at h2
      · split at h2
        · omega
        · omega
      · split at h2 <;> omega
  have ln : zlnt tp n b = zFg tp n b := by unfold zlnt; rw [if_neg (by omega), if_neg hk.1, if_pos hk.2.1]
  have fb : b + zFg tp n b ≤ n := by unfold zFg; omega
  have key : ∀ (m i : Nat), (i : Int) + m = zFg tp n b → zT_number_4 d (zI (zvl 10 (fun k => tp (b + k) - 48) i)) (zI i) S = some (zI (znv tp n b), S) := by
    intro m
    induction m with
    | zero =>
      intro i e
      rw [eT_number_4, hA.2.1, ln, zI_le (by omega) (by omega) (by omega) (by omega), zif_pos (by omega)]
      unfold znv
      rw [show (zFg tp n b).toNat = i by omega]
    | succ m ih =>
      intro i e
      have r := ih (i + 1) (by omega)
      have bt := hB.2 (b + i) (by omega) (by omega)
      rw [eT_number_4, hA.2.1, hA.1, ln, zI_le (by omega) (by omega) (by omega) (by omega), zif_neg (by omega), zI_add, zg_t (by rw [zI_in (by omega) (by omega)]; omega), zI_zx (by omega) (by omega), hC.2 (b + i) (by omega) (by omega), zI_n10, zI_mul, zI_n48, zI_sub, zI_add, zI_n1, zI_add]
      rw [zvl, show (((i + 1 : Nat)) : Int) = (i : Int) + 1 by omega] at r
      rw [show zvl 10 (fun k => tp (b + k) - 48) i * 10 + (tp (b + ↑i) - 48) = 10 * zvl 10 (fun k => tp (b + k) - 48) i + (tp (b + ↑i) - 48) by omega]
      exact r
  rw [eT_number, zI_n0]
  exact key (zFg tp n b).toNat 0 (by omega)
theorem zT_letters_s (hB : qB tp n) (hC : qC tp n S) {b : Int} (hb : 0 ≤ b ∧ b ≤ n) (hA : qA tp n S b) (d : Nat) (h1 : zkd tp n b = 1) : zT_letters (d + 1) S = some (zJ (zwc tp n b), S) := by
  have bn := hB.1
  have hbn : b < n := zkd_n (tp := tp) (n := n) (b := b) (by omega)
  have l := zrnl_b tp 97 122 (n - b).toNat b
  have hk : 0 < zLt tp n b ∧ zLt tp n b ≤ 8 := by
    unfold zkd at h1
    rw [if_neg (by omega)] at h1
    split at h1
    · split at h1 <;> omega
    · split at h1
      · split at h1 <;> omega
      · split at h1 <;> omega
  have ln : zlnt tp n b = zLt tp n b := by unfold zlnt; rw [if_neg (by omega), if_pos hk.1]
  have fb : b + zLt tp n b ≤ n := by unfold zLt; omega
  have key : ∀ (m i : Nat), (i : Int) + m = zLt tp n b → zT_letters_4 d (zJ (zvl 32 (fun k => tp (b + k) - 96) i)) (zI i) S = some (zJ (zwc tp n b), S) := by
    intro m
    induction m with
    | zero =>
      intro i e
      rw [eT_letters_4, hA.2.1, ln, zI_le (by omega) (by omega) (by omega) (by omega), zif_pos (by omega)]
      unfold zwc
      rw [show (zLt tp n b).toNat = i by omega]
    | succ m ih =>
      intro i e
      have r := ih (i + 1) (by omega)
      have bt := hB.2 (b + i) (by omega) (by omega)
      rw [eT_letters_4, hA.2.1, hA.1, ln, zI_le (by omega) (by omega) (by omega) (by omega), zif_neg (by omega), zI_add, zg_t (by rw [zI_in (by omega) (by omega)]; omega), zI_zx (by omega) (by omega), hC.2 (b + i) (by omega) (by omega), zI_n97, zI_sub, zI_n1, zI_add, zI_add, zI_J (by omega) (by omega), zJ_n32, zJ_mul, zJ_add]
      rw [zvl, show (((i + 1 : Nat)) : Int) = (i : Int) + 1 by omega] at r
      rw [show zvl 32 (fun k => tp (b + k) - 96) i * 32 + (tp (b + ↑i) - 97 + 1) = 32 * zvl 32 (fun k => tp (b + k) - 96) i + (tp (b + ↑i) - 96) by omega]
      exact r
  rw [eT_letters, zI_n0, zJ_n0]
  exact key (zLt tp n b).toNat 0 (by omega)
end NX
