/-! THE TARIFF: a token as one number: 0 to 12 a word of the language, 50 a name, 60 a number, 70 the end, 71 none, 100 + c the sign c -/
def qtc (tp : Int → Int) (n b : Int) : Int := if zkd tp n b = 1 then (if qkw (zwl tp n b) < 0 then 50 else qkw (zwl tp n b)) else if zkd tp n b = 2 then 60 else if zkd tp n b = 3 then 100 + tp b else if zkd tp n b = 0 then 70 else 71
section TC
variable {tp : Int → Int} {n b : Int} {S : ZS}
theorem zkd_3 (h : zkd tp n b = 3) : b < n ∧ ((40 ≤ tp b ∧ tp b ≤ 43) ∨ tp b = 45 ∨ (59 ≤ tp b ∧ tp b ≤ 61)) := by
  unfold zkd at h
  split at h
  · omega
  · split at h
    · split at h <;> omega
    · split at h
      · split at h <;> omega
      · split at h <;> omega
theorem qtc_f : (zkd tp n b = 0 ∧ qtc tp n b = 70) ∨ (zkd tp n b = 1 ∧ qkw (zwl tp n b) < 0 ∧ qtc tp n b = 50) ∨ (zkd tp n b = 1 ∧ 0 ≤ qkw (zwl tp n b) ∧ qkw (zwl tp n b) ≤ 12 ∧ qtc tp n b = qkw (zwl tp n b)) ∨ (zkd tp n b = 2 ∧ qtc tp n b = 60) ∨ (zkd tp n b = 3 ∧ 40 ≤ tp b ∧ tp b ≤ 61 ∧ qtc tp n b = 100 + tp b) ∨ (zkd tp n b = 4 ∧ qtc tp n b = 71) := by
  have k := zkd_b tp n b
  have w := qkw_b (zwl tp n b)
  by_cases k1 : zkd tp n b = 1
  · by_cases q : qkw (zwl tp n b) < 0
    · exact Or.inr (Or.inl ⟨k1, q, by unfold qtc; rw [if_pos k1, if_pos q]⟩)
    · exact Or.inr (Or.inr (Or.inl ⟨k1, by omega, w.2, by unfold qtc; rw [if_pos k1, if_neg q]⟩))
  · by_cases k2 : zkd tp n b = 2
    · exact Or.inr (Or.inr (Or.inr (Or.inl ⟨k2, by unfold qtc; rw [if_neg k1, if_pos k2]⟩)))
    · by_cases k3 : zkd tp n b = 3
      · have := (zkd_3 k3).2
        exact Or.inr (Or.inr (Or.inr (Or.inr (Or.inl ⟨k3, by omega, by omega, by unfold qtc; rw [if_neg k1, if_neg k2, if_pos k3]⟩))))
      · by_cases k0 : zkd tp n b = 0
        · exact Or.inl ⟨k0, by unfold qtc; rw [if_neg k1, if_neg k2, if_neg k3, if_pos k0]⟩
        · exact Or.inr (Or.inr (Or.inr (Or.inr (Or.inr ⟨by omega, by unfold qtc; rw [if_neg k1, if_neg k2, if_neg k3, if_neg k0]⟩))))
theorem qtc_b : 0 ≤ qtc tp n b ∧ qtc tp n b ≤ 161 := by
  rcases qtc_f (tp := tp) (n := n) (b := b) with h | h | h | h | h | h <;> omega
theorem qtc_w {i : Int} (hi : 0 ≤ i ∧ i ≤ 12) : (zkd tp n b = 1 ∧ zwl tp n b = qcd i) ↔ qtc tp n b = i := by
  have c := qkw_c (zwl tp n b) i hi
  rcases qtc_f (tp := tp) (n := n) (b := b) with h | h | h | h | h | h
  · exact ⟨fun q => by omega, fun q => by omega⟩
  · exact ⟨fun q => by have := c.2 q.2; omega, fun q => by omega⟩
  · exact ⟨fun q => by have := c.2 q.2; omega, fun q => ⟨h.1, c.1 (by omega)⟩⟩
  · exact ⟨fun q => by omega, fun q => by omega⟩
  · exact ⟨fun q => by omega, fun q => by omega⟩
  · exact ⟨fun q => by omega, fun q => by omega⟩
theorem qtc_s {c : Int} (hc : 0 ≤ c) : (zkd tp n b = 3 ∧ tp b = c) ↔ qtc tp n b = 100 + c := by
  rcases qtc_f (tp := tp) (n := n) (b := b) with h | h | h | h | h | h <;> exact ⟨fun q => by omega, fun q => by omega⟩
theorem qtc_n : (zkd tp n b = 1 ∧ qkw (zwl tp n b) < 0) ↔ qtc tp n b = 50 := by
  rcases qtc_f (tp := tp) (n := n) (b := b) with h | h | h | h | h | h <;> exact ⟨fun q => by omega, fun q => by omega⟩
theorem qtc_2 : zkd tp n b = 2 ↔ qtc tp n b = 60 := by
  rcases qtc_f (tp := tp) (n := n) (b := b) with h | h | h | h | h | h <;> exact ⟨fun q => by omega, fun q => by omega⟩
theorem qtc_0 : zkd tp n b = 0 ↔ qtc tp n b = 70 := by
  rcases qtc_f (tp := tp) (n := n) (b := b) with h | h | h | h | h | h <;> exact ⟨fun q => by omega, fun q => by omega⟩
theorem qtc_v : qva tp n b = if qtc tp n b < 6 then qtc tp n b else -1 := by
  unfold qva
  rcases qtc_f (tp := tp) (n := n) (b := b) with h | h | h | h | h | h
  · rw [if_neg (by omega), if_neg (by omega)]
  · rw [if_neg (by omega), if_neg (by omega)]
  · by_cases q : qtc tp n b < 6
    · rw [if_pos q, if_pos (by omega), h.2.2.2]
    · rw [if_neg q, if_neg (by omega)]
  · rw [if_neg (by omega), if_neg (by omega)]
  · rw [if_neg (by omega), if_neg (by omega)]
  · rw [if_neg (by omega), if_neg (by omega)]
/-- not at the end -/
theorem qtc_l (h : qtc tp n b ≠ 70) : b < n := by
  refine zkd_n (tp := tp) (n := n) (b := b) (fun q => h (qtc_0.1 q))
/-! asked by the class -/
theorem cT_end (hA : qA tp n S b) (d : Nat) : zT_isAtEnd (d + 1) S = some (zb (qtc tp n b = 70), S) := by rw [zT_isAtEnd_s hA, zb_c qtc_0]
theorem cT_num (hA : qA tp n S b) (d : Nat) : zT_isNumber (d + 1) S = some (zb (qtc tp n b = 60), S) := by rw [zT_isNumber_s hA, zb_c qtc_2]
theorem cT_name (hA : qA tp n S b) (d : Nat) : zT_isName (d + 1) S = some (zb (qtc tp n b = 50), S) := by rw [zT_isName_s hA, zb_c qtc_n]
theorem cT_val (hA : qA tp n S b) (d : Nat) : zT_value (d + 1) S = some (zI (if qtc tp n b < 6 then qtc tp n b else -1), S) := by rw [zT_value_s hA, qtc_v]
theorem cT_word (hA : qA tp n S b) (d : Nat) {i : Nat} (hi : i < 13) : zT_isWord (d + 1) i S = some (zb (qtc tp n b = i), S) := by rw [zT_isWord_s hA d hi, zb_c (qtc_w (by omega))]
theorem cT_sign (hB : qB tp n) (hC : qC tp n S) (hb : 0 ≤ b ∧ b ≤ n) (hA : qA tp n S b) (d : Nat) {c : Int} (hc : 0 ≤ c ∧ c < 200) : zT_isSign (d + 1) (zI c) S = some (zb (qtc tp n b = 100 + c), S) := by rw [zT_isSign_s hB hC hb hA d hc, zb_c (qtc_s hc.1)]
/-! asked by the reference -/
theorem cM_word (hM : qM tp n S b) (d : Nat) {i : Int} (hi : 0 ≤ i ∧ i ≤ 12) {c : Int64} (hc : c = zJ (qcd i)) : zM_isWord (d + 1) c S = some (zb (qtc tp n b = i), S) := by
  have bi : 0 ≤ qcd i ∧ qcd i < 1099511627776 := by
    unfold qcd
    repeat' split
    all_goals omega
  rw [hc, zM_isWord_s hM d bi, zb_c (qtc_w hi)]
theorem cM_sign (hB : qB tp n) (hD : qD tp n S) (hb : 0 ≤ b ∧ b ≤ n) (hM : qM tp n S b) (d : Nat) {c : Int} (hc : 0 ≤ c ∧ c < 200) : zM_isSign (d + 1) (zI c) S = some (zb (qtc tp n b = 100 + c), S) := by rw [zM_isSign_s hB hD hb hM d hc, zb_c (qtc_s hc.1)]
theorem cM_fact (hM : qM tp n S b) (d : Nat) : zM_fact (d + 1) S = some (zI (if qtc tp n b < 6 then qtc tp n b + 1 else 0), S) := by
  have e : qva tp n b + 1 = if qtc tp n b < 6 then qtc tp n b + 1 else 0 := by
    rw [qtc_v]
    split <;> omega
  rw [zM_fact_s hM, e]
theorem cM_own (hM : qM tp n S b) (h1 : zkd tp n b = 1) (d : Nat) : zM_isOwn (d + 2) S = some (zb (qtc tp n b ≤ 12), S) := by
  rw [zM_isOwn_s hM h1]
  refine congrArg some (congrArg (fun v => (v, S)) (zb_c ?_))
  rcases qtc_f (tp := tp) (n := n) (b := b) with h | h | h | h | h | h <;> exact ⟨fun q => by omega, fun q => by omega⟩
end TC
/-! THE TARIFF: how an expression is read, purely: where, what is wanted, how deep, what each depth was opened by, where it was compared, the reference's code -/
abbrev QS : Type := Int × Int × Int × (Int → Int) × (Int → Int) × List Int
def qw (f : Int → Int) (k v : Int) : Int → Int := fun i => if i = k then v else f i
theorem qw_s (f : Int → Int) (k v : Int) : qw f k v k = v := if_pos rfl
theorem qw_n (f : Int → Int) {k i : Int} (v : Int) (h : i ≠ k) : qw f k v i = f i := if_neg h
/-- past the nots -/
def qpp : Nat → (Int → Int) → Int → Int
  | 0, _, d => d
  | k + 1, op, d => if op d = 1 then qpp k op (d - 1) else d
def qtl (tp : Int → Int) (n : Int) (bt : Int → Int) (m b : Int) : Int := if qtc tp n b = 50 then 10 + qsl tp n bt m b else if qtc tp n b = 60 then 100 + znv tp n b else qtc tp n b + 1
section PM
variable (tp : Int → Int) (n : Int) (bt : Int → Int) (m : Int)
def qnx (s : QS) : Option QS :=
  if s.2.1 = 1 then
    (if qtc tp n s.1 < 6 ∨ qtc tp n s.1 = 50 ∨ qtc tp n s.1 = 60 then
      (if qtc tp n s.1 = 50 ∧ qsl tp n bt m s.1 < 0 then none else if s.2.2.1 = 5 then none else
        some (znx tp n s.1, 0, qpp s.2.2.1.toNat s.2.2.2.1 s.2.2.1, s.2.2.2.1, s.2.2.2.2.1, s.2.2.2.2.2 ++ [qtl tp n bt m s.1]))
    else if qtc tp n s.1 = 12 ∨ qtc tp n s.1 = 140 then
      (if s.2.2.1 = 5 then none else some (znx tp n s.1, 1, s.2.2.1 + 1, qw s.2.2.2.1 (s.2.2.1 + 1) (if qtc tp n s.1 = 12 then 1 else 2), qw s.2.2.2.2.1 (s.2.2.1 + 1) 0, s.2.2.2.2.2 ++ [if qtc tp n s.1 = 12 then 30 else 28]))
    else none)
  else
    if qtc tp n s.1 = 143 ∨ qtc tp n s.1 = 145 ∨ qtc tp n s.1 = 142 then some (znx tp n s.1, 1, s.2.2.1, s.2.2.2.1, s.2.2.2.2.1, s.2.2.2.2.2 ++ [if qtc tp n s.1 = 143 then 20 else if qtc tp n s.1 = 145 then 21 else 22])
    else if (qtc tp n s.1 = 160 ∨ qtc tp n s.1 = 161) ∧ s.2.2.2.2.1 s.2.2.1 = 0 then some (znx tp n s.1, 1, s.2.2.1, s.2.2.2.1, qw s.2.2.2.2.1 s.2.2.1 1, s.2.2.2.2.2 ++ [if qtc tp n s.1 = 160 then 24 else 25])
    else if qtc tp n s.1 = 10 ∨ qtc tp n s.1 = 11 then some (znx tp n s.1, 1, s.2.2.1, s.2.2.2.1, qw s.2.2.2.2.1 s.2.2.1 0, s.2.2.2.2.2 ++ [if qtc tp n s.1 = 10 then 26 else 27])
    else if qtc tp n s.1 = 141 ∧ 0 < s.2.2.1 then some (znx tp n s.1, 0, qpp (s.2.2.1 - 1).toNat s.2.2.2.1 (s.2.2.1 - 1), s.2.2.2.1, s.2.2.2.2.1, s.2.2.2.2.2 ++ [29])
    else none
/-- why it stops: 0 at its end -/
def qer (s : QS) : Int :=
  if s.2.1 = 1 then
    (if qtc tp n s.1 < 6 ∨ qtc tp n s.1 = 50 ∨ qtc tp n s.1 = 60 then (if qtc tp n s.1 = 50 ∧ qsl tp n bt m s.1 < 0 then 2 else 5)
    else if qtc tp n s.1 = 12 ∨ qtc tp n s.1 = 140 then 5 else 1)
  else if qtc tp n s.1 = 159 ∧ s.2.2.1 = 0 then 0 else 1
def qre : Nat → QS → QS → Prop
  | 0, s, s' => s = s'
  | k + 1, s, s' => ∃ s1, qnx tp n bt m s = some s1 ∧ qre k s1 s'
def qrc (s s' : QS) : Prop := ∃ k, qre tp n bt m k s s'
theorem qrc_r (s : QS) : qrc tp n bt m s s := ⟨0, rfl⟩
theorem qre_t : ∀ (k k' : Nat) (s s' s'' : QS), qre tp n bt m k s s' → qre tp n bt m k' s' s'' → qrc tp n bt m s s''
  | 0, k', s, s', s'', h, h2 => ⟨k', by
    have h : s = s' := h
    rw [h]
    exact h2⟩
  | k + 1, k', s, s', s'', h, h2 => by
    obtain ⟨s1, e, h⟩ := h
    obtain ⟨j, hj⟩ := qre_t k k' s1 s' s'' h h2
    exact ⟨j + 1, s1, e, hj⟩
theorem qrc_t {s s' s'' : QS} (h : qrc tp n bt m s s') (h2 : qrc tp n bt m s' s'') : qrc tp n bt m s s'' := by
  obtain ⟨k, h⟩ := h
  obtain ⟨k', h2⟩ := h2
  exact qre_t tp n bt m k k' s s' s'' h h2
theorem qrc_1 {s s1 : QS} (h : qnx tp n bt m s = some s1) : qrc tp n bt m s s1 := ⟨1, s1, h, rfl⟩
end PM
theorem qpp_o {op : Int → Int} {w : Int} (hw : 0 ≤ w) (h : w = 0 ∨ op w ≠ 1) : qpp w.toNat op w = w := by
  rcases h with h | h
  · rw [h]
    rfl
  · by_cases q : w = 0
    · rw [q]
      rfl
    · rw [show w.toNat = (w.toNat - 1) + 1 by omega, qpp, if_neg h]
theorem qpp_c {op op' : Int → Int} : ∀ (k : Nat) (w : Int), (∀ d, d ≤ w → op' d = op d) → qpp k op' w = qpp k op w
  | 0, _, _ => rfl
  | k + 1, w, h => by
    rw [qpp, qpp, h w (Int.le_refl _), qpp_c k (w - 1) (fun d hd => h d (by omega))]
theorem qpp_b {op : Int → Int} : ∀ (k : Nat) (w : Int), w = k → 0 ≤ qpp k op w ∧ qpp k op w ≤ w
  | 0, w, h => by
    rw [qpp]
    omega
  | k + 1, w, h => by
    have := qpp_b (op := op) k (w - 1) (by omega)
    rw [qpp]
    split <;> omega
