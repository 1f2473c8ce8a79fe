/-! LAID of the reference: what is taken is given back; the next choice -/
def zGv (z : ZW) : List Int → ZW
  | [] => z
  | a :: L => zGv (xu z 40 a 0) L
theorem zGv_g {g : Nat} (hg : g ≠ 40) : ∀ (L : List Int) (z : ZW), zGv z L g = z g
  | [], z => rfl
  | a :: L, z => by
    rw [zGv, zGv_g hg L]
    funext k
    exact xu_g z hg
theorem zGv_o {a : Int} : ∀ (L : List Int) (z : ZW), a ∉ L → zGv z L 40 a = z 40 a
  | [], z, _ => rfl
  | b :: L, z, h => by
    rw [zGv, zGv_o L _ (fun q => h (List.mem_cons_of_mem _ q))]
    exact xu_k z (fun q => h (by rw [q]; exact List.mem_cons_self))
theorem zGv_i {a : Int} : ∀ (L : List Int) (z : ZW), a ∈ L → zGv z L 40 a = 0
  | b :: L, z, h => by
    rw [zGv]
    by_cases q : a ∈ L
    · exact zGv_i L _ q
    · rw [zGv_o L _ q]
      rcases List.mem_cons.1 h with r | r
      · rw [r]
        exact xu_s z 40 b 0
      · exact absurd r q
theorem zTr_o {a : Int} : ∀ (L : List Int) (y : ZW), a ∉ L → zTr y L 40 a = y 40 a
  | [], y, _ => rfl
  | b :: L, y, h => by
    rw [zTr, zTr_o L _ (fun q => h (List.mem_cons_of_mem _ q))]
    exact xu_k y (fun q => h (by rw [q]; exact List.mem_cons_self))
theorem zTr_i {a : Int} : ∀ (L : List Int) (y : ZW), a ∈ L → zTr y L 40 a = 1
  | b :: L, y, h => by
    rw [zTr]
    by_cases q : a ∈ L
    · exact zTr_i L _ q
    · rw [zTr_o L _ q]
      rcases List.mem_cons.1 h with r | r
      · rw [r]
        exact xu_s y 40 b 1
      · exact absurd r q
theorem zGv_b {y : ZW} {L : List Int} (h : ∀ a ∈ L, y 40 a = 0) : zGv (zTr y L) L = y := by
  funext g a
  by_cases hg : g = 40
  · subst hg
    by_cases q : a ∈ L
    · rw [zGv_i L _ q, h a q]
    · rw [zGv_o L _ q, zTr_o L _ q]
  · rw [zGv_g hg L, zTr_g hg L]
/-- digit i of a choice's number -/
def zchc (q i : Int) : Int := if i = 0 then q / 1024 else if i = 1 then q / 256 % 4 else if i = 2 then q / 64 % 4 else if i = 3 then q / 16 % 4 else if i = 4 then q / 4 % 4 else q % 4
def zpwc (i : Int) : Int := if i = 0 then 1024 else if i = 1 then 256 else if i = 2 then 64 else if i = 3 then 16 else if i = 4 then 4 else 1
theorem zchc_b {q N : Int} (h0 : 0 ≤ q) (h1 : q < 1024 * N) : (0 ≤ zchc q 0 ∧ zchc q 0 < N) ∧ ∀ i, 1 ≤ i → i ≤ 5 → 0 ≤ zchc q i ∧ zchc q i < 4 := by
  refine ⟨?_, fun i i0 i1 => ?_⟩
  · show 0 ≤ q / 1024 ∧ q / 1024 < N
    omega
  · have : i = 1 ∨ i = 2 ∨ i = 3 ∨ i = 4 ∨ i = 5 := by omega
    unfold zchc
    rcases this with rfl | rfl | rfl | rfl | rfl <;> simp only [Int.reduceEq, if_true, if_false] <;> omega
theorem zchc_0 {q a j : Int} (h0 : 0 ≤ q) (ha : 0 ≤ a ∧ a ≤ 5) (hj : 0 ≤ j ∧ j ≤ 5) : zchc (q / zpwc a * zpwc a) j = if j ≤ a then zchc q j else 0 := by
  have h1 : a = 0 ∨ a = 1 ∨ a = 2 ∨ a = 3 ∨ a = 4 ∨ a = 5 := by omega
  have h2 : j = 0 ∨ j = 1 ∨ j = 2 ∨ j = 3 ∨ j = 4 ∨ j = 5 := by omega
  unfold zchc zpwc
  rcases h1 with rfl | rfl | rfl | rfl | rfl | rfl <;> rcases h2 with rfl | rfl | rfl | rfl | rfl | rfl <;> simp only [Int.reduceEq, Int.reduceLE, if_true, if_false] <;> omega
/-- the same choice as far as a -/
theorem zchc_e {q q' a j : Int} (h0 : 0 ≤ q) (h : q ≤ q') (h' : q' < (q / zpwc a + 1) * zpwc a) (ha : 0 ≤ a ∧ a ≤ 5) (hj : 0 ≤ j ∧ j ≤ a) : zchc q' j = zchc q j := by
  have h1 : a = 0 ∨ a = 1 ∨ a = 2 ∨ a = 3 ∨ a = 4 ∨ a = 5 := by omega
  have h2 : j = 0 ∨ j = 1 ∨ j = 2 ∨ j = 3 ∨ j = 4 ∨ j = 5 := by omega
  unfold zpwc at h'
  unfold zchc
  rcases h1 with rfl | rfl | rfl | rfl | rfl | rfl <;> rcases h2 with rfl | rfl | rfl | rfl | rfl | rfl <;> simp only [Int.reduceEq, if_true, if_false] at h' ⊢ <;> omega
theorem zchc_u {c i j : Int} (h0 : 0 ≤ c) (hi : 1 ≤ i ∧ i ≤ 5) (hj : 0 ≤ j ∧ j ≤ 5) (hc : zchc c i < 3) : zchc (c + zpwc i) j = if j = i then zchc c i + 1 else zchc c j := by
  have h1 : i = 1 ∨ i = 2 ∨ i = 3 ∨ i = 4 ∨ i = 5 := by omega
  have h2 : j = 0 ∨ j = 1 ∨ j = 2 ∨ j = 3 ∨ j = 4 ∨ j = 5 := by omega
  unfold zchc zpwc at *
  rcases h1 with rfl | rfl | rfl | rfl | rfl <;> rcases h2 with rfl | rfl | rfl | rfl | rfl | rfl <;> simp only [Int.reduceEq, if_true, if_false] at hc ⊢ <;> omega
theorem zchc_u0 {c j : Int} (h0 : 0 ≤ c) (hj : 0 ≤ j ∧ j ≤ 5) : zchc (c + zpwc 0) j = if j = 0 then zchc c 0 + 1 else zchc c j := by
  have h2 : j = 0 ∨ j = 1 ∨ j = 2 ∨ j = 3 ∨ j = 4 ∨ j = 5 := by omega
  unfold zchc zpwc
  rcases h2 with rfl | rfl | rfl | rfl | rfl | rfl <;> simp only [Int.reduceEq, if_true, if_false] <;> omega
theorem zchc_v {c i j : Int} (h0 : 0 ≤ c) (hi : 1 ≤ i ∧ i ≤ 5) (hj : 0 ≤ j ∧ j ≤ 5) (hc : 3 ≤ zchc c i) : zchc (c - 3 * zpwc i) j = (if j = i then 0 else zchc c j) ∧ 0 ≤ c - 3 * zpwc i ∧ c - 3 * zpwc i + zpwc (i - 1) = c + zpwc i := by
  have h1 : i = 1 ∨ i = 2 ∨ i = 3 ∨ i = 4 ∨ i = 5 := by omega
  have h2 : j = 0 ∨ j = 1 ∨ j = 2 ∨ j = 3 ∨ j = 4 ∨ j = 5 := by omega
  unfold zchc zpwc at *
  rcases h1 with rfl | rfl | rfl | rfl | rfl <;> rcases h2 with rfl | rfl | rfl | rfl | rfl | rfl <;> simp only [Int.reduceEq, Int.reduceSub, if_true, if_false] at hc ⊢ <;> omega
/-- the cells of a choice -/
def zCh (S : ZS) (base : Int) (f : Int → Int) : Prop := ∀ i, 0 ≤ i → i ≤ 5 → S.1 113 0 (base + i).toNat = zI (f i)
/-- what the next choice leaves alone -/
def zCf (base : Int) (S S' : ZS) : Prop := S'.1 115 = S.1 115 ∧ ∀ i : Int, 0 ≤ i → (i < base ∨ base + 5 < i) → S'.1 113 0 i.toNat = S.1 113 0 i.toNat
section CN
variable {K : ZS} {x y : ZW} {S : ZS}
theorem zM_gives_2_s (d : Nat) : ∀ (L : List Int) (i : Int) (S : ZS) (z : ZW), 0 ≤ i → i + L.length ≤ 16 → zR K x z S → zAt 114 S i L → S.1 11 0 72 = zI (i + L.length) → (∀ a ∈ L, 0 ≤ a ∧ a < 116) → zwp (zM_gives_2 d (zI i) S) (fun S' => zR K x (zGv z L) S' ∧ zLf2 S S')
  | [], i, S, z, i0, i1, h, at1, c, b => by
    rw [List.length_nil] at c i1
    rw [eM_gives_2, c, zI_le (by omega) (by omega) (by omega) (by omega), zif_pos (by omega), zwp_some]
    exact ⟨h, rfl, rfl⟩
  | a :: L, i, S, z, i0, i1, h, at1, c, b => by
    rw [List.length_cons] at c i1
    have ba := b a List.mem_cons_self
    have w := zWm40 h (k := a) (v := 0) (by omega) (by omega) (by omega) (by omega)
    have r := zM_gives_2_s d L (i + 1) _ _ (by omega) (by omega) w (zAt_c (S := S) L (i + 1) (fun _ _ _ => rfl) at1.2) (c.trans (congrArg zI (by omega))) (fun a' ha => b a' (List.mem_cons_of_mem _ ha))
    rw [eM_gives_2, c, zI_le (by omega) (by omega) (by omega) (by omega), zif_neg (by omega), zg_t (by rw [zI_in (by omega) (by omega)]; omega), zI_zx (by omega) (by omega), at1.1, zg_t (by rw [zI_in (by omega) (by omega)]; omega), zg_t (show zbl 0 = true from rfl), zI_zx (by omega) (by omega), zI_n1, zI_add, zI_n0]
    exact r
theorem zM_gives_s (d : Nat) {z : ZW} {L : List Int} (h : zR K x z S) (hL : L.length ≤ 16) (a : zAt 114 S 0 L) (c : S.1 11 0 72 = zI L.length) (b : ∀ a ∈ L, 0 ≤ a ∧ a < 116) : zwp (zM_gives (d + 1) S) (fun S' => zR K x (zGv z L) S' ∧ zLf2 S S') := by
  rw [eM_gives, zI_n0]
  exact zM_gives_2_s d L 0 S z (by omega) (by omega) h a (c.trans (congrArg zI (by omega))) b
theorem zM_counts_31_s (gp : zGp y) (d : Nat) {l base N : Int} (hl : zLn y l) (hb : 0 ≤ base ∧ base ≤ 6) (hN : y 4 (y 12 l) = N) :
    ∀ (n : Nat) (c : Int) (S : ZS), n ≤ 5 → 0 ≤ c → zchc c 0 < N → zR K x y S → zCh S base (zchc c) → zwp (zM_counts_31 d (zI l) (zI base) (zI n) S) (fun r => r.1 = zb (c + zpwc n < 1024 * N) ∧ zR K x y r.2 ∧ (c + zpwc n < 1024 * N → zCh r.2 base (zchc (c + zpwc n))) ∧ zCf base S r.2) := by
  have b11 := zG11 gp
  have b12 := zG12 gp l
  have b4 := zG4 gp (y 12 l)
  intro n
  induction n with
  | zero =>
    intro c S n5 c0 cN h hc
    have c113 := hc 0 (by omega) (by omega)
    rw [show base + 0 = base by omega] at c113
    have z0 : zchc c 0 = c / 1024 := rfl
    have e12 : ∀ v : Int32, (zu S.1 113 0 base.toNat v) 67 0 l.toNat = zI (y 12 l) := fun v => zRm12 h hl.1 (by have := hl.2; omega)
    have e4 : ∀ v : Int32, (zu S.1 113 0 base.toNat v) 60 0 (y 12 l).toNat = zI (y 4 (y 12 l)) := fun v => zRm4 h (by omega) (by omega)
    have hl40 : 0 ≤ l ∧ l < 40 := by have := hl.1; have := hl.2; omega
    have w1 := zR_t h (t := 113) (by decide) 0 base.toNat (zI (zchc c 0 + 1))
    have fr : zCf base S (zu S.1 113 0 base.toNat (zI (zchc c 0 + 1)), S.2) := ⟨rfl, fun i i0 i1 => zu_pl S.1 (show i.toNat ≠ base.toNat by omega)⟩
    have p0 : zpwc 0 = 1024 := rfl
    rw [show ((0 : Nat) : Int) = 0 from rfl, eM_counts_31, zI_n0, zI_lt (by omega) (by omega) (by omega) (by omega), zif_neg (by omega), zI_add, show base + 0 = base by omega, zg_t (by rw [zI_in (by omega) (by omega)]; omega), zg_t (by rw [zI_in (by omega) (by omega)]; omega), zg_t (by rw [zI_in (by omega) (by omega)]; omega), zif_pos rfl, zg_t (by rw [zI_in (by omega) (by omega)]; omega), zI_zx (by omega) (by omega), zI_zx (by omega) (by omega), c113, zI_n1, zI_add, e12, zg_t (by rw [zI_in (by omega) (by omega)]; omega), zI_zx (by omega) (by omega), e4, hN, zu_same, zI_le (by omega) (by omega) (by omega) (by omega)]
    by_cases q : N ≤ zchc c 0 + 1
    · rw [zif_pos q, zg_t (by rw [zI_in (by omega) (by omega)]; omega), zI_neg, zI_add, eM_counts_31, zI_n0, zI_lt (by omega) (by omega) (by omega) (by omega), zif_pos (by omega), zwp_some]
      refine ⟨?_, zR_t w1 (t := 113) (by decide) 0 base.toNat (zI 0), fun w => by omega, rfl, fun i i0 i1 => (zu_pl (zu S.1 113 0 base.toNat (zI (zchc c 0 + 1))) (show i.toNat ≠ base.toNat by omega)).trans (fr.2 i i0 i1)⟩
      rw [zb_f (by omega)]
      rfl
    · rw [zif_neg q, zwp_some]
      refine ⟨?_, w1, fun w i i0 i1 => ?_, fr⟩
      · rw [zb_t (by omega)]
        rfl
      · rw [zchc_u0 c0 ⟨i0, i1⟩]
        by_cases hi : i = 0
        · rw [if_pos hi, hi, show base + 0 = base by omega]
          exact zu_same S.1 113 0 base.toNat (zI (zchc c 0 + 1))
        · rw [if_neg hi]
          exact (zu_pl S.1 (show (base + i).toNat ≠ base.toNat by omega)).trans (hc i i0 i1)
  | succ n ih =>
    intro c S n5 c0 cN h hc
    have c113 := hc ((n + 1 : Nat) : Int) (by omega) (by omega)
    have bc := (zchc_b (q := c) (N := c / 1024 + 1) c0 (by omega)).2 ((n + 1 : Nat) : Int) (by omega) (by omega)
    have w1 := zR_t h (t := 113) (by decide) 0 (base + ((n + 1 : Nat) : Int)).toNat (zI (zchc c ((n + 1 : Nat) : Int) + 1))
    have fr : zCf base S (zu S.1 113 0 (base + ((n + 1 : Nat) : Int)).toNat (zI (zchc c ((n + 1 : Nat) : Int) + 1)), S.2) := ⟨rfl, fun i i0 i1 => zu_pl S.1 (show i.toNat ≠ (base + ((n + 1 : Nat) : Int)).toNat by omega)⟩
    rw [eM_counts_31, zI_n0, zI_lt (by omega) (by omega) (by omega) (by omega), zif_neg (by omega), zI_add, zg_t (by rw [zI_in (by omega) (by omega)]; omega), zg_t (by rw [zI_in (by omega) (by omega)]; omega), zg_t (by rw [zI_in (by omega) (by omega)]; omega), zI_eq (by omega) (by omega) (by omega) (by omega), zif_neg (by omega), zI_zx (by omega) (by omega), c113, zI_n1, zI_add, zu_same, zI_n4, zI_le (by omega) (by omega) (by omega) (by omega)]
    by_cases q : 4 ≤ zchc c ((n + 1 : Nat) : Int) + 1
    · have v1 := fun j j0 j1 => zchc_v (c := c) (i := ((n + 1 : Nat) : Int)) (j := j) c0 (by omega) ⟨j0, j1⟩ (by omega)
      have v0 := v1 0 (by omega) (by omega)
      have en : ((n + 1 : Nat) : Int) - 1 = (n : Int) := by omega
      rw [en] at v0
      have r := ih (c - 3 * zpwc ((n + 1 : Nat) : Int)) _ (by omega) v0.2.1 (by rw [v0.1, if_neg (by omega)]; exact cN) (zR_t w1 (t := 113) (by decide) 0 (base + ((n + 1 : Nat) : Int)).toNat (zI 0)) (fun i i0 i1 => by
        rw [(v1 i i0 i1).1]
        by_cases hi : i = ((n + 1 : Nat) : Int)
        · rw [if_pos hi, hi]
          exact zu_same _ 113 0 (base + ((n + 1 : Nat) : Int)).toNat (zI 0)
        · rw [if_neg hi]
          exact (zu_pl (zu S.1 113 0 (base + ((n + 1 : Nat) : Int)).toNat (zI (zchc c ((n + 1 : Nat) : Int) + 1))) (show (base + i).toNat ≠ (base + ((n + 1 : Nat) : Int)).toNat by omega)).trans ((zu_pl S.1 (show (base + i).toNat ≠ (base + ((n + 1 : Nat) : Int)).toNat by omega)).trans (hc i i0 i1)))
      rw [v0.2.2] at r
      rw [zif_pos q, zg_t (by rw [zI_in (by omega) (by omega)]; omega), zI_neg, zI_add, show ((n + 1 : Nat) : Int) + -1 = (n : Int) by omega]
      refine zwp_mono r (fun r' k => ?_)
      obtain ⟨k1, k2, k3, k4⟩ := k
      refine ⟨k1, k2, k3, k4.1, fun i i0 i1 => (k4.2 i i0 i1).trans ?_⟩
      exact (zu_pl (zu S.1 113 0 (base + ((n + 1 : Nat) : Int)).toNat (zI (zchc c ((n + 1 : Nat) : Int) + 1))) (show i.toNat ≠ (base + ((n + 1 : Nat) : Int)).toNat by omega)).trans (fr.2 i i0 i1)
    · have u1 := fun j j0 j1 => zchc_u (c := c) (i := ((n + 1 : Nat) : Int)) (j := j) c0 (by omega) ⟨j0, j1⟩ (by omega)
      have u0 := u1 0 (by omega) (by omega)
      rw [if_neg (by omega)] at u0
      have z0 : zchc (c + zpwc ((n + 1 : Nat) : Int)) 0 = (c + zpwc ((n + 1 : Nat) : Int)) / 1024 := rfl
      rw [zif_neg q, zwp_some]
      refine ⟨?_, w1, fun w i i0 i1 => ?_, fr⟩
      · rw [zb_t (by omega)]
        rfl
      · rw [u1 i i0 i1]
        by_cases hi : i = ((n + 1 : Nat) : Int)
        · rw [if_pos hi, hi]
          exact zu_same S.1 113 0 (base + ((n + 1 : Nat) : Int)).toNat (zI (zchc c ((n + 1 : Nat) : Int) + 1))
        · rw [if_neg hi]
          exact (zu_pl S.1 (show (base + i).toNat ≠ (base + ((n + 1 : Nat) : Int)).toNat by omega)).trans (hc i i0 i1)
theorem zM_counts_s (h : zR K x y S) (gp : zGp y) (d : Nat) {l base N q a : Int} (hl : zLn y l) (hb : 0 ≤ base ∧ base ≤ 6) (hN : y 4 (y 12 l) = N) (ha : 0 ≤ a ∧ a ≤ 5) (hq : 0 ≤ q ∧ q < 1024 * N) (hc : zCh S base (zchc q)) :
    zwp (zM_counts (d + 1) (zI l) (zI base) (zI a) S) (fun r => r.1 = zb ((q / zpwc a + 1) * zpwc a < 1024 * N) ∧ zR K x y r.2 ∧ ((q / zpwc a + 1) * zpwc a < 1024 * N → zCh r.2 base (zchc ((q / zpwc a + 1) * zpwc a))) ∧ zCf base S r.2) := by
  have p0 : 0 ≤ q / zpwc a * zpwc a := by
    have : 0 < zpwc a := by unfold zpwc; repeat' split <;> omega
    exact Int.mul_nonneg (Int.ediv_nonneg hq.1 (by omega)) (by omega)
  have z0 := zchc_0 (q := q) (a := a) (j := 0) hq.1 ha (by omega)
  have key : ∀ (n : Nat) (i : Int) (S' : ZS), i + n = 6 → a < i → zR K x y S' → (∀ j, 0 ≤ j → j ≤ 5 → S'.1 113 0 (base + j).toNat = zI (if j ≤ a ∨ i ≤ j then zchc q j else 0)) → zCf base S S' →
      zwp (zM_counts_5 d (zI l) (zI base) (zI a) (zI i) S') (fun r => r.1 = zb ((q / zpwc a + 1) * zpwc a < 1024 * N) ∧ zR K x y r.2 ∧ ((q / zpwc a + 1) * zpwc a < 1024 * N → zCh r.2 base (zchc ((q / zpwc a + 1) * zpwc a))) ∧ zCf base S r.2) := by
    intro n
    induction n with
    | zero =>
      intro i S' e hi h' c' f'
      have r := zM_counts_31_s (K := K) (x := x) gp d hl hb hN a.toNat (q / zpwc a * zpwc a) S' (by omega) p0 (by rw [z0, if_pos (by omega)]; exact ((zchc_b hq.1 hq.2).1).2) h' (fun j j0 j1 => by
        rw [c' j j0 j1, zchc_0 hq.1 ha ⟨j0, j1⟩]
        by_cases w : j ≤ a
        · rw [if_pos (Or.inl w), if_pos w]
        · rw [if_neg (by omega), if_neg w])
      rw [show ((a.toNat : Nat) : Int) = a by omega, show q / zpwc a * zpwc a + zpwc a = (q / zpwc a + 1) * zpwc a by rw [Int.add_mul, Int.one_mul]] at r
      rw [eM_counts_5, zI_n6, zI_le (by omega) (by omega) (by omega) (by omega), zif_pos (by omega)]
      refine zwp_mono r (fun r' k => ?_)
      obtain ⟨k1, k2, k3, k4⟩ := k
      exact ⟨k1, k2, k3, k4.1.trans f'.1, fun i' i0 i1 => (k4.2 i' i0 i1).trans (f'.2 i' i0 i1)⟩
    | succ n ih =>
      intro i S' e hi h' c' f'
      rw [eM_counts_5, zI_n6, zI_le (by omega) (by omega) (by omega) (by omega), zif_neg (by omega), zI_add, zg_t (by rw [zI_in (by omega) (by omega)]; omega), zI_zx (by omega) (by omega), zI_n1, zI_add, zI_n0]
      refine ih (i + 1) _ (by omega) (by omega) (zR_t h' (t := 113) (by decide) 0 (base + i).toNat (zI 0)) (fun j j0 j1 => ?_) ⟨f'.1, fun j j0 j1 => (zu_pl S'.1 (show j.toNat ≠ (base + i).toNat by omega)).trans (f'.2 j j0 j1)⟩
      by_cases hj : j = i
      · rw [if_neg (by omega), hj]
        exact zu_same S'.1 113 0 (base + i).toNat (zI 0)
      · refine (zu_pl S'.1 (show (base + j).toNat ≠ (base + i).toNat by omega)).trans ((c' j j0 j1).trans (congrArg zI ?_))
        by_cases w : j ≤ a ∨ i ≤ j
        · rw [if_pos w, if_pos (by omega)]
        · rw [if_neg w, if_neg (by omega)]
  rw [eM_counts, zI_n1, zI_add]
  refine key (5 - a).toNat (a + 1) S (by omega) (by omega) h (fun j j0 j1 => ?_) ⟨rfl, fun _ _ _ => rfl⟩
  rw [hc j j0 j1, if_pos (by omega)]
end CN
