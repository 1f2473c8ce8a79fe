/-! LAID: both look for the same ways -/
def zPW (x : ZW) (U : Int → Prop) (hm m : Int) (dg : Int → Int) (Rg : Int → Int → Prop) (P : List Int) : Prop := ∃ i L, 0 ≤ i ∧ i < x 4 hm ∧ P = (8 * hm + i) :: L ∧ zPt x m dg Rg 0 (8 * hm + i) L ∧ P.Nodup ∧ ∀ a ∈ P, U a
theorem zPt_0 {x : ZW} {m : Int} {dg : Int → Int} {Rg : Int → Int → Prop} : ∀ (L : List Int) (k e : Int), zPt x m dg Rg k e L → ∀ a ∈ L, 0 ≤ a
  | [], _, _, _, a, ha => absurd ha List.not_mem_nil
  | f :: L, k, e, h, a, ha => by
    rcases List.mem_cons.1 ha with w | w
    · rw [w]; exact h.2.2.1
    · exact zPt_0 L _ _ h.2.2.2.2 a w
theorem zPt_d {x : ZW} {m : Int} {dg dg' : Int → Int} {Rg Rg' : Int → Int → Prop} (hd : ∀ k, 0 ≤ k → k < m → dg' k = dg k) (hr : ∀ k e, 0 ≤ k → (Rg' k e ↔ Rg k e)) : ∀ (L : List Int) (k e : Int), 0 ≤ k → (zPt x m dg' Rg' k e L ↔ zPt x m dg Rg k e L)
  | [], k, e, k0 => by
    unfold zPt
    rw [hr k e k0]
  | f :: L, k, e, k0 => by
    unfold zPt
    rw [zPt_d hd hr L (k + 1) f (by omega)]
    constructor
    · rintro ⟨a, b, c, d, f⟩
      rw [hd k k0 b] at d
      exact ⟨a, b, c, d, f⟩
    · rintro ⟨a, b, c, d, f⟩
      rw [← hd k k0 b] at d
      exact ⟨a, b, c, d, f⟩
theorem zPW_c {x x' : ZW} {U U' : Int → Prop} {hm m : Int} {dg dg' : Int → Int} {Rg Rg' : Int → Int → Prop} (e3 : x' 3 = x 3) (e4 : x' 4 = x 4) (e5 : x' 5 = x 5) (e6 : x' 6 = x 6) (hh : 0 ≤ hm) (hU : ∀ a, 0 ≤ a → (U' a ↔ U a)) (hd : ∀ k, 0 ≤ k → k < m → dg' k = dg k) (hr : ∀ k e, 0 ≤ k → (Rg' k e ↔ Rg k e)) (P : List Int) : zPW x' U' hm m dg' Rg' P ↔ zPW x U hm m dg Rg P := by
  unfold zPW
  rw [e4]
  constructor
  · rintro ⟨i, L, i0, i1, hP, h, hn, hu⟩
    have h' := (zPt_d hd hr L 0 _ (by omega)).1 ((zPt_c e3 e5 e6 m dg' Rg' L 0 _).1 h)
    refine ⟨i, L, i0, i1, hP, h', hn, fun a ha => (hU a ?_).1 (hu a ha)⟩
    rw [hP] at ha
    rcases List.mem_cons.1 ha with w | w
    · rw [w]; omega
    · exact zPt_0 L _ _ h' a w
  · rintro ⟨i, L, i0, i1, hP, h, hn, hu⟩
    refine ⟨i, L, i0, i1, hP, (zPt_c e3 e5 e6 m dg' Rg' L 0 _).2 ((zPt_d hd hr L 0 _ (by omega)).2 h), hn, fun a ha => (hU a ?_).2 (hu a ha)⟩
    rw [hP] at ha
    rcases List.mem_cons.1 ha with w | w
    · rw [w]; omega
    · exact zPt_0 L _ _ h a w
theorem zLay_P {x : ZW} {l hm m : Int} {dg : Int → Int} {Rg : Int → Int → Prop} {R : ZW → Prop} : zLay x l hm m dg Rg R ↔ ∃ P, zPW x (fun a => x 8 a < 0 ∧ x 9 a = 0 ∧ x 10 a = 0) hm m dg Rg P ∧ R (zTh x l P) := by
  constructor
  · rintro ⟨i, i0, i1, L, a, b, c, d⟩
    exact ⟨_, ⟨i, L, i0, i1, rfl, a, b, c⟩, d⟩
  · rintro ⟨P, ⟨i, L, i0, i1, hP, a, b, c⟩, d⟩
    subst hP
    exact ⟨i, i0, i1, L, a, b, c, d⟩
section SP
variable {m away : Int} {dg : Int → Int} {Rg : Int → Int → Prop}
theorem zUs_x {y : ZW} {e a : Int} : zUs (xu y 40 e 1) away a ↔ (a ≠ e ∧ zUs y away a) := by
  unfold zUs
  rw [xu_g y (by decide), xu_g y (by decide), xu_g y (by decide), xu_kk]
  constructor
  · rintro ⟨p, q, r, s⟩
    split at s
    · omega
    · exact ⟨by assumption, p, q, r, s⟩
  · rintro ⟨n, p, q, r, s⟩
    rw [if_neg n]
    exact ⟨p, q, r, s⟩
theorem zPt_40 {y : ZW} {e : Int} (L : List Int) (k h : Int) : zPt (xu y 40 e 1) m dg Rg k h L ↔ zPt y m dg Rg k h L := zPt_c (by funext k; exact xu_g y (by decide)) (by funext k; exact xu_g y (by decide)) (by funext k; exact xu_g y (by decide)) m dg Rg L k h
/-- a choice that succeeds is a path -/
theorem sLy_p {ch : Int → Int} (hch : ∀ i, 1 ≤ i → i ≤ 5 → 0 ≤ ch i ∧ ch i < 4) (hm : m ≤ 5) : ∀ (n : Nat) (y : ZW) (k h : Int), 0 ≤ k → (sLy m dg Rg away ch n y k h).1 = -1 → zPt y m dg Rg k h (sLy m dg Rg away ch n y k h).2 ∧ (sLy m dg Rg away ch n y k h).2.Nodup ∧ ∀ a ∈ (sLy m dg Rg away ch n y k h).2, zUs y away a
  | 0, y, k, h, k0, e => by
    have e : k = -1 := e
    omega
  | n + 1, y, k, h, k0, e => by
    rw [sLy] at e ⊢
    by_cases hE : zEg y h
    · rw [zIt_t hE] at e ⊢
      by_cases r : Rg k h
      · rw [zIt_t r]
        exact ⟨⟨hE, r⟩, List.nodup_nil, fun a ha => absurd ha List.not_mem_nil⟩
      · rw [zIt_f r] at e
        have e : k = -1 := e
        omega
    · rw [zIt_f hE] at e ⊢
      by_cases q : m ≤ k
      · rw [zIt_t q] at e
        have e : k = -1 := e
        omega
      · rw [zIt_f q] at e ⊢
        by_cases u : 0 ≤ y 6 (sBase y h (dg k) + ch (k + 1)) ∧ zUs y away (y 6 (sBase y h (dg k) + ch (k + 1)))
        · rw [zIt_t u] at e ⊢
          obtain ⟨a, b, c⟩ := sLy_p hch hm n _ (k + 1) _ (by omega) e
          have hc := hch (k + 1) (by omega) (by omega)
          refine ⟨⟨hE, by omega, u.1, ⟨ch (k + 1), hc.1, hc.2, rfl⟩, (zPt_40 _ _ _).1 a⟩, List.nodup_cons.2 ⟨fun w => (zUs_x.1 (c _ w)).1 rfl, b⟩, fun a' ha => ?_⟩
          rcases List.mem_cons.1 ha with w | w
          · rw [w]; exact u.2
          · exact (zUs_x.1 (c _ w)).2
        · rw [zIt_f u] at e
          have e : k + 1 = -1 := e
          omega
/-- a path is a choice that succeeds -/
theorem sLy_q (hm : m ≤ 5) : ∀ (L : List Int) (n : Nat) (y : ZW) (k h : Int), k + n = 6 → 0 ≤ k → k ≤ m → zPt y m dg Rg k h L → L.Nodup → (∀ a ∈ L, zUs y away a) → ∃ ch : Int → Int, (∀ i, 0 ≤ ch i ∧ ch i < 4) ∧ sLy m dg Rg away ch n y k h = (-1, L)
  | L, 0, y, k, h, e, k0, km, _, _, _ => by omega
  | [], n + 1, y, k, h, e, k0, km, p, _, _ => ⟨fun _ => 0, fun _ => ⟨Int.le_refl 0, show (0 : Int) < 4 by omega⟩, by rw [sLy, zIt_t p.1, zIt_t p.2]⟩
  | f :: L, n + 1, y, k, h, e, k0, km, p, nd, u => by
    obtain ⟨hE, k1, f0, ⟨w, w0, w1, w2⟩, p⟩ := p
    obtain ⟨n1, n2⟩ := List.nodup_cons.1 nd
    obtain ⟨ch, c1, c2⟩ := sLy_q hm L n (xu y 40 f 1) (k + 1) f (by omega) (by omega) (by omega) ((zPt_40 _ _ _).2 p) n2 (fun a ha => zUs_x.2 ⟨fun q => n1 (by rw [← q]; exact ha), u a (List.mem_cons_of_mem _ ha)⟩)
    refine ⟨fun i => if i = k + 1 then w else ch i, fun i => ?_, ?_⟩
    · dsimp only
      split
      · exact ⟨w0, w1⟩
      · exact c1 i
    · have ec : sLy m dg Rg away (fun i => if i = k + 1 then w else ch i) n (xu y 40 f 1) (k + 1) f = sLy m dg Rg away ch n (xu y 40 f 1) (k + 1) f := sLy_c n _ (k + 1) f (by omega) (by omega) (fun i i0 _ => if_neg (by omega))
      rw [sLy, zIt_f hE, zIt_f (by omega), if_pos rfl, w2, zIt_t ⟨f0, u f List.mem_cons_self⟩, ec, c2]
end SP
theorem zchc_mk {j : Int} {ch : Int → Int} (j0 : 0 ≤ j) (hc : ∀ i, 0 ≤ ch i ∧ ch i < 4) : ∀ i, 0 ≤ i → i ≤ 5 → zchc (1024 * j + 256 * ch 1 + 64 * ch 2 + 16 * ch 3 + 4 * ch 4 + ch 5) i = if i = 0 then j else ch i := by
  intro i i0 i1
  have c1 := hc 1
  have c2 := hc 2
  have c3 := hc 3
  have c4 := hc 4
  have c5 := hc 5
  have : i = 0 ∨ i = 1 ∨ i = 2 ∨ i = 3 ∨ i = 4 ∨ i = 5 := by omega
  unfold zchc
  rcases this with rfl | rfl | rfl | rfl | rfl | rfl <;> simp only [Int.reduceEq, if_true, if_false] <;> omega
theorem sLays_P {y : ZW} {l v m away g : Int} (hm : 0 ≤ m ∧ m ≤ 5) (hh : 0 ≤ y 12 l) (R : List Int → Prop) :
    (∃ q, 0 ≤ q ∧ q < 1024 * y 4 (y 12 l) ∧ (sLays y l v m away g (zchc q)).1 = -1 ∧ R (sLays y l v m away g (zchc q)).2) ↔ ∃ P, zPW y (zUs y away) (y 12 l) m (fun i => sDgt v (m - 1 - i)) (zRg y l g m (fun i => sDgt v (m - 1 - i))) P ∧ R P := by
  constructor
  · rintro ⟨q, q0, q1, s, r⟩
    have bq := zchc_b q0 q1
    unfold sLays at s r
    by_cases u : zUs y away (8 * y 12 l + zchc q 0)
    · rw [zIt_t u] at s r
      obtain ⟨a, b, c⟩ := sLy_p bq.2 hm.2 6 _ 0 _ (by omega) s
      refine ⟨_, ⟨zchc q 0, _, bq.1.1, bq.1.2, rfl, (zPt_40 _ _ _).1 a, List.nodup_cons.2 ⟨fun w => (zUs_x.1 (c _ w)).1 rfl, b⟩, fun a' ha => ?_⟩, r⟩
      rcases List.mem_cons.1 ha with w | w
      · rw [w]; exact u
      · exact (zUs_x.1 (c _ w)).2
    · rw [zIt_f u] at s
      have s : (0 : Int) = -1 := s
      omega
  · rintro ⟨P, ⟨j, L, j0, j1, hP, a, b, c⟩, r⟩
    subst hP
    obtain ⟨n1, n2⟩ := List.nodup_cons.1 b
    obtain ⟨ch, c1, c2⟩ := sLy_q (away := away) hm.2 L 6 (xu y 40 (8 * y 12 l + j) 1) 0 (8 * y 12 l + j) (by omega) (by omega) hm.1 ((zPt_40 _ _ _).2 a) n2 (fun a ha => zUs_x.2 ⟨fun q => n1 (by rw [← q]; exact ha), c a (List.mem_cons_of_mem _ ha)⟩)
    have key : sLays y l v m away g (fun i => if i = 0 then j else ch i) = (-1, (8 * y 12 l + j) :: L) := by
      unfold sLays
      have ec : sLy m (fun i => sDgt v (m - 1 - i)) (zRg y l g m (fun i => sDgt v (m - 1 - i))) away (fun i => if i = 0 then j else ch i) 6 (xu y 40 (8 * y 12 l + j) 1) 0 (8 * y 12 l + j) = (-1, L) := (sLy_c 6 _ 0 _ (by omega) hm.1 (fun i i0 _ => if_neg (by omega))).trans c2
      dsimp only
      rw [if_pos rfl, zIt_t (c _ List.mem_cons_self), ec]
    have z := zchc_mk j0 c1
    have k1 := c1 1
    have k2 := c1 2
    have k3 := c1 3
    have k4 := c1 4
    have k5 := c1 5
    have b1 := sLays_n (y := y) (l := l) (v := v) (away := away) (g := g) (ch := fun i => if i = 0 then j else ch i) hm.1
    have ez : sLays y l v m away g (zchc (1024 * j + 256 * ch 1 + 64 * ch 2 + 16 * ch 3 + 4 * ch 4 + ch 5)) = (-1, (8 * y 12 l + j) :: L) := (sLays_c hm.1 (fun i i0 i1 => z i i0 (by
      rw [key, if_pos rfl] at i1
      rw [key] at b1
      omega))).trans key
    refine ⟨1024 * j + 256 * ch 1 + 64 * ch 2 + 16 * ch 3 + 4 * ch 4 + ch 5, by omega, by omega, ?_, ?_⟩
    · rw [ez]
    · rw [ez]; exact r
theorem zRg_d {x : ZW} {l g m : Int} {dg dg' : Int → Int} (hd : ∀ k, 0 ≤ k → k < m → dg' k = dg k) (k e : Int) (k0 : 0 ≤ k) : zRg x l g m dg' k e ↔ zRg x l g m dg k e := by
  by_cases q : 2 ≤ m - k
  · unfold zRg
    rw [hd k k0 (by omega), hd (k + 1) (by omega) (by omega)]
  · unfold zRg
    constructor
    · rintro (w | w)
      · exact Or.inl w
      · exact absurd w.2.1 q
    · rintro (w | w)
      · exact Or.inl w
      · exact absurd w.2.1 q
/-- no call is moved -/
theorem sA0_e {x : ZW} (gp : zGp x) (h40 : ∀ e, x 40 e = 0) {l v m : Int} (hm : 0 ≤ m ∧ m ≤ 5) : (∃ q, 0 ≤ q ∧ q < 1024 * x 4 (x 12 l) ∧ (sLays x l v m (-1) (-2) (zchc q)).1 = -1) ↔ sA0 x l v m := by
  have b12 := zG12 gp l
  have r := sLays_P (y := x) (l := l) (v := v) (away := -1) (g := -2) hm b12.1 (fun _ => True)
  simp only [and_true] at r
  unfold sA0
  rw [r, zLay_P]
  simp only [and_true]
  have e : ∀ P, zPW x (zUs x (-1)) (x 12 l) m (fun i => sDgt v (m - 1 - i)) (zRg x l (-2) m (fun i => sDgt v (m - 1 - i))) P ↔ zPW x (fun a => x 8 a < 0 ∧ x 9 a = 0 ∧ x 10 a = 0) (x 12 l) m (fun i => sDgt v (m - 1 - i)) (zRg x l (-2) m (fun i => sDgt v (m - 1 - i))) P := fun P => zPW_c rfl rfl rfl rfl b12.1 (fun a _ => by
    unfold zUs
    have := h40 a
    constructor
    · rintro ⟨p | p, q, r, -⟩
      · exact ⟨p, q, r⟩
      · omega
    · rintro ⟨p, q, r⟩
      exact ⟨Or.inl p, q, r, this⟩) (fun _ _ _ => rfl) (fun _ _ _ => Iff.rfl) P
  constructor
  · rintro ⟨P, w⟩
    exact ⟨P, (e P).1 w⟩
  · rintro ⟨P, w⟩
    exact ⟨P, (e P).2 w⟩
/-- a call is moved -/
theorem sBo_e {x : ZW} (gd : zGd x) (h40 : ∀ e, x 40 e = 0) {l v m j : Int} (hl : 0 ≤ l) (hm : 0 ≤ m ∧ m ≤ 5) (hj : zLn x j) (hc : x 15 j = 1) (ht : x 18 j ≤ 5) : (∃ q, 0 ≤ q ∧ q < 1024 * x 4 (x 12 j) ∧ sMm x j l v m q) ↔ sBo x l v m j := by
  have gp := gd.1
  have b12 := zG12 gp
  have b11 := zG11 gp
  have cg := gd.2.2.2.1 j hj hc
  have b18 := cg.2.2.2.2.1
  have b22 := gd.2.1 j
  have hol := gd.2.2.2.2.2.1
  have ox := sSetN_o x j (-1) (x 22 j).toNat
  have j0 := hj.1
  have bdig := cg.2.2.2.2.2.2.2
  -- what is free when the call is taken away
  have U1 : ∀ a, 0 ≤ a → ((sSetN x j (-1) (x 22 j).toNat) 8 a < 0 ↔ (x 8 a < 0 ∨ x 8 a = j)) := by
    intro a a0
    by_cases q : ∃ i : Int, 0 ≤ i ∧ i < (x 22 j).toNat ∧ x 23 (120 * j + i) = a
    · rw [sSetN_i x j (-1) _ q]
      obtain ⟨i, i0, i1, i2⟩ := q
      have := (cg.2.1 i i0 (by omega)).2
      rw [i2] at this
      exact ⟨fun _ => Or.inr this, fun _ => by omega⟩
    · rw [sSetN_n x j (-1) _ q]
      refine ⟨fun w => Or.inl w, fun w => w.elim (fun w => w) (fun w => ?_)⟩
      obtain ⟨-, -, i, i0, i1, i2⟩ := hol a a0 (by omega)
      rw [w] at i1 i2
      exact absurd ⟨i, i0, by omega, i2⟩ q
  have dgs : ∀ k, 0 ≤ k → k < x 18 j → sDgt (zits x j (x 18 j).toNat) (x 18 j - 1 - k) = zDj x j k := by
    intro k k0 k1
    rw [zits_d ⟨by omega, ht⟩ ⟨k0, k1⟩ bdig]
    exact (sI_t ⟨k0, k1, by omega⟩ _ _).symm
  -- the ways of both
  have W : ∀ (z : ZW) (U : Int → Prop), (∀ g, g ≠ 8 → g ≠ 40 → z g = x g) → ∀ P, zPW z U (x 12 l) m (fun i => sDgt v (m - 1 - i)) (zRg z l (-2) m (fun i => sDgt v (m - 1 - i))) P ↔ zPW x U (x 12 l) m (fun i => sDgt v (m - 1 - i)) (zRg x l (-2) m (fun i => sDgt v (m - 1 - i))) P := fun z U e P => zPW_c (e 3 (by decide) (by decide)) (e 4 (by decide) (by decide)) (e 5 (by decide) (by decide)) (e 6 (by decide) (by decide)) (b12 l).1 (fun _ _ => Iff.rfl) (fun _ _ _ => rfl) (fun k e' _ => zRg_c (e 11 (by decide) (by decide)) (e 13 (by decide) (by decide)) (e 14 (by decide) (by decide)) (e 15 (by decide) (by decide)) l (-2) m _ k e') P
  have M : ∀ (z : ZW) (U : Int → Prop), (∀ g, g ≠ 8 → g ≠ 40 → z g = x g) → ∀ P, zPW z U (x 12 j) (x 18 j) (zDj x j) (zRg z j (x 17 j) (x 18 j) (zDj x j)) P ↔ zPW x U (x 12 j) (x 18 j) (fun i => sDgt (zits x j (x 18 j).toNat) (x 18 j - 1 - i)) (zRg x j (x 17 j) (x 18 j) (fun i => sDgt (zits x j (x 18 j).toNat) (x 18 j - 1 - i))) P := fun z U e P => zPW_c (e 3 (by decide) (by decide)) (e 4 (by decide) (by decide)) (e 5 (by decide) (by decide)) (e 6 (by decide) (by decide)) (b12 j).1 (fun _ _ => Iff.rfl) (fun k k0 k1 => (dgs k k0 k1).symm) (fun k e' k0 => (zRg_c (e 11 (by decide) (by decide)) (e 13 (by decide) (by decide)) (e 14 (by decide) (by decide)) (e 15 (by decide) (by decide)) j (x 17 j) (x 18 j) _ k e').trans (zRg_d (fun k k0 k1 => (dgs k k0 k1).symm) k e' k0)) P
  -- U and disjoint
  have split : ∀ (z : ZW) (D U : Int → Prop) (hm' m' : Int) (dg : Int → Int) (Rg : Int → Int → Prop) (P : List Int), zPW z (fun a => U a ∧ D a) hm' m' dg Rg P ↔ (zPW z U hm' m' dg Rg P ∧ ∀ a ∈ P, D a) := by
    intro z D U hm' m' dg Rg P
    constructor
    · rintro ⟨i, L, a, b, c, d, e, f⟩
      exact ⟨⟨i, L, a, b, c, d, e, fun a ha => (f a ha).1⟩, fun a ha => (f a ha).2⟩
    · rintro ⟨⟨i, L, a, b, c, d, e, f⟩, g⟩
      exact ⟨i, L, a, b, c, d, e, fun a ha => ⟨f a ha, g a ha⟩⟩
  have UU : ∀ (z z' : ZW) (U U' : Int → Prop) (hm' m' : Int) (dg : Int → Int) (Rg : Int → Int → Prop) (P : List Int), z' = z → 0 ≤ hm' → (∀ a, 0 ≤ a → (U' a ↔ U a)) → (zPW z' U' hm' m' dg Rg P ↔ zPW z U hm' m' dg Rg P) := fun z z' U U' hm' m' dg Rg P e h0 hU => by
    rw [e]
    exact zPW_c rfl rfl rfl rfl h0 hU (fun _ _ _ => rfl) (fun _ _ _ => Iff.rfl) P
  have ref : (∃ q, 0 ≤ q ∧ q < 1024 * x 4 (x 12 j) ∧ sMm x j l v m q) ↔ ∃ P2, zPW x (fun a => (x 8 a < 0 ∨ x 8 a = j) ∧ x 9 a = 0 ∧ x 10 a = 0) (x 12 j) (x 18 j) (fun i => sDgt (zits x j (x 18 j).toNat) (x 18 j - 1 - i)) (zRg x j (x 17 j) (x 18 j) (fun i => sDgt (zits x j (x 18 j).toNat) (x 18 j - 1 - i))) P2 ∧
      ∃ P1, zPW x (fun a => (x 8 a < 0 ∨ x 8 a = j) ∧ x 9 a = 0 ∧ x 10 a = 0) (x 12 l) m (fun i => sDgt v (m - 1 - i)) (zRg x l (-2) m (fun i => sDgt v (m - 1 - i))) P1 ∧ ∀ a ∈ P1, a ∉ P2 := by
    have s := sLays_P (y := x) (l := j) (v := zits x j (x 18 j).toNat) (m := x 18 j) (away := j) (g := x 17 j) ⟨by omega, ht⟩ (b12 j).1 (fun L => ∃ p, 0 ≤ p ∧ p < 1024 * x 4 (x 12 l) ∧ (sLays (zTr x L) l v m j (-2) (zchc p)).1 = -1)
    refine Iff.trans s ?_
    have inn : ∀ L, (∃ p, 0 ≤ p ∧ p < 1024 * x 4 (x 12 l) ∧ (sLays (zTr x L) l v m j (-2) (zchc p)).1 = -1) ↔ ∃ P1, zPW x (fun a => (x 8 a < 0 ∨ x 8 a = j) ∧ x 9 a = 0 ∧ x 10 a = 0) (x 12 l) m (fun i => sDgt v (m - 1 - i)) (zRg x l (-2) m (fun i => sDgt v (m - 1 - i))) P1 ∧ ∀ a ∈ P1, a ∉ L := by
      intro L
      have ss : ∀ g', g' ≠ 40 → (zTr x L) g' = x g' := fun g' hg' => zTr_g hg' _ x
      have t := sLays_P (y := zTr x L) (l := l) (v := v) (m := m) (away := j) (g := -2) hm (by rw [ss 12 (by decide)]; exact (b12 l).1) (fun _ => True)
      simp only [and_true] at t
      rw [ss 4 (by decide), ss 12 (by decide)] at t
      refine t.trans ?_
      have eq : ∀ P, zPW (zTr x L) (zUs (zTr x L) j) (x 12 l) m (fun i => sDgt v (m - 1 - i)) (zRg (zTr x L) l (-2) m (fun i => sDgt v (m - 1 - i))) P ↔ (zPW x (fun a => (x 8 a < 0 ∨ x 8 a = j) ∧ x 9 a = 0 ∧ x 10 a = 0) (x 12 l) m (fun i => sDgt v (m - 1 - i)) (zRg x l (-2) m (fun i => sDgt v (m - 1 - i))) P ∧ ∀ a ∈ P, a ∉ L) := fun P => by
        refine (W (zTr x L) _ (fun g a b => ss g b) P).trans (Iff.trans (UU x x _ _ _ _ _ _ P rfl (b12 l).1 (fun a a0 => ?_)) (split x (fun a => a ∉ L) (fun a => (x 8 a < 0 ∨ x 8 a = j) ∧ x 9 a = 0 ∧ x 10 a = 0) _ _ _ _ P))
        unfold zUs
        rw [ss 8 (by decide), ss 9 (by decide), ss 10 (by decide)]
        constructor
        · rintro ⟨p, q, r, t⟩
          refine ⟨⟨p.elim Or.inl (fun w => Or.inr w.2), q, r⟩, fun w => ?_⟩
          rw [zTr_i L x w] at t
          omega
        · rintro ⟨⟨p, q, r⟩, t⟩
          refine ⟨p.elim Or.inl (fun w => Or.inr ⟨j0, w⟩), q, r, ?_⟩
          rw [zTr_o L x t]
          exact h40 a
      constructor
      · rintro ⟨P, w⟩
        exact ⟨P, (eq P).1 w⟩
      · rintro ⟨P, w⟩
        exact ⟨P, (eq P).2 w⟩
    have out : ∀ P, zPW x (zUs x j) (x 12 j) (x 18 j) (fun i => sDgt (zits x j (x 18 j).toNat) (x 18 j - 1 - i)) (zRg x j (x 17 j) (x 18 j) (fun i => sDgt (zits x j (x 18 j).toNat) (x 18 j - 1 - i))) P ↔ zPW x (fun a => (x 8 a < 0 ∨ x 8 a = j) ∧ x 9 a = 0 ∧ x 10 a = 0) (x 12 j) (x 18 j) (fun i => sDgt (zits x j (x 18 j).toNat) (x 18 j - 1 - i)) (zRg x j (x 17 j) (x 18 j) (fun i => sDgt (zits x j (x 18 j).toNat) (x 18 j - 1 - i))) P := fun P => UU x x _ _ _ _ _ _ P rfl (b12 j).1 (fun a a0 => by
      unfold zUs
      have := h40 a
      constructor
      · rintro ⟨p, q, r, t⟩
        exact ⟨p.elim Or.inl (fun w => Or.inr w.2), q, r⟩
      · rintro ⟨p, q, r⟩
        exact ⟨p.elim Or.inl (fun w => Or.inr ⟨j0, w⟩), q, r, this⟩)
    constructor
    · rintro ⟨P, w, w'⟩
      exact ⟨P, (out P).1 w, (inn P).1 w'⟩
    · rintro ⟨P, w, w'⟩
      exact ⟨P, (out P).2 w, (inn P).2 w'⟩
  have cls : sBo x l v m j ↔ ∃ P1, zPW x (fun a => (x 8 a < 0 ∨ x 8 a = j) ∧ x 9 a = 0 ∧ x 10 a = 0) (x 12 l) m (fun i => sDgt v (m - 1 - i)) (zRg x l (-2) m (fun i => sDgt v (m - 1 - i))) P1 ∧
      ∃ P2, zPW x (fun a => (x 8 a < 0 ∨ x 8 a = j) ∧ x 9 a = 0 ∧ x 10 a = 0) (x 12 j) (x 18 j) (fun i => sDgt (zits x j (x 18 j).toNat) (x 18 j - 1 - i)) (zRg x j (x 17 j) (x 18 j) (fun i => sDgt (zits x j (x 18 j).toNat) (x 18 j - 1 - i))) P2 ∧ ∀ a ∈ P2, a ∉ P1 := by
    unfold sBo
    rw [zLay_P]
    have out : ∀ P, zPW (sSetN x j (-1) (x 22 j).toNat) (fun a => (sSetN x j (-1) (x 22 j).toNat) 8 a < 0 ∧ (sSetN x j (-1) (x 22 j).toNat) 9 a = 0 ∧ (sSetN x j (-1) (x 22 j).toNat) 10 a = 0) (x 12 l) m (fun i => sDgt v (m - 1 - i)) (zRg (sSetN x j (-1) (x 22 j).toNat) l (-2) m (fun i => sDgt v (m - 1 - i))) P ↔ zPW x (fun a => (x 8 a < 0 ∨ x 8 a = j) ∧ x 9 a = 0 ∧ x 10 a = 0) (x 12 l) m (fun i => sDgt v (m - 1 - i)) (zRg x l (-2) m (fun i => sDgt v (m - 1 - i))) P := fun P => by
      refine (W (sSetN x j (-1) (x 22 j).toNat) _ (fun g a _ => ox g a) P).trans (UU x x _ _ _ _ _ _ P rfl (b12 l).1 (fun a a0 => ?_))
      rw [ox 9 (by decide), ox 10 (by decide), U1 a a0]
    have inn : ∀ P1, zLay (zTh (sSetN x j (-1) (x 22 j).toNat) l P1) j (x 12 j) (x 18 j) (zDj x j) (zRg (zTh (sSetN x j (-1) (x 22 j).toNat) l P1) j (x 17 j) (x 18 j) (zDj x j)) (fun _ => True) ↔ ∃ P2, zPW x (fun a => (x 8 a < 0 ∨ x 8 a = j) ∧ x 9 a = 0 ∧ x 10 a = 0) (x 12 j) (x 18 j) (fun i => sDgt (zits x j (x 18 j).toNat) (x 18 j - 1 - i)) (zRg x j (x 17 j) (x 18 j) (fun i => sDgt (zits x j (x 18 j).toNat) (x 18 j - 1 - i))) P2 ∧ ∀ a ∈ P2, a ∉ P1 := by
      intro P1
      have sz : ∀ g', g' ≠ 8 → (zTh (sSetN x j (-1) (x 22 j).toNat) l P1) g' = x g' := fun g' hg' => (zTh_g l hg' _ _).trans (ox g' hg')
      rw [zLay_P]
      simp only [and_true]
      have eq : ∀ P, zPW (zTh (sSetN x j (-1) (x 22 j).toNat) l P1) (fun a => (zTh (sSetN x j (-1) (x 22 j).toNat) l P1) 8 a < 0 ∧ (zTh (sSetN x j (-1) (x 22 j).toNat) l P1) 9 a = 0 ∧ (zTh (sSetN x j (-1) (x 22 j).toNat) l P1) 10 a = 0) (x 12 j) (x 18 j) (zDj x j) (zRg (zTh (sSetN x j (-1) (x 22 j).toNat) l P1) j (x 17 j) (x 18 j) (zDj x j)) P ↔ (zPW x (fun a => (x 8 a < 0 ∨ x 8 a = j) ∧ x 9 a = 0 ∧ x 10 a = 0) (x 12 j) (x 18 j) (fun i => sDgt (zits x j (x 18 j).toNat) (x 18 j - 1 - i)) (zRg x j (x 17 j) (x 18 j) (fun i => sDgt (zits x j (x 18 j).toNat) (x 18 j - 1 - i))) P ∧ ∀ a ∈ P, a ∉ P1) := fun P => by
        refine (M (zTh (sSetN x j (-1) (x 22 j).toNat) l P1) _ (fun g a _ => sz g a) P).trans (Iff.trans (UU x x _ _ _ _ _ _ P rfl (b12 j).1 (fun a a0 => ?_)) (split x (fun a => a ∉ P1) (fun a => (x 8 a < 0 ∨ x 8 a = j) ∧ x 9 a = 0 ∧ x 10 a = 0) _ _ _ _ P))
        rw [sz 9 (by decide), sz 10 (by decide)]
        by_cases w : a ∈ P1
        · rw [zTh_i l P1 _ w]
          exact ⟨fun q => by have := q.1; omega, fun q => absurd w q.2⟩
        · rw [zTh_o l P1 _ w, U1 a a0]
          exact ⟨fun q => ⟨q, w⟩, fun q => q.1⟩
      constructor
      · rintro ⟨P, w⟩
        exact ⟨P, (eq P).1 w⟩
      · rintro ⟨P, w⟩
        exact ⟨P, (eq P).2 w⟩
    constructor
    · rintro ⟨P, w, w'⟩
      exact ⟨P, (out P).1 w, (inn P).1 w'⟩
    · rintro ⟨P, w, w'⟩
      exact ⟨P, (out P).2 w, (inn P).2 w'⟩
  rw [ref, cls]
  constructor
  · rintro ⟨P2, w2, P1, w1, dj⟩
    exact ⟨P1, w1, P2, w2, fun a ha hb => dj a hb ha⟩
  · rintro ⟨P1, w1, P2, w2, dj⟩
    exact ⟨P2, w2, P1, w1, fun a ha hb => dj a hb ha⟩
