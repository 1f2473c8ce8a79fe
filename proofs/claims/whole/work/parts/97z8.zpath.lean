/-! LAID: paths -/
/-- a path from e on, with k digits used; Rg says where it may end -/
def zPt (x : ZW) (m : Int) (dg : Int → Int) (Rg : Int → Int → Prop) : Int → Int → List Int → Prop
  | k, e, [] => zEg x e ∧ Rg k e
  | k, e, f :: L => ¬ zEg x e ∧ k < m ∧ 0 ≤ f ∧ (∃ p, 0 ≤ p ∧ p < 4 ∧ x 6 (sBase x e (dg k) + p) = f) ∧ zPt x m dg Rg (k + 1) f L
theorem zPt_c {x x' : ZW} (e3 : x' 3 = x 3) (e5 : x' 5 = x 5) (e6 : x' 6 = x 6) (m : Int) (dg : Int → Int) (Rg : Int → Int → Prop) : ∀ (L : List Int) (k e : Int), zPt x' m dg Rg k e L ↔ zPt x m dg Rg k e L
  | [], k, e => by
    unfold zPt zEg
    rw [e3]
  | f :: L, k, e => by
    unfold zPt zEg sBase
    rw [e3, e5, e6, zPt_c e3 e5 e6 m dg Rg L (k + 1) f]
/-- line l holds these too -/
def zTh (x : ZW) (l : Int) : List Int → ZW
  | [] => x
  | a :: L => zTh (xu x 8 a l) l L
theorem zTh_g (l : Int) {g : Nat} (hg : g ≠ 8) : ∀ (L : List Int) (x : ZW), zTh x l L g = x g
  | [], x => rfl
  | a :: L, x => by
    rw [zTh, zTh_g l hg L]
    funext k
    exact xu_g x hg
theorem zTh_o (l : Int) {a : Int} : ∀ (L : List Int) (x : ZW), a ∉ L → zTh x l L 8 a = x 8 a
  | [], x, _ => rfl
  | b :: L, x, h => by
    rw [zTh, zTh_o l L _ (fun q => h (List.mem_cons_of_mem _ q))]
    exact xu_k x (fun q => h (by rw [q]; exact List.mem_cons_self))
theorem zTh_i (l : Int) {a : Int} : ∀ (L : List Int) (x : ZW), a ∈ L → zTh x l L 8 a = l
  | b :: L, x, h => by
    rw [zTh]
    by_cases q : a ∈ L
    · exact zTh_i l L _ q
    · rw [zTh_o l L _ q]
      rcases List.mem_cons.1 h with r | r
      · rw [r]
        exact xu_s x 8 b l
      · exact absurd r q
/-- a call can be laid from e on, and then R -/
def zLov (x : ZW) (l m : Int) (dg : Int → Int) (Rg : Int → Int → Prop) (R : ZW → Prop) (k e : Int) : Prop := ∃ L, zPt x m dg Rg k e L ∧ (e :: L).Nodup ∧ (∀ a ∈ e :: L, x 8 a < 0 ∧ x 9 a = 0 ∧ x 10 a = 0) ∧ R (zTh x l (e :: L))
theorem zLov_e {x : ZW} {l m : Int} {dg : Int → Int} {Rg : Int → Int → Prop} {R : ZW → Prop} {k e : Int} (hE : zEg x e) : zLov x l m dg Rg R k e ↔ (x 8 e < 0 ∧ x 9 e = 0 ∧ x 10 e = 0 ∧ Rg k e ∧ R (xu x 8 e l)) := by
  constructor
  · rintro ⟨L, h1, h2, h3, h4⟩
    obtain ⟨a, b, c⟩ := h3 e List.mem_cons_self
    cases L with
    | nil => exact ⟨a, b, c, h1.2, h4⟩
    | cons f L => exact absurd hE h1.1
  · rintro ⟨a, b, c, r, q⟩
    refine ⟨[], ⟨hE, r⟩, List.nodup_cons.2 ⟨List.not_mem_nil, List.nodup_nil⟩, fun a' ha => ?_, q⟩
    rcases List.mem_cons.1 ha with w | w
    · rw [w]; exact ⟨a, b, c⟩
    · exact absurd w List.not_mem_nil
theorem zLov_n {x : ZW} {l m : Int} {dg : Int → Int} {Rg : Int → Int → Prop} {R : ZW → Prop} {k e : Int} (hl : 0 ≤ l) (hE : ¬ zEg x e) : zLov x l m dg Rg R k e ↔ (x 8 e < 0 ∧ x 9 e = 0 ∧ x 10 e = 0 ∧ k < m ∧ ∃ p, 0 ≤ p ∧ p < 4 ∧ 0 ≤ x 6 (sBase x e (dg k) + p) ∧ zLov (xu x 8 e l) l m dg Rg R (k + 1) (x 6 (sBase x e (dg k) + p))) := by
  have pc := fun L k' e' => zPt_c (x := x) (x' := xu x 8 e l) (by funext k; exact xu_g x (by decide)) (by funext k; exact xu_g x (by decide)) (by funext k; exact xu_g x (by decide)) m dg Rg L k' e'
  constructor
  · rintro ⟨L, h1, h2, h3, h4⟩
    obtain ⟨a, b, c⟩ := h3 e List.mem_cons_self
    cases L with
    | nil => exact absurd h1.1 hE
    | cons f L =>
      obtain ⟨-, km, f0, ⟨p, p0, p1, pf⟩, h1⟩ := h1
      obtain ⟨n1, n2⟩ := List.nodup_cons.1 h2
      refine ⟨a, b, c, km, p, p0, p1, by rw [pf]; exact f0, ?_⟩
      rw [pf]
      refine ⟨L, (pc L _ _).2 h1, n2, fun a' ha => ?_, h4⟩
      obtain ⟨q1, q2, q3⟩ := h3 a' (List.mem_cons_of_mem _ ha)
      rw [xu_k x (fun q => n1 (by rw [← q]; exact ha)), xu_g x (by decide), xu_g x (by decide)]
      exact ⟨q1, q2, q3⟩
  · rintro ⟨a, b, c, km, p, p0, p1, f0, L, h1, h2, h3, h4⟩
    have n1 : e ∉ x 6 (sBase x e (dg k) + p) :: L := fun q => by
      have := (h3 e q).1
      rw [xu_s] at this
      omega
    refine ⟨x 6 (sBase x e (dg k) + p) :: L, ⟨hE, km, f0, ⟨p, p0, p1, rfl⟩, (pc L _ _).1 h1⟩, List.nodup_cons.2 ⟨n1, h2⟩, fun a' ha => ?_, h4⟩
    rcases List.mem_cons.1 ha with w | w
    · rw [w]; exact ⟨a, b, c⟩
    · obtain ⟨q1, q2, q3⟩ := h3 a' w
      have ne : a' ≠ e := fun q => n1 (q ▸ w)
      rw [xu_k x ne] at q1
      rw [xu_g x (by decide)] at q2 q3
      exact ⟨q1, q2, q3⟩
/-- a call can be laid from a home rack on, and then R -/
def zLay (x : ZW) (l hm m : Int) (dg : Int → Int) (Rg : Int → Int → Prop) (R : ZW → Prop) : Prop := ∃ j, 0 ≤ j ∧ j < x 4 hm ∧ zLov x l m dg Rg R 0 (8 * hm + j)
/-- where a wish rings -/
def zRg (x : ZW) (l g m : Int) (dg : Int → Int) (k e : Int) : Prop := (100 ≤ e ∧ 3 ≤ m - k ∧ g < 0) ∨ (e < 100 ∧ 2 ≤ m - k ∧ 0 ≤ zlineOf x (e / 8) (10 * dg k + dg (k + 1)) ∧ ((g = -2 ∧ zlineOf x (e / 8) (10 * dg k + dg (k + 1)) ≠ l ∧ x 15 (zlineOf x (e / 8) (10 * dg k + dg (k + 1))) = 0) ∨ (g ≠ -2 ∧ zlineOf x (e / 8) (10 * dg k + dg (k + 1)) = g)))
theorem zRg_c {x x' : ZW} (e11 : x' 11 = x 11) (e13 : x' 13 = x 13) (e14 : x' 14 = x 14) (e15 : x' 15 = x 15) (l g m : Int) (dg : Int → Int) (k e : Int) : zRg x' l g m dg k e ↔ zRg x l g m dg k e := by
  unfold zRg
  rw [zlineOf_c e11 e13 e14, e15]
