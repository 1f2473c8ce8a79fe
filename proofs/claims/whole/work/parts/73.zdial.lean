/-! DIAL: the spec, the reference -/
theorem zGp_e {x x' : ZW} (h : zGp x) (e : ∀ g, g < 16 → g ≠ 8 → g ≠ 15 → x' g = x g) (h8 : ∀ e, -1 ≤ x' 8 e ∧ x' 8 e < 40) (h15 : ∀ j, 0 ≤ x' 15 j ∧ x' 15 j ≤ 2) : zGp x' := by
  unfold zGp at h ⊢
  unfold zEn zSl zSw at h ⊢
  rw [e 1 (by decide) (by decide) (by decide), e 2 (by decide) (by decide) (by decide), e 3 (by decide) (by decide) (by decide), e 4 (by decide) (by decide) (by decide), e 5 (by decide) (by decide) (by decide), e 6 (by decide) (by decide) (by decide), e 7 (by decide) (by decide) (by decide), e 9 (by decide) (by decide) (by decide), e 10 (by decide) (by decide) (by decide), e 11 (by decide) (by decide) (by decide), e 12 (by decide) (by decide) (by decide), e 13 (by decide) (by decide) (by decide), e 14 (by decide) (by decide) (by decide)]
  obtain ⟨a1, a2, a3, a4, a5, a6, a7, a8, -, a10, a11, a12, a13, a14, a15, a16, a17, -⟩ := h
  exact ⟨a1, a2, a3, a4, a5, a6, a7, a8, h8, a10, a11, a12, a13, a14, a15, a16, a17, h15⟩
theorem zGp_u {x : ZW} (h : zGp x) {g : Nat} (hg : 16 ≤ g) (k v : Int) : zGp (xu x g k v) := by
  have e : ∀ g', g' < 16 → (xu x g k v) g' = x g' := fun g' h' => by funext k'; exact xu_g x (by omega)
  refine zGp_e h (fun g' h' _ _ => e g' h') ?_ ?_
  · rw [e 8 (by decide)]; exact zG8 h
  · rw [e 15 (by decide)]; exact zG15 h
theorem zGp_8 {x : ZW} (h : zGp x) (k : Int) {v : Int} (hv : -1 ≤ v ∧ v < 40) : zGp (xu x 8 k v) := by
  refine zGp_e h (fun g' _ h8 _ => by funext k'; exact xu_g x h8) (fun e => ?_) ?_
  · rw [xu_kk]
    have := zG8 h e
    split <;> omega
  · intro j; rw [xu_g x (by decide)]; exact zG15 h j
theorem zGp_15 {x : ZW} (h : zGp x) (k : Int) {v : Int} (hv : 0 ≤ v ∧ v ≤ 2) : zGp (xu x 15 k v) := by
  refine zGp_e h (fun g' _ _ h15 => by funext k'; exact xu_g x h15) ?_ (fun e => ?_)
  · intro j; rw [xu_g x (by decide)]; exact zG8 h j
  · rw [xu_kk]
    have := zG15 h e
    split <;> omega
theorem zGp_hold {x : ZW} (h : zGp x) (l e : Int) (hl : 0 ≤ l ∧ l < 40) : zGp (sHold x l e) := zGp_u (zGp_u (zGp_8 h e (by omega)) (by decide) _ _) (by decide) _ _
def sTk (x : ZW) (l : Int) : ZW := xu x 18 l (x 18 l + 1)
def sNd (x : ZW) (l d : Int) : ZW := if x 18 l < 5 then xu x 19 (5 * l + x 18 l) d else x
def sHead (x : ZW) (l : Int) : Int := x 23 (120 * l + x 22 l - 1)
def sSst (x : ZW) (e : Int) : Int := if e = -1 then 3 else if e = -2 then 4 else if x 10 e = 0 then 1 else 2
/-- a selector's step, e what its outlets go to -/
def sSel (x : ZW) (l e : Int) : ZW := xu (if 0 ≤ e then sHold x l e else x) 16 l (sSst x e)
def sEd (x : ZW) (l d : Int) : ZW := xu (if x 20 l = 0 then xu (xu x 20 l (x 20 l + 1)) 50 l d else xu x 20 l (x 20 l + 1)) 16 l 1
def sJun (x : ZW) (l : Int) : ZW := if x 20 l = 3 then xu x 16 l 5 else x
def sFin (x : ZW) (l o : Int) : ZW := if o < 0 then xu x 16 l 4 else if x 15 o = 0 then xu (xu (xu x 16 l 5) 17 l o) 15 o 2 else xu x 16 l 3
def sStep (x : ZW) (l d : Int) : ZW :=
  if zEg x (sHead x l) then
    (if 100 ≤ sHead x l then sJun (sEd (sTk (sNd x l d) l) l d) l else
      if x 20 l < 1 then sEd (sTk (sNd x l d) l) l d else sFin (sEd (sTk (sNd x l d) l) l d) l (zlineOf x (sHead x l / 8) (10 * (sEd (sTk (sNd x l d) l) l d) 50 l + d)))
  else sSel (sTk (sNd x l d) l) l (sGoes x (sHead x l) d)
def sDial (x : ZW) (l d : Int) : Int × ZW := if zLn x l ∧ x 15 l = 1 ∧ 0 ≤ d ∧ d ≤ 9 then (if x 16 l ≤ 1 then ((sStep x l d) 16 l, sStep x l d) else (x 16 l, x)) else (-1, x)
theorem sNd_g (x : ZW) (l d : Int) {g : Nat} (hg : g ≠ 19) (k : Int) : sNd x l d g k = x g k := by
  unfold sNd; split
  · exact xu_g x hg
  · rfl
theorem sTk_g (x : ZW) (l : Int) {g : Nat} (hg : g ≠ 18) (k : Int) : sTk x l g k = x g k := xu_g x hg
theorem sEd_g (x : ZW) (l d : Int) {g : Nat} (hg : g ≠ 16 ∧ g ≠ 20 ∧ g ≠ 50) (k : Int) : sEd x l d g k = x g k := by
  unfold sEd
  rw [xu_g _ hg.1]
  split
  · rw [xu_g _ hg.2.2, xu_g _ hg.2.1]
  · rw [xu_g _ hg.2.1]
theorem sEd_20 (x : ZW) (l d : Int) : sEd x l d 20 l = x 20 l + 1 := by
  unfold sEd
  rw [xu_g _ (by decide)]
  split
  · rw [xu_g _ (by decide), xu_s]
  · rw [xu_s]
theorem sEd_16 (x : ZW) (l d : Int) : sEd x l d 16 l = 1 := xu_s _ _ _ _
theorem sEd_50 (x : ZW) (l d : Int) : sEd x l d 50 l = if x 20 l = 0 then d else x 50 l := by
  unfold sEd
  rw [xu_g _ (by decide)]
  split
  · rw [xu_s]
  · rw [xu_g _ (by decide)]
theorem zGp_Nd {x : ZW} (h : zGp x) (l d : Int) : zGp (sNd x l d) := by
  unfold sNd; split
  · exact zGp_u h (by decide) _ _
  · exact h
theorem zGp_Tk {x : ZW} (h : zGp x) (l : Int) : zGp (sTk x l) := zGp_u h (by decide) _ _
theorem zGp_Ed {x : ZW} (h : zGp x) (l d : Int) : zGp (sEd x l d) := by
  unfold sEd
  refine zGp_u ?_ (by decide) _ _
  split
  · exact zGp_u (zGp_u h (by decide) _ _) (by decide) _ _
  · exact zGp_u h (by decide) _ _
theorem sGo_b {x : ZW} (g : zGp x) (b : Int) : ∀ (n : Nat) (p : Int) (c : Bool), sGo x b n p c = -1 ∨ sGo x b n p c = -2 ∨ (0 ≤ sGo x b n p c ∧ sGo x b n p c < 116 ∧ zFr x (sGo x b n p c) ∧ zEn x (sGo x b n p c))
  | 0, p, c => by cases c <;> simp [sGo]
  | n + 1, p, c => by
    rw [sGo]
    split
    · exact sGo_b g b n (p + 1) c
    · split
      · rename_i h1 h2
        have := zG6 g (b + p)
        exact Or.inr (Or.inr ⟨by omega, by omega, h2, zG6e g (by omega)⟩)
      · exact sGo_b g b n (p + 1) true
theorem sGoes_b {x : ZW} (g : zGp x) (a l : Int) : sGoes x a l = -1 ∨ sGoes x a l = -2 ∨ (0 ≤ sGoes x a l ∧ sGoes x a l < 116 ∧ zFr x (sGoes x a l) ∧ zEn x (sGoes x a l)) := sGo_b g _ _ _ _
theorem sGo_c {x x' : ZW} (e6 : x' 6 = x 6) (e8 : x' 8 = x 8) (e9 : x' 9 = x 9) (e40 : x' 40 = x 40) (b : Int) : ∀ (n : Nat) (p : Int) (c : Bool), sGo x' b n p c = sGo x b n p c
  | 0, p, c => rfl
  | n + 1, p, c => by
    rw [sGo, sGo, sGo_c e6 e8 e9 e40 b n, sGo_c e6 e8 e9 e40 b n]
    unfold zFr
    rw [e6, e8, e9, e40]
theorem sGoes_c {x x' : ZW} (e5 : x' 5 = x 5) (e6 : x' 6 = x 6) (e8 : x' 8 = x 8) (e9 : x' 9 = x 9) (e40 : x' 40 = x 40) (h d : Int) : sGoes x' h d = sGoes x h d := by
  unfold sGoes sBase
  rw [sGo_c e6 e8 e9 e40, e5]
