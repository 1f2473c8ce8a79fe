/-! BLOCK of both sides -/
def sThr (x : ZW) (a va ma b vb mb : Int) : Prop := (sMk x a va ma ma.toNat) 15 b = 0 ∧ sAt (sMk x a va ma ma.toNat) b vb mb = 5
abbrev sBok (x : ZW) (a va ma b vb mb : Int) : Prop := a ≠ b ∧ sTry x a va ma ∧ sTry x b vb mb ∧ sAt x a va ma = 5 ∧ sAt x b vb mb = 5
noncomputable def sI (P : Prop) (u v : Int) : Int := @ite _ P (Classical.propDecidable P) u v
theorem sI_t {P : Prop} (h : P) (u v : Int) : sI P u v = u := @if_pos P (Classical.propDecidable P) h _ _ _
theorem sI_f {P : Prop} (h : ¬ P) (u v : Int) : sI P u v = v := @if_neg P (Classical.propDecidable P) h _ _ _
noncomputable def sBlock (x : ZW) (a va ma b vb mb : Int) : Int × ZW := (sI (sBok x a va ma b vb mb) (sI (sThr x a va ma b vb mb) 0 1 + sI (sThr x b vb mb a va ma) 0 2) (-1), x)
theorem sAt_5 {x : ZW} {l v m : Int} (h : sAt x l v m = 5) : ¬ sFF x (x 12 l) < 0 := by
  intro hf
  unfold sAt at h
  rw [if_pos hf] at h
  omega
section BL
variable {K : ZS} {x y : ZW} {S : ZS}
theorem zX_blocksNext_s (h : zR K x y S) (g : zGd x) (h40 : ∀ e, x 40 e = 0) (d : Nat) {a va ma b vb mb : Int} (ha : sTry x a va ma) (hb : sTry x b vb mb) (h5 : sAt x a va ma = 5) :
    zwp (zX_blocksNext (d + 7) (zI a) (zI va) (zI ma) (zI b) (zI vb) (zI mb) S) (fun r => r.1 = zI (sI (sThr x a va ma b vb mb) 0 1) ∧ zR K x y r.2) := by
  have b11 := zG11 g.1
  have hf := sAt_5 h5
  obtain ⟨r, e1, e2, e3⟩ := zC_make_s h g h40 (d + 1) ha.1 ha.2.1 ⟨ha.2.2.1, ha.2.2.2.1⟩ ha.2.2.2.2
  rw [if_neg hf] at e2 e3
  obtain ⟨rv, S1⟩ := r
  have e1 : zci (zcall (d + 6)) 11 [zr 0 0, zo (some (2, a.toNat)), zi (zI va), zi (zI ma)] S = some (rv, S1) := e1
  have e3 : zR K (sMk x a va ma ma.toNat) y S1 := e3
  obtain ⟨k1, k2, k3, k4⟩ := sMk_z g (v := va) (m := ma) ha.1 ha.2.1 hf ma.toNat
  have hlb : zLn (sMk x a va ma ma.toNat) b := by unfold zLn; rw [k4 11 (by omega)]; exact hb.1
  have q1 := zC_isQuiet_s e3 k1.1 (d + 5) (a := b) (by omega) (by omega)
  have back : ∀ S2, zR K (sMk x a va ma ma.toNat) y S2 → ∃ S3, zcv (zcall (d + 6)) 12 [zr 0 0, zo (some (2, a.toNat))] S2 = some S3 ∧ zR K x y S3 := by
    intro S2 h2
    obtain ⟨S3, e4, e5⟩ := zC_back_s (v := va) (m := ma) h g (d + 4) ha.1 ha.2.1 (by rw [if_neg hf]; exact h2)
    exact ⟨S3, e4, e5⟩
  have hD : ∀ S2, zR K (sMk x a va ma ma.toNat) y S2 → S2.2.2.1 20 0 a.toNat = some (2, a.toNat) := fun S2 h2 => zRD h2 k2.1 k2.2
  rw [eX_blocksNext, zg_t (by rw [zI_in (by omega) (by omega)]; omega), zI_zx (by omega) (by omega), zRD h ha.1.1 ha.1.2, e1]
  show zwp ((zC_isQuiet (d + 6) (zI b) S1).bind _) _
  rw [q1]
  show zwp (zif (zb _ = 0) (zX_blocksNext_50 (d + 6) (zI a) 0 S1) ((zX_would (d + 6) (zI b) (zI vb) (zI mb) S1).bind _)) _
  have fin : ∀ (s0 : Int32) (P : Prop) S2, zR K (sMk x a va ma ma.toNat) y S2 → (s0 = 0 → ¬ P) → (s0 ≠ 0 → P) → zwp (zX_blocksNext_50 (d + 6) (zI a) s0 S2) (fun r => r.1 = zI (sI P 0 1) ∧ zR K x y r.2) := by
    intro s0 P S2 h2 p0 p1
    obtain ⟨S3, e4, e5⟩ := back S2 h2
    rw [eX_blocksNext_50, zg_t (by rw [zI_in (by omega) (by omega)]; omega), zI_zx (by omega) (by omega), hD S2 h2, e4]
    show zwp (zif (s0 = 0) (some (1, S3)) (some (0, S3))) _
    by_cases hs : s0 = 0
    · rw [zif_pos hs, zwp_some, sI_f (p0 hs)]
      exact ⟨rfl, e5⟩
    · rw [zif_neg hs, zwp_some, sI_t (p1 hs)]
      exact ⟨rfl, e5⟩
  by_cases hq : (sMk x a va ma ma.toNat) 15 b = 0
  · rw [zif_neg (by rw [zb_0]; exact fun hn => hn ⟨hlb, hq⟩)]
    obtain ⟨r2, e4, e5, e6⟩ := zX_would_s e3 k1 (by rw [k4 40 (by omega)]; exact h40) d (l := b) (v := vb) (m := mb) (by omega) (by omega) (by omega) (by omega) (by omega) (by omega)
    obtain ⟨rv2, S2⟩ := r2
    have hty : sTry (sMk x a va ma ma.toNat) b vb mb := ⟨hlb, hq, hb.2.2⟩
    unfold sWould at e5
    rw [if_pos hty] at e5
    have e5 : rv2 = zI (sAt (sMk x a va ma ma.toNat) b vb mb) := e5
    subst e5
    rw [e4]
    show zwp (zif (zI (sAt (sMk x a va ma ma.toNat) b vb mb) = 5) (zX_blocksNext_50 (d + 6) (zI a) 1 S2) (zX_blocksNext_50 (d + 6) (zI a) 0 S2)) _
    have bA : 0 ≤ sAt (sMk x a va ma ma.toNat) b vb mb ∧ sAt (sMk x a va ma ma.toNat) b vb mb ≤ 7 := by
      unfold sAt
      split
      · omega
      · rename_i hf2
        obtain ⟨j1, j2, j3, j4⟩ := sMk_z k1 (v := vb) (m := mb) hlb hq hf2 mb.toNat
        have := (j1.2.2.2.1 b j2 j3).2.2.2.1
        omega
    rw [zI_n5, zI_eq (by omega) (by omega) (by omega) (by omega)]
    by_cases h5' : sAt (sMk x a va ma ma.toNat) b vb mb = 5
    · rw [zif_pos h5']
      exact fin 1 _ S2 e6 (fun e => absurd e (by decide)) (fun _ => ⟨hq, h5'⟩)
    · rw [zif_neg h5']
      exact fin 0 _ S2 e6 (fun _ hn => h5' hn.2) (fun e => absurd rfl e)
  · rw [zif_pos (by rw [zb_0]; exact fun hn => hq hn.2)]
    exact fin 0 _ S1 e3 (fun _ hn => hq hn.1) (fun e => absurd rfl e)
theorem sAt_b {x : ZW} (g : zGd x) {l v m : Int} (hl : zLn x l) (hq : x 15 l = 0) : 0 ≤ sAt x l v m ∧ sAt x l v m ≤ 7 := by
  unfold sAt
  split
  · omega
  · rename_i hf2
    obtain ⟨j1, j2, j3, j4⟩ := sMk_z g (v := v) (m := m) hl hq hf2 m.toNat
    have := (j1.2.2.2.1 l j2 j3).2.2.2.1
    omega
theorem zX_block_s (h : zR K x y S) (g : zGd x) (h40 : ∀ e, x 40 e = 0) (d : Nat) {a va ma b vb mb : Int} (a1 : -2147483648 ≤ a) (a2 : a < 2147483648) (va1 : -2147483648 ≤ va) (va2 : va < 2147483648) (ma1 : -2147483648 ≤ ma) (ma2 : ma < 2147483648) (b1 : -2147483648 ≤ b) (b2 : b < 2147483648) (vb1 : -2147483648 ≤ vb) (vb2 : vb < 2147483648) (mb1 : -2147483648 ≤ mb) (mb2 : mb < 2147483648) :
    zwp (zX_block (d + 8) (zI a) (zI va) (zI ma) (zI b) (zI vb) (zI mb) S) (fun r => r.1 = zI (sBlock x a va ma b vb mb).1 ∧ zR K (sBlock x a va ma b vb mb).2 y r.2) := by
  unfold sBlock
  rw [eX_block, zI_eq a1 a2 b1 b2]
  by_cases hab : a = b
  · rw [zif_pos hab, zwp_some, sI_f (fun hn => hn.1 hab)]
    exact ⟨rfl, h⟩
  · rw [zif_neg hab, zX_mayDial_s h g.1 (d + 5) a1 a2 va1 va2 ma1 ma2]
    show zwp (zif (zb _ = 0) (some (-1, S)) ((zX_mayDial (d + 7) (zI b) (zI vb) (zI mb) S).bind _)) _
    by_cases ha : sTry x a va ma
    · rw [zif_neg (by rw [zb_0]; exact fun hn => hn ha), zX_mayDial_s h g.1 (d + 5) b1 b2 vb1 vb2 mb1 mb2]
      show zwp (zif (zb _ = 0) (some (-1, S)) ((zX_would (d + 7) (zI a) (zI va) (zI ma) S).bind _)) _
      by_cases hb : sTry x b vb mb
      · rw [zif_neg (by rw [zb_0]; exact fun hn => hn hb)]
        obtain ⟨⟨r1, S1⟩, e1, f1, h1⟩ := zX_would_s h g h40 (d + 1) (l := a) (v := va) (m := ma) a1 a2 va1 va2 ma1 ma2
        unfold sWould at f1
        rw [if_pos ha] at f1
        have f1 : r1 = zI (sAt x a va ma) := f1
        have h1 : zR K x y S1 := h1
        have bA := sAt_b g (v := va) (m := ma) ha.1 ha.2.1
        have bB := sAt_b g (v := vb) (m := mb) hb.1 hb.2.1
        subst f1
        rw [e1]
        show zwp (zif (zI (sAt x a va ma) = 5) ((zX_would (d + 7) (zI b) (zI vb) (zI mb) S1).bind _) (some (-1, S1))) _
        rw [zI_n5, zI_eq (by omega) (by omega) (by omega) (by omega)]
        by_cases h5 : sAt x a va ma = 5
        · rw [zif_pos h5]
          obtain ⟨⟨r2, S2⟩, e2, f2, h2⟩ := zX_would_s h1 g h40 (d + 1) (l := b) (v := vb) (m := mb) b1 b2 vb1 vb2 mb1 mb2
          unfold sWould at f2
          rw [if_pos hb] at f2
          have f2 : r2 = zI (sAt x b vb mb) := f2
          have h2 : zR K x y S2 := h2
          subst f2
          rw [e2]
          show zwp (zif (zI (sAt x b vb mb) = zI 5) ((zX_blocksNext (d + 7) (zI a) (zI va) (zI ma) (zI b) (zI vb) (zI mb) S2).bind _) (some (-1, S2))) _
          rw [zI_eq (by omega) (by omega) (by omega) (by omega)]
          by_cases h5b : sAt x b vb mb = 5
          · rw [zif_pos h5b, sI_t ⟨hab, ha, hb, h5, h5b⟩]
            obtain ⟨⟨r3, S3⟩, e3, f3, h3⟩ := zX_blocksNext_s h2 g h40 d ha hb h5
            have f3 : r3 = zI (sI (sThr x a va ma b vb mb) 0 1) := f3
            have h3 : zR K x y S3 := h3
            obtain ⟨⟨r4, S4⟩, e4, f4, h4⟩ := zX_blocksNext_s h3 g h40 d hb ha h5b
            have f4 : r4 = zI (sI (sThr x b vb mb a va ma) 0 1) := f4
            subst f3
            subst f4
            rw [e3]
            have s4 : ∀ s0 : Int, zwp (zX_block_79 (d + 7) (zI a) (zI va) (zI ma) (zI b) (zI vb) (zI mb) (zI s0) S3) (fun r => r.1 = zI (s0 + sI (sThr x b vb mb a va ma) 0 2) ∧ zR K x y r.2) := by
              intro s0
              rw [eX_block_79, e4]
              show zwp (zif (zI (sI (sThr x b vb mb a va ma) 0 1) = 0) (some (zI s0 + 0, S4)) (some (zI s0 + 2, S4))) _
              by_cases ht : sThr x b vb mb a va ma
              · rw [sI_t ht, sI_t ht, zif_pos (by rfl), zwp_some]
                exact ⟨by rw [zI_n0, zI_add], h4⟩
              · rw [sI_f ht, sI_f ht, zif_neg (by decide), zwp_some]
                exact ⟨by rw [zI_n2, zI_add], h4⟩
            show zwp (zif (zI (sI (sThr x a va ma b vb mb) 0 1) = 0) (zX_block_79 (d + 7) (zI a) (zI va) (zI ma) (zI b) (zI vb) (zI mb) 0 S3) (zX_block_79 (d + 7) (zI a) (zI va) (zI ma) (zI b) (zI vb) (zI mb) 1 S3)) _
            by_cases ht : sThr x a va ma b vb mb
            · rw [sI_t ht, zif_pos (by rfl)]
              exact s4 0
            · rw [sI_f ht, zif_neg (by decide)]
              exact s4 1
          · rw [zif_neg h5b, zwp_some, sI_f (fun hn => h5b hn.2.2.2.2)]
            exact ⟨rfl, h2⟩
        · rw [zif_neg h5, zwp_some, sI_f (fun hn => h5 hn.2.2.2.1)]
          exact ⟨rfl, h1⟩
      · rw [zif_pos (by rw [zb_0]; exact hb), zwp_some, sI_f (fun hn => hb hn.2.2.1)]
        exact ⟨rfl, h⟩
    · rw [zif_pos (by rw [zb_0]; exact ha), zwp_some, sI_f (fun hn => ha hn.2.1)]
      exact ⟨rfl, h⟩
end BL
