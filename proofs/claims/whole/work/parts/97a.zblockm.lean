/-! BLOCK of the reference -/
section BM
variable {K : ZS} {x y : ZW} {S : ZS}
def zw1 (y : ZW) (a va ma : Int) : ZW := if y 15 a = 0 ∧ ¬ sFF y (y 12 a) < 0 then sMk y a va ma ma.toNat else y
def sVb (z : ZW) (b vb mb : Int) : Int := if z 15 b = 0 then sAt z b vb mb else -1
theorem zw1_z (g : zGd y) {a va ma : Int} (ha : zLn y a) : zGd (zw1 y a va ma) ∧ (zw1 y a va ma) 11 = y 11 := by
  unfold zw1
  by_cases h : y 15 a = 0 ∧ ¬ sFF y (y 12 a) < 0
  · rw [if_pos h]
    obtain ⟨k1, k2, k3, k4⟩ := sMk_z g (v := va) (m := ma) ha h.1 h.2 ma.toNat
    exact ⟨k1, k4 11 (by omega)⟩
  · rw [if_neg h]
    exact ⟨g, rfl⟩
theorem sVb_b (g : zGd y) {b vb mb : Int} (hl : zLn y b) : -1 ≤ sVb y b vb mb ∧ sVb y b vb mb ≤ 7 := by
  unfold sVb
  split
  · rename_i hq
    have := sAt_b g (v := vb) (m := mb) hl hq
    omega
  · omega
/-- two meets one behind another, then clears -/
theorem zM_two_s (h : zR K x y S) (g : zGd y) (h40 : ∀ e, y 40 e = 0) (h41 : ∀ j, y 41 j = 0) (d : Nat) {a va ma b vb mb : Int} (ha : sTry y a va ma) (hb : sTry y b vb mb) {α : Type} (f : Int32 → Int32 → ZS → Option α) (Q : α → Prop)
    (hQ : ∀ S', zR K x y S' → zwp (f (zI (sAt y a va ma)) (zI (sVb (zw1 y a va ma) b vb mb)) S') Q) :
    zwp ((zM_meets (d + 3) (zI a) (zI va) (zI ma) S).bind (fun r1 => (zM_meets (d + 3) (zI b) (zI vb) (zI mb) r1.2).bind (fun r2 => (zM_clears (d + 3) r2.2).bind (fun r3 => f r1.1 r2.1 r3)))) Q := by
  obtain ⟨⟨r1, S1⟩, e1, f1, y1, a1, a2, a3, a4, -⟩ := zM_meets_s h g.1 (zT_refl h40 h41) g d (l := a) (v := va) (m := ma) ha.1 ⟨ha.2.2.1, ha.2.2.2.1⟩ ha.2.2.2.2
  rw [if_pos ha.2.1] at f1
  have f1 : r1 = zI (sAt y a va ma) := f1
  subst f1
  obtain ⟨gz, g11⟩ := zw1_z g (va := va) (ma := ma) ha.1
  obtain ⟨⟨r2, S2⟩, e2, f2, y2, b1, b2, b3, -, -⟩ := zM_meets_s a1 a2 (z0 := zw1 y a va ma) a4 gz d (l := b) (v := vb) (m := mb) (by unfold zLn; rw [g11]; exact hb.1) ⟨hb.2.2.1, hb.2.2.2.1⟩ hb.2.2.2.2
  have f2 : r2 = zI (sVb (zw1 y a va ma) b vb mb) := f2
  subst f2
  obtain ⟨S3, e3, c1⟩ := zM_clears_s b1 h40 h41 (zEv_t a3 b3) (d + 2)
  rw [e1]
  show zwp ((zM_meets (d + 3) (zI b) (zI vb) (zI mb) S1).bind _) Q
  rw [e2]
  show zwp ((zM_clears (d + 3) S2).bind _) Q
  rw [e3]
  exact hQ S3 c1
theorem zM_block_s (h : zR K x y S) (g : zGd y) (h40 : ∀ e, y 40 e = 0) (h41 : ∀ j, y 41 j = 0) (d : Nat) {a va ma b vb mb : Int} (a1 : -2147483648 ≤ a) (a2 : a < 2147483648) (va1 : -2147483648 ≤ va) (va2 : va < 2147483648) (ma1 : -2147483648 ≤ ma) (ma2 : ma < 2147483648) (b1 : -2147483648 ≤ b) (b2 : b < 2147483648) (vb1 : -2147483648 ≤ vb) (vb2 : vb < 2147483648) (mb1 : -2147483648 ≤ mb) (mb2 : mb < 2147483648) :
    zwp (zM_block (d + 4) (zI a) (zI va) (zI ma) (zI b) (zI vb) (zI mb) S) (fun r => r.1 = zI (sBlock y a va ma b vb mb).1 ∧ zR K x (sBlock y a va ma b vb mb).2 r.2) := by
  unfold sBlock
  rw [eM_block]
  have h0 := zR_s h (t := 11) (s := 0) rfl 0 (0 : Int32)
  generalize hS : ((zu S.1 11 0 0 (0 : Int32)), S.2) = S' at h0 ⊢
  have hS1 : zu S.1 11 0 0 (0 : Int32) = S'.1 := by rw [← hS]
  have hS2 : S.2 = S'.2 := by rw [← hS]
  try simp only [hS1, hS2]
  rw [zM_canTry_s h0 g.1 d a1 a2 va1 va2 ma1 ma2]
  show zwp (zif (zb _ = 0) (some (-1, S')) ((zM_canTry (d + 3) (zI b) (zI vb) (zI mb) S').bind _)) _
  by_cases ha : sTry y a va ma
  · rw [zif_neg (by rw [zb_0]; exact fun hn => hn ha), zM_canTry_s h0 g.1 d b1 b2 vb1 vb2 mb1 mb2]
    show zwp (zif (zb _ = 0) (some (-1, S')) (zif (zI a = zI b) (some (-1, S')) ((zM_clears (d + 3) S').bind _))) _
    by_cases hb : sTry y b vb mb
    · rw [zif_neg (by rw [zb_0]; exact fun hn => hn hb), zI_eq a1 a2 b1 b2]
      by_cases hab : a = b
      · rw [zif_pos hab, zwp_some, sI_f (fun hn => hn.1 hab)]
        exact ⟨rfl, h0⟩
      · rw [zif_neg hab]
        obtain ⟨S1, e1, h1⟩ := zM_clears_s h0 h40 h41 (zEv_r y) (d + 2)
        rw [e1]
        have bA := sAt_b g (v := va) (m := ma) ha.1 ha.2.1
        have bB := sAt_b g (v := vb) (m := mb) hb.1 hb.2.1
        obtain ⟨gz1, g11⟩ := zw1_z g (va := va) (ma := ma) ha.1
        obtain ⟨gz2, g12⟩ := zw1_z g (va := vb) (ma := mb) hb.1
        have bV1 := sVb_b gz1 (b := b) (vb := vb) (mb := mb) (by unfold zLn; rw [g11]; exact hb.1)
        have bV2 := sVb_b gz2 (b := a) (vb := va) (mb := ma) (by unfold zLn; rw [g12]; exact ha.1)
        -- what block_56 does, s0 telling of the first
        have k56 : ∀ (s0 : Int) (S2 : ZS), (s0 = 0 ∨ s0 = 1) → (s0 = 1 ↔ sAt y a va ma = 5) → zwp ((zM_meets (d + 3) (zI a) (zI va) (zI ma) S1).bind (fun r4 => zM_block_56 (d + 3) (zI a) (zI va) (zI ma) (zI b) (zI vb) (zI mb) (zI s0) r4.2)) (fun r => r.1 = zI (sI (sBok y a va ma b vb mb) (sI (sThr y a va ma b vb mb) 0 1 + sI (sThr y b vb mb a va ma) 0 2) (-1)) ∧ zR K x y r.2) := by
          intro s0 _ hs0 hs1
          have e56 : ∀ S, zM_block_56 (d + 3) (zI a) (zI va) (zI ma) (zI b) (zI vb) (zI mb) (zI s0) S = (zM_meets (d + 3) (zI b) (zI vb) (zI mb) S).bind (fun r1 => (zM_clears (d + 3) r1.2).bind (fun r2 => (zM_meets (d + 3) (zI b) (zI vb) (zI mb) r2).bind (fun r3 => zif (r3.1 = 5) (zif (zI s0 = 0) (zM_block_98 (d + 3) (zI a) (zI va) (zI ma) r1.1 0 r3.2) (zM_block_98 (d + 3) (zI a) (zI va) (zI ma) r1.1 1 r3.2)) (zM_block_98 (d + 3) (zI a) (zI va) (zI ma) r1.1 0 r3.2)))) := fun S => eM_block_56 _ _ _ _ _ _ _ _ _
          simp only [e56]
          refine zM_two_s h1 g h40 h41 d ha hb (fun _ v2 S3 => (zM_meets (d + 3) (zI b) (zI vb) (zI mb) S3).bind (fun r3 => zif (r3.1 = 5) (zif (zI s0 = 0) (zM_block_98 (d + 3) (zI a) (zI va) (zI ma) v2 0 r3.2) (zM_block_98 (d + 3) (zI a) (zI va) (zI ma) v2 1 r3.2)) (zM_block_98 (d + 3) (zI a) (zI va) (zI ma) v2 0 r3.2))) _ (fun S3 h3 => ?_)
          have e98 : ∀ (v2 s : Int32) S, zM_block_98 (d + 3) (zI a) (zI va) (zI ma) v2 s S = (zM_meets (d + 3) (zI a) (zI va) (zI ma) S).bind (fun r1 => (zM_clears (d + 3) r1.2).bind (fun r2 => zif (s = 0) (some ((-1 : Int32), r2)) (zif (v2 = 5) (zif (r1.1 = 5) (some (((0 : Int32) + 0), r2)) (some (((0 : Int32) + 2), r2))) (zif (r1.1 = 5) (some (((1 : Int32) + 0), r2)) (some (((1 : Int32) + 2), r2)))))) := fun v2 s S => eM_block_98 _ _ _ _ _ _ _
          have key : ∀ s : Int32, s = (if sAt y b vb mb = 5 ∧ s0 = 1 then 1 else 0) → zwp ((zM_meets (d + 3) (zI b) (zI vb) (zI mb) S3).bind (fun r3 => zM_block_98 (d + 3) (zI a) (zI va) (zI ma) (zI (sVb (zw1 y a va ma) b vb mb)) s r3.2)) (fun r => r.1 = zI (sI (sBok y a va ma b vb mb) (sI (sThr y a va ma b vb mb) 0 1 + sI (sThr y b vb mb a va ma) 0 2) (-1)) ∧ zR K x y r.2) := by
            intro s hs
            simp only [e98]
            refine zM_two_s h3 g h40 h41 d hb ha (fun _ v3 S5 => zif (s = 0) (some ((-1 : Int32), S5)) (zif (zI (sVb (zw1 y a va ma) b vb mb) = 5) (zif (v3 = 5) (some (((0 : Int32) + 0), S5)) (some (((0 : Int32) + 2), S5))) (zif (v3 = 5) (some (((1 : Int32) + 0), S5)) (some (((1 : Int32) + 2), S5))))) _ (fun S5 h5 => ?_)
            show zwp (zif (s = 0) _ _) _
            by_cases hboth : sAt y b vb mb = 5 ∧ s0 = 1
            · rw [if_pos hboth] at hs
              subst hs
              have h5a := hs1.mp hboth.2
              rw [zif_neg (by decide), sI_t ⟨hab, ha, hb, h5a, hboth.1⟩]
              have w1 : zw1 y a va ma = sMk y a va ma ma.toNat := by unfold zw1; rw [if_pos ⟨ha.2.1, sAt_5 h5a⟩]
              have w2 : zw1 y b vb mb = sMk y b vb mb mb.toNat := by unfold zw1; rw [if_pos ⟨hb.2.1, sAt_5 hboth.1⟩]
              have t1 : sThr y a va ma b vb mb ↔ sVb (zw1 y a va ma) b vb mb = 5 := by
                rw [w1]
                unfold sThr sVb
                by_cases hq : sMk y a va ma ma.toNat 15 b = 0
                · rw [if_pos hq]; exact ⟨fun h => h.2, fun h => ⟨hq, h⟩⟩
                · rw [if_neg hq]; exact ⟨fun h => absurd h.1 hq, fun h => by omega⟩
              have t2 : sThr y b vb mb a va ma ↔ sVb (zw1 y b vb mb) a va ma = 5 := by
                rw [w2]
                unfold sThr sVb
                by_cases hq : sMk y b vb mb mb.toNat 15 a = 0
                · rw [if_pos hq]; exact ⟨fun h => h.2, fun h => ⟨hq, h⟩⟩
                · rw [if_neg hq]; exact ⟨fun h => absurd h.1 hq, fun h => by omega⟩
              rw [zI_n5, zI_eq (by omega) (by omega) (by omega) (by omega), zI_eq (by omega) (by omega) (by omega) (by omega)]
              by_cases c1 : sThr y a va ma b vb mb
              · rw [sI_t c1, zif_pos (t1.mp c1)]
                by_cases c2 : sThr y b vb mb a va ma
                · rw [sI_t c2, zif_pos (t2.mp c2), zwp_some]; exact ⟨rfl, h5⟩
                · rw [sI_f c2, zif_neg (fun h => c2 (t2.mpr h)), zwp_some]; exact ⟨rfl, h5⟩
              · rw [sI_f c1, zif_neg (fun h => c1 (t1.mpr h))]
                by_cases c2 : sThr y b vb mb a va ma
                · rw [sI_t c2, zif_pos (t2.mp c2), zwp_some]; exact ⟨rfl, h5⟩
                · rw [sI_f c2, zif_neg (fun h => c2 (t2.mpr h)), zwp_some]; exact ⟨rfl, h5⟩
            · rw [if_neg hboth] at hs
              subst hs
              rw [zif_pos rfl, zwp_some, sI_f (fun hn => hboth ⟨hn.2.2.2.2, hs1.mpr hn.2.2.2.1⟩)]
              exact ⟨rfl, h5⟩
          -- the meets of b alone tells which s
          obtain ⟨⟨r3, S4⟩, e3, f3, -⟩ := zM_meets_s h3 g.1 (zT_refl h40 h41) g d (l := b) (v := vb) (m := mb) hb.1 ⟨hb.2.2.1, hb.2.2.2.1⟩ hb.2.2.2.2
          rw [if_pos hb.2.1] at f3
          have f3 : r3 = zI (sAt y b vb mb) := f3
          subst f3
          rw [e3] at key ⊢
          have key : ∀ s : Int32, s = (if sAt y b vb mb = 5 ∧ s0 = 1 then 1 else 0) → zwp (zM_block_98 (d + 3) (zI a) (zI va) (zI ma) (zI (sVb (zw1 y a va ma) b vb mb)) s S4) _ := key
          show zwp (zif (zI (sAt y b vb mb) = 5) (zif (zI s0 = 0) (zM_block_98 (d + 3) (zI a) (zI va) (zI ma) (zI (sVb (zw1 y a va ma) b vb mb)) 0 S4) (zM_block_98 (d + 3) (zI a) (zI va) (zI ma) (zI (sVb (zw1 y a va ma) b vb mb)) 1 S4)) (zM_block_98 (d + 3) (zI a) (zI va) (zI ma) (zI (sVb (zw1 y a va ma) b vb mb)) 0 S4)) _
          rw [zI_n5, zI_eq (by omega) (by omega) (by omega) (by omega)]
          by_cases h5 : sAt y b vb mb = 5
          · rw [zif_pos h5]
            rcases hs0 with e0 | e0
            · rw [e0, zif_pos (by rfl)]
              exact key 0 (by rw [if_neg (by omega)])
            · rw [e0, zif_neg (by decide)]
              exact key 1 (by rw [if_pos ⟨h5, e0⟩])
          · rw [zif_neg h5]
            exact key 0 (by rw [if_neg (fun hn => h5 hn.1)])
        show zwp ((zM_meets (d + 3) (zI a) (zI va) (zI ma) S1).bind (fun r4 => zif (r4.1 = 5) (zM_block_56 (d + 3) (zI a) (zI va) (zI ma) (zI b) (zI vb) (zI mb) 1 r4.2) (zM_block_56 (d + 3) (zI a) (zI va) (zI ma) (zI b) (zI vb) (zI mb) 0 r4.2))) _
        obtain ⟨⟨r1, S4⟩, e3, f3, -⟩ := zM_meets_s h1 g.1 (zT_refl h40 h41) g d (l := a) (v := va) (m := ma) ha.1 ⟨ha.2.2.1, ha.2.2.2.1⟩ ha.2.2.2.2
        rw [if_pos ha.2.1] at f3
        have f3 : r1 = zI (sAt y a va ma) := f3
        subst f3
        rw [e3] at k56 ⊢
        show zwp (zif (zI (sAt y a va ma) = 5) (zM_block_56 (d + 3) (zI a) (zI va) (zI ma) (zI b) (zI vb) (zI mb) 1 S4) (zM_block_56 (d + 3) (zI a) (zI va) (zI ma) (zI b) (zI vb) (zI mb) 0 S4)) _
        rw [zI_n5, zI_eq (by omega) (by omega) (by omega) (by omega)]
        by_cases h5 : sAt y a va ma = 5
        · rw [zif_pos h5]
          exact k56 1 S4 (Or.inr rfl) ⟨fun _ => h5, fun _ => rfl⟩
        · rw [zif_neg h5]
          exact k56 0 S4 (Or.inl rfl) ⟨fun h => by omega, fun h => absurd h h5⟩
    · rw [zif_pos (by rw [zb_0]; exact hb), zwp_some, sI_f (fun hn => hb hn.2.2.1)]
      exact ⟨rfl, h0⟩
  · rw [zif_pos (by rw [zb_0]; exact ha), zwp_some, sI_f (fun hn => ha hn.2.1)]
    exact ⟨rfl, h0⟩
end BM
