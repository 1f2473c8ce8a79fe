/-! LAID of the reference: a call is laid anew, and the new one with it -/
/-- the digits of a call as one number -/
def zits (y : ZW) (j : Int) : Nat → Int
  | 0 => 0
  | n + 1 => 10 * zits y j n + y 19 (5 * j + n)
theorem zits_b {y : ZW} {j : Int} : ∀ n : Nat, (∀ i : Int, 0 ≤ i → i < n → 0 ≤ y 19 (5 * j + i) ∧ y 19 (5 * j + i) ≤ 9) → 0 ≤ zits y j n ∧ zits y j n < 10 ^ n
  | 0, _ => ⟨Int.le_refl _, show (0 : Int) < 10 ^ 0 by decide⟩
  | n + 1, h => by
    have ih := zits_b n (fun i i0 i1 => h i i0 (by omega))
    have b := h n (by omega) (by omega)
    have p : (10 : Int) ^ (n + 1) = 10 * 10 ^ n := by rw [Int.pow_succ, Int.mul_comm]
    rw [zits, p]
    omega
theorem zits_d {y : ZW} {j : Int} {t k : Int} (ht : 0 ≤ t ∧ t ≤ 5) (hk : 0 ≤ k ∧ k < t) (h : ∀ i : Int, 0 ≤ i → i < 5 → i < t → 0 ≤ y 19 (5 * j + i) ∧ y 19 (5 * j + i) ≤ 9) : sDgt (zits y j t.toNat) (t - 1 - k) = y 19 (5 * j + k) := by
  have h1 : t = 1 ∨ t = 2 ∨ t = 3 ∨ t = 4 ∨ t = 5 := by omega
  have h2 : k = 0 ∨ k = 1 ∨ k = 2 ∨ k = 3 ∨ k = 4 := by omega
  have b0 := h 0 (by omega) (by omega) (by omega)
  rcases h1 with rfl | rfl | rfl | rfl | rfl
  · have e : zits y j (1 : Int).toNat = 10 * 0 + y 19 (5 * j + 0) := rfl
    rw [e, show k = 0 by omega]
    unfold sDgt
    simp only [Int.reduceSub, if_true]
    omega
  · have b1 := h 1 (by omega) (by omega) (by omega)
    have e : zits y j (2 : Int).toNat = 10 * (10 * 0 + y 19 (5 * j + 0)) + y 19 (5 * j + 1) := rfl
    rw [e]
    unfold sDgt
    rcases h2 with rfl | rfl | rfl | rfl | rfl <;> simp only [Int.reduceSub, Int.reduceEq, if_true, if_false] <;> omega
  · have b1 := h 1 (by omega) (by omega) (by omega)
    have b2 := h 2 (by omega) (by omega) (by omega)
    have e : zits y j (3 : Int).toNat = 10 * (10 * (10 * 0 + y 19 (5 * j + 0)) + y 19 (5 * j + 1)) + y 19 (5 * j + 2) := rfl
    rw [e]
    unfold sDgt
    rcases h2 with rfl | rfl | rfl | rfl | rfl <;> simp only [Int.reduceSub, Int.reduceEq, if_true, if_false] <;> omega
  · have b1 := h 1 (by omega) (by omega) (by omega)
    have b2 := h 2 (by omega) (by omega) (by omega)
    have b3 := h 3 (by omega) (by omega) (by omega)
    have e : zits y j (4 : Int).toNat = 10 * (10 * (10 * (10 * 0 + y 19 (5 * j + 0)) + y 19 (5 * j + 1)) + y 19 (5 * j + 2)) + y 19 (5 * j + 3) := rfl
    rw [e]
    unfold sDgt
    rcases h2 with rfl | rfl | rfl | rfl | rfl <;> simp only [Int.reduceSub, Int.reduceEq, if_true, if_false] <;> omega
  · have b1 := h 1 (by omega) (by omega) (by omega)
    have b2 := h 2 (by omega) (by omega) (by omega)
    have b3 := h 3 (by omega) (by omega) (by omega)
    have b4 := h 4 (by omega) (by omega) (by omega)
    have e : zits y j (5 : Int).toNat = 10 * (10 * (10 * (10 * (10 * 0 + y 19 (5 * j + 0)) + y 19 (5 * j + 1)) + y 19 (5 * j + 2)) + y 19 (5 * j + 3)) + y 19 (5 * j + 4) := rfl
    rw [e]
    unfold sDgt
    rcases h2 with rfl | rfl | rfl | rfl | rfl <;> simp only [Int.reduceSub, Int.reduceEq, if_true, if_false] <;> omega
/-- the moved call's choice q goes, and the new call beside it -/
noncomputable def sQm (y : ZW) (j q : Int) : Int × List Int := sLays y j (zits y j (y 18 j).toNat) (y 18 j) j (y 17 j) (zchc q)
def sMm (y : ZW) (j l v m q : Int) : Prop := (sQm y j q).1 = -1 ∧ ∃ p, 0 ≤ p ∧ p < 1024 * y 4 (y 12 l) ∧ (sLays (zTr y (sQm y j q).2) l v m j (-2) (zchc p)).1 = -1
section CM
variable {K : ZS} {x y : ZW} {S : ZS}
theorem zcm_124 (d : Nat) {z : ZW} {n : Int} (a1 a2 a3 a4 a5 a7 : Int32) (Q : Int32 × ZS → Prop) (hn : n ≤ 16) : ∀ (L : List Int) (i : Int) (S : ZS), 0 ≤ i → i + L.length = n → zR K x z S → zAt 114 S i L →
    (∀ S', zR K x z S' → zAt 115 S' i L → (∀ p : Int, 0 ≤ p → p < i → S'.1 115 0 p.toNat = S.1 115 0 p.toNat) → S'.1 113 = S.1 113 → zwp (zM_canMove_124 d a1 a2 a3 a4 a5 a7 (zI n) (zI n) S') Q) → zwp (zM_canMove_124 d a1 a2 a3 a4 a5 a7 (zI n) (zI i) S) Q
  | [], i, S, i0, e, h, at1, hQ => by
    rw [List.length_nil] at e
    rw [show i = n by omega]
    exact hQ S h trivial (fun _ _ _ => rfl) rfl
  | a :: L, i, S, i0, e, h, at1, hQ => by
    rw [List.length_cons] at e
    rw [eM_canMove_124, zI_le (by omega) (by omega) (by omega) (by omega), zif_neg (by omega), zg_t (by rw [zI_in (by omega) (by omega)]; omega), zg_t (by rw [zI_in (by omega) (by omega)]; omega), zI_zx (by omega) (by omega), at1.1, zI_n1, zI_add]
    refine zcm_124 d a1 a2 a3 a4 a5 a7 Q hn L (i + 1) _ (by omega) (by omega) (zR_t h (t := 115) (by decide) 0 i.toNat (zI a)) (zAt_c (S := S) L (i + 1) (fun _ _ _ => rfl) at1.2) (fun S' h' a' f' e' => ?_)
    refine hQ S' h' ⟨(f' i (by omega) (by omega)).trans (zu_same S.1 115 0 i.toNat (zI a)), a'⟩ (fun p p0 p1 => (f' p p0 (by omega)).trans (zu_pl S.1 (show p.toNat ≠ i.toNat by omega))) e'
theorem zcm_178 (d : Nat) {n : Int} (a1 a2 a3 a4 a5 a7 a9 : Int32) (Q : Int32 × ZS → Prop) (hn : n ≤ 16) : ∀ (L : List Int) (i : Int) (S : ZS) (z : ZW), 0 ≤ i → i + L.length = n → zR K x z S → zAt 115 S i L → (∀ a ∈ L, 0 ≤ a ∧ a < 116) →
    (∀ S', zR K x (zGv z L) S' → S'.1 113 = S.1 113 → zwp (zM_canMove_178 d a1 a2 a3 a4 a5 a7 (zI n) a9 (zI n) S') Q) → zwp (zM_canMove_178 d a1 a2 a3 a4 a5 a7 (zI n) a9 (zI i) S) Q
  | [], i, S, z, i0, e, h, at1, b, hQ => by
    rw [List.length_nil] at e
    rw [show i = n by omega]
    exact hQ S h rfl
  | a :: L, i, S, z, i0, e, h, at1, b, hQ => by
    rw [List.length_cons] at e
    have ba := b a List.mem_cons_self
    have w := zWm40 h (k := a) (v := 0) (by omega) (by omega) (by omega) (by omega)
    rw [eM_canMove_178, zI_le (by omega) (by omega) (by omega) (by omega), zif_neg (by omega), zg_t (by rw [zI_in (by omega) (by omega)]; omega), zI_zx (by omega) (by omega), at1.1, zg_t (by rw [zI_in (by omega) (by omega)]; omega), zg_t (show zbl 0 = true from rfl), zI_zx (by omega) (by omega), zI_n1, zI_add, zI_n0]
    exact zcm_178 d a1 a2 a3 a4 a5 a7 a9 Q hn L (i + 1) _ _ (by omega) (by omega) w (zAt_c (S := S) L (i + 1) (fun _ _ _ => rfl) at1.2) (fun a' ha => b a' (List.mem_cons_of_mem _ ha)) hQ
theorem zM_canMove_72_s (gd : zGd y) (d : Nat) {j l v m N : Int} (hj : zLn y j) (hc : y 15 j = 1) (ht : y 18 j ≤ 5) (hl : zLn y l) (hv : 0 ≤ v ∧ v ≤ 99999) (hm : 0 ≤ m ∧ m ≤ 5) (hN : y 4 (y 12 j) = N) :
    ∀ (n : Nat) (q : Int) (S : ZS), (1024 * N - q).toNat ≤ n → 0 ≤ q → q < 1024 * N → zR K x y S → zCh S 6 (zchc q) →
    zwp (zM_canMove_72 (d + 4) (zI j) (zI l) (zI v) (zI m) (zI (zits y j (y 18 j).toNat)) (zI 1) S) (fun r => r.1 = zb (∃ q', q ≤ q' ∧ q' < 1024 * N ∧ sMm y j l v m q') ∧ zR K x y r.2) := by
  have gp := gd.1
  have cg := gd.2.2.2.1 j hj hc
  have b17 := cg.2.2.1
  have b18 := cg.2.2.2.2.1
  have b11 := zG11 gp
  have bdig := cg.2.2.2.2.2.2.2
  have bits := zits_b (y := y) (j := j) (y 18 j).toNat (fun i i0 i1 => bdig i i0 (by omega) (by omega))
  have p5 : (10 : Int) ^ (y 18 j).toNat ≤ 100000 := by
    have : (y 18 j).toNat = 0 ∨ (y 18 j).toNat = 1 ∨ (y 18 j).toNat = 2 ∨ (y 18 j).toNat = 3 ∨ (y 18 j).toNat = 4 ∨ (y 18 j).toNat = 5 := by omega
    rcases this with w | w | w | w | w | w <;> rw [w] <;> decide
  have hj40 : 0 ≤ j ∧ j < 40 := by have := hj.1; have := hj.2; omega
  intro n
  induction n with
  | zero =>
    intro q S e q0 q1
    omega
  | succ n ih =>
    intro q S e q0 q1 h hcc
    have bq := zchc_b q0 q1
    have eQ : sQm y j q = sLays y j (zits y j (y 18 j).toNat) (y 18 j) j (y 17 j) (zchc q) := rfl
    have b := sLays_b (y := y) (l := j) (v := zits y j (y 18 j).toNat) (m := y 18 j) (away := j) (g := y 17 j) (ch := zchc q) (by omega)
    have bn := sLays_n (y := y) (l := j) (v := zits y j (y 18 j).toNat) (m := y 18 j) (away := j) (g := y 17 j) (ch := zchc q) (by omega)
    have bm := sLays_m (y := y) (l := j) (v := zits y j (y 18 j).toNat) (m := y 18 j) (away := j) (g := y 17 j) (ch := zchc q) gp (zen_home gp hj (by rw [hN]; exact bq.1))
    have lay := zM_lays_s (K := K) (x := x) h gp (l := j) (v := zits y j (y 18 j).toNat) (m := y 18 j) (base := 6) (away := j) (g := y 17 j) (d + 1) hj (by omega) (by omega) (by omega) (by omega) (by omega) (ch := zchc q) (by rw [hN]; exact bq.1) bq.2 hcc
    rw [← eQ] at b bn bm lay
    have bl : ∀ a ∈ (sQm y j q).2, 0 ≤ a ∧ a < 116 := fun a ha => zEn_b gp (bm a ha).1
    -- what follows the first lays
    have rest : ∀ r1 : Int32 × ZS, (r1.1 = zI (sQm y j q).1 ∧ zR K x (zTr y (sQm y j q).2) r1.2 ∧ zAt 114 r1.2 0 (sQm y j q).2 ∧ r1.2.1 11 0 72 = zI (sQm y j q).2.length ∧ zLf2 S r1.2 ∧ zGp (zTr y (sQm y j q).2)) →
        zwp (zM_canMove_124 (d + 4) (zI j) (zI l) (zI v) (zI m) (zI (zits y j (y 18 j).toNat)) r1.1 (r1.2.1 11 0 72) (zI 0) r1.2) (fun r => r.1 = zb (∃ q', q ≤ q' ∧ q' < 1024 * N ∧ sMm y j l v m q') ∧ zR K x y r.2) := by
      rintro ⟨u, S1⟩ ⟨k1, k2, k3, k4, k5, k6⟩
      dsimp only at k1 k2 k3 k4 k5 k6 ⊢
      rw [k1, k4]
      refine zcm_124 (d + 4) _ _ _ _ _ _ _ (by omega) (sQm y j q).2 0 S1 (by omega) (by omega) k2 k3 (fun S2 h2 a2 _ e2 => ?_)
      -- what follows the second search
      have back : ∀ (S3 : ZS) (B : Prop), zR K x (zTr y (sQm y j q).2) S3 → zAt 115 S3 0 (sQm y j q).2 → zCh S3 6 (zchc q) → ((sQm y j q).1 = -1 → (B ↔ sMm y j l v m q)) → (¬ (sQm y j q).1 = -1 → ¬ B) → ∀ c : Int32, c = zb B →
          zwp (zM_canMove_178 (d + 4) (zI j) (zI l) (zI v) (zI m) (zI (zits y j (y 18 j).toNat)) (zI (sQm y j q).1) (zI (sQm y j q).2.length) c (zI 0) S3) (fun r => r.1 = zb (∃ q', q ≤ q' ∧ q' < 1024 * N ∧ sMm y j l v m q') ∧ zR K x y r.2) := by
        intro S3 B h3 a3 c3 hB hB' c hcB
        refine zcm_178 (d + 4) _ _ _ _ _ _ _ _ (by omega) (sQm y j q).2 0 S3 _ (by omega) (by omega) h3 a3 bl (fun S4 h4 e4 => ?_)
        rw [zGv_b (fun a ha => (bm a ha).2)] at h4
        have c4 : zCh S4 6 (zchc q) := fun i i0 i1 => by rw [e4]; exact c3 i i0 i1
        rw [eM_canMove_178, zI_le (by omega) (by omega) (by omega) (by omega), zif_pos (by omega), hcB, zb_0]
        by_cases hb : B
        · have s1 : (sQm y j q).1 = -1 := by
            by_cases w : (sQm y j q).1 = -1
            · exact w
            · exact absurd hb (hB' w)
          rw [zif_neg (fun w => w hb), zwp_some]
          exact ⟨(zb_t ⟨q, by omega, q1, (hB s1).1 hb⟩).symm, h4⟩
        · rw [zif_pos hb]
          -- the index at which the next choice is made
          have go : ∀ a : Int, 0 ≤ a → a ≤ 5 → (∀ q', q ≤ q' → q' < (q / zpwc a + 1) * zpwc a → ¬ sMm y j l v m q') → zwp ((zM_counts (d + 4) (zI j) (zI 6) (zI a) S4).bind (fun r1 => zM_canMove_72 (d + 4) (zI j) (zI l) (zI v) (zI m) (zI (zits y j (y 18 j).toNat)) r1.1 r1.2)) (fun r => r.1 = zb (∃ q', q ≤ q' ∧ q' < 1024 * N ∧ sMm y j l v m q') ∧ zR K x y r.2) := by
            intro a a0 a5 skip
            have ct := zM_counts_s (K := K) (x := x) h4 gp (d + 3) (base := 6) (a := a) hj (by omega) hN ⟨a0, a5⟩ ⟨q0, q1⟩ c4
            have qT : q < (q / zpwc a + 1) * zpwc a := by
              have : a = 0 ∨ a = 1 ∨ a = 2 ∨ a = 3 ∨ a = 4 ∨ a = 5 := by omega
              unfold zpwc
              rcases this with rfl | rfl | rfl | rfl | rfl | rfl <;> simp only [Int.reduceEq, if_true, if_false] <;> omega
            generalize (q / zpwc a + 1) * zpwc a = T at ct skip qT
            rw [zwp_bind]
            refine zwp_mono ct (fun r3 k => ?_)
            obtain ⟨c1, c2, c3, c4⟩ := k
            rw [c1]
            by_cases tn : T < 1024 * N
            · rw [zb_t tn]
              refine zwp_mono (ih T r3.2 (by omega) (by omega) tn c2 (c3 tn)) (fun r4 k => ?_)
              refine ⟨k.1.trans (zb_c ?_), k.2⟩
              constructor
              · rintro ⟨q', a, a', a''⟩
                exact ⟨q', by omega, a', a''⟩
              · rintro ⟨q', a, a', a''⟩
                by_cases w : q' < T
                · exact absurd a'' (skip q' a w)
                · exact ⟨q', by omega, a', a''⟩
            · rw [zb_f tn, eM_canMove_72, zif_pos rfl, zwp_some]
              refine ⟨?_, c2⟩
              rw [zb_f]
              rintro ⟨q', a, a', a''⟩
              exact skip q' a (by omega) a''
          rw [zI_n0, zI_le (by omega) (by omega) (by omega) (by omega), zI_n6]
          by_cases s1 : (sQm y j q).1 = -1
          · have n1 := bn.2 s1
            have r := go ((sQm y j q).2.length - 1) (by omega) (by omega) (fun q' a a' w => by
              have eq' : sQm y j q' = sQm y j q := sLays_c (ch := zchc q) (ch' := zchc q') (by omega) (fun i i0 i1 => by
                rw [← eQ, if_pos s1] at i1
                exact zchc_e q0 a a' (by omega) ⟨i0, i1⟩)
              have : sMm y j l v m q := by
                unfold sMm at w ⊢
                rw [eq'] at w
                exact w
              exact hb ((hB s1).2 this))
            rw [zif_neg (by omega), zI_n1, zI_sub]
            exact r
          · have r := go (sQm y j q).1 (by omega) (by omega) (fun q' a a' w => by
              have eq' : sQm y j q' = sQm y j q := sLays_c (ch := zchc q) (ch' := zchc q') (by omega) (fun i i0 i1 => by
                rw [← eQ, if_neg s1] at i1
                exact zchc_e q0 a a' (by omega) ⟨i0, i1⟩)
              unfold sMm at w
              rw [eq'] at w
              exact s1 w.1)
            rw [zif_pos (by omega)]
            exact r
      have c2 : zCh S2 6 (zchc q) := fun i i0 i1 => by rw [e2, k5.1]; exact hcc i i0 i1
      rw [eM_canMove_124, zI_le (by omega) (by omega) (by omega) (by omega), zif_pos (by omega), zI_n0, zI_le (by omega) (by omega) (by omega) (by omega)]
      by_cases s1 : (sQm y j q).1 = -1
      · have ss : ∀ g', g' ≠ 40 → (zTr y (sQm y j q).2) g' = y g' := fun g' hg' => zTr_g hg' _ y
        have cl := zM_canLay_s (K := K) (x := x) h2 k6 d (l := l) (v := v) (m := m) (away := j) (by unfold zLn; rw [ss 11 (by decide)]; exact hl) hv hm (by omega)
        rw [ss 4 (by decide), ss 12 (by decide)] at cl
        rw [zif_neg (by omega), zwp_bind]
        refine zwp_mono cl (fun r k => ?_)
        obtain ⟨r1, S3⟩ := r
        obtain ⟨m1, m2, m3⟩ := k
        dsimp only at m1 m2 m3 ⊢
        have a3 : zAt 115 S3 0 (sQm y j q).2 := zAt_c _ 0 (fun i i0 i1 => by rw [m3.1]) a2
        have c3 : zCh S3 6 (zchc q) := fun i i0 i1 => (m3.2 (6 + i) (by omega) (by omega)).trans (c2 i i0 i1)
        have hB : ((∃ q', 0 ≤ q' ∧ q' < 1024 * y 4 (y 12 l) ∧ (sLays (zTr y (sQm y j q).2) l v m j (-2) (zchc q')).1 = -1) ↔ sMm y j l v m q) := ⟨fun w => ⟨s1, w⟩, fun w => w.2⟩
        rw [m1, show zI 0 = (0 : Int32) from rfl, zb_0]
        by_cases w : ∃ q', 0 ≤ q' ∧ q' < 1024 * y 4 (y 12 l) ∧ (sLays (zTr y (sQm y j q).2) l v m j (-2) (zchc q')).1 = -1
        · rw [zif_neg (fun n => n w)]
          exact back S3 _ m2 a3 c3 (fun _ => hB) (fun n => absurd s1 n) 1 (zb_t w).symm
        · rw [zif_pos w]
          exact back S3 _ m2 a3 c3 (fun _ => hB) (fun n => absurd s1 n) 0 (zb_f w).symm
      · rw [zif_pos (by omega)]
        exact back S2 False h2 a2 c2 (fun n => absurd n s1) (fun _ n => n) 0 (zb_f (fun n => n)).symm
    have r17 := zRm17 h (k := j) (by omega) (by omega)
    have r18 := zRm18 h (k := j) (by omega) (by omega)
    rw [eM_canMove_72, zif_neg (show ¬ zI 1 = (0 : Int32) by decide), zg_t (by rw [zI_in (by omega) (by omega)]; omega), zg_t (by rw [zI_in (by omega) (by omega)]; omega), zI_zx (by omega) (by omega), r17, r18, zI_n0, zI_le (by omega) (by omega) (by omega) (by omega)]
    by_cases g0 : 0 ≤ y 17 j
    · have ew : zWhom (y 17 j) = y 17 j := if_neg (by omega)
      rw [ew] at lay
      rw [zif_pos g0, zg_t (by rw [zI_in (by omega) (by omega)]; omega), zwp_bind]
      exact zwp_mono lay (fun r k => rest r k)
    · have ew : zWhom (y 17 j) = -3 := if_pos (by omega)
      rw [ew] at lay
      rw [zif_neg g0, zwp_bind]
      exact zwp_mono lay (fun r k => rest r k)
theorem zM_canMove_s (h : zR K x y S) (gd : zGd y) (d : Nat) {j l v m : Int} (hj : zLn y j) (hc : y 15 j = 1) (ht : y 18 j ≤ 5) (hl : zLn y l) (hv : 0 ≤ v ∧ v ≤ 99999) (hm : 0 ≤ m ∧ m ≤ 5) :
    zwp (zM_canMove (d + 5) (zI j) (zI l) (zI v) (zI m) S) (fun r => r.1 = zb (∃ q', 0 ≤ q' ∧ q' < 1024 * y 4 (y 12 j) ∧ sMm y j l v m q') ∧ zR K x y r.2) := by
  have gp := gd.1
  have cg := gd.2.2.2.1 j hj hc
  have b18 := cg.2.2.2.2.1
  have b11 := zG11 gp
  have bdig := cg.2.2.2.2.2.2.2
  have hj40 : 0 ≤ j ∧ j < 40 := by have := hj.1; have := hj.2; omega
  have ln := zGln gp hj.1 hj.2
  have b45 := zG45 gp (r := y 12 j) (by have := ln.1; unfold zSl at this; omega) (by have := ln.1; unfold zSl at this; omega)
  have k45 : ∀ (n : Nat) (i : Int) (S' : ZS), 0 ≤ i → i + n = 6 → zR K x y S' → (∀ p : Int, 0 ≤ p → p < i → S'.1 113 0 (6 + p).toNat = zI 0) →
      zwp (zM_canMove_45 (d + 4) (zI j) (zI l) (zI v) (zI m) (zI (zits y j (y 18 j).toNat)) (zI i) S') (fun r => r.1 = zb (∃ q', 0 ≤ q' ∧ q' < 1024 * y 4 (y 12 j) ∧ sMm y j l v m q') ∧ zR K x y r.2) := by
    intro n
    induction n with
    | zero =>
      intro i S' i0 e h' c'
      rw [eM_canMove_45, zI_n6, zI_le (by omega) (by omega) (by omega) (by omega), zif_pos (by omega), zI_n1]
      refine zM_canMove_72_s gd d hj hc ht hl hv hm rfl (1024 * y 4 (y 12 j) - 0).toNat 0 S' (by omega) (by omega) (by omega) h' (fun p p0 p1 => ?_)
      rw [c' p p0 (by omega)]
      have : p = 0 ∨ p = 1 ∨ p = 2 ∨ p = 3 ∨ p = 4 ∨ p = 5 := by omega
      rcases this with rfl | rfl | rfl | rfl | rfl | rfl <;> rfl
    | succ n ih =>
      intro i S' i0 e h' c'
      rw [eM_canMove_45, zI_n6, zI_le (by omega) (by omega) (by omega) (by omega), zif_neg (by omega), zI_add, zg_t (by rw [zI_in (by omega) (by omega)]; omega), zI_zx (by omega) (by omega), zI_n1, zI_add, zI_n0]
      refine ih (i + 1) _ (by omega) (by omega) (zR_t h' (t := 113) (by decide) 0 (6 + i).toNat (zI 0)) (fun p p0 p1 => ?_)
      by_cases hp : p = i
      · rw [hp]
        exact zu_same S'.1 113 0 (6 + i).toNat (zI 0)
      · exact (zu_pl S'.1 (show (6 + p).toNat ≠ (6 + i).toNat by omega)).trans (c' p p0 (by omega))
  have k6 : ∀ (n i : Nat), (i : Int) + n = y 18 j → zwp (zM_canMove_6 (d + 4) (zI j) (zI l) (zI v) (zI m) (zI (zits y j i)) (zI i) S) (fun r => r.1 = zb (∃ q', 0 ≤ q' ∧ q' < 1024 * y 4 (y 12 j) ∧ sMm y j l v m q') ∧ zR K x y r.2) := by
    intro n
    have r18 := zRm18 h (k := j) (by omega) (by omega)
    induction n with
    | zero =>
      intro i e
      have r := k45 6 0 S (by omega) (by omega) h (fun p a b => by omega)
      rw [show (y 18 j).toNat = i by omega] at r
      rw [eM_canMove_6, zg_t (by rw [zI_in (by omega) (by omega)]; omega), zI_zx (by omega) (by omega), r18, zI_le (by omega) (by omega) (by omega) (by omega), zif_pos (by omega), zI_n0]
      exact r
    | succ n ih =>
      intro i e
      have r := ih (i + 1) (by omega)
      rw [zits, show (((i + 1 : Nat)) : Int) = (i : Int) + 1 by omega] at r
      rw [eM_canMove_6, zg_t (by rw [zI_in (by omega) (by omega)]; omega), zI_zx (by omega) (by omega), r18, zI_le (by omega) (by omega) (by omega) (by omega), zif_neg (by omega), zI_n5, zI_mul, zI_add, zg_t (by rw [zI_in (by omega) (by omega)]; omega), zI_zx (by omega) (by omega), zRm19 h (by omega) (by omega), zI_n10, zI_mul, zI_add, zI_n1, zI_add]
      exact r
  have r := k6 (y 18 j).toNat 0 (by omega)
  rw [eM_canMove]
  exact r
end CM
