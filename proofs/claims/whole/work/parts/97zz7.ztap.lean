/-! THE TARIFF: the class reads the tape -/
def qup {α : Type} (f : Int → α) (k : Int) (v : α) : Int → α := fun i => if i = k then v else f i
theorem qup_s {α : Type} (f : Int → α) (k : Int) (v : α) : qup f k v k = v := if_pos rfl
theorem qup_n {α : Type} (f : Int → α) {k i : Int} (v : α) (h : i ≠ k) : qup f k v i = f i := if_neg h
section TA
variable {tp : Int → Int} {n : Int} {u : Nat}
theorem qer_b (bt : Int → Int) (m : Int) (s : QS) : 0 ≤ qer tp n bt m s ∧ qer tp n bt m s ≤ 5 := by
  unfold qer
  repeat' split
  all_goals omega
theorem qHd_b {bt : Int → Int} {m L b : Int} (hb : 0 ≤ b ∧ b ≤ n) : 0 ≤ (qHd tp n bt m L b).1 ∧ (qHd tp n bt m L b).1 ≤ 5 + 16 * n := by
  have x1 := znx_b tp n hb
  have x2 := znx_b tp n (b := znx tp n b) (by omega)
  have x3 := znx_b tp n (b := znx tp n (znx tp n b)) (by omega)
  have x4 := znx_b tp n (b := znx tp n (znx tp n (znx tp n b))) (by omega)
  unfold qHd
  repeat' split
  all_goals (dsimp only; omega)
theorem qLF_b {st : QL} {f : Int} (h : qLF tp n st f) (hI : qPI tp n st) : 1 ≤ f ∧ f ≤ 5 + 16 * n := by
  rcases h with ⟨h, e⟩ | ⟨h, s', r, e, g⟩
  · have := qHd_b (tp := tp) (n := n) (bt := st.2.2.2.1) (m := st.2.2.1 st.2.1) (L := st.2.1) hI.1
    omega
  · have m4 := hI.2.2.2.1 st.2.1 hI.2.1.1 (Int.le_refl _)
    have hk := qHd_k h hI.1 m4.1
    have sb := qRd_b r hk.2.1
    have qb := qer_b (tp := tp) (n := n) st.2.2.2.1 (st.2.2.1 st.2.1) s'
    omega
/-- the lines that the class holds -/
def qCw (tp : Int → Int) (n : Int) (u : Nat) (st : QL) (Cf : Int → List Int) (vf : Int → QV) (cb : Int → Int) (S : ZS) : Prop := cb (-1) = 0 ∧ ∀ l, 0 ≤ l → l < st.2.1 →
  (S.1 42 u l.toNat = zI (st.2.2.2.2 l).2.1 ∧ ((st.2.2.2.2 l).1 = -1 → S.1 43 u l.toNat = zI (st.2.2.2.2 l).2.2.1) ∧ S.1 44 u l.toNat = zI (cb l)) ∧
  (cb l = cb (l - 1) + (Cf l).length ∧ 0 ≤ cb (l - 1) ∧ cb l ≤ cb (st.2.1 - 1)) ∧ qLs (S.1 45 u) (cb (l - 1)).toNat (Cf l) ∧ (qWl (st.2.2.1 l) (Cf l) ∧ qXl (st.2.2.1 l) (st.2.2.2.2 l).2.2.2 ∧ qP 0 0 (Cf l) (vf l) ∧ qR0 0 (st.2.2.2.2 l).2.2.2 (vf l))
def qTx (tp : Int → Int) (n : Int) (u : Nat) (st0 : QL) (S0 : ZS) (x : Int32 × ZS) : Prop := qFu u S0 x.2 ∧
  ((∃ f, x.1 = zI f ∧ (1 ≤ f ∧ f ≤ 5 + 16 * n) ∧ ∃ k st', qlr tp n k st0 st' ∧ qtc tp n st'.1 ≠ 70 ∧ qLF tp n st' f) ∨
   (x.1 = 0 ∧ ∃ k st' Cf vf cb, qlr tp n k st0 st' ∧ qtc tp n st'.1 = 70 ∧ qPI tp n st' ∧ qAt tp n u st' (cb (st'.2.1 - 1)) x.2 ∧ qCw tp n u st' Cf vf cb x.2))
theorem cTape (hB : qB tp n) (d : Nat) {st0 : QL} {S0 : ZS} : ∀ (j : Nat) (k : Nat) (st : QL) (Cf : Int → List Int) (vf : Int → QV) (cb : Int → Int) (S : ZS), 16 - st.2.1 = j → qlr tp n k st0 st → qPI tp n st → qAt tp n u st (cb (st.2.1 - 1)) S → qCw tp n u st Cf vf cb S → S.1 7 u 1 = 0 → qFu u S0 S →
    zwp (zF_readTape_31 (d + 53) u (1 : Int32) (zI st.2.1) S) (qTx tp n u st0 S0) := by
  intro j
  have bn := hB.1
  -- once wrong, no further line is read
  have stop : ∀ (L : Int) (S : ZS), zF_readTape_31 (d + 53) u (0 : Int32) (zI L) S = some ((S.1 7 u 1), S) := by
    intro L S
    rw [eF_readTape_31]
    by_cases q : (16 : Int32) < zI L
    · rw [zif_pos q]
    · rw [zif_neg q, zif_pos rfl]
  induction j with
  | zero =>
    intro k st Cf vf cb S ej hk hI hAt hW h1 hF
    obtain ⟨hC, hA, hNc, h2, h7, hc⟩ := id hAt
    obtain ⟨hb, hL, -⟩ := id hI
    have L16 : st.2.1 = 16 := by omega
    rw [eF_readTape_31, show (16 : Int32) = zI 16 from rfl, zI_lt (by omega) (by omega) (by omega) (by omega), zif_neg (by omega), zif_neg (by decide), cT_end hA (d + 52), zBs]
    dsimp only
    rw [zb_0]
    by_cases t : qtc tp n st.1 = 70
    · rw [zif_neg (fun e => e t), zwp_some]
      exact ⟨hF, Or.inr ⟨h1, k, st, Cf, vf, cb, hk, t, hI, hAt, hW⟩⟩
    · have w6 : zT_isWord (d + 53) 6 S = some (zb (qtc tp n st.1 = 6), S) := cT_word hA (d + 52) (i := 6) (by decide)
      have pf := cPF (u := u) hB hC hb hA (d + 45) hL h2
      have pf : zF_passFirst (d + 53) u S = zif (qtc tp n st.1 = 6 ∨ qtc tp n st.1 = 7) (zif (st.2.1 = 16) ((zF_fail (d + 52) u (zI 5) S).bind (fun r => zgb r.1 (some (r.1, r.2)))) ((zT_next (d + 52) S).bind (fun r => some ((1 : Int32), r)))) ((zF_fail (d + 52) u (zI 1) S).bind (fun r => zgb r.1 (some (r.1, r.2)))) := pf
      have out : ∀ (v : Int) (y : ZS), 1 ≤ v → qLx tp n u st (cb (st.2.1 - 1)) S ((0 : Int32), y) → qTx tp n u st0 S0 (y.1 7 u 1, y) := by
        intro v y hv q
        obtain ⟨qf, qq⟩ := q
        rcases qq with ⟨-, f, f1, f2⟩ | ⟨e, -⟩
        · exact ⟨qFu_t hF qf, Or.inl ⟨f, f1, qLF_b f2 hI, k, st, hk, t, f2⟩⟩
        · exact absurd (show (0 : Int32) = 1 from e) (by decide)
      rw [zif_pos t, w6, zBs]
      dsimp only
      rw [pf]
      by_cases t67 : qtc tp n st.1 = 6 ∨ qtc tp n st.1 = 7
      · obtain ⟨y, ey, yq⟩ := qLx_g (st := st) (cs := cb (st.2.1 - 1)) (qFu_r u S) hA (d + 51) (k := 5) (by
          unfold qHd
          rw [if_neg (by omega), if_pos L16]) (by omega) hb.1
        have ey : (zF_fail (d + 52) u (zI 5) S).bind (fun r => zgb r.1 (some (r.1, r.2))) = some ((0 : Int32), y) := ey
        rw [zif_pos t67, zif_pos L16, ey, zBs]
        dsimp only
        rw [zif_pos rfl, eF_readTape_95, zif_pos rfl, zI_n1, zI_add, stop, zwp_some]
        exact out 5 y (by omega) yq
      · obtain ⟨y, ey, yq⟩ := qLx_g (st := st) (cs := cb (st.2.1 - 1)) (qFu_r u S) hA (d + 51) (k := 1) (by
          unfold qHd
          rw [if_pos (by omega)]) (by omega) hb.1
        have ey : (zF_fail (d + 52) u (zI 1) S).bind (fun r => zgb r.1 (some (r.1, r.2))) = some ((0 : Int32), y) := ey
        rw [zif_neg t67, ey, zBs]
        dsimp only
        rw [zif_pos rfl, eF_readTape_95, zif_pos rfl, zI_n1, zI_add, stop, zwp_some]
        exact out 1 y (by omega) yq
  | succ j ih =>
    intro k st Cf vf cb S ej hk hI hAt hW h1 hF
    obtain ⟨hC, hA, hNc, h2, h7, hc⟩ := id hAt
    obtain ⟨hb, hL, -⟩ := id hI
    have L16 : st.2.1 ≠ 16 := by omega
    rw [eF_readTape_31, show (16 : Int32) = zI 16 from rfl, zI_lt (by omega) (by omega) (by omega) (by omega), zif_neg (by omega), zif_neg (by decide), cT_end hA (d + 52), zBs]
    dsimp only
    rw [zb_0]
    by_cases t : qtc tp n st.1 = 70
    · rw [zif_neg (fun e => e t), zwp_some]
      exact ⟨hF, Or.inr ⟨h1, k, st, Cf, vf, cb, hk, t, hI, hAt, hW⟩⟩
    · have w6 : zT_isWord (d + 53) 6 S = some (zb (qtc tp n st.1 = 6), S) := cT_word hA (d + 52) (i := 6) (by decide)
      have pf := cPF (u := u) hB hC hb hA (d + 45) hL h2
      have pf : zF_passFirst (d + 53) u S = zif (qtc tp n st.1 = 6 ∨ qtc tp n st.1 = 7) (zif (st.2.1 = 16) ((zF_fail (d + 52) u (zI 5) S).bind (fun r => zgb r.1 (some (r.1, r.2)))) ((zT_next (d + 52) S).bind (fun r => some ((1 : Int32), r)))) ((zF_fail (d + 52) u (zI 1) S).bind (fun r => zgb r.1 (some (r.1, r.2)))) := pf
      have out : ∀ (y : ZS), qLx tp n u st (cb (st.2.1 - 1)) S ((0 : Int32), y) → qTx tp n u st0 S0 (y.1 7 u 1, y) := by
        intro y q
        obtain ⟨qf, qq⟩ := q
        rcases qq with ⟨-, f, f1, f2⟩ | ⟨e, -⟩
        · exact ⟨qFu_t hF qf, Or.inl ⟨f, f1, qLF_b f2 hI, k, st, hk, t, f2⟩⟩
        · exact absurd (show (0 : Int32) = 1 from e) (by decide)
      -- a line is read
      have line : ∀ x : Int32 × ZS, qLx tp n u st (cb (st.2.1 - 1)) S x → zwp (zif (x.1 = 0) (zF_readTape_95 (d + 53) u (zI st.2.1) (0 : Int32) x.2) (zF_readTape_95 (d + 53) u (zI st.2.1) (1 : Int32) x.2)) (qTx tp n u st0 S0) := by
        intro x q
        rcases qLx_01 q with x0 | x1
        · rw [zif_pos x0, eF_readTape_95, zif_pos rfl, zI_n1, zI_add, stop, zwp_some]
          refine out x.2 ?_
          rw [← x0]
          exact q
        · obtain ⟨qf, qq⟩ := q
          rcases qq with ⟨e, -⟩ | ⟨-, s', C, v, ⟨z1, z2, z3⟩, ⟨a1, a2, a3, a4, a5, a6, a7⟩, ⟨b1, b2, b3, b4⟩, nm, o1, o2⟩
          · rw [x1] at e
            exact absurd e (by decide)
          · have m4 := hI.2.2.2.1 st.2.1 hL.1 (Int.le_refl _)
            have hkk := qHd_k z1 hb m4.1
            have sb := qRd_b z2 hkk.2.1
            have xs := znx_b tp n (b := s'.1) (by omega)
            have K : qLK tp n st (qLA tp n st s') := ⟨t, z1, s', z2, z3, rfl⟩
            have I' := qPI_s hI K
            have lC : 0 ≤ (C.length : Int) := by omega
            generalize hcs : cb (st.2.1 - 1) + (C.length : Int) = cs at a4 a5
            have c2 : x.2.1 7 u 2 = zI st.2.1 := a3.trans h2
            have eL : (zI st.2.1) + (1 : Int32) = zI (st.2.1 + 1) := by rw [zI_n1, zI_add]
            rw [zif_neg (by rw [x1]; decide), eF_readTape_95, zif_neg (by decide), c2, zg_t (by rw [zI_in (by omega) (by omega)]; omega), zI_zx (by omega) (by omega), a4]
            rw [show zu x.2.1 44 u st.2.1.toNat (zI cs) 7 u 2 = zI st.2.1 from (show zu x.2.1 44 u st.2.1.toNat (zI cs) 7 u 2 = x.2.1 7 u 2 from rfl).trans c2, eL]
            have g1 := qFu_u (qFu_u qf (t := 44) (Or.inr ⟨by decide, by decide⟩) st.2.1.toNat (zI cs)) (t := 7) (Or.inl rfl) 2 (zI (st.2.1 + 1))
            have c45 : ∀ i, (zu (zu x.2.1 44 u st.2.1.toNat (zI cs)) 7 u 2 (zI (st.2.1 + 1))) 45 u i = x.2.1 45 u i := fun i => rfl
            have c42 : ∀ i, (zu (zu x.2.1 44 u st.2.1.toNat (zI cs)) 7 u 2 (zI (st.2.1 + 1))) 42 u i = x.2.1 42 u i := fun i => rfl
            have c43 : ∀ i, (zu (zu x.2.1 44 u st.2.1.toNat (zI cs)) 7 u 2 (zI (st.2.1 + 1))) 43 u i = x.2.1 43 u i := fun i => rfl
            have c44 : ∀ i, (zu (zu x.2.1 44 u st.2.1.toNat (zI cs)) 7 u 2 (zI (st.2.1 + 1))) 44 u i = zu x.2.1 44 u st.2.1.toNat (zI cs) 44 u i := fun i => rfl
            have c7 : ∀ i, i ≠ 2 → (zu (zu x.2.1 44 u st.2.1.toNat (zI cs)) 7 u 2 (zI (st.2.1 + 1))) 7 u i = x.2.1 7 u i := fun i hi => (zu_pl (zu x.2.1 44 u st.2.1.toNat (zI cs)) hi).trans rfl
            have e1 : (qLA tp n st s').2.1 = st.2.1 + 1 := rfl
            have ecs : qw cb st.2.1 cs ((qLA tp n st s').2.1 - 1) = cs := by
              rw [e1, show st.2.1 + 1 - 1 = st.2.1 by omega, qw_s]
            have r := ih (k + 1) (qLA tp n st s') (qup Cf st.2.1 C) (qup vf st.2.1 v) (qw cb st.2.1 cs) ((zu (zu x.2.1 44 u st.2.1.toNat (zI cs)) 7 u 2 (zI (st.2.1 + 1))), x.2.2) (by rw [e1]; omega) ⟨st, hk, K⟩ I'.1 ?_ ?_ ?_ (qFu_t hF g1)
            · rw [e1] at r
              exact r
            · refine ⟨qC_u hC g1, a1, ?_, zu_same (zu x.2.1 44 u st.2.1.toNat (zI cs)) 7 u 2 _, ?_, ?_⟩
              · rcases nm with ⟨t6, n1, n2, n3, n4⟩ | ⟨t6, n1, n2, n3, n4⟩
                · have eb : (qLA tp n st s').2.2.2.1 = qw st.2.2.2.1 (st.2.2.1 st.2.1) (znx tp n st.1) := if_pos t6
                  have em : (qLA tp n st s').2.2.1 (qLA tp n st s').2.1 = st.2.2.1 st.2.1 + 1 := by
                    have : (qLA tp n st s').2.2.1 = qw st.2.2.1 (st.2.1 + 1) (st.2.2.1 st.2.1 + 1) := if_pos t6
                    rw [this, e1, qw_s]
                  rw [eb, em]
                  refine ⟨(c7 8 (by decide)).trans n1, fun i i0 i1 => ?_⟩
                  by_cases q : i = st.2.2.1 st.2.1
                  · rw [q, qw_s]
                    exact n2
                  · rw [qw_n _ _ q]
                    exact (n3 i.toNat (by omega)).trans (hNc.2 i i0 (by omega))
                · have eb : (qLA tp n st s').2.2.2.1 = st.2.2.2.1 := if_neg t6
                  have em : (qLA tp n st s').2.2.1 (qLA tp n st s').2.1 = st.2.2.1 st.2.1 := by
                    have : (qLA tp n st s').2.2.1 = qw st.2.2.1 (st.2.1 + 1) (st.2.2.1 st.2.1) := if_neg t6
                    rw [this, e1, qw_s]
                  rw [eb, em]
                  exact ⟨(c7 8 (by decide)).trans (n1.trans hNc.1), fun i i0 i1 => (n2 i.toNat).trans (hNc.2 i i0 i1)⟩
              · rw [ecs]
                exact (c7 7 (by decide)).trans a4
              · rw [ecs]
                show 0 ≤ cs ∧ cs ≤ znx tp n s'.1
                omega
            · refine ⟨by rw [qw_n _ _ (by omega)]; exact hW.1, fun l l0 l1 => ?_⟩
              have l1 : l < st.2.1 + 1 := l1
              rw [ecs]
              have er : (qLA tp n st s').2.2.2.2 = qwl st.2.2.2.2 st.2.1 (if qtc tp n st.1 = 6 then (st.2.2.1 st.2.1, -1, 0, s'.2.2.2.2.2) else (-1, znv tp n (znx tp n st.1), znv tp n (znx tp n (znx tp n (znx tp n st.1))), s'.2.2.2.2.2)) := rfl
              have emf : ∀ i, i ≠ st.2.1 + 1 → (qLA tp n st s').2.2.1 i = st.2.2.1 i := by
                intro i hi
                show (if qtc tp n st.1 = 6 then qw st.2.2.1 (st.2.1 + 1) (st.2.2.1 st.2.1 + 1) else qw st.2.2.1 (st.2.1 + 1) (st.2.2.1 st.2.1)) i = st.2.2.1 i
                split
                · exact qw_n _ _ hi
                · exact qw_n _ _ hi
              by_cases q : l = st.2.1
              · rw [emf l (by omega), er, q, qwl_s, qup_s, qup_s, qw_s, qw_n _ _ (show st.2.1 - 1 ≠ st.2.1 by omega)]
                refine ⟨⟨?_, ?_, ?_⟩, ⟨by omega, by omega, by omega⟩, qLs_f _ _ a6 (fun i _ _ => c45 i), b1, ?_, b3, ?_⟩
                · refine (c42 _).trans ?_
                  rcases nm with ⟨t6, n1, n2, n3, n4⟩ | ⟨t6, n1, n2, n3, n4⟩
                  · rw [if_pos t6]
                    exact n4
                  · rw [if_neg t6]
                    exact n3
                · rcases nm with ⟨t6, n1, n2, n3, n4⟩ | ⟨t6, n1, n2, n3, n4⟩
                  · rw [if_pos t6]
                    intro e
                    have e : st.2.2.1 st.2.1 = -1 := e
                    omega
                  · rw [if_neg t6]
                    exact fun _ => (c43 _).trans n4
                · exact (c44 _).trans (zu_same x.2.1 44 u _ _)
                · split
                  · exact b2
                  · exact b2
                · split
                  · exact b4
                  · exact b4
              · obtain ⟨⟨w1, w2, w3⟩, ⟨w4, w5, w6⟩, w7, w8, w9, w10, w11⟩ := hW.2 l l0 (by omega)
                rw [emf l (by omega), er, qwl_n _ _ q, qup_n _ _ q, qup_n _ _ q, qw_n _ _ q, qw_n _ _ (show l - 1 ≠ st.2.1 by omega)]
                refine ⟨⟨?_, fun e => ?_, ?_⟩, ⟨w4, w5, by omega⟩, qLs_f _ _ w7 (fun i i1 i2 => (c45 i).trans (a7 i (by omega))), w8, w9, w10, w11⟩
                · exact (c42 _).trans ((o1 42 (Or.inl rfl) l.toNat (by omega)).trans w1)
                · exact (c43 _).trans ((o1 43 (Or.inr rfl) l.toNat (by omega)).trans (w2 e))
                · exact (c44 _).trans ((show zu x.2.1 44 u st.2.1.toNat (zI cs) 44 u l.toNat = x.2.1 44 u l.toNat from zu_pl x.2.1 (by omega)).trans ((o2 l.toNat).trans w3))
            · exact (c7 1 (by decide)).trans (a2.trans h1)
      rw [zif_pos t, w6, zBs]
      dsimp only
      rw [pf]
      by_cases t67 : qtc tp n st.1 = 6 ∨ qtc tp n st.1 = 7
      · obtain ⟨S1, e1, hA1, f1⟩ := zT_next_s hB hC (d + 45) hb hA
        have e1 : zT_next (d + 52) S = some S1 := e1
        rw [zif_pos t67, zif_neg L16, e1, zBs, zBs]
        dsimp only
        rw [zif_neg (by decide), zb_0]
        by_cases t6 : qtc tp n st.1 = 6
        · obtain ⟨x, ex, qx⟩ := cLet hB (d + 1) hI hAt t6 L16 f1 hA1
          have ex : zF_readLet (d + 53) u S1 = some x := ex
          rw [zif_neg (fun e => e t6), ex, zBs]
          exact line x qx
        · obtain ⟨x, ex, qx⟩ := cUnit hB (d + 1) hI hAt (by omega) L16 f1 hA1
          have ex : zF_readUnit (d + 53) u S1 = some x := ex
          rw [zif_pos t6, ex, zBs]
          exact line x qx
      · obtain ⟨y, ey, yq⟩ := qLx_g (st := st) (cs := cb (st.2.1 - 1)) (qFu_r u S) hA (d + 51) (k := 1) (by
          unfold qHd
          rw [if_pos (by omega)]) (by omega) hb.1
        have ey : (zF_fail (d + 52) u (zI 1) S).bind (fun r => zgb r.1 (some (r.1, r.2))) = some ((0 : Int32), y) := ey
        rw [zif_neg t67, ey, zBs]
        dsimp only
        rw [zif_pos rfl, eF_readTape_95, zif_pos rfl, zI_n1, zI_add, stop, zwp_some]
        exact out y yq
end TA
