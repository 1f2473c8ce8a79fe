/-! EXPLAIN, SURE of the class, whole -/
section FW
variable {K : ZS} {x y : ZW} {S : ZS}
/-- a whole tag that holds nothing is written -/
theorem zR_tag (h : zR K x y S) {t : Nat} (hs : (zfrt t && zot t) = true) {I : ZMp Int32} (hI : ∀ t', t' ≠ t → I t' = S.1 t') : zR K x y (I, S.2) := by
  obtain ⟨h1, h2, h3, h4, h5, h6, h7⟩ := h
  have hs := Bool.and_eq_true_iff.mp hs
  obtain ⟨n1, n2, n3, n4, n5⟩ := zot_n hs.2
  have e2 := hI 2 n1.symm
  have e29 := hI 29 n2.symm
  have e30 := hI 30 n3.symm
  have e21 := hI 21 n4.symm
  refine ⟨fun p hp k k0 k1 => ?_, fun j a b => ?_, fun r n a b c d => ?_, ⟨fun t' h' i k => ?_, h4.2⟩, h5, h6, h7⟩
  · have hn := List.all_eq_true.mp hs.1 p hp
    have : p.2.2.1 ≠ t := fun q => by
      rw [q, Nat.beq_refl] at hn
      cases hn
    dsimp only
    rw [hI _ this]
    exact h1 p hp k k0 k1
  · have q := h2 j a b
    unfold zLC zLA zLQ at q ⊢
    dsimp only
    rw [e2, e29, e30]
    exact q
  · dsimp only
    rw [e21]
    exact h3 r n a b c d
  · dsimp only
    rw [hI t' (n5 t' h')]
    exact h4.1 t' h' i k
theorem zfl_s (d : Nat) (S : ZS) : zcv (zcall (d + 1)) 1002 [zr 57 0, zi (0 : Int32)] S = some (zfill S.1 57 0 96 0, S.2) := rfl
theorem zB_fewest_19_s (g : zGp x) (tc : zTC x K) (h60 : 0 ≤ x 35 0 ∧ x 35 0 ≤ 60) (d : Nat) :
    ∀ (m : Nat) (n : Int) (S : ZS), 0 ≤ n → n + m = 4 → zLv K x y n [] S → zMkd x S → (∀ p : Int, 0 ≤ p → p < n → ∀ c : Int, 0 ≤ c → c < zcd p → ¬ zXn x p c) →
    zwp (zB_fewest_19 (d + 7) (zI n) S) (fun q => ∃ n', q.1 = zI n' ∧ zFwd x n' ∧ zR K x y q.2 ∧ (0 ≤ n' → ∃ l, zLv K x y n' l q.2 ∧ l ≠ [] ∧ l.length < 1000000 ∧ ∀ c : Int, 0 ≤ c → c < zcd n' → zXn x n' c → c ∈ l)) := by
  intro m
  induction m with
  | zero =>
    intro n S n0 e hl hm no
    rw [eB_fewest_19, zI_n3, zI_lt (by omega) (by omega) (by omega) (by omega), zif_pos (by omega), zwp_some]
    exact ⟨-1, rfl, Or.inl ⟨rfl, fun p p0 p3 => no p p0 (by omega)⟩, hl.1, fun q => by omega⟩
  | succ m ih =>
    intro n S n0 e hl hm no
    have hp : 6 ^ n.toNat < 1000000 := Nat.lt_of_le_of_lt (Nat.pow_le_pow_right (by decide) (show n.toNat ≤ 3 by omega)) (by decide)
    have ch := zB_choose_s (y := y) g tc h60 (n := n) (by omega) no (d + (3 - n.toNat)) n.toNat 0 (fun _ => 0) [] S (by omega) (by omega) hl hm ⟨fun j a b => by omega, fun i j a b c => by omega, fun j a b => by omega⟩ (by rw [List.length_nil]; omega)
    rw [show d + (3 - n.toNat) + n.toNat + 4 = d + 7 by omega] at ch
    rw [eB_fewest_19, zI_n3, zI_lt (by omega) (by omega) (by omega) (by omega), zif_neg (by omega), zI_n0, zwp_bind]
    refine zwp_mono ch (fun S' q => ?_)
    obtain ⟨l', q1, q2, q3, q4, q5, q6⟩ := q
    rw [List.length_nil] at q4
    rw [q1.2.1, zI_le (by omega) (by omega) (by omega) (by omega)]
    have all : ∀ c : Int, 0 ≤ c → c < zcd n → zXn x n c → c ∈ l' := fun c c0 c1 c2 => q6 c c0 c1 c2 (fun j a b => by omega) True.intro
    by_cases hz : l' = []
    · subst hz
      rw [zif_pos (by rw [List.length_nil]; omega), zI_n1, zI_add]
      refine ih (n + 1) S' (by omega) (by omega) ⟨q1.1, q1.2.1, q1.2.2.1, fun c hc => absurd hc List.not_mem_nil, fun hc => absurd rfl hc⟩ q2 (fun p p0 p1 c c0 c1 c2 => ?_)
      by_cases hp : p < n
      · exact no p p0 hp c c0 c1 c2
      · have ep : p = n := by omega
        subst ep
        exact absurd (all c c0 c1 c2) List.not_mem_nil
    · have pos : 0 < l'.length := List.length_pos_iff.mpr hz
      rw [zif_neg (by omega), zwp_some]
      obtain ⟨c, hc, -⟩ := q1.2.2.2.2 hz
      have hcc := q1.2.2.2.1 c hc
      exact ⟨n, rfl, Or.inr ⟨n0, by omega, no, c, hcc⟩, q1.1, fun _ => ⟨l', q1, hz, by omega, all⟩⟩
theorem zB_fewest_s (h : zR K x y S) (g : zGp x) (tc : zTC x K) (h60 : 0 ≤ x 35 0 ∧ x 35 0 ≤ 60) (d : Nat) :
    zwp (zB_fewest (d + 8) S) (fun q => ∃ n', q.1 = zI n' ∧ zFwd x n' ∧ zR K x y q.2 ∧ (0 ≤ n' → ∃ l, zLv K x y n' l q.2 ∧ l ≠ [] ∧ l.length < 1000000 ∧ ∀ c : Int, 0 ≤ c → c < zcd n' → zXn x n' c → c ∈ l)) := by
  have w1 := zR_s h (t := 8) (s := 9) (by decide) 0 (zI 0)
  have w2 : zR K x y (zfill (zu S.1 8 0 9 (zI 0)) 57 0 96 (zI 0), S.2) := by
    refine zR_tag w1 (t := 57) (by decide) (fun t' ht => ?_)
    funext i k
    exact if_neg (fun q => ht q.1)
  rw [eB_fewest, zfl_s (d + 6), zBs, zwp_bind]
  refine zwp_mono (zB_markSound_s w2 tc (d + 6) h60) (fun S2 q => ?_)
  obtain ⟨q1, ⟨q8, q57, -⟩, q53⟩ := q
  rw [zI_n0]
  refine zB_fewest_19_s g tc h60 d 4 0 S2 (by omega) (by omega) ⟨q1, ?_, fun e e0 e1 => ?_, fun c hc => absurd hc List.not_mem_nil, fun hc => absurd rfl hc⟩ q53 (fun p p0 p1 => by omega)
  · rw [q8]
    rfl
  · rw [q57]
    exact if_pos ⟨rfl, rfl, by omega⟩
theorem zctl_a (n e : Int) : ∀ l : List Int, 0 ≤ zctl n e l ∧ zctl n e l ≤ l.length ∧ (zctl n e l = l.length ↔ ∀ c ∈ l, zHx n c e)
  | [] => ⟨Int.le_refl _, Int.le_refl _, ⟨fun _ c hc => absurd hc List.not_mem_nil, fun _ => rfl⟩⟩
  | c :: l => by
    obtain ⟨a, b, i⟩ := zctl_a n e l
    have b01 := sI_01 (zHx n c e)
    rw [zctl, List.length_cons]
    refine ⟨by omega, by omega, ?_⟩
    by_cases q : zHx n c e
    · rw [sI_t q]
      constructor
      · intro w c' hc'
        rcases List.mem_cons.1 hc' with r | r
        · rw [r]; exact q
        · exact i.1 (by omega) c' r
      · intro w
        have := i.2 (fun c' hc' => w c' (List.mem_cons_of_mem _ hc'))
        omega
    · rw [sI_f q]
      exact ⟨fun w => by omega, fun w => absurd (w c List.mem_cons_self) q⟩
theorem zX_explain_s (h : zR K x y S) (g : zGp x) (tc : zTC x K) (h60 : 0 ≤ x 35 0 ∧ x 35 0 ≤ 60) (d : Nat) {w : Int} (w1 : -2147483648 ≤ w) (w2 : w < 2147483648) :
    zwp (zX_explain (d + 9) (zI w) S) (fun q => ∃ v, q.1 = zI v ∧ zExp x w v ∧ zR K x y q.2) := by
  rw [eX_explain, zI_n0, zI_lt w1 w2 (by omega) (by omega), zI_n3, zI_le w1 w2 (by omega) (by omega)]
  by_cases a : w < 0
  · rw [zif_pos a, zwp_some]
    exact ⟨-1, rfl, Or.inl ⟨fun q => by omega, rfl⟩, h⟩
  · rw [zif_neg a]
    by_cases b : w ≤ 3
    · rw [zif_pos b, zwp_bind]
      refine zwp_mono (zB_fewest_s h g tc h60 d) (fun q k => ?_)
      obtain ⟨q1, S2⟩ := q
      obtain ⟨n, k1, k2, k3, k4⟩ := k
      dsimp only at k1 k2 k3 k4 ⊢
      have bn : -1 ≤ n ∧ n ≤ 3 := by
        rcases k2 with ⟨a, -⟩ | ⟨a, a', -⟩ <;> omega
      rw [k1, zI_eq w1 w2 (by omega) (by omega)]
      by_cases e0 : w = 0
      · rw [zif_pos e0, zwp_some]
        exact ⟨n, rfl, Or.inr ⟨by omega, b, n, k2, Or.inl ⟨e0, rfl⟩⟩, k3⟩
      · rw [zif_neg e0, zI_lt (by omega) (by omega) w1 w2]
        by_cases e1 : n < w
        · rw [zif_pos e1, zwp_some]
          exact ⟨-1, rfl, Or.inr ⟨by omega, b, n, k2, Or.inr (Or.inl ⟨by omega, e1, rfl⟩)⟩, k3⟩
        · rw [zif_neg e1, zI_n1, zI_sub, zg_t (by rw [zI_in (by omega) (by omega)]; omega), zI_zx (by omega) (by omega), zwp_some]
          obtain ⟨l, l1, l2, l3, l4⟩ := k4 (by omega)
          obtain ⟨c, hc, hmin, hb⟩ := l1.2.2.2.2 l2
          have hcc := l1.2.2.2.1 c hc
          refine ⟨zdg n (w - 1) c, hb (w - 1) (by omega) (by omega), Or.inr ⟨by omega, b, n, k2, Or.inr (Or.inr ⟨by omega, by omega, c, ⟨hcc.1, hcc.2.1, hcc.2.2, fun c' c0 c1 c2 => ?_⟩, rfl⟩)⟩, k3⟩
          have := hmin c' (l4 c' c0 (by omega) c2)
          omega
    · rw [zif_neg b, zwp_some]
      exact ⟨-1, rfl, Or.inl ⟨fun q => by omega, rfl⟩, h⟩
theorem zX_sure_s (h : zR K x y S) (g : zGp x) (tc : zTC x K) (h60 : 0 ≤ x 35 0 ∧ x 35 0 ≤ 60) (d : Nat) {a : Int} (a1 : -2147483648 ≤ a) (a2 : a < 2147483648) :
    zwp (zX_sure (d + 9) (zI a) S) (fun q => ∃ v, q.1 = zI v ∧ zSur x a v ∧ zR K x y q.2) := by
  have b2 := zG2 g
  rw [eX_sure, zP_isSwitch_s h g (d + 7) a1 a2, zBs]
  dsimp only
  rw [zb_0]
  by_cases hs : zSw x a
  · rw [zif_neg (fun q => q hs), zwp_bind]
    refine zwp_mono (zB_fewest_s h g tc h60 d) (fun q k => ?_)
    obtain ⟨q1, S2⟩ := q
    obtain ⟨n, k1, k2, k3, k4⟩ := k
    dsimp only at k1 k2 k3 k4 ⊢
    have bn : -1 ≤ n ∧ n ≤ 3 := by
      rcases k2 with ⟨a, -⟩ | ⟨a, a', -⟩ <;> omega
    rw [k1, zI_n1, zI_neg, zI_eq (by omega) (by omega) (by omega) (by omega)]
    by_cases e0 : n = -1
    · rw [zif_pos e0, zwp_some]
      exact ⟨-1, rfl, Or.inr ⟨hs, n, k2, Or.inl ⟨e0, rfl⟩⟩, k3⟩
    · obtain ⟨l, l1, l2, l3, l4⟩ := k4 (by omega)
      have pos : 0 < l.length := List.length_pos_iff.mpr l2
      have ct := zctl_a n a l
      have sw := hs
      unfold zSw at sw
      have isin : zB_isInAllSets (d + 8) (zI a) S2 = some (zb (zctl n a l = l.length), S2) := by
        rw [eB_isInAllSets, l1.2.1, zI_n0, zI_le (by omega) (by omega) (by omega) (by omega), zif_neg (by omega), zg_t (by rw [zI_in (by omega) (by omega)]; omega), zI_zx (by omega) (by omega), l1.2.2.1 a (by omega) (by omega), zI_eq (by omega) (by omega) (by omega) (by omega)]
        by_cases q : zctl n a l = l.length
        · rw [zif_pos q, zb_t q]
        · rw [zif_neg q, zb_f q]
          rfl
      rw [zif_neg e0, isin, zBs]
      dsimp only
      rw [zb_0]
      by_cases q : zctl n a l = l.length
      · rw [zif_neg (fun w => w q), zwp_some]
        refine ⟨1, rfl, Or.inr ⟨hs, n, k2, Or.inr ⟨by omega, (sI_t (fun c c0 c1 c2 => ?_) 1 0).symm⟩⟩, k3⟩
        exact ct.2.2.1 q c (l4 c c0 c1 c2)
      · rw [zif_pos q, zwp_some]
        refine ⟨0, rfl, Or.inr ⟨hs, n, k2, Or.inr ⟨by omega, (sI_f (fun w => q ?_) 1 0).symm⟩⟩, k3⟩
        refine ct.2.2.2 (fun c hc => ?_)
        have hcc := l1.2.2.2.1 c hc
        exact w c hcc.1 hcc.2.1 hcc.2.2
  · rw [zif_pos hs, zwp_some]
    exact ⟨-1, rfl, Or.inl ⟨hs, rfl⟩, h⟩
end FW
