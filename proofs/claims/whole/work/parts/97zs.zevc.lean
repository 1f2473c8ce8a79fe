/-! THE TARIFF: the class reckons a code -/
/-- the cells from k on hold the list -/
def qLs (m : Nat → Int32) : Nat → List Int → Prop
  | _, [] => True
  | k, c :: C => m k = zI c ∧ qLs m (k + 1) C
theorem qLs_a {m : Nat → Int32} : ∀ (k : Nat) (A B : List Int), qLs m k A → qLs m (k + A.length) B → qLs m k (A ++ B)
  | _, [], _, _, h => h
  | k, a :: A, B, h, h2 => ⟨h.1, qLs_a (k + 1) A B h.2 (by
    have e : k + 1 + A.length = k + (a :: A).length := by rw [List.length_cons]; omega
    rw [e]
    exact h2)⟩
theorem qLs_f {m m' : Nat → Int32} : ∀ (k : Nat) (A : List Int), qLs m k A → (∀ i, k ≤ i → i < k + A.length → m' i = m i) → qLs m' k A
  | _, [], _, _ => trivial
  | k, a :: A, h, f => ⟨(f k (Nat.le_refl k) (by rw [List.length_cons]; omega)).trans h.1, qLs_f (k + 1) A h.2 (fun i a1 a2 => f i (by omega) (by rw [List.length_cons]; omega))⟩
/-- items of a code of the class, where m names are told -/
def qWc (m c : Int) : Prop := (0 ≤ c ∧ c < 10006) ∨ (20000 ≤ c ∧ c < 20000 + m) ∨ (30000 ≤ c ∧ c ≤ 30007)
def qWl (m : Int) : List Int → Prop
  | [] => True
  | c :: C => qWc m c ∧ qWl m C
theorem qWl_a {m : Int} : ∀ (A B : List Int), qWl m A → qWl m B → qWl m (A ++ B)
  | [], _, _, h => h
  | _ :: A, B, h, h2 => ⟨h.1, qWl_a A B h.2 h2⟩
/-- the stack's cells -/
def qSk (m : Nat → Int32) : List Int32 → Prop
  | [] => True
  | a :: st => m st.length = a ∧ qSk m st
theorem qSk_f {m m' : Nat → Int32} : ∀ (st : List Int32), qSk m st → (∀ i, i < st.length → m' i = m i) → qSk m' st
  | [], _, _ => trivial
  | _ :: st, h, f => ⟨(f st.length (by rw [List.length_cons]; omega)).trans h.1, qSk_f st h.2 (fun i a1 => f i (by rw [List.length_cons]; omega))⟩
/-- only the stack of u changes -/
def qF49 (u : Nat) (S S' : ZS) : Prop := (∀ t i k, ¬ (t = 49 ∧ i = u) → S'.1 t i k = S.1 t i k) ∧ S'.2 = S.2
theorem qF49_r (u : Nat) (S : ZS) : qF49 u S S := ⟨fun _ _ _ _ => rfl, rfl⟩
theorem qF49_t {u : Nat} {S S' S'' : ZS} (h : qF49 u S S') (k : qF49 u S' S'') : qF49 u S S'' := ⟨fun t i s n => (k.1 t i s n).trans (h.1 t i s n), k.2.trans h.2⟩
theorem qF49_u (u : Nat) (S : ZS) (k : Nat) (v : Int32) : qF49 u S (zu S.1 49 u k v, S.2) := ⟨fun t i s n => if_neg (fun e => n ⟨e.1, e.2.1⟩), rfl⟩
theorem zF_joined_s (d : Nat) {c : Int} (hc : 30001 ≤ c ∧ c ≤ 30007) (a b : Int32) (S : ZS) : zF_joined (d + 1) (zI c) a b S = some (qjo c a b, S) := by
  have n1 : (30001 : Int32) = zI 30001 := rfl
  have n2 : (30002 : Int32) = zI 30002 := rfl
  have n3 : (30003 : Int32) = zI 30003 := rfl
  have n4 : (30004 : Int32) = zI 30004 := rfl
  have n5 : (30005 : Int32) = zI 30005 := rfl
  have n6 : (30006 : Int32) = zI 30006 := rfl
  rw [eF_joined, n1, zI_eq (by omega) (by omega) (by omega) (by omega), n2, zI_eq (by omega) (by omega) (by omega) (by omega), n3, zI_eq (by omega) (by omega) (by omega) (by omega), n4, zI_eq (by omega) (by omega) (by omega) (by omega), n5, zI_eq (by omega) (by omega) (by omega) (by omega), n6, zI_eq (by omega) (by omega) (by omega) (by omega)]
  unfold qjo
  by_cases q1 : c = 30001
  · rw [zif_pos q1, if_pos q1]
    by_cases a0 : a = 0
    · rw [zif_pos a0, if_pos a0]
    · rw [zif_neg a0, if_neg a0]
      by_cases b0 : b = 0
      · rw [zif_pos b0, if_pos b0]
      · rw [zif_neg b0, if_neg b0]
  · rw [zif_neg q1, if_neg q1]
    by_cases q2 : c = 30002
    · rw [zif_pos q2, if_pos q2]
      by_cases a0 : a = 0
      · rw [zif_pos a0, if_pos a0]
        by_cases b0 : b = 0
        · rw [zif_pos b0, if_pos b0]
        · rw [zif_neg b0, if_neg b0]
      · rw [zif_neg a0, if_neg a0]
    · rw [zif_neg q2, if_neg q2]
      by_cases q3 : c = 30003
      · rw [zif_pos q3, if_pos q3]
        by_cases b0 : b ≤ a
        · rw [zif_pos b0, if_pos b0]
        · rw [zif_neg b0, if_neg b0]
      · rw [zif_neg q3, if_neg q3]
        by_cases q4 : c = 30004
        · rw [zif_pos q4, if_pos q4]
          by_cases b0 : a = b
          · rw [zif_pos b0, if_pos b0]
          · rw [zif_neg b0, if_neg b0]
        · rw [zif_neg q4, if_neg q4]
          by_cases q5 : c = 30005
          · rw [zif_pos q5, if_pos q5]
          · rw [zif_neg q5, if_neg q5]
            by_cases q6 : c = 30006
            · rw [zif_pos q6, if_pos q6]
            · rw [zif_neg q6, if_neg q6]
theorem zF_operand_s (d : Nat) {u : Nat} {m c : Int} (hm : m ≤ 6) (hw : qWc m c) (hc : c < 30000) {vf nf : Int → Int32} {S : ZS} (hv : ∀ i : Int, 0 ≤ i → i < 6 → S.1 48 u i.toNat = vf i) (hn : ∀ i : Int, 0 ≤ i → i < m → S.1 47 u i.toNat = nf i) :
    zF_operand (d + 1) u (zI c) S = some (qop vf nf c, S) := by
  have n1 : (20000 : Int32) = zI 20000 := rfl
  have n2 : (10000 : Int32) = zI 10000 := rfl
  unfold qWc at hw
  rw [eF_operand, n1, zI_lt (by omega) (by omega) (by omega) (by omega), n2, zI_lt (by omega) (by omega) (by omega) (by omega), zI_sub, zI_sub]
  unfold qop
  by_cases q1 : c < 20000
  · rw [zif_pos q1, if_pos q1]
    by_cases q2 : c < 10000
    · rw [zif_pos q2, if_pos q2]
    · rw [zif_neg q2, if_neg q2, zg_t (by rw [zI_in (by omega) (by omega)]; omega), zI_zx (by omega) (by omega), hv (c - 10000) (by omega) (by omega)]
  · rw [zif_neg q1, if_neg q1, zg_t (by rw [zI_in (by omega) (by omega)]; omega), zI_zx (by omega) (by omega), hn (c - 20000) (by omega) (by omega)]
theorem zF_resultOf_5_s (d : Nat) {u : Nat} {m e : Int} (hm : m ≤ 6) (he : e ≤ 1000) {vf nf : Int → Int32} :
    ∀ (C : List Int) (k : Nat) (st st' : List Int32) (S : ZS), qev vf nf C st = some st' → qLs (S.1 45 u) k C → qWl m C → (k : Int) + C.length = e → st.length ≤ 25 → qSk (S.1 49 u) st → (∀ i : Int, 0 ≤ i → i < 6 → S.1 48 u i.toNat = vf i) → (∀ i : Int, 0 ≤ i → i < m → S.1 47 u i.toNat = nf i) →
      zwp (zF_resultOf_5 (d + 1) u (zI e) (zI st.length) (zI k) S) (fun r => r.1 = r.2.1 49 u 0 ∧ qSk (r.2.1 49 u) st' ∧ qF49 u S r.2) := by
  intro C
  induction C with
  | nil =>
    intro k st st' S hq hl hw ek h25 hs hv hn
    rw [List.length_nil] at ek
    have e0 : st = st' := by
      rw [qev] at hq
      exact Option.some.inj hq
    rw [eF_resultOf_5, zI_le (by omega) (by omega) (by omega) (by omega), zif_pos (by omega), zg_t (by decide), zwp_some]
    refine ⟨rfl, ?_, qF49_r u S⟩
    rw [← e0]
    exact hs
  | cons c C ih =>
    intro k st st' S hq hl hw ek h25 hs hv hn
    rw [List.length_cons] at ek
    have hwc := hw.1
    unfold qWc at hwc
    rw [qev] at hq
    have ek1 : ((k + 1 : Nat) : Int) + C.length = e := by omega
    have kk : ((k + 1 : Nat) : Int) = (k : Int) + 1 := by omega
    -- what follows
    have go : ∀ (st2 : List Int32) (v : Int32) (j : Nat), qst vf nf c st = some st2 → st2.length ≤ 25 → qSk ((zu S.1 49 u j v) 49 u) st2 →
        zwp (zF_resultOf_5 (d + 1) u (zI e) (zI st2.length) (zI ((k : Int) + 1)) (zu S.1 49 u j v, S.2)) (fun r => r.1 = r.2.1 49 u 0 ∧ qSk (r.2.1 49 u) st' ∧ qF49 u S r.2) := by
      intro st2 v j h2 l2 s2
      have f := qF49_u u S j v
      rw [h2, zBs] at hq
      have := ih (k + 1) st2 st' (zu S.1 49 u j v, S.2) hq (qLs_f (k + 1) C hl.2 (fun i _ _ => show (zu S.1 49 u j v) 45 u i = S.1 45 u i from zu_tag S.1 (by decide))) hw.2 ek1 l2 s2 (fun i a b => (show (zu S.1 49 u j v) 48 u i.toNat = S.1 48 u i.toNat from zu_tag S.1 (by decide)).trans (hv i a b)) (fun i a b => (show (zu S.1 49 u j v) 47 u i.toNat = S.1 47 u i.toNat from zu_tag S.1 (by decide)).trans (hn i a b))
      rw [kk] at this
      exact zwp_mono this (fun r w => ⟨w.1, w.2.1, qF49_t f w.2.2⟩)
    have n3 : (30000 : Int32) = zI 30000 := rfl
    have n25 : Int32.ofNat 25 = zI 25 := rfl
    rw [eF_resultOf_5, zI_le (by omega) (by omega) (by omega) (by omega), zif_neg (by omega), zg_t (by rw [zI_in (by omega) (by omega)]; omega), zI_zx (by omega) (by omega), show ((k : Int)).toNat = k by omega, hl.1, n3, zI_le (by omega) (by omega) (by omega) (by omega), n25, zI_le (by omega) (by omega) (by omega) (by omega)]
    by_cases q : c < 30000
    · have hst : qst vf nf c st = if st.length < 25 then some (qop vf nf c :: st) else none := qst_o vf nf st q
      by_cases w : st.length < 25
      · rw [if_pos w] at hst
        rw [zif_neg (by omega), zif_neg (by omega), zF_operand_s d hm hw.1 q hv hn, zBs]
        dsimp only
        rw [zg_t (by rw [zI_in (by omega) (by omega)]; omega), zI_zx (by omega) (by omega), zI_n1, zI_add, zI_add, show ((st.length : Nat) : Int).toNat = st.length by omega]
        have g := go (qop vf nf c :: st) (qop vf nf c) st.length hst (by rw [List.length_cons]; omega) ⟨zu_same S.1 49 u st.length _, qSk_f _ hs (fun i hi => zu_pl S.1 (by omega))⟩
        rw [List.length_cons, show ((st.length + 1 : Nat) : Int) = (st.length : Int) + 1 by omega] at g
        exact g
      · rw [if_neg w] at hst
        rw [hst] at hq
        exact absurd hq (by intro z; cases z)
    · rw [zif_pos (by omega), eF_resultOf_55, n3, zI_eq (by omega) (by omega) (by omega) (by omega), zI_n1, zI_lt (by omega) (by omega) (by omega) (by omega), zI_sub]
      by_cases q0 : c = 30000
      · rw [zif_pos q0]
        cases st with
        | nil =>
          have hst : qst vf nf c [] = none := by rw [qst_e0, if_neg q, if_pos q0]
          rw [hst] at hq
          exact absurd hq (by intro z; cases z)
        | cons a st =>
          have hst : qst vf nf c (a :: st) = some (qnt a :: st) := by rw [q0, qst_n]
          rw [List.length_cons] at h25 ⊢
          rw [zif_neg (by omega), zg_t (by rw [zI_in (by omega) (by omega)]; omega), zI_zx (by omega) (by omega), show (((st.length + 1 : Nat) : Int) - 1).toNat = st.length by omega, hs.1, zI_add]
          have g := fun (v : Int32) (hv' : v = qnt a) => go (qnt a :: st) v st.length hst (by rw [List.length_cons]; omega) ⟨by rw [zu_same]; exact hv', qSk_f _ hs.2 (fun i hi => zu_pl S.1 (by omega))⟩
          rw [List.length_cons] at g
          by_cases a0 : a = 0
          · rw [zif_pos a0, zg_t (by rw [zI_in (by omega) (by omega)]; omega)]
            exact g 1 (by unfold qnt; rw [if_pos a0])
          · rw [zif_neg a0, zg_t (by rw [zI_in (by omega) (by omega)]; omega)]
            exact g 0 (by unfold qnt; rw [if_neg a0])
      · rw [zif_neg q0, eF_resultOf_95, n3, zI_le (by omega) (by omega) (by omega) (by omega), zif_neg (by omega), zI_n2, zI_lt (by omega) (by omega) (by omega) (by omega), zI_n1, zI_neg, zI_add, zI_add, zI_sub]
        match st, hq, hs, h25, go with
        | [], hq, _, _, _ =>
          have hst : qst vf nf c [] = none := by rw [qst_e0, if_neg q, if_neg q0]
          rw [hst] at hq
          exact absurd hq (by intro z; cases z)
        | [a], hq, _, _, _ =>
          have hst : qst vf nf c [a] = none := by rw [qst_e1, if_neg q, if_neg q0]
          rw [hst] at hq
          exact absurd hq (by intro z; cases z)
        | b :: a :: st, hq, hs, h25, go =>
          have hst : qst vf nf c (b :: a :: st) = some (qjo c a b :: st) := by rw [qst_e2, if_neg q, if_neg q0]
          have h1 := hs.1
          have h2 := hs.2.1
          rw [List.length_cons] at h1
          rw [List.length_cons, List.length_cons] at h25 ⊢
          rw [zif_neg (by omega), zg_t (by rw [zI_in (by omega) (by omega)]; omega), zg_t (by rw [zI_in (by omega) (by omega)]; omega), zI_zx (by omega) (by omega), zI_zx (by omega) (by omega), show (((st.length + 1 + 1 : Nat) : Int) + -1 - 1).toNat = st.length by omega, show (((st.length + 1 + 1 : Nat) : Int) + -1).toNat = st.length + 1 by omega, h1, h2, zF_joined_s d (by omega), zBs]
          dsimp only
          rw [zg_t (by rw [zI_in (by omega) (by omega)]; omega), show (((st.length + 1 + 1 : Nat) : Int) + -1) = ((st.length + 1 : Nat) : Int) by omega]
          have g := go (qjo c a b :: st) (qjo c a b) st.length hst (by rw [List.length_cons]; omega) ⟨zu_same S.1 49 u st.length _, qSk_f _ hs.2.2 (fun i hi => zu_pl S.1 (by omega))⟩
          rw [List.length_cons] at g
          exact g
/-- a line's code is reckoned -/
theorem zF_resultOf_s (d : Nat) {u : Nat} {m : Int} (hm : m ≤ 6) {vf nf : Int → Int32} {C : List Int} {k : Nat} {v : QV} {S : ZS} (hP : qP 0 0 C v) (hl : qLs (S.1 45 u) k C) (hw : qWl m C) (he : (k : Int) + C.length ≤ 1000) (hv : ∀ i : Int, 0 ≤ i → i < 6 → S.1 48 u i.toNat = vf i) (hn : ∀ i : Int, 0 ≤ i → i < m → S.1 47 u i.toNat = nf i) :
    zwp (zF_resultOf (d + 2) u (zI k) (zI ((k : Int) + C.length)) S) (fun r => r.1 = v vf nf ∧ qF49 u S r.2) := by
  have := zF_resultOf_5_s d (u := u) hm he C k [] [v vf nf] S (hP vf nf [] (by rw [List.length_nil]; omega)) hl hw rfl (by rw [List.length_nil]; omega) trivial hv hn
  rw [List.length_nil] at this
  rw [eF_resultOf]
  refine zwp_mono this (fun r w => ⟨w.1.trans w.2.1.1, w.2.2⟩)
