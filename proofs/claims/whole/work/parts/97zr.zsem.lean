/-! THE TARIFF: what its code is worth. The class's code: operands ahead of their operation; the reference's: as it is told -/
abbrev QV : Type := (Int → Int32) → (Int → Int32) → Int32
def qnt (a : Int32) : Int32 := if a = 0 then 1 else 0
def qjo (c : Int) (a b : Int32) : Int32 := if c = 30001 then (if a = 0 then 0 else if b = 0 then 0 else 1) else if c = 30002 then (if a = 0 then (if b = 0 then 0 else 1) else 1) else if c = 30003 then (if b ≤ a then 0 else 1) else if c = 30004 then (if a = b then 1 else 0) else if c = 30005 then a + b else if c = 30006 then a - b else a * b
def qop (vf nf : Int → Int32) (c : Int) : Int32 := if c < 20000 then (if c < 10000 then zI c else vf (c - 10000)) else nf (c - 20000)
def qst (vf nf : Int → Int32) (c : Int) (st : List Int32) : Option (List Int32) :=
  if c < 30000 then (if st.length < 25 then some (qop vf nf c :: st) else none) else if c = 30000 then (match st with
    | a :: st => some (qnt a :: st)
    | _ => none) else (match st with
    | b :: a :: st => some (qjo c a b :: st)
    | _ => none)
theorem qst_o (vf nf : Int → Int32) {c : Int} (st : List Int32) (h : c < 30000) : qst vf nf c st = if st.length < 25 then some (qop vf nf c :: st) else none := by
  unfold qst
  rw [if_pos h]
theorem qst_e0 (vf nf : Int → Int32) (c : Int) : qst vf nf c [] = if c < 30000 then (if ([] : List Int32).length < 25 then some (qop vf nf c :: []) else none) else if c = 30000 then none else none := rfl
theorem qst_e1 (vf nf : Int → Int32) (c : Int) (a : Int32) : qst vf nf c [a] = if c < 30000 then (if [a].length < 25 then some (qop vf nf c :: [a]) else none) else if c = 30000 then some (qnt a :: []) else none := rfl
theorem qst_e2 (vf nf : Int → Int32) (c : Int) (b a : Int32) (st : List Int32) : qst vf nf c (b :: a :: st) = if c < 30000 then (if (b :: a :: st).length < 25 then some (qop vf nf c :: b :: a :: st) else none) else if c = 30000 then some (qnt b :: a :: st) else some (qjo c a b :: st) := rfl
theorem qst_n (vf nf : Int → Int32) (a : Int32) (st : List Int32) : qst vf nf 30000 (a :: st) = some (qnt a :: st) := rfl
def qev (vf nf : Int → Int32) : List Int → List Int32 → Option (List Int32)
  | [], st => some st
  | c :: C, st => (qst vf nf c st).bind (qev vf nf C)
theorem qev_a (vf nf : Int → Int32) : ∀ (A B : List Int) (st : List Int32), qev vf nf (A ++ B) st = (qev vf nf A st).bind (qev vf nf B)
  | [], B, st => rfl
  | a :: A, B, st => by
    rw [List.cons_append, qev, qev]
    cases qst vf nf a st with
    | none => rfl
    | some s => exact qev_a vf nf A B s
/-- the class's code C is worth v within w brackets, at rank r -/
def qP (r w : Int) (C : List Int) (v : QV) : Prop := ∀ vf nf st, ((st.length : Nat) : Int) ≤ 4 * w + r → qev vf nf C st = some (v vf nf :: st)
theorem qP_l {r r' w : Int} {C : List Int} {v : QV} (h : qP r' w C v) (hr : r ≤ r') : qP r w C v := fun vf nf st q => h vf nf st (by omega)
theorem qP_j {r w c : Int} {A B : List Int} {a b : QV} (ha : qP r w A a) (hb : qP (r + 1) w B b) (hc : 30000 < c) : qP r w (A ++ B ++ [c]) (fun vf nf => qjo c (a vf nf) (b vf nf)) := by
  intro vf nf st q
  rw [qev_a, qev_a, ha vf nf st q, zBs, hb vf nf (a vf nf :: st) (by rw [List.length_cons]; omega), zBs, qev, qst_e2, if_neg (by omega), if_neg (by omega), zBs, qev]
theorem qP_n {w : Int} {A : List Int} {a : QV} (ha : qP 4 (w + 1) A a) : qP 4 w (A ++ [30000]) (fun vf nf => qnt (a vf nf)) := by
  intro vf nf st q
  rw [qev_a, ha vf nf st (by omega), zBs, qev, qst_n, zBs, qev]
theorem qP_o {w c : Int} (hw : 0 ≤ w ∧ w ≤ 4) (hc : c < 30000) : qP 4 w [c] (fun vf nf => qop vf nf c) := by
  intro vf nf st q
  rw [qev, qst_o vf nf st hc, if_pos (by omega), zBs, qev]
/-! the reference's evaluation: fields 0 kept 1 keptBy 2 first 3 against 4 sum 5 sumBy 6 term 7 times 8 byNot, at each depth -/
abbrev QF : Type := Int → Nat → Int32
def qu (F : QF) (d : Int) (k : Nat) (v : Int32) : QF := fun d' k' => if d' = d ∧ k' = k then v else F d' k'
theorem qu_s (F : QF) (d : Int) (k : Nat) (v : Int32) : qu F d k v d k = v := if_pos ⟨rfl, rfl⟩
theorem qu_k (F : QF) (d : Int) {k k' : Nat} (v : Int32) (h : k' ≠ k) : qu F d k v d k' = F d k' := if_neg (fun e => h e.2)
theorem qu_d (F : QF) {d d' : Int} (k : Nat) (v : Int32) (h : d' ≠ d) : qu F d k v d' = F d' := by
  funext k'
  exact if_neg (fun e => h e.1)
def qsv (F : QF) (d : Int) : Int32 := if F d 5 = 21 then F d 4 - F d 6 else F d 4 + F d 6
def qtv (F : QF) (d : Int) : Int32 := if F d 3 = 24 then qjo 30003 (F d 2) (qsv F d) else if F d 3 = 25 then qjo 30004 (F d 2) (qsv F d) else qsv F d
def qkv (F : QF) (d : Int) : Int32 := if F d 1 = 26 then qjo 30001 (F d 0) (qtv F d) else if F d 1 = 27 then qjo 30002 (F d 0) (qtv F d) else qtv F d
def qopn (F : QF) (d : Int) : QF := qu (qu (qu (qu (qu F d 1 0) d 3 0) d 4 0) d 5 20) d 7 0
def qsum (F : QF) (d : Int) : QF := qu (qu F d 4 (qsv F d)) d 7 0
def qtes (F : QF) (d : Int) : QF := qu (qu (qu (qu (qsum F d) d 0 (qkv F d)) d 3 0) d 4 0) d 5 20
/-- an operand's value, past the nots -/
def qpv : Nat → QF → Int → Int32 → Int × QF
  | 0, F, d, v => (d, qu F d 6 (if F d 7 = 0 then v else F d 6 * v))
  | n + 1, F, d, v => if F d 8 = 1 then qpv n F (d - 1) (qnt v) else (d, qu F d 6 (if F d 7 = 0 then v else F d 6 * v))
def qro (vf nf : Int → Int32) (c : Int) : Int32 := if 100 ≤ c then zI (c - 100) else if c < 10 then vf (c - 1) else nf (c - 10)
def qrs (vf nf : Int → Int32) (c : Int) (s : Int × QF) : Option (Int × QF) :=
  if c = 28 then (if s.1 < 5 then some (s.1 + 1, qopn (qu s.2 (s.1 + 1) 8 0) (s.1 + 1)) else none)
  else if c = 30 then (if s.1 < 5 then some (s.1 + 1, qopn (qu s.2 (s.1 + 1) 8 1) (s.1 + 1)) else none)
  else if c = 20 ∨ c = 21 then some (s.1, qu (qsum s.2 s.1) s.1 5 (zI c))
  else if c = 22 then some (s.1, qu s.2 s.1 7 1)
  else if c = 24 ∨ c = 25 then some (s.1, qu (qu (qu (qu (qsum s.2 s.1) s.1 2 (qsv s.2 s.1)) s.1 3 (zI c)) s.1 4 0) s.1 5 20)
  else if c = 26 ∨ c = 27 then some (s.1, qu (qtes s.2 s.1) s.1 1 (zI c))
  else if c = 29 then (if 0 < s.1 then some (qpv (s.1 - 1).toNat (qtes s.2 s.1) (s.1 - 1) (qkv s.2 s.1)) else none)
  else some (qpv s.1.toNat s.2 s.1 (qro vf nf c))
def qrv (vf nf : Int → Int32) : List Int → Int × QF → Option (Int × QF)
  | [], s => some s
  | c :: C, s => (qrs vf nf c s).bind (qrv vf nf C)
theorem qrv_a (vf nf : Int → Int32) : ∀ (A B : List Int) (s : Int × QF), qrv vf nf (A ++ B) s = (qrv vf nf A s).bind (qrv vf nf B)
  | [], B, s => rfl
  | a :: A, B, s => by
    rw [List.cons_append, qrv, qrv]
    cases qrs vf nf a s with
    | none => rfl
    | some s => exact qrv_a vf nf A B s
/-- what is open, not under a not -/
def qOp (F : QF) (w : Int) : Prop := w = 0 ∨ F w 8 ≠ 1
def qLt (F F' : QF) (w : Int) : Prop := ∀ d, d < w → F' d = F d
/-- the reference's code R is worth v, w brackets deep -/
def qR4 (w : Int) (R : List Int) (v : QV) : Prop := ∀ vf nf F, ∃ F', (∀ d, d ≤ w → F' d = F d) ∧ qrv vf nf R (w, F) = some (qpv w.toNat F' w (v vf nf))
def qR3 (w : Int) (R : List Int) (v : QV) : Prop := ∀ vf nf F, qOp F w → F w 7 = 0 → ∃ F', qrv vf nf R (w, F) = some (w, F') ∧ qLt F F' w ∧ (∀ k, k ≠ 6 → k ≠ 7 → F' w k = F w k) ∧ F' w 6 = v vf nf
def qR2 (w : Int) (R : List Int) (v : QV) : Prop := ∀ vf nf F, qOp F w → F w 7 = 0 → F w 4 = 0 → F w 5 = 20 → ∃ F', qrv vf nf R (w, F) = some (w, F') ∧ qLt F F' w ∧ (∀ k, k = 0 ∨ k = 1 ∨ k = 2 ∨ k = 3 ∨ k = 8 → F' w k = F w k) ∧ qsv F' w = v vf nf
def qR1 (w : Int) (R : List Int) (v : QV) : Prop := ∀ vf nf F, qOp F w → F w 7 = 0 → F w 4 = 0 → F w 5 = 20 → F w 3 = 0 → ∃ F', qrv vf nf R (w, F) = some (w, F') ∧ qLt F F' w ∧ (∀ k, k = 0 ∨ k = 1 ∨ k = 8 → F' w k = F w k) ∧ qtv F' w = v vf nf
def qR0 (w : Int) (R : List Int) (v : QV) : Prop := ∀ vf nf F, qOp F w → F w 7 = 0 → F w 4 = 0 → F w 5 = 20 → F w 3 = 0 → F w 1 = 0 → ∃ F', qrv vf nf R (w, F) = some (w, F') ∧ qLt F F' w ∧ F' w 8 = F w 8 ∧ qkv F' w = v vf nf
theorem qpv_o {F : QF} {w : Int} (hw : 0 ≤ w) (h : qOp F w) (v : Int32) : qpv w.toNat F w v = (w, qu F w 6 (if F w 7 = 0 then v else F w 6 * v)) := by
  rcases h with h | h
  · rw [h]
    rfl
  · by_cases q : w = 0
    · rw [q]
      rfl
    · obtain ⟨n, e⟩ : ∃ n, w.toNat = n + 1 := ⟨w.toNat - 1, by omega⟩
      rw [e, qpv, if_neg h]
theorem qOp_c {F F' : QF} {w : Int} (h : qOp F w) (e : F' w 8 = F w 8) : qOp F' w := by
  unfold qOp at h ⊢
  rw [e]
  exact h
theorem qR43 {w : Int} (hw : 0 ≤ w) {R : List Int} {v : QV} (h : qR4 w R v) : qR3 w R v := by
  intro vf nf F ho h7
  obtain ⟨F', f1, f2⟩ := h vf nf F
  have ew := f1 w (Int.le_refl _)
  rw [qpv_o hw (qOp_c ho (by rw [ew])), ew, if_pos h7] at f2
  refine ⟨_, f2, fun d hd => (qu_d F' 6 _ (by omega)).trans (f1 d (by omega)), fun k k6 k7 => (qu_k F' w _ k6).trans (by rw [ew]), qu_s F' w 6 _⟩
theorem qR32 {w : Int} {R : List Int} {v : QV} (h : qR3 w R v) : qR2 w R v := by
  intro vf nf F ho h7 h4 h5
  obtain ⟨F', f1, f2, f3, f4⟩ := h vf nf F ho h7
  refine ⟨F', f1, f2, fun k hk => f3 k (by omega) (by omega), ?_⟩
  unfold qsv
  rw [f3 5 (by decide) (by decide), f3 4 (by decide) (by decide), f4, h5, h4, if_neg (by decide), Int32.zero_add]
theorem qR21 {w : Int} {R : List Int} {v : QV} (h : qR2 w R v) : qR1 w R v := by
  intro vf nf F ho h7 h4 h5 h3
  obtain ⟨F', f1, f2, f3, f4⟩ := h vf nf F ho h7 h4 h5
  refine ⟨F', f1, f2, fun k hk => f3 k (by omega), ?_⟩
  unfold qtv
  rw [f3 3 (by omega), h3, if_neg (by decide), if_neg (by decide), f4]
theorem qR10 {w : Int} {R : List Int} {v : QV} (h : qR1 w R v) : qR0 w R v := by
  intro vf nf F ho h7 h4 h5 h3 h1
  obtain ⟨F', f1, f2, f3, f4⟩ := h vf nf F ho h7 h4 h5 h3
  refine ⟨F', f1, f2, f3 8 (by omega), ?_⟩
  unfold qkv
  rw [f3 1 (by omega), h1, if_neg (by decide), if_neg (by decide), f4]
/-- times -/
theorem qR3j {w : Int} (hw : 0 ≤ w) {A B : List Int} {a b : QV} (ha : qR3 w A a) (hb : qR4 w B b) : qR3 w (A ++ 22 :: B) (fun vf nf => qjo 30007 (a vf nf) (b vf nf)) := by
  intro vf nf F ho h7
  obtain ⟨F1, f1, f2, f3, f4⟩ := ha vf nf F ho h7
  have e22 : qrs vf nf 22 (w, F1) = some (w, qu F1 w 7 1) := rfl
  obtain ⟨F2, g1, g2⟩ := hb vf nf (qu F1 w 7 1)
  have ew := g1 w (Int.le_refl _)
  have o2 : qOp F2 w := qOp_c ho (by rw [ew, qu_k F1 w 1 (by decide), f3 8 (by decide) (by decide)])
  rw [qpv_o hw o2, ew, qu_s, if_neg (by decide), qu_k F1 w 1 (by decide), f4] at g2
  rw [qrv_a, f1, zBs, qrv, e22, zBs, g2]
  refine ⟨_, rfl, fun d hd => (qu_d F2 6 _ (by omega)).trans ((g1 d (by omega)).trans ((qu_d F1 7 1 (by omega)).trans (f2 d hd))), fun k k6 k7 => (qu_k F2 w _ k6).trans ?_, qu_s F2 w 6 _⟩
  rw [ew]
  exact (qu_k F1 w 1 k7).trans (f3 k k6 k7)
/-- plus, minus -/
theorem qR2j {w c : Int} (hc : c = 20 ∨ c = 21) {A B : List Int} {a b : QV} (ha : qR2 w A a) (hb : qR3 w B b) : qR2 w (A ++ c :: B) (fun vf nf => qjo (c + 29985) (a vf nf) (b vf nf)) := by
  intro vf nf F ho h7 h4 h5
  obtain ⟨F1, f1, f2, f3, f4⟩ := ha vf nf F ho h7 h4 h5
  have ec : qrs vf nf c (w, F1) = some (w, qu (qsum F1 w) w 5 (zI c)) := by
    rcases hc with rfl | rfl <;> rfl
  have l0 : qLt F1 (qu (qsum F1 w) w 5 (zI c)) w := fun d hd => (qu_d _ 5 _ (by omega)).trans ((qu_d _ 7 _ (by omega)).trans (qu_d _ 4 _ (by omega)))
  have k0 : ∀ k, k ≠ 4 → k ≠ 5 → k ≠ 7 → (qu (qsum F1 w) w 5 (zI c)) w k = F1 w k := fun k a b e => (qu_k _ w _ b).trans ((qu_k _ w _ e).trans (qu_k _ w _ a))
  have k4 : (qu (qsum F1 w) w 5 (zI c)) w 4 = a vf nf := (qu_k _ w _ (by decide)).trans ((qu_k _ w _ (by decide)).trans ((qu_s F1 w 4 _).trans f4))
  have k5 : (qu (qsum F1 w) w 5 (zI c)) w 5 = zI c := qu_s _ w 5 _
  have k7 : (qu (qsum F1 w) w 5 (zI c)) w 7 = 0 := (qu_k _ w _ (by decide)).trans (qu_s _ w 7 _)
  obtain ⟨F2, g1, g2, g3, g4⟩ := hb vf nf (qu (qsum F1 w) w 5 (zI c)) (qOp_c ho (by rw [k0 8 (by decide) (by decide) (by decide), f3 8 (by omega)])) k7
  rw [qrv_a, f1, zBs, qrv, ec, zBs]
  refine ⟨F2, g1, fun d hd => (g2 d hd).trans ((l0 d hd).trans (f2 d hd)), fun k hk => ?_, ?_⟩
  · rw [g3 k (by omega) (by omega), k0 k (by omega) (by omega) (by omega), f3 k hk]
  · unfold qsv
    rw [g3 5 (by decide) (by decide), g3 4 (by decide) (by decide), g4, k5, k4]
    rcases hc with rfl | rfl
    · rw [if_neg (by decide)]
      rfl
    · rw [if_pos (show zI 21 = 21 from rfl)]
      rfl
/-- less, same -/
theorem qR1j {w c : Int} (hc : c = 24 ∨ c = 25) {A B : List Int} {a b : QV} (ha : qR2 w A a) (hb : qR2 w B b) : qR1 w (A ++ c :: B) (fun vf nf => qjo (c + 29979) (a vf nf) (b vf nf)) := by
  intro vf nf F ho h7 h4 h5 h3
  obtain ⟨F1, f1, f2, f3, f4⟩ := ha vf nf F ho h7 h4 h5
  have ec : qrs vf nf c (w, F1) = some (w, qu (qu (qu (qu (qsum F1 w) w 2 (qsv F1 w)) w 3 (zI c)) w 4 0) w 5 20) := by
    rcases hc with rfl | rfl <;> rfl
  generalize hG : qu (qu (qu (qu (qsum F1 w) w 2 (qsv F1 w)) w 3 (zI c)) w 4 0) w 5 20 = G at ec
  have l0 : qLt F1 G w := fun d hd => by
    rw [← hG]
    exact (qu_d _ 5 _ (by omega)).trans ((qu_d _ 4 _ (by omega)).trans ((qu_d _ 3 _ (by omega)).trans ((qu_d _ 2 _ (by omega)).trans ((qu_d _ 7 _ (by omega)).trans (qu_d _ 4 _ (by omega))))))
  have k0 : ∀ k, k = 0 ∨ k = 1 ∨ k = 8 → G w k = F1 w k := fun k hk => by
    rw [← hG]
    exact (qu_k _ w _ (by omega)).trans ((qu_k _ w _ (by omega)).trans ((qu_k _ w _ (by omega)).trans ((qu_k _ w _ (by omega)).trans ((qu_k _ w _ (by omega)).trans (qu_k _ w _ (by omega))))))
  have k2 : G w 2 = a vf nf := by
    rw [← hG]
    exact (qu_k _ w _ (by decide)).trans ((qu_k _ w _ (by decide)).trans ((qu_k _ w _ (by decide)).trans ((qu_s _ w 2 _).trans f4)))
  have k3 : G w 3 = zI c := by
    rw [← hG]
    exact (qu_k _ w _ (by decide)).trans ((qu_k _ w _ (by decide)).trans (qu_s _ w 3 _))
  have k4 : G w 4 = 0 := by
    rw [← hG]
    exact (qu_k _ w _ (by decide)).trans (qu_s _ w 4 _)
  have k5 : G w 5 = 20 := by
    rw [← hG]
    exact qu_s _ w 5 _
  have k7 : G w 7 = 0 := by
    rw [← hG]
    exact (qu_k _ w _ (by decide)).trans ((qu_k _ w _ (by decide)).trans ((qu_k _ w _ (by decide)).trans ((qu_k _ w _ (by decide)).trans (qu_s _ w 7 _))))
  obtain ⟨F2, g1, g2, g3, g4⟩ := hb vf nf G (qOp_c ho (by rw [k0 8 (by omega), f3 8 (by omega)])) k7 k4 k5
  rw [qrv_a, f1, zBs, qrv, ec, zBs]
  refine ⟨F2, g1, fun d hd => (g2 d hd).trans ((l0 d hd).trans (f2 d hd)), fun k hk => ?_, ?_⟩
  · rw [g3 k (by omega), k0 k hk, f3 k (by omega)]
  · unfold qtv
    rw [g3 3 (by omega), g3 2 (by omega), g4, k3, k2]
    rcases hc with rfl | rfl
    · rw [if_pos (show zI 24 = 24 from rfl)]
      rfl
    · rw [if_neg (by decide), if_pos (show zI 25 = 25 from rfl)]
      rfl
/-- and, or -/
theorem qR0j {w c : Int} (hc : c = 26 ∨ c = 27) {A B : List Int} {a b : QV} (ha : qR0 w A a) (hb : qR1 w B b) : qR0 w (A ++ c :: B) (fun vf nf => qjo (c + 29975) (a vf nf) (b vf nf)) := by
  intro vf nf F ho h7 h4 h5 h3 h1
  obtain ⟨F1, f1, f2, f3, f4⟩ := ha vf nf F ho h7 h4 h5 h3 h1
  have ec : qrs vf nf c (w, F1) = some (w, qu (qtes F1 w) w 1 (zI c)) := by
    rcases hc with rfl | rfl <;> rfl
  generalize hG : qu (qtes F1 w) w 1 (zI c) = G at ec
  have l0 : qLt F1 G w := fun d hd => by
    rw [← hG]
    exact (qu_d _ 1 _ (by omega)).trans ((qu_d _ 5 _ (by omega)).trans ((qu_d _ 4 _ (by omega)).trans ((qu_d _ 3 _ (by omega)).trans ((qu_d _ 0 _ (by omega)).trans ((qu_d _ 7 _ (by omega)).trans (qu_d _ 4 _ (by omega)))))))
  have k8 : G w 8 = F1 w 8 := by
    rw [← hG]
    exact (qu_k _ w _ (by decide)).trans ((qu_k _ w _ (by decide)).trans ((qu_k _ w _ (by decide)).trans ((qu_k _ w _ (by decide)).trans ((qu_k _ w _ (by decide)).trans ((qu_k _ w _ (by decide)).trans (qu_k _ w _ (by decide)))))))
  have k1 : G w 1 = zI c := by
    rw [← hG]
    exact qu_s _ w 1 _
  have k0 : G w 0 = a vf nf := by
    rw [← hG]
    exact (qu_k _ w _ (by decide)).trans ((qu_k _ w _ (by decide)).trans ((qu_k _ w _ (by decide)).trans ((qu_k _ w _ (by decide)).trans ((qu_s _ w 0 _).trans f4))))
  have k3 : G w 3 = 0 := by
    rw [← hG]
    exact (qu_k _ w _ (by decide)).trans ((qu_k _ w _ (by decide)).trans ((qu_k _ w _ (by decide)).trans (qu_s _ w 3 _)))
  have k4 : G w 4 = 0 := by
    rw [← hG]
    exact (qu_k _ w _ (by decide)).trans ((qu_k _ w _ (by decide)).trans (qu_s _ w 4 _))
  have k5 : G w 5 = 20 := by
    rw [← hG]
    exact (qu_k _ w _ (by decide)).trans (qu_s _ w 5 _)
  have k7 : G w 7 = 0 := by
    rw [← hG]
    exact (qu_k _ w _ (by decide)).trans ((qu_k _ w _ (by decide)).trans ((qu_k _ w _ (by decide)).trans ((qu_k _ w _ (by decide)).trans ((qu_k _ w _ (by decide)).trans (qu_s _ w 7 _)))))
  obtain ⟨F2, g1, g2, g3, g4⟩ := hb vf nf G (qOp_c ho (by rw [k8, f3])) k7 k4 k5 k3
  rw [qrv_a, f1, zBs, qrv, ec, zBs]
  refine ⟨F2, g1, fun d hd => (g2 d hd).trans ((l0 d hd).trans (f2 d hd)), by rw [g3 8 (by omega), k8, f3], ?_⟩
  unfold qkv
  rw [g3 1 (by omega), g3 0 (by omega), g4, k1, k0]
  rcases hc with rfl | rfl
  · rw [if_pos (show zI 26 = 26 from rfl)]
    rfl
  · rw [if_neg (by decide), if_pos (show zI 27 = 27 from rfl)]
    rfl
/-- an operand -/
theorem qR4o {w c : Int} (hc : c = 29 → False) (hc2 : c < 20 ∨ 100 ≤ c) : qR4 w [c] (fun vf nf => qro vf nf c) := by
  intro vf nf F
  refine ⟨F, fun _ _ => rfl, ?_⟩
  rw [qrv, qrs, if_neg (by omega), if_neg (by omega), if_neg (by omega), if_neg (by omega), if_neg (by omega), if_neg (by omega), if_neg (by omega), zBs, qrv]
theorem qopn_l (F : QF) (d : Int) : ∀ d', d' < d → qopn F d d' = F d' := fun d' hd => (qu_d _ 7 _ (by omega)).trans ((qu_d _ 5 _ (by omega)).trans ((qu_d _ 4 _ (by omega)).trans ((qu_d _ 3 _ (by omega)).trans (qu_d _ 1 _ (by omega)))))
theorem qopn_8 (F : QF) (d : Int) : qopn F d d 8 = F d 8 := (qu_k _ d _ (by decide)).trans ((qu_k _ d _ (by decide)).trans ((qu_k _ d _ (by decide)).trans ((qu_k _ d _ (by decide)).trans (qu_k _ d _ (by decide)))))
/-- not -/
theorem qR4n {w : Int} (hw : 0 ≤ w ∧ w < 5) {A : List Int} {a : QV} (ha : qR4 (w + 1) A a) : qR4 w (30 :: A) (fun vf nf => qnt (a vf nf)) := by
  intro vf nf F
  obtain ⟨F1, f1, f2⟩ := ha vf nf (qopn (qu F (w + 1) 8 1) (w + 1))
  have e30 : qrs vf nf 30 (w, F) = some (w + 1, qopn (qu F (w + 1) 8 1) (w + 1)) := if_pos hw.2
  have e8 : F1 (w + 1) 8 = 1 := by
    rw [f1 (w + 1) (Int.le_refl _), qopn_8, qu_s]
  rw [show (w + 1).toNat = w.toNat + 1 by omega, qpv, if_pos e8, show w + 1 - 1 = w by omega] at f2
  refine ⟨F1, fun d hd => (f1 d (by omega)).trans ((qopn_l _ _ d (by omega)).trans (qu_d F 8 1 (by omega))), ?_⟩
  rw [qrv, e30, zBs, f2]
/-- brackets -/
theorem qR4b {w : Int} (hw : 0 ≤ w ∧ w < 5) {A : List Int} {a : QV} (ha : qR0 (w + 1) A a) : qR4 w (28 :: A ++ [29]) a := by
  intro vf nf F
  generalize hG : qopn (qu F (w + 1) 8 0) (w + 1) = G
  have e28 : qrs vf nf 28 (w, F) = some (w + 1, G) := by rw [← hG]; exact if_pos hw.2
  have g8 : G (w + 1) 8 = 0 := by rw [← hG, qopn_8, qu_s]
  have g7 : G (w + 1) 7 = 0 := by rw [← hG]; exact qu_s _ _ 7 _
  have g5 : G (w + 1) 5 = 20 := by rw [← hG]; exact (qu_k _ _ _ (by decide)).trans (qu_s _ _ 5 _)
  have g4 : G (w + 1) 4 = 0 := by rw [← hG]; exact (qu_k _ _ _ (by decide)).trans ((qu_k _ _ _ (by decide)).trans (qu_s _ _ 4 _))
  have g3 : G (w + 1) 3 = 0 := by rw [← hG]; exact (qu_k _ _ _ (by decide)).trans ((qu_k _ _ _ (by decide)).trans ((qu_k _ _ _ (by decide)).trans (qu_s _ _ 3 _)))
  have g1 : G (w + 1) 1 = 0 := by rw [← hG]; exact (qu_k _ _ _ (by decide)).trans ((qu_k _ _ _ (by decide)).trans ((qu_k _ _ _ (by decide)).trans ((qu_k _ _ _ (by decide)).trans (qu_s _ _ 1 _))))
  have gl : ∀ d, d < w + 1 → G d = F d := fun d hd => by rw [← hG]; exact (qopn_l _ _ d hd).trans (qu_d F 8 0 (by omega))
  obtain ⟨F1, f1, f2, f3, f4⟩ := ha vf nf G (Or.inr (by rw [g8]; decide)) g7 g4 g5 g3 g1
  have e29 : qrs vf nf 29 (w + 1, F1) = some (qpv (w + 1 - 1).toNat (qtes F1 (w + 1)) (w + 1 - 1) (qkv F1 (w + 1))) := if_pos (show (0 : Int) < w + 1 by omega)
  rw [show w + 1 - 1 = w by omega, f4] at e29
  refine ⟨qtes F1 (w + 1), fun d hd => ?_, ?_⟩
  · exact ((qu_d _ 5 _ (by omega)).trans ((qu_d _ 4 _ (by omega)).trans ((qu_d _ 3 _ (by omega)).trans ((qu_d _ 0 _ (by omega)).trans ((qu_d _ 7 _ (by omega)).trans (qu_d _ 4 _ (by omega))))))).trans ((f2 d (by omega)).trans (gl d (by omega)))
  · rw [List.cons_append, qrv, e28, zBs, qrv_a, f1, zBs, qrv, e29, zBs, qrv]
