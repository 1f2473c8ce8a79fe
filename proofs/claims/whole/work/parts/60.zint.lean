/-! WHOLE NUMBERS: Int32 as Int -/
def zI (n : Int) : Int32 := Int32.ofInt n
theorem zI_toInt {n : Int} (h1 : -2147483648 ≤ n) (h2 : n < 2147483648) : (zI n).toInt = n := Int32.toInt_ofInt_of_le h1 h2
theorem zI_ex (a : Int32) : ∃ n : Int, -2147483648 ≤ n ∧ n < 2147483648 ∧ a = zI n := ⟨a.toInt, Int32.le_toInt a, Int32.toInt_lt a, (Int32.ofInt_toInt a).symm⟩
theorem zI_add (a b : Int) : zI a + zI b = zI (a + b) := (Int32.ofInt_add a b).symm
theorem zI_sub (a b : Int) : zI a - zI b = zI (a - b) := (Int32.ofInt_sub a b).symm
theorem zI_mul (a b : Int) : zI a * zI b = zI (a * b) := (Int32.ofInt_mul a b).symm
theorem zI_neg (a : Int) : -zI a = zI (-a) := Int32.neg_ofInt
theorem zI_lt {a b : Int} (h1 : -2147483648 ≤ a) (h2 : a < 2147483648) (h3 : -2147483648 ≤ b) (h4 : b < 2147483648) : (zI a < zI b) = (a < b) := by
  rw [Int32.lt_iff_toInt_lt, zI_toInt h1 h2, zI_toInt h3 h4]
theorem zI_le {a b : Int} (h1 : -2147483648 ≤ a) (h2 : a < 2147483648) (h3 : -2147483648 ≤ b) (h4 : b < 2147483648) : (zI a ≤ zI b) = (a ≤ b) := by
  rw [Int32.le_iff_toInt_le, zI_toInt h1 h2, zI_toInt h3 h4]
theorem zI_eq {a b : Int} (h1 : -2147483648 ≤ a) (h2 : a < 2147483648) (h3 : -2147483648 ≤ b) (h4 : b < 2147483648) : (zI a = zI b) = (a = b) := by
  rw [← Int32.toInt_inj, zI_toInt h1 h2, zI_toInt h3 h4]
theorem zI_div {a b : Int} (h1 : 0 ≤ a) (h2 : a < 2147483648) (h3 : 0 < b) (h4 : b < 2147483648) : zI a / zI b = zI (a / b) := by
  have hq1 : 0 ≤ a / b := Int.ediv_nonneg h1 (by omega)
  have hq2 : a / b ≤ a := Int.ediv_le_self b h1
  rw [← Int32.toInt_inj, Int32.toInt_div_of_ne_right _ _ (by
    intro e
    have := congrArg Int32.toInt e
    rw [zI_toInt (by omega) h4] at this
    have e2 : (-1 : Int32).toInt = -1 := rfl
    omega), zI_toInt (by omega) h2, zI_toInt (by omega) h4, zI_toInt (by omega) (by omega), Int.tdiv_eq_ediv_of_nonneg h1]
theorem zI_zx {a : Int} (h1 : 0 ≤ a) (h2 : a < 2147483648) : zx (zI a) = a.toNat := by
  show (zI a).toInt.toNat = a.toNat
  rw [zI_toInt (by omega) h2]
theorem zI_in {a : Int} {n : Nat} (h1 : -2147483648 ≤ a) (h2 : a < 2147483648) : (zin (zI a) n = true) = (0 ≤ a ∧ a < (n : Int)) := by
  unfold zin
  have e : (zI a).toNatClampNeg = a.toNat := by
    show (zI a).toInt.toNat = a.toNat
    rw [zI_toInt h1 h2]
  have e0 : (zI a < 0) = (a < 0) := by
    rw [Int32.lt_iff_toInt_lt, zI_toInt h1 h2]
    rfl
  apply propext
  rw [decide_eq_true_iff, e, e0]
  omega
theorem zI_bl {a : Int} (h : a = 0 ∨ a = 1) : zbl (zI a) = true := by
  rcases h with rfl | rfl <;> rfl
/-- a truth value -/
noncomputable def zb (P : Prop) : Int32 := @ite _ P (Classical.propDecidable P) 1 0
theorem zb_t {P : Prop} (h : P) : zb P = 1 := @if_pos P (Classical.propDecidable P) h _ _ _
theorem zb_f {P : Prop} (h : ¬ P) : zb P = 0 := @if_neg P (Classical.propDecidable P) h _ _ _
theorem zb_0 (P : Prop) : (zb P = 0) = ¬ P := by
  apply propext
  by_cases h : P
  · rw [zb_t h]; exact ⟨fun e => absurd e (by decide), fun e => absurd h e⟩
  · rw [zb_f h]; exact ⟨fun _ => h, fun _ => rfl⟩
theorem zb_1 (P : Prop) : (zb P = 1) = P := by
  apply propext
  by_cases h : P
  · rw [zb_t h]; exact ⟨fun _ => h, fun _ => rfl⟩
  · rw [zb_f h]; exact ⟨fun e => absurd e (by decide), fun e => absurd e h⟩
theorem zb_I (P : Prop) [Decidable P] : zb P = zI (if P then 1 else 0) := by
  by_cases h : P
  · rw [zb_t h, if_pos h]; rfl
  · rw [zb_f h, if_neg h]; rfl
theorem zb_bl (P : Prop) : zbl (zb P) = true := by
  by_cases h : P
  · rw [zb_t h]; rfl
  · rw [zb_f h]; rfl
theorem zb_c {P Q : Prop} (h : P ↔ Q) : zb P = zb Q := by rw [propext h]
theorem zI_b0 (P : Prop) : zI 0 = zb P ↔ ¬ P := by
  have h := zb_0 P
  exact ⟨fun e => by rw [← h]; exact e.symm, fun e => by rw [← h] at e; exact e.symm⟩
theorem zI_b1 (P : Prop) : zI 1 = zb P ↔ P := by
  have h := zb_1 P
  exact ⟨fun e => h.mp e.symm, fun e => (h.mpr e).symm⟩
/-! what is answered -/
def zwp {α : Type} (o : Option α) (Q : α → Prop) : Prop := ∃ r, o = some r ∧ Q r
theorem zwp_some {α : Type} (r : α) (Q : α → Prop) : zwp (some r) Q = Q r := propext ⟨fun ⟨_, e, h⟩ => (by cases e; exact h), fun h => ⟨r, rfl, h⟩⟩
theorem zwp_none {α : Type} (Q : α → Prop) : zwp none Q = False := propext ⟨fun ⟨_, e, _⟩ => (by cases e), False.elim⟩
theorem zwp_zif {α : Type} (c : Prop) (a b : Option α) (Q : α → Prop) : zwp (zif c a b) Q = ((c → zwp a Q) ∧ (¬ c → zwp b Q)) := by
  apply propext
  by_cases h : c
  · rw [zif_pos h]; exact ⟨fun q => ⟨fun _ => q, fun e => absurd h e⟩, fun q => q.1 h⟩
  · rw [zif_neg h]; exact ⟨fun q => ⟨fun e => absurd e h, fun _ => q⟩, fun q => q.2 h⟩
theorem zwp_zg {α : Type} (b : Bool) (k : Option α) (Q : α → Prop) : zwp (zg b k) Q = (b = true ∧ zwp k Q) := by
  apply propext
  cases b
  · rw [zg_f rfl, zwp_none]; exact ⟨False.elim, fun h => by cases h.1⟩
  · rw [zg_t rfl]; exact ⟨fun h => ⟨rfl, h⟩, fun h => h.2⟩
theorem zwp_bind {α β : Type} (o : Option α) (f : α → Option β) (Q : β → Prop) : zwp (o.bind f) Q = zwp o (fun r => zwp (f r) Q) := by
  apply propext
  cases o
  · show zwp none Q ↔ _
    rw [zwp_none, zwp_none]
  · show zwp (f _) Q ↔ _
    rw [zwp_some]
theorem zwp_der {α : Type} (t i : Nat) (k : Nat → Option α) (Q : α → Prop) : zwp (zder (some (t, i)) t k) Q = zwp (k i) Q := by
  have e : zder (some (t, i)) t k = k i := by
    show (bif Nat.beq t t then k i else none) = k i
    rw [show Nat.beq t t = true from Nat.beq_refl t]
    rfl
  rw [e]
theorem zwp_eq {α : Type} {o : Option α} {v : α} (h : zwp o (fun r => r = v)) : o = some v := by
  obtain ⟨r, e, rfl⟩ := h
  exact e
theorem zwp_mono {α : Type} {o : Option α} {P Q : α → Prop} (h : zwp o P) (hq : ∀ r, P r → Q r) : zwp o Q := by
  obtain ⟨r, e, hp⟩ := h
  exact ⟨r, e, hq r hp⟩
theorem zwp_zz {α : Type} (x : Int32) (a b : Option α) (Q : α → Prop) : zwp (bif zz x then a else b) Q = ((x = 0 → zwp a Q) ∧ (¬ x = 0 → zwp b Q)) := by
  apply propext
  unfold zz
  by_cases h : x = 0
  · rw [decide_eq_true h]; exact ⟨fun q => ⟨fun _ => q, fun e => absurd h e⟩, fun q => q.1 h⟩
  · rw [decide_eq_false h]; exact ⟨fun q => ⟨fun e => absurd e h, fun _ => q⟩, fun q => q.2 h⟩
theorem zif_zz {α : Type} (x : Int32) (a b : Option α) : (bif zz x then a else b) = zif (x = 0) a b := by
  unfold zz
  by_cases h : x = 0
  · rw [decide_eq_true h, zif_pos h]; rfl
  · rw [decide_eq_false h, zif_neg h]; rfl
theorem zmodI (a b : Int) : a - a / b * b = a % b := by
  rw [Int.emod_def, Int.mul_comm]
theorem zI_n0 : (0 : Int32) = zI 0 := rfl
theorem zI_n1 : (1 : Int32) = zI 1 := rfl
theorem zI_n2 : (2 : Int32) = zI 2 := rfl
theorem zI_n3 : (3 : Int32) = zI 3 := rfl
theorem zI_n4 : (4 : Int32) = zI 4 := rfl
theorem zI_n5 : (5 : Int32) = zI 5 := rfl
theorem zI_n6 : (6 : Int32) = zI 6 := rfl
theorem zI_n7 : (7 : Int32) = zI 7 := rfl
theorem zI_n8 : (8 : Int32) = zI 8 := rfl
theorem zI_n9 : (9 : Int32) = zI 9 := rfl
theorem zI_n10 : (10 : Int32) = zI 10 := rfl
theorem zI_n11 : (11 : Int32) = zI 11 := rfl
theorem zI_n12 : (12 : Int32) = zI 12 := rfl
theorem zI_n13 : (13 : Int32) = zI 13 := rfl
theorem zI_n14 : (14 : Int32) = zI 14 := rfl
theorem zI_n15 : (15 : Int32) = zI 15 := rfl
theorem zI_n16 : (16 : Int32) = zI 16 := rfl
theorem zI_n17 : (17 : Int32) = zI 17 := rfl
theorem zI_n18 : (18 : Int32) = zI 18 := rfl
theorem zI_n19 : (19 : Int32) = zI 19 := rfl
theorem zI_n20 : (20 : Int32) = zI 20 := rfl
theorem zI_n21 : (21 : Int32) = zI 21 := rfl
theorem zI_n22 : (22 : Int32) = zI 22 := rfl
theorem zI_n23 : (23 : Int32) = zI 23 := rfl
theorem zI_n24 : (24 : Int32) = zI 24 := rfl
theorem zI_n25 : (25 : Int32) = zI 25 := rfl
theorem zI_n26 : (26 : Int32) = zI 26 := rfl
theorem zI_n27 : (27 : Int32) = zI 27 := rfl
theorem zI_n28 : (28 : Int32) = zI 28 := rfl
theorem zI_n29 : (29 : Int32) = zI 29 := rfl
theorem zI_n30 : (30 : Int32) = zI 30 := rfl
theorem zI_n31 : (31 : Int32) = zI 31 := rfl
theorem zI_n32 : (32 : Int32) = zI 32 := rfl
theorem zI_n40 : (40 : Int32) = zI 40 := rfl
theorem zI_n41 : (41 : Int32) = zI 41 := rfl
theorem zI_n42 : (42 : Int32) = zI 42 := rfl
theorem zI_n43 : (43 : Int32) = zI 43 := rfl
theorem zI_n45 : (45 : Int32) = zI 45 := rfl
theorem zI_n48 : (48 : Int32) = zI 48 := rfl
theorem zI_n56 : (56 : Int32) = zI 56 := rfl
theorem zI_n57 : (57 : Int32) = zI 57 := rfl
theorem zI_n59 : (59 : Int32) = zI 59 := rfl
theorem zI_n60 : (60 : Int32) = zI 60 := rfl
theorem zI_n61 : (61 : Int32) = zI 61 := rfl
theorem zI_n80 : (80 : Int32) = zI 80 := rfl
theorem zI_n96 : (96 : Int32) = zI 96 := rfl
theorem zI_n97 : (97 : Int32) = zI 97 := rfl
theorem zI_n99 : (99 : Int32) = zI 99 := rfl
theorem zI_n100 : (100 : Int32) = zI 100 := rfl
theorem zI_n115 : (115 : Int32) = zI 115 := rfl
theorem zI_n116 : (116 : Int32) = zI 116 := rfl
theorem zI_n120 : (120 : Int32) = zI 120 := rfl
theorem zI_n122 : (122 : Int32) = zI 122 := rfl
theorem zI_n126 : (126 : Int32) = zI 126 := rfl
theorem zI_n200 : (200 : Int32) = zI 200 := rfl
theorem zI_n232 : (232 : Int32) = zI 232 := rfl
theorem zI_n255 : (255 : Int32) = zI 255 := rfl
theorem zI_n1000 : (1000 : Int32) = zI 1000 := rfl
theorem zI_n3600 : (3600 : Int32) = zI 3600 := rfl
theorem zI_n9999 : (9999 : Int32) = zI 9999 := rfl
theorem zI_n10000 : (10000 : Int32) = zI 10000 := rfl
theorem zI_n20000 : (20000 : Int32) = zI 20000 := rfl
theorem zI_n30000 : (30000 : Int32) = zI 30000 := rfl
theorem zI_n30001 : (30001 : Int32) = zI 30001 := rfl
theorem zI_n30002 : (30002 : Int32) = zI 30002 := rfl
theorem zI_n30003 : (30003 : Int32) = zI 30003 := rfl
theorem zI_n30004 : (30004 : Int32) = zI 30004 := rfl
theorem zI_n30005 : (30005 : Int32) = zI 30005 := rfl
theorem zI_n30006 : (30006 : Int32) = zI 30006 := rfl
theorem zI_n30007 : (30007 : Int32) = zI 30007 := rfl
theorem zI_n86400 : (86400 : Int32) = zI 86400 := rfl
theorem zI_n99999 : (99999 : Int32) = zI 99999 := rfl
theorem zI_n100000 : (100000 : Int32) = zI 100000 := rfl
theorem zI_n999999 : (999999 : Int32) = zI 999999 := rfl
theorem zI_97 : Int32.ofNat 97 = zI 97 := rfl
theorem zNum : (∀ a b : Int, zI a + zI b = zI (a + b)) ∧ (∀ a b : Int, zI a - zI b = zI (a - b)) ∧ (∀ a b : Int, zI a * zI b = zI (a * b)) ∧ (∀ a : Int, -zI a = zI (-a)) ∧ (∀ a b : Int, -2147483648 ≤ a → a < 2147483648 → -2147483648 ≤ b → b < 2147483648 → (zI a < zI b) = (a < b)) ∧ (∀ a b : Int, -2147483648 ≤ a → a < 2147483648 → -2147483648 ≤ b → b < 2147483648 → (zI a ≤ zI b) = (a ≤ b)) ∧ (∀ a b : Int, -2147483648 ≤ a → a < 2147483648 → -2147483648 ≤ b → b < 2147483648 → (zI a = zI b) = (a = b)) ∧ (∀ a b : Int, 0 ≤ a → a < 2147483648 → 0 < b → b < 2147483648 → zI a / zI b = zI (a / b)) ∧ (∀ a : Int, 0 ≤ a → a < 2147483648 → zx (zI a) = a.toNat) ∧ (∀ (a : Int) (n : Nat), -2147483648 ≤ a → a < 2147483648 → (zin (zI a) n = true) = (0 ≤ a ∧ a < (n : Int))) ∧ (∀ P : Prop, (zb P = zI 0) = ¬ P) ∧ (∀ P : Prop, (zb P = zI 1) = P) ∧ (∀ P : Prop, zbl (zb P) = true) ∧ (∀ P : Prop, (zI 0 = zb P) = ¬ P) ∧ (∀ P : Prop, (zI 1 = zb P) = P) ∧ ((0 : Int32) = zI 0) ∧ ((1 : Int32) = zI 1) ∧ ((2 : Int32) = zI 2) ∧ ((3 : Int32) = zI 3) ∧ ((4 : Int32) = zI 4) ∧ ((5 : Int32) = zI 5) ∧ ((6 : Int32) = zI 6) ∧ ((7 : Int32) = zI 7) ∧ ((8 : Int32) = zI 8) ∧ ((9 : Int32) = zI 9) ∧ ((10 : Int32) = zI 10) ∧ ((11 : Int32) = zI 11) ∧ ((12 : Int32) = zI 12) ∧ ((13 : Int32) = zI 13) ∧ ((14 : Int32) = zI 14) ∧ ((15 : Int32) = zI 15) ∧ ((16 : Int32) = zI 16) ∧ ((17 : Int32) = zI 17) ∧ ((18 : Int32) = zI 18) ∧ ((19 : Int32) = zI 19) ∧ ((20 : Int32) = zI 20) ∧ ((21 : Int32) = zI 21) ∧ ((22 : Int32) = zI 22) ∧ ((23 : Int32) = zI 23) ∧ ((24 : Int32) = zI 24) ∧ ((25 : Int32) = zI 25) ∧ ((26 : Int32) = zI 26) ∧ ((27 : Int32) = zI 27) ∧ ((28 : Int32) = zI 28) ∧ ((29 : Int32) = zI 29) ∧ ((30 : Int32) = zI 30) ∧ ((31 : Int32) = zI 31) ∧ ((32 : Int32) = zI 32) ∧ ((40 : Int32) = zI 40) ∧ ((41 : Int32) = zI 41) ∧ ((42 : Int32) = zI 42) ∧ ((43 : Int32) = zI 43) ∧ ((45 : Int32) = zI 45) ∧ ((48 : Int32) = zI 48) ∧ ((56 : Int32) = zI 56) ∧ ((57 : Int32) = zI 57) ∧ ((59 : Int32) = zI 59) ∧ ((60 : Int32) = zI 60) ∧ ((61 : Int32) = zI 61) ∧ ((80 : Int32) = zI 80) ∧ ((96 : Int32) = zI 96) ∧ ((97 : Int32) = zI 97) ∧ ((99 : Int32) = zI 99) ∧ ((100 : Int32) = zI 100) ∧ ((115 : Int32) = zI 115) ∧ ((116 : Int32) = zI 116) ∧ ((120 : Int32) = zI 120) ∧ ((122 : Int32) = zI 122) ∧ ((126 : Int32) = zI 126) ∧ ((200 : Int32) = zI 200) ∧ ((232 : Int32) = zI 232) ∧ ((255 : Int32) = zI 255) ∧ ((1000 : Int32) = zI 1000) ∧ ((3600 : Int32) = zI 3600) ∧ ((9999 : Int32) = zI 9999) ∧ ((10000 : Int32) = zI 10000) ∧ ((20000 : Int32) = zI 20000) ∧ ((30000 : Int32) = zI 30000) ∧ ((30001 : Int32) = zI 30001) ∧ ((30002 : Int32) = zI 30002) ∧ ((30003 : Int32) = zI 30003) ∧ ((30004 : Int32) = zI 30004) ∧ ((30005 : Int32) = zI 30005) ∧ ((30006 : Int32) = zI 30006) ∧ ((30007 : Int32) = zI 30007) ∧ ((86400 : Int32) = zI 86400) ∧ ((99999 : Int32) = zI 99999) ∧ ((100000 : Int32) = zI 100000) ∧ ((999999 : Int32) = zI 999999) ∧ (Int32.ofNat 97 = zI 97) :=
  ⟨zI_add, zI_sub, zI_mul, zI_neg, fun _ _ => zI_lt, fun _ _ => zI_le, fun _ _ => zI_eq, fun _ _ => zI_div, fun _ => zI_zx, fun _ _ => zI_in, zb_0, zb_1, zb_bl, fun P => propext (zI_b0 P), fun P => propext (zI_b1 P), rfl, rfl, rfl, rfl, rfl, rfl, rfl, rfl, rfl, rfl, rfl, rfl, rfl, rfl, rfl, rfl, rfl, rfl, rfl, rfl, rfl, rfl, rfl, rfl, rfl, rfl, rfl, rfl, rfl, rfl, rfl, rfl, rfl, rfl, rfl, rfl, rfl, rfl, rfl, rfl, rfl, rfl, rfl, rfl, rfl, rfl, rfl, rfl, rfl, rfl, rfl, rfl, rfl, rfl, rfl, rfl, rfl, rfl, rfl, rfl, rfl, rfl, rfl, rfl, rfl, rfl, rfl, rfl, rfl, rfl, rfl, rfl, rfl, rfl, rfl⟩
theorem zWp : (∀ {α : Type} (r : α) (Q : α → Prop), zwp (some r) Q = Q r) ∧ (∀ {α : Type} (Q : α → Prop), zwp none Q = False) ∧ (∀ {α : Type} (c : Prop) (a b : Option α) (Q : α → Prop), zwp (zif c a b) Q = ((c → zwp a Q) ∧ (¬ c → zwp b Q))) ∧ (∀ {α : Type} (b : Bool) (k : Option α) (Q : α → Prop), zwp (zg b k) Q = (b = true ∧ zwp k Q)) ∧ (∀ {α β : Type} (o : Option α) (f : α → Option β) (Q : β → Prop), zwp (o.bind f) Q = zwp o (fun r => zwp (f r) Q)) ∧ (∀ {α : Type} (t i : Nat) (k : Nat → Option α) (Q : α → Prop), zwp (zder (some (t, i)) t k) Q = zwp (k i) Q) ∧ (∀ {α : Type} (x : Int32) (a b : Option α) (Q : α → Prop), zwp (bif zz x then a else b) Q = ((x = 0 → zwp a Q) ∧ (¬ x = 0 → zwp b Q))) :=
  ⟨@zwp_some, @zwp_none, @zwp_zif, @zwp_zg, @zwp_bind, @zwp_der, @zwp_zz⟩
