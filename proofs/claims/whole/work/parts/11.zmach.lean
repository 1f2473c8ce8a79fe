/-! The abstract machine: ids of cells are (tag, instance); ints, longs and references by (tag, instance, slot) -/
abbrev ZR : Type := Nat × Nat
abbrev ZV : Type := Int32 ⊕ (Int64 ⊕ Option ZR)
abbrev ZMp (α : Type) : Type := Nat → Nat → Nat → α
/-- ints, longs, references that are no final field's, lines made, cells made, slots made -/
abbrev ZS : Type := ZMp Int32 × ZMp Int64 × ZMp (Option ZR) × Nat × Nat × Nat
abbrev ZL : Type := List (Option ZV)
abbrev ZX : Type := Option ZV × ZS
abbrev ZF : Type := Nat × ZL × List ZV × ZS
abbrev zi (x : Int32) : ZV := .inl x
abbrev zl (x : Int64) : ZV := .inr (.inl x)
abbrev zo (o : Option ZR) : ZV := .inr (.inr o)
abbrev zr (t i : Nat) : ZV := .inr (.inr (some (t, i)))
def zu {α : Type} (f : ZMp α) (t i k : Nat) (v : α) : ZMp α := fun t' i' k' => if t' = t ∧ i' = i ∧ k' = k then v else f t' i' k'
def zin (x : Int32) (n : Nat) : Bool := decide (¬ (x < 0 ∨ n ≤ x.toNatClampNeg))
def zbl (x : Int32) : Bool := decide (x = 0 ∨ x = 1)
abbrev zx (x : Int32) : Nat := x.toNatClampNeg
/-- the length of an array by its tag; the script's stands in the ints -/
def zlen (t i : Nat) (S : ZS) : Nat := bif Nat.beq t 16 then (S.1 16 1 0).toNatClampNeg else bif Nat.beq t 18 then zsl i else zaln t
def zmask : List Bool → ZL → ZL
  | [], l => l
  | _ :: _, [] => []
  | b :: bs, x :: xs => (bif b then x else none) :: zmask bs xs
/-- a truth value is 0 or 1 -/
def zgb {α : Type} (x : Int32) (k : Option α) : Option α := bif zbl x then k else none
/-- a char, a byte -/
def zgc {α : Type} (x : Int32) (k : Option α) : Option α := bif decide ((x.toUInt32 % 65536).toInt32 = x) then k else none
def zgy {α : Type} (x : Int32) (k : Option α) : Option α := bif decide (x.toInt8.toInt32 = x) then k else none
def zunl (o : Option ZV) : Option ZV := match o with
  | some (.inr (.inl _)) => none
  | o => o
def zset : Nat → ZV → ZL → ZL
  | 0, v, _ :: r => some v :: r
  | 1, v, a :: _ :: r => zunl a :: some v :: r
  | n + 2, v, a :: r => a :: zset (n + 1) v r
  | _, _, l => l
def zsetl (n : Nat) (v : ZV) (l : ZL) : ZL := (zset n v l).set (n + 1) none
def zget : Nat → ZL → Option ZV
  | 0, x :: _ => x
  | n + 1, _ :: r => zget n r
  | _, [] => none
/-- a reference that must be of this tag -/
def zder {α : Type} (o : Option ZR) (t : Nat) (k : Nat → Option α) : Option α := match o with
  | some (t', i) => bif Nat.beq t' t then k i else none
  | none => none
abbrev zt (pc : Nat) (o : Int) : Nat := ((pc : Int) + o).toNat
def zpi {α : Type} (st : List ZV) (k : Int32 → List ZV → Option α) : Option α := match st with
  | .inl x :: r => k x r
  | _ => none
def zpl {α : Type} (st : List ZV) (k : Int64 → List ZV → Option α) : Option α := match st with
  | .inr (.inl x) :: r => k x r
  | _ => none
def zpo {α : Type} (st : List ZV) (k : Option ZR → List ZV → Option α) : Option α := match st with
  | .inr (.inr x) :: r => k x r
  | _ => none
/-- a reference that isn't null -/
def zpr {α : Type} (st : List ZV) (k : Nat → Nat → List ZV → Option α) : Option α := match st with
  | .inr (.inr (some (t, i))) :: r => k t i r
  | _ => none
def zli {α : Type} (n : Nat) (ls : ZL) (k : Int32 → Option α) : Option α := match zget n ls with
  | some (.inl x) => k x
  | _ => none
def zll {α : Type} (n : Nat) (ls : ZL) (k : Int64 → Option α) : Option α := match zget n ls with
  | some (.inr (.inl x)) => k x
  | _ => none
def zlo {α : Type} (n : Nat) (ls : ZL) (k : Option ZR → Option α) : Option α := match zget n ls with
  | some (.inr (.inr x)) => k x
  | _ => none
def zob {α β : Type} (o : Option β) (k : β → Option α) : Option α := match o with
  | some x => k x
  | none => none
/-- a cut, or the code -/
def zel {α β : Type} (o : Option β) (k : β → Option α) (n : Option α) : Option α := match o with
  | some x => k x
  | none => n
/-- a branch whose test nobody evaluates -/
noncomputable def zif {α : Type} (c : Prop) (a b : Option α) : Option α := @ite (Option α) c (Classical.propDecidable c) a b
theorem zif_pos {α : Type} {c : Prop} {a b : Option α} (h : c) : zif c a b = a := by unfold zif; exact @if_pos c (Classical.propDecidable c) h (Option α) a b
theorem zif_neg {α : Type} {c : Prop} {a b : Option α} (h : ¬ c) : zif c a b = b := by unfold zif; exact @if_neg c (Classical.propDecidable c) h (Option α) a b
theorem zif_if {α : Type} (c : Prop) [Decidable c] (a b : Option α) : zif c a b = if c then a else b := by
  by_cases h : c
  · rw [zif_pos h, if_pos h]
  · rw [zif_neg h, if_neg h]
noncomputable def zg {α : Type} (b : Bool) (k : Option α) : Option α := zif (b = true) k none
theorem zg_t {α : Type} {b : Bool} {k : Option α} (h : b = true) : zg b k = k := zif_pos h
theorem zg_f {α : Type} {b : Bool} {k : Option α} (h : b = false) : zg b k = none := zif_neg (by rw [h]; exact Bool.false_ne_true)
/-- references that are compared: null, wishes, words -/
def zcmb (o : Option ZR) : Bool := match o with
  | none => true
  | some (t, _) => Nat.beq t 9 || Nat.beq t 12
def zcm {α : Type} (o : Option ZR) (k : Option α) : Option α := bif zcmb o then k else none
def zz (x : Int32) : Bool := decide (x = 0)
def zpop : Nat → List ZV → List ZV → Option (List ZV × List ZV)
  | 0, acc, r => some (acc, r)
  | n + 1, acc, x :: r => zpop n (x :: acc) r
  | _ + 1, _, [] => none
def zoi (r : ZX) : Option (Int32 × ZS) := match r with
  | (some (.inl x), S) => some (x, S)
  | _ => none
def zol (r : ZX) : Option (Int64 × ZS) := match r with
  | (some (.inr (.inl x)), S) => some (x, S)
  | _ => none
def zoo (r : ZX) : Option (Option ZR × ZS) := match r with
  | (some (.inr (.inr x)), S) => some (x, S)
  | _ => none
def zov (r : ZX) : Option ZS := match r with
  | (none, S) => some S
  | _ => none
/-- plain instructions -/
def zop (oc : Nat) (ins : Instr) (ls : ZL) (st : List ZV) (S : ZS) : Option (ZL × List ZV × ZS) := match ins with
  | .iload n => zli n ls (fun x => some (ls, .inl x :: st, S))
  | .iload_n n => zli n.val ls (fun x => some (ls, .inl x :: st, S))
  | .lload n => zll n ls (fun x => some (ls, .inr (.inl x) :: st, S))
  | .lload_n n => zll n.val ls (fun x => some (ls, .inr (.inl x) :: st, S))
  | .aload n => zlo n ls (fun x => some (ls, .inr (.inr x) :: st, S))
  | .aload_n n => zlo n.val ls (fun x => some (ls, .inr (.inr x) :: st, S))
  | .istore n => zpi st (fun x r => some (zset n (.inl x) ls, r, S))
  | .istore_n n => zpi st (fun x r => some (zset n.val (.inl x) ls, r, S))
  | .lstore n => zpl st (fun x r => some (zsetl n (.inr (.inl x)) ls, r, S))
  | .lstore_n n => zpl st (fun x r => some (zsetl n.val (.inr (.inl x)) ls, r, S))
  | .astore n => zpo st (fun x r => some (zset n (.inr (.inr x)) ls, r, S))
  | .astore_n n => zpo st (fun x r => some (zset n.val (.inr (.inr x)) ls, r, S))
  | .iinc n c => zli n ls (fun x => some (zset n (.inl (x + zcst c)) ls, st, S))
  | .iconst n => some (ls, .inl (zcst n) :: st, S)
  | .bipush n => some (ls, .inl (zcst n) :: st, S)
  | .sipush n => some (ls, .inl (zcst n) :: st, S)
  | .lconst n => some (ls, .inr (.inl (Int64.ofNat n.val)) :: st, S)
  | .aconst_null => some (ls, .inr (.inr none) :: st, S)
  | .ldc n => zob (zldc oc n) (fun v => match v with
    | .inl v => some (ls, .inl v :: st, S)
    | .inr i => some (ls, .inr (.inr (some (13, i))) :: st, S))
  | .ldc_w n => zob (zldc oc n) (fun v => match v with
    | .inl v => some (ls, .inl v :: st, S)
    | .inr _ => none)
  | .ldc2_w n => zob (zldl oc n) (fun v => some (ls, .inr (.inl v) :: st, S))
  | .dup => match st with
    | .inl x :: r => some (ls, .inl x :: .inl x :: r, S)
    | .inr (.inr x) :: r => some (ls, .inr (.inr x) :: .inr (.inr x) :: r, S)
    | _ => none
  | .dup2 => zpi st (fun x r => zpr r (fun t i r => some (ls, .inl x :: .inr (.inr (some (t, i))) :: .inl x :: .inr (.inr (some (t, i))) :: r, S)))
  | .pop => match st with
    | .inl _ :: r => some (ls, r, S)
    | .inr (.inr _) :: r => some (ls, r, S)
    | _ => none
  | .iadd => zpi st (fun y r => zpi r (fun x r => some (ls, .inl (x + y) :: r, S)))
  | .isub => zpi st (fun y r => zpi r (fun x r => some (ls, .inl (x - y) :: r, S)))
  | .imul => zpi st (fun y r => zpi r (fun x r => some (ls, .inl (x * y) :: r, S)))
  | .ishr => zpi st (fun y r => zpi r (fun x r => some (ls, .inl (x >>> (y &&& 31)) :: r, S)))
  | .i2b => zpi st (fun x r => some (ls, .inl x.toInt8.toInt32 :: r, S))
  | .iand => zpi st (fun y r => zpi r (fun x r => some (ls, .inl (x &&& y) :: r, S)))
  | .ladd => zpl st (fun y r => zpl r (fun x r => some (ls, .inr (.inl (x + y)) :: r, S)))
  | .lsub => zpl st (fun y r => zpl r (fun x r => some (ls, .inr (.inl (x - y)) :: r, S)))
  | .lmul => zpl st (fun y r => zpl r (fun x r => some (ls, .inr (.inl (x * y)) :: r, S)))
  | .land => zpl st (fun y r => zpl r (fun x r => some (ls, .inr (.inl (x &&& y)) :: r, S)))
  | .lor => zpl st (fun y r => zpl r (fun x r => some (ls, .inr (.inl (x ||| y)) :: r, S)))
  | .lshl => zpi st (fun y r => zpl r (fun x r => some (ls, .inr (.inl (x <<< (y.toInt64 &&& 63))) :: r, S)))
  | .lushr => zpi st (fun y r => zpl r (fun x r => some (ls, .inr (.inl ((x.toUInt64 >>> (y.toInt64.toUInt64 &&& Int64.toUInt64 63)).toInt64)) :: r, S)))
  | .lcmp => zpl st (fun y r => zpl r (fun x r => some (ls, .inl (lg_cmp x y) :: r, S)))
  | .i2l => zpi st (fun x r => some (ls, .inr (.inl x.toInt64) :: r, S))
  | .l2i => zpl st (fun x r => some (ls, .inl x.toInt32 :: r, S))
  | .i2c => zpi st (fun x r => some (ls, .inl (x.toUInt32 % 65536).toInt32 :: r, S))
  | .getstatic n => zel (zstc oc n) (fun v => some (ls, .inl v :: st, S)) (bif zstd oc n then some (ls, .inr (.inr (S.2.2.1 19 0 0)) :: st, S) else zob (zsta oc n) (fun q => some (ls, .inr (.inr (some (q.1, q.2))) :: st, S)))
  | .arraylength => zpr st (fun t i r => bif Nat.beq (zaty t) 9 then none else some (ls, .inl (Int32.ofNat (zlen t i S)) :: r, S))
  | _ => none
/-- a table switch's targets, one behind another -/
noncomputable def zsw {α : Type} (x : Int32) (k : Nat → Option α) (dflt : Nat) : List Nat → Int → Option α
  | [], _ => k dflt
  | t :: ts, lo => zif (x = zcst lo) (k t) (zsw x k dflt ts (lo + 1))
def zci (cl : Nat → List ZV → ZS → Option ZX) (mj : Nat) (args : List ZV) (S : ZS) : Option (Int32 × ZS) := (cl mj args S).bind zoi
def zcl (cl : Nat → List ZV → ZS → Option ZX) (mj : Nat) (args : List ZV) (S : ZS) : Option (Int64 × ZS) := (cl mj args S).bind zol
def zco (cl : Nat → List ZV → ZS → Option ZX) (mj : Nat) (args : List ZV) (S : ZS) : Option (Option ZR × ZS) := (cl mj args S).bind zoo
def zcv (cl : Nat → List ZV → ZS → Option ZX) (mj : Nat) (args : List ZV) (S : ZS) : Option ZS := (cl mj args S).bind zov
def zcal {α : Type} (cl : Nat → List ZV → ZS → Option ZX) (oc n : Nat) (st : List ZV) (S : ZS) (k : List ZV → ZS → Option α) : Option α :=
  zob (zmth oc n) (fun q => zob (zpop q.2.1 [] st) (fun w => bif Nat.ble w.2.length 4 then (match q.2.2 with
        | 0 => (zcv cl q.1 w.1 S).bind (fun S' => k w.2 S')
        | 1 => (zci cl q.1 w.1 S).bind (fun r => k (.inl r.1 :: w.2) r.2)
        | 2 => (zcl cl q.1 w.1 S).bind (fun r => k (.inr (.inl r.1) :: w.2) r.2)
        | _ => (zco cl q.1 w.1 S).bind (fun r => k (.inr (.inr r.1) :: w.2) r.2)) else none))
/-- a line that has just been made -/
def zline (f : ZMp Int32) (j : Nat) (ix home : Int32) : ZMp Int32 := fun t i k =>
  if t = 2 ∧ i = j then (if k = 0 then ix else if k = 1 then home else if k = 10 ∨ k = 11 then -1 else 0)
  else if (t = 29 ∨ t = 30) ∧ i = j then 0 else f t i k
noncomputable def zgo {α : Type} (cl : Nat → List ZV → ZS → Option ZX) (mi oc : Nat) (κ : Nat → ZL → List ZV → ZS → Option α) (ρ : Option ZV → ZS → Option α) : Nat → Bool → Nat → ZL → List ZV → ZS → Option α
  | 0, _, _, _, _, _ => none
  | j + 1, b, pc, ls, st, S =>
    zel (bif b then zcut mi pc else none) (fun ms => κ pc (zmask ms ls) st S) (zob (zcode mi pc) (fun c => match c with
      | (ins, len) => match ins with
        | .goto o => zgo cl mi oc κ ρ j true (zt pc o) ls st S
        | .ifCond c o => zpi st (fun x r => match c with
          | .eq => zif (x = 0) (zgo cl mi oc κ ρ j true (zt pc o) ls r S) (zgo cl mi oc κ ρ j true (pc + len) ls r S)
          | .ne => zif (x = 0) (zgo cl mi oc κ ρ j true (pc + len) ls r S) (zgo cl mi oc κ ρ j true (zt pc o) ls r S)
          | .lt => zif (x < 0) (zgo cl mi oc κ ρ j true (zt pc o) ls r S) (zgo cl mi oc κ ρ j true (pc + len) ls r S)
          | .ge => zif (0 ≤ x) (zgo cl mi oc κ ρ j true (zt pc o) ls r S) (zgo cl mi oc κ ρ j true (pc + len) ls r S)
          | .gt => zif (0 < x) (zgo cl mi oc κ ρ j true (zt pc o) ls r S) (zgo cl mi oc κ ρ j true (pc + len) ls r S)
          | .le => zif (x ≤ 0) (zgo cl mi oc κ ρ j true (zt pc o) ls r S) (zgo cl mi oc κ ρ j true (pc + len) ls r S))
        | .if_icmp c o => zpi st (fun y r => zpi r (fun x r => match c with
          | .eq => zif (x = y) (zgo cl mi oc κ ρ j true (zt pc o) ls r S) (zgo cl mi oc κ ρ j true (pc + len) ls r S)
          | .ne => zif (x = y) (zgo cl mi oc κ ρ j true (pc + len) ls r S) (zgo cl mi oc κ ρ j true (zt pc o) ls r S)
          | .lt => zif (x < y) (zgo cl mi oc κ ρ j true (zt pc o) ls r S) (zgo cl mi oc κ ρ j true (pc + len) ls r S)
          | .ge => zif (y ≤ x) (zgo cl mi oc κ ρ j true (zt pc o) ls r S) (zgo cl mi oc κ ρ j true (pc + len) ls r S)
          | .gt => zif (y < x) (zgo cl mi oc κ ρ j true (zt pc o) ls r S) (zgo cl mi oc κ ρ j true (pc + len) ls r S)
          | .le => zif (x ≤ y) (zgo cl mi oc κ ρ j true (zt pc o) ls r S) (zgo cl mi oc κ ρ j true (pc + len) ls r S)))
        | .if_acmp c o => zpo st (fun y r => zpo r (fun x r => zcm x (zcm y (match c with
          | .eq => zif (x = y) (zgo cl mi oc κ ρ j true (zt pc o) ls r S) (zgo cl mi oc κ ρ j true (pc + len) ls r S)
          | .ne => zif (x = y) (zgo cl mi oc κ ρ j true (pc + len) ls r S) (zgo cl mi oc κ ρ j true (zt pc o) ls r S)))))
        | .ifnonnull o => zpo st (fun x r => zif (x = none) (zgo cl mi oc κ ρ j true (pc + len) ls r S) (zgo cl mi oc κ ρ j true (zt pc o) ls r S))
        | .tableswitch dflt lo _ offs => zpi st (fun x r => zsw x (fun p => zgo cl mi oc κ ρ j true p ls r S) (zt pc dflt) (offs.toList.map (zt pc)) lo)
        | .invokevirtual n => zcal cl oc n st S (fun st' S' => zgo cl mi oc κ ρ j true (pc + len) ls st' S')
        | .invokestatic n => zcal cl oc n st S (fun st' S' => zgo cl mi oc κ ρ j true (pc + len) ls st' S')
        | .invokespecial n => zcal cl oc n st S (fun st' S' => zgo cl mi oc κ ρ j true (pc + len) ls st' S')
        | .ireturn => zpi st (fun x r => bif r.isEmpty then (match zrz mi with | 0 => ρ (some (.inl x)) S | 1 => zgb x (ρ (some (.inl x)) S) | 2 => zgc x (ρ (some (.inl x)) S) | _ => zgy x (ρ (some (.inl x)) S)) else none)
        | .lreturn => zpl st (fun x r => bif r.isEmpty then ρ (some (.inr (.inl x))) S else none)
        | .areturn => zpo st (fun x r => bif r.isEmpty then ρ (some (.inr (.inr x))) S else none)
        | .return_ => bif st.isEmpty then ρ none S else none
        | .new _ => bif znewat mi pc && Nat.ble st.length 3 then zli 1 ls (fun home => zlo 0 ls (fun o => zder o 0 (fun i0 => zgo cl mi oc κ ρ j true (pc + 12) ls (.inr (.inr (some (2, S.2.2.2.1))) :: st) (zline S.1 S.2.2.2.1 (S.1 0 i0 3) home, S.2.1, S.2.2.1, S.2.2.2.1 + 1, S.2.2.2.2.1 + 3, S.2.2.2.2.2 + 114)))) else none
        | .idiv => zpi st (fun y r => zpi r (fun x r => bif zz y then none else zgo cl mi oc κ ρ j true (pc + len) ls (.inl (x / y) :: r) S))
        | .irem => zpi st (fun y r => zpi r (fun x r => bif zz y then none else zgo cl mi oc κ ρ j true (pc + len) ls (.inl (x - x / y * y) :: r) S))
        | .getfield n => zob (zfld oc n) (fun q => zpo st (fun o r => zder o q.1 (fun i => match q.2.2 with
          | 0 => zgo cl mi oc κ ρ j true (pc + len) ls (.inl (S.1 q.1 i q.2.1) :: r) S
          | 1 => zgo cl mi oc κ ρ j true (pc + len) ls (.inr (.inl (S.2.1 q.1 i q.2.1)) :: r) S
          | 2 => zgo cl mi oc κ ρ j true (pc + len) ls (.inr (.inr (zfin q.1 q.2.1 i)) :: r) S
          | 3 => zgo cl mi oc κ ρ j true (pc + len) ls (.inr (.inr (S.2.2.1 q.1 i q.2.1)) :: r) S
          | 4 => zgo cl mi oc κ ρ j true (pc + len) ls (.inl (S.1 q.1 i q.2.1) :: r) S
          | 5 => zgo cl mi oc κ ρ j true (pc + len) ls (.inl (zwv i) :: r) S
          | _ => zgo cl mi oc κ ρ j true (pc + len) ls (.inl 0 :: r) S)))
        | .putfield n => zob (zfld oc n) (fun q => match q.2.2 with
          | 0 => zpi st (fun x r => zpo r (fun o r => zder o q.1 (fun i => zgo cl mi oc κ ρ j true (pc + len) ls r (zu S.1 q.1 i q.2.1 x, S.2))))
          | 1 => zpl st (fun x r => zpo r (fun o r => zder o q.1 (fun i => zgo cl mi oc κ ρ j true (pc + len) ls r (S.1, zu S.2.1 q.1 i q.2.1 x, S.2.2))))
          | 3 => zpo st (fun x r => zpo r (fun o r => zder o q.1 (fun i => zgo cl mi oc κ ρ j true (pc + len) ls r (S.1, S.2.1, zu S.2.2.1 q.1 i q.2.1 x, S.2.2.2))))
          | 4 => zpi st (fun x r => zpo r (fun o r => zder o q.1 (fun i => zg (zbl x) (zgo cl mi oc κ ρ j true (pc + len) ls r (zu S.1 q.1 i q.2.1 x, S.2)))))
          | _ => none)
        | .iaload => zpi st (fun x r => zpr r (fun t i r => bif Nat.beq (zaty t) 0 || Nat.beq (zaty t) 7 then zg (zin x (zlen t i S)) (zgo cl mi oc κ ρ j true (pc + len) ls (.inl (S.1 t i (zx x)) :: r) S) else
          bif Nat.beq (zaty t) 6 then zg (zin x (zlen t i S)) (zgo cl mi oc κ ρ j true (pc + len) ls (.inl (zten (zx x)) :: r) S) else none))
        | .baload => zpi st (fun x r => zpr r (fun t i r => bif Nat.beq (zaty t) 1 then zg (zin x (zlen t i S)) (zgo cl mi oc κ ρ j true (pc + len) ls (.inl (S.1 t i (zx x)) :: r) S) else
          bif Nat.beq (zaty t) 8 then zg (zin x (zlen t i S)) (zgo cl mi oc κ ρ j true (pc + len) ls (.inl (zscw i (zx x)) :: r) S) else none))
        | .caload => zpi st (fun x r => zpr r (fun t i r => bif Nat.beq (zaty t) 2 then zg (zin x (zlen t i S)) (zgo cl mi oc κ ρ j true (pc + len) ls (.inl (S.1 t i (zx x)) :: r) S) else none))
        | .laload => zpi st (fun x r => zpr r (fun t i r => bif Nat.beq (zaty t) 3 then zg (zin x (zlen t i S)) (zgo cl mi oc κ ρ j true (pc + len) ls (.inr (.inl (S.2.1 t i (zx x))) :: r) S) else none))
        | .aaload => zpi st (fun x r => zpr r (fun t i r => bif Nat.beq (zaty t) 4 then zg (zin x (zlen t i S)) (zgo cl mi oc κ ρ j true (pc + len) ls (.inr (.inr (S.2.2.1 t i (zx x))) :: r) S) else
          bif Nat.beq (zaty t) 5 then zg (zin x (zlen t i S)) (zgo cl mi oc κ ρ j true (pc + len) ls (.inr (.inr (some (12, zx x))) :: r) S) else none))
        | .iastore => zpi st (fun v r => zpi r (fun x r => zpr r (fun t i r => bif Nat.beq (zaty t) 0 then zg (zin x (zlen t i S)) (zgo cl mi oc κ ρ j true (pc + len) ls r (zu S.1 t i (zx x) v, S.2)) else none)))
        | .bastore => zpi st (fun v r => zpi r (fun x r => zpr r (fun t i r => bif Nat.beq (zaty t) 1 then zg (zin x (zlen t i S)) (zg (zbl v) (zgo cl mi oc κ ρ j true (pc + len) ls r (zu S.1 t i (zx x) v, S.2))) else none)))
        | .castore => zpi st (fun v r => zpi r (fun x r => zpr r (fun t i r => bif Nat.beq (zaty t) 2 then zg (zin x (zlen t i S)) (zgo cl mi oc κ ρ j true (pc + len) ls r (zu S.1 t i (zx x) (v.toUInt32 % 65536).toInt32, S.2)) else none)))
        | .lastore => zpl st (fun v r => zpi r (fun x r => zpr r (fun t i r => bif Nat.beq (zaty t) 3 then zg (zin x (zlen t i S)) (zgo cl mi oc κ ρ j true (pc + len) ls r (S.1, zu S.2.1 t i (zx x) v, S.2.2)) else none)))
        | .aastore => zpo st (fun v r => zpi r (fun x r => zpr r (fun t i r => bif Nat.beq (zaty t) 4 then zg (zin x (zlen t i S)) (zder v 2 (fun _ => zgo cl mi oc κ ρ j true (pc + len) ls r (S.1, S.2.1, zu S.2.2.1 t i (zx x) v, S.2.2.2))) else none)))
        | ins => zob (zop oc ins ls st S) (fun q => zgo cl mi oc κ ρ j true (pc + len) q.1 q.2.1 q.2.2)))
def zarg : List ZV → ZL
  | [] => []
  | .inr (.inl x) :: r => some (.inr (.inl x)) :: none :: zarg r
  | .inl x :: r => some (.inl x) :: zarg r
  | .inr (.inr x) :: r => some (.inr (.inr x)) :: zarg r
def zpad (n : Nat) (l : ZL) : ZL := l ++ List.replicate (n - l.length) none
def zrcv (t : Option Nat) (args : List ZV) : Bool := match t with
  | none => true
  | some t => match args with
    | .inr (.inr (some (t', _))) :: _ => Nat.beq t' t
    | _ => false
def zfill (f : ZMp Int32) (t i n : Nat) (v : Int32) : ZMp Int32 := fun t' i' k' => if t' = t ∧ i' = i ∧ k' < n then v else f t' i' k'
def zcpy (f : ZMp Int32) (t i sp t2 i2 dp n : Nat) : ZMp Int32 := fun t' i' k' => if t' = t2 ∧ i' = i2 ∧ dp ≤ k' ∧ k' < dp + n then f t i (sp + (k' - dp)) else f t' i' k'
/-- methods that are no code of the machine: the JDK's, a line's constructor, the law's own look -/
noncomputable def zprim (cl : Nat → List ZV → ZS → Option ZX) (mj : Nat) (args : List ZV) (S : ZS) : Option ZX :=
  bif Nat.beq mj 1000 then (match args with
    | [.inl x, .inl y] => some (some (.inl (if x < y then y else x)), S)
    | _ => none) else
  bif Nat.beq mj 1001 then (match args with
    | [.inl x, .inl y] => some (some (.inl (if y < x then y else x)), S)
    | _ => none) else
  bif Nat.beq mj 1002 then (match args with
    | [.inr (.inr (some (t, i))), .inl v] => bif Nat.beq (zaty t) 0 then some (none, (zfill S.1 t i (zaln t) v, S.2)) else none
    | _ => none) else
  bif Nat.beq mj 1003 then (match args with
    | [.inr (.inr (some (t, i))), .inl sp, .inr (.inr (some (t2, i2))), .inl dp, .inl n] =>
      bif Nat.beq (zaty t) 0 && Nat.beq (zaty t2) 0 then zg (decide (¬ (t = t2 ∧ i = i2) ∧ 0 ≤ sp ∧ 0 ≤ dp ∧ 0 ≤ n ∧ zx sp + zx n ≤ zaln t ∧ zx dp + zx n ≤ zaln t2)) (some (none, (zcpy S.1 t i (zx sp) t2 i2 (zx dp) (zx n), S.2))) else none
    | _ => none) else
  bif Nat.beq mj 1008 then (match args with
    | [.inr (.inr (some (10, 0))), .inl a, .inl b, .inr (.inr (some (17, 0)))] =>
      if 0 ≤ a ∧ a < S.1 0 0 3 ∧ 0 ≤ b ∧ b ≤ 5 then (zci cl zlook [zr 10 0, zi a, zi b] S).bind (fun r => some (some (.inl 0), (r.2.1, zu r.2.2.1 17 0 0 r.1.toInt64, r.2.2.2)))
      else some (some (.inl 1), (S.1, S.2.1, S.2.2.1, S.2.2.2.1, S.2.2.2.2.1 + 1, S.2.2.2.2.2 + 8))
    | _ => none) else none
/-! a step again and again, as long as it comes to an end -/
def zlim {β γ : Type} (P : β → Option (β ⊕ γ)) : Nat → β → Option γ
  | 0, _ => none
  | n + 1, b => (P b).bind (fun r => match r with
    | .inl b' => zlim P n b'
    | .inr c => some c)
theorem zlim_succ {β γ : Type} (P : β → Option (β ⊕ γ)) : ∀ (n : Nat) (b : β) (c : γ), zlim P n b = some c → zlim P (n + 1) b = some c
  | 0, b, c, h => by simp [zlim] at h
  | n + 1, b, c, h => by
    rw [zlim] at h ⊢
    cases hP : P b with
    | none => rw [hP] at h; simp at h
    | some r =>
      rw [hP] at h
      cases r with
      | inl b' => exact zlim_succ P n b' c h
      | inr c' => exact h
theorem zlim_mono {β γ : Type} (P : β → Option (β ⊕ γ)) {n m : Nat} (hnm : n ≤ m) {b : β} {c : γ} (h : zlim P n b = some c) : zlim P m b = some c := by
  induction hnm with
  | refl => exact h
  | step _ ih => exact zlim_succ P _ b c ih
noncomputable def zfix {β γ : Type} (P : β → Option (β ⊕ γ)) (b : β) : Option γ :=
  Classical.epsilon (fun o : Option γ => (∀ c, o = some c ↔ ∃ n, zlim P n b = some c))
theorem zfix_spec {β γ : Type} (P : β → Option (β ⊕ γ)) (b : β) (c : γ) : zfix P b = some c ↔ ∃ n, zlim P n b = some c := by
  have hex : ∃ o : Option γ, ∀ c, o = some c ↔ ∃ n, zlim P n b = some c := by
    by_cases h : ∃ c n, zlim P n b = some c
    · obtain ⟨c0, n0, h0⟩ := h
      refine ⟨some c0, fun c => ⟨fun e => ?_, fun ⟨n, hn⟩ => ?_⟩⟩
      · cases e; exact ⟨n0, h0⟩
      · have h1 := zlim_mono P (Nat.le_max_left n n0) hn
        have h2 := zlim_mono P (Nat.le_max_right n n0) h0
        rw [h1] at h2; exact h2.symm
    · refine ⟨none, fun c => ⟨fun e => (by cases e), fun ⟨n, hn⟩ => absurd ⟨c, n, hn⟩ h⟩⟩
  exact Classical.epsilon_spec (p := fun o : Option γ => (∀ c, o = some c ↔ ∃ n, zlim P n b = some c)) hex c
theorem zfix_eq {β γ : Type} (P : β → Option (β ⊕ γ)) (b : β) : zfix P b = (P b).bind (fun r => match r with
    | .inl b' => zfix P b'
    | .inr c => some c) := by
  have key : ∀ c, zfix P b = some c ↔ (P b).bind (fun r => match r with
    | .inl b' => zfix P b'
    | .inr c => some c) = some c := by
    intro c
    rw [zfix_spec]
    constructor
    · rintro ⟨n, hn⟩
      cases n with
      | zero => simp [zlim] at hn
      | succ n =>
        rw [zlim] at hn
        cases hP : P b with
        | none => rw [hP] at hn; simp at hn
        | some r =>
          rw [hP] at hn
          cases r with
          | inl b' => exact (zfix_spec P b' c).mpr ⟨n, hn⟩
          | inr c' => exact hn
    · intro h
      cases hP : P b with
      | none => rw [hP] at h; simp at h
      | some r =>
        rw [hP] at h
        cases r with
        | inl b' =>
          obtain ⟨n, hn⟩ := (zfix_spec P b' c).mp h
          exact ⟨n + 1, by rw [zlim, hP]; exact hn⟩
        | inr c' => exact ⟨1, by rw [zlim, hP]; exact h⟩
  cases h1 : zfix P b with
  | some c => exact ((key c).mp h1).symm
  | none =>
    cases h2 : (P b).bind (fun r => match r with
    | .inl b' => zfix P b'
    | .inr c => some c) with
    | none => rfl
    | some c => rw [(key c).mpr h2] at h1; cases h1

/-! the run of a method: between cuts, again and again -/
noncomputable def zP (cl : Nat → List ZV → ZS → Option ZX) (mi oc : Nat) (f : ZF) : Option (ZF ⊕ ZX) := zgo cl mi oc (fun pc ls st S => some (.inl (pc, ls, st, S))) (fun v S => some (.inr (v, S))) 3000 false f.1 f.2.1 f.2.2.1 f.2.2.2
noncomputable def zrun (cl : Nat → List ZV → ZS → Option ZX) (mi oc pc : Nat) (ls : ZL) (st : List ZV) (S : ZS) : Option ZX := zfix (zP cl mi oc) (pc, ls, st, S)
noncomputable def zcall : Nat → Nat → List ZV → ZS → Option ZX
  | 0, _, _, _ => none
  | d + 1, mj, args, S => bif Nat.ble 1000 mj then zprim (zcall d) mj args S else bif zrcv (zsg mj) args && Nat.ble (zarg args).length (zmx mj) then zrun (zcall d) mj (zoc mj) 0 (zpad (zmx mj) (zarg args)) [] S else none
noncomputable def zri (d mi oc pc : Nat) (ls : ZL) (st : List ZV) (S : ZS) : Option (Int32 × ZS) := (zrun (zcall d) mi oc pc ls st S).bind zoi
noncomputable def zrl (d mi oc pc : Nat) (ls : ZL) (st : List ZV) (S : ZS) : Option (Int64 × ZS) := (zrun (zcall d) mi oc pc ls st S).bind zol
noncomputable def zro (d mi oc pc : Nat) (ls : ZL) (st : List ZV) (S : ZS) : Option (Option ZR × ZS) := (zrun (zcall d) mi oc pc ls st S).bind zoo
noncomputable def zrv (d mi oc pc : Nat) (ls : ZL) (st : List ZV) (S : ZS) : Option ZS := (zrun (zcall d) mi oc pc ls st S).bind zov
section NAT
variable {α β : Type} (g : α → Option β)
theorem zpi_b (st : List ZV) (k : Int32 → List ZV → Option α) : (zpi st k).bind g = zpi st (fun x r => (k x r).bind g) := by unfold zpi; split <;> rfl
theorem zpl_b (st : List ZV) (k : Int64 → List ZV → Option α) : (zpl st k).bind g = zpl st (fun x r => (k x r).bind g) := by unfold zpl; split <;> rfl
theorem zpo_b (st : List ZV) (k : Option ZR → List ZV → Option α) : (zpo st k).bind g = zpo st (fun x r => (k x r).bind g) := by unfold zpo; split <;> rfl
theorem zpr_b (st : List ZV) (k : Nat → Nat → List ZV → Option α) : (zpr st k).bind g = zpr st (fun x i r => (k x i r).bind g) := by unfold zpr; split <;> rfl
theorem zli_b (n : Nat) (ls : ZL) (k : Int32 → Option α) : (zli n ls k).bind g = zli n ls (fun x => (k x).bind g) := by unfold zli; split <;> rfl
theorem zlo_b (n : Nat) (ls : ZL) (k : Option ZR → Option α) : (zlo n ls k).bind g = zlo n ls (fun x => (k x).bind g) := by unfold zlo; split <;> rfl
theorem zob_b {γ : Type} (o : Option γ) (k : γ → Option α) : (zob o k).bind g = zob o (fun x => (k x).bind g) := by unfold zob; split <;> rfl
theorem zel_b {γ : Type} (o : Option γ) (k : γ → Option α) (n : Option α) : (zel o k n).bind g = zel o (fun x => (k x).bind g) (n.bind g) := by unfold zel; split <;> rfl
theorem zder_b (o : Option ZR) (t : Nat) (k : Nat → Option α) : (zder o t k).bind g = zder o t (fun i => (k i).bind g) := by
  unfold zder
  split
  · rename_i t' i
    cases Nat.beq t' t <;> rfl
  · rfl
theorem zg_b (b : Bool) (k : Option α) : (zg b k).bind g = zg b (k.bind g) := by
  cases b
  · rw [zg_f rfl, zg_f rfl]; rfl
  · rw [zg_t rfl, zg_t rfl]
theorem zgb_b (x : Int32) (k : Option α) : (zgb x k).bind g = zgb x (k.bind g) := by
  unfold zgb
  cases zbl x <;> rfl
theorem zgc_b (x : Int32) (k : Option α) : (zgc x k).bind g = zgc x (k.bind g) := by
  unfold zgc
  generalize decide ((x.toUInt32 % 65536).toInt32 = x) = b
  cases b <;> rfl
theorem zgy_b (x : Int32) (k : Option α) : (zgy x k).bind g = zgy x (k.bind g) := by
  unfold zgy
  generalize decide (x.toInt8.toInt32 = x) = b
  cases b <;> rfl
theorem zcm_b (o : Option ZR) (k : Option α) : (zcm o k).bind g = zcm o (k.bind g) := by
  unfold zcm
  cases zcmb o <;> rfl
theorem zif_b (c : Prop) [Decidable c] (a b : Option α) : (if c then a else b).bind g = if c then a.bind g else b.bind g := by split <;> rfl
theorem zif_c (c : Prop) (a b : Option α) : (zif c a b).bind g = zif c (a.bind g) (b.bind g) := by
  by_cases h : c
  · rw [zif_pos h, zif_pos h]
  · rw [zif_neg h, zif_neg h]
theorem zcd_b (c : Bool) (a b : Option α) : (bif c then a else b).bind g = bif c then a.bind g else b.bind g := by cases c <;> rfl
theorem zsw_b (x : Int32) (k : Nat → Option α) (df : Nat) : ∀ (ts : List Nat) (lo : Int), (zsw x k df ts lo).bind g = zsw x (fun p => (k p).bind g) df ts lo
  | [], _ => rfl
  | t :: ts, lo => by
    simp only [zsw]
    rw [zif_c, zsw_b x k df ts]
theorem zbb {γ : Type} (o : Option γ) (k : γ → Option α) : (o.bind k).bind g = o.bind (fun x => (k x).bind g) := by cases o <;> rfl
theorem zcal_b (cl : Nat → List ZV → ZS → Option ZX) (oc n : Nat) (st : List ZV) (S : ZS) (k : List ZV → ZS → Option α) : (zcal cl oc n st S k).bind g = zcal cl oc n st S (fun st' S' => (k st' S').bind g) := by
  unfold zcal
  rw [zob_b]
  congr 1; funext q
  rw [zob_b]
  congr 1; funext w
  rw [zcd_b]
  congr 1
  split <;> rw [zbb]
end NAT
set_option maxRecDepth 100000 in
set_option maxHeartbeats 4000000 in
theorem zgo_b {α β : Type} (g : α → Option β) (cl : Nat → List ZV → ZS → Option ZX) (mi oc : Nat) (κ : Nat → ZL → List ZV → ZS → Option α) (ρ : Option ZV → ZS → Option α) : ∀ (j : Nat) (b : Bool) (pc : Nat) (ls : ZL) (st : List ZV) (S : ZS),
    (zgo cl mi oc κ ρ j b pc ls st S).bind g = zgo cl mi oc (fun pc ls st S => (κ pc ls st S).bind g) (fun v S => (ρ v S).bind g) j b pc ls st S
  | 0, _, _, _, _, _ => rfl
  | j + 1, b, pc, ls, st, S => by
    have ih := zgo_b g cl mi oc κ ρ j
    unfold zgo
    rw [zel_b, zob_b]
    congr 2; funext c
    obtain ⟨ins, len⟩ := c
    cases ins
    case ifCond c o => cases c <;> simp only [zpi_b, zif_c, ih]
    case if_icmp c o => cases c <;> simp only [zpi_b, zif_c, ih]
    case if_acmp c o => cases c <;> simp only [zpo_b, zcm_b, zif_c, ih]
    case getfield n =>
      simp only [zob_b, zpo_b, zder_b]
      congr 1; funext q; congr 1; funext o r; congr 1; funext i
      split <;> exact ih _ _ _ _ _
    case putfield n =>
      simp only [zob_b]
      congr 1; funext q
      split <;> simp only [zpi_b, zpl_b, zpo_b, zder_b, zg_b, ih, Option.bind_none]
    case ireturn =>
      simp only [zpi_b, zcd_b, Option.bind_none]
      congr 1; funext x r; congr 1
      split <;> simp only [zgb_b, zgc_b, zgy_b]
    case new n => simp only [zcd_b, zli_b, zlo_b, zder_b, ih, Option.bind_none]
    all_goals simp only [zgb_b, zpi_b, zpl_b, zpo_b, zpr_b, zob_b, zder_b, zg_b, zif_c, zcd_b, zsw_b, zcal_b, ih, Option.bind_none]
theorem zrun_eq (cl : Nat → List ZV → ZS → Option ZX) (mi oc pc : Nat) (ls : ZL) (st : List ZV) (S : ZS) : zrun cl mi oc pc ls st S = zgo cl mi oc (zrun cl mi oc) (fun v S => some (v, S)) 3000 false pc ls st S := by
  unfold zrun
  rw [zfix_eq]
  unfold zP
  rw [zgo_b]
  rfl
theorem zeqi (d mi oc pc : Nat) (ls : ZL) (st : List ZV) (S : ZS) : zri d mi oc pc ls st S = zgo (zcall d) mi oc (zri d mi oc) (fun v S => zoi (v, S)) 3000 false pc ls st S := by
  unfold zri
  rw [zrun_eq, zgo_b]
  rfl
theorem zeql (d mi oc pc : Nat) (ls : ZL) (st : List ZV) (S : ZS) : zrl d mi oc pc ls st S = zgo (zcall d) mi oc (zrl d mi oc) (fun v S => zol (v, S)) 3000 false pc ls st S := by
  unfold zrl
  rw [zrun_eq, zgo_b]
  rfl
theorem zeqo (d mi oc pc : Nat) (ls : ZL) (st : List ZV) (S : ZS) : zro d mi oc pc ls st S = zgo (zcall d) mi oc (zro d mi oc) (fun v S => zoo (v, S)) 3000 false pc ls st S := by
  unfold zro
  rw [zrun_eq, zgo_b]
  rfl
theorem zeqv (d mi oc pc : Nat) (ls : ZL) (st : List ZV) (S : ZS) : zrv d mi oc pc ls st S = zgo (zcall d) mi oc (zrv d mi oc) (fun v S => zov (v, S)) 3000 false pc ls st S := by
  unfold zrv
  rw [zrun_eq, zgo_b]
  rfl
