/-! MONOTONY of the counters, and that plain instructions leave the state as it is -/
abbrev zkc (S : ZS) : Nat := S.2.2.2.2.1
abbrev zks (S : ZS) : Nat := S.2.2.2.2.2
def zle (S S' : ZS) : Prop := S.2.2.2.1 ≤ S'.2.2.2.1 ∧ zkc S ≤ zkc S' ∧ zks S ≤ zks S'
theorem zle.rf (S : ZS) : zle S S := ⟨Nat.le_refl _, Nat.le_refl _, Nat.le_refl _⟩
theorem zle.tr {S S1 S2 : ZS} (h : zle S S1) (h2 : zle S1 S2) : zle S S2 := ⟨Nat.le_trans h.1 h2.1, Nat.le_trans h.2.1 h2.2.1, Nat.le_trans h.2.2 h2.2.2⟩
set_option maxHeartbeats 1000000 in
theorem zop_S {oc : Nat} {ins : Instr} {ls : ZL} {st : List ZV} {S : ZS} {q : ZL × List ZV × ZS} (h : zop oc ins ls st S = some q) : q.2.2 = S := by
  unfold zop at h
  cases ins
  case iload => obtain ⟨_, _, h⟩ := zli_inv h; cases h; rfl
  case iload_n => obtain ⟨_, _, h⟩ := zli_inv h; cases h; rfl
  case lload => obtain ⟨_, _, h⟩ := zll_inv h; cases h; rfl
  case lload_n => obtain ⟨_, _, h⟩ := zll_inv h; cases h; rfl
  case aload => obtain ⟨_, _, h⟩ := zlo_inv h; cases h; rfl
  case aload_n => obtain ⟨_, _, h⟩ := zlo_inv h; cases h; rfl
  case istore => obtain ⟨_, _, _, h⟩ := zpi_inv h; cases h; rfl
  case istore_n => obtain ⟨_, _, _, h⟩ := zpi_inv h; cases h; rfl
  case lstore => obtain ⟨_, _, _, h⟩ := zpl_inv h; cases h; rfl
  case lstore_n => obtain ⟨_, _, _, h⟩ := zpl_inv h; cases h; rfl
  case astore => obtain ⟨_, _, _, h⟩ := zpo_inv h; cases h; rfl
  case astore_n => obtain ⟨_, _, _, h⟩ := zpo_inv h; cases h; rfl
  case iinc => obtain ⟨_, _, h⟩ := zli_inv h; cases h; rfl
  case iconst => cases h; rfl
  case bipush => cases h; rfl
  case sipush => cases h; rfl
  case lconst => cases h; rfl
  case aconst_null => cases h; rfl
  case ldc => obtain ⟨v, _, h⟩ := zob_inv h; cases v <;> cases h <;> rfl
  case ldc_w => obtain ⟨v, _, h⟩ := zob_inv h; cases v <;> cases h <;> rfl
  case ldc2_w => obtain ⟨v, _, h⟩ := zob_inv h; cases h; rfl
  case dup => rcases st with _ | ⟨v, t⟩ <;> first | cases h | (rcases v with x | x | x <;> cases h <;> rfl)
  case dup2 => obtain ⟨_, _, _, h⟩ := zpi_inv h; obtain ⟨_, _, _, _, h⟩ := zpr_inv h; cases h; rfl
  case pop => rcases st with _ | ⟨v, t⟩ <;> first | cases h | (rcases v with x | x | x <;> cases h <;> rfl)
  case getstatic n =>
    rcases zel_inv h with ⟨v, _, h⟩ | ⟨_, h⟩
    · cases h; rfl
    · cases hb : zstd oc n with
      | true => rw [hb] at h; cases h; rfl
      | false => rw [hb] at h; obtain ⟨v, _, h⟩ := zob_inv h; cases h; rfl
  case arraylength => obtain ⟨_, _, _, _, h⟩ := zpr_inv h; obtain ⟨_, h⟩ := zcd_f h; cases h; rfl
  case iadd => obtain ⟨_, _, _, h⟩ := zpi_inv h; obtain ⟨_, _, _, h⟩ := zpi_inv h; cases h; rfl
  case isub => obtain ⟨_, _, _, h⟩ := zpi_inv h; obtain ⟨_, _, _, h⟩ := zpi_inv h; cases h; rfl
  case imul => obtain ⟨_, _, _, h⟩ := zpi_inv h; obtain ⟨_, _, _, h⟩ := zpi_inv h; cases h; rfl
  case iand => obtain ⟨_, _, _, h⟩ := zpi_inv h; obtain ⟨_, _, _, h⟩ := zpi_inv h; cases h; rfl
  case ladd => obtain ⟨_, _, _, h⟩ := zpl_inv h; obtain ⟨_, _, _, h⟩ := zpl_inv h; cases h; rfl
  case lsub => obtain ⟨_, _, _, h⟩ := zpl_inv h; obtain ⟨_, _, _, h⟩ := zpl_inv h; cases h; rfl
  case lmul => obtain ⟨_, _, _, h⟩ := zpl_inv h; obtain ⟨_, _, _, h⟩ := zpl_inv h; cases h; rfl
  case land => obtain ⟨_, _, _, h⟩ := zpl_inv h; obtain ⟨_, _, _, h⟩ := zpl_inv h; cases h; rfl
  case lor => obtain ⟨_, _, _, h⟩ := zpl_inv h; obtain ⟨_, _, _, h⟩ := zpl_inv h; cases h; rfl
  case lcmp => obtain ⟨_, _, _, h⟩ := zpl_inv h; obtain ⟨_, _, _, h⟩ := zpl_inv h; cases h; rfl
  case lshl => obtain ⟨_, _, _, h⟩ := zpi_inv h; obtain ⟨_, _, _, h⟩ := zpl_inv h; cases h; rfl
  case lushr => obtain ⟨_, _, _, h⟩ := zpi_inv h; obtain ⟨_, _, _, h⟩ := zpl_inv h; cases h; rfl
  case ishr => obtain ⟨_, _, _, h⟩ := zpi_inv h; obtain ⟨_, _, _, h⟩ := zpi_inv h; cases h; rfl
  case i2b => obtain ⟨_, _, _, h⟩ := zpi_inv h; cases h; rfl
  case i2l => obtain ⟨_, _, _, h⟩ := zpi_inv h; cases h; rfl
  case l2i => obtain ⟨_, _, _, h⟩ := zpl_inv h; cases h; rfl
  case i2c => obtain ⟨_, _, _, h⟩ := zpi_inv h; cases h; rfl
  all_goals cases h
theorem zgc_inv {α : Type} {x : Int32} {k : Option α} {r : α} (h : zgc x k = some r) : (x.toUInt32 % 65536).toInt32 = x ∧ k = some r := by
  unfold zgc at h
  obtain ⟨h1, h2⟩ := zcd_t h
  exact ⟨of_decide_eq_true h1, h2⟩
theorem zgy_inv {α : Type} {x : Int32} {k : Option α} {r : α} (h : zgy x k = some r) : x.toInt8.toInt32 = x ∧ k = some r := by
  unfold zgy at h
  obtain ⟨h1, h2⟩ := zcd_t h
  exact ⟨of_decide_eq_true h1, h2⟩
theorem zbind_inv {α β : Type} {o : Option α} {k : α → Option β} {r : β} (h : o.bind k = some r) : ∃ x, o = some x ∧ k x = some r := by
  cases o with
  | none => cases h
  | some x => exact ⟨x, rfl, h⟩
/-- a call: what was called, with what, what came back, what goes on -/
theorem zcal_inv {α : Type} {cl : Nat → List ZV → ZS → Option ZX} {oc n : Nat} {st : List ZV} {S : ZS} {k : List ZV → ZS → Option α} {r : α} (h : zcal cl oc n st S k = some r) :
    ∃ (q : Nat × Nat × Nat) (w : List ZV × List ZV) (v : Option ZV) (S' : ZS), zmth oc n = some q ∧ zpop q.2.1 [] st = some w ∧ w.2.length ≤ 4 ∧ cl q.1 w.1 S = some (v, S') ∧ k (v.toList ++ w.2) S' = some r ∧
      (q.2.2 = 0 → v = none) ∧ (q.2.2 = 1 → ∃ x, v = some (.inl x)) ∧ (q.2.2 = 2 → ∃ x, v = some (.inr (.inl x))) ∧ (q.2.2 ≠ 0 → q.2.2 ≠ 1 → q.2.2 ≠ 2 → ∃ x, v = some (.inr (.inr x))) := by
  unfold zcal at h
  obtain ⟨q, hq, h⟩ := zob_inv h
  obtain ⟨w, hw, h⟩ := zob_inv h
  obtain ⟨hb, h⟩ := zcd_t h
  have hb := Nat.ble_eq.mp hb
  obtain ⟨mj, na, rk⟩ := q
  dsimp only at h hw ⊢
  split at h
  · obtain ⟨S', hS', h⟩ := zbind_inv h
    unfold zcv at hS'
    obtain ⟨⟨v, S1⟩, h1, h2⟩ := zbind_inv hS'
    unfold zov at h2
    split at h2
    · rename_i S2 e
      cases h2
      cases e
      exact ⟨_, w, none, S', hq, hw, hb, h1, h, fun _ => rfl, fun e => (by cases e), fun e => (by cases e), fun e => absurd rfl e⟩
    · cases h2
  · obtain ⟨⟨x, S'⟩, hS', h⟩ := zbind_inv h
    unfold zci at hS'
    obtain ⟨⟨v, S1⟩, h1, h2⟩ := zbind_inv hS'
    unfold zoi at h2
    split at h2
    · rename_i x2 S2 e
      cases h2
      cases e
      exact ⟨_, w, some (.inl x), S', hq, hw, hb, h1, h, fun e => (by cases e), fun _ => ⟨_, rfl⟩, fun e => (by cases e), fun _ e => absurd rfl e⟩
    · cases h2
  · obtain ⟨⟨x, S'⟩, hS', h⟩ := zbind_inv h
    unfold zcl at hS'
    obtain ⟨⟨v, S1⟩, h1, h2⟩ := zbind_inv hS'
    unfold zol at h2
    split at h2
    · rename_i x2 S2 e
      cases h2
      cases e
      exact ⟨_, w, some (.inr (.inl x)), S', hq, hw, hb, h1, h, fun e => (by cases e), fun e => (by cases e), fun _ => ⟨_, rfl⟩, fun _ _ e => absurd rfl e⟩
    · cases h2
  · rename_i n0 n1 n2
    obtain ⟨⟨x, S'⟩, hS', h⟩ := zbind_inv h
    unfold zco at hS'
    obtain ⟨⟨v, S1⟩, h1, h2⟩ := zbind_inv hS'
    unfold zoo at h2
    split at h2
    · rename_i x2 S2 e
      cases h2
      cases e
      exact ⟨_, w, some (.inr (.inr x)), S', hq, hw, hb, h1, h, fun e => absurd e n0, fun e => absurd e n1, fun e => absurd e n2, fun _ _ _ => ⟨_, rfl⟩⟩
    · cases h2
theorem zsw_inv {α : Type} {x : Int32} {k : Nat → Option α} {df : Nat} {r : α} : ∀ {ts : List Nat} {lo : Int}, zsw x k df ts lo = some r → ∃ p, k p = some r
  | [], _, h => ⟨df, h⟩
  | t :: ts, lo, h => by
    unfold zsw at h
    rcases zif_inv h with ⟨-, h⟩ | ⟨-, h⟩
    · exact ⟨t, h⟩
    · exact zsw_inv h
def zGl {α : Type} (κ : Nat → ZL → List ZV → ZS → Option α) (ρ : Option ZV → ZS → Option α) (r : α) (S : ZS) : Prop :=
  (∃ (pc : Nat) (ls : ZL) (st : List ZV) (S' : ZS), κ pc ls st S' = some r ∧ zle S S') ∨ (∃ (v : Option ZV) (S' : ZS), ρ v S' = some r ∧ zle S S')
theorem zGl.up {α : Type} {κ : Nat → ZL → List ZV → ZS → Option α} {ρ : Option ZV → ZS → Option α} {r : α} {S S1 : ZS} (hle : zle S S1) (h : zGl κ ρ r S1) : zGl κ ρ r S := by
  rcases h with ⟨a, b, c, d, h1, h2⟩ | ⟨a, d, h1, h2⟩
  · exact Or.inl ⟨a, b, c, d, h1, hle.tr h2⟩
  · exact Or.inr ⟨a, d, h1, hle.tr h2⟩
set_option maxHeartbeats 4000000 in
set_option maxRecDepth 100000 in
theorem zgo_mono {α : Type} (cl : Nat → List ZV → ZS → Option ZX) (hcl : ∀ mj a S v S', cl mj a S = some (v, S') → zle S S') (mi oc : Nat) (κ : Nat → ZL → List ZV → ZS → Option α) (ρ : Option ZV → ZS → Option α) (r : α) :
    ∀ (j : Nat) (b : Bool) (pc : Nat) (ls : ZL) (st : List ZV) (S : ZS), zgo cl mi oc κ ρ j b pc ls st S = some r → zGl κ ρ r S
  | 0, _, _, _, _, _, h => by unfold zgo at h; cases h
  | j + 1, b, pc, ls, st, S, h => by
    have ih := zgo_mono cl hcl mi oc κ ρ r j
    unfold zgo at h
    unfold zel at h
    split at h
    · exact Or.inl ⟨_, _, _, _, h, zle.rf S⟩
    · obtain ⟨⟨ins, len⟩, hc, h⟩ := zob_inv h
      have dflt : zob (zop oc ins ls st S) (fun q => zgo cl mi oc κ ρ j true (pc + len) q.1 q.2.1 q.2.2) = some r → zGl κ ρ r S := by
        intro h
        obtain ⟨q, hq, h⟩ := zob_inv h
        have e := zop_S hq
        have h2 := ih _ _ _ _ _ h
        rw [e] at h2
        exact h2
      have call : ∀ {n : Nat}, zcal cl oc n st S (fun st' S' => zgo cl mi oc κ ρ j true (pc + len) ls st' S') = some r → zGl κ ρ r S := by
        intro n h
        obtain ⟨q, w, v, S', -, -, -, h1, h2, -⟩ := zcal_inv h
        exact (ih _ _ _ _ _ h2).up (hcl _ _ _ _ _ h1)
      cases ins
      case goto o => exact ih _ _ _ _ _ h
      case ifCond c o =>
        obtain ⟨x, t, -, h⟩ := zpi_inv h
        cases c <;> (rcases zif_inv h with ⟨-, h⟩ | ⟨-, h⟩ <;> exact ih _ _ _ _ _ h)
      case if_icmp c o =>
        obtain ⟨x, t, -, h⟩ := zpi_inv h
        obtain ⟨y, t, -, h⟩ := zpi_inv h
        cases c <;> (rcases zif_inv h with ⟨-, h⟩ | ⟨-, h⟩ <;> exact ih _ _ _ _ _ h)
      case if_acmp c o =>
        obtain ⟨x, t, -, h⟩ := zpo_inv h
        obtain ⟨y, t, -, h⟩ := zpo_inv h
        obtain ⟨-, h⟩ := zcm_inv h
        obtain ⟨-, h⟩ := zcm_inv h
        cases c <;> (rcases zif_inv h with ⟨-, h⟩ | ⟨-, h⟩ <;> exact ih _ _ _ _ _ h)
      case ifnonnull o =>
        obtain ⟨x, t, -, h⟩ := zpo_inv h
        rcases zif_inv h with ⟨-, h⟩ | ⟨-, h⟩ <;> exact ih _ _ _ _ _ h
      case tableswitch df lo hi offs =>
        obtain ⟨x, t, -, h⟩ := zpi_inv h
        obtain ⟨p, h⟩ := zsw_inv h
        exact ih _ _ _ _ _ h
      case invokevirtual n => exact call h
      case invokestatic n => exact call h
      case invokespecial n => exact call h
      case ireturn =>
        obtain ⟨x, t, -, h⟩ := zpi_inv h
        obtain ⟨-, h⟩ := zcd_t h
        split at h
        · exact Or.inr ⟨_, _, h, zle.rf S⟩
        · obtain ⟨-, h⟩ := zgb_inv h
          exact Or.inr ⟨_, _, h, zle.rf S⟩
        · obtain ⟨-, h⟩ := zgc_inv h
          exact Or.inr ⟨_, _, h, zle.rf S⟩
        · obtain ⟨-, h⟩ := zgy_inv h
          exact Or.inr ⟨_, _, h, zle.rf S⟩
      case lreturn =>
        obtain ⟨x, t, -, h⟩ := zpl_inv h
        obtain ⟨-, h⟩ := zcd_t h
        exact Or.inr ⟨_, _, h, zle.rf S⟩
      case areturn =>
        obtain ⟨x, t, -, h⟩ := zpo_inv h
        obtain ⟨-, h⟩ := zcd_t h
        exact Or.inr ⟨_, _, h, zle.rf S⟩
      case return_ =>
        obtain ⟨-, h⟩ := zcd_t h
        exact Or.inr ⟨_, _, h, zle.rf S⟩
      case new k =>
        obtain ⟨-, h⟩ := zcd_t h
        obtain ⟨x, -, h⟩ := zli_inv h
        obtain ⟨y, -, h⟩ := zlo_inv h
        obtain ⟨i0, -, h⟩ := zder_inv h
        exact (ih _ _ _ _ _ h).up ⟨Nat.le_succ _, Nat.le_add_right _ _, Nat.le_add_right _ _⟩
      case idiv =>
        obtain ⟨x, t, -, h⟩ := zpi_inv h
        obtain ⟨y, t, -, h⟩ := zpi_inv h
        obtain ⟨-, h⟩ := zcd_f h
        exact ih _ _ _ _ _ h
      case irem =>
        obtain ⟨x, t, -, h⟩ := zpi_inv h
        obtain ⟨y, t, -, h⟩ := zpi_inv h
        obtain ⟨-, h⟩ := zcd_f h
        exact ih _ _ _ _ _ h
      case getfield n =>
        obtain ⟨q, -, h⟩ := zob_inv h
        obtain ⟨o, t, -, h⟩ := zpo_inv h
        obtain ⟨i, -, h⟩ := zder_inv h
        split at h <;> exact ih _ _ _ _ _ h
      case putfield n =>
        obtain ⟨q, -, h⟩ := zob_inv h
        split at h
        · obtain ⟨x, t, -, h⟩ := zpi_inv h
          obtain ⟨o, t, -, h⟩ := zpo_inv h
          obtain ⟨i, -, h⟩ := zder_inv h
          exact (ih _ _ _ _ _ h).up (zle.rf _)
        · obtain ⟨x, t, -, h⟩ := zpl_inv h
          obtain ⟨o, t, -, h⟩ := zpo_inv h
          obtain ⟨i, -, h⟩ := zder_inv h
          exact (ih _ _ _ _ _ h).up (zle.rf _)
        · obtain ⟨x, t, -, h⟩ := zpo_inv h
          obtain ⟨o, t, -, h⟩ := zpo_inv h
          obtain ⟨i, -, h⟩ := zder_inv h
          exact (ih _ _ _ _ _ h).up (zle.rf _)
        · obtain ⟨x, t, -, h⟩ := zpi_inv h
          obtain ⟨o, t, -, h⟩ := zpo_inv h
          obtain ⟨i, -, h⟩ := zder_inv h
          obtain ⟨-, h⟩ := zg_inv h
          exact (ih _ _ _ _ _ h).up (zle.rf _)
        · cases h
      case iaload =>
        obtain ⟨x, t, -, h⟩ := zpi_inv h
        obtain ⟨t1, i1, t2, -, h⟩ := zpr_inv h
        cases hb : (Nat.beq (zaty t1) 0 || Nat.beq (zaty t1) 7) with
        | true =>
          rw [hb] at h
          obtain ⟨-, h⟩ := zg_inv h
          exact ih _ _ _ _ _ h
        | false =>
          rw [hb] at h
          obtain ⟨-, h⟩ := zcd_t h
          obtain ⟨-, h⟩ := zg_inv h
          exact ih _ _ _ _ _ h
      case baload =>
        obtain ⟨x, t, -, h⟩ := zpi_inv h
        obtain ⟨t1, i1, t2, -, h⟩ := zpr_inv h
        cases hb : Nat.beq (zaty t1) 1 with
        | true =>
          rw [hb] at h
          obtain ⟨-, h⟩ := zg_inv h
          exact ih _ _ _ _ _ h
        | false =>
          rw [hb] at h
          obtain ⟨-, h⟩ := zcd_t h
          obtain ⟨-, h⟩ := zg_inv h
          exact ih _ _ _ _ _ h
      case caload =>
        obtain ⟨x, t, -, h⟩ := zpi_inv h
        obtain ⟨t1, i1, t2, -, h⟩ := zpr_inv h
        obtain ⟨-, h⟩ := zcd_t h
        obtain ⟨-, h⟩ := zg_inv h
        exact ih _ _ _ _ _ h
      case laload =>
        obtain ⟨x, t, -, h⟩ := zpi_inv h
        obtain ⟨t1, i1, t2, -, h⟩ := zpr_inv h
        obtain ⟨-, h⟩ := zcd_t h
        obtain ⟨-, h⟩ := zg_inv h
        exact ih _ _ _ _ _ h
      case aaload =>
        obtain ⟨x, t, -, h⟩ := zpi_inv h
        obtain ⟨t1, i1, t2, -, h⟩ := zpr_inv h
        cases hb : Nat.beq (zaty t1) 4 with
        | true =>
          rw [hb] at h
          obtain ⟨-, h⟩ := zg_inv h
          exact ih _ _ _ _ _ h
        | false =>
          rw [hb] at h
          obtain ⟨-, h⟩ := zcd_t h
          obtain ⟨-, h⟩ := zg_inv h
          exact ih _ _ _ _ _ h
      case iastore =>
        obtain ⟨v, t, -, h⟩ := zpi_inv h
        obtain ⟨x, t, -, h⟩ := zpi_inv h
        obtain ⟨t1, i1, t2, -, h⟩ := zpr_inv h
        obtain ⟨-, h⟩ := zcd_t h
        obtain ⟨-, h⟩ := zg_inv h
        exact (ih _ _ _ _ _ h).up (zle.rf _)
      case bastore =>
        obtain ⟨v, t, -, h⟩ := zpi_inv h
        obtain ⟨x, t, -, h⟩ := zpi_inv h
        obtain ⟨t1, i1, t2, -, h⟩ := zpr_inv h
        obtain ⟨-, h⟩ := zcd_t h
        obtain ⟨-, h⟩ := zg_inv h
        obtain ⟨-, h⟩ := zg_inv h
        exact (ih _ _ _ _ _ h).up (zle.rf _)
      case castore =>
        obtain ⟨v, t, -, h⟩ := zpi_inv h
        obtain ⟨x, t, -, h⟩ := zpi_inv h
        obtain ⟨t1, i1, t2, -, h⟩ := zpr_inv h
        obtain ⟨-, h⟩ := zcd_t h
        obtain ⟨-, h⟩ := zg_inv h
        exact (ih _ _ _ _ _ h).up (zle.rf _)
      case lastore =>
        obtain ⟨v, t, -, h⟩ := zpl_inv h
        obtain ⟨x, t, -, h⟩ := zpi_inv h
        obtain ⟨t1, i1, t2, -, h⟩ := zpr_inv h
        obtain ⟨-, h⟩ := zcd_t h
        obtain ⟨-, h⟩ := zg_inv h
        exact (ih _ _ _ _ _ h).up (zle.rf _)
      case aastore =>
        obtain ⟨v, t, -, h⟩ := zpo_inv h
        obtain ⟨x, t, -, h⟩ := zpi_inv h
        obtain ⟨t1, i1, t2, -, h⟩ := zpr_inv h
        obtain ⟨-, h⟩ := zcd_t h
        obtain ⟨-, h⟩ := zg_inv h
        obtain ⟨_, -, h⟩ := zder_inv h
        exact (ih _ _ _ _ _ h).up (zle.rf _)
      all_goals exact dflt h
theorem zlim_mono' {cl : Nat → List ZV → ZS → Option ZX} (hcl : ∀ mj a S v S', cl mj a S = some (v, S') → zle S S') (mi oc : Nat) : ∀ (n : Nat) (f : ZF) (v : Option ZV) (S' : ZS), zlim (zP cl mi oc) n f = some (v, S') → zle f.2.2.2 S'
  | 0, f, v, S', h => by unfold zlim at h; cases h
  | n + 1, f, v, S', h => by
    unfold zlim at h
    obtain ⟨x, hx, h⟩ := zbind_inv h
    have hm := zgo_mono cl hcl mi oc _ _ x _ _ _ _ _ _ hx
    rcases hm with ⟨pc, ls, st, S1, h1, h2⟩ | ⟨w, S1, h1, h2⟩
    · cases h1
      exact h2.tr (zlim_mono' hcl mi oc n _ v S' h)
    · cases h1
      cases h
      exact h2
theorem zrun_lim {cl : Nat → List ZV → ZS → Option ZX} {mi oc pc : Nat} {ls : ZL} {st : List ZV} {S : ZS} {x : ZX} (h : zrun cl mi oc pc ls st S = some x) : ∃ n, zlim (zP cl mi oc) n (pc, ls, st, S) = some x := (zfix_spec _ _ _).mp h
theorem zprim_mono {cl : Nat → List ZV → ZS → Option ZX} (hcl : ∀ mj a S v S', cl mj a S = some (v, S') → zle S S') {mj : Nat} {a : List ZV} {S : ZS} {v : Option ZV} {S' : ZS} (h : zprim cl mj a S = some (v, S')) : zle S S' := by
  unfold zprim at h
  have step : ∀ {b : Bool} {x y : Option ZX}, (bif b then x else y) = some (v, S') → (x = some (v, S') → zle S S') → (y = some (v, S') → zle S S') → zle S S' := by
    intro b x y h h1 h2
    cases b
    · exact h2 h
    · exact h1 h
  refine step h (fun h => ?_) fun h => step h (fun h => ?_) fun h => step h (fun h => ?_) fun h => step h (fun h => ?_) fun h => step h (fun h => ?_) fun h => by cases h
  · split at h <;> cases h; exact zle.rf S
  · split at h <;> cases h; exact zle.rf S
  · split at h
    · obtain ⟨-, h⟩ := zcd_t h
      cases h
      exact zle.rf S
    · cases h
  · split at h
    · obtain ⟨-, h⟩ := zcd_t h
      obtain ⟨-, h⟩ := zg_inv h
      cases h
      exact zle.rf S
    · cases h
  · split at h
    · split at h
      · obtain ⟨⟨y, S1⟩, h1, h2⟩ := zbind_inv h
        cases h2
        unfold zci at h1
        obtain ⟨⟨w, S2⟩, h3, h4⟩ := zbind_inv h1
        unfold zoi at h4
        split at h4
        · rename_i e
          cases h4
          cases e
          have h9 : zle S S1 := hcl _ _ _ _ _ h3
          exact h9
        · cases h4
      · cases h
        exact ⟨Nat.le_refl _, Nat.le_add_right _ _, Nat.le_add_right _ _⟩
    · cases h
theorem zcall_mono : ∀ (d mj : Nat) (a : List ZV) (S : ZS) (v : Option ZV) (S' : ZS), zcall d mj a S = some (v, S') → zle S S'
  | 0, _, _, _, _, _, h => by unfold zcall at h; cases h
  | d + 1, mj, a, S, v, S', h => by
    have ih := zcall_mono d
    unfold zcall at h
    cases hb : Nat.ble 1000 mj with
    | true =>
      rw [hb] at h
      exact zprim_mono ih h
    | false =>
      rw [hb] at h
      obtain ⟨-, h⟩ := zcd_t h
      obtain ⟨n, hn⟩ := zrun_lim h
      exact zlim_mono' ih _ _ n _ v S' hn
