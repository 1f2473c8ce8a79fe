/-! INSTRUCTIONS: what the abstract machine does, the machine does -/
section INV
variable {α β : Type}
theorem zli_inv {n : Nat} {ls : ZL} {k : Int32 → Option α} {r : α} (h : zli n ls k = some r) : ∃ x, zget n ls = some (.inl x) ∧ k x = some r := by
  unfold zli at h
  split at h
  · rename_i x hx; exact ⟨x, hx, h⟩
  · cases h
theorem zll_inv {n : Nat} {ls : ZL} {k : Int64 → Option α} {r : α} (h : zll n ls k = some r) : ∃ x, zget n ls = some (.inr (.inl x)) ∧ k x = some r := by
  unfold zll at h
  split at h
  · rename_i x hx; exact ⟨x, hx, h⟩
  · cases h
theorem zlo_inv {n : Nat} {ls : ZL} {k : Option ZR → Option α} {r : α} (h : zlo n ls k = some r) : ∃ x, zget n ls = some (.inr (.inr x)) ∧ k x = some r := by
  unfold zlo at h
  split at h
  · rename_i x hx; exact ⟨x, hx, h⟩
  · cases h
theorem zpi_inv {st : List ZV} {k : Int32 → List ZV → Option α} {r : α} (h : zpi st k = some r) : ∃ x t, st = .inl x :: t ∧ k x t = some r := by
  unfold zpi at h
  split at h
  · exact ⟨_, _, rfl, h⟩
  · cases h
theorem zpl_inv {st : List ZV} {k : Int64 → List ZV → Option α} {r : α} (h : zpl st k = some r) : ∃ x t, st = .inr (.inl x) :: t ∧ k x t = some r := by
  unfold zpl at h
  split at h
  · exact ⟨_, _, rfl, h⟩
  · cases h
theorem zpo_inv {st : List ZV} {k : Option ZR → List ZV → Option α} {r : α} (h : zpo st k = some r) : ∃ x t, st = .inr (.inr x) :: t ∧ k x t = some r := by
  unfold zpo at h
  split at h
  · exact ⟨_, _, rfl, h⟩
  · cases h
theorem zpr_inv {st : List ZV} {k : Nat → Nat → List ZV → Option α} {r : α} (h : zpr st k = some r) : ∃ t i u, st = .inr (.inr (some (t, i))) :: u ∧ k t i u = some r := by
  unfold zpr at h
  split at h
  · exact ⟨_, _, _, rfl, h⟩
  · cases h
theorem zob_inv {o : Option β} {k : β → Option α} {r : α} (h : zob o k = some r) : ∃ x, o = some x ∧ k x = some r := by
  unfold zob at h
  split at h
  · exact ⟨_, rfl, h⟩
  · cases h
theorem zel_inv {o : Option β} {k : β → Option α} {n : Option α} {r : α} (h : zel o k n = some r) : (∃ x, o = some x ∧ k x = some r) ∨ (o = none ∧ n = some r) := by
  unfold zel at h
  split at h
  · exact Or.inl ⟨_, rfl, h⟩
  · exact Or.inr ⟨rfl, h⟩
theorem zder_inv {o : Option ZR} {t : Nat} {k : Nat → Option α} {r : α} (h : zder o t k = some r) : ∃ i, o = some (t, i) ∧ k i = some r := by
  unfold zder at h
  split at h
  · rename_i t' i
    cases hb : Nat.beq t' t with
    | false => rw [hb] at h; cases h
    | true =>
      rw [hb] at h
      have e := Nat.eq_of_beq_eq_true hb
      subst e
      exact ⟨i, rfl, h⟩
  · cases h
theorem zg_inv {b : Bool} {k : Option α} {r : α} (h : zg b k = some r) : b = true ∧ k = some r := by
  cases b
  · rw [zg_f rfl] at h; cases h
  · rw [zg_t rfl] at h; exact ⟨rfl, h⟩
theorem zcd_t {b : Bool} {k : Option α} {r : α} (h : (bif b then k else none) = some r) : b = true ∧ k = some r := by
  cases b
  · cases h
  · exact ⟨rfl, h⟩
theorem zcd_f {b : Bool} {k : Option α} {r : α} (h : (bif b then none else k) = some r) : b = false ∧ k = some r := by
  cases b
  · exact ⟨rfl, h⟩
  · cases h
theorem zgb_inv {x : Int32} {k : Option α} {r : α} (h : zgb x k = some r) : zbl x = true ∧ k = some r := by
  unfold zgb at h
  exact zcd_t h
theorem zcm_inv {o : Option ZR} {k : Option α} {r : α} (h : zcm o k = some r) : zcmb o = true ∧ k = some r := by
  unfold zcm at h
  exact zcd_t h
theorem zif_inv {c : Prop} {a b : Option α} {r : α} (h : zif c a b = some r) : (c ∧ a = some r) ∨ (¬ c ∧ b = some r) := by
  by_cases hc : c
  · rw [zif_pos hc] at h; exact Or.inl ⟨hc, h⟩
  · rw [zif_neg hc] at h; exact Or.inr ⟨hc, h⟩
end INV
theorem zSk.tail {n : Nat} {v : ZV} {st : List ZV} (h : zSk n (v :: st)) : zSk n st := fun w hw => h w (List.mem_cons_of_mem _ hw)
theorem zSk.head {n : Nat} {v : ZV} {st : List ZV} (h : zSk n (v :: st)) : zvv n v := h v List.mem_cons_self
theorem zSk.push {n : Nat} {v : ZV} {st : List ZV} (hv : zvv n v) (h : zSk n st) : zSk n (v :: st) := fun w hw => (List.mem_cons.mp hw).elim (fun e => e ▸ hv) (h w)
theorem zSk.pushi {n : Nat} {x : Int32} {st : List ZV} (h : zSk n st) : zSk n (.inl x :: st) := zSk.push trivial h
theorem zSk.pushl {n : Nat} {x : Int64} {st : List ZV} (h : zSk n st) : zSk n (.inr (.inl x) :: st) := zSk.push trivial h
/-- what stays the same in a method -/
def zC (p : Program) (s : State) (m : MethodId) (args : Array Value) (c : Code) (mi : Nat) (cA : Nat → ClassId) (D : va_G) : Prop :=
  p.tables.exec = Jvm.exec ∧ c.code = zby mi ∧ c.maxLocals = zmx mi ∧ mi < 226 ∧ zoc mi < 17 ∧ s.vm.findClass (zRn (zoc mi)) = some m.cls ∧ (∀ w ∈ zgd, w.before args s = true) ∧ (∀ w ∈ zns, va_Nw w s) ∧ va_K D vwCl (zty cA) s
/-- two texts that the code names; words of a throw that are no good ones -/
def zKR (φ : ZPh) (U : State) : Prop := vk_R "TownExchange$Tape" 51 "()<=+-*;" (φ 13 13) U ∧ (∃ sa : Nat, vk_R "TownExchange" 225 "no such line, or nothing such to look at" sa U) ∧ ∀ w ∈ zxnw, va_Nw w U
theorem zxnw_warm {s U : State} (hW : s.WarmedH U.vm) (h : ∀ w ∈ zxnw, va_Nw w s) : ∀ w ∈ zxnw, va_Nw w U := by
  intro w hw
  have h1 := h w hw
  simp only [zxnw, List.mem_cons, List.not_mem_nil, or_false] at hw
  rcases hw with rfl | rfl | rfl | rfl
  · exact va_Nw.warmD hW h1
  · exact va_Nw.warmD hW h1
  · exact va_Nw.warmD hW h1
  · exact va_Nw.warmC hW h1
theorem zxnw_same {u U : State} (hv : u.vm = U.vm) (h : ∀ w ∈ zxnw, va_Nw w u) : ∀ w ∈ zxnw, va_Nw w U := by
  intro w hw
  have h1 := h w hw
  simp only [zxnw, List.mem_cons, List.not_mem_nil, or_false] at hw
  rcases hw with rfl | rfl | rfl | rfl <;> exact va_Nw.same rfl hv h1
theorem zKR.warm {φ : ZPh} {s U : State} (hW : s.WarmedH U.vm) (h : zKR φ s) : zKR φ U := ⟨h.1.warm hW, h.2.1.imp fun _ q => q.warm hW, zxnw_warm hW h.2.2⟩
theorem zKR.same {φ : ZPh} {u U : State} (hv : U.vm = u.vm) (h : zKR φ u) : zKR φ U := ⟨vk_R.same hv h.1, h.2.1.imp fun _ q => vk_R.same hv q, zxnw_same hv.symm h.2.2⟩
theorem zKR.ph {φ φ' : ZPh} {s : State} (e : φ' 13 13 = φ 13 13) (h : zKR φ s) : zKR φ' s := ⟨by rw [e]; exact h.1, h.2⟩
/-- heap and abstract state -/
def zHp (φ : ZPh) (cA : Nat → ClassId) (D : va_G) (A : Nat → Prop) (s : State) (L : Nat) (xs : Nat → Int32) (o : Option ZR) (H : Heap) (locs : List Loc) (S : ZS) : Prop :=
  va_P D vwCl (zw φ cA S) H ∧ va_D A (zw φ cA S) ∧ va_S A s.heap H locs ∧ zDv S ∧ zFz φ L xs o A s s.heap ∧ (∀ q, s.heap.size ≤ q → A q) ∧ S.1 16 0 = xs ∧ S.1 16 1 0 = Int32.ofNat L ∧ S.2.2.1 19 0 0 = o ∧ zKR φ s
theorem zdec {mi pc : Nat} {ins : Instr} {len : Nat} (h : zcode mi pc = some (ins, len)) : decode (zby mi) pc = .ok (ins, len) ∧ zchk mi pc ins len = true := by
  have hmi : mi < 226 := by
    unfold zcode at h
    exact Nat.blt_eq.mp (zcd_t h).1
  have hpc : pc < zln mi := zln_of hmi h
  have h1 := zdk_all mi (Nat.zero_le _) hmi pc hpc
  rw [h] at h1
  unfold zckb at h1
  simp only [Bool.and_eq_true, decide_eq_true_eq] at h1
  exact h1
section INS
variable {p : Program} {l : Launch} {e : Env} {R : Room} {s : State} {m : MethodId} {args : Array Value} {below : List Frame} {meth : Method} {c : Code} {H : Heap} {locs : List Loc} {cells slots : Nat} {Q : State → Prop}
variable {mi pc n : Nat} {cA : Nat → ClassId} {D : va_G} {A : Nat → Prop} {φ : ZPh} {L : Nat} {xs : Nat → Int32} {o : Option ZR} {ls : Array Slot} {lz : ZL} {st : List ZV} {S : ZS} {ins : Instr} {len : Nat}
set_option maxHeartbeats 4000000 in
/-- plain instructions: locals and stack alone -/
theorem zop_ok (hC : zC p s m args c mi cA D) (hc : zcode mi pc = some (ins, len)) (hL : zLo φ n (zmx mi) ls lz) (hS : zSk n st)
    (hns : ∀ n, ins ≠ .getstatic n) (hna : ins ≠ .arraylength) (hnl : ∀ n i, ins = .ldc n → zldc (zoc mi) n ≠ some (.inr i))
    {l' : ZL} {st' : List ZV} {S' : ZS} (h : zop (zoc mi) ins lz st S = some (l', st', S'))
    (kk : ∀ ls' : Array Slot, S' = S → zLo φ n (zmx mi) ls' l' → zSk n st' → W p l e R s m args below meth c H locs cells slots Q (F0 m (pc + len) ls' (st'.map (zv φ)))) :
    W p l e R s m args below meth c H locs cells slots Q (F0 m pc ls (st.map (zv φ))) := by
  obtain ⟨hx, hb, hml, hmi, hoc, hown, hts, htn, hK⟩ := hC
  obtain ⟨hdg, hck⟩ := zdec hc
  unfold zop at h
  cases ins
  case iload i =>
    obtain ⟨x, hx1, h⟩ := zli_inv h
    cases h
    simp only [zchk, Nat.beq_eq] at hck
    subst hck
    exact lv_iload hx hb hdg (hL.get hx1) (kk ls rfl hL hS.pushi)
  case iload_n i =>
    obtain ⟨x, hx1, h⟩ := zli_inv h
    cases h
    simp only [zchk, Nat.beq_eq] at hck
    subst hck
    exact lv_iload_n hx hb hdg rfl (hL.get hx1) (kk ls rfl hL hS.pushi)
  case lload i =>
    obtain ⟨x, hx1, h⟩ := zll_inv h
    cases h
    simp only [zchk, Nat.beq_eq] at hck
    subst hck
    exact lv_lload hx hb hdg (hL.get hx1) (kk ls rfl hL hS.pushl)
  case lload_n i =>
    obtain ⟨x, hx1, h⟩ := zll_inv h
    cases h
    simp only [zchk, Nat.beq_eq] at hck
    subst hck
    exact lv_lload_n hx hb hdg rfl (hL.get hx1) (kk ls rfl hL hS.pushl)
  case aload i =>
    obtain ⟨x, hx1, h⟩ := zlo_inv h
    cases h
    simp only [zchk, Nat.beq_eq] at hck
    subst hck
    have hk := kk ls rfl hL (zSk.push (hL.2.2 _ _ hx1) hS)
    have hg := hL.get hx1
    cases x with
    | none => exact lv_aloadN hx hb hdg hg hk
    | some x => exact lv_aload hx hb hdg hg hk
  case aload_n i =>
    obtain ⟨x, hx1, h⟩ := zlo_inv h
    cases h
    simp only [zchk, Nat.beq_eq] at hck
    subst hck
    have hk := kk ls rfl hL (zSk.push (hL.2.2 _ _ hx1) hS)
    have hg := hL.get hx1
    cases x with
    | none => exact lv_aload_nN hx hb hdg rfl hg hk
    | some x => exact lv_aload_n hx hb hdg rfl hg hk
  case istore i =>
    obtain ⟨x, t, est, hh⟩ := zpi_inv h; clear h; subst est; have h := hh; clear hh
    cases h
    simp only [zchk, Bool.and_eq_true, Nat.beq_eq, Nat.blt_eq] at hck
    obtain ⟨rfl, hlt⟩ := hck
    exact lv_istore hx hb hdg hL.1 hlt rfl (fun ls' h' => kk ls' rfl (hL.set hlt trivial h') hS.tail)
  case istore_n i =>
    obtain ⟨x, t, est, hh⟩ := zpi_inv h; clear h; subst est; have h := hh; clear hh
    cases h
    simp only [zchk, Bool.and_eq_true, Nat.beq_eq, Nat.blt_eq] at hck
    obtain ⟨rfl, hlt⟩ := hck
    exact lv_istore_n hx hb hdg rfl hL.1 hlt rfl (fun ls' h' => kk ls' rfl (hL.set hlt trivial h') hS.tail)
  case lstore i =>
    obtain ⟨x, t, est, hh⟩ := zpl_inv h; clear h; subst est; have h := hh; clear hh
    cases h
    simp only [zchk, Bool.and_eq_true, Nat.beq_eq, Nat.blt_eq] at hck
    obtain ⟨rfl, hlt⟩ := hck
    exact lv_lstore hx hb hdg hL.1 hlt rfl (fun ls' h' => kk ls' rfl (hL.setl (v := .inr (.inl x)) hlt trivial h') hS.tail)
  case lstore_n i =>
    obtain ⟨x, t, est, hh⟩ := zpl_inv h; clear h; subst est; have h := hh; clear hh
    cases h
    simp only [zchk, Bool.and_eq_true, Nat.beq_eq, Nat.blt_eq] at hck
    obtain ⟨rfl, hlt⟩ := hck
    exact lv_lstore_n hx hb hdg rfl hL.1 hlt rfl (fun ls' h' => kk ls' rfl (hL.setl (v := .inr (.inl x)) hlt trivial h') hS.tail)
  case astore i =>
    obtain ⟨x, t, est, hh⟩ := zpo_inv h; clear h; subst est; have h := hh; clear hh
    cases h
    simp only [zchk, Bool.and_eq_true, Nat.beq_eq, Nat.blt_eq] at hck
    obtain ⟨rfl, hlt⟩ := hck
    cases x with
    | none => exact lv_astoreN hx hb hdg hL.1 hlt rfl (fun ls' h' => kk ls' rfl (hL.set (v := .inr (.inr none)) hlt hS.head h') hS.tail)
    | some x => exact lv_astore hx hb hdg hL.1 hlt rfl (fun ls' h' => kk ls' rfl (hL.set (v := .inr (.inr (some x))) hlt hS.head h') hS.tail)
  case astore_n i =>
    obtain ⟨x, t, est, hh⟩ := zpo_inv h; clear h; subst est; have h := hh; clear hh
    cases h
    simp only [zchk, Bool.and_eq_true, Nat.beq_eq, Nat.blt_eq] at hck
    obtain ⟨rfl, hlt⟩ := hck
    cases x with
    | none => exact lv_astore_nN hx hb hdg rfl hL.1 hlt rfl (fun ls' h' => kk ls' rfl (hL.set (v := .inr (.inr none)) hlt hS.head h') hS.tail)
    | some x => exact lv_astore_n hx hb hdg rfl hL.1 hlt rfl (fun ls' h' => kk ls' rfl (hL.set (v := .inr (.inr (some x))) hlt hS.head h') hS.tail)
  case iinc i k =>
    obtain ⟨x, hx1, h⟩ := zli_inv h
    cases h
    simp only [zchk, Bool.and_eq_true, Nat.beq_eq, Nat.blt_eq, decide_eq_true_eq] at hck
    obtain ⟨⟨rfl, hlt⟩, hz⟩ := hck
    have hm : (i, zv φ (.inl x)) ∈ zlv φ 0 lz := (zlv_mem φ lz 0 _).mpr ⟨i, _, hx1, by rw [Nat.zero_add]⟩
    obtain ⟨k9, hk9⟩ := List.getElem?_of_mem hm
    exact lv_iinc hx hb hdg hL.1 hk9 (by rw [hz]) hlt rfl (fun ls' h' => kk ls' rfl (hL.set (v := .inl (x + zcst k)) hlt trivial h') hS)
  case iconst k =>
    cases h
    simp only [zchk, Bool.and_eq_true, Nat.beq_eq, decide_eq_true_eq] at hck
    obtain ⟨rfl, hz⟩ := hck
    exact lv_iconst hx hb hdg hz (kk ls rfl hL hS.pushi)
  case bipush k =>
    cases h
    simp only [zchk, Bool.and_eq_true, Nat.beq_eq, decide_eq_true_eq] at hck
    obtain ⟨rfl, hz⟩ := hck
    exact lv_bipush hx hb hdg hz (kk ls rfl hL hS.pushi)
  case sipush k =>
    cases h
    simp only [zchk, Bool.and_eq_true, Nat.beq_eq, decide_eq_true_eq] at hck
    obtain ⟨rfl, hz⟩ := hck
    exact lv_sipush hx hb hdg hz (kk ls rfl hL hS.pushi)
  case lconst k =>
    cases h
    simp only [zchk, Nat.beq_eq] at hck
    subst hck
    exact lv_lconst hx hb hdg rfl (kk ls rfl hL hS.pushl)
  case aconst_null =>
    cases h
    simp only [zchk, Nat.beq_eq] at hck
    subst hck
    exact lv_null hx hb hdg (kk ls rfl hL (zSk.push (fun r h => by cases h) hS))
  case ldc k =>
    obtain ⟨v, hv, h⟩ := zob_inv h
    simp only [zchk, Bool.and_eq_true, Nat.beq_eq, Nat.blt_eq] at hck
    obtain ⟨rfl, hk⟩ := hck
    cases v with
    | inl v =>
      cases h
      have hw := zlcc hoc hk
      unfold zlcb at hw
      unfold zldc at hv
      rw [hv] at hw
      simp only [Bool.and_eq_true, decide_eq_true_eq] at hw
      have hw1 := hts _ (zgd_of hw.1 hw.2)
      rw [show (zoc mi * 2048 + k) / 2048 = zoc mi by omega, show (zoc mi * 2048 + k) % 2048 = k by omega] at hw1
      exact lv_ldc hx hb hown hw1 hdg (kk ls rfl hL hS.pushi)
    | inr i => exact absurd hv (hnl k i rfl)
  case ldc_w k =>
    obtain ⟨v, hv, h⟩ := zob_inv h
    simp only [zchk, Bool.and_eq_true, Nat.beq_eq, Nat.blt_eq] at hck
    obtain ⟨rfl, hk⟩ := hck
    cases v with
    | inl v =>
      cases h
      have hw := zlcc hoc hk
      unfold zlcb at hw
      unfold zldc at hv
      rw [hv] at hw
      simp only [Bool.and_eq_true, decide_eq_true_eq] at hw
      have hw1 := hts _ (zgd_of hw.1 hw.2)
      rw [show (zoc mi * 2048 + k) / 2048 = zoc mi by omega, show (zoc mi * 2048 + k) % 2048 = k by omega] at hw1
      exact lv_ldcw hx hb hown hw1 hdg (kk ls rfl hL hS.pushi)
    | inr i => cases h
  case ldc2_w k =>
    obtain ⟨v, hv, h⟩ := zob_inv h
    simp only [zchk, Bool.and_eq_true, Nat.beq_eq, Nat.blt_eq] at hck
    obtain ⟨rfl, hk⟩ := hck
    cases h
    have hw := zllc hoc hk
    unfold zllb at hw
    unfold zldl at hv
    rw [hv] at hw
    simp only [Bool.and_eq_true, decide_eq_true_eq] at hw
    have hw1 := hts _ (zgd_of hw.1 hw.2)
    rw [show (zoc mi * 2048 + k) / 2048 = zoc mi by omega, show (zoc mi * 2048 + k) % 2048 = k by omega] at hw1
    exact lv_ldc2 hx hb hown hw1 hdg (kk ls rfl hL hS.pushl)
  case getstatic k => exact absurd rfl (hns k)
  case arraylength => exact absurd rfl hna
  case dup =>
    simp only [zchk, Nat.beq_eq] at hck
    subst hck
    rcases st with _ | ⟨v, t⟩
    · cases h
    · rcases v with x | x | x
      · cases h
        exact lv_dup hx hb hdg rfl (kk ls rfl hL hS.pushi)
      · cases h
      · cases h
        exact lv_dup hx hb hdg (by rw [zv_cat]; rfl) (kk ls rfl hL (zSk.push hS.head hS))
  case dup2 =>
    simp only [zchk, Nat.beq_eq] at hck
    subst hck
    obtain ⟨x, t, est, hh⟩ := zpi_inv h; clear h; subst est; have h := hh; clear hh
    obtain ⟨t1, i1, t2, est, hh⟩ := zpr_inv h; clear h; subst est; have h := hh; clear hh
    cases h
    exact lv_dup2_11 hx hb hdg rfl rfl (kk ls rfl hL (zSk.pushi (zSk.push hS.tail.head hS)))
  case pop =>
    simp only [zchk, Nat.beq_eq] at hck
    subst hck
    rcases st with _ | ⟨v, t⟩
    · cases h
    · rcases v with x | x | x
      · cases h
        exact lv_pop hx hb hdg rfl (kk ls rfl hL hS.tail)
      · cases h
      · cases h
        exact lv_pop hx hb hdg (by rw [zv_cat]; rfl) (kk ls rfl hL hS.tail)
  case iadd =>
    simp only [zchk, Nat.beq_eq] at hck
    subst hck
    obtain ⟨y, t, est, hh⟩ := zpi_inv h; clear h; subst est; have h := hh; clear hh
    obtain ⟨x, t, est, hh⟩ := zpi_inv h; clear h; subst est; have h := hh; clear hh
    cases h
    exact lv_iadd hx hb hdg (kk ls rfl hL hS.tail.tail.pushi)
  case isub =>
    simp only [zchk, Nat.beq_eq] at hck
    subst hck
    obtain ⟨y, t, est, hh⟩ := zpi_inv h; clear h; subst est; have h := hh; clear hh
    obtain ⟨x, t, est, hh⟩ := zpi_inv h; clear h; subst est; have h := hh; clear hh
    cases h
    exact lv_isub hx hb hdg (kk ls rfl hL hS.tail.tail.pushi)
  case imul =>
    simp only [zchk, Nat.beq_eq] at hck
    subst hck
    obtain ⟨y, t, est, hh⟩ := zpi_inv h; clear h; subst est; have h := hh; clear hh
    obtain ⟨x, t, est, hh⟩ := zpi_inv h; clear h; subst est; have h := hh; clear hh
    cases h
    exact lv_imul hx hb hdg (kk ls rfl hL hS.tail.tail.pushi)
  case ishr =>
    simp only [zchk, Nat.beq_eq] at hck
    subst hck
    obtain ⟨y, t, est, hh⟩ := zpi_inv h; clear h; subst est; have h := hh; clear hh
    obtain ⟨x, t, est, hh⟩ := zpi_inv h; clear h; subst est; have h := hh; clear hh
    cases h
    exact lv_ishr hx hb hdg (kk ls rfl hL hS.tail.tail.pushi)
  case i2b =>
    simp only [zchk, Nat.beq_eq] at hck
    subst hck
    obtain ⟨x, t, est, hh⟩ := zpi_inv h; clear h; subst est; have h := hh; clear hh
    cases h
    exact lv_i2b hx hb hdg rfl (kk ls rfl hL hS.tail.pushi)
  case iand =>
    simp only [zchk, Nat.beq_eq] at hck
    subst hck
    obtain ⟨y, t, est, hh⟩ := zpi_inv h; clear h; subst est; have h := hh; clear hh
    obtain ⟨x, t, est, hh⟩ := zpi_inv h; clear h; subst est; have h := hh; clear hh
    cases h
    exact lv_iand hx hb hdg (kk ls rfl hL hS.tail.tail.pushi)
  case ladd =>
    simp only [zchk, Nat.beq_eq] at hck
    subst hck
    obtain ⟨y, t, est, hh⟩ := zpl_inv h; clear h; subst est; have h := hh; clear hh
    obtain ⟨x, t, est, hh⟩ := zpl_inv h; clear h; subst est; have h := hh; clear hh
    cases h
    exact lv_ladd hx hb hdg (kk ls rfl hL hS.tail.tail.pushl)
  case lsub =>
    simp only [zchk, Nat.beq_eq] at hck
    subst hck
    obtain ⟨y, t, est, hh⟩ := zpl_inv h; clear h; subst est; have h := hh; clear hh
    obtain ⟨x, t, est, hh⟩ := zpl_inv h; clear h; subst est; have h := hh; clear hh
    cases h
    exact lv_lsub hx hb hdg (kk ls rfl hL hS.tail.tail.pushl)
  case lmul =>
    simp only [zchk, Nat.beq_eq] at hck
    subst hck
    obtain ⟨y, t, est, hh⟩ := zpl_inv h; clear h; subst est; have h := hh; clear hh
    obtain ⟨x, t, est, hh⟩ := zpl_inv h; clear h; subst est; have h := hh; clear hh
    cases h
    exact lv_lmul hx hb hdg (kk ls rfl hL hS.tail.tail.pushl)
  case land =>
    simp only [zchk, Nat.beq_eq] at hck
    subst hck
    obtain ⟨y, t, est, hh⟩ := zpl_inv h; clear h; subst est; have h := hh; clear hh
    obtain ⟨x, t, est, hh⟩ := zpl_inv h; clear h; subst est; have h := hh; clear hh
    cases h
    exact lv_land hx hb hdg (kk ls rfl hL hS.tail.tail.pushl)
  case lor =>
    simp only [zchk, Nat.beq_eq] at hck
    subst hck
    obtain ⟨y, t, est, hh⟩ := zpl_inv h; clear h; subst est; have h := hh; clear hh
    obtain ⟨x, t, est, hh⟩ := zpl_inv h; clear h; subst est; have h := hh; clear hh
    cases h
    exact lv_lor hx hb hdg (kk ls rfl hL hS.tail.tail.pushl)
  case lshl =>
    simp only [zchk, Nat.beq_eq] at hck
    subst hck
    obtain ⟨y, t, est, hh⟩ := zpi_inv h; clear h; subst est; have h := hh; clear hh
    obtain ⟨x, t, est, hh⟩ := zpl_inv h; clear h; subst est; have h := hh; clear hh
    cases h
    exact lv_lshl hx hb hdg rfl (kk ls rfl hL hS.tail.tail.pushl)
  case lushr =>
    simp only [zchk, Nat.beq_eq] at hck
    subst hck
    obtain ⟨y, t, est, hh⟩ := zpi_inv h; clear h; subst est; have h := hh; clear hh
    obtain ⟨x, t, est, hh⟩ := zpl_inv h; clear h; subst est; have h := hh; clear hh
    cases h
    exact lv_lushr hx hb hdg rfl (kk ls rfl hL hS.tail.tail.pushl)
  case lcmp =>
    simp only [zchk, Nat.beq_eq] at hck
    subst hck
    obtain ⟨y, t, est, hh⟩ := zpl_inv h; clear h; subst est; have h := hh; clear hh
    obtain ⟨x, t, est, hh⟩ := zpl_inv h; clear h; subst est; have h := hh; clear hh
    cases h
    exact W.lcmp hx hb hdg (kk ls rfl hL hS.tail.tail.pushi)
  case i2l =>
    simp only [zchk, Nat.beq_eq] at hck
    subst hck
    obtain ⟨x, t, est, hh⟩ := zpi_inv h; clear h; subst est; have h := hh; clear hh
    cases h
    exact lv_i2l hx hb hdg rfl (kk ls rfl hL hS.tail.pushl)
  case l2i =>
    simp only [zchk, Nat.beq_eq] at hck
    subst hck
    obtain ⟨x, t, est, hh⟩ := zpl_inv h; clear h; subst est; have h := hh; clear hh
    cases h
    exact lv_l2i hx hb hdg rfl (kk ls rfl hL hS.tail.pushi)
  case i2c =>
    simp only [zchk, Nat.beq_eq] at hck
    subst hck
    obtain ⟨x, t, est, hh⟩ := zpi_inv h; clear h; subst est; have h := hh; clear hh
    cases h
    exact lv_i2c hx hb hdg rfl (kk ls rfl hL hS.tail.pushi)
  all_goals cases h
end INS
