/-! EVERY METHOD of the machine keeps its contract -/
theorem zlv_arg (φ : ZPh) : ∀ (av : List ZV) (k : Nat), zlv φ k (zarg av) = lv_args k (av.map (zv φ))
  | [], _ => rfl
  | .inl x :: r, k => by
    show (k, Value.int x) :: zlv φ (k + 1) (zarg r) = (k, Value.int x) :: lv_args (k + 1) (r.map (zv φ))
    rw [zlv_arg φ r]
  | .inr (.inl x) :: r, k => by
    show (k, Value.long x) :: zlv φ (k + 2) (zarg r) = (k, Value.long x) :: lv_args (k + 2) (r.map (zv φ))
    rw [zlv_arg φ r]
  | .inr (.inr none) :: r, k => by
    show (k, Value.null) :: zlv φ (k + 1) (zarg r) = (k, Value.null) :: lv_args (k + 1) (r.map (zv φ))
    rw [zlv_arg φ r]
  | .inr (.inr (some q)) :: r, k => by
    show (k, Value.ref _) :: zlv φ (k + 1) (zarg r) = (k, Value.ref _) :: lv_args (k + 1) (r.map (zv φ))
    rw [zlv_arg φ r]
theorem zlv_rep (φ : ZPh) : ∀ (n k : Nat), zlv φ k (List.replicate n none) = []
  | 0, _ => rfl
  | n + 1, k => by
    rw [List.replicate_succ]
    exact zlv_rep φ n (k + 1)
theorem zlv_app (φ : ZPh) : ∀ (l l' : ZL) (k : Nat), zlv φ k (l ++ l') = zlv φ k l ++ zlv φ (k + l.length) l'
  | [], l', k => rfl
  | none :: r, l', k => by
    show zlv φ (k + 1) (r ++ l') = zlv φ (k + 1) r ++ zlv φ (k + (r.length + 1)) l'
    rw [zlv_app φ r l', show k + 1 + r.length = k + (r.length + 1) by omega]
  | some v :: r, l', k => by
    show (k, zv φ v) :: zlv φ (k + 1) (r ++ l') = (k, zv φ v) :: (zlv φ (k + 1) r ++ zlv φ (k + (r.length + 1)) l')
    rw [zlv_app φ r l', show k + 1 + r.length = k + (r.length + 1) by omega]
theorem lg_sl_len (φ : ZPh) : ∀ av : List ZV, (lg_sl (av.map (zv φ))).length = (zarg av).length
  | [] => rfl
  | v :: r => by
    have h := lg_sl_len φ r
    unfold lg_sl at h ⊢
    rw [List.map_cons, List.flatMap_cons, List.length_append, h]
    rcases v with x | x | (_ | q)
    · show 1 + _ = _ + 1; omega
    · show 2 + _ = _ + 1 + 1; omega
    · show 1 + _ = _ + 1; omega
    · show 1 + _ = _ + 1; omega
theorem zarg_valid {n : Nat} : ∀ (av : List ZV), zSk n av → ∀ (j : Nat) (v : ZV), zget j (zarg av) = some v → zvv n v
  | [], _, j, v, h => by cases j <;> simp [zarg, zget] at h
  | .inl x :: r, hS, 0, v, h => by
    cases h
    trivial
  | .inl x :: r, hS, j + 1, v, h => zarg_valid r hS.tail j v h
  | .inr (.inl x) :: r, hS, 0, v, h => by
    cases h
    trivial
  | .inr (.inl x) :: r, hS, 1, v, h => by cases h
  | .inr (.inl x) :: r, hS, j + 2, v, h => zarg_valid r hS.tail j v h
  | .inr (.inr o) :: r, hS, 0, v, h => by
    cases h
    exact hS.head
  | .inr (.inr o) :: r, hS, j + 1, v, h => zarg_valid r hS.tail j v h
theorem zget_app : ∀ (l l' : ZL) (j : Nat) (v : ZV), zget j (l ++ l') = some v → zget j l = some v ∨ zget (j - l.length) l' = some v
  | [], l', j, v, h => Or.inr h
  | x :: r, l', 0, v, h => Or.inl h
  | x :: r, l', j + 1, v, h => by
    rcases zget_app r l' j v h with h1 | h1
    · exact Or.inl h1
    · right
      rw [List.length_cons, show j + 1 - (r.length + 1) = j - r.length by omega]
      exact h1
theorem zget_rep : ∀ (n j : Nat) (v : ZV), zget j (List.replicate n none) = some v → False
  | 0, j, v, h => by cases j <;> simp [zget] at h
  | n + 1, 0, v, h => by simp [List.replicate_succ, zget] at h
  | n + 1, j + 1, v, h => zget_rep n j v (by rw [List.replicate_succ] at h; exact h)
section MET
variable {p : Program} {l : Launch} {e : Env} {R : Room} {s : State} {m : MethodId} {args : Array Value} {below : List Frame} {meth : Method} {c : Code} {Q : State → Prop}
variable {mi : Nat} {cA : Nat → ClassId} {D : va_G} {A : Nat → Prop} {L : Nat} {xs : Nat → Int32} {o : Option ZR}
theorem zlim_ok {d c0 s0 n0 : Nat} {φ0 : ZPh} {v : Option ZV} {S' : ZS} (hlt : l.stackTraces = false) (hC : zC p s m args c mi cA D) (hMt : ∀ d', d' ≤ d → zMt l d' (zcall d')) (hRf : 2 * d + 9 ≤ R.frames) (hRl : 48 * (d + 1) + 400 ≤ R.locals)
    (hB : zkc S' ≤ c0 + R.cells ∧ zks S' ≤ s0 + R.slots)
    (Kρ : ∀ (pc : Nat) (φ : ZPh) (H : Heap) (locs : List Loc) (ls : Array Slot), zHp φ cA D A s L xs o H locs S' → (∀ w, v = some w → zvv S'.2.2.2.1 w) → zEx n0 φ0 φ → n0 ≤ S'.2.2.2.1 → c0 ≤ zkc S' → s0 ≤ zks S' → zRet mi pc v → W p l e R s m args below meth c H locs (zkc S' - c0) (zks S' - s0) Q (F0 m pc ls (v.toList.map (zv φ)))) :
    ∀ (n : Nat) (f : ZF), zlim (zP (zcall d) mi (zoc mi)) n f = some (v, S') → ∀ (φ : ZPh) (H : Heap) (locs : List Loc) (ls : Array Slot), zHp φ cA D A s L xs o H locs f.2.2.2 → zLo φ f.2.2.2.2.2.2.1 (zmx mi) ls f.2.1 → zSk f.2.2.2.2.2.2.1 f.2.2.1 → zEx n0 φ0 φ → n0 ≤ f.2.2.2.2.2.2.1 → c0 ≤ zkc f.2.2.2 → s0 ≤ zks f.2.2.2 →
      W p l e R s m args below meth c H locs (zkc f.2.2.2 - c0) (zks f.2.2.2 - s0) Q (F0 m f.1 ls (f.2.2.1.map (zv φ)))
  | 0, f, h, _, _, _, _, _, _, _, _, _, _, _ => by unfold zlim at h; cases h
  | n + 1, f, h, φ, H, locs, ls, hH, hL, hS, hE, hn, h0, h1 => by
    have ih := zlim_ok hlt hC hMt hRf hRl hB Kρ n
    unfold zlim at h
    obtain ⟨r, hr, h2⟩ := zbind_inv h
    unfold zP at hr
    refine zgo_ok (c0 := c0) (s0 := s0) (n0 := n0) (φ0 := φ0) _ _ r hlt hC hMt hRf hRl (fun pc lz st S hk => ?_) (fun w S hk => ?_) (fun pc lz st S φ H locs ls hk hH hL hS hE hn h0 h1 => ?_) (fun w pc S φ H locs ls hk hH hv hE hn h0 h1 hret => ?_) _ _ _ _ _ _ _ _ _ _ hr hH hL hS hE hn h0 h1
    · cases hk
      have hm := zlim_mono' (zcall_mono d) _ _ n _ v S' h2
      exact ⟨Nat.le_trans hm.2.1 hB.1, Nat.le_trans hm.2.2 hB.2⟩
    · cases hk
      cases h2
      exact hB
    · cases hk
      exact ih (pc, lz, st, S) h2 φ H locs ls hH hL hS hE hn h0 h1
    · cases hk
      cases h2
      exact Kρ pc φ H locs ls hH hv hE hn h0 h1 hret
theorem zmt_ok (l : Launch) (hlt : l.stackTraces = false) : ∀ (d d' : Nat), d' ≤ d → zMt l d' (zcall d')
  | _, 0, _ => by
    intro mj av S v S' hmj hcl
    unfold zcall at hcl
    cases hcl
  | 0, d' + 1, h => absurd h (by omega)
  | d + 1, d' + 1, hd => by
    have ih := zmt_ok l hlt d
    intro mj av S v S' hmj hcl φ cA D L xs o sz hSk
    have hle := zcall_mono _ _ _ _ _ _ hcl
    unfold zcall at hcl
    have hb0 : Nat.ble 1000 mj = false := by
      cases hbb : Nat.ble 1000 mj with
      | false => rfl
      | true => have := Nat.ble_eq.mp hbb; omega
    rw [hb0] at hcl
    obtain ⟨hg, hcl⟩ := zcd_t hcl
    rw [Bool.and_eq_true] at hg
    have hlen := Nat.ble_eq.mp hg.2
    obtain ⟨n, hn⟩ := zrun_lim hcl
    have hmm := zmm hmj
    unfold zmmb at hmm
    simp only [Bool.and_eq_true, Nat.blt_eq, Nat.ble_eq, decide_eq_true_eq] at hmm
    obtain ⟨⟨⟨⟨⟨⟨⟨⟨-, -⟩, -⟩, -⟩, -⟩, -⟩, hoc1⟩, hoc2⟩, -⟩ := hmm
    have hmp := zmp hmj
    unfold zmpb at hmp
    simp only [Bool.and_eq_true] at hmp
    obtain ⟨⟨-, hrk⟩, hrz⟩ := hmp
    refine Met.ofW (cc := zby mj) (maxL := zmx mj) (ret := zrt mj) (by rw [← hoc1]; exact zplain _ (Nat.zero_le _) hoc2) rfl ?_
    intro p e s m args below meth c s₁ B hml hv
    obtain ⟨rfl, hsz, hP, hK, hD0, hdv, hF, hN, hx1, hl1, ho1, hKR⟩ := hv
    subst hsz
    have hx := B.exec
    have hb := B.bytes
    have hr := B.returns
    have hlocks := B.notSynchronized
    have hts0 := atoms_spec (ws := zwsm mj) B.pre
    have hown : s.vm.findClass (zRn (zoc mj)) = some m.cls := by rw [hoc1]; exact findClass_of_methodNamed B.named
    have hC : zC p s m ((av.map (zv φ)).toArray) c mj cA D := ⟨hx, hb, hml, by omega, hoc2, hown, fun w hw => hts0 w (List.mem_cons_of_mem _ hw), hN, hK⟩
    have hlv := lv_entry (av.map (zv φ)) (n := zmx mj) (by rw [lg_sl_len]; exact hlen)
    rw [lg_entry_eq]
    generalize (lg_sl (av.map (zv φ)) ++ List.replicate (zmx mj - (lg_sl (av.map (zv φ))).length) Slot.unset).toArray = ls at hlv ⊢
    have hL : zLo φ S.2.2.2.1 (zmx mj) ls (zpad (zmx mj) (zarg av)) := by
      refine ⟨⟨hlv.1, hlv.2.1, fun q hq => ?_⟩, ?_, fun j v hv => ?_⟩
      · unfold zpad at hq
        rw [zlv_app, zlv_rep, List.append_nil, zlv_arg] at hq
        exact hlv.2.2 q hq
      · unfold zpad
        rw [List.length_append, List.length_replicate]
        omega
      · unfold zpad at hv
        rcases zget_app _ _ _ _ hv with h | h
        · exact zarg_valid av hSk j v h
        · exact (zget_rep _ _ _ h).elim
    have hHp : zHp φ cA D (va_A (zw φ cA S) s.heap.size) s L xs o s.heap [] S := ⟨hP, hD0.self, va_S.rf, hdv, hF, fun q h => Or.inr h, hx1, hl1, ho1, hKR⟩
    have hgoal := zlim_ok (R := (headSpec (zwsm mj) (zrm (d' + 1) S S')).room) (below := below) (meth := meth) (l := l) (e := e) (c0 := zkc S) (s0 := zks S) (n0 := S.2.2.2.1) (φ0 := φ) (v := v) (S' := S') (Q := MQ below (zQm φ cA D L xs o S S' v (va_A (zw φ cA S) s.heap.size)) (av.map (zv φ)).toArray s (zkc S' - zkc S) (zks S' - zks S) (va_A (zw φ cA S) s.heap.size)) (A := va_A (zw φ cA S) s.heap.size) (L := L) (xs := xs) (o := o) (d := d') hlt hC
      (fun d2 h2 => ih d2 (by omega)) (by show 2 * d' + 9 ≤ 2 * (d' + 1) + 8; omega) (Nat.le_refl _) (⟨by have := hle.2.1; show zkc S' ≤ zkc S + (zkc S' - zkc S); omega, by have := hle.2.2; show zks S' ≤ zks S + (zks S' - zks S); omega⟩) ?_ n _ hn φ s.heap [] ls hHp hL (fun v hv => by cases hv) (zEx.rf _ _) (Nat.le_refl _) (Nat.le_refl _) (Nat.le_refl _)
    · rw [Nat.sub_self, Nat.sub_self] at hgoal
      exact hgoal
    · intro pc φ' H locs ls' hH' hv' hE' hn' h0' h1' hret
      obtain ⟨hP', hD', hS', hdv', hF', hA', hx', hl', ho', -⟩ := hH'
      have post : ∀ (w : Option Value), w = v.map (zv φ') → ∀ t : State, t.heap = H → s.WarmedH t.vm → zQm φ cA D L xs o S S' v (va_A (zw φ cA S) s.heap.size) (av.map (zv φ)).toArray s (.returned w) t :=
        fun w hw t ht hW => ⟨⟨φ', by rw [hw], hE', by rw [ht]; exact hP', hD', hdv', hx', hl', ho', hv'⟩, hS'.F ht⟩
      rcases v with _ | (x | x | o)
      · obtain ⟨hcd, hrk0⟩ := hret
        rw [hrk0] at hrk
        exact W.vret hx hb (hr.trans (of_decide_eq_true hrk)) (post none rfl) hS'.2.2 (zdec hcd).1
      · obtain ⟨hcd, hrk0, hbz⟩ := hret
        rw [hrk0] at hrk
        have hrk2 : zrt mj = some .int ∨ zrt mj = some .boolean ∨ zrt mj = some .char ∨ zrt mj = some .byte := by
          simp only [Bool.or_eq_true, decide_eq_true_eq] at hrk
          rcases hrk with ((h | h) | h) | h
          · exact Or.inl h
          · exact Or.inr (Or.inl h)
          · exact Or.inr (Or.inr (Or.inl h))
          · exact Or.inr (Or.inr (Or.inr h))
        have hz4 : (zrz mj = 0 ∧ zrt mj = some .int) ∨ (zrz mj = 1 ∧ zrt mj = some .boolean) ∨ (zrz mj = 2 ∧ zrt mj = some .char) ∨ (zrz mj ≠ 0 ∧ zrz mj ≠ 1 ∧ zrz mj ≠ 2 ∧ zrt mj = some .byte) := by
          split at hrz
          · rename_i e0
            simp only [Bool.and_eq_true, decide_eq_true_eq] at hrz
            rcases hrk2 with h | h | h | h
            · exact Or.inl ⟨e0, h⟩
            · exact absurd h hrz.1.1
            · exact absurd h hrz.1.2
            · exact absurd h hrz.2
          · rename_i e0
            exact Or.inr (Or.inl ⟨e0, of_decide_eq_true hrz⟩)
          · rename_i e0
            exact Or.inr (Or.inr (Or.inl ⟨e0, of_decide_eq_true hrz⟩))
          · rename_i e0 e1 e2
            exact Or.inr (Or.inr (Or.inr ⟨e0, e1, e2, of_decide_eq_true hrz⟩))
        rcases hz4 with ⟨hz, h⟩ | ⟨hz, h⟩ | ⟨hz, h⟩ | ⟨hz0, hz1, hz2, h⟩
        · exact W.iret hx hb (hr.trans h) (post (some (.int x)) rfl) hS'.2.2 (zdec hcd).1
        · have hbl : x = 0 ∨ x = 1 := by
            rcases hbz with h9 | ⟨-, h9⟩ | ⟨h9, -⟩ | h9
            · rw [hz] at h9; cases h9
            · exact of_decide_eq_true h9
            · rw [hz] at h9; cases h9
            · exact absurd hz h9.2.1
          exact W.zret hx hb (hr.trans h) (by rcases hbl with rfl | rfl <;> rfl) (post (some (.int x)) rfl) hS'.2.2 (zdec hcd).1
        · have hch : (x.toUInt32 % 65536).toInt32 = x := by
            rcases hbz with h9 | ⟨h9, -⟩ | ⟨-, h9⟩ | h9
            · rw [hz] at h9; cases h9
            · rw [hz] at h9; cases h9
            · exact h9
            · exact absurd hz h9.2.2.1
          exact W.zret hx hb (hr.trans h) (by show Value.int (x.toUInt32 % 65536).toInt32 = Value.int x; rw [hch]) (post (some (.int x)) rfl) hS'.2.2 (zdec hcd).1
        · have hch : x.toInt8.toInt32 = x := by
            rcases hbz with h9 | ⟨h9, -⟩ | ⟨h9, -⟩ | h9
            · exact absurd h9 hz0
            · exact absurd h9 hz1
            · exact absurd h9 hz2
            · exact h9.2.2.2
          exact W.zret hx hb (hr.trans h) (by show Value.int x.toInt8.toInt32 = Value.int x; rw [hch]) (post (some (.int x)) rfl) hS'.2.2 (zdec hcd).1
      · obtain ⟨hcd, hrk0⟩ := hret
        rw [hrk0] at hrk
        exact W.lret hx hb (hr.trans (of_decide_eq_true hrk)) (post (some (.long x)) rfl) hS'.2.2 (zdec hcd).1
      · obtain ⟨hcd, hrk0⟩ := hret
        rw [hrk0] at hrk
        have hrk2 : ∃ nm, zrt mj = some (.object nm) := by
          cases hz : zrt mj with
          | none => rw [hz] at hrk; cases hrk
          | some ty =>
            rw [hz] at hrk
            cases ty <;> first | exact ⟨_, rfl⟩ | cases hrk
        obtain ⟨nm, hnm⟩ := hrk2
        refine W.aret (v := zv φ' (.inr (.inr o))) hx hb (hr.trans hnm) (Or.inl ⟨nm, rfl⟩) ?_ (post (some (zv φ' (.inr (.inr o)))) rfl) hS'.2.2 (zdec hcd).1
        rcases o with _ | q
        · exact Or.inl rfl
        · exact Or.inr ⟨_, rfl⟩
end MET
