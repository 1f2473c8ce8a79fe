/-! THE LAW'S LOOK: isLine, what TownExchange.look throws -/
theorem zti0 {c : Nat} : (0 : Nat) = c - c := (Nat.sub_self c).symm
def zlnr (a : Int32) (S : ZS) : Int32 := if 0 ≤ a ∧ a < S.1 0 0 3 then 1 else 0
/-- a machine that knows isLine alone -/
def zcl1 (mj : Nat) (av : List ZV) (S : ZS) : Option ZX := match av with
  | [.inr (.inr (some (t, i))), .inl a] => if mj = 1 ∧ t = 0 ∧ i = 0 then some (some (.inl (zlnr a S)), S) else none
  | _ => none
theorem zcl1_inv {mj : Nat} {av : List ZV} {S S' : ZS} {v : Option ZV} (h : zcl1 mj av S = some (v, S')) : 1 = mj ∧ ∃ a, [.inr (.inr (some (0, 0))), .inl a] = av ∧ some (.inl (zlnr a S)) = v ∧ S = S' := by
  unfold zcl1 at h
  split at h
  · rename_i t i a
    split at h
    · rename_i h2
      obtain ⟨rfl, rfl, rfl⟩ := h2
      cases h
      exact ⟨rfl, a, rfl, rfl, rfl⟩
    · cases h
  · cases h
theorem zd1_0 : decode (zby 1) 0 = .ok (.iload_n 1, 1) := by decide +kernel
theorem zd1_1 : decode (zby 1) 1 = .ok (.ifCond .lt 15, 3) := by decide +kernel
theorem zd1_4 : decode (zby 1) 4 = .ok (.iload_n 1, 1) := by decide +kernel
theorem zd1_5 : decode (zby 1) 5 = .ok (.aload_n 0, 1) := by decide +kernel
theorem zd1_9 : decode (zby 1) 9 = .ok (.if_icmp .ge 7, 3) := by decide +kernel
theorem zd1_12 : decode (zby 1) 12 = .ok (.iconst 1, 1) := by decide +kernel
theorem zd1_13 : decode (zby 1) 13 = .ok (.goto 4, 3) := by decide +kernel
theorem zd1_16 : decode (zby 1) 16 = .ok (.iconst 0, 1) := by decide +kernel
theorem zd1_17 : decode (zby 1) 17 = .ok (.ireturn, 1) := by decide +kernel
theorem zd124_0 : decode (zby 124) 0 = .ok (.aload_n 0, 1) := by decide +kernel
theorem zd124_4 : decode (zby 124) 4 = .ok (.iload_n 1, 1) := by decide +kernel
theorem zd124_8 : decode (zby 124) 8 = .ok (.ifCond .eq 12, 3) := by decide +kernel
theorem zd124_11 : decode (zby 124) 11 = .ok (.iload_n 2, 1) := by decide +kernel
theorem zd124_12 : decode (zby 124) 12 = .ok (.ifCond .lt 8, 3) := by decide +kernel
theorem zd124_15 : decode (zby 124) 15 = .ok (.iload_n 2, 1) := by decide +kernel
theorem zd124_16 : decode (zby 124) 16 = .ok (.iconst 5, 1) := by decide +kernel
theorem zd124_17 : decode (zby 124) 17 = .ok (.if_icmp .le 13, 3) := by decide +kernel
theorem zd124_20 : decode (zby 124) 20 = .ok (.new 223, 3) := by decide +kernel
theorem zd124_23 : decode (zby 124) 23 = .ok (.dup, 1) := by decide +kernel
theorem zd124_24 : decode (zby 124) 24 = .ok (.ldc 225, 2) := by decide +kernel
theorem zd124_26 : decode (zby 124) 26 = .ok (.invokespecial 227, 3) := by decide +kernel
theorem zd124_29 : decode (zby 124) 29 = .ok (.athrow, 1) := by decide +kernel
set_option maxHeartbeats 4000000 in
set_option maxRecDepth 20000 in
theorem zmt_line (l : Launch) : zMt l 0 zcl1 := by
  intro mj av S v S' hmj hcl φ cA D L xs o sz hSk
  obtain ⟨hm, a, hav, hv0, hS0⟩ := zcl1_inv hcl
  subst hm
  subst hav
  subst hv0
  subst hS0
  rw [Nat.sub_self, Nat.sub_self]
  refine Met.ofW (cc := zby 1) (maxL := zmx 1) (ret := zrt 1) (by decide +kernel) rfl ?_
  intro p e s m args below meth c s₁ B hml hv
  obtain ⟨rfl, hsz, hP, hK, hD0, hdv, hF, hN, hx1, hl1, ho1, hKR⟩ := hv
  subst hsz
  have hx := B.exec
  have hb := B.bytes
  have hr := B.returns
  have hts0 := atoms_spec (ws := zwsm 1) B.pre
  have hown : s.vm.findClass (zRn (zoc 1)) = some m.cls := findClass_of_methodNamed B.named
  have hC : zC p s m (([.inr (.inr (some (0, 0))), .inl a] : List ZV).map (zv φ)).toArray c 1 cA D := ⟨hx, hb, hml, by decide, by decide, hown, fun w hw => hts0 w (List.mem_cons_of_mem _ hw), hN, hK⟩
  have hHp : zHp φ cA D (va_A (zw φ cA S) s.heap.size) s L xs o s.heap [] S := ⟨hP, hD0.self, va_S.rf, hdv, hF, fun q h => Or.inr h, hx1, hl1, ho1, hKR⟩
  have hl := lv_entry ([.ref (φ 0 0), .int a]) (n := 2) (Nat.le_of_ble_eq_true rfl)
  rw [lg_entry_eq]
  show W p l e _ s m _ below meth c s.heap [] 0 0 _ (F0 m 0 (lg_sl ([.ref (φ 0 0), .int a]) ++ List.replicate (2 - (lg_sl ([.ref (φ 0 0), .int a])).length) Slot.unset).toArray [])
  generalize (lg_sl ([.ref (φ 0 0), .int a]) ++ List.replicate (2 - (lg_sl ([.ref (φ 0 0), .int a])).length) Slot.unset).toArray = ls at hl ⊢
  have hl : lv_has ls 2 [(0, .ref (φ 0 0)), (1, .int a)] := hl
  have fin : ∀ x : Int32, x = zlnr a S → W p l e (headSpec (zwsm 1) (zrm 0 S S)).room s m (([.inr (.inr (some (0, 0))), .inl a] : List ZV).map (zv φ)).toArray below meth c s.heap [] 0 0 (MQ below (zQm φ cA D L xs o S S (some (.inl (zlnr a S))) (va_A (zw φ cA S) s.heap.size)) (([.inr (.inr (some (0, 0))), .inl a] : List ZV).map (zv φ)).toArray s 0 0 (va_A (zw φ cA S) s.heap.size)) (F0 m 17 ls [.int x]) := by
    intro x hxe
    have hbl : x = 0 ∨ x = 1 := by
      rw [hxe]
      unfold zlnr
      split
      · exact Or.inr rfl
      · exact Or.inl rfl
    exact W.zret hx hb (hr.trans (show zrt 1 = some .boolean from rfl)) (by rcases hbl with rfl | rfl <;> rfl) (fun t ht hW => ⟨⟨φ, by rw [← hxe]; rfl, zEx.rf _ _, by rw [ht]; exact hP, hD0.self, hdv, hx1, hl1, ho1, fun w hw => by cases hw; trivial⟩, va_S.rf.F ht⟩) (fun _ h => by cases h) zd1_17
  refine lv_iload_n hx hb zd1_0 rfl (lv_at hl 1 rfl) ?_
  refine lv_if_lt hx hb zd1_1 (tgt := 16) rfl (fun h => ?_) (fun h => ?_)
  · exact lv_iconst hx hb zd1_16 (v := (0 : Int32)) rfl (fin 0 (if_neg (fun q => absurd h (Int32.not_lt.mpr q.1))).symm)
  · refine lv_iload_n hx hb zd1_4 rfl (lv_at hl 1 rfl) ?_
    refine lv_aload_n hx hb zd1_5 rfl (lv_at hl 0 rfl) ?_
    refine zgetf_ok (t := 0) (f := 3) (ty := 0) (i := 0) (st := [.inl a]) hC hHp (show zcode 1 6 = some (.getfield 37, 3) from by rfl) rfl (by show 0 < 1; decide) (fun _ _ => ?_)
    refine lv_icmp_ge (x := a) (y := S.1 0 0 3) hx hb zd1_9 (tgt := 16) rfl (fun h2 => ?_) (fun h2 => ?_)
    · exact lv_iconst hx hb zd1_16 (v := (0 : Int32)) rfl (fin 0 (if_neg (fun q => absurd q.2 (Int32.not_lt.mpr h2))).symm)
    · refine lv_iconst hx hb zd1_12 (v := (1 : Int32)) rfl ?_
      exact lv_goto hx hb zd1_13 (tgt := 17) rfl (fin 1 (if_pos ⟨Int32.not_lt.mp h, Int32.not_le.mp h2⟩).symm)

theorem zW0 {p : Program} {l : Launch} {e : Env} {R : Room} {s : State} {m : MethodId} {args : Array Value} {below : List Frame} {meth : Method} {c : Code} {H : Heap} {locs : List Loc} {Q : State → Prop} {g : JFrame} (c0 s0 : Nat) (h : W p l e R s m args below meth c H locs (c0 - c0) (s0 - s0) Q g) : W p l e R s m args below meth c H locs 0 0 Q g := by
  rw [Nat.sub_self, Nat.sub_self] at h
  exact h
theorem zxnw_ot : ∀ w ∈ zxnw, w.onTables = true := by decide +kernel
theorem zxat_ot : ∀ w ∈ Cond.classLink "TownExchange" 223 "java/util/NoSuchElementException" :: Cond.initialized "java/util/NoSuchElementException" :: zxat, vx_ot w = true := by decide +kernel
theorem zxat_all {args : Array Value} {s : State} (hts : ∀ w ∈ zgd, w.before args s = true) (hnw : ∀ w ∈ zxnw, va_Nw w s) : ∀ w ∈ zxat, w.before args s = true :=
  vx_hat (L := zxat) (B := zxnw) (fun w hw => by
    have hg := (List.mem_filter.mp hw).2
    rw [zxat_good] at hw
    obtain ⟨i, -, hi⟩ := List.mem_filterMap.mp hw
    exact hts _ (zgd_of hi hg)) (fun w hw => by rw [zxat_bad] at hw; exact hw) (fun w hw => va_Nw.use (zxnw_ot w hw) (hnw w hw))
set_option maxHeartbeats 4000000 in
set_option maxRecDepth 20000 in
/-- TownExchange.look of what there isn't: it throws -/
theorem zlookX (l : Launch) (hlt : l.stackTraces = false) (φ : ZPh) (cA : Nat → ClassId) (D : va_G) (L : Nat) (xs : Nat → Int32) (o : Option ZR) (S : ZS) (sz : Nat) (a b : Int32) (hbad : ¬ (0 ≤ a ∧ a < S.1 0 0 3 ∧ 0 ≤ b ∧ b ≤ 5)) :
    vx_Met l (zyn 124) (zwsm 124) ({ frames := 9, cells := 1, slots := 6, locals := 448 }) (va_Pc [.ref (φ 10 0), .int a, .int b] (zPre φ cA D L xs o S sz)) (va_Qi (fun (_ : Int32) (_ : Unit) => False) (fun _ _ => True) (va_A (zw φ cA S) sz))
      (vx_X (fun _ : ZPh => True) (fun E u t => E = "java/util/NoSuchElementException" ∧ zEx S.2.2.2.1 φ u ∧ va_P D vwCl (zw u cA S) t.heap ∧ va_D (va_A (zw φ cA S) sz) (zw u cA S)) (va_A (zw φ cA S) sz)) 1 6 (va_A (zw φ cA S) sz) := by
  refine vx_ofW (ws' := zgd) (cc := zby 124) (maxL := zmx 124) (ret := zrt 124) (by decide +kernel) rfl ?_
  intro p e s m args below meth c s₁ B hml htab hv
  obtain ⟨rfl, hsz, hP, hK, hD0, hdv, hF, hN, hx1, hl1, ho1, hKR⟩ := hv
  subst hsz
  have hx := B.exec
  have hb := B.bytes
  have hlocks := B.notSynchronized
  have hts0 := atoms_spec (ws := zwsm 124) B.pre
  have hts : ∀ w ∈ zgd, w.before _ s = true := fun w hw => hts0 w (List.mem_cons_of_mem _ hw)
  have hown : s.vm.findClass (zRn (zoc 124)) = some m.cls := findClass_of_methodNamed B.named
  have hC : zC p s m ([.ref (φ 10 0), .int a, .int b] : List Value).toArray c 124 cA D := ⟨hx, hb, hml, by decide, by decide, hown, hts, hN, hK⟩
  have hHp : zHp φ cA D (va_A (zw φ cA S) s.heap.size) s L xs o s.heap [] S := ⟨hP, hD0.self, va_S.rf, hdv, hF, fun q h => Or.inr h, hx1, hl1, ho1, hKR⟩
  have hl := lv_entry ([.ref (φ 10 0), .int a, .int b]) (n := 4) (Nat.le_of_ble_eq_true rfl)
  rw [lg_entry_eq]
  show W p l e _ s m _ below meth c s.heap [] 0 0 _ (F0 m 0 (lg_sl ([.ref (φ 10 0), .int a, .int b]) ++ List.replicate (4 - (lg_sl ([.ref (φ 10 0), .int a, .int b])).length) Slot.unset).toArray [])
  generalize (lg_sl ([.ref (φ 10 0), .int a, .int b]) ++ List.replicate (4 - (lg_sl ([.ref (φ 10 0), .int a, .int b])).length) Slot.unset).toArray = ls at hl ⊢
  have hl : lv_has ls 4 [(0, .ref (φ 10 0)), (1, .int a), (2, .int b)] := hl
  refine lv_aload_n hx hb zd124_0 rfl (lv_at hl 0 rfl) ?_
  refine zgetf_ok (t := 10) (f := 1) (ty := 2) (i := 0) (st := []) hC hHp (show zcode 124 1 = some (.getfield 21, 3) from by rfl) rfl (by show 0 < 1; decide) (fun _ _ => ?_)
  show W p l e _ s m _ below meth c s.heap [] 0 0 _ (F0 m 4 ls [.ref (φ 0 0)])
  refine lv_iload_n hx hb zd124_4 rfl (lv_at hl 1 rfl) ?_
  refine zW0 (zkc S) (zks S) ?_
  refine zinv_ok (st := [.inl a, .inr (.inr (some (0, 0)))]) (c0 := zkc S) (s0 := zks S) (d := 0) (S' := S) (w := ([.inr (.inr (some (0, 0))), .inl a], [])) (v := some (.inl (zlnr a S))) hC hHp (zmt_line l) (by show 2 * 0 + 9 ≤ 9; decide) (by show 48 * (0 + 1) + 400 ≤ 448; decide) (show zcode 124 5 = some (.invokevirtual 170, 3) from by rfl) (Or.inl rfl) (q := (1, 2, 1)) rfl (by decide) rfl (Nat.zero_le 4) (by show zcl1 1 _ S = _; unfold zcl1; exact if_pos ⟨rfl, rfl, rfl⟩) rfl
    (fun v hv => by
      simp only [List.mem_cons, List.not_mem_nil, or_false] at hv
      rcases hv with rfl | rfl
      · exact trivial
      · intro r hr; cases hr; exact Nat.zero_lt_one) ⟨Nat.le_refl _, Nat.le_refl _, Nat.le_refl _⟩ (Nat.le_refl _) (Nat.le_refl _) ⟨Nat.le_add_right _ _, Nat.le_add_right _ _⟩ hl.1 (fun φ' H1 locs1 hE1 hH1 _ => ?_)
  rw [Nat.sub_self, Nat.sub_self]
  show W p l e _ s m _ below meth c H1 locs1 0 0 _ (F0 m 8 ls [.int (zlnr a S)])
  have thr : W p l e (headSpec (zwsm 124) { frames := 9, cells := 1, slots := 6, locals := 448 }).room s m ([.ref (φ 10 0), .int a, .int b] : List Value).toArray below meth c H1 locs1 0 0 (vx_MQ below (va_Qi (fun (_ : Int32) (_ : Unit) => False) (fun _ _ => True) (va_A (zw φ cA S) s.heap.size)) (vx_X (fun _ : ZPh => True) (fun E u t => E = "java/util/NoSuchElementException" ∧ zEx S.2.2.2.1 φ u ∧ va_P D vwCl (zw u cA S) t.heap ∧ va_D (va_A (zw φ cA S) s.heap.size) (zw u cA S)) (va_A (zw φ cA S) s.heap.size)) ([.ref (φ 10 0), .int a, .int b] : List Value).toArray s 1 6 (va_A (zw φ cA S) s.heap.size)) (F0 m 20 ls []) := by
    obtain ⟨hP1, hD1, hS1, hdv1, hF1, hA1, -, -, -, hKR1⟩ := hH1
    obtain ⟨-, ⟨sa, hstr⟩, hnw⟩ := hKR1
    have hFx := hF1.2.2.2.2.2.2.2.2.2.2.2.2
    exact zthrowX zx_d0 zx_d1 zx_d2 zx_d5 hx hb hlt (own := "TownExchange") (cls := "java/util/NoSuchElementException") (text := "no such line, or nothing such to look at") (names := ["java/lang/RuntimeException", "java/lang/Exception"]) (ik := 223) (is := 225) (ic := 227) (sa := sa) (A := va_A (zw φ cA S) s.heap.size) hown (by decide +kernel) (by decide +kernel) (zjw (i := 1228) (by decide +kernel) (by rfl) hts) (zjw (i := 110) (by decide +kernel) (by rfl) hts) hstr (zxat_all hts hnw) zxat_ot hFx.1 hFx.2 hS1 (hl.1.trans hml.symm) zd124_20 zd124_23 zd124_24 zd124_26 zd124_29 (fun x hx => (htab x hx).elim) (by show 2 + 3 < 9; decide) (by show 0 + (13 * (2 + 1) + 43) ≤ 448; decide) (by show 0 + 1 ≤ 1; decide) (by show 0 + 6 ≤ 6; decide) hlocks
      (fun t hvm hsz hkp => ⟨φ', trivial, ⟨rfl, hE1, hP1.kept (fun k q hk => hkp q.1 ((hP1 k q hk).lt)), hD1⟩, ⟨Nat.le_trans hS1.1 hsz, fun q h1 h2 => (hkp q (Nat.lt_of_lt_of_le h1 hS1.1)).trans (hS1.2.1 q h1 h2)⟩⟩) hS1.2.2 (Nat.le_refl _) (Nat.le_refl _)
  refine lv_if_eq hx hb zd124_8 (tgt := 20) rfl (fun _ => thr) (fun h => ?_)
  have hin : 0 ≤ a ∧ a < S.1 0 0 3 := by
    unfold zlnr at h
    by_cases h2 : 0 ≤ a ∧ a < S.1 0 0 3
    · exact h2
    · rw [if_neg h2] at h
      exact absurd rfl h
  refine lv_iload_n hx hb zd124_11 rfl (lv_at hl 2 rfl) ?_
  refine lv_if_lt hx hb zd124_12 (tgt := 20) rfl (fun _ => thr) (fun hb0 => ?_)
  refine lv_iload_n hx hb zd124_15 rfl (lv_at hl 2 rfl) ?_
  refine lv_iconst hx hb zd124_16 (v := (5 : Int32)) rfl ?_
  refine lv_icmp_le hx hb zd124_17 (tgt := 30) rfl (fun h5 => absurd ⟨hin.1, hin.2, Int32.not_lt.mp hb0, h5⟩ hbad) (fun _ => thr)
