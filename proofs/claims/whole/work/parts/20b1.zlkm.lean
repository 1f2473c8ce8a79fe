/-! THE LAW'S LOOK: it catches -/
theorem zdL_0 : decode method_3_code 0 = .ok (.aload_n 3, 1) := by decide +kernel
theorem zdL_1 : decode method_3_code 1 = .ok (.iconst 0, 1) := by decide +kernel
theorem zdL_2 : decode method_3_code 2 = .ok (.aload_n 0, 1) := by decide +kernel
theorem zdL_3 : decode method_3_code 3 = .ok (.iload_n 1, 1) := by decide +kernel
theorem zdL_4 : decode method_3_code 4 = .ok (.iload_n 2, 1) := by decide +kernel
theorem zdL_5 : decode method_3_code 5 = .ok (.invokevirtual 7, 3) := by decide +kernel
theorem zdL_8 : decode method_3_code 8 = .ok (.i2l, 1) := by decide +kernel
theorem zdL_9 : decode method_3_code 9 = .ok (.lastore, 1) := by decide +kernel
theorem zdL_10 : decode method_3_code 10 = .ok (.goto 7, 3) := by decide +kernel
theorem zdL_13 : decode method_3_code 13 = .ok (.astore 4, 2) := by decide +kernel
theorem zdL_15 : decode method_3_code 15 = .ok (.iconst 1, 1) := by decide +kernel
theorem zdL_16 : decode method_3_code 16 = .ok (.ireturn, 1) := by decide +kernel
theorem zdL_17 : decode method_3_code 17 = .ok (.iconst 0, 1) := by decide +kernel
theorem zdL_18 : decode method_3_code 18 = .ok (.ireturn, 1) := by decide +kernel
def zwlk : List Cond := .codeWith yL_look method_3_code 5 (some .int) [(0, 10, 13, 13)] :: zgd
set_option maxRecDepth 100000 in
theorem zwlk_in : ∀ w ∈ zwlk, w ∈ zgd := by
  intro w hw
  rcases List.mem_cons.mp hw with rfl | hw
  · exact zgd_of (i := 1222) (by rfl) (by first | rfl | simp [goodWord, Cond.onTables, Cond.keeps, Cond.steady])
  · exact hw
section LK2
variable {p : Program} {s : State} {m : MethodId} {args : Array Value} {c : Code} {H : Heap} {locs : List Loc}
variable {cA : Nat → ClassId} {D : va_G} {A : Nat → Prop} {φ : ZPh} {L : Nat} {xs : Nat → Int32} {o : Option ZR} {S : ZS}
theorem zpre_of2 (hK : va_K D vwCl (zty cA) s) (htn : ∀ w ∈ zns, va_Nw w s) (hH : zHp φ cA D A s L xs o H locs S) {U : State} (hU : U.heap = H) (hW : s.WarmedH U.vm) : zPre φ cA D L xs o S H.size U := by
  obtain ⟨hP, hD, hS, hdv, hF, hA, hxs, hl, ho, hKR⟩ := hH
  refine ⟨by rw [hU], by rw [hU]; exact hP, hK.moved hW.alike, hD.weaken (fun _ _ _ _ => trivial), hdv, ?_, zNw_warm hW htn, hxs, hl, ho, hKR.warm hW⟩
  rw [hU]
  refine ((hF.kept hS.2.1).moved hW.alike).narrow fun q hq hq2 => ?_
  rcases hq2 with ⟨k, ee, hq2⟩ | hq2
  · exact hD.2 k (q, ee) hq2
  · omega
end LK2
theorem zci_inv {cl : Nat → List ZV → ZS → Option ZX} {mj : Nat} {av : List ZV} {S : ZS} {r : Int32 × ZS} (h : zci cl mj av S = some r) : cl mj av S = some (some (.inl r.1), r.2) := by
  unfold zci at h
  cases hc : cl mj av S with
  | none => rw [hc] at h; cases h
  | some q =>
    rw [hc] at h
    obtain ⟨v, S1⟩ := q
    have h : zoi (v, S1) = some r := h
    rcases v with _ | (x | x | x)
    · cases h
    · cases h; rfl
    · cases h
    · cases h
set_option maxHeartbeats 4000000 in
set_option maxRecDepth 20000 in
theorem zlkM (l : Launch) (hlt : l.stackTraces = false) {d : Nat} {cl : Nat → List ZV → ZS → Option ZX} (hMt : zMt l d cl) (φ : ZPh) (cA : Nat → ClassId) (D : va_G) (L : Nat) (xs : Nat → Int32) (o : Option ZR) (S S' : ZS) (sz : Nat) (a b : Int32) (v : Option ZV)
    (hcl : zprim cl 1008 [.inr (.inr (some (10, 0))), .inl a, .inl b, .inr (.inr (some (17, 0)))] S = some (v, S')) :
    Met l yL_look zwlk ({ frames := 2 * d + 10, cells := zkc S' - zkc S, slots := zks S' - zks S, locals := 48 * d + 471 }) (va_Pc (([.inr (.inr (some (10, 0))), .inl a, .inl b, .inr (.inr (some (17, 0)))] : List ZV).map (zv φ)) (zPre φ cA D L xs o S sz)) (zQm φ cA D L xs o S S' v (va_A (zw φ cA S) sz)) (zkc S' - zkc S) (zks S' - zks S) (va_A (zw φ cA S) sz) := by
  have hcl2 : (if 0 ≤ a ∧ a < S.1 0 0 3 ∧ 0 ≤ b ∧ b ≤ 5 then (zci cl zlook [zr 10 0, zi a, zi b] S).bind (fun r => some (some (.inl 0), (r.2.1, zu r.2.2.1 17 0 0 r.1.toInt64, r.2.2.2)))
      else some (some (.inl 1), (S.1, S.2.1, S.2.2.1, S.2.2.2.1, S.2.2.2.2.1 + 1, S.2.2.2.2.2 + 8))) = some (v, S') := hcl
  clear hcl
  refine va_MetW (cc := method_3_code) (maxL := 5) (ret := some .int) (hh := [(0, 10, 13, 13)]) (ws' := zgd) (by decide +kernel) rfl ?_
  intro p e s m args below meth c s₁ B hml hv
  obtain ⟨rfl, hsz, hP, hK, hD0, hdv, hF, hN, hx1, hl1, ho1, hKR⟩ := hv
  subst hsz
  have hx := B.exec
  have hb := B.bytes
  have hr := B.returns
  have hts0 := atoms_spec (ws := zwlk) B.pre
  have hts : ∀ w ∈ zgd, w.before _ s = true := fun w hw => hts0 w (List.mem_cons_of_mem _ hw)
  have hown : s.vm.findClass "TownExchangeLaw" = some m.cls := findClass_of_methodNamed B.named
  have htab := vx_table (x := yL_look) B (hts0 _ List.mem_cons_self)
  have hHp : zHp φ cA D (va_A (zw φ cA S) s.heap.size) s L xs o s.heap [] S := ⟨hP, hD0.self, va_S.rf, hdv, hF, fun q h => Or.inr h, hx1, hl1, ho1, hKR⟩
  have hl := lv_entry ([.ref (φ 10 0), .int a, .int b, .ref (φ 17 0)]) (n := 5) (Nat.le_of_ble_eq_true rfl)
  rw [lg_entry_eq]
  show W p l e _ s m _ below meth c s.heap [] 0 0 _ (F0 m 0 (lg_sl ([.ref (φ 10 0), .int a, .int b, .ref (φ 17 0)]) ++ List.replicate (5 - (lg_sl ([.ref (φ 10 0), .int a, .int b, .ref (φ 17 0)])).length) Slot.unset).toArray [])
  generalize (lg_sl ([.ref (φ 10 0), .int a, .int b, .ref (φ 17 0)]) ++ List.replicate (5 - (lg_sl ([.ref (φ 10 0), .int a, .int b, .ref (φ 17 0)])).length) Slot.unset).toArray = ls at hl ⊢
  have hl : lv_has ls 5 [(0, .ref (φ 10 0)), (1, .int a), (2, .int b), (3, .ref (φ 17 0))] := hl
  have fin : ∀ (w : Int32) (φ' : ZPh) (H : Heap) (locs : List Loc) (cells slots pc : Nat) (ls : Array Slot), v = some (.inl w) → decode method_3_code pc = .ok (.ireturn, 1) → zEx S.2.2.2.1 φ φ' → zHp φ' cA D (va_A (zw φ cA S) s.heap.size) s L xs o H locs S' → cells ≤ zkc S' - zkc S → slots ≤ zks S' - zks S →
      W p l e (headSpec zwlk { frames := 2 * d + 10, cells := zkc S' - zkc S, slots := zks S' - zks S, locals := 48 * d + 471 }).room s m (([.inr (.inr (some (10, 0))), .inl a, .inl b, .inr (.inr (some (17, 0)))] : List ZV).map (zv φ)).toArray below meth c H locs cells slots (MQ below (zQm φ cA D L xs o S S' v (va_A (zw φ cA S) s.heap.size)) (([.inr (.inr (some (10, 0))), .inl a, .inl b, .inr (.inr (some (17, 0)))] : List ZV).map (zv φ)).toArray s (zkc S' - zkc S) (zks S' - zks S) (va_A (zw φ cA S) s.heap.size)) (F0 m pc ls [.int w]) := by
    intro w φ' H locs cells slots pc ls hv hd hE hH hc hs
    obtain ⟨hP', hD', hS', hdv', hF', hA', hx', hl', ho', -⟩ := hH
    refine W.widen (k := zkc S' - zkc S) (n := zks S' - zks S) hc hs ?_
    exact W.iret hx hb hr (fun t ht hW => ⟨⟨φ', by rw [hv]; rfl, hE, by rw [ht]; exact hP', hD', hdv', hx', hl', ho', fun w hw => by rw [hv] at hw; cases hw; trivial⟩, hS'.F ht⟩) hS'.2.2 hd
  refine lv_aload_n hx hb zdL_0 rfl (lv_at hl 3 rfl) ?_
  refine lv_iconst hx hb zdL_1 (v := (0 : Int32)) rfl ?_
  refine lv_aload_n hx hb zdL_2 rfl (lv_at hl 0 rfl) ?_
  refine lv_iload_n hx hb zdL_3 rfl (lv_at hl 1 rfl) ?_
  refine lv_iload_n hx hb zdL_4 rfl (lv_at hl 2 rfl) ?_
  have hrcv : ∃ cell : Cell, s.heap[φ 10 0]? = some cell ∧ cell.vm.isStatics = false ∧ s.vm.findClass (zyn 124).cls = some cell.cls := by
    obtain ⟨k0, -, hw0⟩ := zw_at (φ := φ) (cA := cA) (S := S) (t := 10) (i := 0) rfl Nat.zero_lt_one
    have hw1 : (zw φ cA S)[k0]? = some (φ 10 0, .inr (10, zfs φ S 10 0)) := hw0
    exact va_recv hK hP (zCl_at 10 (Nat.zero_le _) (by decide)) hw1
  have hcat : 2 * 0 + (([.int 0, .ref (φ 17 0)] : List Value).map fun v => v.category).sum ≤ 8 := Nat.le_of_ble_eq_true rfl
  by_cases hg : 0 ≤ a ∧ a < S.1 0 0 3 ∧ 0 ≤ b ∧ b ≤ 5
  · rw [if_pos hg] at hcl2
    cases hci : zci cl zlook [zr 10 0, zi a, zi b] S with
    | none => rw [hci] at hcl2; cases hcl2
    | some r =>
      rw [hci] at hcl2
      have hc1 := zci_inv hci
      obtain ⟨x, S1⟩ := r
      have e9 : some (some (.inl 0), (S1.1, zu S1.2.1 17 0 0 x.toInt64, S1.2.2)) = some (v, S') := hcl2
      have ev : v = some (.inl 0) := by cases e9; rfl
      have eS : S' = (S1.1, zu S1.2.1 17 0 0 x.toInt64, S1.2.2) := by cases e9; rfl
      have hM := hMt 124 [zr 10 0, zi a, zi b] S (some (.inl x)) S1 (by decide) hc1 φ cA D L xs o s.heap.size (fun v hv => by
        simp only [List.mem_cons, List.not_mem_nil, or_false] at hv
        rcases hv with rfl | rfl | rfl
        · intro r hr; cases hr; exact Nat.zero_lt_one
        · exact trivial
        · exact trivial)
      have ec : zkc S' - zkc S = zkc S1 - zkc S := by rw [eS]
      have es : zks S' - zks S = zks S1 - zks S := by rw [eS]
      refine zrun_W hHp (va_runV (Ts := zgd) (own := "TownExchangeLaw") (nL := 5) (As := [.int a, .int b]) (rest := [.int 0, .ref (φ 17 0)]) ⟨hx, hb, hml, hown, hts⟩ hM ⟨callB_of 2 hts (zgoodIn (zwsm_in (mj := 124) (by decide))) rfl rfl rfl (zjw (i := 85) (by decide +kernel) (by rfl) hts) (zjw (i := 1224) (by decide +kernel) (by rfl) hts) ⟨by decide, by decide, by decide +kernel⟩ ⟨by show 2 * d + 8 + 1 ≤ 2 * d + 10; omega, by show 8 + (4 + 11) + (48 * d + 400) ≤ 48 * d + 471; omega⟩, (zjw (i := 1225) (by decide +kernel) (by rfl) hts), (zjw (i := 1226) (by decide +kernel) (by rfl) hts)⟩ ⟨zpre_blind, hrcv, fun U hU hW => ⟨rfl, zpre_of2 hK hN hHp hU hW⟩⟩ rfl rfl hl.1 rfl hcat zdL_5 ⟨by show 0 + (zkc S1 - zkc S) ≤ zkc S' - zkc S; omega, by show 0 + (zks S1 - zks S) ≤ zks S' - zks S; omega⟩) (fun φ' H1 locs1 hE1 hH1 hv1 => ?_)
      show W p l e _ s m _ below meth c H1 locs1 (0 + (zkc S1 - zkc S)) (0 + (zks S1 - zks S)) _ (F0 m 8 ls [.int x, .int 0, .ref (φ 17 0)])
      refine lv_i2l hx hb zdL_8 rfl ?_
      have hH2 := hH1
      obtain ⟨hP2, hD2, hS2, hdv2, hF2, hA2, -⟩ := hH1
      obtain ⟨k0, hk0, hw0, h16, h12⟩ := zarr_at (φ := φ') (cA := cA) (S := S1) (t := 17) (i := 0) (by decide : zaty 17 ≤ 4) (by show 0 < 1; decide)
      have hce : zce φ' cA (S1.1, zu S1.2.1 17 0 0 x.toInt64, S1.2.2) 17 0 = .inl (cA 3, zaln 17, .inr (.inl (vp_updL (S1.2.1 17 0) 0 x.toInt64))) := by
        rw [zce_arr h12]
        unfold zarr
        rw [show zaty 17 = 3 from rfl]
        simp only [zu_self]
        rfl
      unfold zarr at hw0
      rw [show zaty 17 = 3 from rfl, hE1.1 17 (by decide) (by decide) (by decide)] at hw0
      refine va_last (i := (0 : Int32)) hx hb hK hP2 hD2 hS2 k0 3 hw0 rfl (zin_vp (by decide +kernel)) zdL_9 (fun H3 locs3 q1 q2 q3 => ?_)
      rw [show (Sum.inl (cA 3, zaln 17, Sum.inr (Sum.inl (vp_updL (S1.2.1 17 0) (0 : Int32).toNatClampNeg x.toInt64))) : va_E) = zce φ' cA (S1.1, zu S1.2.1 17 0 0 x.toInt64, S1.2.2) 17 0 from hce.symm, ← hE1.1 17 (by decide) (by decide) (by decide)] at q1 q2
      have hH3 := hH2.put zOff.L h16 hdv2 hk0 q1 q2 q3
      rw [← eS] at hH3
      refine lv_goto hx hb zdL_10 (tgt := 17) rfl ?_
      refine lv_iconst hx hb zdL_17 (v := (0 : Int32)) rfl ?_
      exact fin 0 φ' H3 locs3 _ _ 18 ls ev zdL_18 hE1 hH3 (by omega) (by omega)
  · rw [if_neg hg] at hcl2
    have ev : v = some (.inl 1) := by cases hcl2; rfl
    have eS : S' = (S.1, S.2.1, S.2.2.1, S.2.2.2.1, S.2.2.2.2.1 + 1, S.2.2.2.2.2 + 8) := by cases hcl2; rfl
    have ec : zkc S' - zkc S = 1 := by rw [eS]; show S.2.2.2.2.1 + 1 - S.2.2.2.2.1 = 1; omega
    have es : zks S' - zks S = 8 := by rw [eS]; show S.2.2.2.2.2 + 8 - S.2.2.2.2.2 = 8; omega
    refine vx_calli (A0 := va_A (zw φ cA S) s.heap.size) (vx_runV (Ts := zgd) (own := "TownExchangeLaw") (nL := 5) (As := [.int a, .int b]) (rest := [.int 0, .ref (φ 17 0)]) ⟨hx, hb, hml, hown, hts⟩ (zlookX l hlt φ cA D L xs o S s.heap.size a b hg) ⟨callB_of 2 hts (zgoodIn (zwsm_in (mj := 124) (by decide))) rfl rfl rfl (zjw (i := 85) (by decide +kernel) (by rfl) hts) (zjw (i := 1224) (by decide +kernel) (by rfl) hts) ⟨by decide, by decide, by decide +kernel⟩ ⟨by show 9 + 1 ≤ 2 * d + 10; omega, by show 8 + (4 + 11) + 448 ≤ 48 * d + 471; omega⟩, (zjw (i := 1225) (by decide +kernel) (by rfl) hts), (zjw (i := 1226) (by decide +kernel) (by rfl) hts)⟩ ⟨zpre_blind (av := [.ref (φ 10 0), .int a, .int b]), hrcv, fun U hU hW => ⟨rfl, zpre_of2 hK hN hHp hU hW⟩⟩ rfl rfl hl.1 rfl hcat zdL_5 ⟨by show 0 + 1 ≤ zkc S' - zkc S; omega, by show 0 + 6 ≤ zks S' - zks S; omega⟩) va_S.rf (fun _ _ h => h) (fun _ h => h) (fun _ _ h => h)
      (fun E ce q9 u t H1 locs1 ht hvm _ hBX hsz hk hS hce hcv hcl => ?_) (fun r u t H1 locs1 _ _ hf => hf.elim)
    obtain ⟨rfl, hE1, hP1, hD1⟩ := hBX
    rw [ht] at hP1
    refine vx_catch (own := "TownExchangeLaw") (name := "java/util/NoSuchElementException") (E := "java/util/NoSuchElementException") hown [] ⟨0, 10, 13, 13⟩ [] (htab.trans rfl) (fun z hz => by cases hz) rfl (by decide) (zjw (i := 1223) (by decide +kernel) (by rfl) hts) (va_Nw.use rfl (hKR.2.2 _ (by simp [zxnw]))) hce hcv hcl ?_
    refine lv_astore hx hb zdL_13 hl (by decide) rfl (fun ls hl => ?_)
    refine lv_iconst hx hb zdL_15 (v := (1 : Int32)) rfl ?_
    refine fin 1 u H1 locs1 _ _ 16 ls ev zdL_16 hE1 ?_ (by omega) (by omega)
    rw [eS]
    exact ⟨hP1, hD1, hS, hdv, hF.ex hE1, fun q h => Or.inr h, hx1, hl1, ho1, hKR.ph (congrFun (hE1.1 13 (by decide) (by decide) (by decide)) 13)⟩
