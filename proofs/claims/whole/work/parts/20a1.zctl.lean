/-! THE LINE'S CONSTRUCTOR, walked by the program ctor.py; what all constructors stand on -/
theorem zjw {args : Array Value} {s : State} {w : Cond} {i : Nat} (h : lw_tbl[i]? = some w) (hg : goodWord w = true) (hts : ∀ w ∈ zgd, w.before args s = true) : w.before args s = true := hts _ (zgd_of h hg)
theorem zcA_eq {s : State} {D : va_G} {cl : List vw_C} {cA : Nat → ClassId} {c9 : ClassId} {ty : FieldType} {t0 : Nat} (hK : va_K D cl (zty cA ++ [(c9, ty)]) s) (ht : (zty cA)[t0]? = some (cA t0, ty)) (hno : ∀ C, ty = .object C → False) : c9 = cA t0 := by
  have h1 := (hK.2 5 (c9, ty) rfl).2
  have h2 := (hK.2 t0 (cA t0, ty) (by rw [List.getElem?_append_left (List.getElem?_eq_some_iff.mp ht).1]; exact ht)).2
  unfold va_RA at h1 h2
  cases ty
  case object C => exact (hno C rfl).elim
  all_goals exact Option.some.inj (h1.symm.trans h2)
theorem zdX2_0 : decode cX2_init 0 = .ok (.aload_n 0, 1) := by decide +kernel
theorem zdX2_1 : decode cX2_init 1 = .ok (.invokespecial 3, 3) := by decide +kernel
theorem zdX2_4 : decode cX2_init 4 = .ok (.aload_n 0, 1) := by decide +kernel
theorem zdX2_5 : decode cX2_init 5 = .ok (.iconst 0, 1) := by decide +kernel
theorem zdX2_6 : decode cX2_init 6 = .ok (.putfield 9, 3) := by decide +kernel
theorem zdX2_9 : decode cX2_init 9 = .ok (.aload_n 0, 1) := by decide +kernel
theorem zdX2_10 : decode cX2_init 10 = .ok (.bipush 97, 2) := by decide +kernel
theorem zdX2_12 : decode cX2_init 12 = .ok (.newarray .int, 2) := by decide +kernel
theorem zdX2_14 : decode cX2_init 14 = .ok (.putfield 15, 3) := by decide +kernel
theorem zdX2_17 : decode cX2_init 17 = .ok (.aload_n 0, 1) := by decide +kernel
theorem zdX2_18 : decode cX2_init 18 = .ok (.iconst 5, 1) := by decide +kernel
theorem zdX2_19 : decode cX2_init 19 = .ok (.newarray .int, 2) := by decide +kernel
theorem zdX2_21 : decode cX2_init 21 = .ok (.putfield 19, 3) := by decide +kernel
theorem zdX2_24 : decode cX2_init 24 = .ok (.aload_n 0, 1) := by decide +kernel
theorem zdX2_25 : decode cX2_init 25 = .ok (.iconst (-1), 1) := by decide +kernel
theorem zdX2_26 : decode cX2_init 26 = .ok (.putfield 22, 3) := by decide +kernel
theorem zdX2_29 : decode cX2_init 29 = .ok (.aload_n 0, 1) := by decide +kernel
theorem zdX2_30 : decode cX2_init 30 = .ok (.iconst (-1), 1) := by decide +kernel
theorem zdX2_31 : decode cX2_init 31 = .ok (.putfield 25, 3) := by decide +kernel
theorem zdX2_34 : decode cX2_init 34 = .ok (.aload_n 0, 1) := by decide +kernel
theorem zdX2_35 : decode cX2_init 35 = .ok (.iload_n 1, 1) := by decide +kernel
theorem zdX2_36 : decode cX2_init 36 = .ok (.putfield 28, 3) := by decide +kernel
theorem zdX2_39 : decode cX2_init 39 = .ok (.aload_n 0, 1) := by decide +kernel
theorem zdX2_40 : decode cX2_init 40 = .ok (.iload_n 2, 1) := by decide +kernel
theorem zdX2_41 : decode cX2_init 41 = .ok (.putfield 31, 3) := by decide +kernel
theorem zdX2_44 : decode cX2_init 44 = .ok (.return_, 1) := by decide +kernel
def zx_X2 (cA : Nat → ClassId) (h0 : Nat) (x0 : Int32) (x1 : Int32) (u : List Nat) : va_W := [(h0, .inr (2, [.int x0, .int x1, .int (0 : Int32), .int 0, .ref (u.getD 0 0), .int 0, .int 0, .ref (u.getD 1 0), .int 0, .int 0, .int (-1 : Int32), .int (-1 : Int32)])), ((u.getD 0 0), .inl (cA 0, 97, .inl (fun _ => 0))), ((u.getD 1 0), .inl (cA 0, 5, .inl (fun _ => 0)))]
def zwd_X2 : List Cond := .code yX2_init cX2_init 3 none :: zgd
set_option maxRecDepth 100000 in
theorem zw_X2 : ∀ w ∈ zwd_X2, w ∈ zgd := by
  intro w hw
  rcases List.mem_cons.mp hw with rfl | hw
  · exact zgd_of (i := 515) (by rfl) (by first | rfl | simp [goodWord, Cond.onTables, Cond.keeps, Cond.steady])
  · exact hw
set_option maxHeartbeats 8000000 in
set_option maxRecDepth 100000 in
theorem zi_X2 (l : Launch) (D : va_G) (cA : Nat → ClassId) (h0 : Nat) (x0 : Int32) (x1 : Int32) (sz : Nat) : Met l yX2_init zwd_X2 ({ frames := 2, cells := 2, slots := 102, locals := 60 }) (va_Pc [.ref h0, .int x0, .int x1] (fun U => U.heap.size = sz ∧ va_P D vwCl [(h0, .inr (2, [.int 0, .int 0, .int 0, .int 0, .null, .int 0, .int 0, .null, .int 0, .int 0, .int 0, .int 0]))] U.heap ∧ va_K D vwCl (zty cA) U ∧ va_D (fun _ => True) [(h0, .inr (2, [.int 0, .int 0, .int 0, .int 0, .null, .int 0, .int 0, .null, .int 0, .int 0, .int 0, .int 0]))])) (va_Qv (fun _ : List Nat => True) (fun u t => va_P D vwCl (zx_X2 cA h0 x0 x1 u) t.heap ∧ va_D (va_A [(h0, .inr (2, [.int 0, .int 0, .int 0, .int 0, .null, .int 0, .int 0, .null, .int 0, .int 0, .int 0, .int 0]))] sz) (zx_X2 cA h0 x0 x1 u)) (va_A [(h0, .inr (2, [.int 0, .int 0, .int 0, .int 0, .null, .int 0, .int 0, .null, .int 0, .int 0, .int 0, .int 0]))] sz)) 2 102 (va_A [(h0, .inr (2, [.int 0, .int 0, .int 0, .int 0, .null, .int 0, .int 0, .null, .int 0, .int 0, .int 0, .int 0]))] sz) := by
  refine Met.ofW (cc := cX2_init) (maxL := 3) (ret := none) (by decide) rfl ?_
  intro p e s m args below meth c s₁ B hml hv
  obtain ⟨rfl, hsz, hP, hK, hD0⟩ := hv
  have hx := B.exec
  have hb := B.bytes
  have hr := B.returns
  have hts0 := atoms_spec (ws := zwd_X2) B.pre
  have hts : ∀ w ∈ zgd, w.before _ s = true := fun w hw => hts0 w (List.mem_cons_of_mem _ hw)
  have hown : s.vm.findClass (zcn 2) = some m.cls := findClass_of_methodNamed B.named
  have hlocks := B.notSynchronized
  have hin : meth.name = "<init>" := (name_of_methodNamed B.named B.method).1
  subst hsz
  have hD := hD0.self (sz := s.heap.size)
  generalize hAe : va_A [(h0, .inr (2, [.int 0, .int 0, .int 0, .int 0, .null, .int 0, .int 0, .null, .int 0, .int 0, .int 0, .int 0]))] s.heap.size = A at hD ⊢
  have hA : ∀ q : Nat, s.heap.size ≤ q → A q := fun q h => by rw [← hAe]; exact Or.inr h
  have hS : va_S A s.heap s.heap [] := va_S.rf
  have hl := lv_entry ([.ref h0, .int x0, .int x1]) (n := 3) (Nat.le_of_ble_eq_true rfl)
  rw [lg_entry_eq]
  generalize (lg_sl ([.ref h0, .int x0, .int x1]) ++ List.replicate (3 - (lg_sl ([.ref h0, .int x0, .int x1])).length) Slot.unset).toArray = ls at hl ⊢
  have hl : lv_has ls 3 [(0, .ref h0), (1, .int x0), (2, .int x1)] := hl
  refine lv_aload_n hx hb zdX2_0 rfl (lv_at hl 0 rfl) ?_
  refine W.objInit hx hb hown (zjw (i := 516) (by decide +kernel) (by rfl) hts) (zjw (i := 117) (by decide +kernel) (by rfl) hts) (zjw (i := 118) (by decide +kernel) (by rfl) hts) rfl (by rw [hml]; exact hl.1) rfl zdX2_1 (Nat.le_of_ble_eq_true rfl) (Nat.le_of_ble_eq_true rfl) ?_
  refine W.eq (g2 := F0 m 4 ls []) rfl ?_
  refine lv_aload_n hx hb zdX2_4 rfl (lv_at hl 0 rfl) ?_
  refine lv_iconst hx hb zdX2_5 (v := (0 : Int32)) rfl ?_
  refine va_put (D := D) (ci := 2) (v := .int (0 : Int32)) (ty := zcty 2 2) (C := zcn 2) (T := zcT 2) (N := zcN 2) hx hb hts (zcl_ws 2 (Nat.zero_le _) (by decide)) (zcty 2) (zcl_ty 2 (Nat.zero_le _) (by decide)) (zcl_nm 2 (Nat.zero_le _) (by decide)) hown hK hP hD hS 0 rfl (zCl_at 2 (Nat.zero_le _) (by decide)) 2 (by decide) (zjw (i := 524) (by decide +kernel) (by rfl) hts) (fun _ h9 => h9) rfl (zcl_ty 2 (Nat.zero_le _) (by decide) 2 (by decide)) rfl rfl (Nat.le_of_ble_eq_true rfl) zdX2_6 (fun H locs hP hD hS => ?_)
  have hP : va_P D vwCl [(h0, .inr (2, [.int 0, .int 0, .int (0 : Int32), .int 0, .null, .int 0, .int 0, .null, .int 0, .int 0, .int 0, .int 0]))] H := hP
  have hD : va_D A [(h0, .inr (2, [.int 0, .int 0, .int (0 : Int32), .int 0, .null, .int 0, .int 0, .null, .int 0, .int 0, .int 0, .int 0]))] := hD
  refine lv_aload_n hx hb zdX2_9 rfl (lv_at hl 0 rfl) ?_
  refine lv_bipush hx hb zdX2_10 (v := (97 : Int32)) rfl ?_
  refine va_newa (atype := .int) hx hb (zjw (i := 165) (by decide +kernel) (by rfl) hts) rfl hK hP hD hS hA (a0 := (97, .inl (fun _ => 0))) (fun _ => rfl) (by decide) (N' := 97) rfl (Nat.le_of_ble_eq_true rfl) (Nat.le_of_ble_eq_true rfl) (Nat.le_of_ble_eq_true rfl) zdX2_12 (fun q0 c9 H hK9 hP hD hS => ?_)
  have e9 := zcA_eq (t0 := 0) hK9 rfl (fun C h => by cases h)
  subst e9
  refine va_putF (D := D) (ci := 2) (v := .ref q0) (ty := zcty 2 4) (C := zcn 2) (T := zcT 2) (N := zcN 2) hx hb hts (zcl_ws 2 (Nat.zero_le _) (by decide)) (zcty 2) (zcl_ty 2 (Nat.zero_le _) (by decide)) (zcl_nm 2 (Nat.zero_le _) (by decide)) hown hK hP hD hS 0 rfl (zCl_at 2 (Nat.zero_le _) (by decide)) 4 (by decide) (zjw (i := 532) (by decide +kernel) (by rfl) hts) (fun _ h9 => h9) rfl hin rfl (zcl_ty 2 (Nat.zero_le _) (by decide) 4 (by decide)) rfl rfl (Nat.le_of_ble_eq_true rfl) zdX2_14 (fun H locs hP hD hS => ?_)
  have hP : va_P D vwCl [(h0, .inr (2, [.int 0, .int 0, .int (0 : Int32), .int 0, .ref q0, .int 0, .int 0, .null, .int 0, .int 0, .int 0, .int 0])), (q0, .inl (cA 0, 97, .inl (fun _ => 0)))] H := hP
  have hD : va_D A [(h0, .inr (2, [.int 0, .int 0, .int (0 : Int32), .int 0, .ref q0, .int 0, .int 0, .null, .int 0, .int 0, .int 0, .int 0])), (q0, .inl (cA 0, 97, .inl (fun _ => 0)))] := hD
  refine lv_aload_n hx hb zdX2_17 rfl (lv_at hl 0 rfl) ?_
  refine lv_iconst hx hb zdX2_18 (v := (5 : Int32)) rfl ?_
  refine va_newa (atype := .int) hx hb (zjw (i := 165) (by decide +kernel) (by rfl) hts) rfl hK hP hD hS hA (a0 := (5, .inl (fun _ => 0))) (fun _ => rfl) (by decide) (N' := 5) rfl (Nat.le_of_ble_eq_true rfl) (Nat.le_of_ble_eq_true rfl) (Nat.le_of_ble_eq_true rfl) zdX2_19 (fun q1 c9 H hK9 hP hD hS => ?_)
  have e9 := zcA_eq (t0 := 0) hK9 rfl (fun C h => by cases h)
  subst e9
  refine va_putF (D := D) (ci := 2) (v := .ref q1) (ty := zcty 2 7) (C := zcn 2) (T := zcT 2) (N := zcN 2) hx hb hts (zcl_ws 2 (Nat.zero_le _) (by decide)) (zcty 2) (zcl_ty 2 (Nat.zero_le _) (by decide)) (zcl_nm 2 (Nat.zero_le _) (by decide)) hown hK hP hD hS 0 rfl (zCl_at 2 (Nat.zero_le _) (by decide)) 7 (by decide) (zjw (i := 543) (by decide +kernel) (by rfl) hts) (fun _ h9 => h9) rfl hin rfl (zcl_ty 2 (Nat.zero_le _) (by decide) 7 (by decide)) rfl rfl (Nat.le_of_ble_eq_true rfl) zdX2_21 (fun H locs hP hD hS => ?_)
  have hP : va_P D vwCl [(h0, .inr (2, [.int 0, .int 0, .int (0 : Int32), .int 0, .ref q0, .int 0, .int 0, .ref q1, .int 0, .int 0, .int 0, .int 0])), (q0, .inl (cA 0, 97, .inl (fun _ => 0))), (q1, .inl (cA 0, 5, .inl (fun _ => 0)))] H := hP
  have hD : va_D A [(h0, .inr (2, [.int 0, .int 0, .int (0 : Int32), .int 0, .ref q0, .int 0, .int 0, .ref q1, .int 0, .int 0, .int 0, .int 0])), (q0, .inl (cA 0, 97, .inl (fun _ => 0))), (q1, .inl (cA 0, 5, .inl (fun _ => 0)))] := hD
  refine lv_aload_n hx hb zdX2_24 rfl (lv_at hl 0 rfl) ?_
  refine lv_iconst hx hb zdX2_25 (v := (-1 : Int32)) rfl ?_
  refine va_put (D := D) (ci := 2) (v := .int (-1 : Int32)) (ty := zcty 2 10) (C := zcn 2) (T := zcT 2) (N := zcN 2) hx hb hts (zcl_ws 2 (Nat.zero_le _) (by decide)) (zcty 2) (zcl_ty 2 (Nat.zero_le _) (by decide)) (zcl_nm 2 (Nat.zero_le _) (by decide)) hown hK hP hD hS 0 rfl (zCl_at 2 (Nat.zero_le _) (by decide)) 10 (by decide) (zjw (i := 549) (by decide +kernel) (by rfl) hts) (fun _ h9 => h9) rfl (zcl_ty 2 (Nat.zero_le _) (by decide) 10 (by decide)) rfl rfl (Nat.le_of_ble_eq_true rfl) zdX2_26 (fun H locs hP hD hS => ?_)
  have hP : va_P D vwCl [(h0, .inr (2, [.int 0, .int 0, .int (0 : Int32), .int 0, .ref q0, .int 0, .int 0, .ref q1, .int 0, .int 0, .int (-1 : Int32), .int 0])), (q0, .inl (cA 0, 97, .inl (fun _ => 0))), (q1, .inl (cA 0, 5, .inl (fun _ => 0)))] H := hP
  have hD : va_D A [(h0, .inr (2, [.int 0, .int 0, .int (0 : Int32), .int 0, .ref q0, .int 0, .int 0, .ref q1, .int 0, .int 0, .int (-1 : Int32), .int 0])), (q0, .inl (cA 0, 97, .inl (fun _ => 0))), (q1, .inl (cA 0, 5, .inl (fun _ => 0)))] := hD
  refine lv_aload_n hx hb zdX2_29 rfl (lv_at hl 0 rfl) ?_
  refine lv_iconst hx hb zdX2_30 (v := (-1 : Int32)) rfl ?_
  refine va_put (D := D) (ci := 2) (v := .int (-1 : Int32)) (ty := zcty 2 11) (C := zcn 2) (T := zcT 2) (N := zcN 2) hx hb hts (zcl_ws 2 (Nat.zero_le _) (by decide)) (zcty 2) (zcl_ty 2 (Nat.zero_le _) (by decide)) (zcl_nm 2 (Nat.zero_le _) (by decide)) hown hK hP hD hS 0 rfl (zCl_at 2 (Nat.zero_le _) (by decide)) 11 (by decide) (zjw (i := 552) (by decide +kernel) (by rfl) hts) (fun _ h9 => h9) rfl (zcl_ty 2 (Nat.zero_le _) (by decide) 11 (by decide)) rfl rfl (Nat.le_of_ble_eq_true rfl) zdX2_31 (fun H locs hP hD hS => ?_)
  have hP : va_P D vwCl [(h0, .inr (2, [.int 0, .int 0, .int (0 : Int32), .int 0, .ref q0, .int 0, .int 0, .ref q1, .int 0, .int 0, .int (-1 : Int32), .int (-1 : Int32)])), (q0, .inl (cA 0, 97, .inl (fun _ => 0))), (q1, .inl (cA 0, 5, .inl (fun _ => 0)))] H := hP
  have hD : va_D A [(h0, .inr (2, [.int 0, .int 0, .int (0 : Int32), .int 0, .ref q0, .int 0, .int 0, .ref q1, .int 0, .int 0, .int (-1 : Int32), .int (-1 : Int32)])), (q0, .inl (cA 0, 97, .inl (fun _ => 0))), (q1, .inl (cA 0, 5, .inl (fun _ => 0)))] := hD
  refine lv_aload_n hx hb zdX2_34 rfl (lv_at hl 0 rfl) ?_
  refine lv_iload_n hx hb zdX2_35 rfl (lv_at hl 1 rfl) ?_
  refine va_putF (D := D) (ci := 2) (v := .int x0) (ty := zcty 2 0) (C := zcn 2) (T := zcT 2) (N := zcN 2) hx hb hts (zcl_ws 2 (Nat.zero_le _) (by decide)) (zcty 2) (zcl_ty 2 (Nat.zero_le _) (by decide)) (zcl_nm 2 (Nat.zero_le _) (by decide)) hown hK hP hD hS 0 rfl (zCl_at 2 (Nat.zero_le _) (by decide)) 0 (by decide) (zjw (i := 517) (by decide +kernel) (by rfl) hts) (fun _ h9 => h9) rfl hin rfl (zcl_ty 2 (Nat.zero_le _) (by decide) 0 (by decide)) rfl rfl (Nat.le_of_ble_eq_true rfl) zdX2_36 (fun H locs hP hD hS => ?_)
  have hP : va_P D vwCl [(h0, .inr (2, [.int x0, .int 0, .int (0 : Int32), .int 0, .ref q0, .int 0, .int 0, .ref q1, .int 0, .int 0, .int (-1 : Int32), .int (-1 : Int32)])), (q0, .inl (cA 0, 97, .inl (fun _ => 0))), (q1, .inl (cA 0, 5, .inl (fun _ => 0)))] H := hP
  have hD : va_D A [(h0, .inr (2, [.int x0, .int 0, .int (0 : Int32), .int 0, .ref q0, .int 0, .int 0, .ref q1, .int 0, .int 0, .int (-1 : Int32), .int (-1 : Int32)])), (q0, .inl (cA 0, 97, .inl (fun _ => 0))), (q1, .inl (cA 0, 5, .inl (fun _ => 0)))] := hD
  refine lv_aload_n hx hb zdX2_39 rfl (lv_at hl 0 rfl) ?_
  refine lv_iload_n hx hb zdX2_40 rfl (lv_at hl 2 rfl) ?_
  refine va_putF (D := D) (ci := 2) (v := .int x1) (ty := zcty 2 1) (C := zcn 2) (T := zcT 2) (N := zcN 2) hx hb hts (zcl_ws 2 (Nat.zero_le _) (by decide)) (zcty 2) (zcl_ty 2 (Nat.zero_le _) (by decide)) (zcl_nm 2 (Nat.zero_le _) (by decide)) hown hK hP hD hS 0 rfl (zCl_at 2 (Nat.zero_le _) (by decide)) 1 (by decide) (zjw (i := 521) (by decide +kernel) (by rfl) hts) (fun _ h9 => h9) rfl hin rfl (zcl_ty 2 (Nat.zero_le _) (by decide) 1 (by decide)) rfl rfl (Nat.le_of_ble_eq_true rfl) zdX2_41 (fun H locs hP hD hS => ?_)
  have hP : va_P D vwCl [(h0, .inr (2, [.int x0, .int x1, .int (0 : Int32), .int 0, .ref q0, .int 0, .int 0, .ref q1, .int 0, .int 0, .int (-1 : Int32), .int (-1 : Int32)])), (q0, .inl (cA 0, 97, .inl (fun _ => 0))), (q1, .inl (cA 0, 5, .inl (fun _ => 0)))] H := hP
  have hD : va_D A [(h0, .inr (2, [.int x0, .int x1, .int (0 : Int32), .int 0, .ref q0, .int 0, .int 0, .ref q1, .int 0, .int 0, .int (-1 : Int32), .int (-1 : Int32)])), (q0, .inl (cA 0, 97, .inl (fun _ => 0))), (q1, .inl (cA 0, 5, .inl (fun _ => 0)))] := hD
  refine W.widen (k := 2) (n := 102) (Nat.le_of_ble_eq_true rfl) (Nat.le_of_ble_eq_true rfl) ?_
  exact W.vret hx hb hr (fun t ht hW => ⟨⟨[q0, q1], rfl, trivial, by rw [ht]; exact hP, hD⟩, hS.F ht⟩) hS.2.2 zdX2_44
