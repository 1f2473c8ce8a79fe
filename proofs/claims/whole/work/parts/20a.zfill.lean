/-! Arrays.fill, by its own code, over any world -/
def zwfill : List Cond := .code yJ7_fill_53178 cJ7_fill_53178 4 none :: zgd
theorem zdf_0 : decode cJ7_fill_53178 0 = .ok (.iconst 0, 1) := by decide +kernel
theorem zdf_1 : decode cJ7_fill_53178 1 = .ok (.istore_n 2, 1) := by decide +kernel
theorem zdf_2 : decode cJ7_fill_53178 2 = .ok (.aload_n 0, 1) := by decide +kernel
theorem zdf_3 : decode cJ7_fill_53178 3 = .ok (.arraylength, 1) := by decide +kernel
theorem zdf_4 : decode cJ7_fill_53178 4 = .ok (.istore_n 3, 1) := by decide +kernel
theorem zdf_5 : decode cJ7_fill_53178 5 = .ok (.iload_n 2, 1) := by decide +kernel
theorem zdf_6 : decode cJ7_fill_53178 6 = .ok (.iload_n 3, 1) := by decide +kernel
theorem zdf_7 : decode cJ7_fill_53178 7 = .ok (.if_icmp .ge 13, 3) := by decide +kernel
theorem zdf_10 : decode cJ7_fill_53178 10 = .ok (.aload_n 0, 1) := by decide +kernel
theorem zdf_11 : decode cJ7_fill_53178 11 = .ok (.iload_n 2, 1) := by decide +kernel
theorem zdf_12 : decode cJ7_fill_53178 12 = .ok (.iload_n 1, 1) := by decide +kernel
theorem zdf_13 : decode cJ7_fill_53178 13 = .ok (.iastore, 1) := by decide +kernel
theorem zdf_14 : decode cJ7_fill_53178 14 = .ok (.iinc 2 1, 3) := by decide +kernel
theorem zdf_17 : decode cJ7_fill_53178 17 = .ok (.goto (-12), 3) := by decide +kernel
theorem zdf_20 : decode cJ7_fill_53178 20 = .ok (.return_, 1) := by decide +kernel
def zff (f : Nat → Int32) (j : Nat) (v : Int32) : Nat → Int32 := fun k => if k < j then v else f k
theorem zff_0 (f : Nat → Int32) (v : Int32) : zff f 0 v = f := by
  funext k
  unfold zff
  rw [if_neg (Nat.not_lt_zero k)]
theorem zff_s (f : Nat → Int32) (j : Nat) (v : Int32) : upd (zff f j v) j v = zff f (j + 1) v := by
  funext k
  unfold upd zff
  by_cases h : k = j
  · subst h
    rw [if_pos rfl, if_pos (Nat.lt_succ_self k)]
  · rw [if_neg h]
    by_cases h2 : k < j
    · rw [if_pos h2, if_pos (by omega)]
    · rw [if_neg h2, if_neg (by omega)]
theorem zon_succ {j : Nat} : Int32.ofNat j + Int32.ofInt 1 = Int32.ofNat (j + 1) := by
  rw [show (Int32.ofInt 1) = Int32.ofNat 1 from rfl, ← Int32.ofNat_add]
set_option maxHeartbeats 4000000 in
set_option maxRecDepth 20000 in
theorem zfillM (l : Launch) (D : va_G) (tys : List (ClassId × FieldType)) (ws : va_W) (q0 t0 a : Nat) (cA : ClassId) (n : Nat) (f : Nat → Int32) (hn : n < 2 ^ 31) (ha : ws[q0]? = some (a, .inl (cA, n, .inl f))) (ht : tys[t0]? = some (cA, .int)) (v : Int32) (sz : Nat) :
    Met l yJ7_fill_53178 zwfill ({ frames := 0, cells := 0, slots := 0, locals := 0 }) (va_Pc [.ref a, .int v] (fun U => U.heap.size = sz ∧ va_P D vwCl ws U.heap ∧ va_K D vwCl tys U ∧ va_D (fun _ => True) ws))
      (va_Qv (fun _ : Unit => True) (fun _ t => va_P D vwCl (ws.set q0 (a, .inl (cA, n, .inl (zff f n v)))) t.heap ∧ va_D (va_A ws sz) (ws.set q0 (a, .inl (cA, n, .inl (zff f n v))))) (va_A ws sz)) 0 0 (va_A ws sz) := by
  refine Met.ofW (cc := cJ7_fill_53178) (maxL := 4) (ret := none) (by decide) rfl ?_
  intro p e s m args below meth c s₁ B hml hv
  obtain ⟨rfl, hsz, hP, hK, hD0⟩ := hv
  have hx := B.exec
  have hb := B.bytes
  have hr := B.returns
  have hlocks := B.notSynchronized
  subst hsz
  have hD := hD0.self (sz := s.heap.size)
  generalize hAe : va_A ws s.heap.size = A at hD ⊢
  have hS : va_S A s.heap s.heap [] := va_S.rf
  have hl := lv_entry ([.ref a, .int v]) (n := 4) (Nat.le_of_ble_eq_true rfl)
  rw [lg_entry_eq]
  generalize (lg_sl ([.ref a, .int v]) ++ List.replicate (4 - (lg_sl ([.ref a, .int v])).length) Slot.unset).toArray = ls at hl ⊢
  have hl : lv_has ls 4 [(0, .ref a), (1, .int v)] := hl
  refine lv_iconst hx hb zdf_0 rfl ?_
  refine lv_istore_n hx hb zdf_1 rfl hl (by decide) rfl (fun ls hl => ?_)
  have hl : lv_has ls 4 [(2, .int (Int32.ofNat 0)), (0, .ref a), (1, .int v)] := hl
  refine lv_aload_n hx hb zdf_2 rfl (lv_at hl 1 rfl) ?_
  refine va_alen hx hb hK hP q0 t0 ha ht rfl zdf_3 ?_
  refine lv_istore_n hx hb zdf_4 rfl hl (by decide) rfl (fun ls hl => ?_)
  have hl : lv_has ls 4 [(3, .int (Int32.ofNat n)), (2, .int (Int32.ofNat 0)), (0, .ref a), (1, .int v)] := hl
  have hqa : q0 < ws.length := (List.getElem?_eq_some_iff.mp ha).1
  have hset : ws = ws.set q0 (a, .inl (cA, n, .inl (zff f 0 v))) := by
    rw [zff_0]
    refine List.ext_getElem? fun k => ?_
    by_cases hk : k = q0
    · subst hk
      rw [List.getElem?_set_self hqa, ha]
    · rw [List.getElem?_set_ne (Ne.symm hk)]
  have key : ∀ (g j : Nat), g + j = n → ∀ (ls : Array Slot) (H : Heap) (locs : List Loc), lv_has ls 4 [(3, .int (Int32.ofNat n)), (2, .int (Int32.ofNat j)), (0, .ref a), (1, .int v)] → va_P D vwCl (ws.set q0 (a, .inl (cA, n, .inl (zff f j v)))) H → va_D A (ws.set q0 (a, .inl (cA, n, .inl (zff f j v)))) → va_S A s.heap H locs →
      W p l e (headSpec zwfill ({ frames := 0, cells := 0, slots := 0, locals := 0 })).room s m ([.ref a, .int v] : List Value).toArray below meth c H locs 0 0 (MQ below (va_Qv (fun _ : Unit => True) (fun _ t => va_P D vwCl (ws.set q0 (a, .inl (cA, n, .inl (zff f n v)))) t.heap ∧ va_D A (ws.set q0 (a, .inl (cA, n, .inl (zff f n v))))) A) ([.ref a, .int v] : List Value).toArray s 0 0 A) (F0 m 5 ls []) := by
    intro g
    induction g with
    | zero =>
      intro j hj ls H locs hl hP hD hS
      have e : j = n := by omega
      subst e
      refine lv_iload_n hx hb zdf_5 rfl (lv_at hl 1 rfl) ?_
      refine lv_iload_n hx hb zdf_6 rfl (lv_at hl 0 rfl) ?_
      refine lv_icmp_ge hx hb zdf_7 (tgt := 20) rfl (fun _ => ?_) (fun h => absurd (Int32.le_refl _) h)
      exact W.vret hx hb hr (fun t ht hW => ⟨⟨(), rfl, trivial, by rw [ht]; exact hP, hD⟩, hS.F ht⟩) hS.2.2 zdf_20
    | succ g ih =>
      intro j hj ls H locs hl hP hD hS
      refine lv_iload_n hx hb zdf_5 rfl (lv_at hl 1 rfl) ?_
      refine lv_iload_n hx hb zdf_6 rfl (lv_at hl 0 rfl) ?_
      have hjn : j < n := by omega
      have hlt : Int32.ofNat j < Int32.ofNat n := (Int32.ofNat_lt_iff_lt (by omega) hn).mpr hjn
      have hcl : (Int32.ofNat j).toNatClampNeg = j := Int32.toNatClampNeg_ofNat_of_lt (by omega)
      refine lv_icmp_ge hx hb zdf_7 (tgt := 20) rfl (fun h => absurd hlt (Int32.not_lt.mpr h)) (fun _ => ?_)
      refine lv_aload_n hx hb zdf_10 rfl (lv_at hl 2 rfl) ?_
      refine lv_iload_n hx hb zdf_11 rfl (lv_at hl 1 rfl) ?_
      refine lv_iload_n hx hb zdf_12 rfl (lv_at hl 3 rfl) ?_
      have hvp : vp_in (Int32.ofNat j) n := by
        unfold vp_in
        rw [hcl]
        rintro (h | h)
        · exact absurd h (Int32.not_lt.mpr ((Int32.ofNat_le_iff_le (by decide) (by omega)).mpr (Nat.zero_le j)))
        · omega
      refine va_iast hx hb hK hP hD hS q0 t0 (List.getElem?_set_self hqa) ht hvp zdf_13 (fun H1 locs1 q1 q2 q3 => ?_)
      rw [hcl, List.set_set, zff_s] at q1 q2
      refine lv_iinc hx hb zdf_14 hl (k := 1) rfl zon_succ (by decide) rfl (fun ls hl => ?_)
      have hl : lv_has ls 4 [(2, .int (Int32.ofNat (j + 1))), (3, .int (Int32.ofNat n)), (0, .ref a), (1, .int v)] := hl
      refine lv_goto hx hb zdf_17 (tgt := 5) rfl ?_
      exact ih (j + 1) (by omega) ls H1 locs1 (lv_sub hl [1, 0, 2, 3] rfl) q1 q2 q3
  have hP2 : va_P D vwCl (ws.set q0 (a, .inl (cA, n, .inl (zff f 0 v)))) s.heap := by rw [← hset]; exact hP
  have hD2 : va_D A (ws.set q0 (a, .inl (cA, n, .inl (zff f 0 v)))) := by rw [← hset]; exact hD
  exact key n 0 (by omega) ls s.heap [] hl hP2 hD2 hS
