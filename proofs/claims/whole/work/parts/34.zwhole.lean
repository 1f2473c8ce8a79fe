/-! THE LAW: from its entry into its loop -/
theorem zdW_0 : decode code 0 = .ok (.new 8, 3) := by decide +kernel
theorem zdW_3 : decode code 3 = .ok (.dup, 1) := by decide +kernel
theorem zdW_4 : decode code 4 = .ok (.invokespecial 15, 3) := by decide +kernel
theorem zdW_7 : decode code 7 = .ok (.astore_n 1, 1) := by decide +kernel
theorem zdW_8 : decode code 8 = .ok (.new 16, 3) := by decide +kernel
theorem zdW_11 : decode code 11 = .ok (.dup, 1) := by decide +kernel
theorem zdW_12 : decode code 12 = .ok (.invokespecial 18, 3) := by decide +kernel
theorem zdW_15 : decode code 15 = .ok (.astore_n 2, 1) := by decide +kernel
theorem zdW_16 : decode code 16 = .ok (.iconst 1, 1) := by decide +kernel
theorem zdW_17 : decode code 17 = .ok (.newarray .long, 2) := by decide +kernel
theorem zdW_19 : decode code 19 = .ok (.astore_n 3, 1) := by decide +kernel
theorem zdW_20 : decode code 20 = .ok (.iconst 0, 1) := by decide +kernel
theorem zdW_21 : decode code 21 = .ok (.istore 4, 2) := by decide +kernel
theorem zinst : ∀ t, 0 ≤ t → t < 12 → Cond.instantiable (zcn t) (zcN t) ∈ zgd := (zsp 6 (zsp 3 (zsp 1 (zon (a := 0) (zgd_of (i := 168) (by decide +kernel) (by rfl))) (zsp 2 (zon (a := 1) (zgd_of (i := 307) (by decide +kernel) (by rfl))) (zon (a := 2) (zgd_of (i := 512) (by decide +kernel) (by rfl))))) (zsp 4 (zon (a := 3) (zgd_of (i := 246) (by decide +kernel) (by rfl))) (zsp 5 (zon (a := 4) (zgd_of (i := 120) (by decide +kernel) (by rfl))) (zon (a := 5) (zgd_of (i := 194) (by decide +kernel) (by rfl)))))) (zsp 9 (zsp 7 (zon (a := 6) (zgd_of (i := 343) (by decide +kernel) (by rfl))) (zsp 8 (zon (a := 7) (zgd_of (i := 371) (by decide +kernel) (by rfl))) (zon (a := 8) (zgd_of (i := 265) (by decide +kernel) (by rfl))))) (zsp 10 (zon (a := 9) (zgd_of (i := 200) (by decide +kernel) (by rfl))) (zsp 11 (zon (a := 10) (zgd_of (i := 112) (by decide +kernel) (by rfl))) (zon (a := 11) (zgd_of (i := 1299) (by decide +kernel) (by rfl)))))))
theorem zarr_k {args : Array Value} {s : State} {ty : FieldType} (h : (Cond.arrayClass ty).before args s = true) (hno : ∀ C, ty = .object C → False) : ∃ c : ClassId, ArrOfT s c ty ∧ va_RA s c ty := by
  obtain ⟨c, k, comp, h1, h2, h3⟩ := Cond.arrayClass_spec h
  refine ⟨c, fun N z => ⟨(fun k h => by cases h), k, h2, comp, h3⟩, ?_⟩
  unfold va_RA
  cases ty
  case object C => exact (hno C rfl).elim
  all_goals exact h1
theorem zK_ex {args : Array Value} {s : State} (hts : ∀ w ∈ lw_tbl, w.before args s = true) : ∃ (D : va_G) (cA : Nat → ClassId), va_K D vwCl (zty cA) s ∧ va_AO "TownExchange$Line" s := by
  have htg : ∀ w ∈ zgd, w.before args s = true := fun w hw => hts w (List.mem_filter.mp hw).1
  have h0 : ∀ t : Nat, ∃ q : ClassId × (Nat → Nat), t < 12 → u_Kn s (zcn t) (zcT t) (zcN t) q.1 q.2 := by
    intro t
    by_cases ht : t < 12
    · obtain ⟨a, b, h⟩ := u_known htg (zcl_ws t (Nat.zero_le _) ht) (htg _ (zinst t (Nat.zero_le _) ht))
      exact ⟨(a, b), fun _ => h⟩
    · exact ⟨(0, fun _ => 0), fun h => absurd h ht⟩
  obtain ⟨F, hF⟩ := Classical.axiomOfChoice h0
  have hov : va_AO "TownExchange$Line" s := by
    have h := hts _ (List.mem_of_getElem? (l := lw_tbl) (i := 174) (a := .arrayOver (.object "TownExchange$Line")) (by decide +kernel))
    unfold va_AO
    first | exact va_tabs rfl rfl h | exact h
  obtain ⟨c0, a0, b0⟩ := zarr_k (htg _ (zgd_of (w := .arrayClass .int) (i := 165) (by decide +kernel) (by rfl))) (fun C h => by cases h)
  obtain ⟨c1, a1, b1⟩ := zarr_k (htg _ (zgd_of (w := .arrayClass .boolean) (i := 166) (by decide +kernel) (by rfl))) (fun C h => by cases h)
  obtain ⟨c2, a2, b2⟩ := zarr_k (htg _ (zgd_of (w := .arrayClass .char) (i := 369) (by decide +kernel) (by rfl))) (fun C h => by cases h)
  obtain ⟨c3, a3, b3⟩ := zarr_k (htg _ (zgd_of (w := .arrayClass .long) (i := 418) (by decide +kernel) (by rfl))) (fun C h => by cases h)
  obtain ⟨comp, c4, k4, g1, g2, g3, g4, g5⟩ := Cond.arrayOver_spec hov
  refine ⟨(fun t => (F t).1, fun t => (F t).2), fun n => match n with | 0 => c0 | 1 => c1 | 2 => c2 | 3 => c3 | _ => c4, ⟨fun c q hq => ?_, fun k q hq => ?_⟩, hov⟩
  · have hc : c < 12 := (List.getElem?_eq_some_iff.mp hq).1
    rw [zCl_at c (Nat.zero_le _) hc] at hq
    cases hq
    exact hF c hc
  · have hk : k < 5 := (List.getElem?_eq_some_iff.mp hq).1
    have : k = 0 ∨ k = 1 ∨ k = 2 ∨ k = 3 ∨ k = 4 := by omega
    rcases this with rfl | rfl | rfl | rfl | rfl <;> cases hq
    · exact ⟨a0, b0⟩
    · exact ⟨a1, b1⟩
    · exact ⟨a2, b2⟩
    · exact ⟨a3, b3⟩
    · exact ⟨fun N z => ⟨(fun k h => by cases h), k4, g3, comp, g4⟩, k4, comp, g3, g4, g1, g5⟩
theorem zFz_ph {φ φ' : ZPh} {L : Nat} {xs : Nat → Int32} {o : Option ZR} {A : Nat → Prop} {U : State} {H : Heap} (e12 : φ' 12 = φ 12) (e13 : φ' 13 = φ 13) (e14 : φ' 14 = φ 14) (e16 : φ' 16 = φ 16) (e18 : φ' 18 = φ 18) (e19 : φ' 19 = φ 19) (h : zFz φ L xs o A U H) : zFz φ' L xs o A U H := by
  obtain ⟨h1, h2, h3, h4, h5, h6, h7, h8, h9, h10, h11, h12, h13⟩ := h
  have eo : zv φ' (.inr (.inr o)) = zv φ (.inr (.inr o)) := by
    rcases h12 with rfl | rfl
    · rfl
    · show Value.ref (φ' 19 0) = Value.ref (φ 19 0)
      rw [e19]
  unfold zFz
  rw [eo, e12, e13, e14, e16, e18]
  exact ⟨h1, h2, h3, h4, h5, h6, h7, h8, h9, h10, h11, h12, h13⟩
def zl0 : ZL := [some (zr 16 0), some (zr 10 0), some (zr 11 0), some (zr 17 0), some (zi 0), none, none]
set_option maxHeartbeats 8000000 in
set_option maxRecDepth 100000 in
/-- the law's run, if the abstract machine's comes to an end with 1 -/
theorem zwhole {p : Program} {e : Env} {s : State} {m : MethodId} {below : List Frame} {meth : Method} {c : Code} (l : Launch) (hflags : l.flags = flags0) {b L : Nat} {xs : Nat → Int32} (hL : L ≤ 3584) (C0 : lw_At p s m meth c b L xs)
    (hrun : ∀ o : Option ZR, o = none ∨ o = some (19, 0) → ∃ (d n : Nat) (S' : ZS), d ≤ 1000 ∧ zlim (zP (zcall d) 225 13) n (23, zl0, [], zS0 L xs o) = some (some (zi 1), S') ∧ zkc S' ≤ 601024 ∧ zks S' ≤ 7293034) :
    W p l e room_1 s m #[Value.ref b] below meth c s.heap [] 0 0 (lw_Z below #[Value.ref b] s) (entryFrame m ([Value.ref b] : List Value).toArray 7) := by
  have hlt : l.stackTraces = false := by
    unfold Launch.stackTraces
    rw [hflags]
    decide +kernel
  obtain ⟨hx, hb, hr, hml, hown, hts1, hX, hbl, hlocks, hgv⟩ := C0
  obtain ⟨ψ, o, hψ, hFz, hKR⟩ := zfrz hts1 hgv hX hL
  have ho : o = none ∨ o = some (19, 0) := hFz.2.2.2.2.2.2.2.2.2.2.2.1
  obtain ⟨d, n, S', hd, hn, hBc, hBs⟩ := hrun o ho
  have hts : ∀ w ∈ zgd, w.before #[Value.ref b] s = true := fun w hw => hts1 w (List.mem_filter.mp hw).1
  have htn : ∀ w ∈ zns, va_Nw w s := by
    intro w hw
    have h1 := hts1 w (List.mem_filter.mp hw).1
    have h2 := (List.mem_filter.mp hw).2
    unfold zisn at h2
    split at h2
    · exact va_Nw.of rfl h1
    · exact va_Nw.of rfl h1
    · cases h2
  obtain ⟨D, cA, hK, hov⟩ := zK_ex hts1
  have hA : ∀ q : Nat, s.heap.size ≤ q → (fun q => s.heap.size ≤ q) q := fun q h => h
  have hP : va_P D vwCl [] s.heap := fun k q h => by simp at h
  have hD : va_D (fun q => s.heap.size ≤ q) [] := ⟨fun i j p q h => by simp at h, fun k q h => by simp at h⟩
  have hS : va_S (fun q => s.heap.size ≤ q) s.heap s.heap [] := va_S.rf
  have hl := lv_entry ([.ref b]) (n := 7) (Nat.le_of_ble_eq_true rfl)
  rw [lg_entry_eq]
  generalize (lg_sl ([.ref b]) ++ List.replicate (7 - (lg_sl ([.ref b])).length) Slot.unset).toArray = ls at hl ⊢
  have hl : lv_has ls 7 [(0, .ref b)] := hl
  refine va_new (ci := 10) (fs := [.null, .null, .null, .null, .null, .null, .null, .null, .null, .int 0]) (C := zcn 10) (T := zcT 10) (N := zcN 10) hx hb hts (zcl_ws 10 (Nat.zero_le _) (by decide)) (zcty 10) (zcl_ty 10 (Nat.zero_le _) (by decide)) hown (zjw (i := 111) (by decide +kernel) (by rfl) hts) (zjw (i := 112) (by decide +kernel) (by rfl) hts) (zjw (i := 85) (by decide +kernel) (by rfl) hts) hK hP hD hS hA (zCl_at 10 (Nat.zero_le _) (by decide)) (by decide +kernel) (Nat.le_of_ble_eq_true rfl) (Nat.le_of_ble_eq_true rfl) zdW_0 (fun a1 H hP hD hS => ?_)
  refine lv_dup hx hb zdW_3 rfl ?_
  have hPc := hP.sub (ws' := [(a1, .inr (10, [.null, .null, .null, .null, .null, .null, .null, .null, .null, .int 0]))]) [0] rfl
  have hDc := hD.sub (ws' := [(a1, .inr (10, [.null, .null, .null, .null, .null, .null, .null, .null, .null, .int 0]))]) [0] (by decide) rfl
  have hFc := va_free (wc := [(a1, .inr (10, [.null, .null, .null, .null, .null, .null, .null, .null, .null, .int 0]))]) hD hS hA [0] rfl
  refine va_callv (va_runI (Ts := zgd) (own := R_law) (nL := 7) (As := []) (rest := [.ref a1]) ⟨hx, hb, hml, hown, hts⟩ (zi_X11 l D cA a1 H.size) (cwI 0 hts (zgoodIn zw_X11) rfl rfl rfl (zjw (i := 85) (by decide +kernel) (by rfl) hts) (zjw (i := 113) (by decide +kernel) (by rfl) hts) (zjw (i := 114) (by decide +kernel) (by rfl) hts) rfl ⟨by decide, by decide, by decide +kernel⟩ ⟨Nat.le_of_ble_eq_true rfl, Nat.le_of_ble_eq_true rfl⟩) ⟨fun a U g mk q => by obtain ⟨q0, q1, qP, qK, qD, qO⟩ := q; exact ⟨q0, q1, qP, va_K.moved (u := U) (U := U.calling g mk a) (Vm.Alike.refl U.vm) qK, qD, va_AO.moved (u := U) (U := U.calling g mk a) (Vm.Alike.refl U.vm) qO⟩, fun U hU hW => ⟨rfl, by rw [hU], by rw [hU]; exact hPc, hK.moved hW.alike, hDc.weaken (fun _ _ _ _ => trivial), hov.moved hW.alike⟩⟩ rfl rfl hl.1 rfl (Nat.le_of_ble_eq_true rfl) zdW_4 ⟨Nat.le_of_ble_eq_true rfl, Nat.le_of_ble_eq_true rfl⟩) hS (fun q _ h => hFc q h) hFc (fun u t H1 locs ht hvm hw hB hz1 hk1 hS => ?_)
  obtain ⟨hP1, hD1⟩ := hB
  rw [ht] at hP1
  obtain ⟨hP, hD⟩ := va_join (wr := []) (w1 := zx_X11 cA a1 u) hP hD [0] [] rfl rfl (by decide) (by decide) hk1 hFc hP1 hD1
  clear hPc hDc hFc hk1 hP1 hD1 hz1
  generalize H1 = H at hP hS ⊢
  refine lv_astore_n hx hb zdW_7 rfl hl (by decide) rfl (fun ls hl => ?_)
  have hl : lv_has ls 7 [(1, .ref a1), (0, .ref b)] := hl
  have hP : va_P D vwCl (zx_X11 cA a1 u) H := hP
  have hD : va_D (fun q => s.heap.size ≤ q) (zx_X11 cA a1 u) := hD
  refine va_new (ci := 11) (fs := [.int 0, .int 0, .int 0, .null, .null, .null, .null, .null, .null, .null, .null, .int 0, .null, .null, .null, .null, .null, .null, .null, .null, .null, .null, .null, .null, .null, .null, .null, .int 0, .null, .null, .null, .null, .int 0, .null, .null, .null, .int 0, .null, .int 0, .int 0, .int 0, .int 0, .long 0, .int 0, .int 0, .null, .null, .null, .null, .null, .null, .null, .null, .null, .int 0, .null, .null, .null, .null, .null, .null, .null, .null, .null, .null, .null, .null, .null, .int 0, .null, .null, .null, .int 0, .null, .null, .int 0, .null, .null, .null, .null, .null, .int 0]) (C := zcn 11) (T := zcT 11) (N := zcN 11) hx hb hts (zcl_ws 11 (Nat.zero_le _) (by decide)) (zcty 11) (zcl_ty 11 (Nat.zero_le _) (by decide)) hown (zjw (i := 1298) (by decide +kernel) (by rfl) hts) (zjw (i := 1299) (by decide +kernel) (by rfl) hts) (zjw (i := 96) (by decide +kernel) (by rfl) hts) hK hP hD hS hA (zCl_at 11 (Nat.zero_le _) (by decide)) (by decide +kernel) (Nat.le_of_ble_eq_true rfl) (Nat.le_of_ble_eq_true rfl) zdW_8 (fun a2 H hP hD hS => ?_)
  refine lv_dup hx hb zdW_11 rfl ?_
  have hPc := hP.sub (ws' := [(a2, .inr (11, [.int 0, .int 0, .int 0, .null, .null, .null, .null, .null, .null, .null, .null, .int 0, .null, .null, .null, .null, .null, .null, .null, .null, .null, .null, .null, .null, .null, .null, .null, .int 0, .null, .null, .null, .null, .int 0, .null, .null, .null, .int 0, .null, .int 0, .int 0, .int 0, .int 0, .long 0, .int 0, .int 0, .null, .null, .null, .null, .null, .null, .null, .null, .null, .int 0, .null, .null, .null, .null, .null, .null, .null, .null, .null, .null, .null, .null, .null, .int 0, .null, .null, .null, .int 0, .null, .null, .int 0, .null, .null, .null, .null, .null, .int 0]))]) [58] rfl
  have hDc := hD.sub (ws' := [(a2, .inr (11, [.int 0, .int 0, .int 0, .null, .null, .null, .null, .null, .null, .null, .null, .int 0, .null, .null, .null, .null, .null, .null, .null, .null, .null, .null, .null, .null, .null, .null, .null, .int 0, .null, .null, .null, .null, .int 0, .null, .null, .null, .int 0, .null, .int 0, .int 0, .int 0, .int 0, .long 0, .int 0, .int 0, .null, .null, .null, .null, .null, .null, .null, .null, .null, .int 0, .null, .null, .null, .null, .null, .null, .null, .null, .null, .null, .null, .null, .null, .int 0, .null, .null, .null, .int 0, .null, .null, .int 0, .null, .null, .null, .null, .null, .int 0]))]) [58] (by decide) rfl
  have hFc := va_free (wc := [(a2, .inr (11, [.int 0, .int 0, .int 0, .null, .null, .null, .null, .null, .null, .null, .null, .int 0, .null, .null, .null, .null, .null, .null, .null, .null, .null, .null, .null, .null, .null, .null, .null, .int 0, .null, .null, .null, .null, .int 0, .null, .null, .null, .int 0, .null, .int 0, .int 0, .int 0, .int 0, .long 0, .int 0, .int 0, .null, .null, .null, .null, .null, .null, .null, .null, .null, .int 0, .null, .null, .null, .null, .null, .null, .null, .null, .null, .null, .null, .null, .null, .int 0, .null, .null, .null, .int 0, .null, .null, .int 0, .null, .null, .null, .null, .null, .int 0]))]) hD hS hA [58] rfl
  refine va_callv (va_runI (Ts := zgd) (own := R_law) (nL := 7) (As := []) (rest := [.ref a2]) ⟨hx, hb, hml, hown, hts⟩ (zi_X12 l D cA a2 H.size) (cwI 0 hts (zgoodIn zw_X12) rfl rfl rfl (zjw (i := 96) (by decide +kernel) (by rfl) hts) (zjw (i := 1300) (by decide +kernel) (by rfl) hts) (zjw (i := 1301) (by decide +kernel) (by rfl) hts) rfl ⟨by decide, by decide, by decide +kernel⟩ ⟨Nat.le_of_ble_eq_true rfl, Nat.le_of_ble_eq_true rfl⟩) ⟨fun a U g mk q => by obtain ⟨q0, q1, qP, qK, qD, qO⟩ := q; exact ⟨q0, q1, qP, va_K.moved (u := U) (U := U.calling g mk a) (Vm.Alike.refl U.vm) qK, qD, va_AO.moved (u := U) (U := U.calling g mk a) (Vm.Alike.refl U.vm) qO⟩, fun U hU hW => ⟨rfl, by rw [hU], by rw [hU]; exact hPc, hK.moved hW.alike, hDc.weaken (fun _ _ _ _ => trivial), hov.moved hW.alike⟩⟩ rfl rfl hl.1 rfl (Nat.le_of_ble_eq_true rfl) zdW_12 ⟨Nat.le_of_ble_eq_true rfl, Nat.le_of_ble_eq_true rfl⟩) hS (fun q _ h => hFc q h) hFc (fun v t H1 locs ht hvm hw hB hz1 hk1 hS => ?_)
  obtain ⟨hP1, hD1⟩ := hB
  rw [ht] at hP1
  obtain ⟨hP, hD⟩ := va_join (wr := zx_X11 cA a1 u) (w1 := zx_X12 cA a2 v) hP hD [58] [0, 1, 2, 3, 4, 5, 6, 7, 8, 9, 10, 11, 12, 13, 14, 15, 16, 17, 18, 19, 20, 21, 22, 23, 24, 25, 26, 27, 28, 29, 30, 31, 32, 33, 34, 35, 36, 37, 38, 39, 40, 41, 42, 43, 44, 45, 46, 47, 48, 49, 50, 51, 52, 53, 54, 55, 56, 57] rfl rfl (by decide) (by decide) hk1 hFc hP1 hD1
  clear hPc hDc hFc hk1 hP1 hD1 hz1
  generalize H1 = H at hP hS ⊢
  refine lv_astore_n hx hb zdW_15 rfl hl (by decide) rfl (fun ls hl => ?_)
  have hl : lv_has ls 7 [(2, .ref a2), (1, .ref a1), (0, .ref b)] := hl
  refine lv_iconst hx hb zdW_16 (v := (1 : Int32)) rfl ?_
  refine va_newa (atype := .long) hx hb (zjw (i := 418) (by decide +kernel) (by rfl) hts) rfl hK hP hD hS hA (a0 := (1, .inr (.inl (fun _ => 0)))) (fun _ => rfl) (by decide) (N' := 1) rfl (Nat.le_of_ble_eq_true rfl) (Nat.le_of_ble_eq_true rfl) (Nat.le_of_ble_eq_true rfl) zdW_17 (fun a3 c9 H hK9 hP hD hS => ?_)
  have e9 := zcA_eq (t0 := 3) hK9 rfl (fun C h => by cases h)
  subst e9
  refine lv_astore_n hx hb zdW_19 rfl hl (by decide) rfl (fun ls hl => ?_)
  have hl : lv_has ls 7 [(3, .ref a3), (2, .ref a2), (1, .ref a1), (0, .ref b)] := hl
  refine lv_iconst hx hb zdW_20 (v := (0 : Int32)) rfl ?_
  refine lv_istore hx hb zdW_21 hl (by decide) rfl (fun ls hl => ?_)
  have hl : lv_has ls 7 [(4, .int 0), (3, .ref a3), (2, .ref a2), (1, .ref a1), (0, .ref b)] := hl
  have hP0 : va_P D vwCl (zw0 cA a1 a2 a3 u v) H := hP
  have hD0 : va_D (fun q => s.heap.size ≤ q) (zw0 cA a1 a2 a3 u v) := hD
  have hP2 := hP0.sub zpos0 (zfm_of (zw0_eq ψ cA a1 a2 a3 u v L xs o))
  have hD2 := hD0.sub zpos0 zpos0_nd (zw0_eq ψ cA a1 a2 a3 u v L xs o)
  have hH : zHp (zph0 ψ a1 a2 a3 u v) cA D (fun q => s.heap.size ≤ q) s L xs o H locs (zS0 L xs o) := ⟨hP2, hD2, hS, zS0_D L xs o ho, zFz_ph (φ := ψ) rfl rfl rfl rfl rfl rfl hFz, hA, rfl, rfl, rfl, hKR.ph (φ := ψ) rfl⟩
  have hC : zC p s m #[Value.ref b] c 225 cA D := ⟨hx, hb, hml, by decide, by decide, hown, hts, htn, hK⟩
  have hLo : zLo (zph0 ψ a1 a2 a3 u v) (zS0 L xs o).2.2.2.1 (zmx 225) ls zl0 := by
    refine ⟨?_, rfl, fun j w hw => ?_⟩
    · have h9 := lv_sub hl [4, 3, 2, 1, 0] rfl
      rw [← hψ] at h9
      exact h9
    · have hj : j < 7 := zget_some_lt hw
      have : j = 0 ∨ j = 1 ∨ j = 2 ∨ j = 3 ∨ j = 4 ∨ j = 5 ∨ j = 6 := by omega
      rcases this with rfl | rfl | rfl | rfl | rfl | rfl | rfl
      · cases hw; intro r hr; cases hr; exact Nat.zero_lt_succ 0
      · cases hw; intro r hr; cases hr; exact Nat.zero_lt_succ 0
      · cases hw; intro r hr; cases hr; exact Nat.zero_lt_succ 0
      · cases hw; intro r hr; cases hr; exact Nat.zero_lt_succ 0
      · cases hw; trivial
      · cases hw
      · cases hw
  have hgoal := zlim_ok (R := room_1) (below := below) (meth := meth) (l := l) (e := e) (c0 := 0) (s0 := 0) (n0 := 0) (φ0 := zph0 ψ a1 a2 a3 u v) (v := some (zi 1)) (S' := S') (Q := lw_Z below #[Value.ref b] s) (L := L) (xs := xs) (o := o) (d := d) hlt hC (fun d2 h2 => zmt_ok l hlt d2 d2 (Nat.le_refl _)) (by show 2 * d + 9 ≤ 2048; omega) (by show 48 * (d + 1) + 400 ≤ 84000; omega) ⟨by show zkc S' ≤ 0 + 601024; omega, by show zks S' ≤ 0 + 7293034; omega⟩ ?_ n (23, zl0, [], zS0 L xs o) hn (zph0 ψ a1 a2 a3 u v) H locs ls hH hLo (fun w hw => by cases hw) (zEx.rf _ _) (Nat.zero_le _) (Nat.zero_le _) (Nat.zero_le _)
  · exact hgoal
  · intro pc φ H locs ls hH hv hE hn h0 h1 hret
    obtain ⟨hcd, -, -⟩ := hret
    refine W.widen (k := 601024) (n := 7293034) hBc hBs ?_
    refine va_forget (fun q hq => hH.2.2.1.2.2 q hq) ?_
    exact lw_ret hx hb hr hlocks (zdec hcd).1
