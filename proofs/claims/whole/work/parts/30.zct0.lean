/-! CONSTRUCTORS: what their walks stand on -/
theorem zwfill_in : ∀ w ∈ zwfill, w ∈ zgd := by
  intro w hw
  rcases List.mem_cons.mp hw with rfl | hw
  · exact zgd_of (i := 127) (by decide +kernel) (by first | rfl | simp [goodWord, Cond.onTables, Cond.keeps, Cond.steady])
  · exact hw
theorem zcA_eqo {s : State} {D : va_G} {cl : List vw_C} {cA : Nat → ClassId} {c9 : ClassId} {C : String} {t0 : Nat} (hK : va_K D cl (zty cA ++ [(c9, .object C)]) s) (ht : (zty cA)[t0]? = some (cA t0, .object C)) : c9 = cA t0 := by
  have h1 := (hK.2 5 (c9, .object C) rfl).2
  have h2 := (hK.2 t0 (cA t0, .object C) (by rw [List.getElem?_append_left (List.getElem?_eq_some_iff.mp ht).1]; exact ht)).2
  obtain ⟨-, -, -, -, -, a1⟩ := h1
  obtain ⟨-, -, -, -, -, a2⟩ := h2
  exact Option.some.inj (a1.symm.trans a2)
theorem zfr_w {ws : va_W} {A : Nat → Prop} {H0 H : Heap} {locs : List Loc} (hD : va_D A ws) (hS : va_S A H0 H locs) (hA : ∀ q, H0.size ≤ q → A q) : ∀ q, va_A ws H.size q → A q := by
  intro q hq
  rcases hq with ⟨k, ee, hq⟩ | hq
  · exact hD.2 k (q, ee) hq
  · exact hA q (Nat.le_trans hS.1 hq)
section CT
variable {p : Program} {l : Launch} {e : Env} {R : Room} {s : State} {m : MethodId} {args : Array Value} {below : List Frame} {meth : Method} {c : Code} {H : Heap} {locs : List Loc} {cells slots : Nat} {Q : State → Prop}
variable {cc : ByteArray} {pc pc3 pe idx n k q0 a h0 : Nat} {ls : Array Slot} {D : va_G} {A : Nat → Prop} {cA : Nat → ClassId} {ws : va_W} {f : Nat → Int32} {w nv : Int32} {fs : List Value} {wi off off2 : Int}
set_option maxHeartbeats 2000000 in
/-- for (int k = 0; k < n; k++) an array field's place k gets w -/
theorem zcloop (hx : p.tables.exec = Jvm.exec) (hb : c.code = cc) (hts : ∀ w ∈ zgd, w.before args s = true) (hown : s.vm.findClass (zcn 11) = some m.cls) (hK : va_K D vwCl (zty cA) s)
    (hlk : (Cond.fieldLink (zcn 11) idx (zcn 11) (zcT 11 k).2.1 (zcT 11 k).2.2.1).before args s = true) (h0w : ws[0]? = some (h0, .inr (11, fs))) (haw : ws[q0]? = some (a, .inl (cA 0, n, .inl f))) (hfa : fs[k]? = some (.ref a)) (hk : k < zcN 11) (hn : n < 2147483648)
    (hl : lv_has ls 2 [(0, .ref h0)]) (d0 : decode cc pc = .ok (.istore_n 1, 1)) (d1 : decode cc (pc + 1) = .ok (.iload_n 1, 1))
    (hp : ∀ (H : Heap) (locs : List Loc) (ls : Array Slot) (x : Int32) (rest : List Value), W p l e R s m args below meth c H locs cells slots Q (F0 m pc3 ls (.int nv :: .int x :: rest)) → W p l e R s m args below meth c H locs cells slots Q (F0 m (pc + 1 + 1) ls (.int x :: rest)))
    (d3 : decode cc pc3 = .ok (.if_icmp .ge off, 3)) (d4 : decode cc (pc3 + 3) = .ok (.aload_n 0, 1)) (d5 : decode cc (pc3 + 3 + 1) = .ok (.getfield idx, 3)) (d6 : decode cc (pc3 + 3 + 1 + 3) = .ok (.iload_n 1, 1)) (d7 : decode cc (pc3 + 3 + 1 + 3 + 1) = .ok (.iconst wi, 1)) (d8 : decode cc (pc3 + 3 + 1 + 3 + 1 + 1) = .ok (.iastore, 1)) (d9 : decode cc (pc3 + 3 + 1 + 3 + 1 + 1 + 1) = .ok (.iinc 1 1, 3)) (d10 : decode cc (pc3 + 3 + 1 + 3 + 1 + 1 + 1 + 3) = .ok (.goto off2, 3))
    (hnv : nv = Int32.ofNat n) (ht : (pc3 : Int) + off = (pe : Int)) (ht2 : ((pc3 + 3 + 1 + 3 + 1 + 1 + 1 + 3 : Nat) : Int) + off2 = ((pc + 1 : Nat) : Int))
    (hP : va_P D vwCl ws H) (hD : va_D A ws) (hS : va_S A s.heap H locs)
    (kk : ∀ (H : Heap) (locs : List Loc) (ls : Array Slot), va_P D vwCl (ws.set q0 (a, .inl (cA 0, n, .inl (zff f n w)))) H → va_D A (ws.set q0 (a, .inl (cA 0, n, .inl (zff f n w)))) → va_S A s.heap H locs → lv_has ls 2 [(0, .ref h0)] → W p l e R s m args below meth c H locs cells slots Q (F0 m pe ls [])) (hwi : Int32.ofInt wi = w := by rfl) (hdc : (zcT 11 k).1 = zcn 11 := by rfl) :
    W p l e R s m args below meth c H locs cells slots Q (F0 m pc ls [.int 0]) := by
  subst hnv
  refine lv_istore_n hx hb d0 rfl hl (by decide) rfl (fun ls hl => ?_)
  have hl : lv_has ls 2 [(1, .int (Int32.ofNat 0)), (0, .ref h0)] := hl
  have hqa : q0 < ws.length := (List.getElem?_eq_some_iff.mp haw).1
  have hset : ws = ws.set q0 (a, .inl (cA 0, n, .inl (zff f 0 w))) := by
    rw [zff_0]
    refine List.ext_getElem? fun k => ?_
    by_cases hk : k = q0
    · subst hk
      rw [List.getElem?_set_self hqa, haw]
    · rw [List.getElem?_set_ne (Ne.symm hk)]
  have hne : q0 ≠ 0 := by
    intro e9
    rw [e9, h0w] at haw
    cases haw
  have key : ∀ (g j : Nat), g + j = n → ∀ (ls : Array Slot) (H : Heap) (locs : List Loc), lv_has ls 2 [(1, .int (Int32.ofNat j)), (0, .ref h0)] → va_P D vwCl (ws.set q0 (a, .inl (cA 0, n, .inl (zff f j w)))) H → va_D A (ws.set q0 (a, .inl (cA 0, n, .inl (zff f j w)))) → va_S A s.heap H locs →
      W p l e R s m args below meth c H locs cells slots Q (F0 m (pc + 1) ls []) := by
    intro g
    induction g with
    | zero =>
      intro j hj ls H locs hl hP hD hS
      have e : j = n := by omega
      subst e
      refine lv_iload_n hx hb d1 rfl (lv_at hl 0 rfl) ?_
      refine hp _ _ _ _ _ ?_
      refine lv_icmp_ge hx hb d3 ht (fun _ => ?_) (fun h => absurd (Int32.le_refl _) h)
      exact kk H locs ls hP hD hS (lv_sub hl [1] rfl)
    | succ g ih =>
      intro j hj ls H locs hl hP hD hS
      have hjn : j < n := by omega
      have hlt : Int32.ofNat j < Int32.ofNat n := (Int32.ofNat_lt_iff_lt (by omega) hn).mpr hjn
      have hcl : (Int32.ofNat j).toNatClampNeg = j := Int32.toNatClampNeg_ofNat_of_lt (by omega)
      refine lv_iload_n hx hb d1 rfl (lv_at hl 0 rfl) ?_
      refine hp _ _ _ _ _ ?_
      refine lv_icmp_ge hx hb d3 ht (fun h => absurd hlt (Int32.not_lt.mpr h)) (fun _ => ?_)
      refine lv_aload_n hx hb d4 rfl (lv_at hl 1 rfl) ?_
      refine va_get (D := D) (ci := 11) (v := .ref a) (C := zcn 11) (T := zcT 11) (N := zcN 11) hx hb hts (zcl_ws 11 (Nat.zero_le _) (by decide)) hown hK hP 0 (by rw [List.getElem?_set_ne hne]; exact h0w) (zCl_at 11 (Nat.zero_le _) (by decide)) k hk hlk (fun _ h9 => by rw [hdc] at h9; exact h9) hfa d5 ?_
      refine lv_iload_n hx hb d6 rfl (lv_at hl 0 rfl) ?_
      refine lv_iconst hx hb d7 hwi ?_
      have hvp : vp_in (Int32.ofNat j) n := by
        unfold vp_in
        rw [hcl]
        rintro (h | h)
        · exact absurd h (Int32.not_lt.mpr ((Int32.ofNat_le_iff_le (by decide) (by omega)).mpr (Nat.zero_le j)))
        · omega
      refine va_iast hx hb hK hP hD hS q0 0 (List.getElem?_set_self hqa) rfl hvp d8 (fun H1 locs1 q1 q2 q3 => ?_)
      rw [hcl, List.set_set, zff_s] at q1 q2
      refine lv_iinc hx hb d9 hl (k := 0) rfl zon_succ (by decide) rfl (fun ls hl => ?_)
      have hl : lv_has ls 2 [(1, .int (Int32.ofNat (j + 1))), (0, .ref h0)] := hl
      refine lv_goto hx hb d10 ht2 ?_
      exact ih (j + 1) (by omega) ls H1 locs1 hl q1 q2 q3
  have hP2 : va_P D vwCl (ws.set q0 (a, .inl (cA 0, n, .inl (zff f 0 w)))) H := by rw [← hset]; exact hP
  have hD2 : va_D A (ws.set q0 (a, .inl (cA 0, n, .inl (zff f 0 w)))) := by rw [← hset]; exact hD
  exact key n 0 (by omega) ls H locs hl hP2 hD2 hS
end CT
