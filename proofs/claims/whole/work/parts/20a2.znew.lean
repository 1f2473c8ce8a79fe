/-! A NEW LINE: the world grows by three cells -/
def zadd (φ : ZPh) (n a b c : Nat) : ZPh := fun t i => if i = n ∧ t = 2 then a else if i = n ∧ t = 29 then b else if i = n ∧ t = 30 then c else φ t i
theorem zadd_ex (φ : ZPh) (n a b c : Nat) : zEx n φ (zadd φ n a b c) := by
  refine ⟨fun t h2 h29 h30 => ?_, fun t i hi => ?_⟩
  · funext i
    unfold zadd
    rw [if_neg (fun e => h2 e.2), if_neg (fun e => h29 e.2), if_neg (fun e => h30 e.2)]
  · have hne : ∀ k, (k = 2 ∨ k = 29 ∨ k = 30) → ¬ (i = n ∧ t = k) := by
      rintro k hk ⟨rfl, rfl⟩
      rcases hk with rfl | rfl | rfl <;> exact Nat.lt_irrefl i hi
    unfold zadd
    rw [if_neg (hne 2 (Or.inl rfl)), if_neg (hne 29 (Or.inr (Or.inl rfl))), if_neg (hne 30 (Or.inr (Or.inr rfl)))]
theorem zadd_2 (φ : ZPh) (n a b c : Nat) : zadd φ n a b c 2 n = a := by
  unfold zadd
  rw [if_pos ⟨rfl, rfl⟩]
theorem zadd_29 (φ : ZPh) (n a b c : Nat) : zadd φ n a b c 29 n = b := by
  unfold zadd
  rw [if_neg (fun e => by cases e.2), if_pos ⟨rfl, rfl⟩]
theorem zadd_30 (φ : ZPh) (n a b c : Nat) : zadd φ n a b c 30 n = c := by
  unfold zadd
  rw [if_neg (fun e => by cases e.2), if_neg (fun e => by cases e.2), if_pos ⟨rfl, rfl⟩]
theorem zline_off {f : ZMp Int32} {j t i : Nat} {ix home : Int32} (h : ¬ ((t = 2 ∨ t = 29 ∨ t = 30) ∧ i = j)) : zline f j ix home t i = f t i := by
  funext k
  unfold zline
  rw [if_neg (fun e => h ⟨Or.inl e.1, e.2⟩), if_neg (fun e => h ⟨e.1.elim (fun a => Or.inr (Or.inl a)) (fun a => Or.inr (Or.inr a)), e.2⟩)]
theorem zline_2 {f : ZMp Int32} {j : Nat} {ix home : Int32} : zline f j ix home 2 j = fun k => if k = 0 then ix else if k = 1 then home else if k = 10 ∨ k = 11 then -1 else 0 := by
  funext k
  unfold zline
  rw [if_pos ⟨rfl, rfl⟩]
theorem zline_29 {f : ZMp Int32} {j : Nat} {ix home : Int32} : zline f j ix home 29 j = fun _ => 0 := by
  funext k
  unfold zline
  rw [if_neg (fun e => by cases e.1), if_pos ⟨Or.inl rfl, rfl⟩]
theorem zline_30 {f : ZMp Int32} {j : Nat} {ix home : Int32} : zline f j ix home 30 j = fun _ => 0 := by
  funext k
  unfold zline
  rw [if_neg (fun e => by cases e.1), if_pos ⟨Or.inr rfl, rfl⟩]
abbrev zS1 (S : ZS) (ix home : Int32) : ZS := (zline S.1 S.2.2.2.1 ix home, S.2.1, S.2.2.1, S.2.2.2.1 + 1, S.2.2.2.2.1 + 3, S.2.2.2.2.2 + 114)
theorem zof_ex {n : Nat} {φ φ' : ZPh} (hE : zEx n φ φ') {o : Option ZR} (h : zvo n o) : zof φ' o = zof φ o := by
  cases o with
  | none => rfl
  | some r =>
    show some (φ' r.1 r.2) = some (φ r.1 r.2)
    rw [hE.2 r.1 r.2 (h r rfl)]
theorem zce_new {φ φ' : ZPh} {cA : Nat → ClassId} {S : ZS} {ix home : Int32} {t i : Nat} (hE : zEx S.2.2.2.1 φ φ') (hv : zDv S) (hq : (t, i) ∈ zids S.2.2.2.1) : zce φ' cA (zS1 S ix home) t i = zce φ cA S t i ∧ φ' t i = φ t i := by
  obtain ⟨h1, h2⟩ := zids_valid hq
  have hoff : ¬ ((t = 2 ∨ t = 29 ∨ t = 30) ∧ i = S.2.2.2.1) := by
    rintro ⟨h, e⟩
    subst e
    rcases h with h | h | h <;> subst h <;> exact Nat.lt_irrefl _ h1
  refine ⟨?_, hE.2 t i h1⟩
  rw [zce_congr (S' := zS1 S ix home) (S := S) ⟨zline_off hoff, rfl, rfl⟩]
  unfold zce
  by_cases h12 : t < 12
  · rw [if_pos h12, if_pos h12]
    have e : zfs φ' S t i = zfs φ S t i := by
      unfold zfs
      exact List.map_congr_left fun f hf => zv_ex hE (zav_ok hv (List.mem_range.mp hf) (by omega) h1)
    rw [e]
  · rw [if_neg h12, if_neg h12]
    have e : zarr φ' S t i = zarr φ S t i := by
      unfold zarr
      split
      · rfl
      · have e2 : (fun k => zof φ' (S.2.2.1 t i k)) = fun k => zof φ (S.2.2.1 t i k) := funext fun k => zof_ex hE (hv t i k)
        rw [e2]
      · rfl
    rw [e]
theorem zids_s (n : Nat) : zids (n + 1) = zids n ++ [(2, n), (29, n), (30, n)] := by
  unfold zids
  rw [show zlids (n + 1) = zlids n ++ [(2, n), (29, n), (30, n)] from rfl, List.append_assoc]
theorem zce_2 (φ : ZPh) (cA : Nat → ClassId) (S : ZS) (n : Nat) : zce φ cA S 2 n = .inr (2, [.int (S.1 2 n 0), .int (S.1 2 n 1), .int (S.1 2 n 2), .int (S.1 2 n 3), .ref (φ 29 n), .int (S.1 2 n 5), .int (S.1 2 n 6), .ref (φ 30 n), .int (S.1 2 n 8), .int (S.1 2 n 9), .int (S.1 2 n 10), .int (S.1 2 n 11)]) := rfl
theorem zce_29 (φ : ZPh) (cA : Nat → ClassId) (S : ZS) (n : Nat) : zce φ cA S 29 n = .inl (cA 0, 97, .inl (S.1 29 n)) := rfl
theorem zce_30 (φ : ZPh) (cA : Nat → ClassId) (S : ZS) (n : Nat) : zce φ cA S 30 n = .inl (cA 0, 5, .inl (S.1 30 n)) := rfl
theorem zw_new {φ : ZPh} {cA : Nat → ClassId} {S : ZS} {ix home : Int32} (hv : zDv S) (a : Nat) (u : List Nat) : zw (zadd φ S.2.2.2.1 a (u.getD 0 0) (u.getD 1 0)) cA (zS1 S ix home) = zw φ cA S ++ zx_X2 cA a ix home u := by
  have hE := zadd_ex φ S.2.2.2.1 a (u.getD 0 0) (u.getD 1 0)
  unfold zw
  show (zids (S.2.2.2.1 + 1)).map _ = _
  rw [zids_s, List.map_append]
  have e1 : (zids S.2.2.2.1).map (fun q => ((zadd φ S.2.2.2.1 a (u.getD 0 0) (u.getD 1 0)) q.1 q.2, zce (zadd φ S.2.2.2.1 a (u.getD 0 0) (u.getD 1 0)) cA (zS1 S ix home) q.1 q.2)) = (zids S.2.2.2.1).map (fun q => (φ q.1 q.2, zce φ cA S q.1 q.2)) :=
    List.map_congr_left fun q hq => by rw [(zce_new (ix := ix) (home := home) (cA := cA) hE hv hq).1, (zce_new (ix := ix) (home := home) (cA := cA) hE hv hq).2]
  rw [e1]
  congr 1
  simp only [List.map_cons, List.map_nil, zce_2, zce_29, zce_30, zadd_2, zadd_29, zadd_30]
  simp only [zline_2, zline_29, zline_30]
  rfl
theorem zva_nd : ∀ {l : List Nat}, l.Nodup → va_nd l = true
  | [], _ => rfl
  | a :: l, h => by
    obtain ⟨h1, h2⟩ := List.nodup_cons.mp h
    show (decide (a ∉ l) && va_nd l) = true
    rw [zva_nd h2, decide_eq_true h1]
    rfl
theorem zrange_map {α : Type} (ws : List α) (x : α) : (List.range ws.length).map (fun i => (ws ++ [x])[i]?) = ws.map some := by
  refine List.ext_getElem? fun k => ?_
  rw [List.getElem?_map, List.getElem?_map]
  by_cases h : k < ws.length
  · rw [List.getElem?_range h, List.getElem?_eq_getElem h]
    show some ((ws ++ [x])[k]?) = some (some ws[k])
    rw [List.getElem?_append_left h, List.getElem?_eq_getElem h]
  · rw [List.getElem?_eq_none (by rw [List.length_range]; omega), List.getElem?_eq_none (l := ws) (by omega)]
    rfl
section NEW
variable {p : Program} {l : Launch} {e : Env} {R : Room} {s : State} {m : MethodId} {args : Array Value} {below : List Frame} {meth : Method} {c : Code} {H : Heap} {locs : List Loc} {cells slots : Nat} {Q : State → Prop}
variable {mi pc n : Nat} {cA : Nat → ClassId} {D : va_G} {A : Nat → Prop} {φ : ZPh} {L : Nat} {xs : Nat → Int32} {o : Option ZR} {ls : Array Slot} {lz : ZL} {st : List ZV} {S S' : ZS} {ins : Instr} {len : Nat}
set_option maxHeartbeats 4000000 in
set_option maxRecDepth 20000 in
theorem znew_ok {d c0 s0 k i0 : Nat} {home : Int32} (hC : zC p s m args c mi cA D) (hH : zHp φ cA D A s L xs o H locs S) (hRf : 2 * d + 9 ≤ R.frames) (hRl : 48 * (d + 1) + 400 ≤ R.locals) (hc : zcode mi pc = some (.new k, len)) (hat : znewat mi pc = true)
    (hL : zLo φ S.2.2.2.1 (zmx mi) ls lz) (h1 : zget 1 lz = some (.inl home)) (h0 : zget 0 lz = some (.inr (.inr (some (0, i0))))) (hSk : zSk S.2.2.2.1 st) (h4 : st.length ≤ 3) (hc0 : c0 ≤ zkc S) (hs0 : s0 ≤ zks S) (hB : zkc S + 3 ≤ c0 + R.cells ∧ zks S + 114 ≤ s0 + R.slots)
    (kk : ∀ (φ' : ZPh) (H1 : Heap) (locs1 : List Loc), zEx S.2.2.2.1 φ φ' → zHp φ' cA D A s L xs o H1 locs1 (zline S.1 S.2.2.2.1 (S.1 0 i0 3) home, S.2.1, S.2.2.1, S.2.2.2.1 + 1, S.2.2.2.2.1 + 3, S.2.2.2.2.2 + 114) → W p l e R s m args below meth c H1 locs1 (zkc S + 3 - c0) (zks S + 114 - s0) Q (F0 m (pc + 12) ls (.ref (φ' 2 S.2.2.2.1) :: st.map (zv φ')))) :
    W p l e R s m args below meth c H locs (zkc S - c0) (zks S - s0) Q (F0 m pc ls (st.map (zv φ))) := by
  have hcat : mi = 0 ∧ pc = 70 := by
    unfold znewat at hat
    rw [Bool.and_eq_true] at hat
    exact ⟨Nat.eq_of_beq_eq_true hat.1, Nat.eq_of_beq_eq_true hat.2⟩
  obtain ⟨rfl, rfl⟩ := hcat
  have d70 : decode (zby 0) 70 = .ok (.new 9, 3) := (zdec (show zcode 0 70 = some (.new 9, 3) from by rfl)).1
  have d73 : decode (zby 0) 73 = .ok (.dup, 1) := (zdec (show zcode 0 73 = some (.dup, 1) from by rfl)).1
  have d74 : decode (zby 0) 74 = .ok (.aload_n 0, 1) := (zdec (show zcode 0 74 = some (.aload_n 0, 1) from by rfl)).1
  have d75 : decode (zby 0) 75 = .ok (.getfield 37, 3) := (zdec (show zcode 0 75 = some (.getfield 37, 3) from by rfl)).1
  have d78 : decode (zby 0) 78 = .ok (.iload_n 1, 1) := (zdec (show zcode 0 78 = some (.iload_n 1, 1) from by rfl)).1
  have d79 : decode (zby 0) 79 = .ok (.invokespecial 41, 3) := (zdec (show zcode 0 79 = some (.invokespecial 41, 3) from by rfl)).1
  obtain ⟨hx, hb, hml, hmi, hoc, hown, hts, htn, hK⟩ := hC
  obtain ⟨hP, hD, hS, hv, hF, hA, e1, e2, e3, e4⟩ := hH
  have hown : s.vm.findClass "TownExchange$Calls" = some m.cls := hown
  have hi0 : i0 < zct S.2.2.2.1 0 := hL.2.2 0 _ h0 (0, i0) rfl
  have hl0 : ls[0]? = some (.val (.ref (φ 0 i0))) := hL.get h0
  have hl1 : ls[1]? = some (.val (.int home)) := hL.get h1
  obtain ⟨k0, hk0, hw0⟩ := zw_at (φ := φ) (cA := cA) (S := S) (t := 0) (i := i0) rfl hi0
  have hw1 : (zw φ cA S)[k0]? = some (φ 0 i0, .inr (0, zfs φ S 0 i0)) := hw0
  refine va_new (ci := 2) (fs := [.int 0, .int 0, .int 0, .int 0, .null, .int 0, .int 0, .null, .int 0, .int 0, .int 0, .int 0]) (C := zcn 2) (T := zcT 2) (N := zcN 2) hx hb hts (zcl_ws 2 (Nat.zero_le _) (by decide)) (zcty 2) (zcl_ty 2 (Nat.zero_le _) (by decide)) hown (zjw (i := 173) (by decide +kernel) (by rfl) hts) (zjw (i := 512) (by decide +kernel) (by rfl) hts) (zjw (i := 97) (by decide +kernel) (by rfl) hts) hK hP hD hS hA (zCl_at 2 (Nat.zero_le _) (by decide)) (by decide +kernel) (by omega) (by show zks S - s0 + 12 ≤ R.slots; omega) d70 (fun q H hP hD hS => ?_)
  have hqw : (zw φ cA S ++ [(q, .inr (2, [.int 0, .int 0, .int 0, .int 0, .null, .int 0, .int 0, .null, .int 0, .int 0, .int 0, .int 0]))])[(zw φ cA S).length]? = some (q, .inr (2, [.int 0, .int 0, .int 0, .int 0, .null, .int 0, .int 0, .null, .int 0, .int 0, .int 0, .int 0])) := by
    rw [List.getElem?_append_right (Nat.le_refl _), Nat.sub_self]
    rfl
  refine lv_dup hx hb d73 rfl ?_
  refine lv_aload_n hx hb d74 rfl hl0 ?_
  refine va_get (D := D) (ci := 0) (v := .int (S.1 0 i0 3)) (C := zcn 0) (T := zcT 0) (N := zcN 0) hx hb hts (zcl_ws 0 (Nat.zero_le _) (by decide)) hown hK hP k0 (by rw [List.getElem?_append_left (List.getElem?_eq_some_iff.mp hw1).1]; exact hw1) (zCl_at 0 (Nat.zero_le _) (by decide)) 3 (by decide) (zjw (i := 181) (by decide +kernel) (by rfl) hts) (fun _ h9 => h9) (zfs_get (φ := φ) (S := S) (t := 0) (i := i0) (f := 3) (by decide)) d75 ?_
  refine lv_iload_n hx hb d78 rfl hl1 ?_
  have hPc : va_P D vwCl [(q, .inr (2, [.int 0, .int 0, .int 0, .int 0, .null, .int 0, .int 0, .null, .int 0, .int 0, .int 0, .int 0]))] H := by
    intro j y hj
    have hy := List.mem_of_getElem? hj
    rw [List.mem_singleton] at hy
    subst hy
    exact hP _ _ hqw
  have hDc : va_D A [(q, .inr (2, [.int 0, .int 0, .int 0, .int 0, .null, .int 0, .int 0, .null, .int 0, .int 0, .int 0, .int 0]))] := by
    refine ⟨fun i j x y hi hj _ => ?_, fun j y hj => ?_⟩
    · have a1 : i < 1 := (List.getElem?_eq_some_iff.mp hi).1
      have a2 : j < 1 := (List.getElem?_eq_some_iff.mp hj).1
      omega
    · have hy := List.mem_of_getElem? hj
      rw [List.mem_singleton] at hy
      subst hy
      exact hD.2 _ _ hqw
  have hFc : ∀ y, va_A [(q, .inr (2, [.int 0, .int 0, .int 0, .int 0, .null, .int 0, .int 0, .null, .int 0, .int 0, .int 0, .int 0]))] H.size y → A y := by
    rintro y (⟨j, ee, h⟩ | h)
    · exact hDc.2 j (y, ee) h
    · exact hA y (Nat.le_trans hS.1 h)
  have hcat2 : 2 * 0 + (((Value.ref q) :: st.map (zv φ)).map fun v => v.category).sum ≤ 8 := by
    have h2 := zcat_le (φ := φ) st
    rw [List.map_cons, List.sum_cons]
    have h3 : (Value.ref q).category = 1 := rfl
    omega
  refine va_callv (va_runI (Ts := zgd) (own := "TownExchange$Calls") (nL := zmx 0) (As := [.int (S.1 0 i0 3), .int home]) (rest := .ref q :: st.map (zv φ)) ⟨hx, hb, hml, hown, hts⟩ (zi_X2 l D cA q (S.1 0 i0 3) home H.size) (cwI 2 hts (zgoodIn zw_X2) rfl rfl rfl (zjw (i := 97) (by decide +kernel) (by rfl) hts) (zjw (i := 513) (by decide +kernel) (by rfl) hts) (zjw (i := 514) (by decide +kernel) (by rfl) hts) rfl ⟨by decide, by decide, by decide +kernel⟩ ⟨by show 2 + 1 ≤ R.frames; omega, by show 8 + (3 + 11) + 60 ≤ R.locals; omega⟩) ⟨fun a U g mk q => by obtain ⟨q0, q1, qP, qK, qD⟩ := q; exact ⟨q0, q1, qP, va_K.moved (u := U) (U := U.calling g mk a) (Vm.Alike.refl U.vm) qK, qD⟩, fun U hU hW => ⟨rfl, by rw [hU], by rw [hU]; exact hPc, hK.moved hW.alike, hDc.weaken (fun _ _ _ _ => trivial)⟩⟩ rfl rfl hL.1.1 rfl hcat2 d79 ⟨by omega, by show zks S - s0 + 12 + 102 ≤ R.slots; omega⟩) hS (fun y _ h => hFc y h) hFc (fun u t H1 locs ht hvm hw hB2 hz1 hk1 hS => ?_)
  obtain ⟨hP1, hD1⟩ := hB2
  rw [ht] at hP1
  obtain ⟨hP, hD⟩ := va_join (wr := zw φ cA S) (w1 := zx_X2 cA q (S.1 0 i0 3) home u) hP hD [(zw φ cA S).length] (List.range (zw φ cA S).length) (by rw [List.map_cons, hqw]; rfl) (zrange_map _ _) (zva_nd List.nodup_range) (fun i hi h => by
    have a1 := List.mem_range.mp hi
    have a2 := List.mem_singleton.mp h
    omega) hk1 hFc hP1 hD1
  have hE := zadd_ex φ S.2.2.2.1 q (u.getD 0 0) (u.getD 1 0)
  rw [← zw_new hv] at hP hD
  have g16 : zline S.1 S.2.2.2.1 (S.1 0 i0 3) home 16 0 = S.1 16 0 := zline_off (by omega)
  have g161 : zline S.1 S.2.2.2.1 (S.1 0 i0 3) home 16 1 0 = S.1 16 1 0 := congrFun (zline_off (by omega)) 0
  have hk := kk (zadd φ S.2.2.2.1 q (u.getD 0 0) (u.getD 1 0)) H1 locs hE ⟨hP, hD, hS, fun t i k => zvo.mono (Nat.le_succ _) (hv t i k), hF.ex hE, hA, g16.trans e1, g161.trans e2, e3, e4.ph (congrFun (hE.1 13 (by decide) (by decide) (by decide)) 13)⟩
  rw [zadd_2, zmap_ex hE hSk, show zkc S + 3 - c0 = zkc S - c0 + 1 + 2 by omega, show zks S + 114 - s0 = zks S - s0 + 12 + 102 by omega] at hk
  exact hk
end NEW
