/-! CALLS: contracts of all methods of the machine -/
theorem zct_mono {n n' t : Nat} (h : n ≤ n') : zct n t ≤ zct n' t := by
  by_cases hb : t < 122
  · rcases zct_n n t hb with e | e | e | e
    · subst e; exact h
    · subst e; exact h
    · subst e; exact h
    · rcases zct_n n' t hb with e' | e' | e' | e'
      · subst e'; exact h
      · subst e'; exact h
      · subst e'; exact h
      · rw [e, e']; exact Nat.le_refl _
  · rw [zct_big n t (by omega)]
    exact Nat.zero_le _
theorem zvr.mono {n n' : Nat} {r : ZR} (h : n ≤ n') (hr : zvr n r) : zvr n' r := Nat.lt_of_lt_of_le hr (zct_mono h)
theorem zvo.mono {n n' : Nat} {o : Option ZR} (h : n ≤ n') (hr : zvo n o) : zvo n' o := fun r e => (hr r e).mono h
theorem zvv.mono {n n' : Nat} {v : ZV} (h : n ≤ n') (hr : zvv n v) : zvv n' v := by
  rcases v with x | x | o
  · exact trivial
  · exact trivial
  · exact zvo.mono (o := o) h hr
theorem zSk.mono {n n' : Nat} {st : List ZV} (h : n ≤ n') (hr : zSk n st) : zSk n' st := fun v hv => (hr v hv).mono h
theorem zv_ex {n : Nat} {φ φ' : ZPh} (hE : zEx n φ φ') {v : ZV} (hv : zvv n v) : zv φ' v = zv φ v := by
  rcases v with x | x | (_ | ⟨t, i⟩)
  · rfl
  · rfl
  · rfl
  · show Value.ref (φ' t i) = Value.ref (φ t i)
    rw [hE.2 t i (hv (t, i) rfl)]
theorem zmap_ex {n : Nat} {φ φ' : ZPh} (hE : zEx n φ φ') {st : List ZV} (hv : zSk n st) : st.map (zv φ') = st.map (zv φ) := List.map_congr_left fun v h => zv_ex hE (hv v h)
theorem zLo.ex {n n' nL : Nat} {φ φ' : ZPh} {ls : Array Slot} {l : ZL} (hE : zEx n φ φ') (hn : n ≤ n') (h : zLo φ n nL ls l) : zLo φ' n' nL ls l := by
  obtain ⟨h1, h2, h3⟩ := h
  refine ⟨⟨h1.1, h1.2.1, fun q hq => ?_⟩, h2, fun j v hv => (h3 j v hv).mono hn⟩
  obtain ⟨j, v, hv, rfl⟩ := (zlv_mem φ' l 0 q).mp hq
  rw [zv_ex hE (h3 j v hv)]
  exact h1.2.2 _ ((zlv_mem φ l 0 _).mpr ⟨j, v, hv, rfl⟩)
theorem zget_mask : ∀ (ms : List Bool) (l : ZL) (j : Nat) (v : ZV), zget j (zmask ms l) = some v → zget j l = some v
  | [], l, j, v, h => h
  | _ :: _, [], j, v, h => h
  | b :: bs, x :: r, 0, v, h => by
    unfold zmask at h
    cases b
    · simp [zget] at h
    · exact h
  | b :: bs, x :: r, j + 1, v, h => zget_mask bs r j v h
theorem zmask_len : ∀ (ms : List Bool) (l : ZL), (zmask ms l).length = l.length
  | [], l => rfl
  | _ :: _, [] => rfl
  | b :: bs, x :: r => by
    unfold zmask
    rw [List.length_cons, List.length_cons, zmask_len bs r]
theorem zLo.mask {φ : ZPh} {n nL : Nat} {ls : Array Slot} {l : ZL} (ms : List Bool) (h : zLo φ n nL ls l) : zLo φ n nL ls (zmask ms l) := by
  obtain ⟨h1, h2, h3⟩ := h
  refine ⟨⟨h1.1, h1.2.1, fun q hq => ?_⟩, by rw [zmask_len]; exact h2, fun j v hv => h3 j v (zget_mask ms l j v hv)⟩
  obtain ⟨j, v, hv, rfl⟩ := (zlv_mem φ _ 0 q).mp hq
  exact h1.2.2 _ ((zlv_mem φ l 0 _).mpr ⟨j, v, zget_mask ms l j v hv, rfl⟩)
theorem zpop_spec : ∀ (n : Nat) (acc st : List ZV) (w : List ZV × List ZV), zpop n acc st = some w → ∃ xs, st = xs ++ w.2 ∧ w.1 = xs.reverse ++ acc ∧ xs.length = n
  | 0, acc, st, w, h => by
    unfold zpop at h
    cases h
    exact ⟨[], rfl, rfl, rfl⟩
  | n + 1, acc, [], w, h => by unfold zpop at h; cases h
  | n + 1, acc, x :: r, w, h => by
    unfold zpop at h
    obtain ⟨xs, h1, h2, h3⟩ := zpop_spec n (x :: acc) r w h
    exact ⟨x :: xs, by rw [h1]; rfl, by rw [h2, List.reverse_cons, List.append_assoc]; rfl, by rw [List.length_cons, h3]⟩
def zwsm (mj : Nat) : List Cond := .code (zyn mj) (zby mj) (zmx mj) (zrt mj) :: zgd
def zrm (d : Nat) (S S' : ZS) : Room := { frames := 2 * d + 8, cells := zkc S' - zkc S, slots := zks S' - zks S, locals := 48 * d + 400 }
def zPre (φ : ZPh) (cA : Nat → ClassId) (D : va_G) (L : Nat) (xs : Nat → Int32) (o : Option ZR) (S : ZS) (sz : Nat) (U : State) : Prop :=
  U.heap.size = sz ∧ va_P D vwCl (zw φ cA S) U.heap ∧ va_K D vwCl (zty cA) U ∧ va_D (fun _ => True) (zw φ cA S) ∧ zDv S ∧ zFz φ L xs o (va_A (zw φ cA S) sz) U U.heap ∧ (∀ w ∈ zns, va_Nw w U) ∧ S.1 16 0 = xs ∧ S.1 16 1 0 = Int32.ofNat L ∧ S.2.2.1 19 0 0 = o ∧ zKR φ U
def zQm (φ : ZPh) (cA : Nat → ClassId) (D : va_G) (L : Nat) (xs : Nat → Int32) (o : Option ZR) (S S' : ZS) (v : Option ZV) (A : Nat → Prop) : Array Value → State → Outcome → State → Prop := fun _ st oc t =>
  (∃ φ' : ZPh, oc = .returned (v.map (zv φ')) ∧ zEx S.2.2.2.1 φ φ' ∧ va_P D vwCl (zw φ' cA S') t.heap ∧ va_D A (zw φ' cA S') ∧ zDv S' ∧ S'.1 16 0 = xs ∧ S'.1 16 1 0 = Int32.ofNat L ∧ S'.2.2.1 19 0 0 = o ∧ ∀ w, v = some w → zvv S'.2.2.2.1 w) ∧ va_F A st t
/-- every method that comes to an end in cl keeps its contract -/
def zMt (l : Launch) (d : Nat) (cl : Nat → List ZV → ZS → Option ZX) : Prop := ∀ (mj : Nat) (av : List ZV) (S : ZS) (v : Option ZV) (S' : ZS), mj < 225 → cl mj av S = some (v, S') → ∀ (φ : ZPh) (cA : Nat → ClassId) (D : va_G) (L : Nat) (xs : Nat → Int32) (o : Option ZR) (sz : Nat), zSk S.2.2.2.1 av →
  Met l (zyn mj) (zwsm mj) (zrm d S S') (va_Pc (av.map (zv φ)) (zPre φ cA D L xs o S sz)) (zQm φ cA D L xs o S S' v (va_A (zw φ cA S) sz)) (zkc S' - zkc S) (zks S' - zks S) (va_A (zw φ cA S) sz)
theorem zNw_warm {s U : State} (hW : s.WarmedH U.vm) (h : ∀ w ∈ zns, va_Nw w s) : ∀ w ∈ zns, va_Nw w U := by
  intro w hw
  have h1 := h w hw
  have h2 := (List.mem_filter.mp hw).2
  unfold zisn at h2
  split at h2
  · exact va_Nw.warmF hW h1
  · exact va_Nw.warmM hW h1
  · cases h2
theorem zNw_same {u U : State} (hvm : u.vm = U.vm) (h : ∀ w ∈ zns, va_Nw w u) : ∀ w ∈ zns, va_Nw w U := by
  intro w hw
  have h1 := h w hw
  have h2 := (List.mem_filter.mp hw).2
  unfold zisn at h2
  split at h2
  · exact va_Nw.same rfl hvm h1
  · exact va_Nw.same rfl hvm h1
  · cases h2
theorem zcode_word {mj : Nat} (h : mj < 225) : lw_tbl[zcp mj]? = some (.code (zyn mj) (zby mj) (zmx mj) (zrt mj)) := by
  have hm := zmm h
  unfold zmmb at hm
  simp only [Bool.and_eq_true] at hm
  have h1 := hm.1.1.1.1.1.1.1.1
  have hne : Nat.beq mj 225 = false := by
    cases hb : Nat.beq mj 225 with
    | false => rfl
    | true => have := Nat.eq_of_beq_eq_true hb; omega
  split at h1
  · rename_i y b mx rt e
    simp only [Bool.and_eq_true, decide_eq_true_eq] at h1
    obtain ⟨⟨h2, h3⟩, h4⟩ := h1
    have e2 : zby mj = b := by
      unfold zby
      rw [hne, e]
      rfl
    rw [e, h2, h3, h4, e2]
  · cases h1
theorem zgood_code (mj : Nat) : goodWord (.code (zyn mj) (zby mj) (zmx mj) (zrt mj)) = true := by
  first | rfl | simp [goodWord, Cond.onTables, Cond.keeps, Cond.steady]
theorem zgd_good : ∀ w ∈ zgd, goodWord w = true := fun w h => (List.mem_filter.mp h).2
theorem zgoodIn {ws : List Cond} (h : ∀ w ∈ ws, w ∈ zgd) : GoodIn zgd ws := fun w hw => ⟨h w hw, good_of_word (zgd_good w (h w hw))⟩
theorem zwsm_in {mj : Nat} (h : mj < 225) : ∀ w ∈ zwsm mj, w ∈ zgd := by
  intro w hw
  rcases List.mem_cons.mp hw with rfl | hw
  · exact zgd_of (zcode_word h) (zgood_code mj)
  · exact hw
set_option maxRecDepth 20000 in
theorem zroomle {a d r : Nat} (h : a ≤ 16) (h2 : 48 * (d + 1) + 400 ≤ r) : 8 + (a + 11) + (48 * d + 400) ≤ r := by omega
section CALL
variable {p : Program} {l : Launch} {e : Env} {R : Room} {s : State} {m : MethodId} {args : Array Value} {below : List Frame} {meth : Method} {c : Code} {H : Heap} {locs : List Loc} {cells slots : Nat} {Q : State → Prop}
variable {mi pc n : Nat} {cA : Nat → ClassId} {D : va_G} {A : Nat → Prop} {φ : ZPh} {L : Nat} {xs : Nat → Int32} {o : Option ZR} {ls : Array Slot} {lz : ZL} {st : List ZV} {S S' : ZS} {ins : Instr} {len : Nat}
/-- behind a call -/
theorem zrun_W {st0 rest : List Value} {mc ms : Nat} {a : Array Value} {v : Option ZV} (hH : zHp φ cA D A s L xs o H locs S)
    (hr : va_Run p l e R s m args below meth c H locs cells slots mc ms (F0 m pc ls st0) rest (zQm φ cA D L xs o S S' v (va_A (zw φ cA S) H.size) a) (va_A (zw φ cA S) H.size))
    (kk : ∀ (φ' : ZPh) (H1 : Heap) (locs1 : List Loc), zEx S.2.2.2.1 φ φ' → zHp φ' cA D A s L xs o H1 locs1 S' → (∀ w, v = some w → zvv S'.2.2.2.1 w) → W p l e R s m args below meth c H1 locs1 (cells + mc) (slots + ms) Q (F0 m (pc + 3) ls ((v.map (zv φ')).toList ++ rest))) : W p l e R s m args below meth c H locs cells slots Q (F0 m pc ls st0) := by
  obtain ⟨hP, hD, hS, hdv, hF, hA, hxs, hl, ho, hKR⟩ := hH
  intro T hT X
  obtain ⟨v0, st₀, t, T', L0, h0, X', hL0, e1, e2, ⟨⟨φ', hv, hE, hP1, hD1, hd1, hx1, hl1, hl2, hv1⟩, hz, hk⟩, st⟩ := hr T hT X
  cases hv
  rw [h0] at hz hk
  have hfr : ∀ q, va_A (zw φ cA S) H.size q → A q := by
    intro q hq
    rcases hq with ⟨k, ee, hq⟩ | hq
    · exact hD.2 k (q, ee) hq
    · exact hA q (Nat.le_trans hS.1 hq)
  have hS1 : va_S A s.heap T'.heap (locs ++ L0) := ⟨Nat.le_trans hS.1 (by rw [e1]; exact hz), fun q h1 h2 => by rw [e1, hk q (Nat.lt_of_lt_of_le h1 hS.1) (fun z => h2 (hfr q z))]; exact hS.2.1 q h1 h2, fun q hq => by
      rcases List.mem_append.mp hq with h | h
      · exact hS.2.2 q h
      · exact hfr _ (hL0 q h)⟩
  obtain ⟨t2, a1, b1⟩ := kk φ' T'.heap (locs ++ L0) hE ⟨by rw [e1]; exact hP1, hD1.weaken (fun k q _ h => hfr q.1 h), hS1, hd1, hF.ex hE, hA, hx1, hl1, hl2, hKR.ph (congrFun (hE.1 13 (by decide) (by decide) (by decide)) 13)⟩ hv1 T' rfl X'
  exact ⟨t2, st t2 a1, b1⟩
/-- what the caller has, is what the called one wants -/
theorem zpre_of (hC : zC p s m args c mi cA D) (hH : zHp φ cA D A s L xs o H locs S) {U : State} (hU : U.heap = H) (hW : s.WarmedH U.vm) : zPre φ cA D L xs o S H.size U := by
  obtain ⟨hx, hb, hml, hmi, hoc, hown, hts, htn, hK⟩ := hC
  obtain ⟨hP, hD, hS, hdv, hF, hA, hxs, hl, ho, hKR⟩ := hH
  refine ⟨by rw [hU], by rw [hU]; exact hP, hK.moved hW.alike, hD.weaken (fun _ _ _ _ => trivial), hdv, ?_, zNw_warm hW htn, hxs, hl, ho, hKR.warm hW⟩
  rw [hU]
  refine ((hF.kept hS.2.1).moved hW.alike).narrow fun q hq hq2 => ?_
  rcases hq2 with ⟨k, ee, hq2⟩ | hq2
  · exact hD.2 k (q, ee) hq2
  · omega
theorem zpre_blind {av : List Value} {sz : Nat} : FrameBlind (va_Pc av (zPre φ cA D L xs o S sz)) := by
  intro a U g mk h
  obtain ⟨h0, h1, h2, h3, h4, h5, h6, h7, h8, h9, h10, h11⟩ := h
  exact ⟨h0, h1, h2, va_K.moved (u := U) (U := U.calling g mk a) (Vm.Alike.refl U.vm) h3, h4, h5, zFz.moved (u := U) (U := U.calling g mk a) (Vm.Alike.refl U.vm) h6, zNw_same (u := U) (U := U.calling g mk a) rfl h7, h8, h9, h10, zKR.same (u := U) (U := U.calling g mk a) rfl h11⟩
theorem zcat_le : ∀ (st : List ZV), ((st.map (zv φ)).map (fun v => v.category)).sum ≤ 2 * st.length
  | [] => Nat.le_refl _
  | v :: r => by
    have h := zcat_le r
    have h1 := zv_cat φ v
    simp only [List.map_cons, List.sum_cons, List.length_cons] at h ⊢
    rw [h1]
    split <;> omega
set_option maxHeartbeats 2000000 in
theorem zinv_ok {d c0 s0 k : Nat} {cl : Nat → List ZV → ZS → Option ZX} (hC : zC p s m args c mi cA D) (hH : zHp φ cA D A s L xs o H locs S) (hMt : zMt l d cl) (hRf : 2 * d + 9 ≤ R.frames) (hRl : 48 * (d + 1) + 400 ≤ R.locals)
    (hc : zcode mi pc = some (ins, len)) (hin : ins = .invokevirtual k ∨ ins = .invokestatic k) {q : Nat × Nat × Nat} (hq : zmth (zoc mi) k = some q) (hlt : q.1 < 1000) {w : List ZV × List ZV} (hw : zpop q.2.1 [] st = some w) (hw4 : w.2.length ≤ 4) {v : Option ZV} (hcl : cl q.1 w.1 S = some (v, S')) (hrc : zrcv (zsg q.1) w.1 = true)
    (hSk : zSk S.2.2.2.1 st) (hle : zle S S') (h0 : c0 ≤ zkc S) (h1 : s0 ≤ zks S) (hB : zkc S' ≤ c0 + R.cells ∧ zks S' ≤ s0 + R.slots) (hls : ls.size = zmx mi)
    (kk : ∀ (φ' : ZPh) (H1 : Heap) (locs1 : List Loc), zEx S.2.2.2.1 φ φ' → zHp φ' cA D A s L xs o H1 locs1 S' → (∀ w, v = some w → zvv S'.2.2.2.1 w) → W p l e R s m args below meth c H1 locs1 (zkc S' - c0) (zks S' - s0) Q (F0 m (pc + len) ls ((v.toList ++ w.2).map (zv φ')))) :
    W p l e R s m args below meth c H locs (zkc S - c0) (zks S - s0) Q (F0 m pc ls (st.map (zv φ))) := by
  obtain ⟨hdg, hck⟩ := zdec hc
  have hC0 := hC
  obtain ⟨hx, hb, hml, hmi, hoc, hown, hts, htn, hK⟩ := hC
  obtain ⟨ar, hst, hw1, har⟩ := zpop_spec _ _ _ _ hw
  rw [List.append_nil] at hw1
  have har2 : ar = w.1.reverse := by rw [hw1, List.reverse_reverse]
  have hSkr : zSk S.2.2.2.1 w.2 := fun v hv => hSk v (by rw [hst]; exact List.mem_append_right _ hv)
  have hSka : zSk S.2.2.2.1 w.1 := fun v hv => hSk v (by rw [hst, har2]; exact List.mem_append_left _ (List.mem_reverse.mpr hv))
  have hlen3 : len = 3 ∧ k < 2048 ∧ (ins = .invokevirtual k → (zsg q.1).isSome = true) ∧ (ins = .invokestatic k → (zsg q.1).isNone = true) := by
    have hb0 : Nat.ble 1000 q.1 = false := by
      cases hbb : Nat.ble 1000 q.1 with
      | false => rfl
      | true => have := Nat.ble_eq.mp hbb; omega
    rcases hin with rfl | rfl
    · simp only [zchk, Bool.and_eq_true, Nat.beq_eq, Nat.blt_eq, hq, hb0, Bool.false_or] at hck
      exact ⟨hck.1.1, hck.1.2, fun _ => hck.2, fun e => by cases e⟩
    · simp only [zchk, Bool.and_eq_true, Nat.beq_eq, Nat.blt_eq, hq, hb0, Bool.false_or] at hck
      exact ⟨hck.1.1, hck.1.2, fun e => (by cases e), fun _ => hck.2⟩
  obtain ⟨rfl, hk, hiv, his⟩ := hlen3
  have hwd := zmc hoc hk hq
  have hq' := hq
  unfold zmcb at hwd
  unfold zmth at hq'
  rw [hq'] at hwd
  obtain ⟨mj, na, rk⟩ := q
  dsimp only at hwd hlt hw hcl hrc hiv his har hw1
  have hb0 : Nat.ble 1000 mj = false := by
    cases hbb : Nat.ble 1000 mj with
    | false => rfl
    | true => have := Nat.ble_eq.mp hbb; omega
  rw [hb0, Bool.false_or] at hwd
  simp only [Bool.and_eq_true, Nat.blt_eq, Nat.beq_eq, decide_eq_true_eq] at hwd
  obtain ⟨⟨⟨⟨⟨hmj, hlw⟩, hgw⟩, hna⟩, hrk⟩, hns⟩ := hwd
  unfold zmw at hlw hgw
  rw [show (zoc mi * 2048 + k) / 2048 = zoc mi by omega, show (zoc mi * 2048 + k) % 2048 = k by omega] at hlw hgw
  have hmm := zmm hmj
  unfold zmmb at hmm
  simp only [Bool.and_eq_true, Nat.blt_eq, Nat.ble_eq, decide_eq_true_eq] at hmm
  obtain ⟨⟨⟨⟨⟨⟨⟨⟨-, hi1⟩, hi2⟩, hkd⟩, hn1⟩, hn2⟩, hoc1⟩, hoc2⟩, hmx⟩ := hmm
  have hmp := zmp hmj
  unfold zmpb at hmp
  simp only [Bool.and_eq_true, decide_eq_true_eq] at hmp
  have hpar := hmp.1.1
  have hM := hMt mj w.1 S v S' hmj hcl φ cA D L xs o H.size hSka
  have hini := hts _ (zgd_of hi1 hi2)
  have hG := zgoodIn (zwsm_in hmj)
  have hcat : 2 * (F0 m pc ls (st.map (zv φ))).monitorRoom + ((w.2.map (zv φ)).map fun v => v.category).sum ≤ 8 := by
    have h2 := zcat_le (φ := φ) w.2
    show 2 * 0 + _ ≤ 8
    omega
  have hroom : (zrm d S S').frames + 1 ≤ R.frames ∧ 8 + (zmx mj + 11) + (zrm d S S').locals ≤ R.locals := ⟨hRf, zroomle hmx hRl⟩
  have hfit : zkc S - c0 + (zkc S' - zkc S) ≤ R.cells ∧ zks S - s0 + (zks S' - zks S) ≤ R.slots := by
    have := hle.2.1
    have := hle.2.2
    omega
  have ecs : zkc S - c0 + (zkc S' - zkc S) = zkc S' - c0 ∧ zks S - s0 + (zks S' - zks S) = zks S' - s0 := by
    have := hle.2.1
    have := hle.2.2
    omega
  have fin : ∀ (a : Array Value), va_Run p l e R s m args below meth c H locs (zkc S - c0) (zks S - s0) (zkc S' - zkc S) (zks S' - zks S) (F0 m pc ls (st.map (zv φ))) (w.2.map (zv φ)) (zQm φ cA D L xs o S S' v (va_A (zw φ cA S) H.size) a) (va_A (zw φ cA S) H.size) →
      W p l e R s m args below meth c H locs (zkc S - c0) (zks S - s0) Q (F0 m pc ls (st.map (zv φ))) := by
    intro a hr
    refine zrun_W hH hr fun φ' H1 locs1 hE hH1 hv1 => ?_
    rw [ecs.1, ecs.2]
    have := kk φ' H1 locs1 hE hH1 hv1
    rw [List.map_append, zmap_ex hE hSkr] at this
    have e9 : v.toList.map (zv φ') = (v.map (zv φ')).toList := by cases v <;> rfl
    rw [e9] at this
    exact this
  cases hsg : zsg mj with
  | none =>
    rw [hsg] at hkd hpar hiv
    have hstat : ins = .invokestatic k := by
      rcases hin with h | h
      · have := hiv h; cases this
      · exact h
    subst hstat
    simp only [Bool.and_eq_true, decide_eq_true_eq] at hkd
    have hstt := hts _ (zgd_of hkd.1 hkd.2)
    have hstk : st.map (zv φ) = (w.1.map (zv φ)).reverse ++ w.2.map (zv φ) := by rw [hst, har2, List.map_append, List.map_reverse]
    have hnl : (w.1.map (zv φ)).length = zna mj := by rw [List.length_map, hw1, List.length_reverse, har, hna]
    cases hnk : zmnk (zoc mi * 2048 + k) with
    | false =>
      rw [hnk] at hlw hgw
      have hlk := hts _ (zgd_of hlw hgw)
      refine fin _ (va_runS (Ts := zgd) (own := zRn (zoc mi)) (nL := zmx mi) ⟨hx, hb, hml, hown, hts⟩ hM ⟨callB_of (zna mj) hts hG rfl rfl rfl hini hlk ⟨hn1, hn2, hpar⟩ hroom, hstt⟩ ⟨zpre_blind, fun U hU hW => ⟨rfl, zpre_of hC0 hH hU hW⟩⟩ rfl hnl hls hstk hcat hdg hfit)
    | true =>
      rw [hnk] at hlw hgw
      have hlk := htn _ (zns_of hlw hgw)
      refine fin _ (va_runSN (Ts := zgd) (own := zRn (zoc mi)) (nL := zmx mi) ⟨hx, hb, hml, hown, hts⟩ hM ⟨va_cnB (zna mj) hts hG rfl rfl rfl hlk hini ⟨hn1, hn2, hpar⟩ hroom, hstt, trivial⟩ ⟨zpre_blind, fun U hU hW => ⟨rfl, zpre_of hC0 hH hU hW⟩⟩ rfl hnl hls hstk hcat hdg hfit)
  | some t =>
    rw [hsg] at hkd hpar his hrc hns
    have hvirt : ins = .invokevirtual k := by
      rcases hin with h | h
      · exact h
      · have := his h; cases this
    subst hvirt
    simp only [Bool.and_eq_true, Bool.or_eq_true, decide_eq_true_eq, Nat.blt_eq, Nat.beq_eq] at hkd
    obtain ⟨⟨⟨⟨⟨g1, g2⟩, g3⟩, g4⟩, g5⟩, g6⟩ := hkd
    have hinst := hts _ (zgd_of g1 g2)
    have hsel := hts _ (zgd_of g3 g4)
    have hnk : zmnk (zoc mi * 2048 + k) = false := by
      cases hb : zmnk (zoc mi * 2048 + k) with
      | false => rfl
      | true => rw [hb] at hns; cases hns
    rw [hnk] at hlw hgw
    have hlk := hts _ (zgd_of hlw hgw)
    unfold zrcv at hrc
    dsimp only at hrc
    split at hrc
    · rename_i t' i as hwa
      have et : t' = t := Nat.eq_of_beq_eq_true hrc
      subst et
      have hval : i < zct S.2.2.2.1 t' := hSka (.inr (.inr (some (t', i)))) (by rw [hwa]; exact List.mem_cons_self) (t', i) rfl
      have hstk : st.map (zv φ) = (as.map (zv φ)).reverse ++ .ref (φ t' i) :: w.2.map (zv φ) := by
        rw [hst, har2, hwa, List.map_append, List.reverse_cons, List.map_append, List.map_reverse, List.append_assoc]
        rfl
      have hnl : (as.map (zv φ)).length = zna mj - 1 := by
        have h5 : w.1.length = zna mj := by rw [hw1, List.length_reverse, har, hna]
        rw [hwa, List.length_cons] at h5
        rw [List.length_map]
        omega
      obtain ⟨hP, hD, hS, hdv, hF, hA, hxs, hl⟩ := id hH
      have hrcv : ∃ cell : Cell, H[φ t' i]? = some cell ∧ cell.vm.isStatics = false ∧ s.vm.findClass (zyn mj).cls = some cell.cls := by
        rw [g5]
        rcases g6 with g6 | g6
        · obtain ⟨k0, -, hw0⟩ := zw_at (φ := φ) (cA := cA) (S := S) (t := t') (i := i) (by unfold zwt; rw [Bool.or_eq_true, Bool.or_eq_true]; exact Or.inl (Or.inl (Nat.blt_eq.mpr g6))) hval
          unfold zce at hw0
          rw [if_pos g6] at hw0
          exact va_recv hK hP (zCl_at t' (Nat.zero_le _) g6) hw0
        · subst g6
          obtain ⟨cell, h1, h2, h3, -⟩ := (hF.2.2.2.2.2.2.2.2.1.1 i hval).1.kept hS.2.1
          exact ⟨cell, h1, h2, h3⟩
      have hcb : (w.1.map (zv φ)) = Value.ref (φ t' i) :: as.map (zv φ) := by rw [hwa]; rfl
      refine fin _ (va_runV (Ts := zgd) (own := zRn (zoc mi)) (nL := zmx mi) (As := as.map (zv φ)) ⟨hx, hb, hml, hown, hts⟩ hM ⟨callB_of (zna mj - 1) hts hG rfl rfl rfl hini hlk ⟨hn1, hn2, hpar⟩ hroom, hinst, hsel⟩ ⟨zpre_blind, hrcv, fun U hU hW => ⟨by rw [hcb], zpre_of hC0 hH hU hW⟩⟩ rfl hnl hls hstk hcat hdg hfit)
    · cases hrc
end CALL
