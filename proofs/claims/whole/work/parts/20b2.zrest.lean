/-! WHAT IS OWED still: string constants, statics, a new line, the JDK's methods and the law's look -/
section REST
variable {p : Program} {l : Launch} {e : Env} {R : Room} {s : State} {m : MethodId} {args : Array Value} {below : List Frame} {meth : Method} {c : Code} {H : Heap} {locs : List Loc} {cells slots : Nat} {Q : State → Prop}
variable {mi pc n : Nat} {cA : Nat → ClassId} {D : va_G} {A : Nat → Prop} {φ : ZPh} {L : Nat} {xs : Nat → Int32} {o : Option ZR} {ls : Array Slot} {lz : ZL} {st : List ZV} {S S' : ZS} {ins : Instr} {len : Nat}
theorem zldcs_tab : ∀ oc, oc < 17 → ∀ n, n < 2048 → (match zldc oc n with | some (.inr i) => decide (oc = 6 ∧ n = 51 ∧ i = 13) | _ => true) = true := by
  intro oc hoc n hn
  rcases zlcc_in oc (Nat.zero_le _) hoc n hn with h | h
  · unfold zldc
    rw [h]
  · have h2 : zlccks.all (fun k => match zldck k with | some (.inr i) => decide (k / 2048 = 6 ∧ k % 2048 = 51 ∧ i = 13) | _ => true) = true := by decide +kernel
    have h3 := List.all_eq_true.mp h2 _ h
    rw [show (oc * 2048 + n) / 2048 = oc by omega, show (oc * 2048 + n) % 2048 = n by omega] at h3
    exact h3
theorem zldcs_ok {k i : Nat} (hC : zC p s m args c mi cA D) (hH : zHp φ cA D A s L xs o H locs S) (hc : zcode mi pc = some (.ldc k, len)) (hz : zldc (zoc mi) k = some (.inr i))
    (kk : i < 14 → W p l e R s m args below meth c H locs cells slots Q (F0 m (pc + len) ls (.ref (φ 13 i) :: st.map (zv φ)))) :
    W p l e R s m args below meth c H locs cells slots Q (F0 m pc ls (st.map (zv φ))) := by
  obtain ⟨hdg, hck⟩ := zdec hc
  simp only [zchk, Bool.and_eq_true, Nat.beq_eq, Nat.blt_eq] at hck
  obtain ⟨rfl, hk⟩ := hck
  obtain ⟨hx, hb, hml, hmi, hoc, hown, hts, htn, hK⟩ := hC
  have h1 := zldcs_tab (zoc mi) hoc k hk
  rw [hz] at h1
  obtain ⟨e1, e2, e3⟩ := of_decide_eq_true h1
  subst e2
  subst e3
  rw [e1] at hown
  exact va_ldcS (own := "TownExchange$Tape") hx hb hown hH.2.2.2.2.2.2.2.2.2.1 hdg (kk (by decide))
/-- what a static of the tables holds -/
theorem zstat {k : Nat} (hC : zC p s m args c mi cA D) (hk : k < 2048) (hne : ¬ (zstc (zoc mi) k = none ∧ zstd (zoc mi) k = false ∧ zsta (zoc mi) k = none)) : zscb (zoc mi * 2048 + k) = true := by
  obtain ⟨hx, hb, hml, hmi, hoc, hown, hts, htn, hK⟩ := hC
  rcases zsk_in (zoc mi) (Nat.zero_le _) hoc k hk with h | h
  · exact absurd h hne
  · exact List.all_eq_true.mp zsc0 _ h
set_option maxHeartbeats 1000000 in
theorem zgetq_ok {k : Nat} {v : Value} (hC : zC p s m args c mi cA D) (hH : zHp φ cA D A s L xs o H locs S) (hc : zcode mi pc = some (.getstatic k, len)) (hcb : zscb (zoc mi * 2048 + k) = true)
    (hZ : va_Z (zsq (zoc mi * 2048 + k)).1 (zsq (zoc mi * 2048 + k)).2.1 (zsq (zoc mi * 2048 + k)).2.2 v A s s.heap)
    (kk : W p l e R s m args below meth c H locs cells slots Q (F0 m (pc + len) ls (v :: st.map (zv φ)))) :
    W p l e R s m args below meth c H locs cells slots Q (F0 m pc ls (st.map (zv φ))) := by
  obtain ⟨hdg, hck⟩ := zdec hc
  simp only [zchk, Bool.and_eq_true, Nat.beq_eq, Nat.blt_eq] at hck
  obtain ⟨rfl, hk⟩ := hck
  obtain ⟨hx, hb, hml, hmi, hoc, hown, hts, htn, hK⟩ := hC
  have hS := hH.2.2.1
  unfold zscb at hcb
  simp only [Bool.and_eq_true, decide_eq_true_eq] at hcb
  obtain ⟨⟨h1, h2⟩, -⟩ := hcb
  unfold zstw at h1 h2
  rw [show (zoc mi * 2048 + k) / 2048 = zoc mi by omega, show (zoc mi * 2048 + k) % 2048 = k by omega] at h1 h2
  cases hz : zsnk (zoc mi * 2048 + k) with
  | false =>
    rw [hz] at h1 h2
    exact va_gets hx hb hZ hS hown (hts _ (zgd_of h1 h2)) (fun _ h => h) hdg kk
  | true =>
    rw [hz] at h1 h2
    exact va_getsN hx hb hZ hS hown (va_Nw.use rfl (htn _ (zns_of h1 h2))) (fun _ h => h) hdg kk
set_option maxHeartbeats 1000000 in
theorem zgets_ok {k : Nat} {q : Nat × Nat} (hC : zC p s m args c mi cA D) (hH : zHp φ cA D A s L xs o H locs S) (hc : zcode mi pc = some (.getstatic k, len)) (hn1 : zstc (zoc mi) k = none) (hn2 : zstd (zoc mi) k = false) (hz : zsta (zoc mi) k = some q)
    (kk : q.2 < zct S.2.2.2.1 q.1 → W p l e R s m args below meth c H locs cells slots Q (F0 m (pc + len) ls (.ref (φ q.1 q.2) :: st.map (zv φ)))) :
    W p l e R s m args below meth c H locs cells slots Q (F0 m pc ls (st.map (zv φ))) := by
  have hk : k < 2048 := by
    have hck := (zdec hc).2
    simp only [zchk, Bool.and_eq_true, Nat.beq_eq, Nat.blt_eq] at hck
    exact hck.2
  have hcb := zstat hC hk (fun h => by rw [hz] at h; exact absurd h.2.2 (fun e => by cases e))
  have hcb2 := hcb
  unfold zscb at hcb2
  rw [show (zoc mi * 2048 + k) / 2048 = zoc mi by omega, show (zoc mi * 2048 + k) % 2048 = k by omega, hn1, hn2, hz] at hcb2
  simp only [Bool.and_eq_true] at hcb2
  have h3 := hcb2.2
  have hF := hH.2.2.2.2.1
  dsimp only [cond_false] at h3
  split at h3
  · rename_i e
    cases e
  · rename_i i e
    cases e
    simp only [Bool.and_eq_true, Nat.blt_eq, decide_eq_true_eq] at h3
    obtain ⟨hi, hq⟩ := h3
    exact zgetq_ok hC hH hc hcb (by rw [hq]; exact (hF.1.1 i hi).1) (kk hi)
  · rename_i e
    cases e
    have hq := of_decide_eq_true h3
    exact zgetq_ok hC hH hc hcb (by rw [hq]; exact hF.2.2.1) (kk (Nat.zero_lt_succ 0))
  · cases h3
set_option maxHeartbeats 1000000 in
theorem zgetc_ok {k : Nat} {v : Int32} (hC : zC p s m args c mi cA D) (hH : zHp φ cA D A s L xs o H locs S) (hc : zcode mi pc = some (.getstatic k, len)) (hz : zstc (zoc mi) k = some v)
    (kk : W p l e R s m args below meth c H locs cells slots Q (F0 m (pc + len) ls (.int v :: st.map (zv φ)))) :
    W p l e R s m args below meth c H locs cells slots Q (F0 m pc ls (st.map (zv φ))) := by
  have hk : k < 2048 := by
    have hck := (zdec hc).2
    simp only [zchk, Bool.and_eq_true, Nat.beq_eq, Nat.blt_eq] at hck
    exact hck.2
  have hcb := zstat hC hk (fun h => by rw [hz] at h; exact absurd h.1 (fun e => by cases e))
  have hcb2 := hcb
  unfold zscb at hcb2
  rw [show (zoc mi * 2048 + k) / 2048 = zoc mi by omega, show (zoc mi * 2048 + k) % 2048 = k by omega, hz] at hcb2
  simp only [Bool.and_eq_true, decide_eq_true_eq] at hcb2
  obtain ⟨-, hq, rfl⟩ := hcb2
  exact zgetq_ok hC hH hc hcb (by rw [hq]; exact hH.2.2.2.2.1.2.2.2.2.2.2.2.2.2.1) kk
set_option maxHeartbeats 1000000 in
theorem zgetd_ok {k : Nat} (hC : zC p s m args c mi cA D) (hH : zHp φ cA D A s L xs o H locs S) (hc : zcode mi pc = some (.getstatic k, len)) (hn1 : zstc (zoc mi) k = none) (hz : zstd (zoc mi) k = true)
    (kk : W p l e R s m args below meth c H locs cells slots Q (F0 m (pc + len) ls (zv φ (.inr (.inr (S.2.2.1 19 0 0))) :: st.map (zv φ)))) :
    W p l e R s m args below meth c H locs cells slots Q (F0 m pc ls (st.map (zv φ))) := by
  have hk : k < 2048 := by
    have hck := (zdec hc).2
    simp only [zchk, Bool.and_eq_true, Nat.beq_eq, Nat.blt_eq] at hck
    exact hck.2
  have hcb := zstat hC hk (fun h => by rw [hz] at h; exact absurd h.2.1 (fun e => by cases e))
  have hcb2 := hcb
  unfold zscb at hcb2
  rw [show (zoc mi * 2048 + k) / 2048 = zoc mi by omega, show (zoc mi * 2048 + k) % 2048 = k by omega, hn1, hz] at hcb2
  simp only [Bool.and_eq_true, decide_eq_true_eq, cond_true] at hcb2
  rw [hH.2.2.2.2.2.2.2.2.1] at kk
  exact zgetq_ok hC hH hc hcb (by rw [hcb2.2]; exact hH.2.2.2.2.1.2.2.2.2.2.2.2.2.2.2.1) kk
theorem zprim_inv {cl : Nat → List ZV → ZS → Option ZX} {mj : Nat} {a : List ZV} {S : ZS} {v : Option ZV} {S' : ZS} (h : zprim cl mj a S = some (v, S')) :
    (mj = 1000 ∧ ∃ x y, a = [.inl x, .inl y] ∧ v = some (.inl (if x < y then y else x)) ∧ S' = S) ∨ (mj = 1001 ∧ ∃ x y, a = [.inl x, .inl y] ∧ v = some (.inl (if y < x then y else x)) ∧ S' = S) ∨
    (mj = 1002 ∧ ∃ t i x, a = [.inr (.inr (some (t, i))), .inl x] ∧ zaty t = 0 ∧ v = none ∧ S' = (zfill S.1 t i (zaln t) x, S.2)) ∨
    (mj = 1003 ∧ ∃ (t i t2 i2 : Nat) (sp dp n : Int32), a = [.inr (.inr (some (t, i))), .inl sp, .inr (.inr (some (t2, i2))), .inl dp, .inl n] ∧ zaty t = 0 ∧ zaty t2 = 0 ∧ (¬ (t = t2 ∧ i = i2) ∧ 0 ≤ sp ∧ 0 ≤ dp ∧ 0 ≤ n ∧ zx sp + zx n ≤ zaln t ∧ zx dp + zx n ≤ zaln t2) ∧ v = none ∧ S' = (zcpy S.1 t i (zx sp) t2 i2 (zx dp) (zx n), S.2)) ∨ mj = 1008 := by
  have step : ∀ {b : Bool} {x y : Option ZX} {G : Prop}, (bif b then x else y) = some (v, S') → (b = true → x = some (v, S') → G) → (y = some (v, S') → G) → G := by
    intro b x y G h h1 h2
    cases b
    · exact h2 h
    · exact h1 rfl h
  unfold zprim at h
  refine step h (fun hb h => ?_) fun h => step h (fun hb h => ?_) fun h => step h (fun hb h => ?_) fun h => step h (fun hb h => ?_) fun h => step h (fun hb h => ?_) fun h => by cases h
  · refine Or.inl ⟨Nat.eq_of_beq_eq_true hb, ?_⟩
    split at h <;> cases h
    exact ⟨_, _, rfl, rfl, rfl⟩
  · refine Or.inr (Or.inl ⟨Nat.eq_of_beq_eq_true hb, ?_⟩)
    split at h <;> cases h
    exact ⟨_, _, rfl, rfl, rfl⟩
  · refine Or.inr (Or.inr (Or.inl ⟨Nat.eq_of_beq_eq_true hb, ?_⟩))
    split at h
    · obtain ⟨h1, h⟩ := zcd_t h
      cases h
      exact ⟨_, _, _, rfl, Nat.eq_of_beq_eq_true h1, rfl, rfl⟩
    · cases h
  · refine Or.inr (Or.inr (Or.inr (Or.inl ⟨Nat.eq_of_beq_eq_true hb, ?_⟩)))
    split at h
    · obtain ⟨h1, h⟩ := zcd_t h
      obtain ⟨h2, h⟩ := zg_inv h
      cases h
      rw [Bool.and_eq_true] at h1
      exact ⟨_, _, _, _, _, _, _, rfl, Nat.eq_of_beq_eq_true h1.1, Nat.eq_of_beq_eq_true h1.2, of_decide_eq_true h2, rfl, rfl⟩
    · cases h
  · exact Or.inr (Or.inr (Or.inr (Or.inr (Nat.eq_of_beq_eq_true hb))))
def zpcb (k : Nat) : Bool := match zmthk k with
  | none => true
  | some (mj, na, rk) => Nat.blt mj 1000 || (Nat.beq mj 1000 && decide (lw_tbl[zmpk k]? = some (.methodLink (zRn (k / 2048)) (k % 2048) Lib.Math.max.name)) && Nat.beq na 2 && Nat.beq rk 1)
    || (Nat.beq mj 1001 && decide (lw_tbl[zmpk k]? = some (.methodLink (zRn (k / 2048)) (k % 2048) Lib.Math.min.name)) && Nat.beq na 2 && Nat.beq rk 1)
    || (Nat.beq mj 1002 && decide (lw_tbl[zmpk k]? = some (.methodLink (zRn (k / 2048)) (k % 2048) yJ7_fill_53178)) && Nat.beq na 2 && Nat.beq rk 0)
    || (Nat.beq mj 1003 && decide (lw_tbl[zmpk k]? = some (.methodLink (zRn (k / 2048)) (k % 2048) arraycopyName)) && Nat.beq na 5 && Nat.beq rk 0)
    || (Nat.beq mj 1008 && decide (lw_tbl[zmpk k]? = some (.methodLink (zRn (k / 2048)) (k % 2048) yL_look)) && Nat.beq na 4 && Nat.beq rk 1)
theorem zpc0 : zmks.all zpcb = true := by decide +kernel
theorem zgl {own : String} {k : Nat} {y : MethodName} {i : Nat} (h : lw_tbl[i]? = some (.methodLink own k y)) : Cond.methodLink own k y ∈ zgd := zgd_of h (by first | rfl | simp [goodWord, Cond.onTables, Cond.keeps, Cond.steady])
theorem zpl_site {oc k mj na rk : Nat} {y : MethodName} (hoc : oc < 17) (hk : k < 2048) (hq : zmth oc k = some (mj, na, rk)) (hy : mj = 1000 ∧ y = Lib.Math.max.name ∨ mj = 1001 ∧ y = Lib.Math.min.name ∨ mj = 1002 ∧ y = yJ7_fill_53178 ∨ mj = 1003 ∧ y = arraycopyName ∨ mj = 1008 ∧ y = yL_look) : Cond.methodLink (zRn oc) k y ∈ zgd := by
  unfold zmth at hq
  rcases zmk_in oc (Nat.zero_le _) hoc k hk with h | h
  · rw [h] at hq; cases hq
  · have h2 := List.all_eq_true.mp zpc0 _ h
    unfold zpcb at h2
    rw [hq] at h2
    simp only [show (oc * 2048 + k) / 2048 = oc by omega, show (oc * 2048 + k) % 2048 = k by omega] at h2
    rcases hy with ⟨rfl, rfl⟩ | ⟨rfl, rfl⟩ | ⟨rfl, rfl⟩ | ⟨rfl, rfl⟩ | ⟨rfl, rfl⟩ <;>
      (simp only [Bool.or_eq_true, Bool.and_eq_true, Nat.beq_eq, Nat.blt_eq, decide_eq_true_eq, Nat.reduceEqDiff, Nat.reduceLT, false_and, or_false, false_or, true_and] at h2
       exact zgl h2.1.1)
theorem zsg_big {mj : Nat} (h : 1000 ≤ mj) : zsg mj = none := by
  have hb : ∀ k : Nat, k < 1000 → Nat.blt mj k = false := fun k hk => by
    cases hx : Nat.blt mj k with
    | false => rfl
    | true => have := Nat.blt_eq.mp hx; omega
  have he : ∀ k : Nat, k < 1000 → Nat.beq mj k = false := fun k hk => by
    cases hx : Nat.beq mj k with
    | false => rfl
    | true => have := Nat.eq_of_beq_eq_true hx; omega
  unfold zsg zH zE
  simp only [hb, he, cond_false, Nat.reduceLT]
theorem zfill_off {f : ZMp Int32} {t i n t' i' : Nat} {v : Int32} (h : (t', i') ≠ (t, i)) : zfill f t i n v t' i' = f t' i' := by
  funext k
  unfold zfill
  rw [if_neg]
  rintro ⟨rfl, rfl, -⟩
  exact h rfl
theorem zfill_at {f : ZMp Int32} {t i n : Nat} {v : Int32} : zfill f t i n v t i = zff (f t i) n v := by
  funext k
  unfold zfill zff
  by_cases h : k < n
  · rw [if_pos ⟨rfl, rfl, h⟩, if_pos h]
  · rw [if_neg (fun e => h e.2.2), if_neg h]
theorem zcpy_off {f : ZMp Int32} {t i sp t2 i2 dp n t' i' : Nat} (h : (t', i') ≠ (t2, i2)) : zcpy f t i sp t2 i2 dp n t' i' = f t' i' := by
  funext k
  unfold zcpy
  rw [if_neg]
  rintro ⟨rfl, rfl, -⟩
  exact h rfl
theorem zcpy_at {f : ZMp Int32} {t i sp t2 i2 dp n : Nat} : zcpy f t i sp t2 i2 dp n t2 i2 = va_cpy (f t i) (f t2 i2) sp dp n := by
  funext k
  unfold zcpy va_cpy
  by_cases h : dp ≤ k ∧ k < dp + n
  · rw [if_pos ⟨rfl, rfl, h.1, h.2⟩, if_pos h]
  · rw [if_neg (fun e => h ⟨e.2.2.1, e.2.2.2⟩), if_neg h]
theorem zaln_sm : ∀ t, t < 122 → zaln t < 10000 := by decide +kernel
theorem zaln_lt (t : Nat) : zaln t < 2 ^ 31 := by
  by_cases hb : t < 122
  · have := zaln_sm t hb; omega
  · have hb : ∀ k : Nat, k < 122 → Nat.blt t k = false := fun k hk => by
      cases hx : Nat.blt t k with
      | false => rfl
      | true => have := Nat.blt_eq.mp hx; omega
    have he : ∀ k : Nat, k < 122 → Nat.beq t k = false := fun k hk => by
      cases hx : Nat.beq t k with
      | false => rfl
      | true => have := Nat.eq_of_beq_eq_true hx; omega
    have e : zaln t = 0 := by
      unfold zaln zH zE
      simp only [hb, he, cond_false, Nat.reduceLT]
    rw [e]; decide
set_option maxHeartbeats 2000000 in
set_option maxRecDepth 20000 in
theorem zlook_ok {d c0 s0 k : Nat} {cl : Nat → List ZV → ZS → Option ZX} (hlt : l.stackTraces = false) (hC : zC p s m args c mi cA D) (hH : zHp φ cA D A s L xs o H locs S) (hMt : zMt l d cl) (hRf : 2 * d + 11 ≤ R.frames) (hRl : 48 * (d + 2) + 400 ≤ R.locals)
    (hc : zcode mi pc = some (.invokestatic k, len)) {q : Nat × Nat × Nat} (hq : zmth (zoc mi) k = some q) (hge : q.1 = 1008) {w : List ZV × List ZV} (hw : zpop q.2.1 [] st = some w) (hw4 : w.2.length ≤ 4) {v : Option ZV} (hcl : zprim cl q.1 w.1 S = some (v, S'))
    (hSk : zSk S.2.2.2.1 st) (hle : zle S S') (h0 : c0 ≤ zkc S) (h1 : s0 ≤ zks S) (hB : zkc S' ≤ c0 + R.cells ∧ zks S' ≤ s0 + R.slots) (hls : ls.size = zmx mi)
    (kk : ∀ (φ' : ZPh) (H1 : Heap) (locs1 : List Loc), zEx S.2.2.2.1 φ φ' → zHp φ' cA D A s L xs o H1 locs1 S' → (∀ w, v = some w → zvv S'.2.2.2.1 w) → W p l e R s m args below meth c H1 locs1 (zkc S' - c0) (zks S' - s0) Q (F0 m (pc + len) ls ((v.toList ++ w.2).map (zv φ')))) :
    W p l e R s m args below meth c H locs (zkc S - c0) (zks S - s0) Q (F0 m pc ls (st.map (zv φ))) := by
  obtain ⟨hdg, hck⟩ := zdec hc
  have hC0 := hC
  have hH0 := hH
  obtain ⟨hx, hb, hml, hmi, hoc, hown, hts, htn, hK⟩ := hC
  obtain ⟨ar, hst, hw1, har⟩ := zpop_spec _ _ _ _ hw
  rw [List.append_nil] at hw1
  have har2 : ar = w.1.reverse := by rw [hw1, List.reverse_reverse]
  have hSkr : zSk S.2.2.2.1 w.2 := fun v hv => hSk v (by rw [hst]; exact List.mem_append_right _ hv)
  obtain ⟨mj, na, rk⟩ := q
  dsimp only at hge hw hcl hw1 har
  subst hge
  simp only [zchk, Bool.and_eq_true, Nat.beq_eq, Nat.blt_eq] at hck
  obtain ⟨⟨rfl, hk⟩, -⟩ := hck
  obtain ⟨a, b, ha⟩ : ∃ a b, w.1 = [.inr (.inr (some (10, 0))), .inl a, .inl b, .inr (.inr (some (17, 0)))] := by
    have h := hcl
    unfold zprim at h
    simp only [show Nat.beq 1008 1000 = false from rfl, show Nat.beq 1008 1001 = false from rfl, show Nat.beq 1008 1002 = false from rfl, show Nat.beq 1008 1003 = false from rfl, show Nat.beq 1008 1008 = true from rfl, cond_false, cond_true] at h
    split at h
    · rename_i a b e
      exact ⟨a, b, e⟩
    · cases h
  rw [ha] at hcl
  have hM := zlkM l hlt hMt φ cA D L xs o S S' H.size a b v hcl
  have hstk : st.map (zv φ) = (([.inr (.inr (some (10, 0))), .inl a, .inl b, .inr (.inr (some (17, 0)))] : List ZV).map (zv φ)).reverse ++ w.2.map (zv φ) := by rw [hst, har2, ha, List.map_append, List.map_reverse]
  have hcat : 2 * (F0 m pc ls (st.map (zv φ))).monitorRoom + ((w.2.map (zv φ)).map fun v => v.category).sum ≤ 8 := by
    have h2 := zcat_le (φ := φ) w.2
    show 2 * 0 + _ ≤ 8
    omega
  have hle1 := hle.2.1
  have hle2 := hle.2.2
  have hfit : zkc S - c0 + (zkc S' - zkc S) ≤ R.cells ∧ zks S - s0 + (zks S' - zks S) ≤ R.slots := by omega
  have ecs : zkc S - c0 + (zkc S' - zkc S) = zkc S' - c0 ∧ zks S - s0 + (zks S' - zks S) = zks S' - s0 := by omega
  have hG : GoodIn zgd (va_wsS (zRn (zoc mi)) k yL_look zwlk) := zgoodIn (fun w hw => by
    unfold va_wsS at hw
    rcases List.mem_append.mp hw with hw | hw
    · simp only [List.mem_cons, List.not_mem_nil, or_false] at hw
      rcases hw with rfl | rfl | rfl
      · exact zpl_site hoc hk hq (Or.inr (Or.inr (Or.inr (Or.inr ⟨rfl, rfl⟩))))
      · exact zgd_of (i := 1221) (by decide +kernel) (by rfl)
      · exact zgd_of (i := 84) (by decide +kernel) (by rfl)
    · exact zwlk_in w hw)
  have hr := vx_runSW (R := R) (e := e) (below := below) (meth := meth) (locs := locs) (cells := zkc S - c0) (slots := zks S - s0) (g := F0 m pc ls (st.map (zv φ))) (H := H) (Ts := zgd) (own := zRn (zoc mi)) (nL := zmx mi) (As := ([.inr (.inr (some (10, 0))), .inl a, .inl b, .inr (.inr (some (17, 0)))] : List ZV).map (zv φ)) (rest := w.2.map (zv φ)) ⟨hx, hb, hml, hown, hts⟩ hM (vx_cwSW 4 hts hG rfl rfl rfl ⟨by decide, by decide, by decide +kernel⟩ ⟨by show 2 * d + 10 + 1 ≤ R.frames; omega, by show 8 + (5 + 11) + (48 * d + 471) ≤ R.locals; omega⟩) ⟨zpre_blind, fun U hU hW => ⟨rfl, zpre_of hC0 hH0 hU hW⟩⟩ rfl rfl hls hstk hcat hdg hfit
  refine zrun_W hH0 hr fun φ' H1 locs1 hE hH1 hv1 => ?_
  rw [ecs.1, ecs.2]
  have hkk := kk φ' H1 locs1 hE hH1 hv1
  rw [List.map_append, zmap_ex hE hSkr] at hkk
  have e9 : v.toList.map (zv φ') = (v.map (zv φ')).toList := by cases v <;> rfl
  rw [e9] at hkk
  exact hkk
set_option maxHeartbeats 2000000 in
theorem zprm_ok {d c0 s0 k : Nat} {cl : Nat → List ZV → ZS → Option ZX} (hlt : l.stackTraces = false) (hC : zC p s m args c mi cA D) (hH : zHp φ cA D A s L xs o H locs S) (hMt : zMt l d cl) (hRf : 2 * d + 11 ≤ R.frames) (hRl : 48 * (d + 2) + 400 ≤ R.locals)
    (hc : zcode mi pc = some (ins, len)) (hin : ins = .invokevirtual k ∨ ins = .invokestatic k) {q : Nat × Nat × Nat} (hq : zmth (zoc mi) k = some q) (hge : 1000 ≤ q.1) {w : List ZV × List ZV} (hw : zpop q.2.1 [] st = some w) (hw4 : w.2.length ≤ 4) {v : Option ZV} (hcl : zprim cl q.1 w.1 S = some (v, S'))
    (hSk : zSk S.2.2.2.1 st) (hle : zle S S') (h0 : c0 ≤ zkc S) (h1 : s0 ≤ zks S) (hB : zkc S' ≤ c0 + R.cells ∧ zks S' ≤ s0 + R.slots) (hls : ls.size = zmx mi)
    (kk : ∀ (φ' : ZPh) (H1 : Heap) (locs1 : List Loc), zEx S.2.2.2.1 φ φ' → zHp φ' cA D A s L xs o H1 locs1 S' → (∀ w, v = some w → zvv S'.2.2.2.1 w) → W p l e R s m args below meth c H1 locs1 (zkc S' - c0) (zks S' - s0) Q (F0 m (pc + len) ls ((v.toList ++ w.2).map (zv φ')))) :
    W p l e R s m args below meth c H locs (zkc S - c0) (zks S - s0) Q (F0 m pc ls (st.map (zv φ))) := by
  obtain ⟨hdg, hck⟩ := zdec hc
  have hC0 := hC
  have hH0 := hH
  obtain ⟨hx, hb, hml, hmi, hoc, hown, hts, htn, hK⟩ := hC
  obtain ⟨ar, hst, hw1, har⟩ := zpop_spec _ _ _ _ hw
  rw [List.append_nil] at hw1
  have har2 : ar = w.1.reverse := by rw [hw1, List.reverse_reverse]
  have hSka : zSk S.2.2.2.1 w.1 := fun v hv => hSk v (by rw [hst, har2]; exact List.mem_append_left _ (List.mem_reverse.mpr hv))
  obtain ⟨mj, na, rk⟩ := q
  dsimp only at hge hw hcl hw1 har
  have hstat : ins = .invokestatic k := by
    rcases hin with h | h
    · exfalso
      subst h
      have hz : zsg mj = none := zsg_big hge
      simp only [zchk, Bool.and_eq_true, hq, hz] at hck
      cases hck.2
    · exact h
  subst hstat
  rcases zprim_inv hcl with ⟨hm, x, y, ha, rfl, rfl⟩ | ⟨hm, x, y, ha, rfl, rfl⟩ | ⟨hm, t, i, x, ha, hat, rfl, rfl⟩ | ⟨hm, t, i, t2, i2, sp, dp, n, ha, hat, hat2, hcn, rfl, rfl⟩ | hm
  · simp only [zchk, Bool.and_eq_true, Nat.beq_eq, Nat.blt_eq] at hck
    obtain ⟨⟨rfl, hk⟩, -⟩ := hck
    have hstk : st.map (zv φ) = .int y :: .int x :: w.2.map (zv φ) := by rw [hst, har2, ha]; rfl
    rw [hstk]
    refine va_mmax hx hb (hml.trans hls.symm) hown (hts _ (zpl_site hoc hk hq (Or.inl ⟨hm, rfl⟩))) (zjw (i := 767) (by decide +kernel) rfl hts) (zjw (i := 100) (by decide +kernel) rfl hts) (zjw (i := 768) (by decide +kernel) rfl hts) (by omega) (by have := zcat_le (φ := φ) w.2; omega) (by omega) (by omega) hdg ?_
    exact kk φ H locs (zEx.rf _ _) hH0 (fun w hw => by cases hw; trivial)
  · simp only [zchk, Bool.and_eq_true, Nat.beq_eq, Nat.blt_eq] at hck
    obtain ⟨⟨rfl, hk⟩, -⟩ := hck
    have hstk : st.map (zv φ) = .int y :: .int x :: w.2.map (zv φ) := by rw [hst, har2, ha]; rfl
    rw [hstk]
    refine va_mmin hx hb (hml.trans hls.symm) hown (hts _ (zpl_site hoc hk hq (Or.inr (Or.inl ⟨hm, rfl⟩)))) (zjw (i := 786) (by decide +kernel) rfl hts) (zjw (i := 100) (by decide +kernel) rfl hts) (zjw (i := 787) (by decide +kernel) rfl hts) (by omega) (by have := zcat_le (φ := φ) w.2; omega) (by omega) (by omega) hdg ?_
    exact kk φ H locs (zEx.rf _ _) hH0 (fun w hw => by cases hw; trivial)
  · simp only [zchk, Bool.and_eq_true, Nat.beq_eq, Nat.blt_eq] at hck
    obtain ⟨⟨rfl, hk⟩, -⟩ := hck
    obtain ⟨hP, hD, hS, hdv, hF, hA, hxs, hl⟩ := hH
    have hi : i < zct S.2.2.2.1 t := hSka (.inr (.inr (some (t, i)))) (by rw [ha]; exact List.mem_cons_self) (t, i) rfl
    obtain ⟨k0, hk0, hw0, h16, h12⟩ := zarr_at (φ := φ) (cA := cA) (S := S) (by omega : zaty t ≤ 4) hi
    have hw2 := hw0
    unfold zarr at hw2
    rw [hat] at hw2
    have hB2 : zkc S ≤ c0 + R.cells ∧ zks S ≤ s0 + R.slots := hB
    have hM := zfillM l D (zty cA) (zw φ cA S) k0 0 (φ t i) (cA 0) (zaln t) (S.1 t i) (zaln_lt t) hw2 rfl x H.size
    have hce : (Sum.inl (cA 0, zaln t, Sum.inl (zff (S.1 t i) (zaln t) x)) : va_E) = zce φ cA (zfill S.1 t i (zaln t) x, S.2) t i := by
      rw [zce_arr h12]
      unfold zarr
      rw [hat]
      show _ = Sum.inl (cA 0, zaln t, Sum.inl (zfill S.1 t i (zaln t) x t i))
      rw [zfill_at]
    rw [hce] at hM
    have hO : zOff t i S (zfill S.1 t i (zaln t) x, S.2) := ⟨rfl, fun t' i' h => ⟨zfill_off h, rfl, rfl⟩⟩
    have hfr : ∀ q, va_A (zw φ cA S) H.size q → A q := by
      intro q hq
      rcases hq with ⟨k, ee, hq⟩ | hq
      · exact hD.2 k (q, ee) hq
      · exact hA q (Nat.le_trans hS.1 hq)
    have hcw : ∀ w ∈ zwfill, w ∈ zgd := by
      intro w hw
      rcases List.mem_cons.mp hw with rfl | hw
      · exact zgd_of (i := 127) (by decide +kernel) (by first | rfl | simp [goodWord, Cond.onTables, Cond.keeps, Cond.steady])
      · exact hw
    have hcat : 2 * (F0 m pc ls (st.map (zv φ))).monitorRoom + ((w.2.map (zv φ)).map fun v => v.category).sum ≤ 8 := by
      have h2 := zcat_le (φ := φ) w.2
      show 2 * 0 + _ ≤ 8
      omega
    have hstk : st.map (zv φ) = ([.ref (φ t i), .int x] : List Value).reverse ++ w.2.map (zv φ) := by rw [hst, har2, ha]; rfl
    refine va_callv (va_runS (Ts := zgd) (own := zRn (zoc mi)) (nL := zmx mi) (As := [.ref (φ t i), .int x]) ⟨hx, hb, hml, hown, hts⟩ hM ⟨callB_of 2 hts (zgoodIn hcw) rfl rfl rfl (zjw (i := 87) (by decide +kernel) rfl hts) (hts _ (zpl_site hoc hk hq (Or.inr (Or.inr (Or.inl ⟨hm, rfl⟩))))) ⟨by decide, by decide, by decide +kernel⟩ ⟨by show 0 + 1 ≤ _; omega, by show 8 + (4 + 11) + 0 ≤ _; omega⟩, zjw (i := 126) (by decide +kernel) rfl hts⟩
      ⟨fun a U g mk q => by obtain ⟨q0, q1, qP, qK, qD⟩ := q; exact ⟨q0, q1, qP, va_K.moved (u := U) (U := U.calling g mk a) (Vm.Alike.refl U.vm) qK, qD⟩, fun U hU hW => ⟨rfl, by rw [hU], by rw [hU]; exact hP, hK.moved hW.alike, hD.weaken (fun _ _ _ _ => trivial)⟩⟩ rfl rfl hls hstk hcat hdg ⟨by omega, by omega⟩) hS (fun q _ h => hfr q h) hfr (fun u t9 H1 locs1 ht hvm hw9 hB9 hz1 hk1 hS1 => ?_)
    obtain ⟨q1, q2⟩ := hB9
    rw [ht] at q1
    exact kk φ H1 locs1 (zEx.rf _ _) (hH0.put hO h16 hdv hk0 q1 (q2.weaken (fun _ _ _ h => hfr _ h)) hS1) (fun w hw => by cases hw)
  · simp only [zchk, Bool.and_eq_true, Nat.beq_eq, Nat.blt_eq] at hck
    obtain ⟨⟨rfl, hk⟩, -⟩ := hck
    obtain ⟨hP, hD, hS, hdv, hF, hA, hxs, hl⟩ := hH
    obtain ⟨hne, c1, c2, c3, c4, c5⟩ := hcn
    have hi : i < zct S.2.2.2.1 t := hSka (.inr (.inr (some (t, i)))) (by rw [ha]; exact List.mem_cons_self) (t, i) rfl
    have hi2 : i2 < zct S.2.2.2.1 t2 := hSka (.inr (.inr (some (t2, i2)))) (by rw [ha]; exact List.mem_cons_of_mem _ (List.mem_cons_of_mem _ List.mem_cons_self)) (t2, i2) rfl
    obtain ⟨k0, hk0, hw0, h16, h12⟩ := zarr_at (φ := φ) (cA := cA) (S := S) (by omega : zaty t ≤ 4) hi
    obtain ⟨k1, hk1, hw1', h162, h122⟩ := zarr_at (φ := φ) (cA := cA) (S := S) (by omega : zaty t2 ≤ 4) hi2
    unfold zarr at hw0 hw1'
    rw [hat] at hw0
    rw [hat2] at hw1'
    have hce : (Sum.inl (cA 0, zaln t2, Sum.inl (va_cpy (S.1 t i) (S.1 t2 i2) (zx sp) (zx dp) (zx n))) : va_E) = zce φ cA (zcpy S.1 t i (zx sp) t2 i2 (zx dp) (zx n), S.2) t2 i2 := by
      rw [zce_arr h122]
      unfold zarr
      rw [hat2]
      show _ = Sum.inl (cA 0, zaln t2, Sum.inl (zcpy S.1 t i (zx sp) t2 i2 (zx dp) (zx n) t2 i2))
      rw [zcpy_at]
    have hO : zOff t2 i2 S (zcpy S.1 t i (zx sp) t2 i2 (zx dp) (zx n), S.2) := ⟨rfl, fun t' i' h => ⟨zcpy_off h, rfl, rfl⟩⟩
    have hstk : st.map (zv φ) = .int n :: .int dp :: .ref (φ t2 i2) :: .int sp :: .ref (φ t i) :: w.2.map (zv φ) := by rw [hst, har2, ha]; rfl
    rw [hstk]
    have hnw : nativeFrameWords "java/lang/System" "arraycopy" 5 ≤ 100 := by decide +kernel
    have hcat2 := zcat_le (φ := φ) w.2
    refine va_copyi hx hb (hml.trans hls.symm) hown (hts _ (zpl_site hoc hk hq (Or.inr (Or.inr (Or.inr (Or.inl ⟨hm, rfl⟩)))))) (zjw (i := 1089) (by decide +kernel) rfl hts) (zjw (i := 1088) (by decide +kernel) rfl hts) (zjw (i := 106) (by decide +kernel) rfl hts) hK hP hD hS k0 k1 0 0 hw0 hw1' rfl rfl rfl (Int32.not_lt.mpr c1) (Int32.not_lt.mpr c2) (Int32.not_lt.mpr c3) c4 c5 (fun i _ => rfl) (by omega) (by omega) hdg (fun H1 locs1 q1 q2 q3 => ?_)
    have e1 : sp.toNatClampNeg = zx sp := rfl
    rw [show (Sum.inl (cA 0, zaln t2, Sum.inl (va_cpy (S.1 t i) (S.1 t2 i2) sp.toNatClampNeg dp.toNatClampNeg n.toNatClampNeg)) : va_E) = zce φ cA (zcpy S.1 t i (zx sp) t2 i2 (zx dp) (zx n), S.2) t2 i2 from hce] at q1 q2
    exact kk φ H1 locs1 (zEx.rf _ _) (hH0.put hO h162 hdv hk1 q1 q2 q3) (fun w hw => by cases hw)
  · exact zlook_ok hlt hC0 hH0 hMt hRf hRl hc hq hm hw hw4 hcl hSk hle h0 h1 hB hls kk
end REST
