/-! THE MACHINE'S RUN is the abstract machine's -/
theorem zEx.tr {n n' : Nat} {φ φ' φ2 : ZPh} (h : zEx n φ φ') (hn : n ≤ n') (h2 : zEx n' φ' φ2) : zEx n φ φ2 :=
  ⟨fun t a b c => (h2.1 t a b c).trans (h.1 t a b c), fun t i hi => (h2.2 t i (Nat.lt_of_lt_of_le hi (zct_mono hn))).trans (h.2 t i hi)⟩
/-- a return instruction that gives v back -/
def zRet (mi pc : Nat) (v : Option ZV) : Prop := match v with
  | none => zcode mi pc = some (.return_, 1) ∧ zrk mi = 0
  | some (.inl x) => zcode mi pc = some (.ireturn, 1) ∧ zrk mi = 1 ∧ (zrz mi = 0 ∨ zrz mi = 1 ∧ zbl x = true ∨ zrz mi = 2 ∧ (x.toUInt32 % 65536).toInt32 = x ∨ (zrz mi ≠ 0 ∧ zrz mi ≠ 1 ∧ zrz mi ≠ 2 ∧ x.toInt8.toInt32 = x))
  | some (.inr (.inl _)) => zcode mi pc = some (.lreturn, 1) ∧ zrk mi = 2
  | some (.inr (.inr _)) => zcode mi pc = some (.areturn, 1) ∧ zrk mi = 3
theorem zt_of {pc : Nat} {o : Int} (h : zj pc o = true) : (pc : Int) + o = (zt pc o : Int) := by
  unfold zj at h
  have h := of_decide_eq_true h
  show (pc : Int) + o = (((pc : Int) + o).toNat : Int)
  omega
theorem zcs_at {lo : Int} : ∀ {n : Nat}, zcs lo n = true → ∀ k, k < n → zcst (lo + k) = Int32.ofInt (lo + k)
  | 0, _, k, h => absurd h (Nat.not_lt_zero k)
  | n + 1, hz, k, h => by
    unfold zcs at hz
    simp only [Bool.and_eq_true, decide_eq_true_eq] at hz
    by_cases hk : k = n
    · subst hk; exact hz.1
    · exact zcs_at hz.2 k (by omega)
/-- a table switch: the target of x, or the default -/
theorem zsw_spec {α : Type} {x : Int32} {k : Nat → Option α} {df : Nat} {r : α} : ∀ {ts : List Nat} {lo : Int}, zsw x k df ts lo = some r → (∃ (j : Nat) (t : Nat), ts[j]? = some t ∧ x = zcst (lo + j) ∧ k t = some r) ∨ ((∀ j : Nat, j < ts.length → x ≠ zcst (lo + j)) ∧ k df = some r)
  | [], lo, h => Or.inr ⟨fun j hj => absurd hj (Nat.not_lt_zero j), h⟩
  | t :: ts, lo, h => by
    unfold zsw at h
    rcases zif_inv h with ⟨hx, h⟩ | ⟨hx, h⟩
    · exact Or.inl ⟨0, t, rfl, by rw [hx]; congr 1; omega, h⟩
    · rcases zsw_spec h with ⟨j, t', h1, h2, h3⟩ | ⟨h1, h2⟩
      · exact Or.inl ⟨j + 1, t', h1, by rw [h2]; congr 1; omega, h3⟩
      · refine Or.inr ⟨fun j hj => ?_, h2⟩
        cases j with
        | zero => intro e; exact hx (by rw [e]; congr 1; omega)
        | succ j => intro e; exact h1 j (by simp only [List.length_cons] at hj; omega) (by rw [e]; congr 1; omega)
theorem zof_inj {φ : ZPh} {n : Nat} {a b : Option ZR} (hinj : ∀ r r' : ZR, zvr n r → zvr n r' → (r.1 = 9 ∨ r.1 = 12) → (r'.1 = 9 ∨ r'.1 = 12) → φ r.1 r.2 = φ r'.1 r'.2 → r = r') (ha : zvo n a) (hb : zvo n b) (ca : zcmb a = true) (cb : zcmb b = true) : zof φ a = zof φ b ↔ a = b := by
  refine ⟨fun h => ?_, fun h => by rw [h]⟩
  rcases a with _ | ⟨t, i⟩ <;> rcases b with _ | ⟨t', i'⟩
  · rfl
  · cases h
  · cases h
  · have h := Option.some.inj h
    have c1 : t = 9 ∨ t = 12 := by
      simp only [zcmb, Bool.or_eq_true] at ca
      rcases ca with h | h
      · exact Or.inl (Nat.eq_of_beq_eq_true h)
      · exact Or.inr (Nat.eq_of_beq_eq_true h)
    have c2 : t' = 9 ∨ t' = 12 := by
      simp only [zcmb, Bool.or_eq_true] at cb
      rcases cb with h | h
      · exact Or.inl (Nat.eq_of_beq_eq_true h)
      · exact Or.inr (Nat.eq_of_beq_eq_true h)
    rw [hinj (t, i) (t', i') (ha _ rfl) (hb _ rfl) c1 c2 h]
theorem zfks_ty : zfks.all (fun k => match zfldk k with
  | some (_, _, ty) => Nat.ble ty 6
  | none => true) = true := by decide +kernel
theorem zfk_only {oc k : Nat} {q : Nat × Nat × Nat} (hoc : oc < 17) (hk : k < 2048) (h : zfld oc k = some q) : q.2.2 ≤ 6 := by
  unfold zfld at h
  rcases zfk_in oc (Nat.zero_le _) hoc k hk with h1 | h1
  · rw [h1] at h; cases h
  · have h2 := List.all_eq_true.mp zfks_ty _ h1
    rw [h] at h2
    exact Nat.ble_eq.mp h2
theorem zTW_fin (f : Nat) : (zTW f).2.2.2 = true := by
  unfold zTW
  split <;> rfl
theorem zTS_fin (f : Nat) : (zTS f).2.2.2 = true := by
  unfold zTS
  split <;> rfl
theorem zput_12 {mi pc k len t f ty : Nat} (hck : zchk mi pc (.putfield k) len = true) (hf : zfld (zoc mi) k = some (t, f, ty)) (ht : t < 14) : t < 12 := by
  simp only [zchk, Bool.and_eq_true, hf] at hck
  by_cases h : t = 12
  · subst h
    have h1 : (!(zTW f).2.2.2) = true := hck.2
    rw [zTW_fin f] at h1
    cases h1
  · by_cases h2 : t = 13
    · subst h2
      have h1 : (!(zTS f).2.2.2) = true := hck.2
      rw [zTS_fin f] at h1
      cases h1
    · omega
theorem zchk_2048 {mi pc k len : Nat} (hck : zchk mi pc (.putfield k) len = true) : k < 2048 := by
  simp only [zchk, Bool.and_eq_true, Nat.blt_eq] at hck
  exact hck.1.2
theorem zchk_2048g {mi pc k len : Nat} (hck : zchk mi pc (.getfield k) len = true) : k < 2048 := by
  simp only [zchk, Bool.and_eq_true, Nat.blt_eq] at hck
  exact hck.2
theorem zif_t {α : Type} {c : Prop} {a b : Option α} {r : α} (h : zif c a b = some r) (hc : c) : a = some r := by rwa [zif_pos hc] at h
theorem zif_f {α : Type} {c : Prop} {a b : Option α} {r : α} (h : zif c a b = some r) (hc : ¬ c) : b = some r := by rwa [zif_neg hc] at h
theorem zfty3 {ty : FieldType} (h : zftyk 3 ty = true) : ∃ nm, ty = .object nm := by
  cases ty <;> first | exact ⟨_, rfl⟩ | cases h
section GO
variable {p : Program} {l : Launch} {e : Env} {R : Room} {s : State} {m : MethodId} {args : Array Value} {below : List Frame} {meth : Method} {c : Code} {Q : State → Prop}
variable {mi : Nat} {cA : Nat → ClassId} {D : va_G} {A : Nat → Prop} {L : Nat} {xs : Nat → Int32} {o : Option ZR}
/-- wishes and words: different ones are different cells -/
theorem zinj {φ : ZPh} {H : Heap} {locs : List Loc} {S : ZS} (hH : zHp φ cA D A s L xs o H locs S) : ∀ r r' : ZR, zvr S.2.2.2.1 r → zvr S.2.2.2.1 r' → (r.1 = 9 ∨ r.1 = 12) → (r'.1 = 9 ∨ r'.1 = 12) → φ r.1 r.2 = φ r'.1 r'.2 → r = r' := by
  obtain ⟨hP, hD, hS, hdv, hF, hA, hxs, hl⟩ := hH
  have w9 : ∀ i, zvr S.2.2.2.1 (9, i) → A (φ 9 i) := by
    intro i hi
    obtain ⟨k0, -, hw0⟩ := zw_at (φ := φ) (cA := cA) (S := S) (t := 9) (i := i) rfl hi
    exact hD.2 k0 _ hw0
  have w12 : ∀ i, zvr S.2.2.2.1 (12, i) → ¬ A (φ 12 i) := by
    intro i hi
    have hi : i < 13 := hi
    obtain ⟨cell, -, -, -, h4⟩ := (hF.1.1 i hi).2.1
    exact h4
  rintro ⟨t, i⟩ ⟨t', i'⟩ h1 h2 (e1 | e1) (e2 | e2) he <;> dsimp only at e1 e2 he <;> subst e1 <;> subst e2
  · obtain ⟨k0, hk0, hw0⟩ := zw_at (φ := φ) (cA := cA) (S := S) (t := 9) (i := i) rfl h1
    obtain ⟨k1, hk1, hw1⟩ := zw_at (φ := φ) (cA := cA) (S := S) (t := 9) (i := i') rfl h2
    have := hD.1 k0 k1 _ _ hw0 hw1 he
    subst this
    rw [hk0] at hk1
    exact Option.some.inj hk1
  · exact absurd (he ▸ w9 i h1) (w12 i' h2)
  · exact absurd (he.symm ▸ w9 i' h2) (w12 i h1)
  · rw [hF.1.2 i i' h1 h2 he]
set_option maxHeartbeats 8000000 in
set_option maxRecDepth 100000 in
theorem zgo_ok {α : Type} {d c0 s0 n0 : Nat} {φ0 : ZPh} (κ : Nat → ZL → List ZV → ZS → Option α) (ρ : Option ZV → ZS → Option α) (r : α) (hlt : l.stackTraces = false) (hC : zC p s m args c mi cA D) (hMt : ∀ d', d' ≤ d → zMt l d' (zcall d')) (hRf : 2 * d + 9 ≤ R.frames) (hRl : 48 * (d + 1) + 400 ≤ R.locals)
    (Bκ : ∀ pc lz st S, κ pc lz st S = some r → zkc S ≤ c0 + R.cells ∧ zks S ≤ s0 + R.slots) (Bρ : ∀ v S, ρ v S = some r → zkc S ≤ c0 + R.cells ∧ zks S ≤ s0 + R.slots)
    (Kκ : ∀ (pc : Nat) (lz : ZL) (st : List ZV) (S : ZS) (φ : ZPh) (H : Heap) (locs : List Loc) (ls : Array Slot), κ pc lz st S = some r → zHp φ cA D A s L xs o H locs S → zLo φ S.2.2.2.1 (zmx mi) ls lz → zSk S.2.2.2.1 st → zEx n0 φ0 φ → n0 ≤ S.2.2.2.1 → c0 ≤ zkc S → s0 ≤ zks S → W p l e R s m args below meth c H locs (zkc S - c0) (zks S - s0) Q (F0 m pc ls (st.map (zv φ))))
    (Kρ : ∀ (v : Option ZV) (pc : Nat) (S : ZS) (φ : ZPh) (H : Heap) (locs : List Loc) (ls : Array Slot), ρ v S = some r → zHp φ cA D A s L xs o H locs S → (∀ w, v = some w → zvv S.2.2.2.1 w) → zEx n0 φ0 φ → n0 ≤ S.2.2.2.1 → c0 ≤ zkc S → s0 ≤ zks S → zRet mi pc v → W p l e R s m args below meth c H locs (zkc S - c0) (zks S - s0) Q (F0 m pc ls (v.toList.map (zv φ)))) :
    ∀ (j : Nat) (b : Bool) (pc : Nat) (lz : ZL) (st : List ZV) (S : ZS) (φ : ZPh) (H : Heap) (locs : List Loc) (ls : Array Slot), zgo (zcall d) mi (zoc mi) κ ρ j b pc lz st S = some r → zHp φ cA D A s L xs o H locs S → zLo φ S.2.2.2.1 (zmx mi) ls lz → zSk S.2.2.2.1 st → zEx n0 φ0 φ → n0 ≤ S.2.2.2.1 → c0 ≤ zkc S → s0 ≤ zks S →
      W p l e R s m args below meth c H locs (zkc S - c0) (zks S - s0) Q (F0 m pc ls (st.map (zv φ)))
  | 0, _, _, _, _, _, _, _, _, _, h, _, _, _, _, _, _, _ => by unfold zgo at h; cases h
  | j + 1, b, pc, lz, st, S, φ, H, locs, ls, h, hH, hL, hSk, hE, hn, hc0, hs0 => by
    have ih := zgo_ok κ ρ r hlt hC hMt hRf hRl Bκ Bρ Kκ Kρ j
    have bound : ∀ {b : Bool} {pc : Nat} {lz : ZL} {st : List ZV} {S1 : ZS}, zgo (zcall d) mi (zoc mi) κ ρ j b pc lz st S1 = some r → zkc S1 ≤ c0 + R.cells ∧ zks S1 ≤ s0 + R.slots := by
      intro b pc lz st S1 h
      rcases zgo_mono (zcall d) (zcall_mono d) mi (zoc mi) κ ρ r j b pc lz st S1 h with ⟨a1, a2, a3, S2, h1, h2⟩ | ⟨a1, S2, h1, h2⟩
      · have := Bκ _ _ _ _ h1
        exact ⟨Nat.le_trans h2.2.1 this.1, Nat.le_trans h2.2.2 this.2⟩
      · have := Bρ _ _ h1
        exact ⟨Nat.le_trans h2.2.1 this.1, Nat.le_trans h2.2.2 this.2⟩
    obtain ⟨hx, hb, hml, hmi, hoc, hown, hts, htn, hK⟩ := id hC
    unfold zgo at h
    unfold zel at h
    split at h
    · exact Kκ _ _ _ _ _ _ _ _ h hH (hL.mask _) hSk hE hn hc0 hs0
    · obtain ⟨⟨ins, len⟩, hc, hh⟩ := zob_inv h; clear h; have h := hh; clear hh
      obtain ⟨hdg, hck⟩ := zdec hc
      have dflt : (∀ n, ins ≠ .getstatic n) → ins ≠ .arraylength → (∀ n i, ins = .ldc n → zldc (zoc mi) n ≠ some (.inr i)) → zob (zop (zoc mi) ins lz st S) (fun q => zgo (zcall d) mi (zoc mi) κ ρ j true (pc + len) q.1 q.2.1 q.2.2) = some r → W p l e R s m args below meth c H locs (zkc S - c0) (zks S - s0) Q (F0 m pc ls (st.map (zv φ))) := by
        intro n1 n2 n3 h
        obtain ⟨⟨l', st', S'⟩, hq, h9⟩ := zob_inv h
        have eS : S' = S := zop_S hq
        dsimp only at h9
        clear h
        subst eS
        have h := h9
        exact zop_ok hC hc hL hSk n1 n2 n3 hq (fun ls' _ hL' hS' => ih _ _ _ _ _ _ _ _ _ h hH hL' hS' hE hn hc0 hs0)
      have call : ∀ {k : Nat}, ins = .invokevirtual k ∨ ins = .invokestatic k → zcal (zcall d) (zoc mi) k st S (fun st' S' => zgo (zcall d) mi (zoc mi) κ ρ j true (pc + len) lz st' S') = some r → W p l e R s m args below meth c H locs (zkc S - c0) (zks S - s0) Q (F0 m pc ls (st.map (zv φ))) := by
        intro k hin h
        obtain ⟨q, w, v, S', hq, hw, hw4, hcl, h, -⟩ := zcal_inv h
        have hle := zcall_mono _ _ _ _ _ _ hcl
        have hB := bound h
        obtain ⟨ar, hst, -, -⟩ := zpop_spec _ _ _ _ hw
        have hSkr : zSk S'.2.2.2.1 w.2 := fun v hv => (hSk v (by rw [hst]; exact List.mem_append_right _ hv)).mono hle.1
        have fin : ∀ (φ' : ZPh) (H1 : Heap) (locs1 : List Loc), zEx S.2.2.2.1 φ φ' → zHp φ' cA D A s L xs o H1 locs1 S' → (∀ w, v = some w → zvv S'.2.2.2.1 w) → W p l e R s m args below meth c H1 locs1 (zkc S' - c0) (zks S' - s0) Q (F0 m (pc + len) ls ((v.toList ++ w.2).map (zv φ'))) := by
          intro φ' H1 locs1 hE1 hH1 hv1
          refine ih _ _ _ _ _ _ _ _ _ h hH1 (hL.ex hE1 hle.1) (fun u hu => ?_) (hE.tr hn hE1) (Nat.le_trans hn hle.1) (Nat.le_trans hc0 hle.2.1) (Nat.le_trans hs0 hle.2.2)
          rcases List.mem_append.mp hu with hu | hu
          · cases v with
            | none => cases hu
            | some v =>
              rw [List.mem_singleton.mp hu]
              exact hv1 v rfl
          · exact hSkr u hu
        cases d with
        | zero => unfold zcall at hcl; cases hcl
        | succ d =>
          have hcl0 := hcl
          unfold zcall at hcl
          cases hb1 : Nat.ble 1000 q.1 with
          | true =>
            rw [hb1] at hcl
            exact zprm_ok hlt hC hH (hMt d (Nat.le_succ d)) (by omega) (by omega) hc hin hq (Nat.ble_eq.mp hb1) hw hw4 hcl hSk hle hc0 hs0 hB hL.1.1 fin
          | false =>
            rw [hb1] at hcl
            obtain ⟨hrc, -⟩ := zcd_t hcl
            rw [Bool.and_eq_true] at hrc
            obtain ⟨hrc, -⟩ := hrc
            have hlt : q.1 < 1000 := by
              by_cases hh : q.1 < 1000
              · exact hh
              · have := Nat.ble_eq.mpr (Nat.not_lt.mp hh)
                rw [hb1] at this; cases this
            exact zinv_ok hC hH (hMt (d + 1) (Nat.le_refl _)) hRf hRl hc hin hq hlt hw hw4 hcl0 hrc hSk hle hc0 hs0 hB hL.1.1 fin
      cases ins
      case goto o =>
        simp only [zchk, Bool.and_eq_true, Nat.beq_eq] at hck
        obtain ⟨rfl, hj⟩ := hck
        exact lv_goto hx hb hdg (zt_of hj) (ih _ _ _ _ _ _ _ _ _ h hH hL hSk hE hn hc0 hs0)
      case ifCond c9 o =>
        simp only [zchk, Bool.and_eq_true, Nat.beq_eq] at hck
        obtain ⟨rfl, hj⟩ := hck
        obtain ⟨x, t, est, hh⟩ := zpi_inv h; clear h; subst est; have h := hh; clear hh
        have go : ∀ {b : Bool} {pc' : Nat}, zgo (zcall d) mi (zoc mi) κ ρ j b pc' lz t S = some r → W p l e R s m args below meth c H locs (zkc S - c0) (zks S - s0) Q (F0 m pc' ls (t.map (zv φ))) := fun h => ih _ _ _ _ _ _ _ _ _ h hH hL hSk.tail hE hn hc0 hs0
        cases c9
        · exact lv_if_eq hx hb hdg (zt_of hj) (fun q => go (zif_t h q)) (fun q => go (zif_f h q))
        · exact lv_if_ne hx hb hdg (zt_of hj) (fun q => go (zif_f h q)) (fun q => go (zif_t h q))
        · exact lv_if_lt hx hb hdg (zt_of hj) (fun q => go (zif_t h q)) (fun q => go (zif_f h q))
        · exact lv_if_ge hx hb hdg (zt_of hj) (fun q => go (zif_t h q)) (fun q => go (zif_f h q))
        · exact lv_if_gt hx hb hdg (zt_of hj) (fun q => go (zif_t h q)) (fun q => go (zif_f h q))
        · exact lv_if_le hx hb hdg (zt_of hj) (fun q => go (zif_t h q)) (fun q => go (zif_f h q))
      case if_icmp c9 o =>
        simp only [zchk, Bool.and_eq_true, Nat.beq_eq] at hck
        obtain ⟨rfl, hj⟩ := hck
        obtain ⟨y, t, est, hh⟩ := zpi_inv h; clear h; subst est; have h := hh; clear hh
        obtain ⟨x, t, est, hh⟩ := zpi_inv h; clear h; subst est; have h := hh; clear hh
        have go : ∀ {b : Bool} {pc' : Nat}, zgo (zcall d) mi (zoc mi) κ ρ j b pc' lz t S = some r → W p l e R s m args below meth c H locs (zkc S - c0) (zks S - s0) Q (F0 m pc' ls (t.map (zv φ))) := fun h => ih _ _ _ _ _ _ _ _ _ h hH hL hSk.tail.tail hE hn hc0 hs0
        cases c9
        · exact lv_icmp_eq hx hb hdg (zt_of hj) (fun q => go (zif_t h q)) (fun q => go (zif_f h q))
        · exact lv_icmp_ne hx hb hdg (zt_of hj) (fun q => go (zif_f h q)) (fun q => go (zif_t h q))
        · exact lv_icmp_lt hx hb hdg (zt_of hj) (fun q => go (zif_t h q)) (fun q => go (zif_f h q))
        · exact lv_icmp_ge hx hb hdg (zt_of hj) (fun q => go (zif_t h q)) (fun q => go (zif_f h q))
        · exact lv_icmp_gt hx hb hdg (zt_of hj) (fun q => go (zif_t h q)) (fun q => go (zif_f h q))
        · exact lv_icmp_le hx hb hdg (zt_of hj) (fun q => go (zif_t h q)) (fun q => go (zif_f h q))
      case if_acmp c9 o =>
        simp only [zchk, Bool.and_eq_true, Nat.beq_eq] at hck
        obtain ⟨rfl, hj⟩ := hck
        obtain ⟨y, t, est, hh⟩ := zpo_inv h; clear h; subst est; have h := hh; clear hh
        obtain ⟨x, t, est, hh⟩ := zpo_inv h; clear h; subst est; have h := hh; clear hh
        obtain ⟨cx, hh⟩ := zcm_inv h; clear h; have h := hh; clear hh
        obtain ⟨cy, hh⟩ := zcm_inv h; clear h; have h := hh; clear hh
        have hyv : zvo S.2.2.2.1 y := hSk.head
        have hxv : zvo S.2.2.2.1 x := hSk.tail.head
        have hiff := zof_inj (φ := φ) (zinj hH) hxv hyv cx cy
        have go : ∀ {b : Bool} {pc' : Nat}, zgo (zcall d) mi (zoc mi) κ ρ j b pc' lz t S = some r → W p l e R s m args below meth c H locs (zkc S - c0) (zks S - s0) Q (F0 m pc' ls (t.map (zv φ))) := fun h => ih _ _ _ _ _ _ _ _ _ h hH hL hSk.tail.tail hE hn hc0 hs0
        rw [List.map_cons, List.map_cons, zv_o, zv_o]
        cases c9
        · exact lv_acmp_eq hx hb hdg (zt_of hj) (fun q => go (zif_t h (hiff.mp q))) (fun q => go (zif_f h (fun z => q (hiff.mpr z))))
        · exact lv_acmp_ne hx hb hdg (zt_of hj) (fun q => go (zif_f h (fun z => q (hiff.mpr z)))) (fun q => go (zif_t h (hiff.mp q)))
      case ifnonnull o =>
        simp only [zchk, Bool.and_eq_true, Nat.beq_eq] at hck
        obtain ⟨rfl, hj⟩ := hck
        obtain ⟨x, t, est, hh⟩ := zpo_inv h; clear h; subst est; have h := hh; clear hh
        have go : ∀ {b : Bool} {pc' : Nat}, zgo (zcall d) mi (zoc mi) κ ρ j b pc' lz t S = some r → W p l e R s m args below meth c H locs (zkc S - c0) (zks S - s0) Q (F0 m pc' ls (t.map (zv φ))) := fun h => ih _ _ _ _ _ _ _ _ _ h hH hL hSk.tail hE hn hc0 hs0
        cases x with
        | none => exact lv_ifnonnullN hx hb hdg (go (zif_t h rfl))
        | some x => exact lv_ifnonnull hx hb hdg (zt_of hj) (go (zif_f h (fun z => by cases z)))
      case tableswitch df lo hi offs =>
        simp only [zchk, Bool.and_eq_true, decide_eq_true_eq] at hck
        obtain ⟨⟨⟨⟨⟨hj, hall⟩, hsz⟩, hlo⟩, hhi⟩, hz⟩ := hck
        obtain ⟨x, t, est, hh⟩ := zpi_inv h; clear h; subst est; have h := hh; clear hh
        have go : ∀ {b : Bool} {pc' : Nat}, zgo (zcall d) mi (zoc mi) κ ρ j b pc' lz t S = some r → W p l e R s m args below meth c H locs (zkc S - c0) (zks S - s0) Q (F0 m pc' ls (t.map (zv φ))) := fun h => ih _ _ _ _ _ _ _ _ _ h hH hL hSk.tail hE hn hc0 hs0
        have hint : ∀ k : Nat, k < offs.size → (zcst (lo + k)).toInt = lo + k := by
          intro k hk
          rw [zcs_at hz k hk]
          exact Int32.toInt_ofInt_of_le (by omega) (by omega)
        rcases zsw_spec h with ⟨k, tg, h1, h2, h3⟩ | ⟨h1, h2⟩
        · rw [List.getElem?_map] at h1
          cases ho : offs.toList[k]? with
          | none => rw [ho] at h1; cases h1
          | some off =>
            rw [ho] at h1
            cases h1
            have hk : k < offs.size := by
              have := (List.getElem?_eq_some_iff.mp ho).1
              rwa [Array.length_toList] at this
            have hxi := hint k hk
            rw [← h2] at hxi
            exact lv_tableIn hx hb hdg (by omega) (by omega) (by rw [hxi, show (lo + (k : Int) - lo).toNat = k by omega, ← Array.getElem?_toList]; exact ho) (zt_of (List.all_eq_true.mp hall off (List.mem_of_getElem? ho))) (go h3)
        · refine lv_tableOut hx hb hdg ?_ (zt_of hj) (go h2)
          by_cases q1 : x.toInt < lo
          · exact Or.inl q1
          · by_cases q2 : hi < x.toInt
            · exact Or.inr q2
            · exfalso
              have hk : (x.toInt - lo).toNat < offs.size := by omega
              refine h1 (x.toInt - lo).toNat (by rw [List.length_map, Array.length_toList]; exact hk) ?_
              have := hint _ hk
              exact Int32.toInt_inj.mp (by rw [this]; omega)
      case invokevirtual k => exact call (Or.inl rfl) h
      case invokestatic k => exact call (Or.inr rfl) h
      case invokespecial k =>
        exfalso
        obtain ⟨q, w, v, S', hq, -⟩ := zcal_inv h
        simp only [zchk, hq] at hck
        cases hck
      case ireturn =>
        obtain ⟨x, t, est, hh⟩ := zpi_inv h; clear h; subst est; have h := hh; clear hh
        obtain ⟨he, hh⟩ := zcd_t h; clear h; have h := hh; clear hh
        have ht : t = [] := List.isEmpty_iff.mp he
        subst ht
        simp only [zchk, Bool.and_eq_true, Nat.beq_eq] at hck
        obtain ⟨rfl, hrk⟩ := hck
        split at h
        · rename_i hz
          exact Kρ (some (.inl x)) pc S φ H locs ls h hH (fun w hw => by cases hw; trivial) hE hn hc0 hs0 ⟨hc, hrk, Or.inl hz⟩
        · rename_i hz
          obtain ⟨hg, h⟩ := zgb_inv h
          exact Kρ (some (.inl x)) pc S φ H locs ls h hH (fun w hw => by cases hw; trivial) hE hn hc0 hs0 ⟨hc, hrk, Or.inr (Or.inl ⟨hz, hg⟩)⟩
        · rename_i hz
          obtain ⟨hg, h⟩ := zgc_inv h
          exact Kρ (some (.inl x)) pc S φ H locs ls h hH (fun w hw => by cases hw; trivial) hE hn hc0 hs0 ⟨hc, hrk, Or.inr (Or.inr (Or.inl ⟨hz, hg⟩))⟩
        · rename_i e0 e1 e2
          obtain ⟨hg, h⟩ := zgy_inv h
          exact Kρ (some (.inl x)) pc S φ H locs ls h hH (fun w hw => by cases hw; trivial) hE hn hc0 hs0 ⟨hc, hrk, Or.inr (Or.inr (Or.inr ⟨e0, e1, e2, hg⟩))⟩
      case lreturn =>
        obtain ⟨x, t, est, hh⟩ := zpl_inv h; clear h; subst est; have h := hh; clear hh
        obtain ⟨he, hh⟩ := zcd_t h; clear h; have h := hh; clear hh
        have ht : t = [] := List.isEmpty_iff.mp he
        subst ht
        simp only [zchk, Bool.and_eq_true, Nat.beq_eq] at hck
        obtain ⟨rfl, hrk⟩ := hck
        exact Kρ (some (.inr (.inl x))) pc S φ H locs ls h hH (fun w hw => by cases hw; trivial) hE hn hc0 hs0 ⟨hc, hrk⟩
      case areturn =>
        obtain ⟨x, t, est, hh⟩ := zpo_inv h; clear h; subst est; have h := hh; clear hh
        obtain ⟨he, hh⟩ := zcd_t h; clear h; have h := hh; clear hh
        have ht : t = [] := List.isEmpty_iff.mp he
        subst ht
        simp only [zchk, Bool.and_eq_true, Nat.beq_eq] at hck
        obtain ⟨rfl, hrk⟩ := hck
        exact Kρ (some (.inr (.inr x))) pc S φ H locs ls h hH (fun w hw => by cases hw; exact hSk.head) hE hn hc0 hs0 ⟨hc, hrk⟩
      case return_ =>
        obtain ⟨he, hh⟩ := zcd_t h; clear h; have h := hh; clear hh
        have ht : st = [] := List.isEmpty_iff.mp he
        subst ht
        simp only [zchk, Bool.and_eq_true, Nat.beq_eq] at hck
        obtain ⟨rfl, hrk⟩ := hck
        exact Kρ none pc S φ H locs ls h hH (fun w hw => by cases hw) hE hn hc0 hs0 ⟨hc, hrk⟩
      case new k =>
        obtain ⟨hat, hh⟩ := zcd_t h; clear h; have h := hh; clear hh
        rw [Bool.and_eq_true] at hat
        obtain ⟨hat, h4⟩ := hat
        have h4 := Nat.ble_eq.mp h4
        obtain ⟨home, hg1, hh⟩ := zli_inv h; clear h; have h := hh; clear hh
        obtain ⟨o, hg0, hh⟩ := zlo_inv h; clear h; have h := hh; clear hh
        obtain ⟨i0, est, hh⟩ := zder_inv h; clear h; subst est; have h := hh; clear hh
        have hB := bound h
        refine znew_ok (d := d) hC hH hRf hRl hc hat hL hg1 hg0 hSk h4 hc0 hs0 hB fun φ' H1 locs1 hE1 hH1 => ?_
        refine ih _ _ _ (.inr (.inr (some (2, S.2.2.2.1))) :: st) _ _ _ _ _ h hH1 (hL.ex hE1 (Nat.le_succ _)) (zSk.push (fun r hr => by cases hr; exact Nat.lt_succ_self _) (hSk.mono (Nat.le_succ _))) (hE.tr hn hE1) (Nat.le_trans hn (Nat.le_succ _)) (Nat.le_trans hc0 (Nat.le_add_right _ _)) (Nat.le_trans hs0 (Nat.le_add_right _ _))
      case idiv =>
        simp only [zchk, Nat.beq_eq] at hck
        subst hck
        obtain ⟨y, t, est, hh⟩ := zpi_inv h; clear h; subst est; have h := hh; clear hh
        obtain ⟨x, t, est, hh⟩ := zpi_inv h; clear h; subst est; have h := hh; clear hh
        obtain ⟨hz, hh⟩ := zcd_f h; clear h; have h := hh; clear hh
        exact lv_idiv hx hb hdg (of_decide_eq_false hz) (ih _ _ _ (.inl (x / y) :: t) _ _ _ _ _ h hH hL hSk.tail.tail.pushi hE hn hc0 hs0)
      case irem =>
        simp only [zchk, Nat.beq_eq] at hck
        subst hck
        obtain ⟨y, t, est, hh⟩ := zpi_inv h; clear h; subst est; have h := hh; clear hh
        obtain ⟨x, t, est, hh⟩ := zpi_inv h; clear h; subst est; have h := hh; clear hh
        obtain ⟨hz, hh⟩ := zcd_f h; clear h; have h := hh; clear hh
        exact lv_irem hx hb hdg (of_decide_eq_false hz) (ih _ _ _ (.inl (x - x / y * y) :: t) _ _ _ _ _ h hH hL hSk.tail.tail.pushi hE hn hc0 hs0)
      case getfield k =>
        obtain ⟨⟨t1, f1, ty1⟩, hf, hh⟩ := zob_inv h; clear h; have h := hh; clear hh
        obtain ⟨o, t, est, hh⟩ := zpo_inv h; clear h; subst est; have h := hh; clear hh
        obtain ⟨i, est, hh⟩ := zder_inv h; clear h; subst est; have h := hh; clear hh
        have hi : i < zct S.2.2.2.1 t1 := hSk.head (t1, i) rfl
        refine zgetf_ok (S := S) (st := t) hC hH hc hf hi fun hv hk9 => ?_
        have go : ∀ v, zav S t1 i f1 = v → zgo (zcall d) mi (zoc mi) κ ρ j true (pc + len) lz (v :: t) S = some r → W p l e R s m args below meth c H locs (zkc S - c0) (zks S - s0) Q (F0 m (pc + len) ls (zv φ (zav S t1 i f1) :: t.map (zv φ))) := by
          intro v hv2 h
          rw [hv2]
          exact ih _ _ _ (v :: t) _ _ _ _ _ h hH hL (zSk.push (by rw [← hv2]; exact hv) hSk.tail) hE hn hc0 hs0
        dsimp only at h
        unfold zav at go ⊢
        rw [hk9] at go ⊢
        split at h
        · exact go _ rfl h
        · exact go _ rfl h
        · exact go _ rfl h
        · exact go _ rfl h
        · exact go _ rfl h
        · exact go _ rfl h
        · rename_i q1 q2 q3 q4 q5 q6
          have h6 := zfk_only hoc (zchk_2048g hck) hf
          dsimp only at h6
          have hty : ty1 = 6 := by
            have : ty1 = 0 ∨ ty1 = 1 ∨ ty1 = 2 ∨ ty1 = 3 ∨ ty1 = 4 ∨ ty1 = 5 ∨ ty1 = 6 := by omega
            rcases this with e | e | e | e | e | e | e
            · exact absurd e q1
            · exact absurd e q2
            · exact absurd e q3
            · exact absurd e q4
            · exact absurd e q5
            · exact absurd e q6
            · exact e
          subst hty
          exact go _ rfl h
      case putfield k =>
        obtain ⟨⟨t1, f1, ty1⟩, hf, hh⟩ := zob_inv h; clear h; have h := hh; clear hh
        have h12 : t1 < 12 := zput_12 hck hf (zlink hC (zchk_2048 hck) hf).2.1
        dsimp only at h
        split at h
        · obtain ⟨x, t, est, hh⟩ := zpi_inv h; clear h; subst est; have h := hh; clear hh
          obtain ⟨o, t, est, hh⟩ := zpo_inv h; clear h; subst est; have h := hh; clear hh
          obtain ⟨i, est, hh⟩ := zder_inv h; clear h; subst est; have h := hh; clear hh
          have hi : i < zct S.2.2.2.1 t1 := hSk.tail.head (t1, i) rfl
          have hk9 := (zlink hC (zchk_2048 hck) hf).2.2.1
          refine zputf_ok (S := S) (S' := (zu S.1 t1 i f1 x, S.2)) (st := t) (v := .inl x) hC hH hc hf h12 hi zOff.I (hH.2.2.2.1) (fun g hg => ?_) ?_ (fun _ hty => ?_) fun H1 locs1 hH1 => ih _ _ _ t (zu S.1 t1 i f1 x, S.2) _ _ _ _ h hH1 hL hSk.tail.tail hE hn hc0 hs0
          · unfold zav; dsimp only; rw [zu_k hg]
          · unfold zav; rw [hk9]; exact congrArg (fun y => (Sum.inl y : ZV)) zu_at
          · have := of_decide_eq_true hty
            rw [this]; exact ⟨rfl, rfl⟩
        · obtain ⟨x, t, est, hh⟩ := zpl_inv h; clear h; subst est; have h := hh; clear hh
          obtain ⟨o, t, est, hh⟩ := zpo_inv h; clear h; subst est; have h := hh; clear hh
          obtain ⟨i, est, hh⟩ := zder_inv h; clear h; subst est; have h := hh; clear hh
          have hi : i < zct S.2.2.2.1 t1 := hSk.tail.head (t1, i) rfl
          have hk9 := (zlink hC (zchk_2048 hck) hf).2.2.1
          refine zputf_ok (S := S) (S' := (S.1, zu S.2.1 t1 i f1 x, S.2.2)) (st := t) (v := .inr (.inl x)) hC hH hc hf h12 hi zOff.L (hH.2.2.2.1) (fun g hg => ?_) ?_ (fun _ hty => ?_) fun H1 locs1 hH1 => ih _ _ _ t (S.1, zu S.2.1 t1 i f1 x, S.2.2) _ _ _ _ h hH1 hL hSk.tail.tail hE hn hc0 hs0
          · unfold zav; dsimp only; rw [zu_k hg]
          · unfold zav; rw [hk9]; exact congrArg (fun y => (Sum.inr (Sum.inl y) : ZV)) zu_at
          · have := of_decide_eq_true hty
            rw [this]; exact ⟨rfl, rfl⟩
        · obtain ⟨x, t, est, hh⟩ := zpo_inv h; clear h; subst est; have h := hh; clear hh
          obtain ⟨o, t, est, hh⟩ := zpo_inv h; clear h; subst est; have h := hh; clear hh
          obtain ⟨i, est, hh⟩ := zder_inv h; clear h; subst est; have h := hh; clear hh
          have hi : i < zct S.2.2.2.1 t1 := hSk.tail.head (t1, i) rfl
          have hk9 := (zlink hC (zchk_2048 hck) hf).2.2.1
          refine zputf_ok (S := S) (S' := (S.1, S.2.1, zu S.2.2.1 t1 i f1 x, S.2.2.2)) (st := t) (v := .inr (.inr x)) hC hH hc hf h12 hi zOff.D (hH.2.2.2.1.D hSk.head) (fun g hg => ?_) ?_ (fun _ hty => ?_) fun H1 locs1 hH1 => ih _ _ _ t (S.1, S.2.1, zu S.2.2.1 t1 i f1 x, S.2.2.2) _ _ _ _ h hH1 hL hSk.tail.tail hE hn hc0 hs0
          · unfold zav; dsimp only; rw [zu_k hg]
          · unfold zav; rw [hk9]; exact congrArg (fun y => (Sum.inr (Sum.inr y) : ZV)) zu_at
          · obtain ⟨nm, e9⟩ := zfty3 hty
            rw [e9]
            rcases x with _ | x <;> exact ⟨rfl, rfl⟩
        · obtain ⟨x, t, est, hh⟩ := zpi_inv h; clear h; subst est; have h := hh; clear hh
          obtain ⟨o, t, est, hh⟩ := zpo_inv h; clear h; subst est; have h := hh; clear hh
          obtain ⟨i, est, hh⟩ := zder_inv h; clear h; subst est; have h := hh; clear hh
          obtain ⟨hbl, hh⟩ := zg_inv h; clear h; have h := hh; clear hh
          have hi : i < zct S.2.2.2.1 t1 := hSk.tail.head (t1, i) rfl
          have hk9 := (zlink hC (zchk_2048 hck) hf).2.2.1
          refine zputf_ok (S := S) (S' := (zu S.1 t1 i f1 x, S.2)) (st := t) (v := .inl x) hC hH hc hf h12 hi zOff.I (hH.2.2.2.1) (fun g hg => ?_) ?_ (fun _ hty => ?_) fun H1 locs1 hH1 => ih _ _ _ t (zu S.1 t1 i f1 x, S.2) _ _ _ _ h hH1 hL hSk.tail.tail hE hn hc0 hs0
          · unfold zav; dsimp only; rw [zu_k hg]
          · unfold zav; rw [hk9]; exact congrArg (fun y => (Sum.inl y : ZV)) zu_at
          · have := of_decide_eq_true hty
            rw [this]
            have hbl : x = 0 ∨ x = 1 := of_decide_eq_true hbl
            rcases hbl with rfl | rfl <;> exact ⟨rfl, rfl⟩
        · cases h
      case iaload =>
        obtain ⟨x, t, est, hh⟩ := zpi_inv h; clear h; subst est; have h := hh; clear hh
        obtain ⟨t1, i1, t2, est, hh⟩ := zpr_inv h; clear h; subst est; have h := hh; clear hh
        have hi : i1 < zct S.2.2.2.1 t1 := hSk.tail.head (t1, i1) rfl
        cases hb1 : (Nat.beq (zaty t1) 0 || Nat.beq (zaty t1) 7) with
        | true =>
          rw [hb1] at h
          obtain ⟨hin, hh⟩ := zg_inv h; clear h; have h := hh; clear hh
          rw [Bool.or_eq_true] at hb1
          exact zald_ok hC hH (Or.inl ⟨rfl, hb1.imp Nat.eq_of_beq_eq_true Nat.eq_of_beq_eq_true⟩) hc hi hin (ih _ _ _ (.inl _ :: t2) _ _ _ _ _ h hH hL hSk.tail.tail.pushi hE hn hc0 hs0)
        | false =>
          rw [hb1] at h
          obtain ⟨h6, hh⟩ := zcd_t h; clear h; have h := hh; clear hh
          obtain ⟨hin, hh⟩ := zg_inv h; clear h; have h := hh; clear hh
          exact zald6_ok hC hH (Nat.eq_of_beq_eq_true h6) hc hi hin (ih _ _ _ (.inl _ :: t2) _ _ _ _ _ h hH hL hSk.tail.tail.pushi hE hn hc0 hs0)
      case baload =>
        obtain ⟨x, t, est, hh⟩ := zpi_inv h; clear h; subst est; have h := hh; clear hh
        obtain ⟨t1, i1, t2, est, hh⟩ := zpr_inv h; clear h; subst est; have h := hh; clear hh
        have hi : i1 < zct S.2.2.2.1 t1 := hSk.tail.head (t1, i1) rfl
        cases hb1 : Nat.beq (zaty t1) 1 with
        | true =>
          rw [hb1] at h
          obtain ⟨hin, h⟩ := zg_inv h
          exact zald_ok hC hH (Or.inr (Or.inl ⟨rfl, Nat.eq_of_beq_eq_true hb1⟩)) hc hi hin (ih _ _ _ (.inl _ :: t2) _ _ _ _ _ h hH hL hSk.tail.tail.pushi hE hn hc0 hs0)
        | false =>
          rw [hb1] at h
          obtain ⟨h6, h⟩ := zcd_t h
          obtain ⟨hin, h⟩ := zg_inv h
          exact zald8_ok hC hH (Nat.eq_of_beq_eq_true h6) hc hi hin (ih _ _ _ (.inl _ :: t2) _ _ _ _ _ h hH hL hSk.tail.tail.pushi hE hn hc0 hs0)
      case caload =>
        obtain ⟨x, t, est, hh⟩ := zpi_inv h; clear h; subst est; have h := hh; clear hh
        obtain ⟨t1, i1, t2, est, hh⟩ := zpr_inv h; clear h; subst est; have h := hh; clear hh
        have hi : i1 < zct S.2.2.2.1 t1 := hSk.tail.head (t1, i1) rfl
        obtain ⟨h6, hh⟩ := zcd_t h; clear h; have h := hh; clear hh
        obtain ⟨hin, hh⟩ := zg_inv h; clear h; have h := hh; clear hh
        exact zald_ok hC hH (Or.inr (Or.inr ⟨rfl, Nat.eq_of_beq_eq_true h6⟩)) hc hi hin (ih _ _ _ (.inl _ :: t2) _ _ _ _ _ h hH hL hSk.tail.tail.pushi hE hn hc0 hs0)
      case laload =>
        obtain ⟨x, t, est, hh⟩ := zpi_inv h; clear h; subst est; have h := hh; clear hh
        obtain ⟨t1, i1, t2, est, hh⟩ := zpr_inv h; clear h; subst est; have h := hh; clear hh
        have hi : i1 < zct S.2.2.2.1 t1 := hSk.tail.head (t1, i1) rfl
        obtain ⟨h6, hh⟩ := zcd_t h; clear h; have h := hh; clear hh
        obtain ⟨hin, hh⟩ := zg_inv h; clear h; have h := hh; clear hh
        exact zaldl_ok hC hH (Nat.eq_of_beq_eq_true h6) hc hi hin (ih _ _ _ (.inr (.inl _) :: t2) _ _ _ _ _ h hH hL hSk.tail.tail.pushl hE hn hc0 hs0)
      case aaload =>
        obtain ⟨x, t, est, hh⟩ := zpi_inv h; clear h; subst est; have h := hh; clear hh
        obtain ⟨t1, i1, t2, est, hh⟩ := zpr_inv h; clear h; subst est; have h := hh; clear hh
        have hi : i1 < zct S.2.2.2.1 t1 := hSk.tail.head (t1, i1) rfl
        cases hb1 : Nat.beq (zaty t1) 4 with
        | true =>
          rw [hb1] at h
          obtain ⟨hin, hh⟩ := zg_inv h; clear h; have h := hh; clear hh
          exact zaldo_ok hC hH hc hi hin (Or.inl ⟨Nat.eq_of_beq_eq_true hb1, rfl⟩) (fun hv => ih _ _ _ (.inr (.inr _) :: t2) _ _ _ _ _ h hH hL (zSk.push hv hSk.tail.tail) hE hn hc0 hs0)
        | false =>
          rw [hb1] at h
          obtain ⟨h6, hh⟩ := zcd_t h; clear h; have h := hh; clear hh
          obtain ⟨hin, hh⟩ := zg_inv h; clear h; have h := hh; clear hh
          exact zaldo_ok hC hH hc hi hin (Or.inr ⟨Nat.eq_of_beq_eq_true h6, rfl⟩) (fun hv => ih _ _ _ (.inr (.inr _) :: t2) _ _ _ _ _ h hH hL (zSk.push hv hSk.tail.tail) hE hn hc0 hs0)
      case iastore =>
        obtain ⟨v, t, est, hh⟩ := zpi_inv h; clear h; subst est; have h := hh; clear hh
        obtain ⟨x, t, est, hh⟩ := zpi_inv h; clear h; subst est; have h := hh; clear hh
        obtain ⟨t1, i1, t2, est, hh⟩ := zpr_inv h; clear h; subst est; have h := hh; clear hh
        have hi : i1 < zct S.2.2.2.1 t1 := hSk.tail.tail.head (t1, i1) rfl
        obtain ⟨h6, hh⟩ := zcd_t h; clear h; have h := hh; clear hh
        obtain ⟨hin, hh⟩ := zg_inv h; clear h; have h := hh; clear hh
        exact zast_ok hC hH (Or.inl ⟨rfl, Nat.eq_of_beq_eq_true h6, rfl⟩) hc hi hin (fun H1 locs1 hH1 => ih _ _ _ t2 (zu S.1 t1 i1 (zx x) v, S.2) _ _ _ _ h hH1 hL hSk.tail.tail.tail hE hn hc0 hs0)
      case bastore =>
        obtain ⟨v, t, est, hh⟩ := zpi_inv h; clear h; subst est; have h := hh; clear hh
        obtain ⟨x, t, est, hh⟩ := zpi_inv h; clear h; subst est; have h := hh; clear hh
        obtain ⟨t1, i1, t2, est, hh⟩ := zpr_inv h; clear h; subst est; have h := hh; clear hh
        have hi : i1 < zct S.2.2.2.1 t1 := hSk.tail.tail.head (t1, i1) rfl
        obtain ⟨h6, hh⟩ := zcd_t h; clear h; have h := hh; clear hh
        obtain ⟨hin, hh⟩ := zg_inv h; clear h; have h := hh; clear hh
        obtain ⟨hbl, hh⟩ := zg_inv h; clear h; have h := hh; clear hh
        exact zast_ok hC hH (Or.inr (Or.inl ⟨rfl, Nat.eq_of_beq_eq_true h6, hbl, rfl⟩)) hc hi hin (fun H1 locs1 hH1 => ih _ _ _ t2 (zu S.1 t1 i1 (zx x) v, S.2) _ _ _ _ h hH1 hL hSk.tail.tail.tail hE hn hc0 hs0)
      case castore =>
        obtain ⟨v, t, est, hh⟩ := zpi_inv h; clear h; subst est; have h := hh; clear hh
        obtain ⟨x, t, est, hh⟩ := zpi_inv h; clear h; subst est; have h := hh; clear hh
        obtain ⟨t1, i1, t2, est, hh⟩ := zpr_inv h; clear h; subst est; have h := hh; clear hh
        have hi : i1 < zct S.2.2.2.1 t1 := hSk.tail.tail.head (t1, i1) rfl
        obtain ⟨h6, hh⟩ := zcd_t h; clear h; have h := hh; clear hh
        obtain ⟨hin, hh⟩ := zg_inv h; clear h; have h := hh; clear hh
        exact zast_ok hC hH (Or.inr (Or.inr ⟨rfl, Nat.eq_of_beq_eq_true h6, rfl⟩)) hc hi hin (fun H1 locs1 hH1 => ih _ _ _ t2 (zu S.1 t1 i1 (zx x) (v.toUInt32 % 65536).toInt32, S.2) _ _ _ _ h hH1 hL hSk.tail.tail.tail hE hn hc0 hs0)
      case lastore =>
        obtain ⟨v, t, est, hh⟩ := zpl_inv h; clear h; subst est; have h := hh; clear hh
        obtain ⟨x, t, est, hh⟩ := zpi_inv h; clear h; subst est; have h := hh; clear hh
        obtain ⟨t1, i1, t2, est, hh⟩ := zpr_inv h; clear h; subst est; have h := hh; clear hh
        have hi : i1 < zct S.2.2.2.1 t1 := hSk.tail.tail.head (t1, i1) rfl
        obtain ⟨h6, hh⟩ := zcd_t h; clear h; have h := hh; clear hh
        obtain ⟨hin, hh⟩ := zg_inv h; clear h; have h := hh; clear hh
        exact zastl_ok hC hH (Nat.eq_of_beq_eq_true h6) hc hi hin (fun H1 locs1 hH1 => ih _ _ _ t2 (S.1, zu S.2.1 t1 i1 (zx x) v, S.2.2) _ _ _ _ h hH1 hL hSk.tail.tail.tail hE hn hc0 hs0)
      case aastore =>
        obtain ⟨v, t, est, hh⟩ := zpo_inv h; clear h; subst est; have h := hh; clear hh
        obtain ⟨x, t, est, hh⟩ := zpi_inv h; clear h; subst est; have h := hh; clear hh
        obtain ⟨t1, i1, t2, est, hh⟩ := zpr_inv h; clear h; subst est; have h := hh; clear hh
        have hi : i1 < zct S.2.2.2.1 t1 := hSk.tail.tail.head (t1, i1) rfl
        obtain ⟨h6, hh⟩ := zcd_t h; clear h; have h := hh; clear hh
        obtain ⟨hin, hh⟩ := zg_inv h; clear h; have h := hh; clear hh
        obtain ⟨i2, est, hh⟩ := zder_inv h; clear h; subst est; have h := hh; clear hh
        have hj2 : i2 < zct S.2.2.2.1 2 := hSk.head (2, i2) rfl
        exact zasto_ok hC hH (Nat.eq_of_beq_eq_true h6) hc hi hj2 hin (fun H1 locs1 hH1 => ih _ _ _ t2 (S.1, S.2.1, zu S.2.2.1 t1 i1 (zx x) (some (2, i2)), S.2.2.2) _ _ _ _ h hH1 hL hSk.tail.tail.tail hE hn hc0 hs0)
      case ldc k =>
        cases hz : zldc (zoc mi) k with
        | none => exact dflt (fun n e => by cases e) (fun e => by cases e) (fun n i e => by cases e; rw [hz]; exact fun q => by cases q) h
        | some v =>
          cases v with
          | inl v => exact dflt (fun n e => by cases e) (fun e => by cases e) (fun n i e => by cases e; rw [hz]; exact fun q => by cases q) h
          | inr i =>
            refine zldcs_ok hC hH hc hz fun hi => ?_
            obtain ⟨q, hq, hh⟩ := zob_inv h; clear h; have h := hh; clear hh
            unfold zop at hq
            obtain ⟨v2, hv2, hq2⟩ := zob_inv hq
            rw [hz] at hv2
            cases hv2
            cases hq2
            exact ih _ _ _ (.inr (.inr (some (13, i))) :: st) _ _ _ _ _ h hH hL (zSk.push (fun r hr => by cases hr; exact hi) hSk) hE hn hc0 hs0
      case getstatic k =>
        obtain ⟨q, hq, hh⟩ := zob_inv h; clear h; have h := hh; clear hh
        unfold zop at hq
        rcases zel_inv hq with ⟨v, hz, hq⟩ | ⟨hn1, hq⟩
        · cases hq
          exact zgetc_ok hC hH hc hz (ih _ _ _ (.inl v :: st) _ _ _ _ _ h hH hL hSk.pushi hE hn hc0 hs0)
        · cases hb1 : zstd (zoc mi) k with
          | true =>
            rw [hb1] at hq
            cases hq
            exact zgetd_ok hC hH hc hn1 hb1 (ih _ _ _ (.inr (.inr (S.2.2.1 19 0 0)) :: st) _ _ _ _ _ h hH hL (zSk.push (hH.2.2.2.1 19 0 0) hSk) hE hn hc0 hs0)
          | false =>
            rw [hb1] at hq
            obtain ⟨q2, hz, hq⟩ := zob_inv hq
            cases hq
            exact zgets_ok hC hH hc hn1 hb1 hz fun hi => ih _ _ _ (.inr (.inr (some (q2.1, q2.2))) :: st) _ _ _ _ _ h hH hL (zSk.push (fun r hr => by cases hr; exact hi) hSk) hE hn hc0 hs0
      case arraylength =>
        obtain ⟨q, hq, hh⟩ := zob_inv h; clear h; have h := hh; clear hh
        unfold zop at hq
        obtain ⟨t1, i1, t2, rfl, hq⟩ := zpr_inv hq
        obtain ⟨h9, hq⟩ := zcd_f hq
        cases hq
        have hi : i1 < zct S.2.2.2.1 t1 := hSk.head (t1, i1) rfl
        exact zalen_ok hC hH hc hi (fun e9 => by rw [e9] at h9; cases h9) (ih _ _ _ (.inl _ :: t2) _ _ _ _ _ h hH hL hSk.tail.pushi hE hn hc0 hs0)
      all_goals exact dflt (fun n e => by cases e) (fun e => by cases e) (fun n i e => by cases e) h
end GO
