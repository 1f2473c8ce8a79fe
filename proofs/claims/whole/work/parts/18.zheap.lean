/-! INSTRUCTIONS that read and write the heap -/
theorem zaty_big : ∀ t, 122 ≤ t → zaty t = 9 := by
  intro t h
  have hb : ∀ k : Nat, k < 122 → Nat.blt t k = false := fun k hk => by
    cases hx : Nat.blt t k with
    | false => rfl
    | true => have := Nat.blt_eq.mp hx; omega
  have he : ∀ k : Nat, k < 122 → Nat.beq t k = false := fun k hk => by
    cases hx : Nat.beq t k with
    | false => rfl
    | true => have := Nat.eq_of_beq_eq_true hx; omega
  unfold zaty zH zE
  simp only [hb, he, cond_false, Nat.reduceLT]
theorem zaty_s1 : ∀ t, t < 122 → zaty t ≤ 4 → zwt t = true ∧ ¬ t < 12 := by decide +kernel
theorem zaty_s2 : ∀ t, t < 122 → zaty t ≤ 4 → t ≠ 16 ∧ t ≠ 18 ∧ t ≠ 19 := by decide +kernel
theorem zaty_sm : ∀ t, t < 122 → (zaty t = 5 → t = 14) ∧ (zaty t = 6 → False) ∧ (zaty t = 7 → t = 16) ∧ (zaty t = 8 → t = 18) := by decide +kernel
theorem zaty_s3 : ∀ t, t < 122 → zaty t ≠ 9 → zaty t ≤ 4 ∨ zaty t = 5 ∨ zaty t = 6 ∨ zaty t = 7 ∨ zaty t = 8 := by decide +kernel
theorem zaty_17 (t : Nat) (h : zaty t ≤ 4) : zwt t = true ∧ ¬ t < 12 ∧ t ≠ 16 ∧ t ≠ 18 ∧ t ≠ 19 := by
  by_cases hb : t < 122
  · exact ⟨(zaty_s1 t hb h).1, (zaty_s1 t hb h).2, zaty_s2 t hb h⟩
  · rw [zaty_big t (by omega)] at h; exact absurd h (by decide)
theorem zaty_5 (t : Nat) (h : zaty t = 5) : t = 14 := by
  by_cases hb : t < 122
  · exact (zaty_sm t hb).1 h
  · rw [zaty_big t (by omega)] at h; cases h
theorem zaty_6 (t : Nat) (h : zaty t = 6) : False := by
  by_cases hb : t < 122
  · exact (zaty_sm t hb).2.1 h
  · rw [zaty_big t (by omega)] at h; cases h
theorem zaty_7 (t : Nat) (h : zaty t = 7) : t = 16 := by
  by_cases hb : t < 122
  · exact (zaty_sm t hb).2.2.1 h
  · rw [zaty_big t (by omega)] at h; cases h
theorem zaty_8 (t : Nat) (h : zaty t = 8) : t = 18 := by
  by_cases hb : t < 122
  · exact (zaty_sm t hb).2.2.2 h
  · rw [zaty_big t (by omega)] at h; cases h
theorem zaty_cases (t : Nat) (h : zaty t ≠ 9) : zaty t ≤ 4 ∨ zaty t = 5 ∨ zaty t = 6 ∨ zaty t = 7 ∨ zaty t = 8 := by
  by_cases hb : t < 122
  · exact zaty_s3 t hb h
  · exact absurd (zaty_big t (by omega)) h
theorem zwv_list : ∀ i, i < 13 → (([0, 1, 2, 3, 4, 5, -1, -1, -1, -1, -1, -1, -1] : List Int32).getD i 0) = zwv i := by decide +kernel
theorem zu_ne {α : Type} {f : ZMp α} {t i k t' i' : Nat} {v : α} (h : (t', i') ≠ (t, i)) : zu f t i k v t' i' = f t' i' := by
  funext k'
  unfold zu
  rw [if_neg]
  rintro ⟨rfl, rfl, -⟩
  exact h rfl
theorem zu_self {α : Type} {f : ZMp α} {t i k : Nat} {v : α} : zu f t i k v t i = fun k' => if k' = k then v else f t i k' := by
  funext k'
  unfold zu
  by_cases h : k' = k
  · rw [if_pos ⟨rfl, rfl, h⟩, if_pos h]
  · rw [if_neg (fun e => h e.2.2), if_neg h]
theorem zu_k {α : Type} {f : ZMp α} {t i k k' : Nat} {v : α} (h : k' ≠ k) : zu f t i k v t i k' = f t i k' := by
  rw [zu_self]
  exact if_neg h
theorem zu_at {α : Type} {f : ZMp α} {t i k : Nat} {v : α} : zu f t i k v t i k = v := by
  rw [zu_self]
  exact if_pos rfl
/-- S' is S but in the cell (t, i) -/
def zOff (t i : Nat) (S S' : ZS) : Prop := S'.2.2.2.1 = S.2.2.2.1 ∧ ∀ t' i' : Nat, (t', i') ≠ (t, i) → S'.1 t' i' = S.1 t' i' ∧ S'.2.1 t' i' = S.2.1 t' i' ∧ S'.2.2.1 t' i' = S.2.2.1 t' i'
theorem zce_congr {φ : ZPh} {cA : Nat → ClassId} {S S' : ZS} {t i : Nat} (h : S'.1 t i = S.1 t i ∧ S'.2.1 t i = S.2.1 t i ∧ S'.2.2.1 t i = S.2.2.1 t i) : zce φ cA S' t i = zce φ cA S t i := by
  obtain ⟨h1, h2, h3⟩ := h
  have e1 : zfs φ S' t i = zfs φ S t i := by
    unfold zfs zav
    rw [h1, h2, h3]
  have e2 : zarr φ S' t i = zarr φ S t i := by
    unfold zarr
    rw [h1, h2, h3]
  unfold zce
  rw [e1, e2]
theorem zOff.I {t i k : Nat} {v : Int32} {S : ZS} : zOff t i S (zu S.1 t i k v, S.2) := ⟨rfl, fun t' i' h => ⟨zu_ne h, rfl, rfl⟩⟩
theorem zOff.L {t i k : Nat} {v : Int64} {S : ZS} : zOff t i S (S.1, zu S.2.1 t i k v, S.2.2) := ⟨rfl, fun t' i' h => ⟨rfl, zu_ne h, rfl⟩⟩
theorem zOff.D {t i k : Nat} {v : Option ZR} {S : ZS} : zOff t i S (S.1, S.2.1, zu S.2.2.1 t i k v, S.2.2.2) := ⟨rfl, fun t' i' h => ⟨rfl, rfl, zu_ne h⟩⟩
theorem zDv.D {t i k : Nat} {v : Option ZR} {S : ZS} (h : zDv S) (hv : zvo S.2.2.2.1 v) : zDv (S.1, S.2.1, zu S.2.2.1 t i k v, S.2.2.2) := by
  intro t' i' k'
  show zvo S.2.2.2.1 (zu S.2.2.1 t i k v t' i' k')
  unfold zu
  split
  · exact hv
  · exact h t' i' k'
section HEAP
variable {p : Program} {l : Launch} {e : Env} {R : Room} {s : State} {m : MethodId} {args : Array Value} {below : List Frame} {meth : Method} {c : Code} {H : Heap} {locs : List Loc} {cells slots : Nat} {Q : State → Prop}
variable {mi pc n : Nat} {cA : Nat → ClassId} {D : va_G} {A : Nat → Prop} {φ : ZPh} {L : Nat} {xs : Nat → Int32} {o : Option ZR} {ls : Array Slot} {lz : ZL} {st : List ZV} {S S' : ZS} {ins : Instr} {len t i f ty k : Nat}
theorem zHp.put {H1 : Heap} {locs1 : List Loc} (h : zHp φ cA D A s L xs o H locs S) (hO : zOff t i S S') (ht : t ≠ 16 ∧ t ≠ 18 ∧ t ≠ 19) (hd : zDv S') (hk : (zids S.2.2.2.1)[k]? = some (t, i))
    (hP : va_P D vwCl ((zw φ cA S).set k (φ t i, zce φ cA S' t i)) H1) (hD : va_D A ((zw φ cA S).set k (φ t i, zce φ cA S' t i))) (hS : va_S A s.heap H1 locs1) : zHp φ cA D A s L xs o H1 locs1 S' := by
  have e := zw_set (φ := φ) (cA := cA) hk hO.1 (fun t' i' hne => zce_congr (hO.2 t' i' hne))
  rw [e] at hP hD
  obtain ⟨-, -, -, -, hF, hA, hx, hl, hl2, hl3⟩ := h
  have e16 : ∀ j, (16, j) ≠ (t, i) := fun j hj => ht.1 (congrArg Prod.fst hj).symm
  have e19 : ∀ j, (19, j) ≠ (t, i) := fun j hj => ht.2.2 (congrArg Prod.fst hj).symm
  exact ⟨hP, hD, hS, hd, hF, hA, by rw [(hO.2 16 0 (e16 0)).1]; exact hx, by rw [(hO.2 16 1 (e16 1)).1]; exact hl, by rw [(hO.2 19 0 (e19 0)).2.2]; exact hl2, hl3⟩
/-- the link of a field -/
theorem zlink (hC : zC p s m args c mi cA D) (hk : k < 2048) (h : zfld (zoc mi) k = some (t, f, ty)) : f < zcN t ∧ t < 14 ∧ zfkd t f = ty ∧ (zcT t f).1 = zcn t ∧ zftyk ty (zcty t f) = true ∧
    ((Cond.fieldLink (zRn (zoc mi)) k (zcn t) (zcT t f).2.1 (zcT t f).2.2.1).before args s = true ∨ (Cond.fieldLinkNest (zRn (zoc mi)) k (zcn t) (zcT t f).2.1 (zcT t f).2.2.1 "TownExchange").before args s = true) := by
  obtain ⟨hx, hb, hml, hmi, hoc, hown, hts, htn, hK⟩ := hC
  have hw := zfc hoc hk h
  unfold zfcb at hw
  unfold zfld at h
  rw [h] at hw
  simp only [Bool.and_eq_true, decide_eq_true_eq, Nat.blt_eq, Nat.beq_eq] at hw
  obtain ⟨⟨⟨⟨⟨⟨h1, h2⟩, h3⟩, h4⟩, h5⟩, h6⟩, h7⟩ := hw
  refine ⟨h3, h4, h5, h6, h7, ?_⟩
  unfold zfw at h1 h2
  rw [show (zoc mi * 2048 + k) / 2048 = zoc mi by omega, show (zoc mi * 2048 + k) % 2048 = k by omega] at h1 h2
  cases hz : zfnk (zoc mi * 2048 + k) with
  | false =>
    rw [hz] at h1 h2
    exact Or.inl (hts _ (zgd_of h1 h2))
  | true =>
    rw [hz] at h1 h2
    exact Or.inr (va_Nw.use rfl (htn _ (zns_of h1 h2)))
theorem zav_ok (hv : zDv S) (hf : f < zcN t) (ht : t < 14) (hi : i < zct S.2.2.2.1 t) : zvv S.2.2.2.1 (zav S t i f) := by
  unfold zav
  split
  · exact trivial
  · rename_i h2
    obtain ⟨r, h3, h4⟩ := zfin_all t (Nat.zero_le _) ht f (Nat.zero_le _) hf _ i h2 hi
    show zvo _ _
    rw [h3]
    intro r' e
    cases e
    exact h4
  · exact hv _ _ _
  · exact trivial
  · exact trivial
  · exact trivial
set_option maxHeartbeats 1000000 in
theorem zgetf_ok (hC : zC p s m args c mi cA D) (hH : zHp φ cA D A s L xs o H locs S) (hc : zcode mi pc = some (.getfield k, len)) (hfl : zfld (zoc mi) k = some (t, f, ty)) (hi : i < zct S.2.2.2.1 t)
    (kk : zvv S.2.2.2.1 (zav S t i f) → zfkd t f = ty → W p l e R s m args below meth c H locs cells slots Q (F0 m (pc + len) ls (zv φ (zav S t i f) :: st.map (zv φ)))) :
    W p l e R s m args below meth c H locs cells slots Q (F0 m pc ls (.ref (φ t i) :: st.map (zv φ))) := by
  obtain ⟨hdg, hck⟩ := zdec hc
  simp only [zchk, Bool.and_eq_true, Nat.beq_eq, Nat.blt_eq] at hck
  obtain ⟨rfl, hk⟩ := hck
  obtain ⟨hf, ht, hty, hcl, -, hlk⟩ := zlink hC hk hfl
  obtain ⟨hx, hb, hml, hmi, hoc, hown, hts, htn, hK⟩ := hC
  obtain ⟨hP, hD, hS, hv, hF, hA, -, -⟩ := hH
  have kk := kk (zav_ok hv hf ht hi) hty
  by_cases h12 : t < 12
  · obtain ⟨k0, hk0, hw0⟩ := zw_at (φ := φ) (cA := cA) (S := S) (t := t) (i := i) (by unfold zwt; rw [Bool.or_eq_true, Bool.or_eq_true]; exact Or.inl (Or.inl (Nat.blt_eq.mpr h12))) hi
    unfold zce at hw0
    rw [if_pos h12] at hw0
    rcases hlk with hlk | hlk
    · exact va_get hx hb hts (zcl_ws t (Nat.zero_le _) h12) hown hK hP k0 hw0 (zCl_at t (Nat.zero_le _) h12) f hf hlk (fun x h => by rw [hcl] at h; exact h) (zfs_get hf) hdg kk
    · exact va_getN hx hb hts (zcl_ws t (Nat.zero_le _) h12) hown hK hP k0 hw0 (zCl_at t (Nat.zero_le _) h12) f hf hlk (fun x h => by rw [hcl] at h; exact h) (zfs_get hf) hdg kk
  · have hof : va_OF (zcn t) (zcT t f).2.1 (zcT t f).2.2.1 (zv φ (zav S t i f)) (φ t i) A s H := by
      have e12 : t = 12 ∨ t = 13 := by omega
      rcases e12 with e12 | e12
      · subst e12
        have hi13 : i < 13 := hi
        have hf2 : f < 2 := hf
        have hb1 : f = 0 ∨ f = 1 := by omega
        rcases hb1 with rfl | rfl
        · exact (hF.2.1 i hi13).kept hS.2.1
        · have h2 := ((hF.1.1 i hi13).2.2 _ List.mem_cons_self).kept hS.2.1
          have e2 : (([0, 1, 2, 3, 4, 5, -1, -1, -1, -1, -1, -1, -1] : List Int32).getD i 0) = zwv i := zwv_list i hi13
          dsimp only at h2
          rw [e2] at h2
          exact h2
      · subst e12
        have hi14 : i < 14 := hi
        have hf2 : f < 2 := hf
        have hb1 : f = 0 ∨ f = 1 := by omega
        have hs := hF.2.2.2.2.2.2.2.2.1.1 i hi14
        rcases hb1 with rfl | rfl
        · exact hs.2.2.1.kept hS.2.1
        · exact hs.2.1.kept hS.2.1
    obtain ⟨cf, kf, fi, fd, cell, h1, h2, h3, h4, h5, h6⟩ := hof
    rcases hlk with hlk | hlk
    · exact W.getf hx hb hown hlk h1 h2 h3 h4 (v := zv φ (zav S t i f)) h5 rfl rfl hdg kk
    · exact va_Wgetf hx hb hown hlk h1 h2 h3 h4 (v := zv φ (zav S t i f)) h5 rfl rfl hdg kk
set_option maxHeartbeats 1000000 in
theorem zputf_ok (hC : zC p s m args c mi cA D) (hH : zHp φ cA D A s L xs o H locs S) (hc : zcode mi pc = some (.putfield k, len)) (hfl : zfld (zoc mi) k = some (t, f, ty)) (h12 : t < 12) (hi : i < zct S.2.2.2.1 t)
    (hO : zOff t i S S') (hd : zDv S') (hg : ∀ g, g ≠ f → zav S' t i g = zav S t i g) {v : ZV} (hv : zav S' t i f = v) (hn : zfkd t f = ty → zftyk ty (zcty t f) = true → narrow (zcty t f) (zv φ v) = zv φ v ∧ fits (zcty t f) (zv φ v) = true)
    (kk : ∀ (H1 : Heap) (locs1 : List Loc), zHp φ cA D A s L xs o H1 locs1 S' → W p l e R s m args below meth c H1 locs1 cells slots Q (F0 m (pc + len) ls (st.map (zv φ)))) :
    W p l e R s m args below meth c H locs cells slots Q (F0 m pc ls (zv φ v :: .ref (φ t i) :: st.map (zv φ))) := by
  obtain ⟨hdg, hck⟩ := zdec hc
  simp only [zchk, Bool.and_eq_true, Nat.beq_eq, Nat.blt_eq] at hck
  obtain ⟨⟨rfl, hk⟩, hfin⟩ := hck
  obtain ⟨hf, ht, hty, hcl, htk, hlk⟩ := zlink hC hk hfl
  rw [hfl] at hfin
  dsimp only at hfin
  have hfin : (zcT t f).2.2.2 = false := by simpa using hfin
  obtain ⟨hn1, hn2⟩ := hn hty htk
  have hH0 := hH
  obtain ⟨hx, hb, hml, hmi, hoc, hown, hts, htn, hK⟩ := hC
  obtain ⟨hP, hD, hS, hdv, hF, hA, -, -⟩ := hH
  obtain ⟨k0, hk0, hw0⟩ := zw_at (φ := φ) (cA := cA) (S := S) (t := t) (i := i) (by unfold zwt; rw [Bool.or_eq_true, Bool.or_eq_true]; exact Or.inl (Or.inl (Nat.blt_eq.mpr h12))) hi
  have hw1 := hw0
  unfold zce at hw1
  rw [if_pos h12] at hw1
  have hce : (Sum.inr (t, (zfs φ S t i).set f (zv φ v)) : va_E) = zce φ cA S' t i := by
    unfold zce
    rw [if_pos h12, ← zfs_set (f := f) hg, hv]
  rcases hlk with hlk | hlk
  · refine va_put hx hb hts (zcl_ws t (Nat.zero_le _) h12) (zcty t) (zcl_ty t (Nat.zero_le _) h12) (zcl_nm t (Nat.zero_le _) h12) hown hK hP hD hS k0 hw1 (zCl_at t (Nat.zero_le _) h12) f hf hlk (fun x h => by rw [hcl] at h; exact h) hfin (zcl_ty t (Nat.zero_le _) h12 f hf) hn1 hn2 (by rw [zfs_len]; exact hf) hdg (fun H1 locs1 q1 q2 q3 => ?_)
    rw [hce] at q1 q2
    exact kk H1 locs1 (hH0.put hO ⟨by omega, by omega, by omega⟩ hd hk0 q1 q2 q3)
  · refine va_putN hx hb hts (zcl_ws t (Nat.zero_le _) h12) (zcty t) (zcl_ty t (Nat.zero_le _) h12) (zcl_nm t (Nat.zero_le _) h12) hown hK hP hD hS k0 hw1 (zCl_at t (Nat.zero_le _) h12) f hf hlk (fun x h => by rw [hcl] at h; exact h) hfin (zcl_ty t (Nat.zero_le _) h12 f hf) hn1 hn2 (by rw [zfs_len]; exact hf) hdg (fun H1 locs1 q1 q2 q3 => ?_)
    rw [hce] at q1 q2
    exact kk H1 locs1 (hH0.put hO ⟨by omega, by omega, by omega⟩ hd hk0 q1 q2 q3)
/-- an array of the world -/
theorem zarr_at (ht : zaty t ≤ 4) (hi : i < zct S.2.2.2.1 t) : ∃ k0 : Nat, (zids S.2.2.2.1)[k0]? = some (t, i) ∧ (zw φ cA S)[k0]? = some (φ t i, .inl (cA (zaty t), zaln t, zarr φ S t i)) ∧ (t ≠ 16 ∧ t ≠ 18 ∧ t ≠ 19) ∧ ¬ t < 12 := by
  obtain ⟨h1, h2, h3⟩ := zaty_17 t ht
  obtain ⟨k0, hk0, hw0⟩ := zw_at (φ := φ) (cA := cA) (S := S) (t := t) (i := i) h1 hi
  unfold zce at hw0
  rw [if_neg h2] at hw0
  exact ⟨k0, hk0, hw0, h3, h2⟩
theorem zin_vp {x : Int32} {n : Nat} (h : zin x n = true) : vp_in x n := by
  unfold zin at h
  unfold vp_in
  exact of_decide_eq_true h
theorem zlen_a (ht : t ≠ 16 ∧ t ≠ 18 ∧ t ≠ 19) (S : ZS) : zlen t i S = zaln t := by
  unfold zlen
  have e : Nat.beq t 16 = false := by
    cases hb : Nat.beq t 16 with
    | false => rfl
    | true => exact absurd (Nat.eq_of_beq_eq_true hb) ht.1
  have e2 : Nat.beq t 18 = false := by
    cases hb : Nat.beq t 18 with
    | false => rfl
    | true => exact absurd (Nat.eq_of_beq_eq_true hb) ht.2.1
  rw [e, e2]
  rfl
theorem zlen_16 (hH : zHp φ cA D A s L xs o H locs S) : zlen 16 i S = L := by
  obtain ⟨-, -, -, -, hF, -, -, hl, -⟩ := hH
  unfold zlen
  show (S.1 16 1 0).toNatClampNeg = L
  rw [hl]
  exact Int32.toNatClampNeg_ofNat_of_lt hF.2.2.2.2.2.2.2.1
variable {x : Int32}
set_option maxHeartbeats 1000000 in
/-- reading an array of ints, booleans or chars -/
theorem zald_ok (hC : zC p s m args c mi cA D) (hH : zHp φ cA D A s L xs o H locs S) (hin : ins = .iaload ∧ (zaty t = 0 ∨ zaty t = 7) ∨ ins = .baload ∧ zaty t = 1 ∨ ins = .caload ∧ zaty t = 2) (hc : zcode mi pc = some (ins, len)) (hi : i < zct S.2.2.2.1 t) (hx0 : zin x (zlen t i S) = true)
    (kk : W p l e R s m args below meth c H locs cells slots Q (F0 m (pc + len) ls (.int (S.1 t i (zx x)) :: st.map (zv φ)))) :
    W p l e R s m args below meth c H locs cells slots Q (F0 m pc ls (.int x :: .ref (φ t i) :: st.map (zv φ))) := by
  obtain ⟨hdg, hck⟩ := zdec hc
  have hlen := zlen_16 (i := i) hH
  have hC0 := hC
  obtain ⟨hx, hb, hml, hmi, hoc, hown, hts, htn, hK⟩ := hC
  have hH0 := hH
  obtain ⟨hP, hD, hS, hdv, hF, hA, hxs, hl⟩ := hH
  rcases hin with ⟨rfl, h | h⟩ | ⟨rfl, h⟩ | ⟨rfl, h⟩ <;> simp only [zchk, Nat.beq_eq] at hck <;> subst hck
  · obtain ⟨k0, -, hw0, h16, -⟩ := zarr_at (φ := φ) (cA := cA) (S := S) (by omega : zaty t ≤ 4) hi
    rw [zlen_a h16] at hx0
    rw [h] at hw0
    unfold zarr at hw0
    rw [h] at hw0
    exact va_iald hx hb hK hP k0 0 hw0 rfl (zin_vp hx0) hdg kk
  · have e := zaty_7 t h
    subst e
    have hi0 : i < 1 := hi
    have e0 : i = 0 := by omega
    subst e0
    rw [hlen] at hx0
    obtain ⟨cell, h1, h2, h3, h4, h5, h6, h7⟩ := hF.2.2.2.2.2.2.1.kept hS.2.1
    have hvp := zin_vp hx0
    have hlt : x.toNatClampNeg < L := Nat.not_le.mp fun q => hvp (Or.inr q)
    rw [hxs] at kk
    exact W.iald (v := .int (xs x.toNatClampNeg)) hx hb h1 h2 h3 (fun q => hvp (q.imp id (fun q => Nat.le_trans h4 q))) (h6 _ hlt) rfl rfl hdg kk
  · obtain ⟨k0, -, hw0, h16, -⟩ := zarr_at (φ := φ) (cA := cA) (S := S) (by omega : zaty t ≤ 4) hi
    rw [zlen_a h16] at hx0
    rw [h] at hw0
    unfold zarr at hw0
    rw [h] at hw0
    exact va_zald hx hb hK hP k0 1 hw0 rfl (zin_vp hx0) hdg kk
  · obtain ⟨k0, -, hw0, h16, -⟩ := zarr_at (φ := φ) (cA := cA) (S := S) (by omega : zaty t ≤ 4) hi
    rw [zlen_a h16] at hx0
    rw [h] at hw0
    unfold zarr at hw0
    rw [h] at hw0
    exact va_cald hx hb hK hP k0 2 hw0 rfl (zin_vp hx0) hdg kk
set_option maxHeartbeats 1000000 in
theorem zald8_ok (hC : zC p s m args c mi cA D) (hH : zHp φ cA D A s L xs o H locs S) (hat : zaty t = 8) (hc : zcode mi pc = some (.baload, len)) (hi : i < zct S.2.2.2.1 t) (hx0 : zin x (zlen t i S) = true)
    (kk : W p l e R s m args below meth c H locs cells slots Q (F0 m (pc + len) ls (.int (zscw i (zx x)) :: st.map (zv φ)))) :
    W p l e R s m args below meth c H locs cells slots Q (F0 m pc ls (.int x :: .ref (φ t i) :: st.map (zv φ))) := by
  obtain ⟨hdg, hck⟩ := zdec hc
  obtain ⟨hx, hb, hml, hmi, hoc, hown, hts, htn, hK⟩ := hC
  obtain ⟨hP, hD, hS, hdv, hF, hA, hxs, hl⟩ := hH
  simp only [zchk, Nat.beq_eq] at hck
  subst hck
  have e := zaty_8 t hat
  subst e
  have hi14 : i < 14 := hi
  obtain ⟨el, eb⟩ := zstr_eq i hi14
  obtain ⟨cell, h1, h2, h3, h4, h5, h6, h7⟩ := (hF.2.2.2.2.2.2.2.2.1.1 i hi14).2.2.2.kept hS.2.1
  rw [el] at h4 h6
  have hvp : vp_in x (zsl i) := zin_vp hx0
  have hlt : x.toNatClampNeg < zsl i := Nat.not_le.mp fun q => hvp (Or.inr q)
  have h8 := h6 _ hlt
  dsimp only at h8
  rw [eb _ hlt] at h8
  exact W.bald (v := .int (zscw i x.toNatClampNeg)) hx hb h1 h2 h3 (fun q => hvp (q.imp id (fun q => Nat.le_trans h4 q))) h8 rfl rfl hdg kk
set_option maxHeartbeats 1000000 in
theorem zald6_ok (hC : zC p s m args c mi cA D) (hH : zHp φ cA D A s L xs o H locs S) (hat : zaty t = 6) (hc : zcode mi pc = some (.iaload, len)) (hi : i < zct S.2.2.2.1 t) (hx0 : zin x (zlen t i S) = true)
    (kk : W p l e R s m args below meth c H locs cells slots Q (F0 m (pc + len) ls (.int (zten (zx x)) :: st.map (zv φ)))) :
    W p l e R s m args below meth c H locs cells slots Q (F0 m pc ls (.int x :: .ref (φ t i) :: st.map (zv φ))) := by
  exact (zaty_6 t hat).elim
set_option maxHeartbeats 1000000 in
theorem zaldl_ok (hC : zC p s m args c mi cA D) (hH : zHp φ cA D A s L xs o H locs S) (hat : zaty t = 3) (hc : zcode mi pc = some (.laload, len)) (hi : i < zct S.2.2.2.1 t) (hx0 : zin x (zlen t i S) = true)
    (kk : W p l e R s m args below meth c H locs cells slots Q (F0 m (pc + len) ls (.long (S.2.1 t i (zx x)) :: st.map (zv φ)))) :
    W p l e R s m args below meth c H locs cells slots Q (F0 m pc ls (.int x :: .ref (φ t i) :: st.map (zv φ))) := by
  obtain ⟨hdg, hck⟩ := zdec hc
  obtain ⟨hx, hb, hml, hmi, hoc, hown, hts, htn, hK⟩ := hC
  obtain ⟨hP, hD, hS, hdv, hF, hA, hxs, hl⟩ := hH
  simp only [zchk, Nat.beq_eq] at hck
  subst hck
  obtain ⟨k0, -, hw0, h16, -⟩ := zarr_at (φ := φ) (cA := cA) (S := S) (by omega : zaty t ≤ 4) hi
  rw [zlen_a h16] at hx0
  rw [hat] at hw0
  unfold zarr at hw0
  rw [hat] at hw0
  exact va_lald hx hb hK hP k0 3 hw0 rfl (zin_vp hx0) hdg kk
set_option maxHeartbeats 1000000 in
theorem zaldo_ok (hC : zC p s m args c mi cA D) (hH : zHp φ cA D A s L xs o H locs S) (hc : zcode mi pc = some (.aaload, len)) (hi : i < zct S.2.2.2.1 t) (hx0 : zin x (zlen t i S) = true) {o : Option ZR} (ho : zaty t = 4 ∧ o = S.2.2.1 t i (zx x) ∨ zaty t = 5 ∧ o = some (12, zx x))
    (kk : zvo S.2.2.2.1 o → W p l e R s m args below meth c H locs cells slots Q (F0 m (pc + len) ls (zv φ (.inr (.inr o)) :: st.map (zv φ)))) :
    W p l e R s m args below meth c H locs cells slots Q (F0 m pc ls (.int x :: .ref (φ t i) :: st.map (zv φ))) := by
  obtain ⟨hdg, hck⟩ := zdec hc
  obtain ⟨hx, hb, hml, hmi, hoc, hown, hts, htn, hK⟩ := hC
  obtain ⟨hP, hD, hS, hdv, hF, hA, hxs, hl⟩ := hH
  simp only [zchk, Nat.beq_eq] at hck
  subst hck
  rcases ho with ⟨hat, rfl⟩ | ⟨hat, rfl⟩
  · obtain ⟨k0, -, hw0, h16, -⟩ := zarr_at (φ := φ) (cA := cA) (S := S) (by omega : zaty t ≤ 4) hi
    rw [zlen_a h16] at hx0
    rw [hat] at hw0
    unfold zarr at hw0
    rw [hat] at hw0
    have kk := kk (hdv _ _ _)
    rw [zv_o] at kk
    exact va_aldq hx hb hK hP k0 4 hw0 rfl (zin_vp hx0) hdg kk
  · have e := zaty_5 t hat
    subst e
    have hi0 : i < 1 := hi
    have e0 : i = 0 := by omega
    subst e0
    rw [zlen_a ⟨by decide, by decide, by decide⟩] at hx0
    obtain ⟨cell, h1, h2, h3, h4, h5, h6, h7⟩ := hF.2.2.2.1.kept hS.2.1
    have hvp : vp_in x 13 := zin_vp hx0
    have hlt : x.toNatClampNeg < 13 := Nat.not_le.mp fun q => hvp (Or.inr q)
    have kk := kk (fun r hr => by cases hr; exact hlt)
    exact W.aald (v := .ref (φ 12 x.toNatClampNeg)) (ty := .object "TownExchange$Word") hx hb h1 h2 rfl h3 (fun q => hvp (q.imp id (fun q => Nat.le_trans h4 q))) (h6 _ hlt) rfl rfl hdg kk
set_option maxHeartbeats 1000000 in
theorem zalen_ok (hC : zC p s m args c mi cA D) (hH : zHp φ cA D A s L xs o H locs S) (hc : zcode mi pc = some (.arraylength, len)) (hi : i < zct S.2.2.2.1 t) (hat : zaty t ≠ 9)
    (kk : W p l e R s m args below meth c H locs cells slots Q (F0 m (pc + len) ls (.int (Int32.ofNat (zlen t i S)) :: st.map (zv φ)))) :
    W p l e R s m args below meth c H locs cells slots Q (F0 m pc ls (.ref (φ t i) :: st.map (zv φ))) := by
  obtain ⟨hdg, hck⟩ := zdec hc
  have hlen := zlen_16 (i := i) hH
  obtain ⟨hx, hb, hml, hmi, hoc, hown, hts, htn, hK⟩ := hC
  obtain ⟨hP, hD, hS, hdv, hF, hA, hxs, hl⟩ := hH
  simp only [zchk, Nat.beq_eq] at hck
  subst hck
  rcases zaty_cases t hat with h | h | h | h | h
  · obtain ⟨k0, -, hw0, h16, -⟩ := zarr_at (φ := φ) (cA := cA) (S := S) h hi
    rw [zlen_a h16] at kk
    have ht5 : ∃ ty, (zty cA)[zaty t]? = some (cA (zaty t), ty) := by
      have : zaty t = 0 ∨ zaty t = 1 ∨ zaty t = 2 ∨ zaty t = 3 ∨ zaty t = 4 := by omega
      rcases this with h | h | h | h | h <;> rw [h] <;> exact ⟨_, rfl⟩
    obtain ⟨ty, hty⟩ := ht5
    exact va_alen hx hb hK hP k0 (zaty t) hw0 hty rfl hdg kk
  · have e := zaty_5 t h
    subst e
    have hi0 : i < 1 := hi
    have e0 : i = 0 := by omega
    subst e0
    rw [zlen_a ⟨by decide, by decide, by decide⟩] at kk
    obtain ⟨cell, h1, h2, h3, h4, h5, h6, h7⟩ := hF.2.2.2.1.kept hS.2.1
    exact W.alen hx hb h1 h2 h5 rfl rfl hdg kk
  · exact (zaty_6 t h).elim
  · have e := zaty_7 t h
    subst e
    have hi0 : i < 1 := hi
    have e0 : i = 0 := by omega
    subst e0
    rw [hlen] at kk
    obtain ⟨cell, h1, h2, h3, h4, h5, h6, h7⟩ := hF.2.2.2.2.2.2.1.kept hS.2.1
    exact W.alen hx hb h1 h2 h5 rfl rfl hdg kk
  · have e := zaty_8 t h
    subst e
    have hi14 : i < 14 := hi
    obtain ⟨el, eb⟩ := zstr_eq i hi14
    obtain ⟨cell, h1, h2, h3, h4, h5, h6, h7⟩ := (hF.2.2.2.2.2.2.2.2.1.1 i hi14).2.2.2.kept hS.2.1
    rw [el] at h5
    exact W.alen hx hb h1 h2 h5 rfl rfl hdg kk
theorem zce_arr (h12 : ¬ t < 12) (φ : ZPh) (cA : Nat → ClassId) (S : ZS) : zce φ cA S t i = .inl (cA (zaty t), zaln t, zarr φ S t i) := by
  unfold zce
  rw [if_neg h12]
variable {v : Int32}
set_option maxHeartbeats 1000000 in
/-- writing an array of ints, booleans or chars -/
theorem zast_ok (hC : zC p s m args c mi cA D) (hH : zHp φ cA D A s L xs o H locs S) {w : Int32} (hin : ins = .iastore ∧ zaty t = 0 ∧ w = v ∨ ins = .bastore ∧ zaty t = 1 ∧ zbl v = true ∧ w = v ∨ ins = .castore ∧ zaty t = 2 ∧ w = (v.toUInt32 % 65536).toInt32) (hc : zcode mi pc = some (ins, len)) (hi : i < zct S.2.2.2.1 t) (hx0 : zin x (zlen t i S) = true)
    (kk : ∀ (H1 : Heap) (locs1 : List Loc), zHp φ cA D A s L xs o H1 locs1 (zu S.1 t i (zx x) w, S.2) → W p l e R s m args below meth c H1 locs1 cells slots Q (F0 m (pc + len) ls (st.map (zv φ)))) :
    W p l e R s m args below meth c H locs cells slots Q (F0 m pc ls (.int v :: .int x :: .ref (φ t i) :: st.map (zv φ))) := by
  obtain ⟨hdg, hck⟩ := zdec hc
  have hH0 := hH
  obtain ⟨hx, hb, hml, hmi, hoc, hown, hts, htn, hK⟩ := hC
  obtain ⟨hP, hD, hS, hdv, hF, hA, hxs, hl⟩ := hH
  have hat : zaty t ≤ 4 := by rcases hin with ⟨-, h, -⟩ | ⟨-, h, -⟩ | ⟨-, h, -⟩ <;> omega
  obtain ⟨k0, hk0, hw0, h16, h12⟩ := zarr_at (φ := φ) (cA := cA) (S := S) hat hi
  rw [zlen_a h16] at hx0
  have hce : zaty t = 0 ∨ zaty t = 1 ∨ zaty t = 2 → zce φ cA (zu S.1 t i (zx x) w, S.2) t i = .inl (cA (zaty t), zaln t, .inl (upd (S.1 t i) x.toNatClampNeg w)) := by
    intro h
    rw [zce_arr h12]
    unfold zarr
    rcases h with h | h | h <;> rw [h] <;> simp only [zu_self] <;> rfl
  have fin : ∀ (H1 : Heap) (locs1 : List Loc), zaty t = 0 ∨ zaty t = 1 ∨ zaty t = 2 → va_P D vwCl ((zw φ cA S).set k0 (φ t i, .inl (cA (zaty t), zaln t, .inl (upd (S.1 t i) x.toNatClampNeg w)))) H1 → va_D A ((zw φ cA S).set k0 (φ t i, .inl (cA (zaty t), zaln t, .inl (upd (S.1 t i) x.toNatClampNeg w)))) → va_S A s.heap H1 locs1 → zHp φ cA D A s L xs o H1 locs1 (zu S.1 t i (zx x) w, S.2) := by
    intro H1 locs1 h q1 q2 q3
    rw [← hce h] at q1 q2
    exact hH0.put zOff.I h16 hdv hk0 q1 q2 q3
  rcases hin with ⟨rfl, h, rfl⟩ | ⟨rfl, h, hbl, rfl⟩ | ⟨rfl, h, rfl⟩ <;> simp only [zchk, Nat.beq_eq] at hck <;> subst hck
  · have hw1 := hw0
    unfold zarr at hw1
    rw [h] at hw1 fin
    exact va_iast hx hb hK hP hD hS k0 0 hw1 rfl (zin_vp hx0) hdg (fun H1 locs1 q1 q2 q3 => kk H1 locs1 (fin H1 locs1 (Or.inl rfl) q1 q2 q3))
  · have hw1 := hw0
    unfold zarr at hw1
    rw [h] at hw1 fin
    have hnar : vp_nar .boolean w = w := by
      have hbl : w = 0 ∨ w = 1 := of_decide_eq_true hbl
      rcases hbl with rfl | rfl <;> decide
    refine va_zast hx hb hK hP hD hS k0 1 hw1 rfl (zin_vp hx0) hdg (fun H1 locs1 q1 q2 q3 => ?_)
    rw [hnar] at q1 q2
    exact kk H1 locs1 (fin H1 locs1 (Or.inr (Or.inl rfl)) q1 q2 q3)
  · have hw1 := hw0
    unfold zarr at hw1
    rw [h] at hw1 fin
    refine va_cast hx hb hK hP hD hS k0 2 hw1 rfl (zin_vp hx0) hdg (fun H1 locs1 q1 q2 q3 => ?_)
    have hnar : vp_nar .char v = (v.toUInt32 % 65536).toInt32 := rfl
    rw [hnar] at q1 q2
    exact kk H1 locs1 (fin H1 locs1 (Or.inr (Or.inr rfl)) q1 q2 q3)
set_option maxHeartbeats 1000000 in
theorem zastl_ok (hC : zC p s m args c mi cA D) (hH : zHp φ cA D A s L xs o H locs S) {w : Int64} (hat : zaty t = 3) (hc : zcode mi pc = some (.lastore, len)) (hi : i < zct S.2.2.2.1 t) (hx0 : zin x (zlen t i S) = true)
    (kk : ∀ (H1 : Heap) (locs1 : List Loc), zHp φ cA D A s L xs o H1 locs1 (S.1, zu S.2.1 t i (zx x) w, S.2.2) → W p l e R s m args below meth c H1 locs1 cells slots Q (F0 m (pc + len) ls (st.map (zv φ)))) :
    W p l e R s m args below meth c H locs cells slots Q (F0 m pc ls (.long w :: .int x :: .ref (φ t i) :: st.map (zv φ))) := by
  obtain ⟨hdg, hck⟩ := zdec hc
  have hH0 := hH
  obtain ⟨hx, hb, hml, hmi, hoc, hown, hts, htn, hK⟩ := hC
  obtain ⟨hP, hD, hS, hdv, hF, hA, hxs, hl⟩ := hH
  simp only [zchk, Nat.beq_eq] at hck
  subst hck
  obtain ⟨k0, hk0, hw0, h16, h12⟩ := zarr_at (φ := φ) (cA := cA) (S := S) (by omega : zaty t ≤ 4) hi
  rw [zlen_a h16] at hx0
  have hce : zce φ cA (S.1, zu S.2.1 t i (zx x) w, S.2.2) t i = .inl (cA 3, zaln t, .inr (.inl (vp_updL (S.2.1 t i) x.toNatClampNeg w))) := by
    rw [zce_arr h12]
    unfold zarr
    rw [hat]
    simp only [zu_self]
    rfl
  unfold zarr at hw0
  rw [hat] at hw0
  refine va_last hx hb hK hP hD hS k0 3 hw0 rfl (zin_vp hx0) hdg (fun H1 locs1 q1 q2 q3 => ?_)
  rw [← hce] at q1 q2
  exact kk H1 locs1 (hH0.put zOff.L h16 hdv hk0 q1 q2 q3)
set_option maxHeartbeats 1000000 in
/-- a line into the array of lines -/
theorem zasto_ok (hC : zC p s m args c mi cA D) (hH : zHp φ cA D A s L xs o H locs S) {j : Nat} (hat : zaty t = 4) (hc : zcode mi pc = some (.aastore, len)) (hi : i < zct S.2.2.2.1 t) (hj : j < zct S.2.2.2.1 2) (hx0 : zin x (zlen t i S) = true)
    (kk : ∀ (H1 : Heap) (locs1 : List Loc), zHp φ cA D A s L xs o H1 locs1 (S.1, S.2.1, zu S.2.2.1 t i (zx x) (some (2, j)), S.2.2.2) → W p l e R s m args below meth c H1 locs1 cells slots Q (F0 m (pc + len) ls (st.map (zv φ)))) :
    W p l e R s m args below meth c H locs cells slots Q (F0 m pc ls (.ref (φ 2 j) :: .int x :: .ref (φ t i) :: st.map (zv φ))) := by
  obtain ⟨hdg, hck⟩ := zdec hc
  have hH0 := hH
  obtain ⟨hx, hb, hml, hmi, hoc, hown, hts, htn, hK⟩ := hC
  obtain ⟨hP, hD, hS, hdv, hF, hA, hxs, hl⟩ := hH
  simp only [zchk, Nat.beq_eq] at hck
  subst hck
  obtain ⟨k0, hk0, hw0, h16, h12⟩ := zarr_at (φ := φ) (cA := cA) (S := S) (by omega : zaty t ≤ 4) hi
  obtain ⟨k2, hk2, hw2⟩ := zw_at (φ := φ) (cA := cA) (S := S) (t := 2) (i := j) rfl hj
  have hce2 : zce φ cA S 2 j = .inr (2, zfs φ S 2 j) := by
    unfold zce
    rw [if_pos (by decide)]
  rw [hce2] at hw2
  rw [zlen_a h16] at hx0
  have hce : zce φ cA (S.1, S.2.1, zu S.2.2.1 t i (zx x) (some (2, j)), S.2.2.2) t i = .inl (cA 4, zaln t, .inr (.inr (.inr (.inr (va_up (fun k => zof φ (S.2.2.1 t i k)) x.toNatClampNeg (some (φ 2 j))))))) := by
    rw [zce_arr h12]
    unfold zarr
    rw [hat]
    simp only [zu_self]
    refine congrArg (fun g => (Sum.inl (cA 4, zaln t, Sum.inr (Sum.inr (Sum.inr (Sum.inr g)))) : va_E)) (funext fun k => ?_)
    unfold va_up
    by_cases hk : k = x.toNatClampNeg
    · rw [if_pos hk, if_pos hk]; rfl
    · rw [if_neg hk, if_neg hk]
  unfold zarr at hw0
  rw [hat] at hw0
  refine va_astq hx hb hK hP hD hS k0 4 k2 2 (r := (zcn 2, zcT 2, zcN 2)) hw0 rfl hw2 (zCl_at 2 (Nat.zero_le _) (by decide)) (zin_vp hx0) hdg (fun H1 locs1 q1 q2 q3 => ?_)
  rw [← hce] at q1 q2
  exact kk H1 locs1 (hH0.put zOff.D h16 (hdv.D (fun r hr => by cases hr; exact hj)) hk0 q1 q2 q3)
end HEAP
