/-! THE WORLD of the abstract state: its cells, their contents, what is frozen; locals and stacks -/
abbrev ZPh : Type := Nat → Nat → Nat
def zv (φ : ZPh) : ZV → Value
  | .inl x => .int x
  | .inr (.inl x) => .long x
  | .inr (.inr none) => .null
  | .inr (.inr (some r)) => .ref (φ r.1 r.2)
def zof (φ : ZPh) (o : Option ZR) : Option Nat := match o with
  | none => none
  | some r => some (φ r.1 r.2)
theorem zv_o (φ : ZPh) (o : Option ZR) : zv φ (.inr (.inr o)) = va_rf (zof φ o) := by
  cases o <;> rfl
/-- the value of a field -/
def zav (S : ZS) (t i f : Nat) : ZV := match zfkd t f with
  | 1 => .inr (.inl (S.2.1 t i f))
  | 2 => .inr (.inr (zfin t f i))
  | 3 => .inr (.inr (S.2.2.1 t i f))
  | 5 => .inl (zwv i)
  | 6 => .inl 0
  | _ => .inl (S.1 t i f)
def zfs (φ : ZPh) (S : ZS) (t i : Nat) : List Value := (List.range (zcN t)).map (fun f => zv φ (zav S t i f))
def zarr (φ : ZPh) (S : ZS) (t i : Nat) : (Nat → Int32) ⊕ (Nat → Int64) ⊕ (Nat → UInt32) ⊕ (Nat → UInt64) ⊕ (Nat → Option Nat) := match zaty t with
  | 3 => .inr (.inl (S.2.1 t i))
  | 4 => .inr (.inr (.inr (.inr (fun k => zof φ (S.2.2.1 t i k)))))
  | _ => .inl (S.1 t i)
def zce (φ : ZPh) (cA : Nat → ClassId) (S : ZS) (t i : Nat) : va_E :=
  if t < 12 then .inr (t, zfs φ S t i) else .inl (cA (zaty t), zaln t, zarr φ S t i)
def zw (φ : ZPh) (cA : Nat → ClassId) (S : ZS) : va_W := (zids S.2.2.2.1).map (fun q => (φ q.1 q.2, zce φ cA S q.1 q.2))
def zty (cA : Nat → ClassId) : List (ClassId × FieldType) := [(cA 0, .int), (cA 1, .boolean), (cA 2, .char), (cA 3, .long), (cA 4, .object "TownExchange$Line")]
def zvr (n : Nat) (r : ZR) : Prop := r.2 < zct n r.1
def zvo (n : Nat) (o : Option ZR) : Prop := ∀ r, o = some r → zvr n r
def zvv (n : Nat) (v : ZV) : Prop := match v with
  | .inr (.inr o) => zvo n o
  | _ => True
def zDv (S : ZS) : Prop := ∀ t i k, zvo S.2.2.2.1 (S.2.2.1 t i k)
theorem zlids_mem : ∀ (n i : Nat), i < n → (2, i) ∈ zlids n ∧ (29, i) ∈ zlids n ∧ (30, i) ∈ zlids n
  | 0, i, h => absurd h (Nat.not_lt_zero i)
  | n + 1, i, h => by
    unfold zlids
    simp only [List.mem_append]
    by_cases hi : i = n
    · subst hi
      exact ⟨Or.inr (by simp), Or.inr (by simp), Or.inr (by simp)⟩
    · obtain ⟨a, b, c⟩ := zlids_mem n i (by omega)
      exact ⟨Or.inl a, Or.inl b, Or.inl c⟩
theorem zlids_in : ∀ (n : Nat) (q : Nat × Nat), q ∈ zlids n → (q.1 = 2 ∨ q.1 = 29 ∨ q.1 = 30) ∧ q.2 < n
  | 0, q, h => by simp [zlids] at h
  | n + 1, q, h => by
    unfold zlids at h
    rcases List.mem_append.mp h with h | h
    · obtain ⟨a, b⟩ := zlids_in n q h
      exact ⟨a, by omega⟩
    · simp only [List.mem_cons, List.not_mem_nil, or_false] at h
      rcases h with h | h | h <;> subst h <;> simp
theorem zlids_nodup : ∀ n : Nat, (zlids n).Nodup
  | 0 => List.nodup_nil
  | n + 1 => by
    unfold zlids
    refine List.nodup_append.mpr ⟨zlids_nodup n, by simp, fun a ha b hb => ?_⟩
    obtain ⟨-, h2⟩ := zlids_in n a ha
    simp only [List.mem_cons, List.not_mem_nil, or_false] at hb
    intro e
    subst e
    rcases hb with h | h | h <;> rw [h] at h2 <;> exact absurd h2 (Nat.lt_irrefl n)
theorem zids_nodup (n : Nat) : (zids n).Nodup := by
  refine List.nodup_append.mpr ⟨zbase_nodup, zlids_nodup n, fun a ha b hb => ?_⟩
  obtain ⟨h1, -⟩ := zlids_in n b hb
  obtain ⟨-, -, h3, h4, h5⟩ := zbase_in a ha
  intro e
  subst e
  rcases h1 with h | h | h
  · exact h3 h
  · exact h4 h
  · exact h5 h
theorem zct_2 (n : Nat) : zct n 2 = n ∧ zct n 29 = n ∧ zct n 30 = n := ⟨rfl, rfl, rfl⟩
theorem zids_mem {n t i : Nat} (hw : zwt t = true) (h : i < zct n t) : (t, i) ∈ zids n := by
  by_cases hb : t < zMT
  · by_cases h2 : t = 2 ∨ t = 29 ∨ t = 30
    · refine List.mem_append_right _ ?_
      rcases h2 with rfl | rfl | rfl
      · exact (zlids_mem n i h).1
      · exact (zlids_mem n i h).2.1
      · exact (zlids_mem n i h).2.2
    · refine List.mem_append_left _ ?_
      have e : zct n t = zct 0 t := by
        rcases zct_n n t hb with e | e | e | e
        · exact absurd (Or.inl e) h2
        · exact absurd (Or.inr (Or.inl e)) h2
        · exact absurd (Or.inr (Or.inr e)) h2
        · exact e
      rw [e] at h
      rcases zbase_all t hb with e | e | e | e | e
      · exact absurd (Or.inl e) h2
      · exact absurd (Or.inr (Or.inl e)) h2
      · exact absurd (Or.inr (Or.inr e)) h2
      · rw [hw] at e; cases e
      · exact e i h
  · rw [zct_big n t (Nat.not_lt.mp hb)] at h
    exact absurd h (Nat.not_lt_zero i)
theorem zids_valid {n : Nat} {q : Nat × Nat} (h : q ∈ zids n) : zvr n q ∧ zwt q.1 = true := by
  rcases List.mem_append.mp h with h | h
  · obtain ⟨a, b, c, d, e⟩ := zbase_in q h
    refine ⟨?_, b⟩
    unfold zvr
    by_cases hb : q.1 < zMT
    · rcases zct_n n q.1 hb with e1 | e1 | e1 | e1
      · exact absurd e1 c
      · exact absurd e1 d
      · exact absurd e1 e
      · rw [e1]; exact a
    · rw [zct_big 0 q.1 (Nat.not_lt.mp hb)] at a
      exact absurd a (Nat.not_lt_zero _)
  · obtain ⟨h1, h2⟩ := zlids_in n q h
    unfold zvr
    obtain ⟨t, i⟩ := q
    rcases h1 with h1 | h1 | h1 <;> dsimp only at h1 h2 ⊢ <;> subst h1 <;> exact ⟨h2, rfl⟩
theorem zw_at {φ : ZPh} {cA : Nat → ClassId} {S : ZS} {t i : Nat} (hw : zwt t = true) (h : i < zct S.2.2.2.1 t) :
    ∃ k : Nat, (zids S.2.2.2.1)[k]? = some (t, i) ∧ (zw φ cA S)[k]? = some (φ t i, zce φ cA S t i) := by
  obtain ⟨k, hk⟩ := List.getElem?_of_mem (zids_mem hw h)
  exact ⟨k, hk, by unfold zw; rw [List.getElem?_map, hk]; rfl⟩
theorem zw_set {φ : ZPh} {cA : Nat → ClassId} {S S' : ZS} {t i k : Nat} (hk : (zids S.2.2.2.1)[k]? = some (t, i)) (hn : S'.2.2.2.1 = S.2.2.2.1)
    (hs : ∀ t' i' : Nat, (t', i') ≠ (t, i) → zce φ cA S' t' i' = zce φ cA S t' i') : (zw φ cA S).set k (φ t i, zce φ cA S' t i) = zw φ cA S' := by
  refine List.ext_getElem? fun j => ?_
  unfold zw
  rw [hn]
  have hkl := (List.getElem?_eq_some_iff.mp hk).1
  by_cases hj : j = k
  · subst hj
    rw [List.getElem?_set_self (by rw [List.length_map]; exact hkl), List.getElem?_map, hk]
    rfl
  · rw [List.getElem?_set_ne (Ne.symm hj), List.getElem?_map, List.getElem?_map]
    cases hq : (zids S.2.2.2.1)[j]? with
    | none => rfl
    | some q =>
      obtain ⟨t', i'⟩ := q
      have hne : (t', i') ≠ (t, i) := fun e => hj ((List.getElem?_inj (List.getElem?_eq_some_iff.mp hq).1 (zids_nodup _)).mp (by rw [hq, hk, e]))
      show some (φ t' i', zce φ cA S t' i') = some (φ t' i', zce φ cA S' t' i')
      rw [hs t' i' hne]
theorem zfs_get {φ : ZPh} {S : ZS} {t i f : Nat} (hf : f < zcN t) : (zfs φ S t i)[f]? = some (zv φ (zav S t i f)) := by
  unfold zfs
  rw [List.getElem?_map, List.getElem?_range hf]
  rfl
theorem zfs_len (φ : ZPh) (S : ZS) (t i : Nat) : (zfs φ S t i).length = zcN t := by
  unfold zfs
  rw [List.length_map, List.length_range]
theorem zfs_set {φ : ZPh} {S S' : ZS} {t i f : Nat} (hs : ∀ g, g ≠ f → zav S' t i g = zav S t i g) : (zfs φ S t i).set f (zv φ (zav S' t i f)) = zfs φ S' t i := by
  refine List.ext_getElem? fun j => ?_
  by_cases hj : j < zcN t
  · by_cases hjf : j = f
    · subst hjf
      rw [List.getElem?_set_self (by rw [zfs_len]; exact hj), zfs_get hj]
    · rw [List.getElem?_set_ne (Ne.symm hjf), zfs_get hj, zfs_get hj, hs j hjf]
  · rw [List.getElem?_eq_none (by rw [List.length_set, zfs_len]; omega), List.getElem?_eq_none (by rw [zfs_len]; omega)]
/-! locals -/
def zlv (φ : ZPh) : Nat → ZL → List (Nat × Value)
  | _, [] => []
  | k, none :: r => zlv φ (k + 1) r
  | k, some v :: r => (k, zv φ v) :: zlv φ (k + 1) r
theorem zlv_mem (φ : ZPh) : ∀ (l : ZL) (k : Nat) (q : Nat × Value), q ∈ zlv φ k l ↔ ∃ (j : Nat) (v : ZV), zget j l = some v ∧ q = (k + j, zv φ v)
  | [], k, q => by
    simp only [zlv, List.not_mem_nil, false_iff]
    rintro ⟨j, v, h, -⟩
    cases j <;> simp [zget] at h
  | none :: r, k, q => by
    simp only [zlv]
    rw [zlv_mem φ r (k + 1) q]
    constructor
    · rintro ⟨j, v, h, rfl⟩
      exact ⟨j + 1, v, h, by rw [Nat.add_right_comm]; rfl⟩
    · rintro ⟨j, v, h, rfl⟩
      cases j with
      | zero => simp [zget] at h
      | succ j => exact ⟨j, v, h, by rw [Nat.add_right_comm]; rfl⟩
  | some w :: r, k, q => by
    simp only [zlv, List.mem_cons]
    rw [zlv_mem φ r (k + 1) q]
    constructor
    · rintro (rfl | ⟨j, v, h, rfl⟩)
      · exact ⟨0, w, rfl, rfl⟩
      · exact ⟨j + 1, v, h, by rw [Nat.add_right_comm]; rfl⟩
    · rintro ⟨j, v, h, rfl⟩
      cases j with
      | zero =>
        simp only [zget, Option.some.injEq] at h
        subst h
        exact Or.inl rfl
      | succ j => exact Or.inr ⟨j, v, h, by rw [Nat.add_right_comm]; rfl⟩
def zLo (φ : ZPh) (n nL : Nat) (ls : Array Slot) (l : ZL) : Prop := lv_has ls nL (zlv φ 0 l) ∧ l.length = nL ∧ ∀ (j : Nat) (v : ZV), zget j l = some v → zvv n v
def zSk (n : Nat) (st : List ZV) : Prop := ∀ v ∈ st, zvv n v
theorem zLo.get {φ : ZPh} {n nL i : Nat} {ls : Array Slot} {l : ZL} {v : ZV} (h : zLo φ n nL ls l) (hv : zget i l = some v) : ls[i]? = some (.val (zv φ v)) := by
  have hm : (i, zv φ v) ∈ zlv φ 0 l := (zlv_mem φ l 0 _).mpr ⟨i, v, hv, by rw [Nat.zero_add]⟩
  exact h.1.2.2 _ hm
theorem zget_some_lt : ∀ {l : ZL} {i : Nat} {v : ZV}, zget i l = some v → i < l.length
  | [], i, v, h => by cases i <;> simp [zget] at h
  | _ :: r, 0, v, _ => Nat.zero_lt_succ _
  | _ :: r, i + 1, v, h => Nat.succ_lt_succ (zget_some_lt (l := r) h)
theorem zset_len : ∀ (i : Nat) (v : ZV) (l : ZL), (zset i v l).length = l.length
  | 0, v, [] => rfl
  | 0, v, _ :: r => rfl
  | 1, v, [] => rfl
  | 1, v, [_] => rfl
  | 1, v, _ :: _ :: r => rfl
  | i + 2, v, [] => rfl
  | i + 2, v, a :: r => by
    show (zset (i + 1) v r).length + 1 = r.length + 1
    rw [zset_len (i + 1) v r]
def zlong (v : ZV) : Bool := match v with
  | .inr (.inl _) => true
  | _ => false
theorem zset_get : ∀ (i : Nat) (v : ZV) (l : ZL) (j : Nat) (w : ZV), zget j (zset i v l) = some w → (j = i ∧ w = v) ∨ (j ≠ i ∧ zget j l = some w ∧ ¬ (j + 1 = i ∧ zlong w = true)) ∨ (l.length ≤ i ∧ zget j l = some w)
  | 0, v, [], j, w, h => Or.inr (Or.inr ⟨Nat.zero_le _, h⟩)
  | 0, v, a :: r, 0, w, h => by
    simp only [zset, zget, Option.some.injEq] at h
    exact Or.inl ⟨rfl, h.symm⟩
  | 0, v, a :: r, j + 1, w, h => Or.inr (Or.inl ⟨by omega, h, fun e => by omega⟩)
  | 1, v, [], j, w, h => Or.inr (Or.inr ⟨Nat.zero_le _, h⟩)
  | 1, v, [a], j, w, h => Or.inr (Or.inr ⟨Nat.le_refl _, h⟩)
  | 1, v, a :: b :: r, 0, w, h => by
    simp only [zset, zget] at h
    refine Or.inr (Or.inl ⟨by omega, ?_, ?_⟩)
    · unfold zunl at h
      split at h
      · cases h
      · exact h
    · rintro ⟨-, hw⟩
      unfold zunl at h
      split at h
      · cases h
      · rename_i hne
        subst h
        unfold zlong at hw
        split at hw
        · rename_i x
          exact hne x rfl
        · cases hw
  | 1, v, a :: b :: r, 1, w, h => by
    simp only [zset, zget, Option.some.injEq] at h
    exact Or.inl ⟨rfl, h.symm⟩
  | 1, v, a :: b :: r, j + 2, w, h => Or.inr (Or.inl ⟨by omega, h, fun e => by omega⟩)
  | i + 2, v, [], j, w, h => Or.inr (Or.inr ⟨Nat.zero_le _, h⟩)
  | i + 2, v, a :: r, 0, w, h => by
    by_cases hi : i + 2 = 1
    · omega
    · exact Or.inr (Or.inl ⟨by omega, h, fun e => by omega⟩)
  | i + 2, v, a :: r, j + 1, w, h => by
    rcases zset_get (i + 1) v r j w h with ⟨h1, h2⟩ | ⟨h1, h2, h3⟩ | ⟨h1, h2⟩
    · exact Or.inl ⟨by omega, h2⟩
    · exact Or.inr (Or.inl ⟨by omega, h2, fun e => h3 ⟨by omega, e.2⟩⟩)
    · exact Or.inr (Or.inr ⟨by simp only [List.length_cons]; omega, h2⟩)
theorem zv_cat (φ : ZPh) (v : ZV) : (zv φ v).category = if zlong v = true then 2 else 1 := by
  rcases v with x | x | (_ | r) <;> rfl
theorem zLo.set {φ : ZPh} {n nL i : Nat} {ls ls' : Array Slot} {l : ZL} {v : ZV} (h : zLo φ n nL ls l) (hi : i < nL) (hv : zvv n v)
    (h' : lv_has ls' nL ((i, zv φ v) :: (zlv φ 0 l).filter (fun q => !(q.1 == i) && !(q.1 + 1 == i && q.2.category == 2)))) : zLo φ n nL ls' (zset i v l) := by
  obtain ⟨h1, h2, h3⟩ := h
  refine ⟨⟨h'.1, h'.2.1, fun q hq => ?_⟩, by rw [zset_len]; exact h2, fun j w hw => ?_⟩
  · obtain ⟨j, w, hw, rfl⟩ := (zlv_mem φ _ 0 q).mp hq
    rw [Nat.zero_add]
    rcases zset_get i v l j w hw with ⟨rfl, rfl⟩ | ⟨a, b, c⟩ | ⟨a, b⟩
    · exact h'.2.2 _ List.mem_cons_self
    · refine h'.2.2 _ (List.mem_cons_of_mem _ (List.mem_filter.mpr ⟨(zlv_mem φ l 0 _).mpr ⟨j, w, b, by rw [Nat.zero_add]⟩, ?_⟩))
      rw [zv_cat]
      simp only [Bool.and_eq_true, Bool.not_eq_true', beq_eq_false_iff_ne, ne_eq, Bool.and_eq_false_iff]
      refine ⟨a, ?_⟩
      by_cases hw2 : zlong w = true
      · exact Or.inl fun e => c ⟨e, hw2⟩
      · right; rw [if_neg hw2]; decide
    · omega
  · rcases zset_get i v l j w hw with ⟨rfl, rfl⟩ | ⟨a, b, c⟩ | ⟨a, b⟩
    · exact hv
    · exact h3 j w b
    · exact h3 j w b
theorem zget_set_none : ∀ (l : ZL) (i j : Nat) (w : ZV), zget j (l.set i none) = some w → j ≠ i ∧ zget j l = some w
  | [], i, j, w, h => by cases j <;> simp [zget] at h
  | a :: r, 0, 0, w, h => by simp [zget] at h
  | a :: r, 0, j + 1, w, h => ⟨by omega, h⟩
  | a :: r, i + 1, 0, w, h => ⟨by omega, h⟩
  | a :: r, i + 1, j + 1, w, h => by
    obtain ⟨h1, h2⟩ := zget_set_none r i j w h
    exact ⟨by omega, h2⟩
theorem zLo.setl {φ : ZPh} {n nL i : Nat} {ls ls' : Array Slot} {l : ZL} {v : ZV} (h : zLo φ n nL ls l) (hi : i + 1 < nL) (hv : zvv n v)
    (h' : lv_has ls' nL ((i, zv φ v) :: (zlv φ 0 l).filter (fun q => !(q.1 == i) && (!(q.1 == i + 1) && !(q.1 + 1 == i && q.2.category == 2))))) : zLo φ n nL ls' (zsetl i v l) := by
  obtain ⟨h1, h2, h3⟩ := h
  unfold zsetl
  refine ⟨⟨h'.1, h'.2.1, fun q hq => ?_⟩, by rw [List.length_set, zset_len]; exact h2, fun j w hw => ?_⟩
  · obtain ⟨j, w, hw, rfl⟩ := (zlv_mem φ _ 0 q).mp hq
    obtain ⟨hn, hw⟩ := zget_set_none _ _ _ _ hw
    rw [Nat.zero_add]
    rcases zset_get i v l j w hw with ⟨rfl, rfl⟩ | ⟨a, b, c⟩ | ⟨a, b⟩
    · exact h'.2.2 _ List.mem_cons_self
    · refine h'.2.2 _ (List.mem_cons_of_mem _ (List.mem_filter.mpr ⟨(zlv_mem φ l 0 _).mpr ⟨j, w, b, by rw [Nat.zero_add]⟩, ?_⟩))
      rw [zv_cat]
      simp only [Bool.and_eq_true, Bool.not_eq_true', beq_eq_false_iff_ne, ne_eq, Bool.and_eq_false_iff]
      refine ⟨a, hn, ?_⟩
      by_cases hw2 : zlong w = true
      · exact Or.inl fun e => c ⟨e, hw2⟩
      · right; rw [if_neg hw2]; decide
    · omega
  · obtain ⟨hn, hw⟩ := zget_set_none _ _ _ _ hw
    rcases zset_get i v l j w hw with ⟨rfl, rfl⟩ | ⟨a, b, c⟩ | ⟨a, b⟩
    · exact hv
    · exact h3 j w b
    · exact h3 j w b
/-! what is frozen -/
/-- the texts: their lengths and bytes -/
def zsln : List Nat := (List.range 14).map zsl
def zsby : List (List Int32) := (List.range 14).map (fun i => (List.range (zsl i)).map (zscw i))
theorem zstr_eq : ∀ i, i < 14 → zsln.getD i 0 = zsl i ∧ ∀ j, j < zsl i → (zsby.getD i []).getD j 0 = zscw i j := by decide +kernel
theorem va_Zq.lt {C n d : String} {A : Nat → Prop} {U : State} {H : Heap} {B : Nat → Prop} (h : va_Zq C n d A U H) (hAB : ∀ q : Nat, q < H.size → B q → A q) : va_Zq C n d B U H := by
  have key : ∀ v : Value, va_Z C n d v A U H → va_Z C n d v B U H := by
    rintro v ⟨cf, kf, fi, f, a, cell, h1, h2, h3, h4, h5, h6, h7, h8⟩
    exact ⟨cf, kf, fi, f, a, cell, h1, h2, h3, h4, h5, h6, h7, fun z => h8 (hAB a (Array.getElem?_eq_some_iff.mp h5).1 z)⟩
  rcases h with h | ⟨t, h⟩
  · exact Or.inl (key _ h)
  · exact Or.inr ⟨t, key _ h⟩
theorem vx_L.lt {C n d : String} {A : Nat → Prop} {U : State} {H : Heap} {B : Nat → Prop} (h : vx_L C n d A U H) (hAB : ∀ q : Nat, q < H.size → B q → A q) : vx_L C n d B U H := by
  obtain ⟨c, k, i, f, a, cell, h1, h2, h3, h4, h5, h6, h7, h8, h9, h10⟩ := h
  exact ⟨c, k, i, f, a, cell, h1, h2, h3, h4, h5, h6, h7, h8, h9, fun z => h10 (hAB a (Array.getElem?_eq_some_iff.mp h5).1 z)⟩
/-- what a throw reads: two statics of Throwable -/
def zFx (A : Nat → Prop) (U : State) (H : Heap) : Prop := vx_Zq Bundle.tN "UNASSIGNED_STACK" Bundle.steD A U H ∧ vx_Zq Bundle.tN "SUPPRESSED_SENTINEL" Bundle.listD A U H
/-- what is frozen: words, texts, arrays of the class, the script (its length, its contents), two statics of the JDK -/
def zFz (φ : ZPh) (L : Nat) (xs : Nat → Int32) (o : Option ZR) (A : Nat → Prop) (U : State) (H : Heap) : Prop :=
  va_En "TownExchange$Word" "LTownExchange$Word;" zwnm [("TownExchange$Word", "value", "I", [0, 1, 2, 3, 4, 5, -1, -1, -1, -1, -1, -1, -1])] (φ 12) A U H ∧
  va_Ef 13 "TownExchange$Word" "text" "Ljava/lang/String;" (fun i => .ref (φ 13 i)) (φ 12) A U H ∧
  va_Z "TownExchange$Word" "ALL" "[LTownExchange$Word;" (.ref (φ 14 0)) A U H ∧ va_T (.object "TownExchange$Word") (φ 14 0) 13 (fun j => .ref (φ 12 j)) A U H ∧
  True ∧ True ∧
  va_T .int (φ 16 0) L (fun j => .int (xs j)) A U H ∧ L < 2 ^ 31 ∧ vk_S 14 zsln zsby (φ 13) (φ 18) A U H ∧ va_Z "java/lang/String" "COMPACT_STRINGS" "Z" (.int 1) A U H ∧
  va_Z "jdk/internal/util/Preconditions" "SIOOBE_FORMATTER" "Ljava/util/function/BiFunction;" (zv φ (.inr (.inr o))) A U H ∧ (o = none ∨ o = some (19, 0)) ∧ zFx A U H
theorem zFz.moved {φ : ZPh} {L : Nat} {xs : Nat → Int32} {o : Option ZR} {A : Nat → Prop} {u U : State} {H : Heap} (hvm : u.vm.Alike U.vm) (h : zFz φ L xs o A u H) : zFz φ L xs o A U H := by
  obtain ⟨h1, h2, h3, h4, h5, h6, h7, h8, h9, h10, h11, h12, h13⟩ := h
  exact ⟨h1.moved hvm, h2.moved hvm, h3.moved hvm, h4.moved hvm, trivial, trivial, h7.moved hvm, h8, h9.moved hvm, h10.moved hvm, h11.moved hvm, h12, h13.1.moved hvm, h13.2.moved hvm⟩
theorem zFz.kept {φ : ZPh} {L : Nat} {xs : Nat → Int32} {o : Option ZR} {A : Nat → Prop} {U : State} {H H1 : Heap} (h : zFz φ L xs o A U H) (hq : ∀ a : Nat, a < H.size → ¬ A a → H1[a]? = H[a]?) : zFz φ L xs o A U H1 := by
  obtain ⟨h1, h2, h3, h4, h5, h6, h7, h8, h9, h10, h11, h12, h13⟩ := h
  exact ⟨h1.kept hq, h2.kept hq, h3.kept hq, h4.kept hq, trivial, trivial, h7.kept hq, h8, h9.kept hq, h10.kept hq, h11.kept hq, h12, h13.1.kept hq, h13.2.kept hq⟩
theorem va_Z.lt {C n d : String} {v : Value} {A : Nat → Prop} {U : State} {H : Heap} {B : Nat → Prop} (h : va_Z C n d v A U H) (hAB : ∀ q : Nat, q < H.size → B q → A q) : va_Z C n d v B U H := by
  obtain ⟨cf, kf, fi, f, a, cell, h1, h2, h3, h4, h5, h6, h7, h8⟩ := h
  exact ⟨cf, kf, fi, f, a, cell, h1, h2, h3, h4, h5, h6, h7, fun z => h8 (hAB a (Array.getElem?_eq_some_iff.mp h5).1 z)⟩
theorem va_T.lt {ty : FieldType} {t N : Nat} {f : Nat → Value} {A B : Nat → Prop} {U : State} {H : Heap} (h : va_T ty t N f A U H) (hAB : ∀ q : Nat, q < H.size → B q → A q) : va_T ty t N f B U H := by
  obtain ⟨cell, h1, h2, h3, h4, h5, h6, h7⟩ := h
  exact ⟨cell, h1, h2, h3, h4, h5, h6, fun z => h7 (hAB t (Array.getElem?_eq_some_iff.mp h1).1 z)⟩
theorem va_OF.lt {o n d : String} {v : Value} {t : Nat} {A B : Nat → Prop} {U : State} {H : Heap} (h : va_OF o n d v t A U H) (hAB : ∀ q : Nat, q < H.size → B q → A q) : va_OF o n d v t B U H := by
  obtain ⟨cf, k, i, f, cell, h1, h2, h3, h4, h5, h6⟩ := h
  exact ⟨cf, k, i, f, cell, h1, h2, h3, h4, h5, fun z => h6 (hAB t (Array.getElem?_eq_some_iff.mp h3).1 z)⟩
theorem va_O.lt {E : String} {t : Nat} {A B : Nat → Prop} {U : State} {H : Heap} (h : va_O E t A U H) (hAB : ∀ q : Nat, q < H.size → B q → A q) : va_O E t B U H := by
  obtain ⟨cell, h1, h2, h3, h4⟩ := h
  exact ⟨cell, h1, h2, h3, fun z => h4 (hAB t (Array.getElem?_eq_some_iff.mp h1).1 z)⟩
/-- cells that are not there yet don't matter -/
theorem zFz.narrow {φ : ZPh} {L : Nat} {xs : Nat → Int32} {o : Option ZR} {A B : Nat → Prop} {U : State} {H : Heap} (h : zFz φ L xs o A U H) (hAB : ∀ q : Nat, q < H.size → B q → A q) : zFz φ L xs o B U H := by
  obtain ⟨h1, h2, h3, h4, h5, h6, h7, h8, h9, h10, h11, h12, h13⟩ := h
  exact ⟨⟨fun i hi => ⟨(h1.1 i hi).1.lt hAB, (h1.1 i hi).2.1.lt hAB, fun q h => ((h1.1 i hi).2.2 q h).lt hAB⟩, h1.2⟩, fun i hi => (h2 i hi).lt hAB, h3.lt hAB, h4.lt hAB, trivial, trivial, h7.lt hAB, h8,
    ⟨fun i hi => ⟨(h9.1 i hi).1.lt hAB, (h9.1 i hi).2.1.lt hAB, (h9.1 i hi).2.2.1.lt hAB, (h9.1 i hi).2.2.2.lt hAB⟩, h9.2⟩, h10.lt hAB, h11.lt hAB, h12, ⟨h13.1.1.lt hAB, h13.1.2.lt hAB⟩, ⟨h13.2.1.lt hAB, h13.2.2.lt hAB⟩⟩
/-- more lines, the rest the same -/
def zEx (n : Nat) (φ φ' : ZPh) : Prop := (∀ t, t ≠ 2 → t ≠ 29 → t ≠ 30 → φ' t = φ t) ∧ ∀ t i, i < zct n t → φ' t i = φ t i
theorem zEx.rf (n : Nat) (φ : ZPh) : zEx n φ φ := ⟨fun _ _ _ _ => rfl, fun _ _ _ => rfl⟩
theorem zFz.ex {n : Nat} {φ φ' : ZPh} {L : Nat} {xs : Nat → Int32} {o : Option ZR} {A : Nat → Prop} {U : State} {H : Heap} (hE : zEx n φ φ') (h : zFz φ L xs o A U H) : zFz φ' L xs o A U H := by
  obtain ⟨h1, h2, h3, h4, h5, h6, h7, h8, h9, h10, h11, h12, h13⟩ := h
  have e := hE.1
  unfold zFz
  have eo : zv φ' (.inr (.inr o)) = zv φ (.inr (.inr o)) := by
    rcases h12 with rfl | rfl
    · rfl
    · show Value.ref (φ' 19 0) = Value.ref (φ 19 0)
      rw [e 19 (by decide) (by decide) (by decide)]
  rw [eo, e 12 (by decide) (by decide) (by decide), e 13 (by decide) (by decide) (by decide), e 14 (by decide) (by decide) (by decide), e 16 (by decide) (by decide) (by decide), e 18 (by decide) (by decide) (by decide)]
  exact ⟨h1, h2, h3, h4, h5, h6, h7, h8, h9, h10, h11, h12, h13⟩
