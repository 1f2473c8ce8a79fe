/-! DEPTH: what a machine answers, a deeper one answers too -/
def zsb {α : Type} (a b : Option α) : Prop := ∀ r, a = some r → b = some r
section SB
variable {α β : Type}
theorem zsb.rf (a : Option α) : zsb a a := fun _ h => h
theorem zsb_n (b : Option α) : zsb none b := fun _ h => by cases h
theorem zsb_zpi {st : List ZV} {k k' : Int32 → List ZV → Option α} (h : ∀ x r, zsb (k x r) (k' x r)) : zsb (zpi st k) (zpi st k') := by
  unfold zpi
  split
  · exact h _ _
  · exact zsb_n _
theorem zsb_zpl {st : List ZV} {k k' : Int64 → List ZV → Option α} (h : ∀ x r, zsb (k x r) (k' x r)) : zsb (zpl st k) (zpl st k') := by
  unfold zpl
  split
  · exact h _ _
  · exact zsb_n _
theorem zsb_zpo {st : List ZV} {k k' : Option ZR → List ZV → Option α} (h : ∀ x r, zsb (k x r) (k' x r)) : zsb (zpo st k) (zpo st k') := by
  unfold zpo
  split
  · exact h _ _
  · exact zsb_n _
theorem zsb_zpr {st : List ZV} {k k' : Nat → Nat → List ZV → Option α} (h : ∀ t i r, zsb (k t i r) (k' t i r)) : zsb (zpr st k) (zpr st k') := by
  unfold zpr
  split
  · exact h _ _ _
  · exact zsb_n _
theorem zsb_zli {n : Nat} {ls : ZL} {k k' : Int32 → Option α} (h : ∀ x, zsb (k x) (k' x)) : zsb (zli n ls k) (zli n ls k') := by
  unfold zli
  split
  · exact h _
  · exact zsb_n _
theorem zsb_zlo {n : Nat} {ls : ZL} {k k' : Option ZR → Option α} (h : ∀ x, zsb (k x) (k' x)) : zsb (zlo n ls k) (zlo n ls k') := by
  unfold zlo
  split
  · exact h _
  · exact zsb_n _
theorem zsb_zob {o : Option β} {k k' : β → Option α} (h : ∀ x, zsb (k x) (k' x)) : zsb (zob o k) (zob o k') := by
  unfold zob
  split
  · exact h _
  · exact zsb_n _
theorem zsb_zel {o : Option β} {k : β → Option α} {n n' : Option α} (h : zsb n n') : zsb (zel o k n) (zel o k n') := by
  unfold zel
  split
  · exact zsb.rf _
  · exact h
theorem zsb_bif {b : Bool} {x y x' y' : Option α} (h1 : zsb x x') (h2 : zsb y y') : zsb (bif b then x else y) (bif b then x' else y') := by
  cases b
  · exact h2
  · exact h1
theorem zsb_zif {c : Prop} {x y x' y' : Option α} (h1 : zsb x x') (h2 : zsb y y') : zsb (zif c x y) (zif c x' y') := by
  intro r h
  rcases zif_inv h with ⟨hc, h⟩ | ⟨hc, h⟩
  · rw [zif_pos hc]; exact h1 r h
  · rw [zif_neg hc]; exact h2 r h
theorem zsb_zg {b : Bool} {k k' : Option α} (h : zsb k k') : zsb (zg b k) (zg b k') := by
  unfold zg
  exact zsb_zif h (zsb.rf _)
theorem zsb_zcm {o : Option ZR} {k k' : Option α} (h : zsb k k') : zsb (zcm o k) (zcm o k') := by
  unfold zcm
  exact zsb_bif h (zsb.rf _)
theorem zsb_zder {o : Option ZR} {t : Nat} {k k' : Nat → Option α} (h : ∀ i, zsb (k i) (k' i)) : zsb (zder o t k) (zder o t k') := by
  unfold zder
  split
  · exact zsb_bif (h _) (zsb.rf _)
  · exact zsb_n _
theorem zsb_zsw {x : Int32} {k k' : Nat → Option α} (h : ∀ p, zsb (k p) (k' p)) (df : Nat) : ∀ (ts : List Nat) (lo : Int), zsb (zsw x k df ts lo) (zsw x k' df ts lo)
  | [], lo => by
    unfold zsw
    exact h _
  | t :: ts, lo => by
    unfold zsw
    first
      | exact zsb_zif (h _) (zsb_zsw h df ts _)
      | exact zsb_bif (h _) (zsb_zsw h df ts _)
theorem zsb_bind {o o' : Option β} {k k' : β → Option α} (h : zsb o o') (h2 : ∀ x, zsb (k x) (k' x)) : zsb (o.bind k) (o'.bind k') := by
  intro r hr
  cases o with
  | none => cases hr
  | some x =>
    rw [h x rfl]
    exact h2 x r hr
theorem zsb_cal {cl cl' : Nat → List ZV → ZS → Option ZX} (hcl : ∀ mj a S, zsb (cl mj a S) (cl' mj a S)) {oc n : Nat} {st : List ZV} {S : ZS} {k k' : List ZV → ZS → Option α} (hk : ∀ st S, zsb (k st S) (k' st S)) : zsb (zcal cl oc n st S k) (zcal cl' oc n st S k') := by
  unfold zcal
  refine zsb_zob fun q => zsb_zob fun w => zsb_bif ?_ (zsb.rf _)
  obtain ⟨mj, na, rk⟩ := q
  dsimp only
  rcases rk with _ | _ | _ | rk
  · exact zsb_bind (zsb_bind (hcl _ _ _) fun _ => zsb.rf _) fun _ => hk _ _
  · exact zsb_bind (zsb_bind (hcl _ _ _) fun _ => zsb.rf _) fun _ => hk _ _
  · exact zsb_bind (zsb_bind (hcl _ _ _) fun _ => zsb.rf _) fun _ => hk _ _
  · exact zsb_bind (zsb_bind (hcl _ _ _) fun _ => zsb.rf _) fun _ => hk _ _
end SB
set_option maxHeartbeats 4000000 in
theorem zgo_cl {α : Type} {cl cl' : Nat → List ZV → ZS → Option ZX} (hcl : ∀ mj a S, zsb (cl mj a S) (cl' mj a S)) (mi oc : Nat) (κ : Nat → ZL → List ZV → ZS → Option α) (ρ : Option ZV → ZS → Option α) :
    ∀ (j : Nat) (b : Bool) (pc : Nat) (ls : ZL) (st : List ZV) (S : ZS), zsb (zgo cl mi oc κ ρ j b pc ls st S) (zgo cl' mi oc κ ρ j b pc ls st S)
  | 0, _, _, _, _, _ => by
    unfold zgo
    exact zsb_n _
  | j + 1, b, pc, ls, st, S => by
    have ih := zgo_cl hcl mi oc κ ρ j
    unfold zgo
    refine zsb_zel (zsb_zob fun c => ?_)
    obtain ⟨ins, len⟩ := c
    cases ins
    case goto o => exact ih _ _ _ _ _
    case ifCond c o => cases c <;> exact zsb_zpi fun x r => zsb_zif (ih _ _ _ _ _) (ih _ _ _ _ _)
    case if_icmp c o => cases c <;> exact zsb_zpi fun y r => zsb_zpi fun x r => zsb_zif (ih _ _ _ _ _) (ih _ _ _ _ _)
    case if_acmp c o => cases c <;> exact zsb_zpo fun y r => zsb_zpo fun x r => zsb_zcm (zsb_zcm (zsb_zif (ih _ _ _ _ _) (ih _ _ _ _ _)))
    case ifnonnull o => exact zsb_zpo fun x r => zsb_zif (ih _ _ _ _ _) (ih _ _ _ _ _)
    case tableswitch df lo hi offs => exact zsb_zpi fun x r => zsb_zsw (fun p => ih _ _ _ _ _) _ _ _
    case invokevirtual n => exact zsb_cal hcl fun st S => ih _ _ _ _ _
    case invokestatic n => exact zsb_cal hcl fun st S => ih _ _ _ _ _
    case invokespecial n => exact zsb_cal hcl fun st S => ih _ _ _ _ _
    case ireturn => exact zsb.rf _
    case lreturn => exact zsb.rf _
    case areturn => exact zsb.rf _
    case return_ => exact zsb.rf _
    case new k => exact zsb_bif (zsb_zli fun x => zsb_zlo fun o => zsb_zder fun i => ih _ _ _ _ _) (zsb.rf _)
    case idiv => exact zsb_zpi fun y r => zsb_zpi fun x r => zsb_bif (zsb.rf _) (ih _ _ _ _ _)
    case irem => exact zsb_zpi fun y r => zsb_zpi fun x r => zsb_bif (zsb.rf _) (ih _ _ _ _ _)
    case getfield n =>
      refine zsb_zob fun q => zsb_zpo fun o r => zsb_zder fun i => ?_
      obtain ⟨t, f, ty⟩ := q
      rcases ty with _ | _ | _ | _ | _ | _ | ty <;> exact ih _ _ _ _ _
    case putfield n =>
      refine zsb_zob fun q => ?_
      obtain ⟨t, f, ty⟩ := q
      rcases ty with _ | _ | _ | _ | _ | ty
      · exact zsb_zpi fun x r => zsb_zpo fun o r => zsb_zder fun i => ih _ _ _ _ _
      · exact zsb_zpl fun x r => zsb_zpo fun o r => zsb_zder fun i => ih _ _ _ _ _
      · exact zsb.rf _
      · exact zsb_zpo fun x r => zsb_zpo fun o r => zsb_zder fun i => ih _ _ _ _ _
      · exact zsb_zpi fun x r => zsb_zpo fun o r => zsb_zder fun i => zsb_zg (ih _ _ _ _ _)
      · exact zsb.rf _
    case iaload => exact zsb_zpi fun x r => zsb_zpr fun t i r => zsb_bif (zsb_zg (ih _ _ _ _ _)) (zsb_bif (zsb_zg (ih _ _ _ _ _)) (zsb.rf _))
    case baload => exact zsb_zpi fun x r => zsb_zpr fun t i r => zsb_bif (zsb_zg (ih _ _ _ _ _)) (zsb_bif (zsb_zg (ih _ _ _ _ _)) (zsb.rf _))
    case caload => exact zsb_zpi fun x r => zsb_zpr fun t i r => zsb_bif (zsb_zg (ih _ _ _ _ _)) (zsb.rf _)
    case laload => exact zsb_zpi fun x r => zsb_zpr fun t i r => zsb_bif (zsb_zg (ih _ _ _ _ _)) (zsb.rf _)
    case aaload => exact zsb_zpi fun x r => zsb_zpr fun t i r => zsb_bif (zsb_zg (ih _ _ _ _ _)) (zsb_bif (zsb_zg (ih _ _ _ _ _)) (zsb.rf _))
    case iastore => exact zsb_zpi fun v r => zsb_zpi fun x r => zsb_zpr fun t i r => zsb_bif (zsb_zg (ih _ _ _ _ _)) (zsb.rf _)
    case bastore => exact zsb_zpi fun v r => zsb_zpi fun x r => zsb_zpr fun t i r => zsb_bif (zsb_zg (zsb_zg (ih _ _ _ _ _))) (zsb.rf _)
    case castore => exact zsb_zpi fun v r => zsb_zpi fun x r => zsb_zpr fun t i r => zsb_bif (zsb_zg (ih _ _ _ _ _)) (zsb.rf _)
    case lastore => exact zsb_zpl fun v r => zsb_zpi fun x r => zsb_zpr fun t i r => zsb_bif (zsb_zg (ih _ _ _ _ _)) (zsb.rf _)
    case aastore => exact zsb_zpo fun v r => zsb_zpi fun x r => zsb_zpr fun t i r => zsb_bif (zsb_zg (zsb_zder fun _ => ih _ _ _ _ _)) (zsb.rf _)
    all_goals exact zsb_zob fun q => ih _ _ _ _ _
theorem zlim_cl {β γ : Type} {P P' : β → Option (β ⊕ γ)} (h : ∀ b, zsb (P b) (P' b)) : ∀ (n : Nat) (b : β), zsb (zlim P n b) (zlim P' n b)
  | 0, _ => zsb.rf _
  | n + 1, b => by
    unfold zlim
    refine zsb_bind (h b) fun r => ?_
    cases r with
    | inl b' => exact zlim_cl h n b'
    | inr c => exact zsb.rf _
theorem zP_cl {cl cl' : Nat → List ZV → ZS → Option ZX} (hcl : ∀ mj a S, zsb (cl mj a S) (cl' mj a S)) (mi oc : Nat) (f : ZF) : zsb (zP cl mi oc f) (zP cl' mi oc f) := by
  unfold zP
  exact zgo_cl hcl mi oc _ _ _ _ _ _ _ _
theorem zrun_cl {cl cl' : Nat → List ZV → ZS → Option ZX} (hcl : ∀ mj a S, zsb (cl mj a S) (cl' mj a S)) (mi oc pc : Nat) (ls : ZL) (st : List ZV) (S : ZS) : zsb (zrun cl mi oc pc ls st S) (zrun cl' mi oc pc ls st S) := by
  intro r h
  unfold zrun at h ⊢
  obtain ⟨n, hn⟩ := (zfix_spec _ _ _).mp h
  exact (zfix_spec _ _ _).mpr ⟨n, zlim_cl (zP_cl hcl mi oc) n _ r hn⟩
theorem zprim_cl {cl cl' : Nat → List ZV → ZS → Option ZX} (hcl : ∀ mj a S, zsb (cl mj a S) (cl' mj a S)) (mj : Nat) (a : List ZV) (S : ZS) : zsb (zprim cl mj a S) (zprim cl' mj a S) := by
  unfold zprim
  refine zsb_bif (zsb.rf _) (zsb_bif (zsb.rf _) (zsb_bif (zsb.rf _) (zsb_bif (zsb.rf _) (zsb_bif ?_ (zsb.rf _)))))
  split
  · rename_i x y
    by_cases hg : 0 ≤ x ∧ x < S.1 0 0 3 ∧ 0 ≤ y ∧ y ≤ 5
    · rw [if_pos hg, if_pos hg]
      exact zsb_bind (zsb_bind (hcl _ _ _) fun _ => zsb.rf _) fun _ => zsb.rf _
    · rw [if_neg hg, if_neg hg]
      exact zsb.rf _
  · exact zsb_n _
theorem zcall_succ : ∀ (d mj : Nat) (a : List ZV) (S : ZS), zsb (zcall d mj a S) (zcall (d + 1) mj a S)
  | 0, mj, a, S => by
    rw [show zcall 0 mj a S = none by unfold zcall; rfl]
    exact zsb_n _
  | d + 1, mj, a, S => by
    have ih := zcall_succ d
    rw [zcall, zcall]
    exact zsb_bif (zprim_cl ih mj a S) (zsb_bif (zrun_cl ih _ _ _ _ _ _) (zsb.rf _))
/-- what it answers at one depth, it answers at each that is deeper -/
theorem zcall_deep {d d' : Nat} (h : d ≤ d') (mj : Nat) (a : List ZV) (S : ZS) : zsb (zcall d mj a S) (zcall d' mj a S) := by
  induction h with
  | refl => exact zsb.rf _
  | step _ ih => exact fun r hr => zcall_succ _ mj a S r (ih r hr)
theorem zrun_deep {d d' : Nat} (h : d ≤ d') (mi oc pc : Nat) (ls : ZL) (st : List ZV) (S : ZS) : zsb (zrun (zcall d) mi oc pc ls st S) (zrun (zcall d') mi oc pc ls st S) := zrun_cl (fun mj a S => zcall_deep h mj a S) mi oc pc ls st S
