/-! THE BRIDGE: the loop's answer by the equations is the loop's end in the machine -/
theorem zhrun {d : Nat} {L : Nat} {xs : Nat → Int32} {o : Option ZR} {S' : ZS} (h : zY_law_23 d 0 (zS0 L xs o) = some (1, S')) : ∃ n, zlim (zP (zcall d) 225 13) n (23, zl0, [], zS0 L xs o) = some (some (zi 1), S') := by
  have h : (zrun (zcall d) 225 13 23 zl0 [] (zS0 L xs o)).bind zoi = some (1, S') := h
  obtain ⟨x, h1, h2⟩ := zbind_inv h
  obtain ⟨v, S1⟩ := x
  have e : v = some (zi 1) ∧ S1 = S' := by
    rcases v with _ | (y | y | y)
    · cases h2
    · cases h2; exact ⟨rfl, rfl⟩
    · cases h2
    · cases h2
  obtain ⟨e1, e2⟩ := e
  subst e1
  subst e2
  exact zrun_lim h1
/-- the law, if its loop answers 1 by the equations, within the bounds -/
theorem zlaw_of (hall : ∀ (L : Nat) (xs : Nat → Int32) (o : Option ZR), L ≤ 3584 → o = none ∨ o = some (19, 0) → ∃ (d : Nat) (S' : ZS), d ≤ 1000 ∧ zY_law_23 d 0 (zS0 L xs o) = some (1, S') ∧ zkc S' ≤ 601024 ∧ zks S' ≤ 7293034)
    {p : Program} {e : Env} {s : State} {m : MethodId} {below : List Frame} {meth : Method} {c : Code} (l : Launch) (hflags : l.flags = flags0) {b L : Nat} {xs : Nat → Int32} (hL : L ≤ 3584) (C0 : lw_At p s m meth c b L xs) :
    W p l e room_1 s m #[Value.ref b] below meth c s.heap [] 0 0 (lw_Z below #[Value.ref b] s) (entryFrame m ([Value.ref b] : List Value).toArray 7) :=
  zwhole l hflags hL C0 fun o ho => by
    obtain ⟨d, S', hd, hy, h1, h2⟩ := hall L xs o hL ho
    obtain ⟨n, hn⟩ := zhrun hy
    exact ⟨d, n, S', hd, hn, h1, h2⟩
