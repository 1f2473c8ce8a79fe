/-! WHAT IS OWED still: string constants, statics, a new line, the JDK's methods and the law's look -/
section REST
variable {p : Program} {l : Launch} {e : Env} {R : Room} {s : State} {m : MethodId} {args : Array Value} {below : List Frame} {meth : Method} {c : Code} {H : Heap} {locs : List Loc} {cells slots : Nat} {Q : State → Prop}
variable {mi pc n : Nat} {cA : Nat → ClassId} {D : va_G} {A : Nat → Prop} {φ : ZPh} {L : Nat} {xs : Nat → Int32} {ls : Array Slot} {lz : ZL} {st : List ZV} {S S' : ZS} {ins : Instr} {len : Nat}
theorem zldcs_ok {k i : Nat} (hC : zC p s m args c mi cA D) (hH : zHp φ cA D A s L xs H locs S) (hc : zcode mi pc = some (.ldc k, len)) (hz : zldc (zoc mi) k = some (.inr i))
    (kk : i < 14 → W p l e R s m args below meth c H locs cells slots Q (F0 m (pc + len) ls (.ref (φ 13 i) :: st.map (zv φ)))) :
    W p l e R s m args below meth c H locs cells slots Q (F0 m pc ls (st.map (zv φ))) := by
  sorry
theorem zgets_ok {k : Nat} {q : Nat × Nat} (hC : zC p s m args c mi cA D) (hH : zHp φ cA D A s L xs H locs S) (hc : zcode mi pc = some (.getstatic k, len)) (hz : zsta (zoc mi) k = some q)
    (kk : q.2 < zct S.2.2.2.1 q.1 → W p l e R s m args below meth c H locs cells slots Q (F0 m (pc + len) ls (.ref (φ q.1 q.2) :: st.map (zv φ)))) :
    W p l e R s m args below meth c H locs cells slots Q (F0 m pc ls (st.map (zv φ))) := by
  sorry
theorem znew_ok {d c0 s0 k i0 : Nat} {home : Int32} (hC : zC p s m args c mi cA D) (hH : zHp φ cA D A s L xs H locs S) (hRf : d + 9 ≤ R.frames) (hRl : 40 * (d + 1) + 400 ≤ R.locals) (hc : zcode mi pc = some (.new k, len)) (hat : znewat mi pc = true)
    (hL : zLo φ S.2.2.2.1 (zmx mi) ls lz) (h1 : zget 1 lz = some (.inl home)) (h0 : zget 0 lz = some (.inr (.inr (some (0, i0))))) (hSk : zSk S.2.2.2.1 st) (h4 : st.length ≤ 4) (hc0 : c0 ≤ zkc S) (hs0 : s0 ≤ zks S) (hB : zkc S + 3 ≤ c0 + R.cells ∧ zks S + 114 ≤ s0 + R.slots)
    (kk : ∀ (φ' : ZPh) (H1 : Heap) (locs1 : List Loc), zEx S.2.2.2.1 φ φ' → zHp φ' cA D A s L xs H1 locs1 (zline S.1 S.2.2.2.1 (S.1 0 i0 3) home, S.2.1, S.2.2.1, S.2.2.2.1 + 1, S.2.2.2.2.1 + 3, S.2.2.2.2.2 + 114) → W p l e R s m args below meth c H1 locs1 (zkc S + 3 - c0) (zks S + 114 - s0) Q (F0 m (pc + 12) ls (.ref (φ' 2 S.2.2.2.1) :: st.map (zv φ')))) :
    W p l e R s m args below meth c H locs (zkc S - c0) (zks S - s0) Q (F0 m pc ls (st.map (zv φ))) := by
  sorry
theorem zprm_ok {d c0 s0 k : Nat} {cl : Nat → List ZV → ZS → Option ZX} (hC : zC p s m args c mi cA D) (hH : zHp φ cA D A s L xs H locs S) (hMt : zMt l d cl) (hRf : d + 10 ≤ R.frames) (hRl : 40 * (d + 2) + 400 ≤ R.locals)
    (hc : zcode mi pc = some (ins, len)) (hin : ins = .invokevirtual k ∨ ins = .invokestatic k) {q : Nat × Nat × Nat} (hq : zmth (zoc mi) k = some q) (hge : 1000 ≤ q.1) {w : List ZV × List ZV} (hw : zpop q.2.1 [] st = some w) (hw4 : w.2.length ≤ 4) {v : Option ZV} (hcl : zprim cl q.1 w.1 S = some (v, S'))
    (hSk : zSk S.2.2.2.1 st) (hle : zle S S') (h0 : c0 ≤ zkc S) (h1 : s0 ≤ zks S) (hB : zkc S' ≤ c0 + R.cells ∧ zks S' ≤ s0 + R.slots) (hls : ls.size = zmx mi)
    (kk : ∀ (φ' : ZPh) (H1 : Heap) (locs1 : List Loc), zEx S.2.2.2.1 φ φ' → zHp φ' cA D A s L xs H1 locs1 S' → (∀ w, v = some w → zvv S'.2.2.2.1 w) → W p l e R s m args below meth c H1 locs1 (zkc S' - c0) (zks S' - s0) Q (F0 m (pc + len) ls ((v.toList ++ w.2).map (zv φ')))) :
    W p l e R s m args below meth c H locs (zkc S - c0) (zks S - s0) Q (F0 m pc ls (st.map (zv φ))) := by
  sorry
end REST
