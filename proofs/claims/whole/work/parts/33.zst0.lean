/-! THE START: the world behind the constructors is that of the first abstract state -/
def zph0 (ψ : ZPh) (a1 a2 a3 : Nat) (u v : List Nat) : ZPh := fun t i => (zH t 66 (zH t 38 (zH t 22 (zH t 8 (zH t 4 (zH t 1 (zE t 0 (u.getD 9 0) (ψ t i)) (zH t 3 (zE t 1 (u.getD 29 0) (ψ t i)) (zE t 3 (u.getD 17 0) (ψ t i)))) (zH t 6 (zH t 5 (zE t 4 (u.getD 0 0) (ψ t i)) (zE t 5 (u.getD 12 0) (ψ t i))) (zH t 7 (zE t 6 (u.getD 37 0) (ψ t i)) (zE t 7 ((zE i 0 (u.getD 39 0) (u.getD 48 0))) (ψ t i))))) (zH t 11 (zH t 9 (zE t 8 (u.getD 20 0) (ψ t i)) (zH t 10 (zE t 9 ((zE i 0 (u.getD 13 0) (u.getD 15 0))) (ψ t i)) (zE t 10 a1 (ψ t i)))) (zH t 20 (zH t 17 (zE t 11 a2 (ψ t i)) (zE t 17 a3 (ψ t i))) (zH t 21 (zE t 20 (u.getD 10 0) (ψ t i)) (zE t 21 (u.getD 11 0) (ψ t i)))))) (zH t 31 (zH t 25 (zH t 23 (zE t 22 (u.getD 30 0) (ψ t i)) (zH t 24 (zE t 23 (u.getD 31 0) (ψ t i)) (zE t 24 (u.getD 32 0) (ψ t i)))) (zH t 27 (zH t 26 (zE t 25 (u.getD 33 0) (ψ t i)) (zE t 26 (u.getD 34 0) (ψ t i))) (zH t 28 (zE t 27 (u.getD 35 0) (ψ t i)) (zE t 28 (u.getD 36 0) (ψ t i))))) (zH t 34 (zH t 32 (zE t 31 (u.getD 18 0) (ψ t i)) (zH t 33 (zE t 32 (u.getD 19 0) (ψ t i)) (zE t 33 (u.getD 1 0) (ψ t i)))) (zH t 36 (zH t 35 (zE t 34 (u.getD 2 0) (ψ t i)) (zE t 35 (u.getD 3 0) (ψ t i))) (zH t 37 (zE t 36 (u.getD 4 0) (ψ t i)) (zE t 37 (u.getD 5 0) (ψ t i))))))) (zH t 52 (zH t 45 (zH t 41 (zH t 39 (zE t 38 (u.getD 6 0) (ψ t i)) (zH t 40 (zE t 39 (u.getD 7 0) (ψ t i)) (zE t 40 (u.getD 8 0) (ψ t i)))) (zH t 43 (zH t 42 (zE t 41 (u.getD 38 0) (ψ t i)) (zE t 42 ((zE i 0 (u.getD 40 0) (u.getD 49 0))) (ψ t i))) (zH t 44 (zE t 43 ((zE i 0 (u.getD 41 0) (u.getD 50 0))) (ψ t i)) (zE t 44 ((zE i 0 (u.getD 42 0) (u.getD 51 0))) (ψ t i))))) (zH t 48 (zH t 46 (zE t 45 ((zE i 0 (u.getD 43 0) (u.getD 52 0))) (ψ t i)) (zH t 47 (zE t 46 ((zE i 0 (u.getD 44 0) (u.getD 53 0))) (ψ t i)) (zE t 47 ((zE i 0 (u.getD 45 0) (u.getD 54 0))) (ψ t i)))) (zH t 50 (zH t 49 (zE t 48 ((zE i 0 (u.getD 46 0) (u.getD 55 0))) (ψ t i)) (zE t 49 ((zE i 0 (u.getD 47 0) (u.getD 56 0))) (ψ t i))) (zH t 51 (zE t 50 (u.getD 21 0) (ψ t i)) (zE t 51 (u.getD 22 0) (ψ t i)))))) (zH t 59 (zH t 55 (zH t 53 (zE t 52 (u.getD 23 0) (ψ t i)) (zH t 54 (zE t 53 (u.getD 24 0) (ψ t i)) (zE t 54 (u.getD 25 0) (ψ t i)))) (zH t 57 (zH t 56 (zE t 55 (u.getD 26 0) (ψ t i)) (zE t 56 (u.getD 27 0) (ψ t i))) (zH t 58 (zE t 57 (u.getD 28 0) (ψ t i)) (zE t 58 ((zE i 0 (u.getD 14 0) (u.getD 16 0))) (ψ t i))))) (zH t 62 (zH t 60 (zE t 59 (v.getD 0 0) (ψ t i)) (zH t 61 (zE t 60 (v.getD 1 0) (ψ t i)) (zE t 61 (v.getD 2 0) (ψ t i)))) (zH t 64 (zH t 63 (zE t 62 (v.getD 3 0) (ψ t i)) (zE t 63 (v.getD 4 0) (ψ t i))) (zH t 65 (zE t 64 (v.getD 5 0) (ψ t i)) (zE t 65 (v.getD 6 0) (ψ t i)))))))) (zH t 94 (zH t 80 (zH t 73 (zH t 69 (zH t 67 (zE t 66 (v.getD 7 0) (ψ t i)) (zH t 68 (zE t 67 (v.getD 8 0) (ψ t i)) (zE t 68 (v.getD 9 0) (ψ t i)))) (zH t 71 (zH t 70 (zE t 69 (v.getD 10 0) (ψ t i)) (zE t 70 (v.getD 11 0) (ψ t i))) (zH t 72 (zE t 71 (v.getD 12 0) (ψ t i)) (zE t 72 (v.getD 13 0) (ψ t i))))) (zH t 76 (zH t 74 (zE t 73 (v.getD 14 0) (ψ t i)) (zH t 75 (zE t 74 (v.getD 15 0) (ψ t i)) (zE t 75 (v.getD 16 0) (ψ t i)))) (zH t 78 (zH t 77 (zE t 76 (v.getD 17 0) (ψ t i)) (zE t 77 (v.getD 18 0) (ψ t i))) (zH t 79 (zE t 78 (v.getD 19 0) (ψ t i)) (zE t 79 (v.getD 20 0) (ψ t i)))))) (zH t 87 (zH t 83 (zH t 81 (zE t 80 (v.getD 21 0) (ψ t i)) (zH t 82 (zE t 81 (v.getD 22 0) (ψ t i)) (zE t 82 (v.getD 23 0) (ψ t i)))) (zH t 85 (zH t 84 (zE t 83 (v.getD 24 0) (ψ t i)) (zE t 84 (v.getD 25 0) (ψ t i))) (zH t 86 (zE t 85 (v.getD 26 0) (ψ t i)) (zE t 86 (v.getD 27 0) (ψ t i))))) (zH t 90 (zH t 88 (zE t 87 (v.getD 28 0) (ψ t i)) (zH t 89 (zE t 88 (v.getD 29 0) (ψ t i)) (zE t 89 (v.getD 30 0) (ψ t i)))) (zH t 92 (zH t 91 (zE t 90 (v.getD 31 0) (ψ t i)) (zE t 91 (v.getD 32 0) (ψ t i))) (zH t 93 (zE t 92 (v.getD 33 0) (ψ t i)) (zE t 93 (v.getD 34 0) (ψ t i))))))) (zH t 108 (zH t 101 (zH t 97 (zH t 95 (zE t 94 (v.getD 35 0) (ψ t i)) (zH t 96 (zE t 95 (v.getD 36 0) (ψ t i)) (zE t 96 (v.getD 37 0) (ψ t i)))) (zH t 99 (zH t 98 (zE t 97 (v.getD 38 0) (ψ t i)) (zE t 98 (v.getD 39 0) (ψ t i))) (zH t 100 (zE t 99 (v.getD 40 0) (ψ t i)) (zE t 100 (v.getD 41 0) (ψ t i))))) (zH t 104 (zH t 102 (zE t 101 (v.getD 42 0) (ψ t i)) (zH t 103 (zE t 102 (v.getD 43 0) (ψ t i)) (zE t 103 (v.getD 44 0) (ψ t i)))) (zH t 106 (zH t 105 (zE t 104 (v.getD 45 0) (ψ t i)) (zE t 105 (v.getD 46 0) (ψ t i))) (zH t 107 (zE t 106 (v.getD 47 0) (ψ t i)) (zE t 107 (v.getD 48 0) (ψ t i)))))) (zH t 115 (zH t 111 (zH t 109 (zE t 108 (v.getD 49 0) (ψ t i)) (zH t 110 (zE t 109 (v.getD 50 0) (ψ t i)) (zE t 110 (v.getD 51 0) (ψ t i)))) (zH t 113 (zH t 112 (zE t 111 (v.getD 52 0) (ψ t i)) (zE t 112 (v.getD 53 0) (ψ t i))) (zH t 114 (zE t 113 (v.getD 54 0) (ψ t i)) (zE t 114 (v.getD 55 0) (ψ t i))))) (zH t 118 (zH t 116 (zE t 115 (v.getD 56 0) (ψ t i)) (zH t 117 (zE t 116 (v.getD 57 0) (ψ t i)) (zE t 117 (v.getD 58 0) (ψ t i)))) (zH t 120 (zH t 119 (zE t 118 (v.getD 59 0) (ψ t i)) (zE t 119 (v.getD 60 0) (ψ t i))) (zH t 121 (zE t 120 (v.getD 61 0) (ψ t i)) (zE t 121 (v.getD 62 0) (ψ t i)))))))))
def zS0I (L : Nat) (xs : Nat → Int32) : ZMp Int32 := fun t i => (zH t 39 (zH t 21 (zH t 16 (zE t 5 (fun k => (zE k 5 (-1 : Int32) 0)) (fun _ => 0)) (zE t 16 ((zE i 0 xs (zE i 1 (fun _ => Int32.ofNat L) (fun _ => 0)))) (fun _ => 0))) (zH t 36 (zE t 21 ((zff (fun _ => 0) 1200 (-1 : Int32))) (fun _ => 0)) (zE t 36 ((zff (fun _ => 0) 960 (-1 : Int32))) (fun _ => 0)))) (zH t 62 (zH t 40 (zE t 39 ((zff (fun _ => 0) 116 (-1 : Int32))) (fun _ => 0)) (zE t 40 ((zff (fun _ => 0) 16 (1 : Int32))) (fun _ => 0))) (zH t 63 (zE t 62 ((zff (fun _ => 0) 960 (-1 : Int32))) (fun _ => 0)) (zH t 64 (zE t 63 ((zff (fun _ => 0) 16 (1 : Int32))) (fun _ => 0)) (zE t 64 ((zff (fun _ => 0) 116 (-1 : Int32))) (fun _ => 0))))))
def zS0D (o : Option ZR) : ZMp (Option ZR) := fun t i k => if i = 0 ∧ k < 64 then (zH (t * 64 + k) 648 (zE (t * 64 + k) 647 (some (7, 0)) none) (zH (t * 64 + k) 1216 (zE (t * 64 + k) 648 (some (7, 1)) none) (zE (t * 64 + k) 1216 o none))) else none
def zS0 (L : Nat) (xs : Nat → Int32) (o : Option ZR) : ZS := (zS0I L xs, fun _ _ _ => 0, zS0D o, 0, 123, 25826)
def zw0 (cA : Nat → ClassId) (a1 a2 a3 : Nat) (u v : List Nat) : va_W := zx_X11 cA a1 u ++ (zx_X12 cA a2 v ++ [(a3, .inl (cA 3, 1, .inr (.inl (fun _ => 0))))])
def zpos0 : List Nat := [10, 30, 18, 1, 13, 38, 40, 49, 21, 14, 16, 0, 58, 122, 11, 12, 31, 32, 33, 34, 35, 36, 37, 19, 20, 2, 3, 4, 5, 6, 7, 8, 9, 39, 41, 50, 42, 51, 43, 52, 44, 53, 45, 54, 46, 55, 47, 56, 48, 57, 22, 23, 24, 25, 26, 27, 28, 29, 15, 17, 59, 60, 61, 62, 63, 64, 65, 66, 67, 68, 69, 70, 71, 72, 73, 74, 75, 76, 77, 78, 79, 80, 81, 82, 83, 84, 85, 86, 87, 88, 89, 90, 91, 92, 93, 94, 95, 96, 97, 98, 99, 100, 101, 102, 103, 104, 105, 106, 107, 108, 109, 110, 111, 112, 113, 114, 115, 116, 117, 118, 119, 120, 121]
theorem zpos0_nd : va_nd zpos0 = true := by decide +kernel
set_option maxHeartbeats 4000000 in
set_option maxRecDepth 100000 in
theorem zw0_eq (ψ : ZPh) (cA : Nat → ClassId) (a1 a2 a3 : Nat) (u v : List Nat) (L : Nat) (xs : Nat → Int32) (o : Option ZR) : zpos0.map (fun i => (zw0 cA a1 a2 a3 u v)[i]?) = (zw (zph0 ψ a1 a2 a3 u v) cA (zS0 L xs o)).map some := by
  rfl
theorem zfm_of {ws ws' : va_W} {is : List Nat} (h : is.map (fun i => ws[i]?) = ws'.map some) : is.filterMap (fun i => ws[i]?) = ws' := by
  have e : is.filterMap (fun i => ws[i]?) = (is.map (fun i => ws[i]?)).filterMap id := by rw [List.filterMap_map]; rfl
  rw [e, h, List.filterMap_map]
  exact List.filterMap_some
theorem zS0_D (L : Nat) (xs : Nat → Int32) (o : Option ZR) (ho : o = none ∨ o = some (19, 0)) : zDv (zS0 L xs o) := by
  intro t i k r hr
  have hr : zS0D o t i k = some r := hr
  unfold zS0D at hr
  split at hr
  · have key : ∀ x : Nat, ∀ r : ZR, ((zH x 648 (zE x 647 (some (7, 0)) none) (zH x 1216 (zE x 648 (some (7, 1)) none) (zE x 1216 o none)))) = some r → r = (7, 0) ∨ r = (7, 1) ∨ r = (19, 0) := by
      intro x r h
      have st : ∀ {y k : Nat} {a b : Option ZR} {G : Prop}, zH y k a b = some r → (a = some r → G) → (b = some r → G) → G := by
        intro y k a b G h h1 h2
        unfold zH at h
        cases hb : Nat.blt y k <;> rw [hb] at h
        · exact h2 h
        · exact h1 h
      have se : ∀ {y k : Nat} {a : Option ZR} {G : Prop}, zE y k a none = some r → (a = some r → G) → G := by
        intro y k a G h h1
        unfold zE at h
        cases hb : Nat.beq y k <;> rw [hb] at h
        · cases h
        · exact h1 h
      refine st h (fun h => se h fun h => ?_) fun h => st h (fun h => se h fun h => ?_) fun h => se h fun h => ?_
      · cases h; exact Or.inl rfl
      · cases h; exact Or.inr (Or.inl rfl)
      · rcases ho with rfl | rfl
        · cases h
        · cases h; exact Or.inr (Or.inr rfl)
    rcases key _ r hr with rfl | rfl | rfl
    · exact (by decide : 0 < 2)
    · exact (by decide : 1 < 2)
    · exact (by decide : 0 < 1)
  · cases hr
