/-! THE START: what is frozen, out of the Statement's premises -/
def ztmk : List Nat := [73, 79, 82, 85, 88, 91, 94, 97, 100, 103, 106, 109, 112]
def ztm (i : Nat) : Term := if i = 13 then .string "TownExchange$Tape" 51 else .string "TownExchange$Word" (ztmk.getD i 0)
def znl : List Cond := flatC (Jvm.Cond.and given_1 narrow_1)
abbrev zwst (i : Nat) : Term := .static "TownExchange$Word" (zwnm.getD i "") "LTownExchange$Word;"
abbrev zsval (i : Nat) : Term := .field (ztm i) "java/lang/String" "value" "[B"
set_option maxRecDepth 100000 in
theorem zn_ex : ∀ i, i < 13 → Cond.exactly (zwst i) "TownExchange$Word" ∈ znl := by decide +kernel
set_option maxRecDepth 100000 in
theorem zn_val : ∀ i, i < 13 → Cond.eq (.field (zwst i) "TownExchange$Word" "value" "I") (.int (([0, 1, 2, 3, 4, 5, -1, -1, -1, -1, -1, -1, -1] : List Int32).getD i 0)) ∈ znl := by decide +kernel
set_option maxRecDepth 100000 in
theorem zn_txt : ∀ i, i < 13 → Cond.eq (.field (zwst i) "TownExchange$Word" "text" "Ljava/lang/String;") (ztm i) ∈ znl := by decide +kernel
set_option maxRecDepth 100000 in
theorem zn_lay : ∀ i, i < 13 → Cond.laysStatic "TownExchange$Word" (zwnm.getD i "") "LTownExchange$Word;" ∈ lw_tbl := by decide +kernel
set_option maxRecDepth 100000 in
theorem zn_sex : ∀ i, i < 14 → Cond.exactly (ztm i) "java/lang/String" ∈ znl := by decide +kernel
set_option maxRecDepth 100000 in
theorem zn_sco : ∀ i, i < 14 → Cond.eq (.field (ztm i) "java/lang/String" "coder" "B") (.int 0) ∈ znl := by decide +kernel
set_option maxRecDepth 100000 in
theorem zn_sar : ∀ i, i < 14 → Cond.arrayOf (zsval i) .byte ∈ znl := by decide +kernel
set_option maxRecDepth 100000 in
theorem zn_sle : ∀ i, i < 14 → Cond.eq (.length (zsval i)) (.int (Int32.ofNat (zsln.getD i 0))) ∈ znl := by decide +kernel
set_option maxRecDepth 100000 in
theorem zn_sel : ∀ i, i < 14 → ∀ j, j < zsln.getD i 0 → Cond.eq (.elem (zsval i) (.int (Int32.ofNat j))) (.int ((zsby.getD i []).getD j 0)) ∈ znl := by decide +kernel
set_option maxRecDepth 100000 in
theorem zn_all : ∀ j, j < 13 → Cond.eq (.elem (.static "TownExchange$Word" "ALL" "[LTownExchange$Word;") (.int (Int32.ofNat j))) (zwst j) ∈ znl := by decide +kernel
set_option maxRecDepth 100000 in
theorem zn_more : ∀ w ∈ ([.arrayOf (.static "TownExchange$Word" "ALL" "[LTownExchange$Word;") (.object "TownExchange$Word"), .eq (.length (.static "TownExchange$Word" "ALL" "[LTownExchange$Word;")) (.int 13), .eq (.static "java/lang/String" "COMPACT_STRINGS" "Z") (.int 1), .isRef (.static "jdk/internal/util/Preconditions" "SIOOBE_FORMATTER" "Ljava/util/function/BiFunction;"), .isRef (.static Bundle.tN "UNASSIGNED_STACK" Bundle.steD), .isRef (.static Bundle.tN "SUPPRESSED_SENTINEL" Bundle.listD), .exactly (.string "TownExchange" 225) "java/lang/String"] : List Cond), w ∈ znl := by decide +kernel
set_option maxRecDepth 100000 in
theorem zxnw_in : ∀ w ∈ zxnw, w ∈ lw_tbl := by decide +kernel
set_option maxRecDepth 100000 in
theorem zn_tab : ∀ w ∈ ([.laysStatic "TownExchange$Word" "ALL" "[LTownExchange$Word;", .laysStatic "java/lang/String" "COMPACT_STRINGS" "Z", .laysStatic "jdk/internal/util/Preconditions" "SIOOBE_FORMATTER" "Ljava/util/function/BiFunction;", .initialized "TownExchange$Word", .initialized "java/lang/String", .initialized "jdk/internal/util/Preconditions", .stringRef "TownExchange$Tape" 51 "()<=+-*;", .laysStatic Bundle.tN "UNASSIGNED_STACK" Bundle.steD, .laysStatic Bundle.tN "SUPPRESSED_SENTINEL" Bundle.listD, .initialized Bundle.tN, .stringRef "TownExchange" 225 "no such line, or nothing such to look at"] : List Cond), w ∈ lw_tbl := by decide +kernel
def zpw (k : Nat) : Nat := (zH k 70 (zH k 26 (zH k 10 (zH k 5 (zH k 3 (zH k 2 (zE k 1 17 0) (zE k 2 23 0)) (zH k 4 (zE k 3 30 0) (zE k 4 38 0))) (zH k 7 (zH k 6 (zE k 5 12 0) (zE k 6 70 0)) (zH k 8 (zE k 7 80 0) (zH k 9 (zE k 8 130 0) (zE k 9 145 0))))) (zH k 20 (zH k 12 (zH k 11 (zE k 10 103 0) (zE k 11 116 0)) (zH k 18 (zE k 12 91 0) (zH k 19 (zE k 18 25 0) (zE k 19 32 0)))) (zH k 23 (zH k 22 (zE k 20 40 0) (zE k 22 72 0)) (zH k 24 (zE k 23 82 0) (zH k 25 (zE k 24 132 0) (zE k 25 147 0)))))) (zH k 43 (zH k 38 (zH k 28 (zH k 27 (zE k 26 105 0) (zE k 27 118 0)) (zH k 35 (zE k 28 93 0) (zH k 36 (zE k 35 33 0) (zE k 36 41 0)))) (zH k 40 (zH k 39 (zE k 38 73 0) (zE k 39 83 0)) (zH k 41 (zE k 40 133 0) (zH k 42 (zE k 41 148 0) (zE k 42 106 0))))) (zH k 56 (zH k 52 (zH k 44 (zE k 43 119 0) (zE k 44 94 0)) (zH k 54 (zE k 52 42 0) (zH k 55 (zE k 54 74 0) (zE k 55 84 0)))) (zH k 58 (zH k 57 (zE k 56 134 0) (zE k 57 149 0)) (zH k 59 (zE k 58 107 0) (zH k 60 (zE k 59 120 0) (zE k 60 95 0))))))) (zH k 104 (zH k 83 (zH k 74 (zH k 72 (zH k 71 (zE k 70 75 0) (zE k 71 85 0)) (zH k 73 (zE k 72 135 0) (zE k 73 150 0))) (zH k 76 (zH k 75 (zE k 74 108 0) (zE k 75 121 0)) (zH k 81 (zE k 76 96 0) (zH k 82 (zE k 81 18 0) (zE k 82 24 0))))) (zH k 89 (zH k 86 (zH k 84 (zE k 83 31 0) (zE k 84 39 0)) (zH k 87 (zE k 86 71 0) (zH k 88 (zE k 87 81 0) (zE k 88 131 0)))) (zH k 91 (zH k 90 (zE k 89 146 0) (zE k 90 104 0)) (zH k 92 (zE k 91 117 0) (zH k 103 (zE k 92 92 0) (zE k 103 86 0)))))) (zH k 137 (zH k 120 (zH k 106 (zH k 105 (zE k 104 136 0) (zE k 105 151 0)) (zH k 107 (zE k 106 109 0) (zH k 108 (zE k 107 122 0) (zE k 108 97 0)))) (zH k 122 (zH k 121 (zE k 120 137 0) (zE k 121 152 0)) (zH k 123 (zE k 122 110 0) (zH k 124 (zE k 123 123 0) (zE k 124 98 0))))) (zH k 185 (zH k 169 (zH k 168 (zE k 137 156 0) (zE k 168 139 0)) (zH k 171 (zE k 169 154 0) (zH k 184 (zE k 171 125 0) (zE k 184 140 0)))) (zH k 201 (zH k 200 (zE k 185 155 0) (zE k 200 138 0)) (zH k 202 (zE k 201 153 0) (zH k 203 (zE k 202 111 0) (zE k 203 124 0))))))))
def zps (k : Nat) : Nat := (zH k 76 (zH k 35 (zH k 12 (zH k 6 (zH k 3 (zH k 2 (zE k 1 260 0) (zE k 2 271 0)) (zH k 4 (zE k 3 286 0) (zH k 5 (zE k 4 301 0) (zE k 5 249 0)))) (zH k 9 (zH k 7 (zE k 6 315 0) (zH k 8 (zE k 7 331 0) (zE k 8 401 0))) (zH k 10 (zE k 9 422 0) (zH k 11 (zE k 10 364 0) (zE k 11 381 0))))) (zH k 23 (zH k 19 (zH k 18 (zE k 12 347 0) (zE k 18 273 0)) (zH k 20 (zE k 19 288 0) (zH k 22 (zE k 20 303 0) (zE k 22 317 0)))) (zH k 26 (zH k 24 (zE k 23 333 0) (zH k 25 (zE k 24 403 0) (zE k 25 424 0))) (zH k 27 (zE k 26 366 0) (zH k 28 (zE k 27 383 0) (zE k 28 349 0)))))) (zH k 55 (zH k 41 (zH k 38 (zH k 36 (zE k 35 289 0) (zE k 36 304 0)) (zH k 39 (zE k 38 318 0) (zH k 40 (zE k 39 334 0) (zE k 40 404 0)))) (zH k 44 (zH k 42 (zE k 41 425 0) (zH k 43 (zE k 42 367 0) (zE k 43 384 0))) (zH k 52 (zE k 44 350 0) (zH k 54 (zE k 52 305 0) (zE k 54 319 0))))) (zH k 70 (zH k 58 (zH k 56 (zE k 55 335 0) (zH k 57 (zE k 56 405 0) (zE k 57 426 0))) (zH k 59 (zE k 58 368 0) (zH k 60 (zE k 59 385 0) (zE k 60 351 0)))) (zH k 73 (zH k 71 (zE k 70 320 0) (zH k 72 (zE k 71 336 0) (zE k 72 406 0))) (zH k 74 (zE k 73 427 0) (zH k 75 (zE k 74 369 0) (zE k 75 386 0))))))) (zH k 137 (zH k 92 (zH k 86 (zH k 82 (zH k 81 (zE k 76 352 0) (zE k 81 261 0)) (zH k 83 (zE k 82 272 0) (zH k 84 (zE k 83 287 0) (zE k 84 302 0)))) (zH k 89 (zH k 87 (zE k 86 316 0) (zH k 88 (zE k 87 332 0) (zE k 88 402 0))) (zH k 90 (zE k 89 423 0) (zH k 91 (zE k 90 365 0) (zE k 91 382 0))))) (zH k 108 (zH k 105 (zH k 103 (zE k 92 348 0) (zH k 104 (zE k 103 337 0) (zE k 104 407 0))) (zH k 106 (zE k 105 428 0) (zH k 107 (zE k 106 370 0) (zE k 107 387 0)))) (zH k 122 (zH k 120 (zE k 108 353 0) (zH k 121 (zE k 120 408 0) (zE k 121 429 0))) (zH k 123 (zE k 122 371 0) (zH k 124 (zE k 123 388 0) (zE k 124 354 0)))))) (zH k 209 (zH k 185 (zH k 169 (zH k 168 (zE k 137 433 0) (zE k 168 410 0)) (zH k 171 (zE k 169 431 0) (zH k 184 (zE k 171 390 0) (zE k 184 411 0)))) (zH k 202 (zH k 200 (zE k 185 432 0) (zH k 201 (zE k 200 409 0) (zE k 201 430 0))) (zH k 203 (zE k 202 372 0) (zH k 208 (zE k 203 389 0) (zE k 208 237 0))))) (zH k 215 (zH k 212 (zH k 210 (zE k 209 258 0) (zH k 211 (zE k 210 269 0) (zE k 211 284 0))) (zH k 213 (zE k 212 299 0) (zH k 214 (zE k 213 247 0) (zE k 214 313 0)))) (zH k 218 (zH k 216 (zE k 215 329 0) (zH k 217 (zE k 216 399 0) (zE k 217 420 0))) (zH k 219 (zE k 218 362 0) (zH k 220 (zE k 219 379 0) (zE k 220 345 0))))))))
def zqw (i j : Nat) : Bool := decide (znl[zpw (i * 16 + j)]? = some (Cond.not (.eq (zwst i) (zwst j)))) || decide (znl[zpw (j * 16 + i)]? = some (Cond.not (.eq (zwst j) (zwst i))))
def zqs (i j : Nat) : Bool := decide (znl[zps (i * 16 + j)]? = some (Cond.not (.eq (ztm i) (ztm j)))) || decide (znl[zps (j * 16 + i)]? = some (Cond.not (.eq (ztm j) (ztm i))))
set_option maxRecDepth 100000 in
theorem zn_nw_0 : ∀ j, j < 13 → j ≠ 0 → zqw 0 j = true := by decide +kernel
set_option maxRecDepth 100000 in
theorem zn_nw_1 : ∀ j, j < 13 → j ≠ 1 → zqw 1 j = true := by decide +kernel
set_option maxRecDepth 100000 in
theorem zn_nw_2 : ∀ j, j < 13 → j ≠ 2 → zqw 2 j = true := by decide +kernel
set_option maxRecDepth 100000 in
theorem zn_nw_3 : ∀ j, j < 13 → j ≠ 3 → zqw 3 j = true := by decide +kernel
set_option maxRecDepth 100000 in
theorem zn_nw_4 : ∀ j, j < 13 → j ≠ 4 → zqw 4 j = true := by decide +kernel
set_option maxRecDepth 100000 in
theorem zn_nw_5 : ∀ j, j < 13 → j ≠ 5 → zqw 5 j = true := by decide +kernel
set_option maxRecDepth 100000 in
theorem zn_nw_6 : ∀ j, j < 13 → j ≠ 6 → zqw 6 j = true := by decide +kernel
set_option maxRecDepth 100000 in
theorem zn_nw_7 : ∀ j, j < 13 → j ≠ 7 → zqw 7 j = true := by decide +kernel
set_option maxRecDepth 100000 in
theorem zn_nw_8 : ∀ j, j < 13 → j ≠ 8 → zqw 8 j = true := by decide +kernel
set_option maxRecDepth 100000 in
theorem zn_nw_9 : ∀ j, j < 13 → j ≠ 9 → zqw 9 j = true := by decide +kernel
set_option maxRecDepth 100000 in
theorem zn_nw_10 : ∀ j, j < 13 → j ≠ 10 → zqw 10 j = true := by decide +kernel
set_option maxRecDepth 100000 in
theorem zn_nw_11 : ∀ j, j < 13 → j ≠ 11 → zqw 11 j = true := by decide +kernel
set_option maxRecDepth 100000 in
theorem zn_nw_12 : ∀ j, j < 13 → j ≠ 12 → zqw 12 j = true := by decide +kernel
theorem zn_nw : ∀ i, 0 ≤ i → i < 13 → ∀ j, j < 13 → j ≠ i → zqw i j = true := (zsp 6 (zsp 3 (zsp 1 (zon (a := 0) zn_nw_0) (zsp 2 (zon (a := 1) zn_nw_1) (zon (a := 2) zn_nw_2))) (zsp 4 (zon (a := 3) zn_nw_3) (zsp 5 (zon (a := 4) zn_nw_4) (zon (a := 5) zn_nw_5)))) (zsp 9 (zsp 7 (zon (a := 6) zn_nw_6) (zsp 8 (zon (a := 7) zn_nw_7) (zon (a := 8) zn_nw_8))) (zsp 11 (zsp 10 (zon (a := 9) zn_nw_9) (zon (a := 10) zn_nw_10)) (zsp 12 (zon (a := 11) zn_nw_11) (zon (a := 12) zn_nw_12)))))
set_option maxRecDepth 100000 in
theorem zn_ns_0 : ∀ j, j < 14 → j ≠ 0 → zqs 0 j = true := by decide +kernel
set_option maxRecDepth 100000 in
theorem zn_ns_1 : ∀ j, j < 14 → j ≠ 1 → zqs 1 j = true := by decide +kernel
set_option maxRecDepth 100000 in
theorem zn_ns_2 : ∀ j, j < 14 → j ≠ 2 → zqs 2 j = true := by decide +kernel
set_option maxRecDepth 100000 in
theorem zn_ns_3 : ∀ j, j < 14 → j ≠ 3 → zqs 3 j = true := by decide +kernel
set_option maxRecDepth 100000 in
theorem zn_ns_4 : ∀ j, j < 14 → j ≠ 4 → zqs 4 j = true := by decide +kernel
set_option maxRecDepth 100000 in
theorem zn_ns_5 : ∀ j, j < 14 → j ≠ 5 → zqs 5 j = true := by decide +kernel
set_option maxRecDepth 100000 in
theorem zn_ns_6 : ∀ j, j < 14 → j ≠ 6 → zqs 6 j = true := by decide +kernel
set_option maxRecDepth 100000 in
theorem zn_ns_7 : ∀ j, j < 14 → j ≠ 7 → zqs 7 j = true := by decide +kernel
set_option maxRecDepth 100000 in
theorem zn_ns_8 : ∀ j, j < 14 → j ≠ 8 → zqs 8 j = true := by decide +kernel
set_option maxRecDepth 100000 in
theorem zn_ns_9 : ∀ j, j < 14 → j ≠ 9 → zqs 9 j = true := by decide +kernel
set_option maxRecDepth 100000 in
theorem zn_ns_10 : ∀ j, j < 14 → j ≠ 10 → zqs 10 j = true := by decide +kernel
set_option maxRecDepth 100000 in
theorem zn_ns_11 : ∀ j, j < 14 → j ≠ 11 → zqs 11 j = true := by decide +kernel
set_option maxRecDepth 100000 in
theorem zn_ns_12 : ∀ j, j < 14 → j ≠ 12 → zqs 12 j = true := by decide +kernel
set_option maxRecDepth 100000 in
theorem zn_ns_13 : ∀ j, j < 14 → j ≠ 13 → zqs 13 j = true := by decide +kernel
theorem zn_ns : ∀ i, 0 ≤ i → i < 14 → ∀ j, j < 14 → j ≠ i → zqs i j = true := (zsp 7 (zsp 3 (zsp 1 (zon (a := 0) zn_ns_0) (zsp 2 (zon (a := 1) zn_ns_1) (zon (a := 2) zn_ns_2))) (zsp 5 (zsp 4 (zon (a := 3) zn_ns_3) (zon (a := 4) zn_ns_4)) (zsp 6 (zon (a := 5) zn_ns_5) (zon (a := 6) zn_ns_6)))) (zsp 10 (zsp 8 (zon (a := 7) zn_ns_7) (zsp 9 (zon (a := 8) zn_ns_8) (zon (a := 9) zn_ns_9))) (zsp 12 (zsp 11 (zon (a := 10) zn_ns_10) (zon (a := 11) zn_ns_11)) (zsp 13 (zon (a := 12) zn_ns_12) (zon (a := 13) zn_ns_13)))))
theorem zn_ne : ∀ i, i < 13 → ∀ j, j < 13 → i ≠ j → Cond.not (.eq (zwst i) (zwst j)) ∈ znl ∨ Cond.not (.eq (zwst j) (zwst i)) ∈ znl := by
  intro i hi j hj hij
  have h := zn_nw i (Nat.zero_le _) hi j hj (Ne.symm hij)
  unfold zqw at h
  rw [Bool.or_eq_true] at h
  exact h.imp (fun h => List.mem_of_getElem? (of_decide_eq_true h)) (fun h => List.mem_of_getElem? (of_decide_eq_true h))
theorem zn_sne : ∀ i, i < 14 → ∀ j, j < 14 → i ≠ j → Cond.not (.eq (ztm i) (ztm j)) ∈ znl ∨ Cond.not (.eq (ztm j) (ztm i)) ∈ znl := by
  intro i hi j hj hij
  have h := zn_ns i (Nat.zero_le _) hi j hj (Ne.symm hij)
  unfold zqs at h
  rw [Bool.or_eq_true] at h
  exact h.imp (fun h => List.mem_of_getElem? (of_decide_eq_true h)) (fun h => List.mem_of_getElem? (of_decide_eq_true h))
theorem zsln_lt : ∀ i, i < 14 → zsln.getD i 0 < 2 ^ 31 := by decide +kernel
set_option maxHeartbeats 4000000 in
theorem zfrz {s : State} {b L : Nat} {xs : Nat → Int32} (hts : ∀ w ∈ lw_tbl, w.before #[Value.ref b] s = true) (hgv : (Jvm.Cond.and given_1 narrow_1).before #[Value.ref b] s = true) (hX : va_X b L xs s s.heap) (hL : L ≤ 3584) :
    ∃ (ψ : ZPh) (o : Option ZR), ψ 16 0 = b ∧ zFz ψ L xs o (fun q => s.heap.size ≤ q) s s.heap ∧ zKR ψ s := by
  have hn : ∀ w ∈ znl, w.before #[Value.ref b] s = true := flat_of_before _ hgv
  have hA : ∀ a : Nat, a < s.heap.size → ¬ s.heap.size ≤ a := fun a h => Nat.not_le.mpr h
  obtain ⟨ad, hEn, hev⟩ := va_Enof2 (args := #[Value.ref b]) (s := s) (E := "TownExchange$Word") (d := "LTownExchange$Word;") (nm := zwnm) (F := [("TownExchange$Word", "value", "I", [0, 1, 2, 3, 4, 5, -1, -1, -1, -1, -1, -1, -1])]) (A := fun q => s.heap.size ≤ q)
    (fun i hi => hts _ (zn_lay i hi)) (hts _ (zn_tab _ (List.mem_of_getElem? (i := 3) rfl))) (fun i hi => hn _ (zn_ex i hi)) (fun q hq i hi => by rw [List.mem_singleton.mp hq]; exact hn _ (zn_val i hi))
    (fun i j hi hj hij => (zn_ne i hi j hj hij).imp (hn _) (hn _)) hA
  obtain ⟨adK, adV, hS, hsev⟩ := vk_Sof (args := #[Value.ref b]) (s := s) (N := 14) (tm := ztm) (len := zsln) (byt := zsby) (A := fun q => s.heap.size ≤ q) zsln_lt (fun i hi => hn _ (zn_sex i hi)) (fun i hi => hn _ (zn_sco i hi)) (fun i hi => hn _ (zn_sar i hi)) (fun i hi => hn _ (zn_sle i hi))
    (fun i hi j hj => hn _ (zn_sel i hi j hj)) (fun i j hi hj hij => (zn_sne i hi j hj hij).imp (hn _) (hn _)) hA
  have hEf := va_Efof (args := #[Value.ref b]) (s := s) (N := 13) (E := "TownExchange$Word") (d0 := "LTownExchange$Word;") (o := "TownExchange$Word") (n := "text") (d := "Ljava/lang/String;") (nm := zwnm) (v := fun i => .ref (adK i)) (tm := ztm) (ad := ad) (A := fun q => s.heap.size ≤ q) (fun i hi => hev i hi) (fun i hi => hn _ (zn_txt i hi)) (fun i hi => hsev i (by omega)) hA
  obtain ⟨aALL, eALL, hALL⟩ := va_Tof (args := #[Value.ref b]) (s := s) (tm := .static "TownExchange$Word" "ALL" "[LTownExchange$Word;") (ty := .object "TownExchange$Word") (N := 13) (f := fun j => .ref (ad j)) (A := fun q => s.heap.size ≤ q) (by decide) (hn _ (zn_more _ (List.mem_of_getElem? (i := 0) rfl))) (va_eqt (hn _ (zn_more _ (List.mem_of_getElem? (i := 1) rfl)))) (fun j hj => va_eqv (hn _ (zn_all j hj)) (hev j hj)) hA
  have zALL := va_Zof (hts _ (zn_tab _ (List.mem_of_getElem? (i := 0) rfl))) (hts _ (zn_tab _ (List.mem_of_getElem? (i := 3) rfl))) eALL hA
  have zCOM := va_Zof (hts _ (zn_tab _ (List.mem_of_getElem? (i := 1) rfl))) (hts _ (zn_tab _ (List.mem_of_getElem? (i := 4) rfl))) (va_eqi (hn _ (zn_more _ (List.mem_of_getElem? (i := 2) rfl)))) hA
  have zSIO := va_Zqof (hts _ (zn_tab _ (List.mem_of_getElem? (i := 2) rfl))) (hts _ (zn_tab _ (List.mem_of_getElem? (i := 5) rfl))) (hn _ (zn_more _ (List.mem_of_getElem? (i := 3) rfl))) hA
  have hKR : vk_R "TownExchange$Tape" 51 "()<=+-*;" (adK 13) s := vk_R.of (hts _ (zn_tab _ (List.mem_of_getElem? (i := 6) rfl))) (hsev 13 (by decide))
  have hKN : ∀ w ∈ zxnw, va_Nw w s := by
    intro w hw
    have h9 := hts w (zxnw_in w hw)
    simp only [zxnw, List.mem_cons, List.not_mem_nil, or_false] at hw
    rcases hw with rfl | rfl | rfl | rfl <;> exact va_Nw.of rfl h9
  have hKX : ∃ sa : Nat, vk_R "TownExchange" 225 "no such line, or nothing such to look at" sa s := by
    obtain ⟨a, c, cA, kA, q1, -⟩ := Cond.exactly_spec (args := #[Value.ref b]) (first := s) (o := none) (s := s) (idx := []) (t := .string "TownExchange" 225) (cls := "java/lang/String") (hn _ (zn_more _ (List.mem_of_getElem? (i := 6) rfl)))
    exact ⟨a, vk_R.of (hts _ (zn_tab _ (List.mem_of_getElem? (i := 10) rfl))) q1⟩
  have zXX : zFx (fun q => s.heap.size ≤ q) s s.heap := ⟨vx_Zqof (hts _ (zn_tab _ (List.mem_of_getElem? (i := 7) rfl))) (hts _ (zn_tab _ (List.mem_of_getElem? (i := 9) rfl))) (hn _ (zn_more _ (List.mem_of_getElem? (i := 4) rfl))) hA, vx_Zqof (hts _ (zn_tab _ (List.mem_of_getElem? (i := 8) rfl))) (hts _ (zn_tab _ (List.mem_of_getElem? (i := 9) rfl))) (hn _ (zn_more _ (List.mem_of_getElem? (i := 5) rfl))) hA⟩
  obtain ⟨scr, x1, x2, x3, x4, x5⟩ := hX
  have hbl : b < s.heap.size := (Array.getElem?_eq_some_iff.mp x1).1
  have hscr : va_T .int b L (fun j => .int (xs j)) (fun q => s.heap.size ≤ q) s s.heap := ⟨scr, x1, x2, x3, by rw [x4]; exact Nat.le_refl _, by rw [x4], x5, hA b hbl⟩
  have hL31 : L < 2 ^ 31 := Nat.lt_of_le_of_lt hL (by decide)
  rcases zSIO with zSIO | ⟨aS, zSIO⟩
  · exact ⟨fun t => if t = 12 then ad else if t = 13 then adK else if t = 18 then adV else if t = 14 then fun _ => aALL else fun _ => b, none, rfl, ⟨hEn, hEf, zALL, hALL, trivial, trivial, hscr, hL31, hS, zCOM, zSIO, Or.inl rfl, zXX⟩, hKR, hKX, hKN⟩
  · exact ⟨fun t => if t = 12 then ad else if t = 13 then adK else if t = 18 then adV else if t = 14 then fun _ => aALL else if t = 19 then fun _ => aS else fun _ => b, some (19, 0), rfl, ⟨hEn, hEf, zALL, hALL, trivial, trivial, hscr, hL31, hS, zCOM, zSIO, Or.inr rfl, zXX⟩, hKR, hKX, hKN⟩
