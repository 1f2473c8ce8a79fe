/-! THE LAW'S LOOP: its turns -/
def zHy (L : Nat) (i : Int) (W : Nat → Nat → Int32) : Prop := (W 1 0).toNatClampNeg = L ∧ 0 ≤ i ∧ i + 7 ≤ L ∧ L ≤ 3584
def zNx (d : Nat) (W : Nat → Nat → Int32) (i : Int) (T : Nat) (o : Option (Int32 × ZS)) : Prop := ∃ S' x' K', o = zY_law_23 (d + 60) (zI i + (7 : Int32)) S' ∧ zR K' x' x' S' ∧ zInv W x' K' (T + 1)
theorem zNx_if {d : Nat} {W : Nat → Nat → Int32} {i : Int} {T : Nat} {c : Prop} {a b : Option (Int32 × ZS)} (h : c → zNx d W i T a) (h' : ¬ c → zNx d W i T b) : zNx d W i T (zif c a b) := by
  by_cases q : c
  · rw [zif_pos q]
    exact h q
  · rw [zif_neg q]
    exact h' q
theorem q_lo (v : Int32) : -2147483648 ≤ v.toInt := Int32.le_toInt v
theorem q_hi (v : Int32) : v.toInt < 2147483648 := Int32.toInt_lt v
theorem q_Gj {L : Nat} {i : Int} {W : Nat → Nat → Int32} (hy : zHy L i W) {j : Int} (hj : 0 ≤ j ∧ j ≤ 6) : zin (zI i + zI j) (W 1 0).toNatClampNeg = true := by
  obtain ⟨h1, h2, h3, h4⟩ := hy
  rw [h1, zI_add, zI_in (by omega) (by omega)]
  omega
section TU
variable {L : Nat} {W : Nat → Nat → Int32} {x : ZW} {K S : ZS} {T : Nat} {i : Int}
theorem zt_0 (hy : zHy L i W) (hR : zR K x x S) (hI : zInv W x K T) (d : Nat) : zNx d W i T (zg (zin (zI i + (1 : Int32)) (S.1 16 1 0).toNatClampNeg) ( (zX_seconds (d + 60) (S.1 16 0 (zx (zI i + (1 : Int32)))) S).bind (fun r1 => zg (zin (zI i + (1 : Int32)) (r1.2.1 16 1 0).toNatClampNeg) ( (zM_seconds (d + 60) (r1.2.1 16 0 (zx (zI i + (1 : Int32)))) r1.2).bind (fun r2 => zif (r1.1 = r2.1) ( zY_law_23 (d + 60) (zI i + (7 : Int32)) r2.2) ( some ((0 : Int32), r2.2))))))) := by
  have hS := zSW hR hI.2.2.2.2.2.1
  have gd := hI.1.1
  have gb := hI.1.2
  have g1 : zin (zI i + (1 : Int32)) (W 1 0).toNatClampNeg = true := q_Gj hy (j := 1) (by omega)
  rw [hS, zg_t g1]
  obtain ⟨r1, e1, v1, R1⟩ := zX_seconds_s hR gd.1 (d + 59) (a := (W 0 (zx (zI i + (1 : Int32)))).toInt) (q_lo _) (q_hi _)
  simp only [zI_ti] at e1
  have e1 : zX_seconds (d + 60) (W 0 (zx (zI i + (1 : Int32)))) S = some r1 := e1
  have I1 := zInv_seconds hI (W 0 (zx (zI i + (1 : Int32)))).toInt
  have hS1 := zSW R1 I1.2.2.2.2.2.1
  rw [e1, zBs, hS1, zg_t g1]
  obtain ⟨r2, e2, v2, R2⟩ := zM_seconds_s R1 gd.1 (d + 58) (a := (W 0 (zx (zI i + (1 : Int32)))).toInt) (q_lo _) (q_hi _)
  simp only [zI_ti] at e2
  have e2 : zM_seconds (d + 60) (W 0 (zx (zI i + (1 : Int32)))) r1.2 = some r2 := e2
  rw [e2, zBs, zif_pos (v1.trans v2.symm)]
  exact ⟨r2.2, _, _, rfl, R2, I1⟩
theorem zt_1 (hy : zHy L i W) (hR : zR K x x S) (hI : zInv W x K T) (d : Nat) : zNx d W i T (zg (zin (zI i + (1 : Int32)) (S.1 16 1 0).toNatClampNeg) ( zg (zin (zI i + (2 : Int32)) (S.1 16 1 0).toNatClampNeg) ( zg (zin (zI i + (3 : Int32)) (S.1 16 1 0).toNatClampNeg) ( (zX_rack (d + 60) (S.1 16 0 (zx (zI i + (1 : Int32)))) (S.1 16 0 (zx (zI i + (2 : Int32)))) (S.1 16 0 (zx (zI i + (3 : Int32)))) S).bind (fun r3 => zg (zin (zI i + (1 : Int32)) (r3.2.1 16 1 0).toNatClampNeg) ( zg (zin (zI i + (2 : Int32)) (r3.2.1 16 1 0).toNatClampNeg) ( zg (zin (zI i + (3 : Int32)) (r3.2.1 16 1 0).toNatClampNeg) ( (zM_rack (d + 60) (r3.2.1 16 0 (zx (zI i + (1 : Int32)))) (r3.2.1 16 0 (zx (zI i + (2 : Int32)))) (r3.2.1 16 0 (zx (zI i + (3 : Int32)))) r3.2).bind (fun r4 => zif (r3.1 = r4.1) ( zY_law_23 (d + 60) (zI i + (7 : Int32)) r4.2) ( some ((0 : Int32), r4.2))))))))))) := by
  have hS := zSW hR hI.2.2.2.2.2.1
  have gd := hI.1.1
  have gb := hI.1.2
  have g1 : zin (zI i + (1 : Int32)) (W 1 0).toNatClampNeg = true := q_Gj hy (j := 1) (by omega)
  have g2 : zin (zI i + (2 : Int32)) (W 1 0).toNatClampNeg = true := q_Gj hy (j := 2) (by omega)
  have g3 : zin (zI i + (3 : Int32)) (W 1 0).toNatClampNeg = true := q_Gj hy (j := 3) (by omega)
  rw [hS, zg_t g1, zg_t g2, zg_t g3]
  obtain ⟨r1, e1, v1, R1⟩ := zX_rack_s hR gd.1 (d + 58) (a := (W 0 (zx (zI i + (1 : Int32)))).toInt) (b := (W 0 (zx (zI i + (2 : Int32)))).toInt) (c := (W 0 (zx (zI i + (3 : Int32)))).toInt) (q_lo _) (q_hi _) (q_lo _) (q_hi _) (q_lo _) (q_hi _)
  simp only [zI_ti] at e1
  have e1 : zX_rack (d + 60) (W 0 (zx (zI i + (1 : Int32)))) (W 0 (zx (zI i + (2 : Int32)))) (W 0 (zx (zI i + (3 : Int32)))) S = some r1 := e1
  have I1 := zInv_rack hI (W 0 (zx (zI i + (1 : Int32)))).toInt (W 0 (zx (zI i + (2 : Int32)))).toInt (W 0 (zx (zI i + (3 : Int32)))).toInt
  have hS1 := zSW R1 I1.2.2.2.2.2.1
  rw [e1, zBs, hS1, zg_t g1, zg_t g2, zg_t g3]
  obtain ⟨r2, e2, v2, R2⟩ := zM_rack_s R1 gd.1 (d + 58) (a := (W 0 (zx (zI i + (1 : Int32)))).toInt) (b := (W 0 (zx (zI i + (2 : Int32)))).toInt) (c := (W 0 (zx (zI i + (3 : Int32)))).toInt) (q_lo _) (q_hi _) (q_lo _) (q_hi _) (q_lo _) (q_hi _)
  simp only [zI_ti] at e2
  have e2 : zM_rack (d + 60) (W 0 (zx (zI i + (1 : Int32)))) (W 0 (zx (zI i + (2 : Int32)))) (W 0 (zx (zI i + (3 : Int32)))) r1.2 = some r2 := e2
  rw [e2, zBs, zif_pos (v1.trans v2.symm)]
  exact ⟨r2.2, _, _, rfl, R2, I1⟩
theorem zt_2 (hy : zHy L i W) (hR : zR K x x S) (hI : zInv W x K T) (d : Nat) : zNx d W i T (zg (zin (zI i + (1 : Int32)) (S.1 16 1 0).toNatClampNeg) ( zg (zin (zI i + (2 : Int32)) (S.1 16 1 0).toNatClampNeg) ( zg (zin (zI i + (3 : Int32)) (S.1 16 1 0).toNatClampNeg) ( zg (zin (zI i + (4 : Int32)) (S.1 16 1 0).toNatClampNeg) ( zg (zin (zI i + (5 : Int32)) (S.1 16 1 0).toNatClampNeg) ( (zX_outlet (d + 60) (S.1 16 0 (zx (zI i + (1 : Int32)))) (S.1 16 0 (zx (zI i + (2 : Int32)))) (S.1 16 0 (zx (zI i + (3 : Int32)))) (S.1 16 0 (zx (zI i + (4 : Int32)))) (S.1 16 0 (zx (zI i + (5 : Int32)))) S).bind (fun r5 => zg (zin (zI i + (1 : Int32)) (r5.2.1 16 1 0).toNatClampNeg) ( zg (zin (zI i + (2 : Int32)) (r5.2.1 16 1 0).toNatClampNeg) ( zg (zin (zI i + (3 : Int32)) (r5.2.1 16 1 0).toNatClampNeg) ( zg (zin (zI i + (4 : Int32)) (r5.2.1 16 1 0).toNatClampNeg) ( zg (zin (zI i + (5 : Int32)) (r5.2.1 16 1 0).toNatClampNeg) ( (zM_outlet (d + 60) (r5.2.1 16 0 (zx (zI i + (1 : Int32)))) (r5.2.1 16 0 (zx (zI i + (2 : Int32)))) (r5.2.1 16 0 (zx (zI i + (3 : Int32)))) (r5.2.1 16 0 (zx (zI i + (4 : Int32)))) (r5.2.1 16 0 (zx (zI i + (5 : Int32)))) r5.2).bind (fun r6 => zif (r5.1 = r6.1) ( zY_law_23 (d + 60) (zI i + (7 : Int32)) r6.2) ( some ((0 : Int32), r6.2))))))))))))))) := by
  have hS := zSW hR hI.2.2.2.2.2.1
  have gd := hI.1.1
  have gb := hI.1.2
  have g1 : zin (zI i + (1 : Int32)) (W 1 0).toNatClampNeg = true := q_Gj hy (j := 1) (by omega)
  have g2 : zin (zI i + (2 : Int32)) (W 1 0).toNatClampNeg = true := q_Gj hy (j := 2) (by omega)
  have g3 : zin (zI i + (3 : Int32)) (W 1 0).toNatClampNeg = true := q_Gj hy (j := 3) (by omega)
  have g4 : zin (zI i + (4 : Int32)) (W 1 0).toNatClampNeg = true := q_Gj hy (j := 4) (by omega)
  have g5 : zin (zI i + (5 : Int32)) (W 1 0).toNatClampNeg = true := q_Gj hy (j := 5) (by omega)
  rw [hS, zg_t g1, zg_t g2, zg_t g3, zg_t g4, zg_t g5]
  obtain ⟨r1, e1, v1, R1⟩ := zX_outlet_s hR gd.1 (d + 56) (r := (W 0 (zx (zI i + (1 : Int32)))).toInt) (s := (W 0 (zx (zI i + (2 : Int32)))).toInt) (l := (W 0 (zx (zI i + (3 : Int32)))).toInt) (p := (W 0 (zx (zI i + (4 : Int32)))).toInt) (e := (W 0 (zx (zI i + (5 : Int32)))).toInt) (q_lo _) (q_hi _) (q_lo _) (q_hi _) (q_lo _) (q_hi _) (q_lo _) (q_hi _) (q_lo _) (q_hi _)
  simp only [zI_ti] at e1
  have e1 : zX_outlet (d + 60) (W 0 (zx (zI i + (1 : Int32)))) (W 0 (zx (zI i + (2 : Int32)))) (W 0 (zx (zI i + (3 : Int32)))) (W 0 (zx (zI i + (4 : Int32)))) (W 0 (zx (zI i + (5 : Int32)))) S = some r1 := e1
  have I1 := zInv_outlet hI (W 0 (zx (zI i + (1 : Int32)))).toInt (W 0 (zx (zI i + (2 : Int32)))).toInt (W 0 (zx (zI i + (3 : Int32)))).toInt (W 0 (zx (zI i + (4 : Int32)))).toInt (W 0 (zx (zI i + (5 : Int32)))).toInt
  have hS1 := zSW R1 I1.2.2.2.2.2.1
  rw [e1, zBs, hS1, zg_t g1, zg_t g2, zg_t g3, zg_t g4, zg_t g5]
  obtain ⟨r2, e2, v2, R2⟩ := zM_outlet_s R1 gd.1 (d + 56) (r := (W 0 (zx (zI i + (1 : Int32)))).toInt) (s := (W 0 (zx (zI i + (2 : Int32)))).toInt) (l := (W 0 (zx (zI i + (3 : Int32)))).toInt) (p := (W 0 (zx (zI i + (4 : Int32)))).toInt) (e := (W 0 (zx (zI i + (5 : Int32)))).toInt) (q_lo _) (q_hi _) (q_lo _) (q_hi _) (q_lo _) (q_hi _) (q_lo _) (q_hi _) (q_lo _) (q_hi _)
  simp only [zI_ti] at e2
  have e2 : zM_outlet (d + 60) (W 0 (zx (zI i + (1 : Int32)))) (W 0 (zx (zI i + (2 : Int32)))) (W 0 (zx (zI i + (3 : Int32)))) (W 0 (zx (zI i + (4 : Int32)))) (W 0 (zx (zI i + (5 : Int32)))) r1.2 = some r2 := e2
  rw [e2, zBs, zif_pos (v1.trans v2.symm)]
  exact ⟨r2.2, _, _, rfl, R2, I1⟩
theorem zt_3 (hy : zHy L i W) (hR : zR K x x S) (hI : zInv W x K T) (d : Nat) : zNx d W i T (zg (zin (zI i + (1 : Int32)) (S.1 16 1 0).toNatClampNeg) ( zg (zin (zI i + (2 : Int32)) (S.1 16 1 0).toNatClampNeg) ( (zX_zone (d + 60) (S.1 16 0 (zx (zI i + (1 : Int32)))) (S.1 16 0 (zx (zI i + (2 : Int32)))) S).bind (fun r7 => zg (zin (zI i + (1 : Int32)) (r7.2.1 16 1 0).toNatClampNeg) ( zg (zin (zI i + (2 : Int32)) (r7.2.1 16 1 0).toNatClampNeg) ( (zM_zone (d + 60) (r7.2.1 16 0 (zx (zI i + (1 : Int32)))) (r7.2.1 16 0 (zx (zI i + (2 : Int32)))) r7.2).bind (fun r8 => zif (r7.1 = r8.1) ( zY_law_23 (d + 60) (zI i + (7 : Int32)) r8.2) ( some ((0 : Int32), r8.2))))))))) := by
  have hS := zSW hR hI.2.2.2.2.2.1
  have gd := hI.1.1
  have gb := hI.1.2
  have g1 : zin (zI i + (1 : Int32)) (W 1 0).toNatClampNeg = true := q_Gj hy (j := 1) (by omega)
  have g2 : zin (zI i + (2 : Int32)) (W 1 0).toNatClampNeg = true := q_Gj hy (j := 2) (by omega)
  rw [hS, zg_t g1, zg_t g2]
  obtain ⟨r1, e1, v1, R1⟩ := zX_zone_s hR (d + 58) (a := (W 0 (zx (zI i + (1 : Int32)))).toInt) (b := (W 0 (zx (zI i + (2 : Int32)))).toInt) (q_lo _) (q_hi _) (q_lo _) (q_hi _)
  simp only [zI_ti] at e1
  have e1 : zX_zone (d + 60) (W 0 (zx (zI i + (1 : Int32)))) (W 0 (zx (zI i + (2 : Int32)))) S = some r1 := e1
  have I1 := zInv_zone hI (W 0 (zx (zI i + (1 : Int32)))).toInt (W 0 (zx (zI i + (2 : Int32)))).toInt
  have hS1 := zSW R1 I1.2.2.2.2.2.1
  rw [e1, zBs, hS1, zg_t g1, zg_t g2]
  obtain ⟨r2, e2, v2, R2⟩ := zM_zone_s R1 (d + 58) (a := (W 0 (zx (zI i + (1 : Int32)))).toInt) (b := (W 0 (zx (zI i + (2 : Int32)))).toInt) (q_lo _) (q_hi _) (q_lo _) (q_hi _)
  simp only [zI_ti] at e2
  have e2 : zM_zone (d + 60) (W 0 (zx (zI i + (1 : Int32)))) (W 0 (zx (zI i + (2 : Int32)))) r1.2 = some r2 := e2
  rw [e2, zBs, zif_pos (v1.trans v2.symm)]
  exact ⟨r2.2, _, _, rfl, R2, I1⟩
theorem zt_4 (hy : zHy L i W) (hR : zR K x x S) (hI : zInv W x K T) (d : Nat) : zNx d W i T (zg (zin (zI i + (1 : Int32)) (S.1 16 1 0).toNatClampNeg) ( zg (zin (zI i + (2 : Int32)) (S.1 16 1 0).toNatClampNeg) ( zg (zin (zI i + (3 : Int32)) (S.1 16 1 0).toNatClampNeg) ( (zX_line (d + 60) (S.1 16 0 (zx (zI i + (1 : Int32)))) (S.1 16 0 (zx (zI i + (2 : Int32)))) (S.1 16 0 (zx (zI i + (3 : Int32)))) S).bind (fun r9 => zg (zin (zI i + (1 : Int32)) (r9.2.1 16 1 0).toNatClampNeg) ( zg (zin (zI i + (2 : Int32)) (r9.2.1 16 1 0).toNatClampNeg) ( zg (zin (zI i + (3 : Int32)) (r9.2.1 16 1 0).toNatClampNeg) ( (zM_line (d + 60) (r9.2.1 16 0 (zx (zI i + (1 : Int32)))) (r9.2.1 16 0 (zx (zI i + (2 : Int32)))) (r9.2.1 16 0 (zx (zI i + (3 : Int32)))) r9.2).bind (fun r10 => zif (r9.1 = r10.1) ( zY_law_23 (d + 60) (zI i + (7 : Int32)) r10.2) ( some ((0 : Int32), r10.2))))))))))) := by
  have hS := zSW hR hI.2.2.2.2.2.1
  have gd := hI.1.1
  have gb := hI.1.2
  have g1 : zin (zI i + (1 : Int32)) (W 1 0).toNatClampNeg = true := q_Gj hy (j := 1) (by omega)
  have g2 : zin (zI i + (2 : Int32)) (W 1 0).toNatClampNeg = true := q_Gj hy (j := 2) (by omega)
  have g3 : zin (zI i + (3 : Int32)) (W 1 0).toNatClampNeg = true := q_Gj hy (j := 3) (by omega)
  rw [hS, zg_t g1, zg_t g2, zg_t g3]
  obtain ⟨r1, e1, v1, K', hK, R1⟩ := zX_line_s hR gd.1 gd.2.2.1 (d + 57) (a := (W 0 (zx (zI i + (1 : Int32)))).toInt) (b := (W 0 (zx (zI i + (2 : Int32)))).toInt) (n := (W 0 (zx (zI i + (3 : Int32)))).toInt) (q_lo _) (q_hi _) (q_lo _) (q_hi _) (q_lo _) (q_hi _)
  simp only [zI_ti] at e1
  have e1 : zX_line (d + 60) (W 0 (zx (zI i + (1 : Int32)))) (W 0 (zx (zI i + (2 : Int32)))) (W 0 (zx (zI i + (3 : Int32)))) S = some r1 := e1
  have I1 := zInv_line hI (W 0 (zx (zI i + (1 : Int32)))).toInt (W 0 (zx (zI i + (2 : Int32)))).toInt (W 0 (zx (zI i + (3 : Int32)))).toInt hK
  have hS1 := zSW R1 I1.2.2.2.2.2.1
  rw [e1, zBs, hS1, zg_t g1, zg_t g2, zg_t g3]
  obtain ⟨r2, e2, v2, R2⟩ := zM_line_s R1 gd.1 (d + 57) (a := (W 0 (zx (zI i + (1 : Int32)))).toInt) (b := (W 0 (zx (zI i + (2 : Int32)))).toInt) (n := (W 0 (zx (zI i + (3 : Int32)))).toInt) (q_lo _) (q_hi _) (q_lo _) (q_hi _) (q_lo _) (q_hi _)
  simp only [zI_ti] at e2
  have e2 : zM_line (d + 60) (W 0 (zx (zI i + (1 : Int32)))) (W 0 (zx (zI i + (2 : Int32)))) (W 0 (zx (zI i + (3 : Int32)))) r1.2 = some r2 := e2
  rw [e2, zBs, zif_pos (v1.trans v2.symm)]
  exact ⟨r2.2, _, _, rfl, R2, I1⟩
theorem zt_426 (hy : zHy L i W) (hR : zR K x x S) (hI : zInv W x K T) (d : Nat) {b : Int} (hb : b = 0 ∨ b = 1) (hb2 : b = 0 ↔ (W 0 (zx (zI i + (2 : Int32)))) = 0) : zNx d W i T (zY_law_426 (d + 60) (zI i) (zI b) (W 0 (zx (zI i + (1 : Int32)))) S) := by
  have gd := hI.1.1
  have g1 : zin (zI i + (1 : Int32)) (W 1 0).toNatClampNeg = true := q_Gj hy (j := 1) (by omega)
  have g2 : zin (zI i + (2 : Int32)) (W 1 0).toNatClampNeg = true := q_Gj hy (j := 2) (by omega)
  obtain ⟨r1, e1, v1, R1⟩ := zX_out_s hR gd.1 (d + 58) (a := (W 0 (zx (zI i + (1 : Int32)))).toInt) (b := b) (q_lo _) (q_hi _) hb
  simp only [zI_ti] at e1
  have e1 : zX_out (d + 60) (W 0 (zx (zI i + (1 : Int32)))) (zI b) S = some r1 := e1
  have I1 := zInv_out hI (W 0 (zx (zI i + (1 : Int32)))).toInt b hb
  have hS1 := zSW R1 I1.2.2.2.2.2.1
  obtain ⟨r2, e2, v2, R2⟩ := zM_out_s R1 gd.1 (d + 58) (a := (W 0 (zx (zI i + (1 : Int32)))).toInt) (b := b) (q_lo _) (q_hi _) hb
  simp only [zI_ti] at e2
  have e2 : zM_out (d + 60) (W 0 (zx (zI i + (1 : Int32)))) (zI b) r1.2 = some r2 := e2
  rw [eY_law_426, e1, zBs, hS1, zg_t g1, zg_t g2]
  rcases hb with rfl | rfl
  · have e2 : zM_out (d + 60) (W 0 (zx (zI i + (1 : Int32)))) (0 : Int32) r1.2 = some r2 := e2
    rw [zif_pos (hb2.1 rfl), e2, zBs, zif_pos (v1.trans v2.symm)]
    exact ⟨r2.2, _, _, rfl, R2, I1⟩
  · have e2 : zM_out (d + 60) (W 0 (zx (zI i + (1 : Int32)))) (1 : Int32) r1.2 = some r2 := e2
    rw [zif_neg (fun e => absurd (hb2.2 e) (by decide)), e2, zBs, zif_pos (v1.trans v2.symm)]
    exact ⟨r2.2, _, _, rfl, R2, I1⟩
theorem zt_5 (hy : zHy L i W) (hR : zR K x x S) (hI : zInv W x K T) (d : Nat) : zNx d W i T (zg (zin (zI i + (1 : Int32)) (S.1 16 1 0).toNatClampNeg) ( zg (zin (zI i + (2 : Int32)) (S.1 16 1 0).toNatClampNeg) ( zif ((S.1 16 0 (zx (zI i + (2 : Int32)))) = 0) ( zY_law_426 (d + 60) (zI i) (0 : Int32) (S.1 16 0 (zx (zI i + (1 : Int32)))) S) ( zY_law_426 (d + 60) (zI i) (1 : Int32) (S.1 16 0 (zx (zI i + (1 : Int32)))) S)))) := by
  have hS := zSW hR hI.2.2.2.2.2.1
  have g1 : zin (zI i + (1 : Int32)) (W 1 0).toNatClampNeg = true := q_Gj hy (j := 1) (by omega)
  have g2 : zin (zI i + (2 : Int32)) (W 1 0).toNatClampNeg = true := q_Gj hy (j := 2) (by omega)
  rw [hS, zg_t g1, zg_t g2]
  refine zNx_if (fun q => ?_) (fun q => ?_)
  · exact zt_426 hy hR hI d (b := 0) (Or.inl rfl) ⟨fun _ => q, fun _ => rfl⟩
  · exact zt_426 hy hR hI d (b := 1) (Or.inr rfl) ⟨fun e => absurd e (by decide), fun e => absurd e q⟩
theorem zt_479 (hy : zHy L i W) (hR : zR K x x S) (hI : zInv W x K T) (d : Nat) {b : Int} (hb : b = 0 ∨ b = 1) (hb2 : b = 0 ↔ (W 0 (zx (zI i + (2 : Int32)))) = 0) : zNx d W i T (zY_law_479 (d + 60) (zI i) (zI b) (W 0 (zx (zI i + (1 : Int32)))) S) := by
  have gd := hI.1.1
  have g1 : zin (zI i + (1 : Int32)) (W 1 0).toNatClampNeg = true := q_Gj hy (j := 1) (by omega)
  have g2 : zin (zI i + (2 : Int32)) (W 1 0).toNatClampNeg = true := q_Gj hy (j := 2) (by omega)
  obtain ⟨r1, e1, v1, R1⟩ := zX_faulty_s hR gd.1 (d + 58) (a := (W 0 (zx (zI i + (1 : Int32)))).toInt) (b := b) (q_lo _) (q_hi _) hb
  simp only [zI_ti] at e1
  have e1 : zX_faulty (d + 60) (W 0 (zx (zI i + (1 : Int32)))) (zI b) S = some r1 := e1
  have I1 := zInv_faulty hI (W 0 (zx (zI i + (1 : Int32)))).toInt b hb
  have hS1 := zSW R1 I1.2.2.2.2.2.1
  obtain ⟨r2, e2, v2, R2⟩ := zM_faulty_s R1 gd.1 (d + 58) (a := (W 0 (zx (zI i + (1 : Int32)))).toInt) (b := b) (q_lo _) (q_hi _) hb
  simp only [zI_ti] at e2
  have e2 : zM_faulty (d + 60) (W 0 (zx (zI i + (1 : Int32)))) (zI b) r1.2 = some r2 := e2
  rw [eY_law_479, e1, zBs, hS1, zg_t g1, zg_t g2]
  rcases hb with rfl | rfl
  · have e2 : zM_faulty (d + 60) (W 0 (zx (zI i + (1 : Int32)))) (0 : Int32) r1.2 = some r2 := e2
    rw [zif_pos (hb2.1 rfl), e2, zBs, zif_pos (v1.trans v2.symm)]
    exact ⟨r2.2, _, _, rfl, R2, I1⟩
  · have e2 : zM_faulty (d + 60) (W 0 (zx (zI i + (1 : Int32)))) (1 : Int32) r1.2 = some r2 := e2
    rw [zif_neg (fun e => absurd (hb2.2 e) (by decide)), e2, zBs, zif_pos (v1.trans v2.symm)]
    exact ⟨r2.2, _, _, rfl, R2, I1⟩
theorem zt_6 (hy : zHy L i W) (hR : zR K x x S) (hI : zInv W x K T) (d : Nat) : zNx d W i T (zg (zin (zI i + (1 : Int32)) (S.1 16 1 0).toNatClampNeg) ( zg (zin (zI i + (2 : Int32)) (S.1 16 1 0).toNatClampNeg) ( zif ((S.1 16 0 (zx (zI i + (2 : Int32)))) = 0) ( zY_law_479 (d + 60) (zI i) (0 : Int32) (S.1 16 0 (zx (zI i + (1 : Int32)))) S) ( zY_law_479 (d + 60) (zI i) (1 : Int32) (S.1 16 0 (zx (zI i + (1 : Int32)))) S)))) := by
  have hS := zSW hR hI.2.2.2.2.2.1
  have g1 : zin (zI i + (1 : Int32)) (W 1 0).toNatClampNeg = true := q_Gj hy (j := 1) (by omega)
  have g2 : zin (zI i + (2 : Int32)) (W 1 0).toNatClampNeg = true := q_Gj hy (j := 2) (by omega)
  rw [hS, zg_t g1, zg_t g2]
  refine zNx_if (fun q => ?_) (fun q => ?_)
  · exact zt_479 hy hR hI d (b := 0) (Or.inl rfl) ⟨fun _ => q, fun _ => rfl⟩
  · exact zt_479 hy hR hI d (b := 1) (Or.inr rfl) ⟨fun e => absurd e (by decide), fun e => absurd e q⟩
theorem zt_7 (hy : zHy L i W) (hR : zR K x x S) (hI : zInv W x K T) (d : Nat) : zNx d W i T (zg (zin (zI i + (1 : Int32)) (S.1 16 1 0).toNatClampNeg) ( (zX_lift (d + 60) (S.1 16 0 (zx (zI i + (1 : Int32)))) S).bind (fun r11 => zg (zin (zI i + (1 : Int32)) (r11.2.1 16 1 0).toNatClampNeg) ( (zM_lift (d + 60) (r11.2.1 16 0 (zx (zI i + (1 : Int32)))) r11.2).bind (fun r12 => zif (r11.1 = r12.1) ( zY_law_23 (d + 60) (zI i + (7 : Int32)) r12.2) ( some ((0 : Int32), r12.2))))))) := by
  have hS := zSW hR hI.2.2.2.2.2.1
  have gd := hI.1.1
  have gb := hI.1.2
  have g1 : zin (zI i + (1 : Int32)) (W 1 0).toNatClampNeg = true := q_Gj hy (j := 1) (by omega)
  rw [hS, zg_t g1]
  obtain ⟨r1, e1, v1, R1⟩ := zX_lift_s hR gd.1 hI.2.1.1 (fun j => by have := gd.2.1 j; omega) (d + 56) (l := (W 0 (zx (zI i + (1 : Int32)))).toInt) (q_lo _) (q_hi _)
  simp only [zI_ti] at e1
  have e1 : zX_lift (d + 60) (W 0 (zx (zI i + (1 : Int32)))) S = some r1 := e1
  have I1 := zInv_lift hI (W 0 (zx (zI i + (1 : Int32)))).toInt
  have hS1 := zSW R1 I1.2.2.2.2.2.1
  rw [e1, zBs, hS1, zg_t g1]
  obtain ⟨r2, e2, v2, R2⟩ := zM_lift_s R1 gd.1 (d + 57) (l := (W 0 (zx (zI i + (1 : Int32)))).toInt) (q_lo _) (q_hi _)
  simp only [zI_ti] at e2
  have e2 : zM_lift (d + 60) (W 0 (zx (zI i + (1 : Int32)))) r1.2 = some r2 := e2
  rw [e2, zBs, zif_pos (v1.trans v2.symm)]
  exact ⟨r2.2, _, _, rfl, R2, I1⟩
theorem zt_8 (hy : zHy L i W) (hR : zR K x x S) (hI : zInv W x K T) (d : Nat) : zNx d W i T (zg (zin (zI i + (1 : Int32)) (S.1 16 1 0).toNatClampNeg) ( zg (zin (zI i + (2 : Int32)) (S.1 16 1 0).toNatClampNeg) ( (zX_dial (d + 60) (S.1 16 0 (zx (zI i + (1 : Int32)))) (S.1 16 0 (zx (zI i + (2 : Int32)))) S).bind (fun r13 => zg (zin (zI i + (1 : Int32)) (r13.2.1 16 1 0).toNatClampNeg) ( zg (zin (zI i + (2 : Int32)) (r13.2.1 16 1 0).toNatClampNeg) ( (zM_dial (d + 60) (r13.2.1 16 0 (zx (zI i + (1 : Int32)))) (r13.2.1 16 0 (zx (zI i + (2 : Int32)))) r13.2).bind (fun r14 => zif (r13.1 = r14.1) ( zY_law_23 (d + 60) (zI i + (7 : Int32)) r14.2) ( some ((0 : Int32), r14.2))))))))) := by
  have hS := zSW hR hI.2.2.2.2.2.1
  have gd := hI.1.1
  have gb := hI.1.2
  have g1 : zin (zI i + (1 : Int32)) (W 1 0).toNatClampNeg = true := q_Gj hy (j := 1) (by omega)
  have g2 : zin (zI i + (2 : Int32)) (W 1 0).toNatClampNeg = true := q_Gj hy (j := 2) (by omega)
  rw [hS, zg_t g1, zg_t g2]
  obtain ⟨r1, e1, v1, R1⟩ := zX_dial_s hR gd.1 hI.2.1.1 (fun j => by have := gd.2.1 j; omega) (d + 55) (l := (W 0 (zx (zI i + (1 : Int32)))).toInt) (d := (W 0 (zx (zI i + (2 : Int32)))).toInt) (q_lo _) (q_hi _) (q_lo _) (q_hi _) (fun a b => (gd.2.2.2.1 _ a b).2.2.2.1) (fun a b c => zCl_s gd a b c)
  simp only [zI_ti] at e1
  have e1 : zX_dial (d + 60) (W 0 (zx (zI i + (1 : Int32)))) (W 0 (zx (zI i + (2 : Int32)))) S = some r1 := e1
  have I1 := zInv_dial hI (W 0 (zx (zI i + (1 : Int32)))).toInt (W 0 (zx (zI i + (2 : Int32)))).toInt
  have hS1 := zSW R1 I1.2.2.2.2.2.1
  rw [e1, zBs, hS1, zg_t g1, zg_t g2]
  obtain ⟨r2, e2, v2, R2⟩ := zM_dial_s R1 gd.1 (d + 57) (l := (W 0 (zx (zI i + (1 : Int32)))).toInt) (dg := (W 0 (zx (zI i + (2 : Int32)))).toInt) (q_lo _) (q_hi _) (q_lo _) (q_hi _) (fun a b c => (zCl_s gd a b c).1)
  simp only [zI_ti] at e2
  have e2 : zM_dial (d + 60) (W 0 (zx (zI i + (1 : Int32)))) (W 0 (zx (zI i + (2 : Int32)))) r1.2 = some r2 := e2
  rw [e2, zBs, zif_pos (v1.trans v2.symm)]
  exact ⟨r2.2, _, _, rfl, R2, I1⟩
theorem zt_9 (hy : zHy L i W) (hR : zR K x x S) (hI : zInv W x K T) (d : Nat) : zNx d W i T (zg (zin (zI i + (1 : Int32)) (S.1 16 1 0).toNatClampNeg) ( (zX_answer (d + 60) (S.1 16 0 (zx (zI i + (1 : Int32)))) S).bind (fun r15 => zg (zin (zI i + (1 : Int32)) (r15.2.1 16 1 0).toNatClampNeg) ( (zM_answer (d + 60) (r15.2.1 16 0 (zx (zI i + (1 : Int32)))) r15.2).bind (fun r16 => zif (r15.1 = r16.1) ( zY_law_23 (d + 60) (zI i + (7 : Int32)) r16.2) ( some ((0 : Int32), r16.2))))))) := by
  have hS := zSW hR hI.2.2.2.2.2.1
  have gd := hI.1.1
  have gb := hI.1.2
  have g1 : zin (zI i + (1 : Int32)) (W 1 0).toNatClampNeg = true := q_Gj hy (j := 1) (by omega)
  rw [hS, zg_t g1]
  obtain ⟨r1, e1, v1, R1⟩ := zX_answer_s hR gd.1 (d + 58) (l := (W 0 (zx (zI i + (1 : Int32)))).toInt) (q_lo _) (q_hi _)
  simp only [zI_ti] at e1
  have e1 : zX_answer (d + 60) (W 0 (zx (zI i + (1 : Int32)))) S = some r1 := e1
  have I1 := zInv_answer hI (W 0 (zx (zI i + (1 : Int32)))).toInt
  have hS1 := zSW R1 I1.2.2.2.2.2.1
  rw [e1, zBs, hS1, zg_t g1]
  obtain ⟨r2, e2, v2, R2⟩ := zM_answer_s R1 gd.1 (d + 57) (l := (W 0 (zx (zI i + (1 : Int32)))).toInt) (q_lo _) (q_hi _)
  simp only [zI_ti] at e2
  have e2 : zM_answer (d + 60) (W 0 (zx (zI i + (1 : Int32)))) r1.2 = some r2 := e2
  rw [e2, zBs, zif_pos (v1.trans v2.symm)]
  exact ⟨r2.2, _, _, rfl, R2, I1⟩
theorem zt_10 (hy : zHy L i W) (hR : zR K x x S) (hI : zInv W x K T) (d : Nat) : zNx d W i T (zg (zin (zI i + (1 : Int32)) (S.1 16 1 0).toNatClampNeg) ( (zX_end (d + 60) (S.1 16 0 (zx (zI i + (1 : Int32)))) S).bind (fun r17 => zg (zin (zI i + (1 : Int32)) (r17.2.1 16 1 0).toNatClampNeg) ( (zM_end (d + 60) (r17.2.1 16 0 (zx (zI i + (1 : Int32)))) r17.2).bind (fun r18 => zif (r17.1 = r18.1) ( zY_law_23 (d + 60) (zI i + (7 : Int32)) r18.2) ( some ((0 : Int32), r18.2))))))) := by
  have hS := zSW hR hI.2.2.2.2.2.1
  have gd := hI.1.1
  have gb := hI.1.2
  have g1 : zin (zI i + (1 : Int32)) (W 1 0).toNatClampNeg = true := q_Gj hy (j := 1) (by omega)
  have key : ∃ U : Int, (-2147483648 ≤ U ∧ U < 2147483648) ∧ (zLn x (W 0 (zx (zI i + (1 : Int32)))).toInt → x 15 (W 0 (zx (zI i + (1 : Int32)))).toInt = 1 → x 16 (W 0 (zx (zI i + (1 : Int32)))).toInt = 6 → ∀ (d : Nat) (y : ZW) (S : ZS), zR K x y S → zwp (zci (zcall (d + 4)) 82 [zo (S.2.2.1 10 0 7), zi (zI (x 21 (W 0 (zx (zI i + (1 : Int32)))).toInt)), zi (zI (x 1 0)), zi (zI (sZof x (sHead x (W 0 (zx (zI i + (1 : Int32)))).toInt))), zi (zI (W 0 (zx (zI i + (1 : Int32)))).toInt)] S) (fun r => r.1 = zI U ∧ zR K x y r.2)) ∧ (zLn x (W 0 (zx (zI i + (1 : Int32)))).toInt → x 15 (W 0 (zx (zI i + (1 : Int32)))).toInt = 1 → x 16 (W 0 (zx (zI i + (1 : Int32)))).toInt = 6 → ∀ (d : Nat) (z : ZW) (S : ZS), zR K z x S → zwp (zM_unitsOf (d + 4) (zI (W 0 (zx (zI i + (1 : Int32)))).toInt) S) (fun r => r.1 = zI U ∧ zR K z x r.2)) := by
    by_cases q : zLn x (W 0 (zx (zI i + (1 : Int32)))).toInt ∧ x 15 (W 0 (zx (zI i + (1 : Int32)))).toInt = 1 ∧ x 16 (W 0 (zx (zI i + (1 : Int32)))).toInt = 6
    · obtain ⟨U, u1, u2, u3⟩ := zTf_units hI.2.2.2.2.1.2.1 gd q.1 q.2.1 q.2.2
      exact ⟨U, u1, fun _ _ _ => u2, fun _ _ _ => u3⟩
    · exact ⟨0, by omega, fun a b c => absurd ⟨a, b, c⟩ q, fun a b c => absurd ⟨a, b, c⟩ q⟩
  obtain ⟨U, ⟨u1, u2⟩, uX, uM⟩ := key
  rw [hS, zg_t g1]
  obtain ⟨r1, e1, v1, R1⟩ := zX_end_s hR gd.1 gb (d + 56) (l := (W 0 (zx (zI i + (1 : Int32)))).toInt) (u := U) (q_lo _) (q_hi _) u1 u2 (fun a b => zCl_e gd a b) (fun a b c => uX a b c (d + 55) x S hR)
  simp only [zI_ti] at e1
  have e1 : zX_end (d + 60) (W 0 (zx (zI i + (1 : Int32)))) S = some r1 := e1
  have I1 := zInv_end hI (W 0 (zx (zI i + (1 : Int32)))).toInt U
  have hS1 := zSW R1 I1.2.2.2.2.2.1
  rw [e1, zBs, hS1, zg_t g1]
  obtain ⟨r2, e2, v2, R2⟩ := zM_end_s R1 gd.1 gb (d + 56) (l := (W 0 (zx (zI i + (1 : Int32)))).toInt) (u := U) (q_lo _) (q_hi _) u1 u2 (fun a b => zCl_e gd a b) (fun a b c S h => uM a b c (d + 55) _ S h)
  simp only [zI_ti] at e2
  have e2 : zM_end (d + 60) (W 0 (zx (zI i + (1 : Int32)))) r1.2 = some r2 := e2
  rw [e2, zBs, zif_pos (v1.trans v2.symm)]
  exact ⟨r2.2, _, _, rfl, R2, I1⟩
theorem zt_11 (hy : zHy L i W) (hR : zR K x x S) (hI : zInv W x K T) (d : Nat) : zNx d W i T (zg (zin (zI i + (1 : Int32)) (S.1 16 1 0).toNatClampNeg) ( zg (zin (zI i + (2 : Int32)) (S.1 16 1 0).toNatClampNeg) ( zg (zin (zI i + (3 : Int32)) (S.1 16 1 0).toNatClampNeg) ( zg (zin (zI i + (4 : Int32)) (S.1 16 1 0).toNatClampNeg) ( zg (zin (zI i + (5 : Int32)) (S.1 16 1 0).toNatClampNeg) ( zg (zin (zI i + (6 : Int32)) (S.1 16 1 0).toNatClampNeg) ( (zX_feed (d + 60) (((S.1 16 0 (zx (zI i + (1 : Int32)))).toInt64 <<< ((32 : Int32).toInt64 &&& 63)) ||| ((S.1 16 0 (zx (zI i + (2 : Int32)))).toInt64 &&& (4294967295 : Int64))) (((S.1 16 0 (zx (zI i + (3 : Int32)))).toInt64 <<< ((32 : Int32).toInt64 &&& 63)) ||| ((S.1 16 0 (zx (zI i + (4 : Int32)))).toInt64 &&& (4294967295 : Int64))) (((S.1 16 0 (zx (zI i + (5 : Int32)))).toInt64 <<< ((32 : Int32).toInt64 &&& 63)) ||| ((S.1 16 0 (zx (zI i + (6 : Int32)))).toInt64 &&& (4294967295 : Int64))) S).bind (fun r19 => zg (zin (zI i + (1 : Int32)) (r19.2.1 16 1 0).toNatClampNeg) ( zg (zin (zI i + (2 : Int32)) (r19.2.1 16 1 0).toNatClampNeg) ( zg (zin (zI i + (3 : Int32)) (r19.2.1 16 1 0).toNatClampNeg) ( zg (zin (zI i + (4 : Int32)) (r19.2.1 16 1 0).toNatClampNeg) ( zg (zin (zI i + (5 : Int32)) (r19.2.1 16 1 0).toNatClampNeg) ( zg (zin (zI i + (6 : Int32)) (r19.2.1 16 1 0).toNatClampNeg) ( (zM_feed (d + 60) (((r19.2.1 16 0 (zx (zI i + (1 : Int32)))).toInt64 <<< ((32 : Int32).toInt64 &&& 63)) ||| ((r19.2.1 16 0 (zx (zI i + (2 : Int32)))).toInt64 &&& (4294967295 : Int64))) (((r19.2.1 16 0 (zx (zI i + (3 : Int32)))).toInt64 <<< ((32 : Int32).toInt64 &&& 63)) ||| ((r19.2.1 16 0 (zx (zI i + (4 : Int32)))).toInt64 &&& (4294967295 : Int64))) (((r19.2.1 16 0 (zx (zI i + (5 : Int32)))).toInt64 <<< ((32 : Int32).toInt64 &&& 63)) ||| ((r19.2.1 16 0 (zx (zI i + (6 : Int32)))).toInt64 &&& (4294967295 : Int64))) r19.2).bind (fun r20 => zif (r19.1 = r20.1) ( zY_law_23 (d + 60) (zI i + (7 : Int32)) r20.2) ( some ((0 : Int32), r20.2))))))))))))))))) := by
  have hS := zSW hR hI.2.2.2.2.2.1
  have gd := hI.1.1
  have gb := hI.1.2
  have g1 : zin (zI i + (1 : Int32)) (W 1 0).toNatClampNeg = true := q_Gj hy (j := 1) (by omega)
  have g2 : zin (zI i + (2 : Int32)) (W 1 0).toNatClampNeg = true := q_Gj hy (j := 2) (by omega)
  have g3 : zin (zI i + (3 : Int32)) (W 1 0).toNatClampNeg = true := q_Gj hy (j := 3) (by omega)
  have g4 : zin (zI i + (4 : Int32)) (W 1 0).toNatClampNeg = true := q_Gj hy (j := 4) (by omega)
  have g5 : zin (zI i + (5 : Int32)) (W 1 0).toNatClampNeg = true := q_Gj hy (j := 5) (by omega)
  have g6 : zin (zI i + (6 : Int32)) (W 1 0).toNatClampNeg = true := q_Gj hy (j := 6) (by omega)
  rw [hS, zg_t g1, zg_t g2, zg_t g3, zg_t g4, zg_t g5, zg_t g6]
  obtain ⟨r1, e1, v1, R1⟩ := zX_feed_s hR hI.2.2.2.1.1 (d + 58) (((W 0 (zx (zI i + (1 : Int32)))).toInt64 <<< ((32 : Int32).toInt64 &&& 63)) ||| ((W 0 (zx (zI i + (2 : Int32)))).toInt64 &&& (4294967295 : Int64))) (((W 0 (zx (zI i + (3 : Int32)))).toInt64 <<< ((32 : Int32).toInt64 &&& 63)) ||| ((W 0 (zx (zI i + (4 : Int32)))).toInt64 &&& (4294967295 : Int64))) (((W 0 (zx (zI i + (5 : Int32)))).toInt64 <<< ((32 : Int32).toInt64 &&& 63)) ||| ((W 0 (zx (zI i + (6 : Int32)))).toInt64 &&& (4294967295 : Int64)))
  have e1 : zX_feed (d + 60) (((W 0 (zx (zI i + (1 : Int32)))).toInt64 <<< ((32 : Int32).toInt64 &&& 63)) ||| ((W 0 (zx (zI i + (2 : Int32)))).toInt64 &&& (4294967295 : Int64))) (((W 0 (zx (zI i + (3 : Int32)))).toInt64 <<< ((32 : Int32).toInt64 &&& 63)) ||| ((W 0 (zx (zI i + (4 : Int32)))).toInt64 &&& (4294967295 : Int64))) (((W 0 (zx (zI i + (5 : Int32)))).toInt64 <<< ((32 : Int32).toInt64 &&& 63)) ||| ((W 0 (zx (zI i + (6 : Int32)))).toInt64 &&& (4294967295 : Int64))) S = some r1 := e1
  have I1 := zInv_feed hI (((W 0 (zx (zI i + (1 : Int32)))).toInt64 <<< ((32 : Int32).toInt64 &&& 63)) ||| ((W 0 (zx (zI i + (2 : Int32)))).toInt64 &&& (4294967295 : Int64))) (((W 0 (zx (zI i + (3 : Int32)))).toInt64 <<< ((32 : Int32).toInt64 &&& 63)) ||| ((W 0 (zx (zI i + (4 : Int32)))).toInt64 &&& (4294967295 : Int64))) (((W 0 (zx (zI i + (5 : Int32)))).toInt64 <<< ((32 : Int32).toInt64 &&& 63)) ||| ((W 0 (zx (zI i + (6 : Int32)))).toInt64 &&& (4294967295 : Int64)))
  have hS1 := zSW R1 I1.2.2.2.2.2.1
  rw [e1, zBs, hS1, zg_t g1, zg_t g2, zg_t g3, zg_t g4, zg_t g5, zg_t g6]
  obtain ⟨r2, e2, v2, R2⟩ := zM_feed_s R1 hI.2.2.2.1.1 (d + 59) (((W 0 (zx (zI i + (1 : Int32)))).toInt64 <<< ((32 : Int32).toInt64 &&& 63)) ||| ((W 0 (zx (zI i + (2 : Int32)))).toInt64 &&& (4294967295 : Int64))) (((W 0 (zx (zI i + (3 : Int32)))).toInt64 <<< ((32 : Int32).toInt64 &&& 63)) ||| ((W 0 (zx (zI i + (4 : Int32)))).toInt64 &&& (4294967295 : Int64))) (((W 0 (zx (zI i + (5 : Int32)))).toInt64 <<< ((32 : Int32).toInt64 &&& 63)) ||| ((W 0 (zx (zI i + (6 : Int32)))).toInt64 &&& (4294967295 : Int64)))
  have e2 : zM_feed (d + 60) (((W 0 (zx (zI i + (1 : Int32)))).toInt64 <<< ((32 : Int32).toInt64 &&& 63)) ||| ((W 0 (zx (zI i + (2 : Int32)))).toInt64 &&& (4294967295 : Int64))) (((W 0 (zx (zI i + (3 : Int32)))).toInt64 <<< ((32 : Int32).toInt64 &&& 63)) ||| ((W 0 (zx (zI i + (4 : Int32)))).toInt64 &&& (4294967295 : Int64))) (((W 0 (zx (zI i + (5 : Int32)))).toInt64 <<< ((32 : Int32).toInt64 &&& 63)) ||| ((W 0 (zx (zI i + (6 : Int32)))).toInt64 &&& (4294967295 : Int64))) r1.2 = some r2 := e2
  rw [e2, zBs, zif_pos (v1.trans v2.symm)]
  exact ⟨r2.2, _, _, rfl, R2, I1⟩
theorem zt_12 (hR : zR K x x S) (hI : zInv W x K T) (d : Nat) : zNx d W i T ((zX_tariff (d + 60) S).bind (fun r21 => (zM_tariff (d + 60) r21.2).bind (fun r22 => zif (r21.1 = r22.1) ( zY_law_23 (d + 60) (zI i + (7 : Int32)) r22.2) ( some ((0 : Int32), r22.2))))) := by
  obtain ⟨r1, e1, r2, e2, v2, x', K', R2, tf, f1, f2, f3, f4⟩ := zTar hR hI.2.2.2.2.1.2.1 hI.2.2.2.1 (d + 5)
  have e1 : zX_tariff (d + 60) S = some r1 := e1
  have e2 : zM_tariff (d + 60) r1.2 = some r2 := e2
  rw [e1, zBs, e2, zBs, zif_pos v2.symm]
  exact ⟨r2.2, x', K', rfl, R2, zInv_tariff hI tf f1 f2 f3 f4⟩
theorem zt_13 (hy : zHy L i W) (hR : zR K x x S) (hI : zInv W x K T) (d : Nat) : zNx d W i T (zg (zin (zI i + (1 : Int32)) (S.1 16 1 0).toNatClampNeg) ( zg (zin (zI i + (2 : Int32)) (S.1 16 1 0).toNatClampNeg) ( (zX_word (d + 60) (S.1 16 0 (zx (zI i + (1 : Int32)))) (S.1 16 0 (zx (zI i + (2 : Int32)))) S).bind (fun r23 => zg (zin (zI i + (1 : Int32)) (r23.2.1 16 1 0).toNatClampNeg) ( zg (zin (zI i + (2 : Int32)) (r23.2.1 16 1 0).toNatClampNeg) ( (zM_word (d + 60) (r23.2.1 16 0 (zx (zI i + (1 : Int32)))) (r23.2.1 16 0 (zx (zI i + (2 : Int32)))) r23.2).bind (fun r24 => zif (r23.1 = r24.1) ( zY_law_23 (d + 60) (zI i + (7 : Int32)) r24.2) ( some ((0 : Int32), r24.2))))))))) := by
  have hS := zSW hR hI.2.2.2.2.2.1
  have gd := hI.1.1
  have gb := hI.1.2
  have g1 : zin (zI i + (1 : Int32)) (W 1 0).toNatClampNeg = true := q_Gj hy (j := 1) (by omega)
  have g2 : zin (zI i + (2 : Int32)) (W 1 0).toNatClampNeg = true := q_Gj hy (j := 2) (by omega)
  rw [hS, zg_t g1, zg_t g2]
  obtain ⟨r1, e1, v1, R1⟩ := zX_word_s hR gd.1 gb (d + 58) (c := (W 0 (zx (zI i + (1 : Int32)))).toInt) (u := (W 0 (zx (zI i + (2 : Int32)))).toInt) (q_lo _) (q_hi _) (q_lo _) (q_hi _)
  simp only [zI_ti] at e1
  have e1 : zX_word (d + 60) (W 0 (zx (zI i + (1 : Int32)))) (W 0 (zx (zI i + (2 : Int32)))) S = some r1 := e1
  have I1 := zInv_word hI (W 0 (zx (zI i + (1 : Int32)))).toInt (W 0 (zx (zI i + (2 : Int32)))).toInt
  have hS1 := zSW R1 I1.2.2.2.2.2.1
  rw [e1, zBs, hS1, zg_t g1, zg_t g2]
  obtain ⟨r2, e2, v2, R2⟩ := zM_word_s R1 gd.1 gb (d + 58) (c := (W 0 (zx (zI i + (1 : Int32)))).toInt) (u := (W 0 (zx (zI i + (2 : Int32)))).toInt) (q_lo _) (q_hi _) (q_lo _) (q_hi _)
  simp only [zI_ti] at e2
  have e2 : zM_word (d + 60) (W 0 (zx (zI i + (1 : Int32)))) (W 0 (zx (zI i + (2 : Int32)))) r1.2 = some r2 := e2
  rw [e2, zBs, zif_pos (v1.trans v2.symm)]
  exact ⟨r2.2, _, _, rfl, R2, I1⟩
theorem zt_14 (hy : zHy L i W) (hR : zR K x x S) (hI : zInv W x K T) (d : Nat) : zNx d W i T (zg (zin (zI i + (1 : Int32)) (S.1 16 1 0).toNatClampNeg) ( zg (zin (zI i + (2 : Int32)) (S.1 16 1 0).toNatClampNeg) ( zg (zin (zI i + (3 : Int32)) (S.1 16 1 0).toNatClampNeg) ( zg (zin (zI i + (4 : Int32)) (S.1 16 1 0).toNatClampNeg) ( (zX_bill (d + 60) (S.1 16 0 (zx (zI i + (1 : Int32)))) (S.1 16 0 (zx (zI i + (2 : Int32)))) (S.1 16 0 (zx (zI i + (3 : Int32)))) (S.1 16 0 (zx (zI i + (4 : Int32)))) S).bind (fun r25 => zg (zin (zI i + (1 : Int32)) (r25.2.1 16 1 0).toNatClampNeg) ( zg (zin (zI i + (2 : Int32)) (r25.2.1 16 1 0).toNatClampNeg) ( zg (zin (zI i + (3 : Int32)) (r25.2.1 16 1 0).toNatClampNeg) ( zg (zin (zI i + (4 : Int32)) (r25.2.1 16 1 0).toNatClampNeg) ( (zM_bill (d + 60) (r25.2.1 16 0 (zx (zI i + (1 : Int32)))) (r25.2.1 16 0 (zx (zI i + (2 : Int32)))) (r25.2.1 16 0 (zx (zI i + (3 : Int32)))) (r25.2.1 16 0 (zx (zI i + (4 : Int32)))) r25.2).bind (fun r26 => zif (r25.1 = r26.1) ( zY_law_23 (d + 60) (zI i + (7 : Int32)) r26.2) ( some ((0 : Int32), r26.2))))))))))))) := by
  have hS := zSW hR hI.2.2.2.2.2.1
  have gd := hI.1.1
  have gb := hI.1.2
  have g1 : zin (zI i + (1 : Int32)) (W 1 0).toNatClampNeg = true := q_Gj hy (j := 1) (by omega)
  have g2 : zin (zI i + (2 : Int32)) (W 1 0).toNatClampNeg = true := q_Gj hy (j := 2) (by omega)
  have g3 : zin (zI i + (3 : Int32)) (W 1 0).toNatClampNeg = true := q_Gj hy (j := 3) (by omega)
  have g4 : zin (zI i + (4 : Int32)) (W 1 0).toNatClampNeg = true := q_Gj hy (j := 4) (by omega)
  rw [hS, zg_t g1, zg_t g2, zg_t g3, zg_t g4]
  obtain ⟨r1, e1, v1, R1⟩ := zX_bill_s hR gd.1 gb (d + 57) (l := (W 0 (zx (zI i + (1 : Int32)))).toInt) (a := (W 0 (zx (zI i + (2 : Int32)))).toInt) (b := (W 0 (zx (zI i + (3 : Int32)))).toInt) (t := (W 0 (zx (zI i + (4 : Int32)))).toInt) (q_lo _) (q_hi _) (q_lo _) (q_hi _) (q_lo _) (q_hi _) (q_lo _) (q_hi _)
  simp only [zI_ti] at e1
  have e1 : zX_bill (d + 60) (W 0 (zx (zI i + (1 : Int32)))) (W 0 (zx (zI i + (2 : Int32)))) (W 0 (zx (zI i + (3 : Int32)))) (W 0 (zx (zI i + (4 : Int32)))) S = some r1 := e1
  have I1 := (show zInv W (sBill x (W 0 (zx (zI i + (1 : Int32)))).toInt (W 0 (zx (zI i + (2 : Int32)))).toInt (W 0 (zx (zI i + (3 : Int32)))).toInt (W 0 (zx (zI i + (4 : Int32)))).toInt).2 K (T + 1) from zInv_r hI)
  have hS1 := zSW R1 I1.2.2.2.2.2.1
  rw [e1, zBs, hS1, zg_t g1, zg_t g2, zg_t g3, zg_t g4]
  obtain ⟨r2, e2, v2, R2⟩ := zM_bill_s R1 gd.1 gb (d + 57) (l := (W 0 (zx (zI i + (1 : Int32)))).toInt) (a := (W 0 (zx (zI i + (2 : Int32)))).toInt) (b := (W 0 (zx (zI i + (3 : Int32)))).toInt) (t := (W 0 (zx (zI i + (4 : Int32)))).toInt) (q_lo _) (q_hi _) (q_lo _) (q_hi _) (q_lo _) (q_hi _) (q_lo _) (q_hi _)
  simp only [zI_ti] at e2
  have e2 : zM_bill (d + 60) (W 0 (zx (zI i + (1 : Int32)))) (W 0 (zx (zI i + (2 : Int32)))) (W 0 (zx (zI i + (3 : Int32)))) (W 0 (zx (zI i + (4 : Int32)))) r1.2 = some r2 := e2
  rw [e2, zBs, zif_pos (v1.trans v2.symm)]
  exact ⟨r2.2, _, _, rfl, R2, I1⟩
theorem zt_15 (hy : zHy L i W) (hR : zR K x x S) (hI : zInv W x K T) (d : Nat) : zNx d W i T (zg (zin (zI i + (1 : Int32)) (S.1 16 1 0).toNatClampNeg) ( zg (zin (zI i + (2 : Int32)) (S.1 16 1 0).toNatClampNeg) ( zg (zin (zI i + (3 : Int32)) (S.1 16 1 0).toNatClampNeg) ( (zX_would (d + 60) (S.1 16 0 (zx (zI i + (1 : Int32)))) (S.1 16 0 (zx (zI i + (2 : Int32)))) (S.1 16 0 (zx (zI i + (3 : Int32)))) S).bind (fun r27 => zg (zin (zI i + (1 : Int32)) (r27.2.1 16 1 0).toNatClampNeg) ( zg (zin (zI i + (2 : Int32)) (r27.2.1 16 1 0).toNatClampNeg) ( zg (zin (zI i + (3 : Int32)) (r27.2.1 16 1 0).toNatClampNeg) ( (zM_would (d + 60) (r27.2.1 16 0 (zx (zI i + (1 : Int32)))) (r27.2.1 16 0 (zx (zI i + (2 : Int32)))) (r27.2.1 16 0 (zx (zI i + (3 : Int32)))) r27.2).bind (fun r28 => zif (r27.1 = r28.1) ( zY_law_23 (d + 60) (zI i + (7 : Int32)) r28.2) ( some ((0 : Int32), r28.2))))))))))) := by
  have hS := zSW hR hI.2.2.2.2.2.1
  have gd := hI.1.1
  have gb := hI.1.2
  have g1 : zin (zI i + (1 : Int32)) (W 1 0).toNatClampNeg = true := q_Gj hy (j := 1) (by omega)
  have g2 : zin (zI i + (2 : Int32)) (W 1 0).toNatClampNeg = true := q_Gj hy (j := 2) (by omega)
  have g3 : zin (zI i + (3 : Int32)) (W 1 0).toNatClampNeg = true := q_Gj hy (j := 3) (by omega)
  rw [hS, zg_t g1, zg_t g2, zg_t g3]
  obtain ⟨r1, e1, v1, R1⟩ := zX_would_s hR gd hI.2.1.1 (d + 54) (l := (W 0 (zx (zI i + (1 : Int32)))).toInt) (v := (W 0 (zx (zI i + (2 : Int32)))).toInt) (m := (W 0 (zx (zI i + (3 : Int32)))).toInt) (q_lo _) (q_hi _) (q_lo _) (q_hi _) (q_lo _) (q_hi _)
  simp only [zI_ti] at e1
  have e1 : zX_would (d + 60) (W 0 (zx (zI i + (1 : Int32)))) (W 0 (zx (zI i + (2 : Int32)))) (W 0 (zx (zI i + (3 : Int32)))) S = some r1 := e1
  have I1 := (show zInv W (sWould x (W 0 (zx (zI i + (1 : Int32)))).toInt (W 0 (zx (zI i + (2 : Int32)))).toInt (W 0 (zx (zI i + (3 : Int32)))).toInt).2 K (T + 1) from zInv_r hI)
  have hS1 := zSW R1 I1.2.2.2.2.2.1
  rw [e1, zBs, hS1, zg_t g1, zg_t g2, zg_t g3]
  obtain ⟨r2, e2, v2, R2⟩ := zM_would_s R1 gd hI.2.1.1 hI.2.1.2 (d + 56) (l := (W 0 (zx (zI i + (1 : Int32)))).toInt) (v := (W 0 (zx (zI i + (2 : Int32)))).toInt) (m := (W 0 (zx (zI i + (3 : Int32)))).toInt) (q_lo _) (q_hi _) (q_lo _) (q_hi _) (q_lo _) (q_hi _)
  simp only [zI_ti] at e2
  have e2 : zM_would (d + 60) (W 0 (zx (zI i + (1 : Int32)))) (W 0 (zx (zI i + (2 : Int32)))) (W 0 (zx (zI i + (3 : Int32)))) r1.2 = some r2 := e2
  rw [e2, zBs, zif_pos (v1.trans v2.symm)]
  exact ⟨r2.2, _, _, rfl, R2, I1⟩
theorem zt_16 (hy : zHy L i W) (hR : zR K x x S) (hI : zInv W x K T) (d : Nat) : zNx d W i T (zg (zin (zI i + (1 : Int32)) (S.1 16 1 0).toNatClampNeg) ( zg (zin (zI i + (2 : Int32)) (S.1 16 1 0).toNatClampNeg) ( zg (zin (zI i + (3 : Int32)) (S.1 16 1 0).toNatClampNeg) ( zg (zin (zI i + (4 : Int32)) (S.1 16 1 0).toNatClampNeg) ( zg (zin (zI i + (5 : Int32)) (S.1 16 1 0).toNatClampNeg) ( zg (zin (zI i + (6 : Int32)) (S.1 16 1 0).toNatClampNeg) ( (zX_block (d + 60) (S.1 16 0 (zx (zI i + (1 : Int32)))) (S.1 16 0 (zx (zI i + (2 : Int32)))) (S.1 16 0 (zx (zI i + (3 : Int32)))) (S.1 16 0 (zx (zI i + (4 : Int32)))) (S.1 16 0 (zx (zI i + (5 : Int32)))) (S.1 16 0 (zx (zI i + (6 : Int32)))) S).bind (fun r29 => zg (zin (zI i + (1 : Int32)) (r29.2.1 16 1 0).toNatClampNeg) ( zg (zin (zI i + (2 : Int32)) (r29.2.1 16 1 0).toNatClampNeg) ( zg (zin (zI i + (3 : Int32)) (r29.2.1 16 1 0).toNatClampNeg) ( zg (zin (zI i + (4 : Int32)) (r29.2.1 16 1 0).toNatClampNeg) ( zg (zin (zI i + (5 : Int32)) (r29.2.1 16 1 0).toNatClampNeg) ( zg (zin (zI i + (6 : Int32)) (r29.2.1 16 1 0).toNatClampNeg) ( (zM_block (d + 60) (r29.2.1 16 0 (zx (zI i + (1 : Int32)))) (r29.2.1 16 0 (zx (zI i + (2 : Int32)))) (r29.2.1 16 0 (zx (zI i + (3 : Int32)))) (r29.2.1 16 0 (zx (zI i + (4 : Int32)))) (r29.2.1 16 0 (zx (zI i + (5 : Int32)))) (r29.2.1 16 0 (zx (zI i + (6 : Int32)))) r29.2).bind (fun r30 => zif (r29.1 = r30.1) ( zY_law_23 (d + 60) (zI i + (7 : Int32)) r30.2) ( some ((0 : Int32), r30.2))))))))))))))))) := by
  have hS := zSW hR hI.2.2.2.2.2.1
  have gd := hI.1.1
  have gb := hI.1.2
  have g1 : zin (zI i + (1 : Int32)) (W 1 0).toNatClampNeg = true := q_Gj hy (j := 1) (by omega)
  have g2 : zin (zI i + (2 : Int32)) (W 1 0).toNatClampNeg = true := q_Gj hy (j := 2) (by omega)
  have g3 : zin (zI i + (3 : Int32)) (W 1 0).toNatClampNeg = true := q_Gj hy (j := 3) (by omega)
  have g4 : zin (zI i + (4 : Int32)) (W 1 0).toNatClampNeg = true := q_Gj hy (j := 4) (by omega)
  have g5 : zin (zI i + (5 : Int32)) (W 1 0).toNatClampNeg = true := q_Gj hy (j := 5) (by omega)
  have g6 : zin (zI i + (6 : Int32)) (W 1 0).toNatClampNeg = true := q_Gj hy (j := 6) (by omega)
  rw [hS, zg_t g1, zg_t g2, zg_t g3, zg_t g4, zg_t g5, zg_t g6]
  obtain ⟨r1, e1, v1, R1⟩ := zX_block_s hR gd hI.2.1.1 (d + 52) (a := (W 0 (zx (zI i + (1 : Int32)))).toInt) (va := (W 0 (zx (zI i + (2 : Int32)))).toInt) (ma := (W 0 (zx (zI i + (3 : Int32)))).toInt) (b := (W 0 (zx (zI i + (4 : Int32)))).toInt) (vb := (W 0 (zx (zI i + (5 : Int32)))).toInt) (mb := (W 0 (zx (zI i + (6 : Int32)))).toInt) (q_lo _) (q_hi _) (q_lo _) (q_hi _) (q_lo _) (q_hi _) (q_lo _) (q_hi _) (q_lo _) (q_hi _) (q_lo _) (q_hi _)
  simp only [zI_ti] at e1
  have e1 : zX_block (d + 60) (W 0 (zx (zI i + (1 : Int32)))) (W 0 (zx (zI i + (2 : Int32)))) (W 0 (zx (zI i + (3 : Int32)))) (W 0 (zx (zI i + (4 : Int32)))) (W 0 (zx (zI i + (5 : Int32)))) (W 0 (zx (zI i + (6 : Int32)))) S = some r1 := e1
  have I1 := (show zInv W (sBlock x (W 0 (zx (zI i + (1 : Int32)))).toInt (W 0 (zx (zI i + (2 : Int32)))).toInt (W 0 (zx (zI i + (3 : Int32)))).toInt (W 0 (zx (zI i + (4 : Int32)))).toInt (W 0 (zx (zI i + (5 : Int32)))).toInt (W 0 (zx (zI i + (6 : Int32)))).toInt).2 K (T + 1) from zInv_r hI)
  have hS1 := zSW R1 I1.2.2.2.2.2.1
  rw [e1, zBs, hS1, zg_t g1, zg_t g2, zg_t g3, zg_t g4, zg_t g5, zg_t g6]
  obtain ⟨r2, e2, v2, R2⟩ := zM_block_s R1 gd hI.2.1.1 hI.2.1.2 (d + 56) (a := (W 0 (zx (zI i + (1 : Int32)))).toInt) (va := (W 0 (zx (zI i + (2 : Int32)))).toInt) (ma := (W 0 (zx (zI i + (3 : Int32)))).toInt) (b := (W 0 (zx (zI i + (4 : Int32)))).toInt) (vb := (W 0 (zx (zI i + (5 : Int32)))).toInt) (mb := (W 0 (zx (zI i + (6 : Int32)))).toInt) (q_lo _) (q_hi _) (q_lo _) (q_hi _) (q_lo _) (q_hi _) (q_lo _) (q_hi _) (q_lo _) (q_hi _) (q_lo _) (q_hi _)
  simp only [zI_ti] at e2
  have e2 : zM_block (d + 60) (W 0 (zx (zI i + (1 : Int32)))) (W 0 (zx (zI i + (2 : Int32)))) (W 0 (zx (zI i + (3 : Int32)))) (W 0 (zx (zI i + (4 : Int32)))) (W 0 (zx (zI i + (5 : Int32)))) (W 0 (zx (zI i + (6 : Int32)))) r1.2 = some r2 := e2
  rw [e2, zBs, zif_pos (v1.trans v2.symm)]
  exact ⟨r2.2, _, _, rfl, R2, I1⟩
theorem zt_17 (hy : zHy L i W) (hR : zR K x x S) (hI : zInv W x K T) (d : Nat) : zNx d W i T (zg (zin (zI i + (1 : Int32)) (S.1 16 1 0).toNatClampNeg) ( zg (zin (zI i + (2 : Int32)) (S.1 16 1 0).toNatClampNeg) ( zg (zin (zI i + (3 : Int32)) (S.1 16 1 0).toNatClampNeg) ( zg (zin (zI i + (4 : Int32)) (S.1 16 1 0).toNatClampNeg) ( (zX_laid (d + 60) (S.1 16 0 (zx (zI i + (1 : Int32)))) (S.1 16 0 (zx (zI i + (2 : Int32)))) (S.1 16 0 (zx (zI i + (3 : Int32)))) (S.1 16 0 (zx (zI i + (4 : Int32)))) S).bind (fun r31 => zg (zin (zI i + (1 : Int32)) (r31.2.1 16 1 0).toNatClampNeg) ( zg (zin (zI i + (2 : Int32)) (r31.2.1 16 1 0).toNatClampNeg) ( zg (zin (zI i + (3 : Int32)) (r31.2.1 16 1 0).toNatClampNeg) ( zg (zin (zI i + (4 : Int32)) (r31.2.1 16 1 0).toNatClampNeg) ( (zM_laid (d + 60) (r31.2.1 16 0 (zx (zI i + (1 : Int32)))) (r31.2.1 16 0 (zx (zI i + (2 : Int32)))) (r31.2.1 16 0 (zx (zI i + (3 : Int32)))) (r31.2.1 16 0 (zx (zI i + (4 : Int32)))) r31.2).bind (fun r32 => zif (r31.1 = r32.1) ( zY_law_23 (d + 60) (zI i + (7 : Int32)) r32.2) ( some ((0 : Int32), r32.2))))))))))))) := by
  have hS := zSW hR hI.2.2.2.2.2.1
  have gd := hI.1.1
  have gb := hI.1.2
  have g1 : zin (zI i + (1 : Int32)) (W 1 0).toNatClampNeg = true := q_Gj hy (j := 1) (by omega)
  have g2 : zin (zI i + (2 : Int32)) (W 1 0).toNatClampNeg = true := q_Gj hy (j := 2) (by omega)
  have g3 : zin (zI i + (3 : Int32)) (W 1 0).toNatClampNeg = true := q_Gj hy (j := 3) (by omega)
  have g4 : zin (zI i + (4 : Int32)) (W 1 0).toNatClampNeg = true := q_Gj hy (j := 4) (by omega)
  rw [hS, zg_t g1, zg_t g2, zg_t g3, zg_t g4]
  obtain ⟨r1, e1, u, v1, ld, R1⟩ := zX_laid_s hR gd (d + 25) (l := (W 0 (zx (zI i + (1 : Int32)))).toInt) (v := (W 0 (zx (zI i + (2 : Int32)))).toInt) (m := (W 0 (zx (zI i + (3 : Int32)))).toInt) (w := (W 0 (zx (zI i + (4 : Int32)))).toInt) (q_lo _) (q_hi _) (q_lo _) (q_hi _) (q_lo _) (q_hi _) (q_lo _) (q_hi _)
  simp only [zI_ti] at e1
  have e1 : zX_laid (d + 60) (W 0 (zx (zI i + (1 : Int32)))) (W 0 (zx (zI i + (2 : Int32)))) (W 0 (zx (zI i + (3 : Int32)))) (W 0 (zx (zI i + (4 : Int32)))) S = some r1 := e1
  have I1 := zInv_r hI
  have hS1 := zSW R1 I1.2.2.2.2.2.1
  rw [e1, zBs, hS1, zg_t g1, zg_t g2, zg_t g3, zg_t g4]
  obtain ⟨r2, e2, u', v2, ld', R2⟩ := zM_laid_s R1 gd hI.2.1.1 hI.2.1.2 (d + 54) (l := (W 0 (zx (zI i + (1 : Int32)))).toInt) (v := (W 0 (zx (zI i + (2 : Int32)))).toInt) (m := (W 0 (zx (zI i + (3 : Int32)))).toInt) (w := (W 0 (zx (zI i + (4 : Int32)))).toInt) (q_lo _) (q_hi _) (q_lo _) (q_hi _) (q_lo _) (q_hi _) (q_lo _) (q_hi _)
  simp only [zI_ti] at e2
  have e2 : zM_laid (d + 60) (W 0 (zx (zI i + (1 : Int32)))) (W 0 (zx (zI i + (2 : Int32)))) (W 0 (zx (zI i + (3 : Int32)))) (W 0 (zx (zI i + (4 : Int32)))) r1.2 = some r2 := e2
  rw [e2, zBs, zif_pos (v1.trans ((congrArg zI (zLd_u ld ld')).trans v2.symm))]
  exact ⟨r2.2, _, _, rfl, R2, I1⟩
theorem zt_18 (hy : zHy L i W) (hR : zR K x x S) (hI : zInv W x K T) (d : Nat) : zNx d W i T (zg (zin (zI i + (1 : Int32)) (S.1 16 1 0).toNatClampNeg) ( zg (zin (zI i + (2 : Int32)) (S.1 16 1 0).toNatClampNeg) ( zg (zin (zI i + (3 : Int32)) (S.1 16 1 0).toNatClampNeg) ( (zX_lost (d + 60) (S.1 16 0 (zx (zI i + (1 : Int32)))) (S.1 16 0 (zx (zI i + (2 : Int32)))) (S.1 16 0 (zx (zI i + (3 : Int32)))) S).bind (fun r33 => zg (zin (zI i + (1 : Int32)) (r33.2.1 16 1 0).toNatClampNeg) ( zg (zin (zI i + (2 : Int32)) (r33.2.1 16 1 0).toNatClampNeg) ( zg (zin (zI i + (3 : Int32)) (r33.2.1 16 1 0).toNatClampNeg) ( (zM_lost (d + 60) (r33.2.1 16 0 (zx (zI i + (1 : Int32)))) (r33.2.1 16 0 (zx (zI i + (2 : Int32)))) (r33.2.1 16 0 (zx (zI i + (3 : Int32)))) r33.2).bind (fun r34 => zif (r33.1 = r34.1) ( zY_law_23 (d + 60) (zI i + (7 : Int32)) r34.2) ( some ((0 : Int32), r34.2))))))))))) := by
  have hS := zSW hR hI.2.2.2.2.2.1
  have gd := hI.1.1
  have gb := hI.1.2
  have g1 : zin (zI i + (1 : Int32)) (W 1 0).toNatClampNeg = true := q_Gj hy (j := 1) (by omega)
  have g2 : zin (zI i + (2 : Int32)) (W 1 0).toNatClampNeg = true := q_Gj hy (j := 2) (by omega)
  have g3 : zin (zI i + (3 : Int32)) (W 1 0).toNatClampNeg = true := q_Gj hy (j := 3) (by omega)
  rw [hS, zg_t g1, zg_t g2, zg_t g3]
  obtain ⟨r1, e1, v1, R1⟩ := zX_lost_s hR gd.1 (d + 48) (r := (W 0 (zx (zI i + (1 : Int32)))).toInt) (l := (W 0 (zx (zI i + (2 : Int32)))).toInt) (k := (W 0 (zx (zI i + (3 : Int32)))).toInt) (q_lo _) (q_hi _) (q_lo _) (q_hi _) (q_lo _) (q_hi _)
  simp only [zI_ti] at e1
  have e1 : zX_lost (d + 60) (W 0 (zx (zI i + (1 : Int32)))) (W 0 (zx (zI i + (2 : Int32)))) (W 0 (zx (zI i + (3 : Int32)))) S = some r1 := e1
  have I1 := (show zInv W (sLost x (W 0 (zx (zI i + (1 : Int32)))).toInt (W 0 (zx (zI i + (2 : Int32)))).toInt (W 0 (zx (zI i + (3 : Int32)))).toInt).2 K (T + 1) from zInv_r hI)
  have hS1 := zSW R1 I1.2.2.2.2.2.1
  rw [e1, zBs, hS1, zg_t g1, zg_t g2, zg_t g3]
  obtain ⟨r2, e2, v2, R2⟩ := zM_lost_s R1 gd.1 hI.2.2.2.2.1.2.2.1 (d + 56) (r := (W 0 (zx (zI i + (1 : Int32)))).toInt) (l := (W 0 (zx (zI i + (2 : Int32)))).toInt) (k := (W 0 (zx (zI i + (3 : Int32)))).toInt) (q_lo _) (q_hi _) (q_lo _) (q_hi _) (q_lo _) (q_hi _)
  simp only [zI_ti] at e2
  have e2 : zM_lost (d + 60) (W 0 (zx (zI i + (1 : Int32)))) (W 0 (zx (zI i + (2 : Int32)))) (W 0 (zx (zI i + (3 : Int32)))) r1.2 = some r2 := e2
  rw [e2, zBs, zif_pos (v1.trans v2.symm)]
  exact ⟨r2.2, _, _, rfl, R2, I1⟩
theorem zt_19 (hy : zHy L i W) (hR : zR K x x S) (hI : zInv W x K T) (d : Nat) : zNx d W i T (zg (zin (zI i + (1 : Int32)) (S.1 16 1 0).toNatClampNeg) ( zg (zin (zI i + (2 : Int32)) (S.1 16 1 0).toNatClampNeg) ( zg (zin (zI i + (3 : Int32)) (S.1 16 1 0).toNatClampNeg) ( zg (zin (zI i + (4 : Int32)) (S.1 16 1 0).toNatClampNeg) ( (zX_more (d + 60) (S.1 16 0 (zx (zI i + (1 : Int32)))) (S.1 16 0 (zx (zI i + (2 : Int32)))) (S.1 16 0 (zx (zI i + (3 : Int32)))) (S.1 16 0 (zx (zI i + (4 : Int32)))) S).bind (fun r35 => zg (zin (zI i + (1 : Int32)) (r35.2.1 16 1 0).toNatClampNeg) ( zg (zin (zI i + (2 : Int32)) (r35.2.1 16 1 0).toNatClampNeg) ( zg (zin (zI i + (3 : Int32)) (r35.2.1 16 1 0).toNatClampNeg) ( zg (zin (zI i + (4 : Int32)) (r35.2.1 16 1 0).toNatClampNeg) ( (zM_more (d + 60) (r35.2.1 16 0 (zx (zI i + (1 : Int32)))) (r35.2.1 16 0 (zx (zI i + (2 : Int32)))) (r35.2.1 16 0 (zx (zI i + (3 : Int32)))) (r35.2.1 16 0 (zx (zI i + (4 : Int32)))) r35.2).bind (fun r36 => zif (r35.1 = r36.1) ( zY_law_23 (d + 60) (zI i + (7 : Int32)) r36.2) ( some ((0 : Int32), r36.2))))))))))))) := by
  have hS := zSW hR hI.2.2.2.2.2.1
  have gd := hI.1.1
  have gb := hI.1.2
  have g1 : zin (zI i + (1 : Int32)) (W 1 0).toNatClampNeg = true := q_Gj hy (j := 1) (by omega)
  have g2 : zin (zI i + (2 : Int32)) (W 1 0).toNatClampNeg = true := q_Gj hy (j := 2) (by omega)
  have g3 : zin (zI i + (3 : Int32)) (W 1 0).toNatClampNeg = true := q_Gj hy (j := 3) (by omega)
  have g4 : zin (zI i + (4 : Int32)) (W 1 0).toNatClampNeg = true := q_Gj hy (j := 4) (by omega)
  rw [hS, zg_t g1, zg_t g2, zg_t g3, zg_t g4]
  obtain ⟨r1, e1, v1, R1⟩ := zX_more_s hR gd.1 (d + 48) (r := (W 0 (zx (zI i + (1 : Int32)))).toInt) (l := (W 0 (zx (zI i + (2 : Int32)))).toInt) (k := (W 0 (zx (zI i + (3 : Int32)))).toInt) (m := (W 0 (zx (zI i + (4 : Int32)))).toInt) (q_lo _) (q_hi _) (q_lo _) (q_hi _) (q_lo _) (q_hi _) (q_lo _) (q_hi _)
  simp only [zI_ti] at e1
  have e1 : zX_more (d + 60) (W 0 (zx (zI i + (1 : Int32)))) (W 0 (zx (zI i + (2 : Int32)))) (W 0 (zx (zI i + (3 : Int32)))) (W 0 (zx (zI i + (4 : Int32)))) S = some r1 := e1
  have I1 := (show zInv W (sMore x (W 0 (zx (zI i + (1 : Int32)))).toInt (W 0 (zx (zI i + (2 : Int32)))).toInt (W 0 (zx (zI i + (3 : Int32)))).toInt (W 0 (zx (zI i + (4 : Int32)))).toInt).2 K (T + 1) from zInv_r hI)
  have hS1 := zSW R1 I1.2.2.2.2.2.1
  rw [e1, zBs, hS1, zg_t g1, zg_t g2, zg_t g3, zg_t g4]
  obtain ⟨r2, e2, v2, R2⟩ := zM_more_s R1 gd.1 hI.2.2.2.2.1.2.2.1 (d + 56) (r := (W 0 (zx (zI i + (1 : Int32)))).toInt) (l := (W 0 (zx (zI i + (2 : Int32)))).toInt) (k := (W 0 (zx (zI i + (3 : Int32)))).toInt) (m := (W 0 (zx (zI i + (4 : Int32)))).toInt) (q_lo _) (q_hi _) (q_lo _) (q_hi _) (q_lo _) (q_hi _) (q_lo _) (q_hi _)
  simp only [zI_ti] at e2
  have e2 : zM_more (d + 60) (W 0 (zx (zI i + (1 : Int32)))) (W 0 (zx (zI i + (2 : Int32)))) (W 0 (zx (zI i + (3 : Int32)))) (W 0 (zx (zI i + (4 : Int32)))) r1.2 = some r2 := e2
  rw [e2, zBs, zif_pos (v1.trans v2.symm)]
  exact ⟨r2.2, _, _, rfl, R2, I1⟩
theorem zt_20 (hy : zHy L i W) (hR : zR K x x S) (hI : zInv W x K T) (d : Nat) : zNx d W i T (zg (zin (zI i + (1 : Int32)) (S.1 16 1 0).toNatClampNeg) ( zg (zin (zI i + (2 : Int32)) (S.1 16 1 0).toNatClampNeg) ( zg (zin (zI i + (3 : Int32)) (S.1 16 1 0).toNatClampNeg) ( (zX_test (d + 60) (S.1 16 0 (zx (zI i + (1 : Int32)))) (S.1 16 0 (zx (zI i + (2 : Int32)))) (S.1 16 0 (zx (zI i + (3 : Int32)))) S).bind (fun r37 => zg (zin (zI i + (1 : Int32)) (r37.2.1 16 1 0).toNatClampNeg) ( zg (zin (zI i + (2 : Int32)) (r37.2.1 16 1 0).toNatClampNeg) ( zg (zin (zI i + (3 : Int32)) (r37.2.1 16 1 0).toNatClampNeg) ( (zM_test (d + 60) (r37.2.1 16 0 (zx (zI i + (1 : Int32)))) (r37.2.1 16 0 (zx (zI i + (2 : Int32)))) (r37.2.1 16 0 (zx (zI i + (3 : Int32)))) r37.2).bind (fun r38 => zif (r37.1 = r38.1) ( zY_law_23 (d + 60) (zI i + (7 : Int32)) r38.2) ( some ((0 : Int32), r38.2))))))))))) := by
  have hS := zSW hR hI.2.2.2.2.2.1
  have gd := hI.1.1
  have gb := hI.1.2
  have g1 : zin (zI i + (1 : Int32)) (W 1 0).toNatClampNeg = true := q_Gj hy (j := 1) (by omega)
  have g2 : zin (zI i + (2 : Int32)) (W 1 0).toNatClampNeg = true := q_Gj hy (j := 2) (by omega)
  have g3 : zin (zI i + (3 : Int32)) (W 1 0).toNatClampNeg = true := q_Gj hy (j := 3) (by omega)
  rw [hS, zg_t g1, zg_t g2, zg_t g3]
  obtain ⟨r1, e1, v1, K', kz, tc, R1⟩ := zX_test_s hR gd hI.2.1.1 hI.2.2.1 hI.2.2.2.2.1.1 (d + 54) (l := (W 0 (zx (zI i + (1 : Int32)))).toInt) (v := (W 0 (zx (zI i + (2 : Int32)))).toInt) (m := (W 0 (zx (zI i + (3 : Int32)))).toInt) (q_lo _) (q_hi _) (q_lo _) (q_hi _) (q_lo _) (q_hi _)
  simp only [zI_ti] at e1
  have e1 : zX_test (d + 60) (W 0 (zx (zI i + (1 : Int32)))) (W 0 (zx (zI i + (2 : Int32)))) (W 0 (zx (zI i + (3 : Int32)))) S = some r1 := e1
  have I1 := zInv_test hI (W 0 (zx (zI i + (1 : Int32)))).toInt (W 0 (zx (zI i + (2 : Int32)))).toInt (W 0 (zx (zI i + (3 : Int32)))).toInt kz tc
  have hS1 := zSW R1 I1.2.2.2.2.2.1
  rw [e1, zBs, hS1, zg_t g1, zg_t g2, zg_t g3]
  obtain ⟨r2, e2, v2, R2⟩ := zM_test_s R1 gd hI.2.1.1 hI.2.1.2 hI.2.2.1 (d + 56) (l := (W 0 (zx (zI i + (1 : Int32)))).toInt) (v := (W 0 (zx (zI i + (2 : Int32)))).toInt) (m := (W 0 (zx (zI i + (3 : Int32)))).toInt) (q_lo _) (q_hi _) (q_lo _) (q_hi _) (q_lo _) (q_hi _)
  simp only [zI_ti] at e2
  have e2 : zM_test (d + 60) (W 0 (zx (zI i + (1 : Int32)))) (W 0 (zx (zI i + (2 : Int32)))) (W 0 (zx (zI i + (3 : Int32)))) r1.2 = some r2 := e2
  rw [e2, zBs, zif_pos (v1.trans v2.symm)]
  exact ⟨r2.2, _, _, rfl, R2, I1⟩
theorem zt_21 (hy : zHy L i W) (hR : zR K x x S) (hI : zInv W x K T) (d : Nat) : zNx d W i T (zg (zin (zI i + (1 : Int32)) (S.1 16 1 0).toNatClampNeg) ( (zX_explain (d + 60) (S.1 16 0 (zx (zI i + (1 : Int32)))) S).bind (fun r39 => zg (zin (zI i + (1 : Int32)) (r39.2.1 16 1 0).toNatClampNeg) ( (zM_explain (d + 60) (r39.2.1 16 0 (zx (zI i + (1 : Int32)))) r39.2).bind (fun r40 => zif (r39.1 = r40.1) ( zY_law_23 (d + 60) (zI i + (7 : Int32)) r40.2) ( some ((0 : Int32), r40.2))))))) := by
  have hS := zSW hR hI.2.2.2.2.2.1
  have gd := hI.1.1
  have gb := hI.1.2
  have g1 : zin (zI i + (1 : Int32)) (W 1 0).toNatClampNeg = true := q_Gj hy (j := 1) (by omega)
  rw [hS, zg_t g1]
  obtain ⟨r1, e1, u, v1, ld, R1⟩ := zX_explain_s hR gd.1 hI.2.2.2.2.1.1 hI.2.2.1 (d + 51) (w := (W 0 (zx (zI i + (1 : Int32)))).toInt) (q_lo _) (q_hi _)
  simp only [zI_ti] at e1
  have e1 : zX_explain (d + 60) (W 0 (zx (zI i + (1 : Int32)))) S = some r1 := e1
  have I1 := zInv_r hI
  have hS1 := zSW R1 I1.2.2.2.2.2.1
  rw [e1, zBs, hS1, zg_t g1]
  obtain ⟨r2, e2, u', v2, ld', R2⟩ := zM_explain_s R1 gd.1 (zTb_c hI.2.2.2.2.1.1) hI.2.2.1 (d + 56) (w := (W 0 (zx (zI i + (1 : Int32)))).toInt) (q_lo _) (q_hi _)
  simp only [zI_ti] at e2
  have e2 : zM_explain (d + 60) (W 0 (zx (zI i + (1 : Int32)))) r1.2 = some r2 := e2
  rw [e2, zBs, zif_pos (v1.trans ((congrArg zI (zExp_u ld ld')).trans v2.symm))]
  exact ⟨r2.2, _, _, rfl, R2, I1⟩
theorem zt_22 (hy : zHy L i W) (hR : zR K x x S) (hI : zInv W x K T) (d : Nat) : zNx d W i T (zg (zin (zI i + (1 : Int32)) (S.1 16 1 0).toNatClampNeg) ( (zX_sure (d + 60) (S.1 16 0 (zx (zI i + (1 : Int32)))) S).bind (fun r41 => zg (zin (zI i + (1 : Int32)) (r41.2.1 16 1 0).toNatClampNeg) ( (zM_sure (d + 60) (r41.2.1 16 0 (zx (zI i + (1 : Int32)))) r41.2).bind (fun r42 => zif (r41.1 = r42.1) ( zY_law_23 (d + 60) (zI i + (7 : Int32)) r42.2) ( some ((0 : Int32), r42.2))))))) := by
  have hS := zSW hR hI.2.2.2.2.2.1
  have gd := hI.1.1
  have gb := hI.1.2
  have g1 : zin (zI i + (1 : Int32)) (W 1 0).toNatClampNeg = true := q_Gj hy (j := 1) (by omega)
  rw [hS, zg_t g1]
  obtain ⟨r1, e1, u, v1, ld, R1⟩ := zX_sure_s hR gd.1 hI.2.2.2.2.1.1 hI.2.2.1 (d + 51) (a := (W 0 (zx (zI i + (1 : Int32)))).toInt) (q_lo _) (q_hi _)
  simp only [zI_ti] at e1
  have e1 : zX_sure (d + 60) (W 0 (zx (zI i + (1 : Int32)))) S = some r1 := e1
  have I1 := zInv_r hI
  have hS1 := zSW R1 I1.2.2.2.2.2.1
  rw [e1, zBs, hS1, zg_t g1]
  obtain ⟨r2, e2, u', v2, ld', R2⟩ := zM_sure_s R1 gd.1 (zTb_c hI.2.2.2.2.1.1) hI.2.2.1 (d + 56) (a := (W 0 (zx (zI i + (1 : Int32)))).toInt) (q_lo _) (q_hi _)
  simp only [zI_ti] at e2
  have e2 : zM_sure (d + 60) (W 0 (zx (zI i + (1 : Int32)))) r1.2 = some r2 := e2
  rw [e2, zBs, zif_pos (v1.trans ((congrArg zI (zSur_u ld ld')).trans v2.symm))]
  exact ⟨r2.2, _, _, rfl, R2, I1⟩
theorem zt_23 (hy : zHy L i W) (hR : zR K x x S) (hI : zInv W x K T) (d : Nat) : zNx d W i T ((zX_forget (d + 60) S).bind (fun r43 => (zM_forget (d + 60) r43.2).bind (fun r44 => zif (r43.1 = r44.1) ( zY_law_23 (d + 60) (zI i + (7 : Int32)) r44.2) ( some ((0 : Int32), r44.2))))) := by
  have hS := zSW hR hI.2.2.2.2.2.1
  have gd := hI.1.1
  have gb := hI.1.2
  obtain ⟨r1, e1, v1, R1⟩ := zX_forget_s hR (d + 59)
  have e1 : zX_forget (d + 60)  S = some r1 := e1
  have I1 := zInv_forget hI
  have hS1 := zSW R1 I1.2.2.2.2.2.1
  rw [e1, zBs]
  obtain ⟨r2, e2, v2, R2⟩ := zM_forget_s R1 (d + 59)
  have e2 : zM_forget (d + 60)  r1.2 = some r2 := e2
  rw [e2, zBs, zif_pos (v1.trans v2.symm)]
  exact ⟨r2.2, _, _, rfl, R2, I1⟩
theorem zt_25 (hy : zHy L i W) (hR : zR K x x S) (hI : zInv W x K T) (d : Nat) : zNx d W i T (zg (zin (zI i + (1 : Int32)) (S.1 16 1 0).toNatClampNeg) ( zg (zin (zI i + (2 : Int32)) (S.1 16 1 0).toNatClampNeg) ( (zX_path (d + 60) (S.1 16 0 (zx (zI i + (1 : Int32)))) (S.1 16 0 (zx (zI i + (2 : Int32)))) S).bind (fun r48 => zg (zin (zI i + (1 : Int32)) (r48.2.1 16 1 0).toNatClampNeg) ( zg (zin (zI i + (2 : Int32)) (r48.2.1 16 1 0).toNatClampNeg) ( (zM_path (d + 60) (r48.2.1 16 0 (zx (zI i + (1 : Int32)))) (r48.2.1 16 0 (zx (zI i + (2 : Int32)))) r48.2).bind (fun r49 => zif (r48.1 = r49.1) ( zY_law_23 (d + 60) (zI i + (7 : Int32)) r49.2) ( some ((0 : Int32), r49.2))))))))) := by
  have hS := zSW hR hI.2.2.2.2.2.1
  have gd := hI.1.1
  have gb := hI.1.2
  have g1 : zin (zI i + (1 : Int32)) (W 1 0).toNatClampNeg = true := q_Gj hy (j := 1) (by omega)
  have g2 : zin (zI i + (2 : Int32)) (W 1 0).toNatClampNeg = true := q_Gj hy (j := 2) (by omega)
  rw [hS, zg_t g1, zg_t g2]
  obtain ⟨r1, e1, v1, R1⟩ := zX_path_s hR gd.1 gd.2.1 (d + 58) (l := (W 0 (zx (zI i + (1 : Int32)))).toInt) (i := (W 0 (zx (zI i + (2 : Int32)))).toInt) (q_lo _) (q_hi _) (q_lo _) (q_hi _)
  simp only [zI_ti] at e1
  have e1 : zX_path (d + 60) (W 0 (zx (zI i + (1 : Int32)))) (W 0 (zx (zI i + (2 : Int32)))) S = some r1 := e1
  have I1 := (show zInv W (sPath x (W 0 (zx (zI i + (1 : Int32)))).toInt (W 0 (zx (zI i + (2 : Int32)))).toInt).2 K (T + 1) from zInv_r hI)
  have hS1 := zSW R1 I1.2.2.2.2.2.1
  rw [e1, zBs, hS1, zg_t g1, zg_t g2]
  obtain ⟨r2, e2, v2, R2⟩ := zM_path_s R1 gd.1 gd.2.1 (d + 57) (l := (W 0 (zx (zI i + (1 : Int32)))).toInt) (i := (W 0 (zx (zI i + (2 : Int32)))).toInt) (q_lo _) (q_hi _) (q_lo _) (q_hi _)
  simp only [zI_ti] at e2
  have e2 : zM_path (d + 60) (W 0 (zx (zI i + (1 : Int32)))) (W 0 (zx (zI i + (2 : Int32)))) r1.2 = some r2 := e2
  rw [e2, zBs, zif_pos (v1.trans v2.symm)]
  exact ⟨r2.2, _, _, rfl, R2, I1⟩
theorem zt_26 (hy : zHy L i W) (hR : zR K x x S) (hI : zInv W x K T) (d : Nat) : zNx d W i T (zg (zin (zI i + (1 : Int32)) (S.1 16 1 0).toNatClampNeg) ( (zX_held (d + 60) (S.1 16 0 (zx (zI i + (1 : Int32)))) S).bind (fun r50 => zg (zin (zI i + (1 : Int32)) (r50.2.1 16 1 0).toNatClampNeg) ( (zM_held (d + 60) (r50.2.1 16 0 (zx (zI i + (1 : Int32)))) r50.2).bind (fun r51 => zif (r50.1 = r51.1) ( zY_law_23 (d + 60) (zI i + (7 : Int32)) r51.2) ( some ((0 : Int32), r51.2))))))) := by
  have hS := zSW hR hI.2.2.2.2.2.1
  have gd := hI.1.1
  have gb := hI.1.2
  have g1 : zin (zI i + (1 : Int32)) (W 1 0).toNatClampNeg = true := q_Gj hy (j := 1) (by omega)
  rw [hS, zg_t g1]
  obtain ⟨r1, e1, v1, R1⟩ := zX_held_s hR gd.1 (d + 57) (a := (W 0 (zx (zI i + (1 : Int32)))).toInt) (q_lo _) (q_hi _)
  simp only [zI_ti] at e1
  have e1 : zX_held (d + 60) (W 0 (zx (zI i + (1 : Int32)))) S = some r1 := e1
  have I1 := (show zInv W (sHeld x (W 0 (zx (zI i + (1 : Int32)))).toInt).2 K (T + 1) from zInv_r hI)
  have hS1 := zSW R1 I1.2.2.2.2.2.1
  rw [e1, zBs, hS1, zg_t g1]
  obtain ⟨r2, e2, v2, R2⟩ := zM_held_s R1 gd.1 (d + 57) (a := (W 0 (zx (zI i + (1 : Int32)))).toInt) (q_lo _) (q_hi _)
  simp only [zI_ti] at e2
  have e2 : zM_held (d + 60) (W 0 (zx (zI i + (1 : Int32)))) r1.2 = some r2 := e2
  rw [e2, zBs, zif_pos (v1.trans v2.symm)]
  exact ⟨r2.2, _, _, rfl, R2, I1⟩
theorem zt_27 (hy : zHy L i W) (hR : zR K x x S) (hI : zInv W x K T) (d : Nat) : zNx d W i T (zg (zin (zI i + (1 : Int32)) (S.1 16 1 0).toNatClampNeg) ( zg (zin (zI i + (2 : Int32)) (S.1 16 1 0).toNatClampNeg) ( (zX_book (d + 60) (S.1 16 0 (zx (zI i + (1 : Int32)))) (S.1 16 0 (zx (zI i + (2 : Int32)))) S).bind (fun r52 => zg (zin (zI i + (1 : Int32)) (r52.2.1 16 1 0).toNatClampNeg) ( zg (zin (zI i + (2 : Int32)) (r52.2.1 16 1 0).toNatClampNeg) ( (zM_book (d + 60) (r52.2.1 16 0 (zx (zI i + (1 : Int32)))) (r52.2.1 16 0 (zx (zI i + (2 : Int32)))) r52.2).bind (fun r53 => zif (r52.1 = r53.1) ( zY_law_23 (d + 60) (zI i + (7 : Int32)) r53.2) ( some ((0 : Int32), r53.2))))))))) := by
  have hS := zSW hR hI.2.2.2.2.2.1
  have gd := hI.1.1
  have gb := hI.1.2
  have g1 : zin (zI i + (1 : Int32)) (W 1 0).toNatClampNeg = true := q_Gj hy (j := 1) (by omega)
  have g2 : zin (zI i + (2 : Int32)) (W 1 0).toNatClampNeg = true := q_Gj hy (j := 2) (by omega)
  rw [hS, zg_t g1, zg_t g2]
  obtain ⟨r1, e1, v1, R1⟩ := zX_book_s hR gb (d + 57) (i := (W 0 (zx (zI i + (1 : Int32)))).toInt) (w := (W 0 (zx (zI i + (2 : Int32)))).toInt) (q_lo _) (q_hi _) (q_lo _) (q_hi _)
  simp only [zI_ti] at e1
  have e1 : zX_book (d + 60) (W 0 (zx (zI i + (1 : Int32)))) (W 0 (zx (zI i + (2 : Int32)))) S = some r1 := e1
  have I1 := (show zInv W (sBook x (W 0 (zx (zI i + (1 : Int32)))).toInt (W 0 (zx (zI i + (2 : Int32)))).toInt).2 K (T + 1) from zInv_r hI)
  have hS1 := zSW R1 I1.2.2.2.2.2.1
  rw [e1, zBs, hS1, zg_t g1, zg_t g2]
  obtain ⟨r2, e2, v2, R2⟩ := zM_book_s R1 gb (d + 57) (i := (W 0 (zx (zI i + (1 : Int32)))).toInt) (w := (W 0 (zx (zI i + (2 : Int32)))).toInt) (q_lo _) (q_hi _) (q_lo _) (q_hi _)
  simp only [zI_ti] at e2
  have e2 : zM_book (d + 60) (W 0 (zx (zI i + (1 : Int32)))) (W 0 (zx (zI i + (2 : Int32)))) r1.2 = some r2 := e2
  rw [e2, zBs, zif_pos (v1.trans v2.symm)]
  exact ⟨r2.2, _, _, rfl, R2, I1⟩
theorem zt_28 (hy : zHy L i W) (hR : zR K x x S) (hI : zInv W x K T) (d : Nat) : zNx d W i T (zg (zin (zI i + (1 : Int32)) (S.1 16 1 0).toNatClampNeg) ( (zX_count (d + 60) (S.1 16 0 (zx (zI i + (1 : Int32)))) S).bind (fun r54 => zg (zin (zI i + (1 : Int32)) (r54.2.1 16 1 0).toNatClampNeg) ( (zM_count (d + 60) (r54.2.1 16 0 (zx (zI i + (1 : Int32)))) r54.2).bind (fun r55 => zif (r54.1 = r55.1) ( zY_law_23 (d + 60) (zI i + (7 : Int32)) r55.2) ( some ((0 : Int32), r55.2))))))) := by
  have hS := zSW hR hI.2.2.2.2.2.1
  have gd := hI.1.1
  have gb := hI.1.2
  have g1 : zin (zI i + (1 : Int32)) (W 1 0).toNatClampNeg = true := q_Gj hy (j := 1) (by omega)
  rw [hS, zg_t g1]
  obtain ⟨r1, e1, v1, R1⟩ := zX_count_s hR gd.1 (zTf_l hI.2.2.2.2.1.2.1) (d + 57) (w := (W 0 (zx (zI i + (1 : Int32)))).toInt) (q_lo _) (q_hi _)
  simp only [zI_ti] at e1
  have e1 : zX_count (d + 60) (W 0 (zx (zI i + (1 : Int32)))) S = some r1 := e1
  have I1 := (show zInv W (sCount x (W 0 (zx (zI i + (1 : Int32)))).toInt).2 K (T + 1) from zInv_r hI)
  have hS1 := zSW R1 I1.2.2.2.2.2.1
  rw [e1, zBs, hS1, zg_t g1]
  obtain ⟨r2, e2, v2, R2⟩ := zM_count_s R1 gd.1 (d + 57) (w := (W 0 (zx (zI i + (1 : Int32)))).toInt) (q_lo _) (q_hi _)
  simp only [zI_ti] at e2
  have e2 : zM_count (d + 60) (W 0 (zx (zI i + (1 : Int32)))) r1.2 = some r2 := e2
  rw [e2, zBs, zif_pos (v1.trans v2.symm)]
  exact ⟨r2.2, _, _, rfl, R2, I1⟩
theorem zR_17 {y : ZW} (h : zR K x y S) (k : Nat) (v : Int64) : zR K x y (S.1, zu S.2.1 17 0 k v, S.2.2) := by
  obtain ⟨h1, h2, h3, h4, h5, h6, h7⟩ := h
  refine ⟨h1, h2, h3, ⟨h4.1, fun t ht i k' => ?_, h4.2.2⟩, h5, h6, h7⟩
  exact (zu_tag S.2.1 (by omega)).trans (h4.2.1 t ht i k')
theorem zR_18 {y : ZW} (h : zR K x y S) (a b : Nat) : zR (K.1, K.2.1, K.2.2.1, K.2.2.2.1, K.2.2.2.2.1 + a, K.2.2.2.2.2 + b) x y (S.1, S.2.1, S.2.2.1, S.2.2.2.1, S.2.2.2.2.1 + a, S.2.2.2.2.2 + b) := by
  obtain ⟨h1, h2, h3, h4, h5, h6, h7⟩ := h
  refine ⟨h1, h2, h3, ⟨h4.1, h4.2.1, h4.2.2.1, ?_⟩, h5, h6, h7⟩
  show (S.2.2.2.2.1 + a, S.2.2.2.2.2 + b) = (K.2.2.2.2.1 + a, K.2.2.2.2.2 + b)
  rw [h4.2.2.2]
theorem zt_24 (hy : zHy L i W) (hR : zR K x x S) (hI : zInv W x K T) (d : Nat) : zNx d W i T (zg (zin (zI i + (1 : Int32)) (S.1 16 1 0).toNatClampNeg) ( zg (zin (zI i + (2 : Int32)) (S.1 16 1 0).toNatClampNeg) ( (zci (zcall (d + 60)) 1008 [zr 10 0, zi (S.1 16 0 (zx (zI i + (1 : Int32)))), zi (S.1 16 0 (zx (zI i + (2 : Int32)))), zr 17 0] S).bind (fun r45 => zg (zin (zI i + (1 : Int32)) (r45.2.1 16 1 0).toNatClampNeg) ( zg (zin (zI i + (2 : Int32)) (r45.2.1 16 1 0).toNatClampNeg) ( (zM_look (d + 60) (r45.2.1 16 0 (zx (zI i + (1 : Int32)))) (r45.2.1 16 0 (zx (zI i + (2 : Int32)))) r45.2).bind (fun r46 => (zM_thrown (d + 60) r46.2).bind (fun r47 => zif (r47.1 = r45.1) ( zif (r45.1 = 0) ( zg (zin (0 : Int32) 1) ( zif ((lg_cmp (r47.2.2.1 17 0 (zx (0 : Int32))) r46.1.toInt64) = 0) ( zY_law_23 (d + 60) (zI i + (7 : Int32)) r47.2) ( some ((0 : Int32), r47.2)))) ( zY_law_23 (d + 60) (zI i + (7 : Int32)) r47.2)) ( some ((0 : Int32), r47.2)))))))))) := by
  have hS := zSW hR hI.2.2.2.2.2.1
  have gd := hI.1.1
  have b11 := zG11 gd.1
  have g1 : zin (zI i + (1 : Int32)) (W 1 0).toNatClampNeg = true := q_Gj hy (j := 1) (by omega)
  have g2 : zin (zI i + (2 : Int32)) (W 1 0).toNatClampNeg = true := q_Gj hy (j := 2) (by omega)
  obtain ⟨a, a1, a2, ea⟩ := zI_ex (W 0 (zx (zI i + (1 : Int32))))
  obtain ⟨w, w1, w2, ew⟩ := zI_ex (W 0 (zx (zI i + (2 : Int32))))
  have z0 : zx (0 : Int32) = 0 := rfl
  have prim : zcall (d + 60) 1008 [zr 10 0, zi (zI a), zi (zI w), zr 17 0] S = (if 0 ≤ zI a ∧ zI a < S.1 0 0 3 ∧ 0 ≤ zI w ∧ zI w ≤ 5 then (zci (zcall (d + 59)) zlook [zr 10 0, zi (zI a), zi (zI w)] S).bind (fun r => some (some (.inl 0), (r.2.1, zu r.2.2.1 17 0 0 r.1.toInt64, r.2.2.2))) else some (some (.inl 1), (S.1, S.2.1, S.2.2.1, S.2.2.2.1, S.2.2.2.2.1 + 1, S.2.2.2.2.2 + 8))) := rfl
  have cond : (0 ≤ zI a ∧ zI a < S.1 0 0 3 ∧ 0 ≤ zI w ∧ zI w ≤ 5) = (zLn x a ∧ 0 ≤ w ∧ w ≤ 5) := by
    have q1 : (0 ≤ zI a) = (0 ≤ a) := zI_le (a := 0) (b := a) (by omega) (by omega) (by omega) (by omega)
    have q2 : (0 ≤ zI w) = (0 ≤ w) := zI_le (a := 0) (b := w) (by omega) (by omega) (by omega) (by omega)
    have q3 : (zI w ≤ 5) = (w ≤ 5) := zI_le (a := w) (b := 5) (by omega) (by omega) (by omega) (by omega)
    rw [q1, q2, q3, zRc11 hR, zI_lt (by omega) (by omega) (by omega) (by omega)]
    apply propext
    unfold zLn
    omega
  rw [hS, zg_t g1, zg_t g2, ea, ew]
  by_cases hc : zLn x a ∧ 0 ≤ w ∧ w ≤ 5
  · have e0 : zX_look (d + 59) (zI a) (zI w) S = some (zI (sLookV x a w), S) := zX_look_s hR gd.1 (zHn gd) (d + 56) hc.1 hc.2
    have e0 : zci (zcall (d + 59)) zlook [zr 10 0, zi (zI a), zi (zI w)] S = some (zI (sLookV x a w), S) := e0
    have e1 : zci (zcall (d + 60)) 1008 [zr 10 0, zi (zI a), zi (zI w), zr 17 0] S = some ((0 : Int32), (S.1, zu S.2.1 17 0 0 (zI (sLookV x a w)).toInt64, S.2.2)) := by
      unfold zci
      rw [prim, if_pos (by rw [cond]; exact hc), e0, zBs]
      rfl
    have R1 := zR_17 hR 0 (zI (sLookV x a w)).toInt64
    have hS1 := zSW R1 hI.2.2.2.2.2.1
    obtain ⟨r2, e2, v2, t2, R2⟩ := zM_look_s R1 gd.1 (zHn gd) (d + 57) a1 a2 w1 w2
    obtain ⟨r3, e3, f3⟩ := zM_look_f R1 gd.1 (zHn gd) (d + 57) a1 a2 w1 w2
    have e23 : r3 = r2 := Option.some.inj (e3.symm.trans e2)
    rw [e23] at f3
    have e2 : zM_look (d + 60) (zI a) (zI w) (S.1, zu S.2.1 17 0 0 (zI (sLookV x a w)).toInt64, S.2.2) = some r2 := e2
    rw [if_pos hc] at v2 t2
    have lv : r2.2.2.1 17 0 0 = (zI (sLookV x a w)).toInt64 := by
      rw [f3]
      exact zu_same S.2.1 17 0 0 _
    rw [e1, zBs]
    dsimp only
    dsimp only at hS1
    rw [hS1, zg_t g1, zg_t g2, ea, ew, e2, zBs, eM_thrown, zBs]
    dsimp only
    rw [t2, zif_pos (show zI 0 = (0 : Int32) from rfl), zif_pos rfl, zg_t (by decide), z0, lv, v2, zlg0, zif_pos rfl]
    exact ⟨r2.2, x, K, rfl, R2, zInv_r hI⟩
  · have e1 : zci (zcall (d + 60)) 1008 [zr 10 0, zi (zI a), zi (zI w), zr 17 0] S = some ((1 : Int32), (S.1, S.2.1, S.2.2.1, S.2.2.2.1, S.2.2.2.2.1 + 1, S.2.2.2.2.2 + 8)) := by
      unfold zci
      rw [prim, if_neg (by rw [cond]; exact hc), zBs]
      rfl
    have R1 := zR_18 hR 1 8
    have I1 : zInv W x (K.1, K.2.1, K.2.2.1, K.2.2.2.1, K.2.2.2.2.1 + 1, K.2.2.2.2.2 + 8) (T + 1) := by
      obtain ⟨q1, q2, q3, q4, ⟨q5, q6, q7⟩, q8, k1, k2⟩ := hI
      exact ⟨q1, q2, q3, q4, ⟨q5, zTf_K q6 (fun _ _ => rfl) (fun _ => rfl), q7⟩, q8, by dsimp only; omega, by dsimp only; omega⟩
    have hS1 := zSW R1 I1.2.2.2.2.2.1
    obtain ⟨r2, e2, v2, t2, R2⟩ := zM_look_s R1 gd.1 (zHn gd) (d + 57) a1 a2 w1 w2
    have e2 : zM_look (d + 60) (zI a) (zI w) (S.1, S.2.1, S.2.2.1, S.2.2.2.1, S.2.2.2.2.1 + 1, S.2.2.2.2.2 + 8) = some r2 := e2
    rw [if_neg hc] at v2 t2
    rw [e1, zBs]
    dsimp only
    dsimp only at hS1
    rw [hS1, zg_t g1, zg_t g2, ea, ew, e2, zBs, eM_thrown, zBs]
    dsimp only
    rw [t2, zif_pos (show zI 1 = (1 : Int32) from rfl), zif_neg (by decide)]
    exact ⟨r2.2, x, _, rfl, R2, I1⟩
end TU
