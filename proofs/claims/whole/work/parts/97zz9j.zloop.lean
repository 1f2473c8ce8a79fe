/-! THE LAW'S LOOP: whole -/
section LP
variable {L : Nat} {W : Nat → Nat → Int32} {x : ZW} {K S : ZS} {T : Nat} {i : Int}
theorem zTurn (hy : zHy L i W) (hR : zR K x x S) (hI : zInv W x K T) (d : Nat) : zNx d W i T (zY_law_23 (d + 60) (zI i) S) := by
  have hS := zSW hR hI.2.2.2.2.2.1
  have g0 : zin (zI i) (S.1 16 1 0).toNatClampNeg = true := by
    have := q_Gj hy (j := 0) (by omega)
    rw [zI_add, Int.add_zero] at this
    rw [hS]
    exact this
  have hend : ¬ (((Int32.ofNat (S.1 16 1 0).toNatClampNeg) - (7 : Int32)) < zI i) := by
    obtain ⟨h1, h2, h3, h4⟩ := hy
    rw [hS, h1]
    have e : (Int32.ofNat L - (7 : Int32) < zI i) = ((L : Int) - 7 < i) := by
      have e1 : Int32.ofNat L = zI (L : Int) := rfl
      rw [e1, show (7 : Int32) = zI 7 from rfl, zI_sub]
      exact zI_lt (by omega) (by omega) (by omega) (by omega)
    rw [e]
    omega
  rw [eY_law_23, zif_neg hend, zg_t g0]
  refine zNx_if (fun _ => zt_0 hy hR hI d) (fun _ => ?_)
  refine zNx_if (fun _ => zt_1 hy hR hI d) (fun _ => ?_)
  refine zNx_if (fun _ => zt_2 hy hR hI d) (fun _ => ?_)
  refine zNx_if (fun _ => zt_3 hy hR hI d) (fun _ => ?_)
  refine zNx_if (fun _ => zt_4 hy hR hI d) (fun _ => ?_)
  refine zNx_if (fun _ => zt_5 hy hR hI d) (fun _ => ?_)
  refine zNx_if (fun _ => zt_6 hy hR hI d) (fun _ => ?_)
  refine zNx_if (fun _ => zt_7 hy hR hI d) (fun _ => ?_)
  refine zNx_if (fun _ => zt_8 hy hR hI d) (fun _ => ?_)
  refine zNx_if (fun _ => zt_9 hy hR hI d) (fun _ => ?_)
  refine zNx_if (fun _ => zt_10 hy hR hI d) (fun _ => ?_)
  refine zNx_if (fun _ => zt_11 hy hR hI d) (fun _ => ?_)
  refine zNx_if (fun _ => zt_12 hR hI d) (fun _ => ?_)
  refine zNx_if (fun _ => zt_13 hy hR hI d) (fun _ => ?_)
  refine zNx_if (fun _ => zt_14 hy hR hI d) (fun _ => ?_)
  refine zNx_if (fun _ => zt_15 hy hR hI d) (fun _ => ?_)
  refine zNx_if (fun _ => zt_16 hy hR hI d) (fun _ => ?_)
  refine zNx_if (fun _ => zt_17 hy hR hI d) (fun _ => ?_)
  refine zNx_if (fun _ => zt_18 hy hR hI d) (fun _ => ?_)
  refine zNx_if (fun _ => zt_19 hy hR hI d) (fun _ => ?_)
  refine zNx_if (fun _ => zt_20 hy hR hI d) (fun _ => ?_)
  refine zNx_if (fun _ => zt_21 hy hR hI d) (fun _ => ?_)
  refine zNx_if (fun _ => zt_22 hy hR hI d) (fun _ => ?_)
  refine zNx_if (fun _ => zt_23 hy hR hI d) (fun _ => ?_)
  refine zNx_if (fun _ => zt_24 hy hR hI d) (fun _ => ?_)
  refine zNx_if (fun _ => zt_25 hy hR hI d) (fun _ => ?_)
  refine zNx_if (fun _ => zt_26 hy hR hI d) (fun _ => ?_)
  refine zNx_if (fun _ => zt_27 hy hR hI d) (fun _ => ?_)
  refine zNx_if (fun _ => zt_28 hy hR hI d) (fun _ => ?_)
  exact ⟨S, x, K, rfl, hR, zInv_r hI⟩
theorem zLoop (d : Nat) (hL : (W 1 0).toNatClampNeg = L ∧ L ≤ 3584) : ∀ (k T : Nat) (i : Int) (x : ZW) (K S : ZS), (L : Int) - i < 7 * k + 7 → 0 ≤ i → i ≤ L → 7 * (T : Int) ≤ i → zR K x x S → zInv W x K T → ∃ S', zY_law_23 (d + 60) (zI i) S = some ((1 : Int32), S') ∧ zkc S' ≤ 601024 ∧ zks S' ≤ 7293034 := by
  intro k
  have stop : ∀ (T : Nat) (i : Int) (x : ZW) (K S : ZS), (L : Int) - i < 7 → 0 ≤ i → i ≤ L → 7 * (T : Int) ≤ i → zR K x x S → zInv W x K T → ∃ S', zY_law_23 (d + 60) (zI i) S = some ((1 : Int32), S') ∧ zkc S' ≤ 601024 ∧ zks S' ≤ 7293034 := by
    intro T i x K S hk i0 i1 hT hR hI
    have hS := zSW hR hI.2.2.2.2.2.1
    have e : ((Int32.ofNat (S.1 16 1 0).toNatClampNeg) - (7 : Int32) < zI i) = ((L : Int) - 7 < i) := by
      have e1 : Int32.ofNat L = zI (L : Int) := rfl
      rw [hS, hL.1, e1, show (7 : Int32) = zI 7 from rfl, zI_sub]
      exact zI_lt (by omega) (by omega) (by omega) (by omega)
    have b11 := zG11 hI.1.1.1
    obtain ⟨k1, k2⟩ := hI.2.2.2.2.2.2
    have ec := hR.2.2.2.1.2.2.2
    refine ⟨S, ?_, ?_, ?_⟩
    · rw [eY_law_23, e, zif_pos (by omega)]
    · show S.2.2.2.2.1 ≤ 601024
      rw [ec]
      omega
    · show S.2.2.2.2.2 ≤ 7293034
      rw [ec]
      omega
  induction k with
  | zero => exact fun T i x K S hk => stop T i x K S (by omega)
  | succ k ih =>
    intro T i x K S hk i0 i1 hT hR hI
    by_cases q : (L : Int) - i < 7
    · exact stop T i x K S q i0 i1 hT hR hI
    · obtain ⟨S1, x1, K1, e1, R1, I1⟩ := zTurn (L := L) (i := i) ⟨hL.1, i0, by omega, hL.2⟩ hR hI d
      have e7 : zI i + (7 : Int32) = zI (i + 7) := zI_add i 7
      rw [e7] at e1
      rw [e1]
      exact ih (T + 1) (i + 7) x1 K1 S1 (by omega) (by omega) (by omega) (by omega) R1 I1
/-- every script's loop ends with 1, within the room -/
theorem zAll (L : Nat) (xs : Nat → Int32) (o : Option ZR) (hL : L ≤ 3584) : ∃ (d : Nat) (S' : ZS), d ≤ 1000 ∧ zY_law_23 d 0 (zS0 L xs o) = some (1, S') ∧ zkc S' ≤ 601024 ∧ zks S' ≤ 7293034 := by
  have hW : ((zS0 L xs o).1 16 1 0).toNatClampNeg = L := by
    show (zI (L : Int)).toInt.toNat = L
    rw [zI_toInt (by omega) (by omega)]
    omega
  have z : ∀ g k, g ≠ 6 → g ≠ 7 → g ≠ 8 → zx0 g k = 0 := fun g k a b c => by unfold zx0; rw [if_neg (by omega), if_neg b]
  have I0 : zInv ((zS0 L xs o).1 16) zx0 (zS0 L xs o) 0 := by
    refine ⟨⟨zx0_gd, zx0_gb⟩, ⟨fun e => z 40 e (by decide) (by decide) (by decide), fun e => z 41 e (by decide) (by decide) (by decide)⟩, ?_, zTq_0, ⟨zTC_0 _, zTf_0 L xs o, zGO_0⟩, rfl, ?_, ?_⟩
    · rw [z 35 0 (by decide) (by decide) (by decide)]
      omega
    · show 123 ≤ _
      omega
    · show 25826 ≤ _
      omega
  obtain ⟨S', e, b1, b2⟩ := zLoop (L := L) 40 ⟨hW, hL⟩ (L / 7 + 1) 0 0 zx0 (zS0 L xs o) (zS0 L xs o) (by omega) (by omega) (by omega) (by omega) (zS0_R L xs o) I0
  exact ⟨100, S', by omega, e, b1, b2⟩
end LP
