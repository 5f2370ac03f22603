/-! RULES CHANGE, AND ALL ELSE STAYS -/
theorem IF_R {N : Nat} {p q w : Int → Int} (hIF : IF N p w) (e : ∀ i, 0 ≤ i → i < 6163 → i ≠ 5 → (i < 3490 ∨ 5110 ≤ i) → q i = p i) (q0 : 0 ≤ q 5) (q1 : q 5 ≤ 12) (hRq : IR q) : IF N q w := by
  obtain ⟨⟨hB, hA, hN, hR⟩, hM, hE, hEc, hY, hC, hT, hP⟩ := hIF
  have e0 := e 0 (by omega) (by omega) (by omega) (by omega)
  have e1 := e 1 (by omega) (by omega) (by omega) (by omega)
  refine ⟨⟨?_, IA_f hB (by omega) (e 2 (by omega) (by omega) (by omega) (by omega)) (fun i i0 i1 => e i (by omega) (by omega) (by omega) (by omega)) hA, IN_f hB (by omega) (e 2 (by omega) (by omega) (by omega) (by omega)) (e 3 (by omega) (by omega) (by omega) (by omega)) (fun i i0 i1 => e i (by omega) (by omega) (by omega) (by omega)) (fun i i0 i1 => e i (by omega) (by omega) (by omega) (by omega)) hN, hRq⟩, IM_f hB (by omega) e1 (fun i i0 i1 => e i (by omega) (by omega) (by omega) (by omega)) hM, IE_f hB (by omega) (by omega) (e 4 (by omega) (by omega) (by omega) (by omega)) (fun i i0 i1 => e i (by omega) (by omega) (by omega) (by omega)) hE, ?_, ?_, ?_, IT_f hB (by omega) (e 8 (by omega) (by omega) (by omega) (by omega)) (fun i i0 i1 => e i (by omega) (by omega) (by omega) (by omega)) hT, IP_f (fun i i0 i1 => e i (by omega) (by omega) (by omega) (by omega)) hP⟩
  · unfold IB at *
    rw [e0, e1, e 2 (by omega) (by omega) (by omega) (by omega), e 3 (by omega) (by omega) (by omega) (by omega), e 4 (by omega) (by omega) (by omega) (by omega), e 6 (by omega) (by omega) (by omega) (by omega), e 7 (by omega) (by omega) (by omega) (by omega), e 8 (by omega) (by omega) (by omega) (by omega)]
    omega
  · exact ⟨(show q 4 ≤ gCap q by rw [e 4 (by omega) (by omega) (by omega) (by omega), gCap_f hB (e 3 (by omega) (by omega) (by omega) (by omega)) (e 6 (by omega) (by omega) (by omega) (by omega)) (fun i i0 i1 => e i (by omega) (by omega) (by omega) (by omega)) (fun i i0 i1 => e i (by omega) (by omega) (by omega) (by omega))]; exact hEc.1), IK_f hB (e 2 (by omega) (by omega) (by omega) (by omega)) (e 3 (by omega) (by omega) (by omega) (by omega)) (fun i i0 i1 => e i (by omega) (by omega) (by omega) (by omega)) (fun i i0 i1 => e i (by omega) (by omega) (by omega) (by omega)) hEc.2⟩
  · have y := IY_f (q := q) (by omega) (e 6 (by omega) (by omega) (by omega) (by omega)) (fun i i0 i1 => e i (by omega) (by omega) (by omega) (by omega)) hY
    exact y
  · unfold IC at *
    rw [e 6161 (by omega) (by omega) (by omega) (by omega), e 6160 (by omega) (by omega) (by omega) (by omega), e0]; exact hC
theorem RF_R {x x' : zM} {p q w : Int → Int} (hI : IX p) (e : ∀ i, 0 ≤ i → i < 6163 → i ≠ 5 → (i < 3490 ∨ 5110 ≤ i) → q i = p i) (hF : RF x p w) (hx : ∀ k, 1 ≤ k → k ≤ 158 → (k < 88 ∨ 94 < k) → x' k = x k) (hRR : RRx x' q) : RF x' q w := by
  obtain ⟨hB, hA, hN, hR⟩ := hI
  refine ⟨⟨?_, ?_, ?_, ?_, hRR⟩, ?_, ?_, ?_⟩
  · unfold RMx; simp (disch := omega) only [hx]
    exact RM_f hB (e 0 (by omega) (by omega) (by omega) (by omega)) (e 1 (by omega) (by omega) (by omega) (by omega)) (fun i i0 i1 => e i (by omega) (by omega) (by omega) (by omega)) hF.1.1
  · unfold RLx; simp (disch := omega) only [hx]
    exact RL_f hB (e 4 (by omega) (by omega) (by omega) (by omega)) (fun i i0 i1 => e i (by omega) (by omega) (by omega) (by omega)) (e 6161 (by omega) (by omega) (by omega) (by omega)) (e 6162 (by omega) (by omega) (by omega) (by omega)) hF.1.2.1
  · unfold RAx; simp (disch := omega) only [hx]
    exact RA_f hB (e 2 (by omega) (by omega) (by omega) (by omega)) (fun i i0 i1 => e i (by omega) (by omega) (by omega) (by omega)) hF.1.2.2.1
  · unfold RNx; simp (disch := omega) only [hx]
    exact RN_f hB hN (e 3 (by omega) (by omega) (by omega) (by omega)) (fun i i0 i1 => e i (by omega) (by omega) (by omega) (by omega)) (fun i i0 i1 => e i (by omega) (by omega) (by omega) (by omega)) hF.1.2.2.2.1
  · unfold RYx; simp (disch := omega) only [hx]
    exact RY_f (e 6 (by omega) (by omega) (by omega) (by omega)) (e 6160 (by omega) (by omega) (by omega) (by omega)) (fun i i0 i1 => e i (by omega) (by omega) (by omega) (by omega)) hF.2.1
  · unfold RTx; simp (disch := omega) only [hx]
    exact RT_f hB (e 8 (by omega) (by omega) (by omega) (by omega)) (e 7 (by omega) (by omega) (by omega) (by omega)) (fun i i0 i1 => e i (by omega) (by omega) (by omega) (by omega)) hF.2.2.1
  · unfold RPx; simp (disch := omega) only [hx]
    refine ⟨fun r r0 r1 => ?_, fun r k r0 r1 k0 k1 => ?_⟩
    · rw [e (5142 + r) (by omega) (by omega) (by omega) (by omega)]; exact hF.2.2.2.1 r r0 r1
    · rw [e (5110 + 8 * r + k) (by omega) (by omega) (by omega) (by omega)]; exact hF.2.2.2.2 r k r0 r1 k0 k1
/-- what lies in a row that no rule has yet does not count -/
theorem IR_n {p q : Int → Int} (hB : IB p) (e : ∀ i, 3490 ≤ i → i < 3550 + 130 * p 5 → q i = p i) (h5 : q 5 = p 5) (hR : IR p) : IR q := by
  have hb := hB; unfold IB at hb
  refine ⟨fun r r0 r1 => ?_, fun r r0 r1 => ?_, fun r r0 r1 h => ?_⟩
  · have a := hR.1 r r0 (by omega)
    unfold IRr at *
    rw [e (3490 + r) (by omega) (by omega), e (3502 + r) (by omega) (by omega), e (3514 + r) (by omega) (by omega), e (3526 + r) (by omega) (by omega), e (3538 + r) (by omega) (by omega)]
    exact a
  · have a := hR.1 r r0 (by omega)
    unfold IRr at a
    rw [e (3526 + r) (by omega) (by omega)]
    exact gWf_f (fun i i0 i1 => e _ (by omega) (by omega)) (hR.2.1 r r0 (by omega))
  · have a := hR.1 r r0 (by omega)
    unfold IRr at a
    rw [e (3526 + r) (by omega) (by omega), e (3538 + r) (by omega) (by omega)] at h ⊢
    exact gWf_f (fun i i0 i1 => e _ (by omega) (by omega)) (hR.2.2 r r0 (by omega) h)
theorem RR_n {s ke fr to ia en co : Int → Int} {p q : Int → Int} (hB : IB p) (hR : IR p) (e : ∀ i, 3490 ≤ i → i < 3550 + 130 * p 5 → q i = p i) (h5 : q 5 = p 5) (r : RRd s ke fr to ia en co p) : RRd s ke fr to ia en co q := by
  have hb := hB; unfold IB at hb
  refine ⟨by rw [h5]; exact r.1, fun j j0 j1 => ?_, fun j k j0 j1 k0 k1 => ?_⟩
  · rw [e (3490 + j) (by omega) (by omega), e (3502 + j) (by omega) (by omega), e (3514 + j) (by omega) (by omega), e (3526 + j) (by omega) (by omega), e (3538 + j) (by omega) (by omega)]
    exact r.2.1 j j0 (by omega)
  · have a := hR.1 j j0 (by omega)
    unfold IRr at a
    rw [e (3538 + j) (by omega) (by omega)] at k1
    rw [e (3550 + 130 * j + k) (by omega) (by omega)]
    exact r.2.2 j k j0 (by omega) k0 k1

