/-! WHAT HOLDS LOOKS AT THE ROWS' CELLS ALONE -/
theorem IF_r {N : Nat} {p q w u : Int → Int} (hIF : IF N p w) (e : ∀ i, 0 ≤ i → i < 6163 → q i = p i) (eu : ∀ i, 0 ≤ i → i < 128 → u i = w i) : IF N q u := by
  obtain ⟨⟨hB, hA, hN, hR⟩, hM, hE, hEc, hY, hC, hT, hP⟩ := hIF
  have e0 := e 0 (by omega) (by omega)
  have e1 := e 1 (by omega) (by omega)
  refine ⟨⟨?_, IA_f hB (by omega) (e 2 (by omega) (by omega)) (fun i i0 i1 => e i (by omega) (by omega)) hA, IN_f hB (by omega) (e 2 (by omega) (by omega)) (e 3 (by omega) (by omega)) (fun i i0 i1 => e i (by omega) (by omega)) (fun i i0 i1 => e i (by omega) (by omega)) hN, IR_f hB (e 5 (by omega) (by omega)) (fun i i0 i1 => e i (by omega) (by omega)) hR⟩, IM_f hB (by omega) e1 (fun i i0 i1 => e i (by omega) (by omega)) hM, IE_f hB (by omega) (by omega) (e 4 (by omega) (by omega)) (fun i i0 i1 => e i (by omega) (by omega)) hE, ?_, ?_, ?_, IT_f hB (by omega) (e 8 (by omega) (by omega)) (fun i i0 i1 => e i (by omega) (by omega)) hT, IP_f (fun i i0 i1 => e i (by omega) (by omega)) hP⟩
  · unfold IB at *
    rw [e0, e1, e 2 (by omega) (by omega), e 3 (by omega) (by omega), e 4 (by omega) (by omega), e 5 (by omega) (by omega), e 6 (by omega) (by omega), e 7 (by omega) (by omega), e 8 (by omega) (by omega)]
    exact hB
  · exact ⟨(show q 4 ≤ gCap q by rw [e 4 (by omega) (by omega), gCap_f hB (e 3 (by omega) (by omega)) (e 6 (by omega) (by omega)) (fun i i0 i1 => e i (by omega) (by omega)) (fun i i0 i1 => e i (by omega) (by omega))]; exact hEc.1), IK_f hB (e 2 (by omega) (by omega)) (e 3 (by omega) (by omega)) (fun i i0 i1 => e i (by omega) (by omega)) (fun i i0 i1 => e i (by omega) (by omega)) hEc.2⟩
  · have y := IY_f (q := q) (by omega) (e 6 (by omega) (by omega)) (fun i i0 i1 => e i (by omega) (by omega)) hY
    refine ⟨y.1, fun k k0 k1 => ?_, fun k k0 k1 => ?_, y.2.2.2⟩
    · rw [eu k k0 (by omega)]; exact y.2.1 k k0 k1
    · rw [eu k (by omega) k1]; exact y.2.2.1 k k0 k1
  · unfold IC at *
    rw [e 6161 (by omega) (by omega), e 6160 (by omega) (by omega), e0]; exact hC
