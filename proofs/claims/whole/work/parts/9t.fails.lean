/-! A READING THAT FAILS LEAVES ALL THAT COUNTS -/
theorem RO_n {x x' m m' : zM} (a : ∀ k, k = 326 ∨ k = 328 ∨ k = 329 → x' k = x k) (b : x' 325 1 = x 325 1) (d : x' 0 8 = x 0 8) (f : ∀ k, k = 393 ∨ k = 394 ∨ k = 395 ∨ k = 396 → m' k = m k) (g9 : m' 386 9 = m 386 9) (g10 : m' 386 10 = m 386 10) (r : RO x m) : RO x' m' := by
  unfold RO
  rw [a 329 (by omega), a 326 (by omega), a 328 (by omega), b, d, f 393 (by omega), f 394 (by omega), f 395 (by omega), f 396 (by omega), g9, g10]
  exact r
theorem Inv_rf {N : Nat} {x x' m m' : zM} (hI : Inv N x m) (r12 : m 387 5 < 12) (hN : jN x x') (L : jL (3550 + 130 * m 387 5) m m') : Inv (N + 1) x' m' := by
  obtain ⟨hF, hIF, hK, hO⟩ := hI
  have hIx := hIF.1
  have hB := hIx.1
  have hb := hB; unfold IB at hb
  have hR := hIx.2.2.2
  have e : ∀ i, i < 3550 + 130 * m 387 5 → m' 387 i = m 387 i := fun i hi => L.2.2 i (by omega)
  have e' : ∀ i, 0 ≤ i → i < 6163 → i ≠ 5 → (i < 3490 ∨ 5110 ≤ i) → m' 387 i = m 387 i := fun i i0 i1 i2 i3 => by
    by_cases c : i < 3550 + 130 * m 387 5
    · exact e i c
    · by_cases c2 : 3550 + 130 * m 387 5 + 130 ≤ i
      · exact L.2.2 i (by omega)
      · exfalso; omega
  have e5 : m' 387 5 = m 387 5 := e 5 (by omega)
  have hRq : IR (m' 387) := IR_n hB (fun i i0 i1 => e i i1) e5 hR
  have w : m' 390 = m 390 := L.1 390 (by decide) (by decide)
  refine ⟨?_, ?_, ?_, ?_⟩
  · rw [w]
    refine RF_R hIx e' hF (fun k k0 k1 k2 => hN.1 k (by omega) (by omega)) ?_
    have r := RR_n hB hR (fun i i0 i1 => e i i1) e5 hF.1.2.2.2.2
    unfold RRx
    rw [hN.1 88 (by decide) (by decide), hN.1 89 (by decide) (by decide), hN.1 90 (by decide) (by decide), hN.1 91 (by decide) (by decide), hN.1 92 (by decide) (by decide), hN.1 93 (by decide) (by decide), hN.1 94 (by decide) (by decide)]
    exact r
  · rw [w]
    exact IF_R (IF_m (by omega) hIF) e' (by omega) (by omega) hRq
  · exact RK_m (by omega) (by rw [hN.1 0 (by decide) (by decide)]) (L.2.1 6 (by omega)) (fun k k0 k1 => hN.1 k (by omega) (by omega)) (L.1 388 (by decide) (by decide)) (L.1 391 (by decide) (by decide)) hK
  · exact RO_n (fun k hk => hN.1 k (by omega) (by omega)) hN.2 (by rw [hN.1 0 (by decide) (by decide)]) (fun k hk => L.1 k (by omega) (by omega)) (L.2.1 9 (by omega)) (L.2.1 10 (by omega)) hO

