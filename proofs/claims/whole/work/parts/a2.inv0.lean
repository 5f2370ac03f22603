/-! BEHIND THE TWO CONSTRUCTORS -/
theorem Inv_0 {x m : zM} (hx : ∀ k, k < 386 → x k = zIni k) (hm : ∀ k, 386 ≤ k → k < 403 → m k = zIni k) : Inv 0 x m := by
  have z : ∀ k, (k < 386 ∧ k ≠ 151 ∧ k ≠ 313 ∧ k ≠ 325 ∧ k ≠ 0) → ∀ i, x k i = 0 := fun k h i => by rw [hx k h.1, zIni_z (by omega)]
  have w : ∀ k, (386 < k ∧ k < 403 ∧ k ≠ 387 ∧ k ≠ 396) → ∀ i, m k i = 0 := fun k h i => by rw [hm k (by omega) (by omega), zIni_z (by omega)]
  have p0 : ∀ i, (i < 58 ∨ 74 ≤ i) → (i < 5146 ∨ 5547 ≤ i) → m 387 i = 0 := fun i h1 h2 => by
    rw [hm 387 (by decide) (by decide)]
    unfold zIni
    rw [if_neg (fun q => by omega), if_neg (fun q => by omega), if_neg (fun q => by omega), if_neg (fun q => by omega), if_neg (fun q => by omega), if_neg (fun q => by omega)]
  have p1 : ∀ i, (58 ≤ i ∧ i < 74) ∨ (5146 ≤ i ∧ i < 5547) → m 387 i = -1 := fun i h => by
    rw [hm 387 (by decide) (by decide)]
    unfold zIni
    rw [if_neg (fun q => by omega), if_neg (fun q => by omega), if_neg (fun q => by omega), if_neg (fun q => by omega), if_pos ⟨rfl, h⟩]
  have d1 : ∀ k, 0 ≤ k → k < 401 → x 151 k = -1 := fun k h1 h2 => by
    rw [hx 151 (by decide)]
    unfold zIni
    rw [if_pos ⟨Or.inl rfl, h1, h2⟩]
  have x0 : ∀ i, i ≠ 8 → x 0 i = 0 := fun i h => by rw [hx 0 (by decide), zIni_0, up_ne h]
  have x08 : x 0 8 = -2 := by rw [hx 0 (by decide), zIni_0, up_at rfl]
  have x325 : ∀ i, i ≠ 10 → x 325 i = 0 := fun i h => by rw [hx 325 (by decide), zIni_325, up_ne h]
  have m386 : ∀ i, i ≠ 10 → m 386 i = 0 := fun i h => by
    rw [hm 386 (by decide) (by decide), ← J9_386]
    unfold J9
    (repeat rw [zu_ne _ _ _ (by decide)])
    rw [zu_eq, up_ne h]
  have m38a : m 386 10 = -1 := by rw [hm 386 (by decide) (by decide), ← J9_386]; decide +kernel
  have m396 : ∀ k, 0 ≤ k → k < 20 → m 396 k = gWd k := fun k h1 h2 => by
    rw [hm 396 (by decide) (by decide)]
    unfold zIni
    rw [if_neg (fun q => by omega), if_neg (fun q => by omega), if_neg (fun q => by omega), if_neg (fun q => by omega), if_neg (fun q => by omega), if_pos ⟨rfl, h1, h2⟩]
  have q0 := p0 0 (by omega) (by omega)
  have q1 := p0 1 (by omega) (by omega)
  have q2 := p0 2 (by omega) (by omega)
  have q3 := p0 3 (by omega) (by omega)
  have q4 := p0 4 (by omega) (by omega)
  have q5 := p0 5 (by omega) (by omega)
  have q6 := p0 6 (by omega) (by omega)
  have q7 := p0 7 (by omega) (by omega)
  have q8 := p0 8 (by omega) (by omega)
  have w390 : ∀ i, m 390 i = 0 := w 390 (by decide)
  unfold Inv
  generalize m 390 = ww at w390 ⊢
  generalize m 387 = p at *
  refine ⟨⟨⟨?_, ?_, ?_, ?_, ?_⟩, ?_, ?_, ?_⟩, ⟨⟨?_, ?_, ?_, ?_⟩, ?_, ?_, ?_, ?_, ?_, ?_, ?_⟩, ?_, ?_⟩
  · exact ⟨by rw [z 1 (by decide), q0], by rw [z 1 (by decide), q1], fun k k0 k1 => by omega⟩
  · refine ⟨by rw [z 7 (by decide), q4], fun k k0 k1 => by omega, fun k k0 k1 => ?_, by rw [z 7 (by decide), p0 6161 (by omega) (by omega)], by rw [z 7 (by decide), p0 6162 (by omega) (by omega)]; decide⟩
    unfold gSv
    rw [q4, zT_0 (by omega), z 12 (by decide)]
    decide
  · exact ⟨by rw [z 14 (by decide), q2], fun k k0 k1 => by omega, fun k j k0 k1 => by omega⟩
  · exact ⟨by rw [z 72 (by decide), q3], fun k k0 k1 => by omega⟩
  · exact ⟨by rw [z 88 (by decide), q5], fun k k0 k1 => by omega, fun k j k0 k1 => by omega⟩
  · refine ⟨by rw [z 108 (by decide), q6], by rw [z 108 (by decide), p0 6160 (by omega) (by omega)], fun y k y0 y1 k0 k1 => ?_, fun y k y0 y1 k0 k1 => ⟨?_, ?_, ?_, ?_⟩, fun k k0 k1 => ?_⟩
    · rw [z 109 (by decide), p0 _ (by omega) (by omega)]
    · rw [z 117 (by decide), p0 _ (by omega) (by omega)]
    · rw [z 125 (by decide), p0 _ (by omega) (by omega)]
    · rw [z 141 (by decide), p0 _ (by omega) (by omega)]
    · rw [z 133 (by decide), w390]
    · rw [z 149 (by decide), w390]
  · exact ⟨by rw [z 150 (by decide), q8], by rw [z 150 (by decide), q7], fun k k0 k1 => by rw [d1 k k0 (by omega), p1 _ (by omega)], fun k k0 k1 => by omega, fun k k0 k1 => by omega⟩
  · exact ⟨fun r r0 r1 => by rw [z 157 (by decide), p0 _ (by omega) (by omega)], fun r k r0 r1 k0 k1 => by rw [z 158 (by decide), p0 _ (by omega) (by omega)]⟩
  · unfold IB; omega
  · exact ⟨fun a a0 a1 => by omega, fun a k a0 a1 => by omega⟩
  · exact ⟨fun a a0 a1 => by omega, fun a a0 a1 => by omega⟩
  · exact ⟨fun a a0 a1 => by omega, fun a a0 a1 => by omega, fun a a0 a1 => by omega⟩
  · exact ⟨fun k k0 k1 => by omega, fun k k0 k1 => p1 _ (by omega)⟩
  · exact ⟨fun k k0 k1 => by omega, fun j k j0 j1 k1 => by omega⟩
  · refine ⟨?_, ?_, fun l l0 l1 => by omega⟩
    · rw [q3, q6, q4, zT_0 (by omega), zT_0 (by omega)]; omega
    · unfold IK0; rw [q2, q3, zT_0 (by omega)]
  · refine ⟨fun y k y0 y1 k0 k1 => ?_, fun k k0 k1 => ?_, fun k k0 k1 => ?_, fun y y0 y1 => ?_⟩
    · have a := p0 (5696 + 16 * y + k) (by omega) (by omega)
      have b := p0 (5808 + 16 * y + k) (by omega) (by omega)
      have c := p0 (6032 + 16 * y + k) (by omega) (by omega)
      rw [a, b, c]
      exact ⟨by omega, by omega, by omega, fun _ => rfl⟩
    · rw [w390]; omega
    · rw [w390, q0]; omega
    · rw [p0 _ (by omega) (by omega), p0 _ (by omega) (by omega)]; omega
  · unfold IC
    rw [p0 6161 (by omega) (by omega), p0 6160 (by omega) (by omega), q0]
    omega
  · exact ⟨fun k k0 k1 => by rw [p1 _ (by omega)]; omega, fun k k0 k1 => by omega⟩
  · exact ⟨fun r r0 r1 => by rw [p0 _ (by omega) (by omega)]; omega, fun r k r0 r1 k0 k1 => by rw [p0 _ (by omega) (by omega)]; omega⟩
  · exact Or.inl ⟨x0 2 (by omega), m386 6 (by omega)⟩
  · refine ⟨fun k k0 k1 => by rw [z 329 (by decide), w 393 (by decide)], ⟨by rw [m386 9 (by omega)]; omega, by rw [m386 9 (by omega)]; omega, by rw [m386 9 (by omega), x325 1 (by omega)]⟩, fun k k0 k1 => by rw [m386 9 (by omega)] at k1; omega, Or.inl ⟨by rw [x08]; omega, by rw [m38a]; omega⟩, fun k k0 k1 => by rw [z 328 (by decide), w 395 (by decide)], m396⟩
