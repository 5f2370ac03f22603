/-! IMAGE AND UNDO: the calls -/
theorem RO_e {x x' m m' : zM} (a : x' 329 = x 329) (b : x' 325 = x 325) (c : x' 326 = x 326) (d : x' 0 8 = x 0 8) (e : x' 328 = x 328) (f : ∀ k, k = 393 ∨ k = 394 ∨ k = 395 ∨ k = 396 → m' k = m k) (g : ∀ i, i ≠ 6 → m' 386 i = m 386 i) (r : RO x m) : RO x' m' := by
  unfold RO
  rw [a, b, c, d, e, f 393 (by omega), f 394 (by omega), f 395 (by omega), f 396 (by omega), g 9 (by omega), g 10 (by omega)]
  exact r

theorem t_image {d dM N : Nat} {x m : zM} {Q : Int → zM → zM → Prop} (hd : 40 ≤ d) (hdM : 40 ≤ dM) (hNN : N ≤ 600) (hI : Inv N x m) (K : ∀ q x', MOK N dM 273 [zr 386] q x' m → Q q x' m) : WPc d 153 [zr 0] 403 [] x m 403 [] Q := by
  obtain ⟨hF, hIF, hK, hO⟩ := id hI
  have hX := hF.1
  have hIx := hIF.1
  have hB := hIx.1
  have hA := hIx.2.1
  have hN := hIx.2.2.1
  have hM := hIF.2.1
  have hE := hIF.2.2.1
  have hb := hB; unfold IB at hb
  have hRL := hX.2.1
  have hRA := hX.2.2.1
  have hRN := hX.2.2.2.1
  have e10 : x 1 0 = m 387 0 := hX.1.1
  have e11 : x 1 1 = m 387 1 := hX.1.2.1
  apply r153
  refine ⟨by omega, c105_163_1 (p := m 387) (w := m 390) (by omega) hF hIx ?_⟩
  intro xB f g
  refine ⟨Or.inr rfl, ?_⟩
  refine K _ _ ?_
  intro Q' hQ
  apply r273
  refine s273_2 ?_
  refine s273_29 ?_
  obtain ⟨mF, hmF⟩ : ∃ mF, mF = zupd (zcpy (zcpy m 387 0 388 0 6163) 390 0 391 0 128) 386 6 1 := ⟨_, rfl⟩
  have ev : zcpy (zcpy m 387 0 388 0 6163) 390 0 391 0 128 387 0 = xB 1 0 := by
    rw [zcpy_ne _ _ _ _ (by decide), zcpy_ne _ _ _ _ (by decide), f 1 (by omega)]; exact e10.symm
  have c1 : ∀ k, k ≠ 386 → k ≠ 388 → k ≠ 391 → mF k = m k := fun k k0 k1 k2 => by rw [hmF, zu_ne _ _ _ k0, zcpy_ne _ _ _ _ k2, zcpy_ne _ _ _ _ k1]
  have c6 : ∀ i, i ≠ 6 → mF 386 i = m 386 i := fun i i0 => by rw [hmF, zu_eq, up_ne i0, zcpy_ne _ _ _ _ (by decide), zcpy_ne _ _ _ _ (by decide)]
  have c66 : mF 386 6 = 1 := by rw [hmF, zu_eq, up_at rfl]
  have c388 : ∀ i, 0 ≤ i → i < 6163 → mF 388 i = m 387 i := fun i i0 i1 => by rw [hmF, zu_ne _ _ _ (by decide), zcpy_ne _ _ _ _ (by decide), zcpy_in _ (by omega), show 0 + (i - 0) = i by omega]
  have c391 : ∀ i, 0 ≤ i → i < 128 → mF 391 i = m 390 i := fun i i0 i1 => by rw [hmF, zu_ne _ _ _ (by decide), zcpy_in _ (by omega), zcpy_ne _ _ _ _ (by decide), show 0 + (i - 0) = i by omega]
  rw [ev, ← hmF]
  have fx : ∀ k, 1 ≤ k → k < 163 ∨ 320 < k → zupd xB 0 2 1 k = x k := fun k k0 k1 => by rw [zu_ne _ _ _ (by omega)]; exact f k k1
  refine hQ _ _ ⟨?_, ?_, Or.inr ⟨?_, c66, ?_, ?_⟩, ?_⟩ (c1 2000 (by decide) (by decide) (by decide))
  · rw [c1 387 (by decide) (by decide) (by decide), c1 390 (by decide) (by decide) (by decide)]
    exact RF_e (fun k k0 k1 => fx k k0 (by omega)) hF
  · rw [c1 387 (by decide) (by decide) (by decide), c1 390 (by decide) (by decide) (by decide)]
    exact IF_m (by omega) hIF
  · rw [zu_eq, up_at rfl]
  · refine RF_q hIx c388 c391 (RF_e (fun k k0 k1 => ?_) g)
    show zupd xB 0 2 1 (k + 162) = xB (k + 162)
    exact zu_ne _ _ _ (by omega)
  · exact IF_r (IF_m (by omega) hIF) c388 c391
  · refine RO_e (fx 329 (by omega) (by omega)) (fx 325 (by omega) (by omega)) (fx 326 (by omega) (by omega)) ?_ (fx 328 (by omega) (by omega)) (fun k k0 => c1 k (by omega) (by omega) (by omega)) c6 hO
    rw [zu_eq, up_ne (by omega), f 0 (by omega)]

theorem t_undo {d dM N : Nat} {x m : zM} {Q : Int → zM → zM → Prop} (hd : 40 ≤ d) (hdM : 40 ≤ dM) (hNN : N ≤ 600) (hI : Inv N x m) (K : ∀ q x', MOK N dM 274 [zr 386] q x' m → Q q x' m) : WPc d 154 [zr 0] 403 [] x m 403 [] Q := by
  obtain ⟨hF, hIF, hK, hO⟩ := id hI
  have hX := hF.1
  have hIx := hIF.1
  have hB := hIx.1
  have hA := hIx.2.1
  have hN := hIx.2.2.1
  have hM := hIF.2.1
  have hE := hIF.2.2.1
  have hb := hB; unfold IB at hb
  have hRL := hX.2.1
  have hRA := hX.2.2.1
  have hRN := hX.2.2.2.1
  have e10 : x 1 0 = m 387 0 := hX.1.1
  have e11 : x 1 1 = m 387 1 := hX.1.2.1
  rcases hK with ⟨k0, k1⟩ | ⟨k0, k1, kF, kI⟩
  · apply r154
    repeat' (first | (with_reducible assumption) | (with_reducible rfl) | (with_reducible apply And.intro) | (with_reducible apply zIn_mk) | (with_reducible apply zLn_mk) | ((with_reducible intro _); try (exfalso; omega)) | omega | (with_reducible exact Or.inr trivial) | (with_reducible exact Or.inl trivial) | ((refine k161 (by omega) ?_)) | ((refine K _ _ ?_; intro Q' hQ; apply r274)) | ((refine s172 (by omega) ?_)) | ((exact hQ _ _ (Inv_c (by omega) (by omega) hI) (zu_ne _ _ _ (by decide)))) | fail)
  · apply r154
    refine ⟨fun _ => ⟨by omega, ?_⟩, fun hh => absurd hh (by omega)⟩
    refine c105_1_163 (p := m 388) (w := m 391) (by omega) kF kI.1 ?_
    intro xB f g
    have g0 : xB 1 0 = m 388 0 := g.1.1.1
    refine K _ _ ?_
    intro Q' hQ
    apply r274
    refine ⟨fun _ => ?_, fun hh => absurd hh (by omega)⟩
    refine s274_16 ?_
    refine s274_43 ?_
    obtain ⟨mF, hmF⟩ : ∃ mF, mF = zcpy (zcpy m 388 0 387 0 6163) 391 0 390 0 128 := ⟨_, rfl⟩
    have c1 : ∀ k, k ≠ 387 → k ≠ 390 → mF k = m k := fun k k0 k1 => by rw [hmF, zcpy_ne _ _ _ _ k1, zcpy_ne _ _ _ _ k0]
    have c387 : ∀ i, 0 ≤ i → i < 6163 → mF 387 i = m 388 i := fun i i0 i1 => by rw [hmF, zcpy_ne _ _ _ _ (by decide), zcpy_in _ (by omega), show 0 + (i - 0) = i by omega]
    have c390 : ∀ i, 0 ≤ i → i < 128 → mF 390 i = m 391 i := fun i i0 i1 => by rw [hmF, zcpy_in _ (by omega), zcpy_ne _ _ _ _ (by decide), show 0 + (i - 0) = i by omega]
    rw [← hmF, c387 0 (by omega) (by omega), ← g0]
    refine hQ _ _ ⟨RF_q kI.1 c387 c390 g, IF_r (IF_m (by omega) kI) c387 c390, ?_, ?_⟩ (c1 2000 (by decide) (by decide))
    · exact RK_m (N := N) (x := x) (m := m) (by omega) (by rw [f 0 (by omega)]) (by rw [c1 386 (by decide) (by decide)]) (fun k a b => f k (by omega)) (c1 388 (by decide) (by decide)) (c1 391 (by decide) (by decide)) (Or.inr ⟨k0, k1, kF, kI⟩)
    · exact RO_e (f 329 (by omega)) (f 325 (by omega)) (f 326 (by omega)) (by rw [f 0 (by omega)]) (f 328 (by omega)) (fun k k0 => c1 k (by omega) (by omega)) (fun i _ => by rw [c1 386 (by decide) (by decide)]) hO

