/-! ONE RULE MORE: what holds behind it -/
def jAdd (x' : zM) (r key v1 v2 half e : Int) : zM := zupd (zcpy (zupd (zupd (zupd (zupd (zupd (zupd x' 325 1 0) 89 r key) 90 r v1) 91 r v2) 92 r half) 93 r e) 327 0 94 (r * 120 + 0) e) 88 0 (r + 1)
theorem jAdd_ne {x' : zM} {r key v1 v2 half e : Int} {k : Nat} (h : k ≠ 325) (h2 : k < 88 ∨ 94 < k) : jAdd x' r key v1 v2 half e k = x' k := by
  unfold jAdd
  rw [zu_ne _ _ _ (by omega), zcpy_ne _ _ _ _ (by omega), zu_ne _ _ _ (by omega), zu_ne _ _ _ (by omega), zu_ne _ _ _ (by omega), zu_ne _ _ _ (by omega), zu_ne _ _ _ (by omega), zu_ne _ _ _ (by omega)]
theorem jAdd_325 {x' : zM} {r key v1 v2 half e : Int} {i : Int} : jAdd x' r key v1 v2 half e 325 i = up (x' 325) 1 0 i := by
  unfold jAdd
  rw [zu_ne _ _ _ (by decide), zcpy_ne _ _ _ _ (by decide), zu_ne _ _ _ (by decide), zu_ne _ _ _ (by decide), zu_ne _ _ _ (by decide), zu_ne _ _ _ (by decide), zu_ne _ _ _ (by decide), zu_eq]
theorem jFin_ne {m1 : zM} {r key v1 v2 half e : Int} {k : Nat} (h : k ≠ 386) (h2 : k ≠ 387) : jFin m1 r key v1 v2 half e k = m1 k := by
  unfold jFin
  rw [zu_ne _ _ _ h2, zu_ne _ _ _ h2, zu_ne _ _ _ h2, zu_ne _ _ _ h2, zu_ne _ _ _ h2, zu_ne _ _ _ h2, zu_ne _ _ _ h]
theorem jFin_386 {m1 : zM} {r key v1 v2 half e : Int} : jFin m1 r key v1 v2 half e 386 = up (m1 386) 9 0 := by
  unfold jFin
  rw [zu_ne _ _ _ (by decide), zu_ne _ _ _ (by decide), zu_ne _ _ _ (by decide), zu_ne _ _ _ (by decide), zu_ne _ _ _ (by decide), zu_ne _ _ _ (by decide), zu_eq]
theorem jFin_387 {m1 : zM} {r key v1 v2 half e : Int} : jFin m1 r key v1 v2 half e 387 = up (up (up (up (up (up (m1 387) (3490 + r) key) (3502 + r) v1) (3514 + r) v2) (3526 + r) half) (3538 + r) e) 5 (r + 1) := by
  unfold jFin
  rw [zu_eq, zu_eq, zu_eq, zu_eq, zu_eq, zu_eq, zu_ne _ _ _ (by decide)]
theorem Inv_ra {N : Nat} {x x' m m1 : zM} {v1 v2 r fb key half e T : Int} {t c : Int → Int} (hI : Inv N x m) (hr : m 387 5 = r) (r0 : 0 ≤ r) (r1 : r < 12) (a0 : 0 ≤ v1) (a1 : v1 < v2) (a2 : v2 ≤ 1000) (T0 : 0 ≤ T) (T1 : T ≤ 120) (hO : jO t T 1 fb key half e c) (hN : jN x x') (E : jE x' 1 fb key half e c) (L : jL (3550 + 130 * r) m m1) (hc : ∀ i, 0 ≤ i → i < e → m1 387 (3550 + 130 * r + i) = c i) : Inv (N + 1) (jAdd x' r key v1 v2 half e) (jFin m1 r key v1 v2 half e) := by
  obtain ⟨⟨ke0, ke1⟩, ha1, ha2, e1, w1, w2⟩ := jO_ok T0 T1 hO
  obtain ⟨-, -, -, -, Ec⟩ := E.2 rfl
  obtain ⟨hF, hIF, hK, hO'⟩ := hI
  have hIx := hIF.1
  have hB := hIx.1
  have hb := hB; unfold IB at hb
  have hR := hIx.2.2.2
  obtain ⟨q, hq⟩ : ∃ q, q = jFin m1 r key v1 v2 half e 387 := ⟨_, rfl⟩
  have hq' := hq
  rw [jFin_387] at hq
  have h5 : q 5 = r + 1 := by rw [hq, up_at rfl]
  have n1 : q (3490 + r) = key := by rw [hq, up_ne (by omega), up_ne (by omega), up_ne (by omega), up_ne (by omega), up_ne (by omega), up_at rfl]
  have n2 : q (3502 + r) = v1 := by rw [hq, up_ne (by omega), up_ne (by omega), up_ne (by omega), up_ne (by omega), up_at rfl]
  have n3 : q (3514 + r) = v2 := by rw [hq, up_ne (by omega), up_ne (by omega), up_ne (by omega), up_at rfl]
  have n4 : q (3526 + r) = half := by rw [hq, up_ne (by omega), up_ne (by omega), up_at rfl]
  have n5 : q (3538 + r) = e := by rw [hq, up_ne (by omega), up_at rfl]
  have nn : ∀ i, i ≠ 5 → i ≠ 3490 + r → i ≠ 3502 + r → i ≠ 3514 + r → i ≠ 3526 + r → i ≠ 3538 + r → q i = m1 387 i := fun i h1 h2 h3 h4 h6 h7 => by rw [hq, up_ne h1, up_ne h7, up_ne h6, up_ne h4, up_ne h3, up_ne h2]
  have nc : ∀ i, 0 ≤ i → i < e → q (3550 + 130 * r + i) = c i := fun i i0 i1 => by rw [nn _ (by omega) (by omega) (by omega) (by omega) (by omega) (by omega)]; exact hc i i0 i1
  have eq : ∀ i, 3490 ≤ i → i < 3550 + 130 * r → i ≠ 3490 + r → i ≠ 3502 + r → i ≠ 3514 + r → i ≠ 3526 + r → i ≠ 3538 + r → q i = m 387 i := fun i i0 i1 h2 h3 h4 h6 h7 => by rw [nn i (by omega) h2 h3 h4 h6 h7]; exact L.2.2 i (by omega)
  have e' : ∀ i, 0 ≤ i → i < 6163 → i ≠ 5 → (i < 3490 ∨ 5110 ≤ i) → q i = m 387 i := fun i i0 i1 i2 i3 => by
    rw [nn i i2 (by omega) (by omega) (by omega) (by omega) (by omega)]
    by_cases c1 : i < 3550 + 130 * r
    · exact L.2.2 i (by omega)
    · by_cases c2 : 3550 + 130 * r + 130 ≤ i
      · exact L.2.2 i (by omega)
      · exfalso; omega
  have hRq : IR q := by
    refine IR_a hR hr r0 r1 h5 eq ?_ ?_ ?_
    · unfold IRr; rw [n1, n2, n3, n4, n5]; omega
    · rw [n4]; exact gWf_f (fun i i0 i1 => nc i (by omega) (by omega)) w1
    · rw [n4, n5]; exact fun h => gWf_f (fun i i0 i1 => nc i (by omega) (by omega)) (w2 h)
  have w : jFin m1 r key v1 v2 half e 390 = m 390 := by rw [jFin_ne (by decide) (by decide)]; exact L.1 390 (by decide) (by decide)
  have xk : ∀ k, k ≠ 325 → k ≠ 327 → (k < 88 ∨ 94 < k) → jAdd x' r key v1 v2 half e k = x k := fun k h1 h2 h3 => by rw [jAdd_ne h1 h3]; exact hN.1 k h1 h2
  refine ⟨?_, ?_, ?_, ?_⟩
  · rw [w, ← hq']
    refine RF_R hIx e' hF (fun k k0 k1 k2 => xk k (by omega) (by omega) k2) ?_
    refine RR_a (x := zupd x' 325 1 0) hR ?_ hr r0 r1 (by omega) e1 rfl (fun i i0 i1 => ?_) h5 eq n1 n2 n3 n4 n5 nc
    · have rr := hF.1.2.2.2.2
      unfold RRx at rr ⊢
      rw [zu_ne _ _ _ (by decide), zu_ne _ _ _ (by decide), zu_ne _ _ _ (by decide), zu_ne _ _ _ (by decide), zu_ne _ _ _ (by decide), zu_ne _ _ _ (by decide), zu_ne _ _ _ (by decide), hN.1 88 (by decide) (by decide), hN.1 89 (by decide) (by decide), hN.1 90 (by decide) (by decide), hN.1 91 (by decide) (by decide), hN.1 92 (by decide) (by decide), hN.1 93 (by decide) (by decide), hN.1 94 (by decide) (by decide)]
      exact rr
    · rw [zu_ne _ _ _ (by decide)]; exact Ec i i0 i1
  · rw [w, ← hq']
    exact IF_R (IF_m (by omega) hIF) e' (by omega) (by omega) hRq
  · refine RK_m (by omega) (by rw [xk 0 (by decide) (by decide) (by decide)]) ?_ (fun k k0 k1 => xk k (by omega) (by omega) (by omega)) ?_ ?_ hK
    · rw [jFin_386, up_ne (by omega)]; exact L.2.1 6 (by omega)
    · rw [jFin_ne (by decide) (by decide)]; exact L.1 388 (by decide) (by decide)
    · rw [jFin_ne (by decide) (by decide)]; exact L.1 391 (by decide) (by decide)
  · obtain ⟨o1, o2, o3, o4, o5, o6⟩ := hO'
    have f9 : jFin m1 r key v1 v2 half e 386 9 = 0 := by rw [jFin_386, up_at rfl]
    have fA : jFin m1 r key v1 v2 half e 386 10 = m 386 10 := by rw [jFin_386, up_ne (by omega)]; exact L.2.1 10 (by omega)
    have fk : ∀ k, k ≠ 386 → k ≠ 387 → jFin m1 r key v1 v2 half e k = m k := fun k h1 h2 => by rw [jFin_ne h1 h2]; exact L.1 k h1 h2
    refine ⟨fun k k0 k1 => ?_, ⟨by omega, by omega, ?_⟩, fun k k0 k1 => ?_, ?_, fun k k0 k1 => ?_, fun k k0 k1 => ?_⟩
    · rw [xk 329 (by decide) (by decide) (by decide), fk 393 (by decide) (by decide)]; exact o1 k k0 k1
    · rw [f9, jAdd_325, up_at rfl]
    · exfalso; omega
    · rw [xk 0 (by decide) (by decide) (by decide), fA]; exact o4
    · rw [xk 328 (by decide) (by decide) (by decide), fk 395 (by decide) (by decide)]; exact o5 k k0 k1
    · rw [fk 396 (by decide) (by decide)]; exact o6 k k0 k1
