/-! ONE RULE MORE: the class keeps it -/
theorem RR_a {x X : zM} {p q : Int → Int} {r key v1 v2 half e : Int} {c : Int → Int} (hR : IR p) (h : RRx x p) (hr : p 5 = r) (r0 : 0 ≤ r) (r1 : r < 12) (e0 : 0 ≤ e) (e1 : e ≤ 120) (hX : X = zupd (zcpy (zupd (zupd (zupd (zupd (zupd x 89 r key) 90 r v1) 91 r v2) 92 r half) 93 r e) 327 0 94 (r * 120 + 0) e) 88 0 (r + 1)) (hc : ∀ i, 0 ≤ i → i < e → x 327 i = gCc (c i)) (h5 : q 5 = r + 1) (eq : ∀ i, 3490 ≤ i → i < 3550 + 130 * r → i ≠ 3490 + r → i ≠ 3502 + r → i ≠ 3514 + r → i ≠ 3526 + r → i ≠ 3538 + r → q i = p i) (n1 : q (3490 + r) = key) (n2 : q (3502 + r) = v1) (n3 : q (3514 + r) = v2) (n4 : q (3526 + r) = half) (n5 : q (3538 + r) = e) (nc : ∀ i, 0 ≤ i → i < e → q (3550 + 130 * r + i) = c i) : RRx X q := by
  subst hX
  refine ⟨?_, fun j j0 j1 => ?_, fun j k j0 j1 k0 k1 => ?_⟩
  · simp (disch := omega) only [zu_eq, up_at]; omega
  · simp (disch := omega) only [zu_ne, zcpy_ne, zu_eq]
    by_cases cj : j = r
    · subst cj
      simp (disch := omega) only [up_at]
      exact ⟨n1.symm, n2.symm, n3.symm, n4.symm, n5.symm⟩
    · simp (disch := omega) only [up_ne]
      rw [eq (3490 + j) (by omega) (by omega) (by omega) (by omega) (by omega) (by omega) (by omega), eq (3502 + j) (by omega) (by omega) (by omega) (by omega) (by omega) (by omega) (by omega), eq (3514 + j) (by omega) (by omega) (by omega) (by omega) (by omega) (by omega) (by omega), eq (3526 + j) (by omega) (by omega) (by omega) (by omega) (by omega) (by omega) (by omega), eq (3538 + j) (by omega) (by omega) (by omega) (by omega) (by omega) (by omega) (by omega)]
      exact h.2.1 j j0 (by omega)
  · rw [zu_ne _ _ _ (by decide)]
    by_cases cj : j = r
    · subst cj
      rw [n5] at k1
      rw [zcpy_in _ (by omega), show 0 + (j * 120 + k - (j * 120 + 0)) = k by omega]
      simp (disch := omega) only [zu_ne]
      rw [nc k k0 k1]
      exact hc k k0 k1
    · have a := hR.1 j j0 (by omega)
      unfold IRr at a
      rw [eq (3538 + j) (by omega) (by omega) (by omega) (by omega) (by omega) (by omega) (by omega)] at k1
      rw [zcpy_out _ (by omega)]
      simp (disch := omega) only [zu_ne]
      rw [eq (3550 + 130 * j + k) (by omega) (by omega) (by omega) (by omega) (by omega) (by omega) (by omega)]
      exact h.2.2 j k j0 (by omega) k0 k1

