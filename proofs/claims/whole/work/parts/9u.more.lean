/-! ONE RULE MORE -/
theorem jTv_3 {t : Int → Int} {T b : Int} (h : jTk t T b = 3) : 0 ≤ jTv t T b ∧ jTv t T b ≤ 5 := by
  have bT := jTk_e (t := t) (T := T) (b := b) (by omega)
  unfold jTk at h
  rw [if_neg (by omega)] at h
  unfold jTv
  by_cases cd : 48 ≤ t b ∧ t b ≤ 57
  · rw [if_pos cd] at h
    exfalso; revert h; split <;> omega
  · rw [if_neg cd] at h ⊢
    by_cases cl : 97 ≤ t b ∧ t b ≤ 122
    · rw [if_pos cl] at h
      have bd := gWn_bd t b (gSn t T 97 122 b)
      generalize gWn t b (gSn t T 97 122 b) = w at h bd ⊢
      have hw : 0 ≤ w ∧ w < 6 := by
        unfold jWk at h
        revert h
        (repeat' split) <;> omega
      unfold jWv
      rw [if_neg (by omega)]; omega
    · rw [if_neg cl] at h
      by_cases cs : jSg (t b)
      · rw [if_pos cs] at h; unfold jSg at cs; omega
      · rw [if_neg cs] at h; omega
theorem IR_a {p q : Int → Int} {r : Int} (hR : IR p) (hr : p 5 = r) (r0 : 0 ≤ r) (r1 : r < 12) (h5 : q 5 = r + 1) (e : ∀ i, 3490 ≤ i → i < 3550 + 130 * r → i ≠ 3490 + r → i ≠ 3502 + r → i ≠ 3514 + r → i ≠ 3526 + r → i ≠ 3538 + r → q i = p i) (n : IRr q r) (w1 : gWf (gCo q r) 0 (q (3526 + r))) (w2 : q (3526 + r) < q (3538 + r) → gWf (gCo q r) (q (3526 + r)) (q (3538 + r))) : IR q := by
  refine ⟨fun j j0 j1 => ?_, fun j j0 j1 => ?_, fun j j0 j1 h => ?_⟩
  · by_cases c : j = r
    · rw [c]; exact n
    · have a := hR.1 j j0 (by omega)
      unfold IRr at *
      rw [e (3490 + j) (by omega) (by omega) (by omega) (by omega) (by omega) (by omega) (by omega), e (3502 + j) (by omega) (by omega) (by omega) (by omega) (by omega) (by omega) (by omega), e (3514 + j) (by omega) (by omega) (by omega) (by omega) (by omega) (by omega) (by omega), e (3526 + j) (by omega) (by omega) (by omega) (by omega) (by omega) (by omega) (by omega), e (3538 + j) (by omega) (by omega) (by omega) (by omega) (by omega) (by omega) (by omega)]
      exact a
  · by_cases c : j = r
    · rw [c]; exact w1
    · have a := hR.1 j j0 (by omega)
      unfold IRr at a
      rw [e (3526 + j) (by omega) (by omega) (by omega) (by omega) (by omega) (by omega) (by omega)]
      exact gWf_f (fun i i0 i1 => e _ (by omega) (by omega) (by omega) (by omega) (by omega) (by omega) (by omega)) (hR.2.1 j j0 (by omega))
  · by_cases c : j = r
    · rw [c] at h ⊢; exact w2 h
    · have a := hR.1 j j0 (by omega)
      unfold IRr at a
      rw [e (3526 + j) (by omega) (by omega) (by omega) (by omega) (by omega) (by omega) (by omega), e (3538 + j) (by omega) (by omega) (by omega) (by omega) (by omega) (by omega) (by omega)] at h ⊢
      exact gWf_f (fun i i0 i1 => e _ (by omega) (by omega) (by omega) (by omega) (by omega) (by omega) (by omega)) (hR.2.2 j j0 (by omega) h)

