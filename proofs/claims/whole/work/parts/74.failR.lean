/-! THE LOANS' CELLS BEHIND A FAILURE; the model's own passes -/
theorem RN_fail {s ask me ki su we le ig us pa la sta fm fb lo ea : Int → Int} {p : Int → Int} {l : Int} (hB : IB p) (hA : IA p) (hN : IN p) (hE : IE p) (h6 : p 4 ≤ 644) (l0 : 0 ≤ l) (l1 : l < p 3) (r : RN s ask me ki su we le ig us pa la sta fm fb lo ea p) : RN s ask me ki su we le ig us pa la (up sta l 2) (up fm l (gFown p l)) (up fb l (gFback p l)) (up lo l (gFlost p l)) ea (gFp p l) := by
  have hb := hB; unfold IB at hb
  have o := fun i => gFp_o (i := i) hB hA hN hE h6 l0 l1
  obtain ⟨v1, v2, v3, v4, v5⟩ := gFp_v (p := p) l0 (show l < 24 by omega)
  have ob : ∀ i, i ≠ 4 → i < 570 → gFp p l i = p i := fun i a b => o i a (by omega) (by omega) (by omega) (by omega) (by omega) (by omega)
  refine ⟨by rw [ob 3 (by omega) (by omega)]; exact r.1, fun k k0 k1 => ?_⟩
  rw [ob 3 (by omega) (by omega)] at k1
  have rk := r.2 k k0 k1
  have nk := hN.1 k k0 k1
  unfold INl at nk
  have qe : ∀ b i, 0 ≤ b → b < 24 → gEc (gFp p l) b i = gEc p b i := fun b i b0 b1 => gEc_f b0 b1 (fun j j0 j1 => ob j (by omega) (by omega))
  rw [ob (450 + k) (by omega) (by omega), ob (90 + p (450 + k)) (by omega) (by omega), ob (114 + p (450 + k)) (by omega) (by omega), ob (138 + p (450 + k)) (by omega) (by omega), ob (162 + p (450 + k)) (by omega) (by omega), ob (474 + k) (by omega) (by omega), ob (498 + k) (by omega) (by omega), ob (522 + k) (by omega) (by omega), ob (546 + k) (by omega) (by omega), o (666 + k) (by omega) (by omega) (by omega) (by omega) (by omega) (by omega) (by omega), qe _ _ (by omega) (by omega)]
  by_cases c : k = l
  · subst c
    rw [v1, v2, v3, v4, up_eq, up_eq, up_eq, up_eq]
    exact ⟨rk.1, rk.2.1, rk.2.2.1, rk.2.2.2.1, rk.2.2.2.2.1, rk.2.2.2.2.2.1, rk.2.2.2.2.2.2.1, rk.2.2.2.2.2.2.2.1, rk.2.2.2.2.2.2.2.2.1, rk.2.2.2.2.2.2.2.2.2.1, rfl, rfl, rfl, rfl, rk.2.2.2.2.2.2.2.2.2.2.2.2.2.2⟩
  · rw [up_ne c, up_ne c, up_ne c, up_ne c, o (570 + k) (by omega) (by omega) (by omega) (by omega) (by omega) (by omega) (by omega), o (594 + k) (by omega) (by omega) (by omega) (by omega) (by omega) (by omega) (by omega), o (618 + k) (by omega) (by omega) (by omega) (by omega) (by omega) (by omega) (by omega), o (642 + k) (by omega) (by omega) (by omega) (by omega) (by omega) (by omega) (by omega)]
    exact rk
theorem gSv_now {p : Int → Int} (hB : IB p) (hE : IE p) (v : Int) : gSv p v (p 0) (p 0) = gSv p v 400 400 := by
  unfold IB at hB
  unfold gSv
  congr 1
  refine zT_congr (fun j j0 j1 => ?_)
  have e := hE.1 j j0 j1
  unfold gE
  by_cases c : p (690 + j) = v
  · rw [if_pos ⟨c, by omega, by omega⟩, if_pos ⟨c, by omega, by omega⟩]
  · rw [if_neg (fun h => c h.1), if_neg (fun h => c h.1)]
/-- share-weeks grow -/
theorem gSv_pos (p : Int → Int) (v w as : Int) : 0 ≤ zmx 0 (gSv p v w as) ∧ zmx 0 (gSv p v w as) < 2147483648 := by
  have a := gSv_lo p v w as
  have b := gSv_hi p v w as
  unfold zmx; split <;> omega
