/-! WHAT HOLDS BEHIND A YEAR -/
theorem gYp_r {p w : Int → Int} {i : Int} (a1 : i ≠ 6) (a2 : i ≠ 6160) (a3 : i ≠ 6162) (a4 : i ≠ 5647 + p 6) (a5 : i ≠ 5654 + p 6) (a6 : i ≠ 5661 + p 6) (hh : ¬ 0 < gYs p ∨ (i ≠ 5668 + p 6 ∧ i ≠ 5675 + p 6 ∧ i ≠ 5682 + p 6 ∧ (i < 5696 + 16 * p 6 ∨ 5696 + 16 * p 6 + 16 ≤ i) ∧ (i < 5808 + 16 * p 6 ∨ 5808 + 16 * p 6 + 16 ≤ i))) : gYp p w i = gYr p i := by
  unfold gYp
  rw [if_neg a1, if_neg a2, if_neg a3, if_neg a4, if_neg a5, if_neg a6, if_neg (by omega), if_neg (by omega), if_neg (by omega), if_neg (by omega), if_neg (by omega)]
theorem gYp_v {p w : Int → Int} (h0 : 0 ≤ p 6) (h6 : p 6 < 7) : gYp p w 6 = p 6 + 1 ∧ gYp p w 6160 = 0 ∧ gYp p w 6162 = gYv p w ∧ gYp p w (5647 + p 6) = gYe p ∧ gYp p w (5654 + p 6) = p 6160 ∧ gYp p w (5661 + p 6) = gYs p := by
  unfold gYp
  refine ⟨if_pos rfl, ?_, ?_, ?_, ?_, ?_⟩
  · rw [if_neg (by omega), if_pos rfl]
  · rw [if_neg (by omega), if_neg (by omega), if_pos rfl]
  · rw [if_neg (by omega), if_neg (by omega), if_neg (by omega), if_pos rfl]
  · rw [if_neg (by omega), if_neg (by omega), if_neg (by omega), if_neg (by omega), if_pos rfl]
  · rw [if_neg (by omega), if_neg (by omega), if_neg (by omega), if_neg (by omega), if_neg (by omega), if_pos rfl]
theorem gYp_s {p w : Int → Int} (h0 : 0 ≤ p 6) (h6 : p 6 < 7) (hs : 0 < gYs p) : gYp p w (5668 + p 6) = gYf p ∧ gYp p w (5675 + p 6) = gYd p ∧ gYp p w (5682 + p 6) = gYb p ∧ (∀ k, 0 ≤ k → k < 16 → gYp p w (5696 + 16 * p 6 + k) = gGet (gYd p) (gYa w) k) ∧ (∀ k, 0 ≤ k → k < 16 → gYp p w (5808 + 16 * p 6 + k) = gGet (gYb p) (gYc p) k) := by
  unfold gYp
  refine ⟨?_, ?_, ?_, fun k k0 k1 => ?_, fun k k0 k1 => ?_⟩
  · rw [if_neg (by omega), if_neg (by omega), if_neg (by omega), if_neg (by omega), if_neg (by omega), if_neg (by omega), if_pos ⟨hs, rfl⟩]
  · rw [if_neg (by omega), if_neg (by omega), if_neg (by omega), if_neg (by omega), if_neg (by omega), if_neg (by omega), if_neg (by omega), if_pos ⟨hs, rfl⟩]
  · rw [if_neg (by omega), if_neg (by omega), if_neg (by omega), if_neg (by omega), if_neg (by omega), if_neg (by omega), if_neg (by omega), if_neg (by omega), if_pos ⟨hs, rfl⟩]
  · rw [if_neg (by omega), if_neg (by omega), if_neg (by omega), if_neg (by omega), if_neg (by omega), if_neg (by omega), if_neg (by omega), if_neg (by omega), if_neg (by omega), if_pos ⟨hs, by omega, by omega⟩, show 5696 + 16 * p 6 + k - (5696 + 16 * p 6) = k by omega]
  · rw [if_neg (by omega), if_neg (by omega), if_neg (by omega), if_neg (by omega), if_neg (by omega), if_neg (by omega), if_neg (by omega), if_neg (by omega), if_neg (by omega), if_neg (by omega), if_pos ⟨hs, by omega, by omega⟩, show 5808 + 16 * p 6 + k - (5808 + 16 * p 6) = k by omega]
theorem gYp_o {p w : Int → Int} (hI : IX p) (h6 : p 6 < 7) (hz : ∀ k, 0 ≤ k → k < 16 → p (6032 + 16 * p 6 + k) = 0) : ∀ i, i ≠ 6 → i < 666 ∨ (690 ≤ i ∧ i < 5647) ∨ (5689 ≤ i ∧ i < 5696) ∨ i = 6161 ∨ 6163 ≤ i → gYp p w i = p i := by
  have hb := hI.1; unfold IB at hb
  obtain ⟨hIr, hro⟩ := IX_yr hI h6 hz
  intro i i6 hi
  rw [gYp_r i6 (by omega) (by omega) (by omega) (by omega) (by omega) (by omega)]
  exact hro i (by omega) (by omega)
theorem RF_y {x x' : zM} {p w : Int → Int} (hI : IX p) (hF : RF x p w) (h6 : p 6 < 7) (hz : ∀ k, 0 ≤ k → k < 16 → p (6032 + 16 * p 6 + k) = 0) (hx : gYF x x' p w) : RF x' (gYp p w) (gYw p w) := by
  obtain ⟨hB, hA, hN, hR⟩ := id hI
  have hb := hB; unfold IB at hb
  have o := gYp_o (w := w) hI h6 hz
  obtain ⟨hIr, hro⟩ := IX_yr hI h6 hz
  obtain ⟨v6, v6160, v6162, v47, v54, v61⟩ := gYp_v (p := p) (w := w) (by omega) h6
  obtain ⟨⟨hM, hL, hAx, hNx, hRx⟩, hY, hT, hP⟩ := hF
  obtain ⟨X1, ⟨X2, X3⟩, X4, ⟨X5, X6⟩, ⟨X7, X8, X9, X10, X11, X12⟩, ⟨X13, X14, X15⟩, ⟨X16, X17⟩, ⟨X18, X19⟩, X20⟩ := hx
  have xs : ∀ k, zScr k = false → k ≠ 7 → k ≠ 87 → k < 108 ∨ 149 < k → x' k = x k := fun k hk k0 k1 k2 => X1 k hk k0 k1 (by omega) (by omega) (by omega) (by omega) (by omega) (by omega) (by omega)
  refine ⟨⟨?_, ?_, ?_, ?_, ?_⟩, ?_, ?_, ?_⟩
  · unfold RMx; rw [xs 1 rfl (by decide) (by decide) (by decide), xs 2 rfl (by decide) (by decide) (by decide), xs 3 rfl (by decide) (by decide) (by decide), xs 4 rfl (by decide) (by decide) (by decide), xs 5 rfl (by decide) (by decide) (by decide), xs 6 rfl (by decide) (by decide) (by decide)]; exact RM_f hB (o 0 (by omega) (by omega)) (o 1 (by omega) (by omega)) (fun i i0 i1 => o i (by omega) (by omega)) hM
  · unfold RLx; rw [xs 8 rfl (by decide) (by decide) (by decide), xs 9 rfl (by decide) (by decide) (by decide), xs 10 rfl (by decide) (by decide) (by decide), xs 11 rfl (by decide) (by decide) (by decide), xs 12 rfl (by decide) (by decide) (by decide)]
    refine ⟨by rw [X2 0 (by omega), o 4 (by omega) (by omega)]; exact hL.1, fun k k0 k1 => ?_, fun k k0 k1 => ?_, by rw [X2 7 (by omega), o 6161 (by omega) (by omega)]; exact hL.2.2.2.1, by rw [X3, v6162]⟩
    · rw [o 4 (by omega) (by omega)] at k1
      rw [o (690 + k) (by omega) (by omega), o (1390 + k) (by omega) (by omega), o (2090 + k) (by omega) (by omega), o (2790 + k) (by omega) (by omega)]
      exact hL.2.1 k k0 k1
    · rw [gSv_f hB (o 4 (by omega) (by omega)) (fun i i0 i1 => o i (by omega) (by omega))]; exact hL.2.2.1 k k0 k1
  · unfold RAx; rw [xs 14 rfl (by decide) (by decide) (by decide), xs 15 rfl (by decide) (by decide) (by decide), xs 16 rfl (by decide) (by decide) (by decide), xs 17 rfl (by decide) (by decide) (by decide), xs 18 rfl (by decide) (by decide) (by decide), xs 19 rfl (by decide) (by decide) (by decide), xs 20 rfl (by decide) (by decide) (by decide), xs 21 rfl (by decide) (by decide) (by decide), xs 22 rfl (by decide) (by decide) (by decide), xs 47 rfl (by decide) (by decide) (by decide)]; exact RA_f hB (o 2 (by omega) (by omega)) (fun i i0 i1 => o i (by omega) (by omega)) hAx
  · refine ⟨by rw [xs 72 rfl (by decide) (by decide) (by decide), o 3 (by omega) (by omega)]; exact hNx.1, fun k k0 k1 => ?_⟩
    rw [o 3 (by omega) (by omega)] at k1
    have rk := hNx.2 k k0 k1
    have n := hN.1 k k0 k1
    unfold INl at n
    have ge : gEc (gYp p w) (p (450 + k)) (p (498 + k)) = gEc p (p (450 + k)) (p (498 + k)) := gEc_f (by omega) (by omega) (fun j j0 j1 => o j (by omega) (by omega))
    have g666 : gYp p w (666 + k) = gYr p (666 + k) := gYp_r (by omega) (by omega) (by omega) (by omega) (by omega) (by omega) (by omega)
    rw [xs 73 rfl (by decide) (by decide) (by decide), xs 74 rfl (by decide) (by decide) (by decide), xs 75 rfl (by decide) (by decide) (by decide), xs 76 rfl (by decide) (by decide) (by decide), xs 77 rfl (by decide) (by decide) (by decide), xs 78 rfl (by decide) (by decide) (by decide), xs 79 rfl (by decide) (by decide) (by decide), xs 80 rfl (by decide) (by decide) (by decide), xs 81 rfl (by decide) (by decide) (by decide), xs 82 rfl (by decide) (by decide) (by decide), xs 83 rfl (by decide) (by decide) (by decide), xs 84 rfl (by decide) (by decide) (by decide), xs 85 rfl (by decide) (by decide) (by decide), xs 86 rfl (by decide) (by decide) (by decide), X4 k k0 k1]
    rw [o (450 + k) (by omega) (by omega), o (90 + p (450 + k)) (by omega) (by omega), o (114 + p (450 + k)) (by omega) (by omega), o (138 + p (450 + k)) (by omega) (by omega), o (162 + p (450 + k)) (by omega) (by omega), o (474 + k) (by omega) (by omega), o (498 + k) (by omega) (by omega), ge, o (522 + k) (by omega) (by omega), o (546 + k) (by omega) (by omega), o (570 + k) (by omega) (by omega), o (594 + k) (by omega) (by omega), o (618 + k) (by omega) (by omega), o (642 + k) (by omega) (by omega), g666]
    exact ⟨rk.1, rk.2.1, rk.2.2.1, rk.2.2.2.1, rk.2.2.2.2.1, rk.2.2.2.2.2.1, rk.2.2.2.2.2.2.1, rk.2.2.2.2.2.2.2.1, rk.2.2.2.2.2.2.2.2.1, rk.2.2.2.2.2.2.2.2.2.1, rk.2.2.2.2.2.2.2.2.2.2.1, rk.2.2.2.2.2.2.2.2.2.2.2.1, rk.2.2.2.2.2.2.2.2.2.2.2.2.1, rk.2.2.2.2.2.2.2.2.2.2.2.2.2.1, rfl⟩
  · unfold RRx; rw [xs 88 rfl (by decide) (by decide) (by decide), xs 89 rfl (by decide) (by decide) (by decide), xs 90 rfl (by decide) (by decide) (by decide), xs 91 rfl (by decide) (by decide) (by decide), xs 92 rfl (by decide) (by decide) (by decide), xs 93 rfl (by decide) (by decide) (by decide), xs 94 rfl (by decide) (by decide) (by decide)]; exact RR_f hB hR (o 5 (by omega) (by omega)) (fun i i0 i1 => o i (by omega) (by omega)) hRx
  · refine ⟨by rw [X5, v6], by rw [X6, v6160], fun y k y0 y1 k0 k1 => ?_, fun y k y0 y1 k0 k1 => ?_, fun k k0 k1 => ?_⟩
    · have old := hY.2.2.1 y k y0 y1 k0 k1
      by_cases e : y = p 6
      · subst e
        have c : k = 0 ∨ k = 1 ∨ k = 2 ∨ k = 3 ∨ k = 4 ∨ k = 5 ∨ k = 6 := by omega
        rcases c with c | c | c | c | c | c | c <;> subst c
        · rw [X7, show 5647 + 7 * 0 + p 6 = 5647 + p 6 by omega, v47]
        · rw [X8, show 5647 + 7 * 1 + p 6 = 5654 + p 6 by omega, v54]
        · rw [X9, show 5647 + 7 * 2 + p 6 = 5661 + p 6 by omega, v61]
        · by_cases hs : 0 < gYs p
          · rw [(X10 hs).1, show 5647 + 7 * 3 + p 6 = 5668 + p 6 by omega, (gYp_s (by omega) h6 hs).1]
          · rw [X11 hs _ (by omega), gYp_r (by omega) (by omega) (by omega) (by omega) (by omega) (by omega) (Or.inl hs), hro _ (by omega) (by omega)]; exact old
        · by_cases hs : 0 < gYs p
          · rw [(X10 hs).2.1, show 5647 + 7 * 4 + p 6 = 5675 + p 6 by omega, (gYp_s (by omega) h6 hs).2.1]
          · rw [X11 hs _ (by omega), gYp_r (by omega) (by omega) (by omega) (by omega) (by omega) (by omega) (Or.inl hs), hro _ (by omega) (by omega)]; exact old
        · by_cases hs : 0 < gYs p
          · rw [(X10 hs).2.2, show 5647 + 7 * 5 + p 6 = 5682 + p 6 by omega, (gYp_s (by omega) h6 hs).2.2.1]
          · rw [X11 hs _ (by omega), gYp_r (by omega) (by omega) (by omega) (by omega) (by omega) (by omega) (Or.inl hs), hro _ (by omega) (by omega)]; exact old
        · rw [X12 _ (by omega), o _ (by omega) (by omega)]; exact old
      · rw [X12 _ (by omega), gYp_r (by omega) (by omega) (by omega) (by omega) (by omega) (by omega) (by omega), hro _ (by omega) (by omega)]; exact old
    · obtain ⟨o1, o2, o3, o4⟩ := hY.2.2.2.1 y k y0 y1 k0 k1
      by_cases e : y = p 6
      · subst e
        refine ⟨?_, ?_, ?_, ?_⟩
        · by_cases hs : 0 < gYs p
          · rw [(X13 hs k k0 k1).1, (gYp_s (by omega) h6 hs).2.2.2.1 k k0 k1]
          · rw [(X14 hs).1, gYp_r (by omega) (by omega) (by omega) (by omega) (by omega) (by omega) (Or.inl hs), hro _ (by omega) (by omega)]; exact o1
        · by_cases hs : 0 < gYs p
          · rw [(X13 hs k k0 k1).2, (gYp_s (by omega) h6 hs).2.2.2.2 k k0 k1]
          · rw [(X14 hs).2, gYp_r (by omega) (by omega) (by omega) (by omega) (by omega) (by omega) (Or.inl hs), hro _ (by omega) (by omega)]; exact o2
        · rw [X18 k k0 k1, gYp_r (by omega) (by omega) (by omega) (by omega) (by omega) (by omega) (by omega)]; rfl
        · rw [X16 k k0 k1]; unfold gYw; rw [if_pos (by omega), show 16 * p 6 + k - 16 * p 6 = k by omega]
      · refine ⟨?_, ?_, ?_, ?_⟩
        · rw [(X15 _ (by omega)).1, gYp_r (by omega) (by omega) (by omega) (by omega) (by omega) (by omega) (by omega), hro _ (by omega) (by omega)]; exact o1
        · rw [(X15 _ (by omega)).2, gYp_r (by omega) (by omega) (by omega) (by omega) (by omega) (by omega) (by omega), hro _ (by omega) (by omega)]; exact o2
        · rw [X19 _ (by omega), gYp_r (by omega) (by omega) (by omega) (by omega) (by omega) (by omega) (by omega), hro _ (by omega) (by omega)]; exact o3
        · rw [X17 _ (by omega)]; unfold gYw; rw [if_neg (by omega), if_neg (by omega)]; exact o4
    · rw [X20 k k0 k1]; unfold gYw; rw [if_neg (by omega), if_pos (by omega)]
  · unfold RTx; rw [xs 150 rfl (by decide) (by decide) (by decide), xs 151 rfl (by decide) (by decide) (by decide), xs 152 rfl (by decide) (by decide) (by decide), xs 153 rfl (by decide) (by decide) (by decide), xs 154 rfl (by decide) (by decide) (by decide), xs 155 rfl (by decide) (by decide) (by decide), xs 156 rfl (by decide) (by decide) (by decide)]; exact RT_f hB (o 8 (by omega) (by omega)) (o 7 (by omega) (by omega)) (fun i i0 i1 => o i (by omega) (by omega)) hT
  · unfold RPx; rw [xs 157 rfl (by decide) (by decide) (by decide), xs 158 rfl (by decide) (by decide) (by decide)]; exact RP_f (fun i i0 i1 => o i (by omega) (by omega)) hP
theorem IF_y {N : Nat} {q w : Int → Int} (hI : IX q) (hIF : IF N (up q 0 (q 0 + 1)) w) (h6 : q 6 < 7) (hl0 : 0 ≤ q 6160) (hwb : ∀ k, 0 ≤ k → k < 16 → 0 ≤ w (112 + k) ∧ w (112 + k) ≤ 858993459200) : IF N (up (gYp q w) 0 (q 0 + 1)) (gYw q w) ∧ up (gYp q w) 0 (q 0 + 1) 4 + 16 ≤ gCap (up (gYp q w) 0 (q 0 + 1)) := by
  obtain ⟨qB, qA, qN, qR⟩ := id hI
  have qb := qB; unfold IB at qb
  obtain ⟨⟨hB, hA, hN, hR⟩, hM, hE, hEc, hY, hC, hT, hP⟩ := hIF
  have hz : ∀ k, 0 ≤ k → k < 16 → q (6032 + 16 * q 6 + k) = 0 := fun k k0 k1 => by
    have := (hY.1 (q 6) k (by omega) h6 k0 k1).2.2.2
    rw [up_ne (by omega), up_ne (by omega)] at this
    exact this (by omega)
  have o := gYp_o (w := w) hI h6 hz
  obtain ⟨hIr, hro⟩ := IX_yr hI h6 hz
  obtain ⟨v6, v6160, v6162, v47, v54, v61⟩ := gYp_v (p := q) (w := w) (by omega) h6
  obtain ⟨B1, B2, B3, B4⟩ := gY_bd qB qA qN h6 hz hl0
  have u : ∀ i, i ≠ 6 → i < 666 ∨ (690 ≤ i ∧ i < 5647) ∨ (5689 ≤ i ∧ i < 5696) ∨ i = 6161 ∨ 6163 ≤ i → up (gYp q w) 0 (q 0 + 1) i = up q 0 (q 0 + 1) i := fun i i6 hi => by
    by_cases c : i = 0
    · rw [up_at c, up_at c]
    · rw [up_ne c, up_ne c]; exact o i i6 hi
  have hb := hB; unfold IB at hb
  have u6 : up (gYp q w) 0 (q 0 + 1) 6 = q 6 + 1 := by rw [up_ne (by omega)]; exact v6
  have p6 : up q 0 (q 0 + 1) 6 = q 6 := up_ne (by omega)
  have yr : ∀ y k, 0 ≤ y → y < 7 → 0 ≤ k → k < 16 → y ≠ q 6 → up (gYp q w) 0 (q 0 + 1) (5696 + 16 * y + k) = up q 0 (q 0 + 1) (5696 + 16 * y + k) ∧ up (gYp q w) 0 (q 0 + 1) (5808 + 16 * y + k) = up q 0 (q 0 + 1) (5808 + 16 * y + k) ∧ up (gYp q w) 0 (q 0 + 1) (6032 + 16 * y + k) = up q 0 (q 0 + 1) (6032 + 16 * y + k) := by
    intro y k y0 y1 k0 k1 yn
    rw [up_ne (by omega), up_ne (by omega), up_ne (by omega), up_ne (by omega), up_ne (by omega), up_ne (by omega)]
    refine ⟨?_, ?_, ?_⟩
    · rw [gYp_r (by omega) (by omega) (by omega) (by omega) (by omega) (by omega) (by omega), hro _ (by omega) (by omega)]
    · rw [gYp_r (by omega) (by omega) (by omega) (by omega) (by omega) (by omega) (by omega), hro _ (by omega) (by omega)]
    · rw [gYp_r (by omega) (by omega) (by omega) (by omega) (by omega) (by omega) (by omega), hro _ (by omega) (by omega)]
  have cap : gCap (up (gYp q w) 0 (q 0 + 1)) = gCap (up q 0 (q 0 + 1)) + 16 + 16 * up q 0 (q 0 + 1) (5689 + q 6) := by
    unfold gCap
    rw [u 3 (by omega) (by omega), u6, p6, zT_s (by omega)]
    have c1 : zT (fun l => if up (gYp q w) 0 (q 0 + 1) (570 + l) = 2 then 1 else 0) (up q 0 (q 0 + 1) 3) = zT (fun l => if up q 0 (q 0 + 1) (570 + l) = 2 then 1 else 0) (up q 0 (q 0 + 1) 3) := zT_congr (fun l l0 l1 => by (try dsimp only); rw [u (570 + l) (by omega) (by omega)])
    have c2 : zT (fun y => up (gYp q w) 0 (q 0 + 1) (5689 + y)) (q 6) = zT (fun y => up q 0 (q 0 + 1) (5689 + y)) (q 6) := zT_congr (fun y y0 y1 => u (5689 + y) (by omega) (by omega))
    rw [c1, c2, u (5689 + q 6) (by omega) (by omega)]
    omega
  have v0 := (hY.2.2.2 (q 6) (by omega) h6).1
  have e4 := u 4 (by omega) (by omega)
  have c4 : up q 0 (q 0 + 1) 4 ≤ gCap (up q 0 (q 0 + 1)) := hEc.1
  refine ⟨⟨⟨?_, IA_f hB (by rw [u 1 (by omega) (by omega)]; omega) (u 2 (by omega) (by omega)) (fun i i0 i1 => u i (by omega) (by omega)) hA, ?_, IR_f hB (u 5 (by omega) (by omega)) (fun i i0 i1 => u i (by omega) (by omega)) hR⟩, IM_f hB (by rw [u 0 (by omega) (by omega)]; omega) (u 1 (by omega) (by omega)) (fun i i0 i1 => u i (by omega) (by omega)) hM, IE_f hB (by rw [u 0 (by omega) (by omega)]; omega) (by rw [u 1 (by omega) (by omega)]; omega) e4 (fun i i0 i1 => u i (by omega) (by omega)) hE, ⟨?_, IK_f hB (u 2 (by omega) (by omega)) (u 3 (by omega) (by omega)) (fun i i0 i1 => u i (by omega) (by omega)) (fun i i0 i1 => u i (by omega) (by omega)) hEc.2⟩, ⟨?_, ?_, ?_, ?_⟩, ⟨?_, ?_⟩, IT_f hB (by rw [u 0 (by omega) (by omega)]; omega) (u 8 (by omega) (by omega)) (fun i i0 i1 => u i (by omega) (by omega)) hT, IP_f (fun i i0 i1 => u i (by omega) (by omega)) hP⟩, by omega⟩
  · unfold IB
    rw [u 0 (by omega) (by omega), u 1 (by omega) (by omega), u 2 (by omega) (by omega), u 3 (by omega) (by omega), u 4 (by omega) (by omega), u 5 (by omega) (by omega), u6, u 7 (by omega) (by omega), u 8 (by omega) (by omega)]
    omega
  · have rb := hIr.1; unfold IB at rb
    refine IN_f hIr.1 ?_ ?_ ?_ (fun i i0 i1 => ?_) (fun i i0 i1 => ?_) hIr.2.2.1
    · rw [up_at rfl, hro 0 (by omega) (by omega)]; omega
    · rw [up_ne (by omega), o 2 (by omega) (by omega), hro 2 (by omega) (by omega)]
    · rw [up_ne (by omega), o 3 (by omega) (by omega), hro 3 (by omega) (by omega)]
    · rw [up_ne (by omega), gYp_r (by omega) (by omega) (by omega) (by omega) (by omega) (by omega) (by omega)]
    · rw [up_ne (by omega), gYp_r (by omega) (by omega) (by omega) (by omega) (by omega) (by omega) (by omega)]
  · show _ ≤ gCap _
    rw [e4]; omega
  · intro y k y0 y1 k0 k1
    obtain ⟨o1, o2, o3, o4⟩ := hY.1 y k y0 y1 k0 k1
    by_cases e : y = q 6
    · subst e
      have r1 : gYp q w (6032 + 16 * q 6 + k) = gYc q k := gYp_r (by omega) (by omega) (by omega) (by omega) (by omega) (by omega) (by omega)
      have b2 := B2 k k0 k1
      rw [up_ne (by omega)] at o1
      rw [up_ne (by omega)] at o2
      rw [up_ne (by omega), up_ne (by omega), up_ne (by omega), r1, u6]
      by_cases hs : 0 < gYs q
      · obtain ⟨F, D, E, _⟩ := B4 hs
        obtain ⟨_, _, _, g1, g2⟩ := gYp_s (w := w) (show 0 ≤ q 6 by omega) h6 hs
        have b96 := gGet_bd (s := gYd q) (a := gYa w) D.1 (by omega) hwb k0 k1
        have b08 := gGet_bd (s := gYb q) (a := gYc q) E.1 (by omega) (fun k k0 k1 => by have := B2 k k0 k1; omega) k0 k1
        rw [g1 k k0 k1, g2 k k0 k1]
        omega
      · rw [gYp_r (by omega) (by omega) (by omega) (by omega) (by omega) (by omega) (Or.inl hs), gYp_r (by omega) (by omega) (by omega) (by omega) (by omega) (by omega) (Or.inl hs), hro _ (by omega) (by omega), hro _ (by omega) (by omega)]
        omega
    · obtain ⟨y1', y2', y3'⟩ := yr y k y0 y1 k0 k1 e
      rw [y1', y2', y3', u6]
      exact ⟨o1, o2, o3, fun c => o4 (by omega)⟩
  · intro k k0 k1
    unfold gYw
    by_cases c : 16 * q 6 ≤ k ∧ k < 16 * q 6 + 16
    · rw [if_pos c]
      have := hwb (k - 16 * q 6) (by omega) (by omega)
      omega
    · rw [if_neg c, if_neg (by omega)]; exact hY.2.1 k k0 k1
  · intro k k0 k1
    unfold gYw
    rw [if_neg (by omega), if_pos (by omega), up_at rfl]
    omega
  · intro y y0 y1
    rw [u (5689 + y) (by omega) (by omega)]
    refine ⟨(hY.2.2.2 y y0 y1).1, ?_⟩
    have old := (hY.2.2.2 y y0 y1).2
    rw [up_ne (by omega)] at old
    rw [up_ne (by omega)]
    by_cases e : y = q 6
    · subst e
      by_cases hs : 0 < gYs q
      · obtain ⟨F, D, E, _⟩ := B4 hs
        rw [(gYp_s (w := w) (by omega) h6 hs).2.1]
        omega
      · rw [gYp_r (by omega) (by omega) (by omega) (by omega) (by omega) (by omega) (Or.inl hs), hro _ (by omega) (by omega)]; exact old
    · rw [gYp_r (by omega) (by omega) (by omega) (by omega) (by omega) (by omega) (by omega), hro _ (by omega) (by omega)]; exact old
  · have := hC.1
    rw [up_ne (by omega)] at this
    rw [up_ne (by omega), o 6161 (by omega) (by omega)]
    exact this
  · rw [up_ne (by omega), v6160, up_at rfl]
    omega
