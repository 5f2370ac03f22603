/-! A YEAR CLOSES: the class's run, and what holds behind it -/
def gYF (x x' : zM) (p w : Int → Int) : Prop :=
  (∀ k, zScr k = false → k ≠ 7 → k ≠ 87 → k ≠ 108 → k ≠ 109 → k ≠ 117 → k ≠ 125 → k ≠ 133 → k ≠ 141 → k ≠ 149 → x' k = x k) ∧
  ((∀ i, i ≠ 8 → x' 7 i = x 7 i) ∧ w32 (x' 7 8) = gYv p w) ∧
  (∀ l, 0 ≤ l → l < p 3 → x' 87 l = gYr p (666 + l)) ∧
  (x' 108 0 = p 6 + 1 ∧ x' 108 7 = 0) ∧
  (x' 109 (p 6 * 7 + 0) = gYe p ∧ x' 109 (p 6 * 7 + 1) = p 6160 ∧ x' 109 (p 6 * 7 + 2) = gYs p ∧ (0 < gYs p → x' 109 (p 6 * 7 + 3) = gYf p ∧ x' 109 (p 6 * 7 + 4) = gYd p ∧ x' 109 (p 6 * 7 + 5) = gYb p) ∧ (¬ 0 < gYs p → ∀ i, i < p 6 * 7 ∨ p 6 * 7 + 3 ≤ i → x' 109 i = x 109 i) ∧ (∀ i, i < p 6 * 7 ∨ p 6 * 7 + 6 ≤ i → x' 109 i = x 109 i)) ∧
  ((0 < gYs p → ∀ k, 0 ≤ k → k < 16 → x' 117 (p 6 * 16 + k) = gGet (gYd p) (gYa w) k ∧ x' 125 (p 6 * 16 + k) = gGet (gYb p) (gYc p) k) ∧ (¬ 0 < gYs p → x' 117 = x 117 ∧ x' 125 = x 125) ∧ (∀ i, i < p 6 * 16 ∨ p 6 * 16 + 16 ≤ i → x' 117 i = x 117 i ∧ x' 125 i = x 125 i)) ∧
  ((∀ k, 0 ≤ k → k < 16 → x' 133 (p 6 * 16 + k) = w (112 + k)) ∧ (∀ i, i < p 6 * 16 ∨ p 6 * 16 + 16 ≤ i → x' 133 i = x 133 i)) ∧
  ((∀ k, 0 ≤ k → k < 16 → x' 141 (p 6 * 16 + k) = gYc p k) ∧ (∀ i, i < p 6 * 16 ∨ p 6 * 16 + 16 ≤ i → x' 141 i = x 141 i)) ∧ (∀ k, 0 ≤ k → k < 16 → x' 149 k = 0)
theorem IX_yr {p : Int → Int} (hI : IX p) (h6 : p 6 < 7) (hz : ∀ k, 0 ≤ k → k < 16 → p (6032 + 16 * p 6 + k) = 0) : IX (gYr p) ∧ (∀ i, i < 666 ∨ 690 ≤ i → i < 6032 + 16 * p 6 ∨ 6032 + 16 * p 6 + 16 ≤ i → gYr p i = p i) := by
  obtain ⟨hB, hA, hN, hR⟩ := hI
  have hb := hB; unfold IB at hb
  obtain ⟨J1, J2, J3, J4, J5⟩ := gEr_J hB hA hN (show 0 ≤ p 6 by omega) h6 hz (p 3) (by omega) (Int.le_refl _)
  rw [show (gEr p (p 6) (p 3)).1 = gYr p from rfl] at J1 J2 J3 J4
  refine ⟨⟨?_, IA_f hB (by rw [J2 1 (by omega) (by omega)]; omega) (J2 2 (by omega) (by omega)) (fun i i0 i1 => J2 i (by omega) (by omega)) hA, J1, IR_f hB (J2 5 (by omega) (by omega)) (fun i i0 i1 => J2 i (by omega) (by omega)) hR⟩, J2⟩
  unfold IB
  rw [J2 0 (by omega) (by omega), J2 1 (by omega) (by omega), J2 2 (by omega) (by omega), J2 3 (by omega) (by omega), J2 4 (by omega) (by omega), J2 5 (by omega) (by omega), J2 6 (by omega) (by omega), J2 7 (by omega) (by omega), J2 8 (by omega) (by omega)]
  exact hb
theorem c13 {d : Nat} {p w : Int → Int} {x m : zM} {Q : Int → zM → zM → Prop} (hd : 8 ≤ d) (hX : RX x p) (hY : RYx x p w) (hI : IX p) (h6 : p 6 < 7) (hz : ∀ k, 0 ≤ k → k < 16 → p (6032 + 16 * p 6 + k) = 0) (hl0 : 0 ≤ p 6160) (hl1 : p 6160 ≤ 2117251128) (hwb : ∀ k, 0 ≤ k → k < 16 → 0 ≤ w (112 + k) ∧ w (112 + k) ≤ 858993459200) (h : ∀ x', gYF x x' p w → Q 0 x' m) : WPc d 13 [zr 332] 403 [] x m 403 [] Q := by
  obtain ⟨hB, hA, hN, hR⟩ := id hI
  have hb := hB; unfold IB at hb
  obtain ⟨hIr, hro⟩ := IX_yr hI h6 hz
  obtain ⟨B1, B2, B3, B4⟩ := gY_bd hB hA hN h6 hz hl0
  have e0 : x 108 0 = p 6 := hY.1
  have e7 : x 108 7 = p 6160 := hY.2.1
  have e141 : ∀ k, 0 ≤ k → k < 16 → x 141 (p 6 * 16 + k) = p (6032 + 16 * p 6 + k) := fun k k0 k1 => (hY.2.2.2.1 (p 6) k (by omega) h6 k0 k1).2.2.1
  have e149 : ∀ k, 0 ≤ k → k < 16 → x 149 k = w (112 + k) := hY.2.2.2.2
  apply r13
  simp only [e0]
  refine ⟨by omega, by omega, by omega, by omega, by omega, by omega, ?_⟩
  obtain ⟨xA, hA0⟩ : ∃ xA, xA = zcpy x 149 0 133 (p 6 * 16 + 0) 16 := ⟨_, rfl⟩
  rw [← hA0]
  have A1 : ∀ k, k ≠ 133 → xA k = x k := fun k k0 => by rw [hA0, zcpy_ne x _ _ _ k0]
  have A133 : ∀ k, 0 ≤ k → k < 16 → xA 133 (p 6 * 16 + k) = w (112 + k) := fun k k0 k1 => by rw [hA0, zcpy_in x (by omega), show 0 + (p 6 * 16 + k - (p 6 * 16 + 0)) = k by omega]; exact e149 k k0 k1
  have A133o : ∀ i, i < p 6 * 16 ∨ p 6 * 16 + 16 ≤ i → xA 133 i = x 133 i := fun i i0 => by rw [hA0, zcpy_out x (by omega)]
  have hXA : RX xA p := RX_o (fun k k0 _ => A1 k (by omega)) hX
  refine c14 (p := p) (y := p 6) hXA.2.2.2.1 hB hA hN (by omega) h6 hz (fun k k0 k1 => by rw [A1 141 (by decide)]; exact e141 k k0 k1) ?_
  intro xB hB1 hB2 hB3 hB4
  rw [show (gEr p (p 6) (p 3)).1 = gYr p from rfl] at hB2 hB3
  rw [show (gEr p (p 6) (p 3)).2 = gYe p from rfl]
  have B108 : xB 108 = x 108 := by rw [hB1 108 (by decide) (by decide), A1 108 (by decide)]
  have B109 : xB 109 = x 109 := by rw [hB1 109 (by decide) (by decide), A1 109 (by decide)]
  have B7 : xB 7 = x 7 := by rw [hB1 7 (by decide) (by decide), A1 7 (by decide)]
  simp only [zu_eq, B108, e7, B109]
  have a1 : ∀ (f : Int → Int) (u v : Int), up (up f (p 6 * 7 + 0) u) (p 6 * 7 + 1) v (p 6 * 7 + 0) = u := fun f u v => by rw [up_ne (by omega), up_at rfl]
  have a2 : ∀ (f : Int → Int) (u v : Int), up (up f (p 6 * 7 + 0) u) (p 6 * 7 + 1) v (p 6 * 7 + 1) = v := fun f u v => up_at rfl
  have hS : gYe p - p 6160 = gYs p := rfl
  simp only [a1, a2, hS, up_eq]
  obtain ⟨xC, hC0⟩ : ∃ xC, xC = zupd (zupd (zupd xB 109 (p 6 * 7 + 0) (gYe p)) 109 (p 6 * 7 + 1) (p 6160)) 109 (p 6 * 7 + 2) (gYs p) := ⟨_, rfl⟩
  simp only [← hC0]
  have C109 : xC 109 = up (up (up (x 109) (p 6 * 7 + 0) (gYe p)) (p 6 * 7 + 1) (p 6160)) (p 6 * 7 + 2) (gYs p) := by rw [hC0, zu_eq, zu_eq, zu_eq, B109]
  have C1 : ∀ k, k ≠ 109 → k ≠ 87 → k ≠ 141 → k ≠ 133 → xC k = x k := fun k k0 k1 k2 k3 => by rw [hC0, zu_ne _ _ _ k0, zu_ne _ _ _ k0, zu_ne _ _ _ k0, hB1 k k1 k2, A1 k k3]
  have C87 : xC 87 = xB 87 := by rw [hC0, zu_ne _ _ _ (by decide), zu_ne _ _ _ (by decide), zu_ne _ _ _ (by decide)]
  have C141 : xC 141 = xB 141 := by rw [hC0, zu_ne _ _ _ (by decide), zu_ne _ _ _ (by decide), zu_ne _ _ _ (by decide)]
  have C133 : xC 133 = xA 133 := by rw [hC0, zu_ne _ _ _ (by decide), zu_ne _ _ _ (by decide), zu_ne _ _ _ (by decide), hB1 133 (by decide) (by decide)]
  have C141o : ∀ i, i < p 6 * 16 ∨ p 6 * 16 + 16 ≤ i → xC 141 i = x 141 i := fun i i0 => by rw [C141, hB4 i i0, A1 141 (by decide)]
  have ez : ∀ k j : Int, zfil xC 149 0 16 0 149 j = zfil xC 149 0 16 0 149 j := fun _ _ => rfl
  refine ⟨by omega, by omega, by omega, by omega, by unfold zLn; omega, by omega, by omega, fun hs => ?_, fun hs => ?_⟩
  · refine ⟨by omega, by omega, ?_⟩
    refine r283 (k := 149) (len := 16) rfl rfl ?_
    obtain ⟨xD, hD0⟩ : ∃ xD, xD = zupd xC 7 8 (w64 (xB 7 8 + gYs p)) := ⟨_, rfl⟩
    rw [← hD0]
    have D1 : ∀ k, k ≠ 7 → xD k = xC k := fun k k0 => by rw [hD0, zu_ne _ _ _ k0]
    have E1 : ∀ k, k ≠ 149 → zfil xD 149 (zoff (zr 149) 0) (16 : Nat) 0 k = xD k := fun k k0 => zfil_ne xD _ _ _ k0
    have E108 : zfil xD 149 (zoff (zr 149) 0) (16 : Nat) 0 108 = x 108 := by rw [E1 108 (by decide), D1 108 (by decide), C1 108 (by decide) (by decide) (by decide) (by decide)]
    rw [E108, e0]
    refine ⟨by unfold zIn; omega, h _ ⟨fun k hk k0 k1 k2 k3 k4 k5 k6 k7 k8 => ?_, ⟨fun i i0 => ?_, ?_⟩, fun l l0 l1 => ?_, ⟨?_, ?_⟩, ⟨?_, ?_, ?_, fun c => absurd c (by omega), fun _ i i0 => ?_, fun i i0 => ?_⟩, ⟨fun c => absurd c (by omega), fun _ => ⟨?_, ?_⟩, fun i i0 => ⟨?_, ?_⟩⟩, ⟨fun k k0 k1 => ?_, fun i i0 => ?_⟩, ⟨fun k k0 k1 => ?_, fun i i0 => ?_⟩, fun k k0 k1 => ?_⟩⟩
    · rw [zu_ne _ _ _ k2, zu_ne _ _ _ k2, E1 k k8, D1 k k0, C1 k k3 k1 k7 k6]
    · rw [zu_ne _ _ _ (by decide), zu_ne _ _ _ (by decide), E1 7 (by decide), hD0, zu_eq, up_ne i0, C1 7 (by decide) (by decide) (by decide) (by decide)]
    · rw [zu_ne _ _ _ (by decide), zu_ne _ _ _ (by decide), E1 7 (by decide), hD0, zu_eq, up_at rfl, w32_w64, ← w32_wa, B7]
      unfold gYv
      rw [if_neg (by omega), show w32 (x 7 8) = p 6162 from hX.2.1.2.2.2.2]
    · rw [zu_ne _ _ _ (by decide), zu_ne _ _ _ (by decide), E1 87 (by decide), D1 87 (by decide), C87]; exact hB2 l l0 l1
    · rw [zu_eq, up_at rfl]
    · rw [zu_eq, up_ne (by decide), zu_eq, up_at rfl]
    · rw [zu_ne _ _ _ (by decide), zu_ne _ _ _ (by decide), E1 109 (by decide), D1 109 (by decide), C109, up_ne (by omega), up_ne (by omega), up_at rfl]
    · rw [zu_ne _ _ _ (by decide), zu_ne _ _ _ (by decide), E1 109 (by decide), D1 109 (by decide), C109, up_ne (by omega), up_at rfl]
    · rw [zu_ne _ _ _ (by decide), zu_ne _ _ _ (by decide), E1 109 (by decide), D1 109 (by decide), C109, up_at rfl]
    · rw [zu_ne _ _ _ (by decide), zu_ne _ _ _ (by decide), E1 109 (by decide), D1 109 (by decide), C109, up_ne (by omega), up_ne (by omega), up_ne (by omega)]
    · rw [zu_ne _ _ _ (by decide), zu_ne _ _ _ (by decide), E1 109 (by decide), D1 109 (by decide), C109, up_ne (by omega), up_ne (by omega), up_ne (by omega)]
    · rw [zu_ne _ _ _ (by decide), zu_ne _ _ _ (by decide), E1 117 (by decide), D1 117 (by decide), C1 117 (by decide) (by decide) (by decide) (by decide)]
    · rw [zu_ne _ _ _ (by decide), zu_ne _ _ _ (by decide), E1 125 (by decide), D1 125 (by decide), C1 125 (by decide) (by decide) (by decide) (by decide)]
    · rw [zu_ne _ _ _ (by decide), zu_ne _ _ _ (by decide), E1 117 (by decide), D1 117 (by decide), C1 117 (by decide) (by decide) (by decide) (by decide)]
    · rw [zu_ne _ _ _ (by decide), zu_ne _ _ _ (by decide), E1 125 (by decide), D1 125 (by decide), C1 125 (by decide) (by decide) (by decide) (by decide)]
    · rw [zu_ne _ _ _ (by decide), zu_ne _ _ _ (by decide), E1 133 (by decide), D1 133 (by decide), C133]; exact A133 k k0 k1
    · rw [zu_ne _ _ _ (by decide), zu_ne _ _ _ (by decide), E1 133 (by decide), D1 133 (by decide), C133]; exact A133o i i0
    · rw [zu_ne _ _ _ (by decide), zu_ne _ _ _ (by decide), E1 141 (by decide), D1 141 (by decide), C141]; exact hB3 k k0 k1
    · rw [zu_ne _ _ _ (by decide), zu_ne _ _ _ (by decide), E1 141 (by decide), D1 141 (by decide)]; exact C141o i i0
    · rw [zu_ne _ _ _ (by decide), zu_ne _ _ _ (by decide)]
      exact zfil_at xD 149 _ _ _ _ (by show 0 ≤ k ∧ k < 0 + ((16 : Nat) : Int); omega)
  · obtain ⟨⟨F0, F1⟩, ⟨D0, D1⟩, ⟨E0, E1⟩, M3, M4⟩ := B4 hs
    have hXC : RX xC (gYr p) := by
      have r := RX_o (x' := xC) (p := p) (x := xB) (fun k k0 _ => by rw [hC0, zu_ne _ _ _ (by omega), zu_ne _ _ _ (by omega), zu_ne _ _ _ (by omega)])
      have o : ∀ i, i < 666 ∨ (690 ≤ i ∧ i < 6032) ∨ 6144 ≤ i → gYr p i = p i := fun i hi => hro i (by omega) (by omega)
      refine ⟨?_, ?_, ?_, ?_, ?_⟩
      · unfold RMx; rw [C1 1 (by decide) (by decide) (by decide) (by decide), C1 2 (by decide) (by decide) (by decide) (by decide), C1 3 (by decide) (by decide) (by decide) (by decide), C1 4 (by decide) (by decide) (by decide) (by decide), C1 5 (by decide) (by decide) (by decide) (by decide), C1 6 (by decide) (by decide) (by decide) (by decide)]; exact RM_f hB (o 0 (by omega)) (o 1 (by omega)) (fun i i0 i1 => o i (by omega)) hX.1
      · unfold RLx; rw [C1 7 (by decide) (by decide) (by decide) (by decide), C1 8 (by decide) (by decide) (by decide) (by decide), C1 9 (by decide) (by decide) (by decide) (by decide), C1 10 (by decide) (by decide) (by decide) (by decide), C1 11 (by decide) (by decide) (by decide) (by decide), C1 12 (by decide) (by decide) (by decide) (by decide)]; exact RL_f hB (o 4 (by omega)) (fun i i0 i1 => o i (by omega)) (o 6161 (by omega)) (o 6162 (by omega)) hX.2.1
      · unfold RAx; rw [C1 14 (by decide) (by decide) (by decide) (by decide), C1 15 (by decide) (by decide) (by decide) (by decide), C1 16 (by decide) (by decide) (by decide) (by decide), C1 17 (by decide) (by decide) (by decide) (by decide), C1 18 (by decide) (by decide) (by decide) (by decide), C1 19 (by decide) (by decide) (by decide) (by decide), C1 20 (by decide) (by decide) (by decide) (by decide), C1 21 (by decide) (by decide) (by decide) (by decide), C1 22 (by decide) (by decide) (by decide) (by decide), C1 47 (by decide) (by decide) (by decide) (by decide)]; exact RA_f hB (o 2 (by omega)) (fun i i0 i1 => o i (by omega)) hX.2.2.1
      · refine ⟨by rw [C1 72 (by decide) (by decide) (by decide) (by decide), o 3 (by omega)]; exact hX.2.2.2.1.1, fun k k0 k1 => ?_⟩
        rw [o 3 (by omega)] at k1
        have rk := hX.2.2.2.1.2 k k0 k1
        have n := hN.1 k k0 k1
        unfold INl at n
        have ge : gEc (gYr p) (p (450 + k)) (p (498 + k)) = gEc p (p (450 + k)) (p (498 + k)) := gEc_f (by omega) (by omega) (fun j j0 j1 => o j (by omega))
        rw [C1 73 (by decide) (by decide) (by decide) (by decide), C1 74 (by decide) (by decide) (by decide) (by decide), C1 75 (by decide) (by decide) (by decide) (by decide), C1 76 (by decide) (by decide) (by decide) (by decide), C1 77 (by decide) (by decide) (by decide) (by decide), C1 78 (by decide) (by decide) (by decide) (by decide), C1 79 (by decide) (by decide) (by decide) (by decide), C1 80 (by decide) (by decide) (by decide) (by decide), C1 81 (by decide) (by decide) (by decide) (by decide), C1 82 (by decide) (by decide) (by decide) (by decide), C1 83 (by decide) (by decide) (by decide) (by decide), C1 84 (by decide) (by decide) (by decide) (by decide), C1 85 (by decide) (by decide) (by decide) (by decide), C1 86 (by decide) (by decide) (by decide) (by decide), C87, hB2 k k0 k1]
        rw [o (450 + k) (by omega), o (90 + p (450 + k)) (by omega), o (114 + p (450 + k)) (by omega), o (138 + p (450 + k)) (by omega), o (162 + p (450 + k)) (by omega), o (474 + k) (by omega), o (498 + k) (by omega), ge, o (522 + k) (by omega), o (546 + k) (by omega), o (570 + k) (by omega), o (594 + k) (by omega), o (618 + k) (by omega), o (642 + k) (by omega)]
        exact ⟨rk.1, rk.2.1, rk.2.2.1, rk.2.2.2.1, rk.2.2.2.2.1, rk.2.2.2.2.2.1, rk.2.2.2.2.2.2.1, rk.2.2.2.2.2.2.2.1, rk.2.2.2.2.2.2.2.2.1, rk.2.2.2.2.2.2.2.2.2.1, rk.2.2.2.2.2.2.2.2.2.2.1, rk.2.2.2.2.2.2.2.2.2.2.2.1, rk.2.2.2.2.2.2.2.2.2.2.2.2.1, rk.2.2.2.2.2.2.2.2.2.2.2.2.2.1, rfl⟩
      · unfold RRx; rw [C1 88 (by decide) (by decide) (by decide) (by decide), C1 89 (by decide) (by decide) (by decide) (by decide), C1 90 (by decide) (by decide) (by decide) (by decide), C1 91 (by decide) (by decide) (by decide) (by decide), C1 92 (by decide) (by decide) (by decide) (by decide), C1 93 (by decide) (by decide) (by decide) (by decide), C1 94 (by decide) (by decide) (by decide) (by decide)]; exact RR_f hB hR (o 5 (by omega)) (fun i i0 i1 => o i (by omega)) hX.2.2.2.2
    have t3 : gTell (gYr p) 3 (-1) = gTell p 3 (-1) := gTell_n hB hR (hro 0 (by omega) (by omega)) (hro 5 (by omega) (by omega)) (hro 6161 (by omega) (by omega)) (fun i i0 i1 => hro i (by omega) (by omega))
    have t4 : gTell (gYr p) 4 (-1) = gTell p 4 (-1) := gTell_n hB hR (hro 0 (by omega) (by omega)) (hro 5 (by omega) (by omega)) (hro 6161 (by omega) (by omega)) (fun i i0 i1 => hro i (by omega) (by omega))
    refine ⟨by omega, ?_⟩
    refine c15 (p := gYr p) (S := gYs p) (f3 := gYf p) (f4 := gYd p) (a := gYa w) (c := gYc p) (by omega) hXC hIr (by omega) h6 (by rw [C109]; exact up_at rfl) hs B3 (fun k k0 k1 => by rw [C133]; exact A133 k k0 k1) hwb (fun k k0 k1 => by rw [C141]; exact hB3 k k0 k1) (fun k k0 k1 => by have := B2 k k0 k1; omega) (by rw [t3]; rfl) (by rw [t4]; rfl) ?_
    intro xD G1 G2 G3 G4 G5 G6 G7 G8 G9
    refine ⟨by omega, ?_⟩
    refine r283 (k := 149) (len := 16) rfl rfl ?_
    have H1 : ∀ k, k ≠ 149 → zfil xD 149 (zoff (zr 149) 0) (16 : Nat) 0 k = xD k := fun k k0 => zfil_ne xD _ _ _ k0
    have H108 : zfil xD 149 (zoff (zr 149) 0) (16 : Nat) 0 108 = x 108 := by rw [H1 108 (by decide), G1 108 rfl (by decide) (by decide) (by decide) (by decide), C1 108 (by decide) (by decide) (by decide) (by decide)]
    rw [H108, e0]
    refine ⟨by unfold zIn; omega, h _ ⟨fun k hk k0 k1 k2 k3 k4 k5 k6 k7 k8 => ?_, ⟨fun i i0 => ?_, ?_⟩, fun l l0 l1 => ?_, ⟨?_, ?_⟩, ⟨?_, ?_, ?_, fun _ => ?_, fun c => absurd hs c, fun i i0 => ?_⟩, ⟨fun _ k k0 k1 => ⟨?_, ?_⟩, fun c => absurd hs c, fun i i0 => ⟨?_, ?_⟩⟩, ⟨fun k k0 k1 => ?_, fun i i0 => ?_⟩, ⟨fun k k0 k1 => ?_, fun i i0 => ?_⟩, fun k k0 k1 => ?_⟩⟩
    · rw [zu_ne _ _ _ k2, zu_ne _ _ _ k2, H1 k k8, G1 k hk k0 k3 k4 k5, C1 k k3 k1 k7 k6]
    · rw [zu_ne _ _ _ (by decide), zu_ne _ _ _ (by decide), H1 7 (by decide), G2 i i0, C1 7 (by decide) (by decide) (by decide) (by decide)]
    · rw [zu_ne _ _ _ (by decide), zu_ne _ _ _ (by decide), H1 7 (by decide), G3, C1 7 (by decide) (by decide) (by decide) (by decide)]
      unfold gYv
      rw [if_pos hs, show w32 (x 7 8) = p 6162 from hX.2.1.2.2.2.2]
      rfl
    · rw [zu_ne _ _ _ (by decide), zu_ne _ _ _ (by decide), H1 87 (by decide), G1 87 rfl (by decide) (by decide) (by decide) (by decide), C87]; exact hB2 l l0 l1
    · rw [zu_eq, up_at rfl]
    · rw [zu_eq, up_ne (by decide), zu_eq, up_at rfl]
    · rw [zu_ne _ _ _ (by decide), zu_ne _ _ _ (by decide), H1 109 (by decide), G5 _ (by omega), C109, up_ne (by omega), up_ne (by omega), up_at rfl]
    · rw [zu_ne _ _ _ (by decide), zu_ne _ _ _ (by decide), H1 109 (by decide), G5 _ (by omega), C109, up_ne (by omega), up_at rfl]
    · rw [zu_ne _ _ _ (by decide), zu_ne _ _ _ (by decide), H1 109 (by decide), G5 _ (by omega), C109, up_at rfl]
    · rw [zu_ne _ _ _ (by decide), zu_ne _ _ _ (by decide), H1 109 (by decide)]; exact G4
    · rw [zu_ne _ _ _ (by decide), zu_ne _ _ _ (by decide), H1 109 (by decide), G5 _ (by omega), C109, up_ne (by omega), up_ne (by omega), up_ne (by omega)]
    · rw [zu_ne _ _ _ (by decide), zu_ne _ _ _ (by decide), H1 117 (by decide)]; exact G6 k k0 k1
    · rw [zu_ne _ _ _ (by decide), zu_ne _ _ _ (by decide), H1 125 (by decide)]; exact G8 k k0 k1
    · rw [zu_ne _ _ _ (by decide), zu_ne _ _ _ (by decide), H1 117 (by decide), G7 i i0, C1 117 (by decide) (by decide) (by decide) (by decide)]
    · rw [zu_ne _ _ _ (by decide), zu_ne _ _ _ (by decide), H1 125 (by decide), G9 i i0, C1 125 (by decide) (by decide) (by decide) (by decide)]
    · rw [zu_ne _ _ _ (by decide), zu_ne _ _ _ (by decide), H1 133 (by decide), G1 133 rfl (by decide) (by decide) (by decide) (by decide), C133]; exact A133 k k0 k1
    · rw [zu_ne _ _ _ (by decide), zu_ne _ _ _ (by decide), H1 133 (by decide), G1 133 rfl (by decide) (by decide) (by decide) (by decide), C133]; exact A133o i i0
    · rw [zu_ne _ _ _ (by decide), zu_ne _ _ _ (by decide), H1 141 (by decide), G1 141 rfl (by decide) (by decide) (by decide) (by decide), C141]; exact hB3 k k0 k1
    · rw [zu_ne _ _ _ (by decide), zu_ne _ _ _ (by decide), H1 141 (by decide), G1 141 rfl (by decide) (by decide) (by decide) (by decide)]; exact C141o i i0
    · rw [zu_ne _ _ _ (by decide), zu_ne _ _ _ (by decide)]
      exact zfil_at xD 149 _ _ _ _ (by show 0 ≤ k ∧ k < 0 + ((16 : Nat) : Int); omega)
