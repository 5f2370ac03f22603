/-! WHAT HOLDS BEHIND A FAILURE -/
theorem gFp_o {p : Int → Int} {l i : Int} (hB : IB p) (hA : IA p) (hN : IN p) (hE : IE p) (h6 : p 4 ≤ 644) (l0 : 0 ≤ l) (l1 : l < p 3) (i4 : i ≠ 4) (hi : i < 690 ∨ 3490 ≤ i) (a1 : i ≠ 570 + l) (a2 : i ≠ 594 + l) (a3 : i ≠ 618 + l) (a4 : i ≠ 642 + l) (a5 : i ≠ 6160) : gFp p l i = p i := by
  have hb := hB; unfold IB at hb
  have nl := hN.1 l l0 l1
  unfold INl at nl
  have aa := hA.1 (p (450 + l)) (by omega) (by omega)
  unfold IAa at aa
  have J := gFj_J hB hA hN hE h6 l0 l1 (p (234 + p (450 + l))) (by omega) (by omega)
  unfold gFp
  rw [up_ne a5, up_ne a4, up_ne a3, up_ne a2, up_ne a1]
  exact J.2.2.2.1 i i4 hi
theorem gFp_e {p : Int → Int} {l i : Int} (l0 : 0 ≤ l) (l1 : l < 24) (hi : i = 4 ∨ (690 ≤ i ∧ i < 3490)) : gFp p l i = (gFj p l (p (234 + p (450 + l)))).1 i := by
  unfold gFp
  rw [up_ne (by omega), up_ne (by omega), up_ne (by omega), up_ne (by omega), up_ne (by omega)]
theorem gFp_v {p : Int → Int} {l : Int} (l0 : 0 ≤ l) (l1 : l < 24) : gFp p l (570 + l) = 2 ∧ gFp p l (594 + l) = gFown p l ∧ gFp p l (618 + l) = gFback p l ∧ gFp p l (642 + l) = gFlost p l ∧ gFp p l 6160 = p 6160 + gFlost p l := by
  unfold gFp
  refine ⟨?_, ?_, ?_, ?_, up_eq _ _ _⟩
  · rw [up_ne (by omega), up_ne (by omega), up_ne (by omega), up_ne (by omega), up_eq]
  · rw [up_ne (by omega), up_ne (by omega), up_ne (by omega), up_eq]
  · rw [up_ne (by omega), up_ne (by omega), up_eq]
  · rw [up_ne (by omega), up_eq]
theorem gFp_bd {p : Int → Int} {l : Int} (hB : IB p) (hA : IA p) (hN : IN p) (hE : IE p) (h6 : p 4 ≤ 644) (l0 : 0 ≤ l) (l1 : l < p 3) : (0 ≤ gFown p l ∧ gFown p l ≤ 219997) ∧ (0 ≤ gFback p l ∧ gFback p l ≤ 219997) ∧ (0 ≤ gFlost p l ∧ gFlost p l ≤ 219997) := by
  have hb := hB; unfold IB at hb
  have nl := hN.1 l l0 l1
  unfold INl at nl
  have aa := hA.1 (p (450 + l)) (by omega) (by omega)
  unfold IAa at aa
  obtain ⟨J1, J2, J3, J4, J5, J6, J7⟩ := gFj_J hB hA hN hE h6 l0 l1 (p (234 + p (450 + l))) (by omega) (by omega)
  have ow := gOw_bd hA hN l0 l1
  have o0 : 0 ≤ gFown p l := (gTk_bd _ _ _).1
  unfold gFback gFlost
  omega
theorem gFp_I {p : Int → Int} {l : Int} (hB : IB p) (hA : IA p) (hN : IN p) (hE : IE p) (h6 : p 4 ≤ 644) (l0 : 0 ≤ l) (l1 : l < p 3) (hs : p (570 + l) = 0) : IB (gFp p l) ∧ IA (gFp p l) ∧ IN (gFp p l) ∧ IE (gFp p l) ∧ gFp p l 4 ≤ p 4 + 5 ∧ gCap (gFp p l) = gCap p + 5 := by
  have hb := hB; unfold IB at hb
  have nl := hN.1 l l0 l1
  unfold INl at nl
  have aa := hA.1 (p (450 + l)) (by omega) (by omega)
  unfold IAa at aa
  obtain ⟨J1, J2, J3, J4, J5, J6, J7⟩ := gFj_J hB hA hN hE h6 l0 l1 (p (234 + p (450 + l))) (by omega) (by omega)
  have o := fun i => gFp_o (i := i) hB hA hN hE h6 l0 l1
  have e := fun i => gFp_e (p := p) (l := l) (i := i) l0 (by omega)
  obtain ⟨v1, v2, v3, v4, v5⟩ := gFp_v (p := p) l0 (show l < 24 by omega)
  obtain ⟨b1, b2, b3⟩ := gFp_bd hB hA hN hE h6 l0 l1
  have ob : ∀ i, i ≠ 4 → i < 570 → gFp p l i = p i := fun i a b => o i a (by omega) (by omega) (by omega) (by omega) (by omega) (by omega)
  have e4 := e 4 (by omega)
  have JB := J1
  unfold IB at JB
  refine ⟨?_, IA_f hB (by rw [ob 1 (by omega) (by omega)]; omega) (ob 2 (by omega) (by omega)) (fun i i0 i1 => ob i (by omega) (by omega)) hA, ?_, ?_, ?_, ?_⟩
  · unfold IB
    rw [ob 0 (by omega) (by omega), ob 1 (by omega) (by omega), ob 2 (by omega) (by omega), ob 3 (by omega) (by omega), e4, ob 5 (by omega) (by omega), ob 6 (by omega) (by omega), ob 7 (by omega) (by omega), ob 8 (by omega) (by omega)]
    omega
  · refine ⟨fun k k0 k1 => ?_, fun k k0 k1 => ?_⟩
    · rw [ob 3 (by omega) (by omega)] at k1
      have nk := hN.1 k k0 k1
      unfold INl at *
      rw [ob (450 + k) (by omega) (by omega), ob (474 + k) (by omega) (by omega), ob (498 + k) (by omega) (by omega), ob (522 + k) (by omega) (by omega), ob (546 + k) (by omega) (by omega), ob (138 + p (450 + k)) (by omega) (by omega), ob 0 (by omega) (by omega), ob 2 (by omega) (by omega)]
      by_cases c : k = l
      · subst c
        rw [v1, v2, v3, v4]; omega
      · rw [o (570 + k) (by omega) (by omega) (by omega) (by omega) (by omega) (by omega) (by omega), o (594 + k) (by omega) (by omega) (by omega) (by omega) (by omega) (by omega) (by omega), o (618 + k) (by omega) (by omega) (by omega) (by omega) (by omega) (by omega) (by omega), o (642 + k) (by omega) (by omega) (by omega) (by omega) (by omega) (by omega) (by omega)]
        exact nk
    · rw [ob 3 (by omega) (by omega)] at k1
      have nk := hN.1 k k0 k1
      have ne := hN.2 k k0 k1
      unfold INl at nk
      unfold INe at *
      rw [ob (450 + k) (by omega) (by omega), ob (498 + k) (by omega) (by omega), ob (522 + k) (by omega) (by omega), ob (138 + p (450 + k)) (by omega) (by omega), o (666 + k) (by omega) (by omega) (by omega) (by omega) (by omega) (by omega) (by omega)]
      exact ne
  · refine IE_f J1 ?_ ?_ e4 (fun i i0 i1 => e i (by omega)) J2
    · rw [ob 0 (by omega) (by omega), J4 0 (by omega) (by omega)]; omega
    · rw [ob 1 (by omega) (by omega), J4 1 (by omega) (by omega)]; omega
  · rw [e4]; omega
  · unfold gCap
    rw [ob 3 (by omega) (by omega), ob 6 (by omega) (by omega)]
    have c1 := zT_one (f := fun j => if gFp p l (570 + j) = 2 then 1 else 0) (g := fun j => if p (570 + j) = 2 then 1 else 0) (n := p 3) l0 l1 (fun j j0 j1 jn => by (try dsimp only); rw [o (570 + j) (by omega) (by omega) (by omega) (by omega) (by omega) (by omega) (by omega)])
    have f1 : (if gFp p l (570 + l) = 2 then (1 : Int) else 0) = 1 := by rw [v1, if_pos rfl]
    have f2 : (if p (570 + l) = 2 then (1 : Int) else 0) = 0 := by rw [if_neg (by omega)]
    try dsimp only at c1
    rw [f1, f2] at c1
    have c2 : zT (fun y => gFp p l (5689 + y)) (p 6) = zT (fun y => p (5689 + y)) (p 6) := zT_congr (fun y y0 y1 => o _ (by omega) (by omega) (by omega) (by omega) (by omega) (by omega) (by omega))
    rw [c1, c2]; omega
