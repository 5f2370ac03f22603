/-! MEMBERS AND SAVINGS -/
theorem Inv_w {N : Nat} {x x' m : zM} {q : Int → Int} (hI : Inv N x m) (hF : RF x' q (m 390)) (hIF : IF (N + 1) q (m 390)) (hx : ∀ k, k = 0 ∨ 163 ≤ k → k < 330 → x' k = x k) : Inv (N + 1) x' (zP m q) := by
  obtain ⟨_, _, c, d⟩ := hI
  have hm : ∀ k, k ≠ 387 → zP m q k = m k := fun k hk => zP_ne m q hk
  refine ⟨?_, ?_, ?_, ?_⟩
  · rw [zP_eq, hm 390 (by decide)]; exact hF
  · rw [zP_eq, hm 390 (by decide)]; exact hIF
  · exact RK_m (by omega) (by rw [hx 0 (by omega) (by omega)]) (by rw [hm 386 (by decide)]) (fun k k0 k1 => hx k (by omega) (by omega)) (hm 388 (by decide)) (hm 391 (by decide)) c
  · unfold RO
    rw [hm 386 (by decide), hm 393 (by decide), hm 394 (by decide), hm 395 (by decide), hm 396 (by decide), hx 329 (by omega) (by omega), hx 325 (by omega) (by omega), hx 326 (by omega) (by omega), hx 0 (by omega) (by omega), hx 328 (by omega) (by omega)]
    exact d
theorem RF_1 {x x' : zM} {p q w : Int → Int} (hB : IB p) (hN : IN p) (hR : IR p) (hF : RF x p w) (hM : RMx x' q) (hL : RLx x' q) (hx : ∀ k, 13 ≤ k → k ≤ 162 → x' k = x k) (h2 : q 2 = p 2) (h3 : q 3 = p 3) (h5 : q 5 = p 5) (h6 : q 6 = p 6) (h7 : q 7 = p 7) (h8 : q 8 = p 8) (h : ∀ i, 90 ≤ i → i < 690 → q i = p i) (h' : ∀ i, 3490 ≤ i → i < 6161 → q i = p i) : RF x' q w := by
  obtain ⟨⟨_, _, a, n, r⟩, y, t, pp⟩ := hF
  refine ⟨⟨hM, hL, ?_, ?_, ?_⟩, ?_, ?_, ?_⟩
  · refine RA_f hB h2 (fun i i0 i1 => h i (by omega) (by omega)) ?_
    rw [hx 14 (by omega) (by omega), hx 15 (by omega) (by omega), hx 16 (by omega) (by omega), hx 17 (by omega) (by omega), hx 18 (by omega) (by omega), hx 19 (by omega) (by omega), hx 20 (by omega) (by omega), hx 21 (by omega) (by omega), hx 22 (by omega) (by omega), hx 47 (by omega) (by omega)]; exact a
  · refine RN_f hB hN h3 (fun i i0 i1 => h i (by omega) (by omega)) (fun i i0 i1 => h i (by omega) (by omega)) ?_
    rw [hx 72 (by omega) (by omega), hx 73 (by omega) (by omega), hx 74 (by omega) (by omega), hx 75 (by omega) (by omega), hx 76 (by omega) (by omega), hx 77 (by omega) (by omega), hx 78 (by omega) (by omega), hx 79 (by omega) (by omega), hx 80 (by omega) (by omega), hx 81 (by omega) (by omega), hx 82 (by omega) (by omega), hx 83 (by omega) (by omega), hx 84 (by omega) (by omega), hx 85 (by omega) (by omega), hx 86 (by omega) (by omega), hx 87 (by omega) (by omega)]; exact n
  · refine RR_f hB hR h5 (fun i i0 i1 => h' i (by omega) (by omega)) ?_
    rw [hx 88 (by omega) (by omega), hx 89 (by omega) (by omega), hx 90 (by omega) (by omega), hx 91 (by omega) (by omega), hx 92 (by omega) (by omega), hx 93 (by omega) (by omega), hx 94 (by omega) (by omega)]; exact r
  · refine RY_f h6 (h' _ (by omega) (by omega)) (fun i i0 i1 => h' i (by omega) (by omega)) ?_
    rw [hx 108 (by omega) (by omega), hx 109 (by omega) (by omega), hx 117 (by omega) (by omega), hx 125 (by omega) (by omega), hx 133 (by omega) (by omega), hx 141 (by omega) (by omega), hx 149 (by omega) (by omega)]; exact y
  · refine RT_f hB h8 h7 (fun i i0 i1 => h' i (by omega) (by omega)) ?_
    rw [hx 150 (by omega) (by omega), hx 151 (by omega) (by omega), hx 152 (by omega) (by omega), hx 153 (by omega) (by omega), hx 154 (by omega) (by omega), hx 155 (by omega) (by omega), hx 156 (by omega) (by omega)]; exact t
  · refine RP_f (fun i i0 i1 => h' i (by omega) (by omega)) ?_
    rw [hx 157 (by omega) (by omega), hx 158 (by omega) (by omega)]; exact pp
theorem IF_1 {N N' : Nat} {p q w : Int → Int} (hIF : IF N p w) (h0 : q 0 = p 0) (h1 : p 1 ≤ q 1) (h2 : q 2 = p 2) (h3 : q 3 = p 3) (h5 : q 5 = p 5) (h6 : q 6 = p 6) (h7 : q 7 = p 7) (h8 : q 8 = p 8) (h : ∀ i, 90 ≤ i → i < 690 → q i = p i) (h' : ∀ i, 3490 ≤ i → i < 6161 → q i = p i) (B : IB q) (M : IM q) (E : IE q) (C : q 4 ≤ gCap p) (c0 : 0 ≤ q 6161) (c1 : q 6161 ≤ 219997 * (N' : Int)) : IF N' q w := by
  obtain ⟨⟨hB, hA, hN, hR⟩, _, _, hEc, hY, hC, hT, hP⟩ := hIF
  refine ⟨⟨B, IA_f hB h1 h2 (fun i i0 i1 => h i (by omega) (by omega)) hA, IN_f hB (by omega) h2 h3 (fun i i0 i1 => h i (by omega) (by omega)) (fun i i0 i1 => h i (by omega) (by omega)) hN, IR_f hB h5 (fun i i0 i1 => h' i (by omega) (by omega)) hR⟩, M, E, ?_, IY_f (by omega) h6 (fun i i0 i1 => h' i (by omega) (by omega)) hY, ⟨⟨c0, c1⟩, ?_⟩, IT_f hB (by omega) h8 (fun i i0 i1 => h' i (by omega) (by omega)) hT, IP_f (fun i i0 i1 => h' i (by omega) (by omega)) hP⟩
  · have := gCap_f hB h3 h6 (fun i i0 i1 => h i (by omega) (by omega)) (fun i i0 i1 => h' i (by omega) (by omega))
    refine ⟨?_, IK_f hB h2 h3 (fun i i0 i1 => h i (by omega) (by omega)) (fun i i0 i1 => h i (by omega) (by omega)) hEc.2⟩; rw [← show gCap q = 300 + 5 * zT (fun l => if q (570 + l) = 2 then 1 else 0) (q 3) + 16 * q 6 + 16 * zT (fun y => q (5689 + y)) (q 6) from rfl, this]; exact C
  · rw [h' 6160 (by omega) (by omega), h0]; exact hC.2
theorem IEc_4 {N : Nat} {p w : Int → Int} (hIF : IF N p w) : p 4 ≤ gCap p ∧ 300 ≤ gCap p ∧ gCap p ≤ 644 := ⟨hIF.2.2.2.1.1, gCap_bd hIF.1.1 hIF.2.2.2.2.1⟩
theorem IEs {p q : Int → Int} {a w n : Int} (hB : IB p) (h4 : q 4 = p 4) (h : ∀ i, 690 ≤ i → i < 3490 → q i = p i) : ∀ b w' as, gSv q b w' as = gSv p b w' as := gSv_f hB h4 h
theorem t_member {d dM N : Nat} {a b : Int} {x m : zM} {Q : Int → zM → zM → Prop} (hd : 40 ≤ d) (hdM : 40 ≤ dM) (hNN : N ≤ 600) (hI : Inv N x m) (K : ∀ q x', MOK N dM 182 [zr 386, zi a, zi b] q x' m → Q q x' m) : WPc d 116 [zr 0, zi a, zi b] 403 [] x m 403 [] Q := by
  obtain ⟨hF, hIF, hK, hO⟩ := id hI
  have hX := hF.1
  have hIx := hIF.1
  have hB := hIx.1
  have hA := hIx.2.1
  have hN := hIx.2.2.1
  have hM := hIF.2.1
  have hE := hIF.2.2.1
  have hb := hB; unfold IB at hb
  have hRL := hX.2.1
  have hRA := hX.2.2.1
  have hRN := hX.2.2.2.1
  have e10 : x 1 0 = m 387 0 := hX.1.1
  have e11 : x 1 1 = m 387 1 := hX.1.2.1
  apply r116
  repeat' (first | (with_reducible assumption) | (with_reducible rfl) | (with_reducible apply And.intro) | (with_reducible apply zIn_mk) | (with_reducible apply zLn_mk) | (simp only [zP_up, zP_eq, zP_zP]) | (simp (disch := omega) only [up_ne, up_at]) | ((with_reducible intro _); try (exfalso; omega)) | omega | (with_reducible exact Or.inr trivial) | (with_reducible exact Or.inl trivial) | ((apply r102)) | (with_reducible apply k161) | (with_reducible apply k162) | (with_reducible apply k163) | (with_reducible apply k164) | (with_reducible apply k165) | (with_reducible apply k166) | (with_reducible apply k167) | ((refine K _ _ ?_; intro Q' hQ; apply r182)) | (with_reducible apply s171) | (with_reducible apply s172) | (with_reducible apply s173) | (with_reducible apply s174) | (with_reducible apply s175) | (with_reducible apply s176) | ((refine zQe (hQ _ _ ?_ ?_) ?_)) | ((exact zP_ne _ _ (by decide))) | ((exact zP_eq _ _)) | ((exact Inv_c (by omega) (by omega) hI)) | ((exact Inv_s (zSx.rf _) (zSame.rf _) hI)) | ((exact zu_ne _ _ _ (by decide))) | fail)
  · rw [e11, e10]
    refine Inv_w hI (RF_1 hB hN hIx.2.2.2 hF ?_ ?_ ?_ ?_ ?_ ?_ ?_ ?_ ?_ ?_ ?_) (IF_1 hIF ?_ ?_ ?_ ?_ ?_ ?_ ?_ ?_ ?_ ?_ ?_ ?_ ?_ ?_ ?_ ?_) ?_
    all_goals first | (simp (disch := omega) only [up_ne, up_at]; done) | (intro i i0 i1; simp (disch := omega) only [up_ne]; done) | (intro k k0 k1; simp (disch := omega) only [zu_ne]; done) | skip
    · refine ⟨?_, ?_, fun k k0 k1 => ?_⟩
      · simp (disch := omega) only [zu_ne, zu_eq, up_ne, up_at]; exact e10
      · simp (disch := omega) only [zu_ne, zu_eq, up_ne, up_at]
      · rw [up_eq] at k1
        simp (disch := omega) only [zu_ne, zu_eq, up_ne]
        by_cases c : k = m 387 1
        · simp (disch := omega) only [up_at, up_ne, c]
          exact ⟨trivial, trivial, trivial, (hM.2 _ (by omega) (by omega)).symm, trivial⟩
        · simp (disch := omega) only [up_ne]
          exact hX.1.2.2 k k0 (by omega)
    · unfold RLx
      simp (disch := omega) only [zu_ne]
      refine RL_f hB ?_ ?_ ?_ ?_ hRL <;> first | (intro i i0 i1; simp (disch := omega) only [up_ne]; done) | (simp (disch := omega) only [up_ne]; done)
    · rw [up_eq]; omega
    · unfold IB at *; simp (disch := omega) only [up_ne, up_at]; omega
    · refine ⟨fun k k0 k1 => ?_, fun k k0 k1 => ?_⟩
      · rw [up_eq] at k1
        by_cases c : k = m 387 1
        · simp (disch := omega) only [up_at, up_ne, c]
          have := hM.2 (m 387 1) (by omega) (by omega)
          omega
        · simp (disch := omega) only [up_ne]
          exact hM.1 k k0 (by omega)
      · rw [up_eq] at k0
        simp (disch := omega) only [up_ne]
        exact hM.2 k (by omega) k1
    · refine IE_f hB ?_ ?_ ?_ ?_ hE
      · simp (disch := omega) only [up_ne]; omega
      · rw [up_eq]; omega
      · simp (disch := omega) only [up_ne]
      · intro i i0 i1; simp (disch := omega) only [up_ne]
    · simp (disch := omega) only [up_ne]; exact (IEc_4 hIF).1
    · simp (disch := omega) only [up_ne]; have := hIF.2.2.2.2.2.1.1; omega
    · simp (disch := omega) only [up_ne]; have := hIF.2.2.2.2.2.1.1; omega

theorem t_died {d dM N : Nat} {a b : Int} {x m : zM} {Q : Int → zM → zM → Prop} (hd : 40 ≤ d) (hdM : 40 ≤ dM) (hNN : N ≤ 600) (hI : Inv N x m) (K : ∀ q x', MOK N dM 183 [zr 386, zi a, zi b] q x' m → Q q x' m) : WPc d 117 [zr 0, zi a, zi b] 403 [] x m 403 [] Q := by
  obtain ⟨hF, hIF, hK, hO⟩ := id hI
  have hX := hF.1
  have hIx := hIF.1
  have hB := hIx.1
  have hA := hIx.2.1
  have hN := hIx.2.2.1
  have hM := hIF.2.1
  have hE := hIF.2.2.1
  have hb := hB; unfold IB at hb
  have hRL := hX.2.1
  have hRA := hX.2.2.1
  have hRN := hX.2.2.2.1
  have e10 : x 1 0 = m 387 0 := hX.1.1
  have e11 : x 1 1 = m 387 1 := hX.1.2.1
  have hr := hX.1.2.2 a
  have hm := hM.1 a
  apply r117
  repeat' (first | (with_reducible assumption) | (with_reducible rfl) | (with_reducible apply And.intro) | (with_reducible apply zIn_mk) | (with_reducible apply zLn_mk) | (simp only [zP_up, zP_eq, zP_zP]) | (simp (disch := omega) only [up_ne, up_at]) | ((with_reducible intro _); try (exfalso; omega)) | omega | (with_reducible exact Or.inr trivial) | (with_reducible exact Or.inl trivial) | (with_reducible apply k161) | (with_reducible apply k162) | (with_reducible apply k163) | (with_reducible apply k164) | (with_reducible apply k165) | (with_reducible apply k166) | (with_reducible apply k167) | ((refine K _ _ ?_; intro Q' hQ; apply r183)) | (with_reducible apply s171) | (with_reducible apply s172) | (with_reducible apply s173) | (with_reducible apply s174) | (with_reducible apply s175) | (with_reducible apply s176) | ((refine zQe (hQ _ _ ?_ ?_) ?_)) | ((exact zP_ne _ _ (by decide))) | ((exact zP_eq _ _)) | ((exact Inv_c (by omega) (by omega) hI)) | ((exact Inv_s (zSx.rf _) (zSame.rf _) hI)) | ((exact zu_ne _ _ _ (by decide))) | fail)
  · refine Inv_w hI (RF_1 hB hN hIx.2.2.2 hF ?_ ?_ ?_ ?_ ?_ ?_ ?_ ?_ ?_ ?_ ?_) (IF_1 hIF ?_ ?_ ?_ ?_ ?_ ?_ ?_ ?_ ?_ ?_ ?_ ?_ ?_ ?_ ?_ ?_) ?_
    all_goals first | (simp (disch := omega) only [up_ne, up_at]; done) | (intro i i0 i1; simp (disch := omega) only [up_ne]; done) | (intro k k0 k1; simp (disch := omega) only [zu_ne]; done) | skip
    · refine ⟨?_, ?_, fun k k0 k1 => ?_⟩
      · simp (disch := omega) only [zu_ne, zu_eq, up_ne, up_at]; exact e10
      · simp (disch := omega) only [zu_ne, zu_eq, up_ne, up_at]; exact e11
      · simp (disch := omega) only [up_ne] at k1
        simp (disch := omega) only [zu_ne, zu_eq, up_ne]
        have q := hX.1.2.2 k k0 k1
        by_cases c : k = a
        · simp (disch := omega) only [up_at, c] at *
          exact ⟨q.1, q.2.1, q.2.2.1, trivial, q.2.2.2.2⟩
        · simp (disch := omega) only [up_ne]
          exact q
    · unfold RLx
      simp (disch := omega) only [zu_ne]
      refine RL_f hB ?_ ?_ ?_ ?_ hRL <;> first | (intro i i0 i1; simp (disch := omega) only [up_ne]; done) | (simp (disch := omega) only [up_ne]; done)
    · simp (disch := omega) only [up_ne]; omega
    · unfold IB at *; simp (disch := omega) only [up_ne, up_at]; omega
    · refine ⟨fun k k0 k1 => ?_, fun k k0 k1 => ?_⟩
      · simp (disch := omega) only [up_ne] at k1
        have q := hM.1 k k0 k1
        by_cases c : k = a
        · simp (disch := omega) only [up_at, up_ne, c] at *
          omega
        · simp (disch := omega) only [up_ne]
          exact q
      · simp (disch := omega) only [up_ne] at k0
        simp (disch := omega) only [up_ne]
        exact hM.2 k (by omega) k1
    · refine IE_f hB ?_ ?_ ?_ ?_ hE
      · simp (disch := omega) only [up_ne]; omega
      · simp (disch := omega) only [up_ne]; omega
      · simp (disch := omega) only [up_ne]
      · intro i i0 i1; simp (disch := omega) only [up_ne]
    · simp (disch := omega) only [up_ne]; exact (IEc_4 hIF).1
    · simp (disch := omega) only [up_ne]; have := hIF.2.2.2.2.2.1.1; omega
    · simp (disch := omega) only [up_ne]; have := hIF.2.2.2.2.2.1.1; omega

