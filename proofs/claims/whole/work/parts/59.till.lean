/-! TILLS, RUNS, ROWS -/
theorem t_duty {d dM N : Nat} {a : Int} {x m : zM} {Q : Int → zM → zM → Prop} (hd : 40 ≤ d) (hdM : 40 ≤ dM) (hNN : N ≤ 600) (hI : Inv N x m) (K : ∀ q x', MOK N dM 267 [zr 386, zi a] q x' m → Q q x' m) : WPc d 147 [zr 0, zi a] 403 [] x m 403 [] Q := by
  obtain ⟨hF, hIF, hK, hO⟩ := id hI
  have hX := hF.1
  have hIx := hIF.1
  have hB := hIx.1
  have hA := hIx.2.1
  have hN := hIx.2.2.1
  have hM := hIF.2.1
  have hE := hIF.2.2.1
  have hb := hB; unfold IB at hb
  have hRL := hX.2.1
  have hRA := hX.2.2.1
  have hRN := hX.2.2.2.1
  have e10 : x 1 0 = m 387 0 := hX.1.1
  have e11 : x 1 1 = m 387 1 := hX.1.2.1
  have hT := hF.2.2.1
  have hIT := hIF.2.2.2.2.2.2.1
  have hPr := hF.2.2.2
  have hIP := hIF.2.2.2.2.2.2.2
  have e77 : x 7 7 = m 387 6161 := hRL.2.2.2.1
  have eT1 : x 150 1 = m 387 8 := hT.1
  have eT4 : x 150 4 = m 387 7 := hT.2.1
  have hc0 := hIF.2.2.2.2.2.1.1
  have ed := hT.2.2.1 (m 387 0) (by omega) (by omega)
  apply r147
  repeat' (first | (with_reducible assumption) | (with_reducible rfl) | (with_reducible apply And.intro) | (with_reducible apply zIn_mk) | (with_reducible apply zLn_mk) | (simp only [zP_up, zP_eq, zP_zP]) | (simp (disch := omega) only [up_ne, up_at]) | (simp only [e10]) | ((with_reducible intro _); try (exfalso; omega)) | omega | (with_reducible exact Or.inr trivial) | (with_reducible exact Or.inl trivial) | (with_reducible apply k161) | (with_reducible apply k162) | (with_reducible apply k163) | (with_reducible apply k164) | (with_reducible apply k165) | (with_reducible apply k166) | (with_reducible apply k167) | ((refine K _ _ ?_; intro Q' hQ; apply r267)) | (with_reducible apply s171) | (with_reducible apply s172) | (with_reducible apply s173) | (with_reducible apply s174) | (with_reducible apply s175) | (with_reducible apply s176) | ((refine zQe (hQ _ _ ?_ ?_) ?_)) | ((exact zP_ne _ _ (by decide))) | ((exact zP_eq _ _)) | ((exact Inv_c (by omega) (by omega) hI)) | ((exact Inv_s (zSx.rf _) (zSame.rf _) hI)) | ((exact zu_ne _ _ _ (by decide))) | fail)
  · refine Inv_w hI (RF_T hB hN hIx.2.2.2 hF ?_ ?_ ?_) (IF_T hIF (by omega) ?_ ?_ ?_) ?_
    all_goals first | (intro k k0 k1 k2; simp (disch := omega) only [zu_ne, zfil_ne]; done) | (intro k k0 k1; simp (disch := omega) only [zu_ne, zfil_ne]; done) | (intro i i0; simp (disch := omega) only [up_ne]; done) | (unfold IB at *; simp (disch := omega) only [up_ne, up_at]; omega) | skip
    · refine ⟨?_, ?_, fun k k0 k1 => ?_, fun k k0 k1 => ?_, fun k k0 k1 => ?_⟩
      · simp (disch := omega) only [up_ne, zu_ne]; exact eT1
      · simp (disch := omega) only [up_ne, zu_ne]; exact eT4
      · rw [zu_eq]
        by_cases c : k = m 387 0
        · rw [up_at c, up_at (by omega)]
        · rw [up_ne c, up_ne (by omega)]; exact hT.2.2.1 k k0 k1
      · simp (disch := omega) only [up_ne] at k1
        simp (disch := omega) only [up_ne, zu_ne]; exact hT.2.2.2.1 k k0 k1
      · simp (disch := omega) only [up_ne] at k1
        simp (disch := omega) only [up_ne, zu_ne]; exact hT.2.2.2.2 k k0 k1
    · refine ⟨fun k k0 k1 => ?_, fun k k0 k1 => ?_⟩
      · by_cases c : k = m 387 0
        · rw [up_at (by omega)]; omega
        · rw [up_ne (by omega)]; exact hIT.1 k k0 k1
      · simp (disch := omega) only [up_ne] at k1
        simp (disch := omega) only [up_ne]; exact hIT.2 k k0 k1

theorem t_counted {d dM N : Nat} {a : Int} {x m : zM} {Q : Int → zM → zM → Prop} (hd : 40 ≤ d) (hdM : 40 ≤ dM) (hNN : N ≤ 600) (hI : Inv N x m) (K : ∀ q x', MOK N dM 268 [zr 386, zi a] q x' m → Q q x' m) : WPc d 148 [zr 0, zi a] 403 [] x m 403 [] Q := by
  obtain ⟨hF, hIF, hK, hO⟩ := id hI
  have hX := hF.1
  have hIx := hIF.1
  have hB := hIx.1
  have hA := hIx.2.1
  have hN := hIx.2.2.1
  have hM := hIF.2.1
  have hE := hIF.2.2.1
  have hb := hB; unfold IB at hb
  have hRL := hX.2.1
  have hRA := hX.2.2.1
  have hRN := hX.2.2.2.1
  have e10 : x 1 0 = m 387 0 := hX.1.1
  have e11 : x 1 1 = m 387 1 := hX.1.2.1
  have hT := hF.2.2.1
  have hIT := hIF.2.2.2.2.2.2.1
  have hPr := hF.2.2.2
  have hIP := hIF.2.2.2.2.2.2.2
  have e77 : x 7 7 = m 387 6161 := hRL.2.2.2.1
  have eT1 : x 150 1 = m 387 8 := hT.1
  have eT4 : x 150 4 = m 387 7 := hT.2.1
  have hc0 := hIF.2.2.2.2.2.1.1
  apply r148
  repeat' (first | (with_reducible assumption) | (with_reducible rfl) | (with_reducible apply And.intro) | (with_reducible apply zIn_mk) | (with_reducible apply zLn_mk) | (simp only [zP_up, zP_eq, zP_zP]) | (simp (disch := omega) only [up_ne, up_at]) | (simp only [e10, e77, eT1]) | ((with_reducible intro _); try (exfalso; omega)) | omega | (with_reducible exact Or.inr trivial) | (with_reducible exact Or.inl trivial) | ((apply r107)) | (with_reducible apply k161) | (with_reducible apply k162) | (with_reducible apply k163) | (with_reducible apply k164) | (with_reducible apply k165) | (with_reducible apply k166) | (with_reducible apply k167) | ((refine K _ _ ?_; intro Q' hQ; apply r268)) | (with_reducible apply s171) | (with_reducible apply s172) | (with_reducible apply s173) | (with_reducible apply s174) | (with_reducible apply s175) | (with_reducible apply s176) | ((refine zQe (hQ _ _ ?_ ?_) ?_)) | ((exact zP_ne _ _ (by decide))) | ((exact zP_eq _ _)) | ((exact Inv_c (by omega) (by omega) hI)) | ((exact Inv_s (zSx.rf _) (zSame.rf _) hI)) | ((exact zu_ne _ _ _ (by decide))) | fail)
  · refine Inv_w hI (RF_T hB hN hIx.2.2.2 hF ?_ ?_ ?_) (IF_T hIF (by omega) ?_ ?_ ?_) ?_
    all_goals first | (intro k k0 k1 k2; simp (disch := omega) only [zu_ne, zfil_ne]; done) | (intro k k0 k1; simp (disch := omega) only [zu_ne, zfil_ne]; done) | (intro i i0; simp (disch := omega) only [up_ne]; done) | (unfold IB at *; simp (disch := omega) only [up_ne, up_at]; omega) | skip
    · refine ⟨?_, ?_, fun k k0 k1 => ?_, fun k k0 k1 => ?_, fun k k0 k1 => ?_⟩
      · simp (disch := omega) only [up_at, up_ne, zu_ne, zu_eq]
      · simp (disch := omega) only [up_ne, zu_ne, zu_eq]; exact eT4
      · simp (disch := omega) only [up_ne, zu_ne]; exact hT.2.2.1 k k0 k1
      · rw [up_eq] at k1
        simp (disch := omega) only [zu_ne, zu_eq]
        by_cases c : k = m 387 8
        · simp (disch := omega) only [up_at, up_ne]; exact ⟨trivial, trivial⟩
        · simp (disch := omega) only [up_ne]; exact hT.2.2.2.1 k k0 (by omega)
      · simp (disch := omega) only [up_ne] at k1
        simp (disch := omega) only [up_ne, zu_ne]; exact hT.2.2.2.2 k k0 k1
    · refine ⟨fun k k0 k1 => ?_, fun k k0 k1 => ?_⟩
      · simp (disch := omega) only [up_ne]; exact hIT.1 k k0 k1
      · rw [up_eq] at k1
        by_cases c : k = m 387 8
        · simp (disch := omega) only [up_at, up_ne]; omega
        · simp (disch := omega) only [up_ne]; exact hIT.2 k k0 (by omega)

theorem t_book {d dM N : Nat} {a b c : Int} {x m : zM} {Q : Int → zM → zM → Prop} (hd : 40 ≤ d) (hdM : 40 ≤ dM) (hNN : N ≤ 600) (hI : Inv N x m) (K : ∀ q x', MOK N dM 270 [zr 386, zi a, zi b, zi c] q x' m → Q q x' m) : WPc d 150 [zr 0, zi a, zi b, zi c] 403 [] x m 403 [] Q := by
  obtain ⟨hF, hIF, hK, hO⟩ := id hI
  have hX := hF.1
  have hIx := hIF.1
  have hB := hIx.1
  have hA := hIx.2.1
  have hN := hIx.2.2.1
  have hM := hIF.2.1
  have hE := hIF.2.2.1
  have hb := hB; unfold IB at hb
  have hRL := hX.2.1
  have hRA := hX.2.2.1
  have hRN := hX.2.2.2.1
  have e10 : x 1 0 = m 387 0 := hX.1.1
  have e11 : x 1 1 = m 387 1 := hX.1.2.1
  have hT := hF.2.2.1
  have hIT := hIF.2.2.2.2.2.2.1
  have hPr := hF.2.2.2
  have hIP := hIF.2.2.2.2.2.2.2
  have e77 : x 7 7 = m 387 6161 := hRL.2.2.2.1
  have eT1 : x 150 1 = m 387 8 := hT.1
  have eT4 : x 150 4 = m 387 7 := hT.2.1
  have hc0 := hIF.2.2.2.2.2.1.1
  apply r150
  repeat' (first | (with_reducible assumption) | (with_reducible rfl) | (with_reducible apply And.intro) | (with_reducible apply zIn_mk) | (with_reducible apply zLn_mk) | (simp only [zP_up, zP_eq, zP_zP]) | (simp (disch := omega) only [up_ne, up_at]) | (simp only [e10, e77, eT4]) | ((with_reducible intro _); try (exfalso; omega)) | omega | (with_reducible exact Or.inr trivial) | (with_reducible exact Or.inl trivial) | ((apply r108)) | (with_reducible apply k161) | (with_reducible apply k162) | (with_reducible apply k163) | (with_reducible apply k164) | (with_reducible apply k165) | (with_reducible apply k166) | (with_reducible apply k167) | ((refine K _ _ ?_; intro Q' hQ; apply r270)) | (with_reducible apply s171) | (with_reducible apply s172) | (with_reducible apply s173) | (with_reducible apply s174) | (with_reducible apply s175) | (with_reducible apply s176) | ((refine zQe (hQ _ _ ?_ ?_) ?_)) | ((exact zP_ne _ _ (by decide))) | ((exact zP_eq _ _)) | ((exact Inv_c (by omega) (by omega) hI)) | ((exact Inv_s (zSx.rf _) (zSame.rf _) hI)) | ((exact zu_ne _ _ _ (by decide))) | fail)
  · refine Inv_w hI (RF_T hB hN hIx.2.2.2 hF ?_ ?_ ?_) (IF_T hIF (by omega) ?_ ?_ ?_) ?_
    all_goals first | (intro k k0 k1 k2; simp (disch := omega) only [zu_ne, zfil_ne]; done) | (intro k k0 k1; simp (disch := omega) only [zu_ne, zfil_ne]; done) | (intro i i0; simp (disch := omega) only [up_ne]; done) | (unfold IB at *; simp (disch := omega) only [up_ne, up_at]; omega) | skip
    · refine ⟨?_, ?_, fun k k0 k1 => ?_, fun k k0 k1 => ?_, fun k k0 k1 => ?_⟩
      · simp (disch := omega) only [up_ne, zu_ne, zu_eq]; exact eT1
      · simp (disch := omega) only [up_at, up_ne, zu_ne, zu_eq]
      · simp (disch := omega) only [up_ne, zu_ne]; exact hT.2.2.1 k k0 k1
      · simp (disch := omega) only [up_ne] at k1
        simp (disch := omega) only [up_ne, zu_ne]; exact hT.2.2.2.1 k k0 k1
      · rw [up_eq] at k1
        simp (disch := omega) only [zu_ne, zu_eq]
        by_cases c : k = m 387 7
        · simp (disch := omega) only [up_at, up_ne]; exact ⟨trivial, trivial, trivial⟩
        · simp (disch := omega) only [up_ne]; exact hT.2.2.2.2 k k0 (by omega)
    · refine ⟨fun k k0 k1 => ?_, fun k k0 k1 => ?_⟩
      · simp (disch := omega) only [up_ne]; exact hIT.1 k k0 k1
      · simp (disch := omega) only [up_ne] at k1
        simp (disch := omega) only [up_ne]; exact hIT.2 k k0 k1

theorem t_runs {d dM N : Nat} {a b c : Int} {x m : zM} {Q : Int → zM → zM → Prop} (hd : 40 ≤ d) (hdM : 40 ≤ dM) (hNN : N ≤ 600) (hI : Inv N x m) (K : ∀ q x', MOK N dM 254 [zr 386, zi a, zi b, zi c] q x' m → Q q x' m) : WPc d 142 [zr 0, zi a, zi b, zi c] 403 [] x m 403 [] Q := by
  obtain ⟨hF, hIF, hK, hO⟩ := id hI
  have hX := hF.1
  have hIx := hIF.1
  have hB := hIx.1
  have hA := hIx.2.1
  have hN := hIx.2.2.1
  have hM := hIF.2.1
  have hE := hIF.2.2.1
  have hb := hB; unfold IB at hb
  have hRL := hX.2.1
  have hRA := hX.2.2.1
  have hRN := hX.2.2.2.1
  have e10 : x 1 0 = m 387 0 := hX.1.1
  have e11 : x 1 1 = m 387 1 := hX.1.2.1
  have hT := hF.2.2.1
  have hIT := hIF.2.2.2.2.2.2.1
  have hPr := hF.2.2.2
  have hIP := hIF.2.2.2.2.2.2.2
  have e77 : x 7 7 = m 387 6161 := hRL.2.2.2.1
  have eT1 : x 150 1 = m 387 8 := hT.1
  have eT4 : x 150 4 = m 387 7 := hT.2.1
  have hc0 := hIF.2.2.2.2.2.1.1
  have ed := hPr.2 a b
  apply r142
  repeat' (first | (with_reducible assumption) | (with_reducible rfl) | (with_reducible apply And.intro) | (with_reducible apply zIn_mk) | (with_reducible apply zLn_mk) | (simp only [zP_up, zP_eq, zP_zP]) | (simp (disch := omega) only [up_ne, up_at]) | (simp only [e10]) | ((with_reducible intro _); try (exfalso; omega)) | omega | (with_reducible exact Or.inr trivial) | (with_reducible exact Or.inl trivial) | (with_reducible apply k161) | (with_reducible apply k162) | (with_reducible apply k163) | (with_reducible apply k164) | (with_reducible apply k165) | (with_reducible apply k166) | (with_reducible apply k167) | ((refine K _ _ ?_; intro Q' hQ; apply r254)) | (with_reducible apply s171) | (with_reducible apply s172) | (with_reducible apply s173) | (with_reducible apply s174) | (with_reducible apply s175) | (with_reducible apply s176) | ((refine zQe (hQ _ _ ?_ ?_) ?_)) | ((exact zP_ne _ _ (by decide))) | ((exact zP_eq _ _)) | ((exact Inv_c (by omega) (by omega) hI)) | ((exact Inv_s (zSx.rf _) (zSame.rf _) hI)) | ((exact zu_ne _ _ _ (by decide))) | fail)
  · refine Inv_w hI (RF_P hB hN hIx.2.2.2 hF ?_ ?_ ?_) (IF_P hIF (by omega) ?_ ?_ ?_) ?_
    all_goals first | (intro k k0 k1 k2; simp (disch := omega) only [zu_ne, zfil_ne]; done) | (intro k k0 k1; simp (disch := omega) only [zu_ne, zfil_ne]; done) | (intro i i0; simp (disch := omega) only [up_ne]; done) | (unfold IB at *; simp (disch := omega) only [up_ne, up_at]; omega) | skip
    · refine ⟨fun k k0 k1 => ?_, fun r k r0 r1 k0 k1 => ?_⟩
      · simp (disch := omega) only [zu_ne, zu_eq]
        by_cases c : k = a
        · simp (disch := omega) only [up_at]
        · simp (disch := omega) only [up_ne]; exact hPr.1 k k0 k1
      · simp (disch := omega) only [zu_ne, zu_eq]
        by_cases c : r = a ∧ k = b
        · obtain ⟨c1, c2⟩ := c
          subst c1; subst c2
          simp (disch := omega) only [up_ne, up_at]
        · simp (disch := omega) only [up_ne]; exact hPr.2 r k r0 r1 k0 k1
    · refine ⟨fun k k0 k1 => ?_, fun r k r0 r1 k0 k1 => ?_⟩
      · by_cases c : k = a
        · simp (disch := omega) only [up_at]; omega
        · simp (disch := omega) only [up_ne]; exact hIP.1 k k0 k1
      · by_cases c : r = a ∧ k = b
        · obtain ⟨c1, c2⟩ := c
          subst c1; subst c2
          simp (disch := omega) only [up_ne, up_at]; omega
        · simp (disch := omega) only [up_ne]; exact hIP.2 r k r0 r1 k0 k1

theorem t_setc {d dM N : Nat} {a b : Int} {x m : zM} {Q : Int → zM → zM → Prop} (hd : 40 ≤ d) (hdM : 40 ≤ dM) (hNN : N ≤ 600) (hI : Inv N x m) (K : ∀ q x', MOK N dM 276 [zr 386, zi a, zi b] q x' m → Q q x' m) : WPc d 156 [zr 0, zi a, zi b] 403 [] x m 403 [] Q := by
  obtain ⟨hF, hIF, hK, hO⟩ := id hI
  have hX := hF.1
  have hIx := hIF.1
  have hB := hIx.1
  have hA := hIx.2.1
  have hN := hIx.2.2.1
  have hM := hIF.2.1
  have hE := hIF.2.2.1
  have hb := hB; unfold IB at hb
  have hRL := hX.2.1
  have hRA := hX.2.2.1
  have hRN := hX.2.2.2.1
  have e10 : x 1 0 = m 387 0 := hX.1.1
  have e11 : x 1 1 = m 387 1 := hX.1.2.1
  have hr := hO.2.2.2.1
  have ht := hO.2.1
  have hc := hO.2.2.2.2.1 a
  apply r156
  repeat' (first | (with_reducible assumption) | (with_reducible rfl) | (with_reducible apply And.intro) | (with_reducible apply zIn_mk) | (with_reducible apply zLn_mk) | ((with_reducible intro _); try (exfalso; omega)) | omega | (with_reducible exact Or.inr trivial) | (with_reducible exact Or.inl trivial) | (with_reducible apply k161) | (with_reducible apply k162) | (with_reducible apply k163) | (with_reducible apply k164) | (with_reducible apply k165) | (with_reducible apply k166) | (with_reducible apply k167) | ((refine K _ _ ?_; intro Q' hQ; apply r276)) | (with_reducible apply s171) | (with_reducible apply s172) | (with_reducible apply s173) | (with_reducible apply s174) | (with_reducible apply s175) | (with_reducible apply s176) | ((refine zQe (hQ _ _ ?_ ?_) ?_)) | ((exact zP_ne _ _ (by decide))) | ((exact zP_eq _ _)) | ((exact Inv_c (by omega) (by omega) hI)) | ((exact Inv_s (zSx.rf _) (zSame.rf _) hI)) | ((exact zu_ne _ _ _ (by decide))) | fail)
  · refine Inv_o hI (fun k k0 k1 => zu_ne _ _ _ (by omega)) ?_ (zu_ne _ _ _ (by decide)) (zu_ne _ _ _ (by decide)) (zu_ne _ _ _ (by decide)) (zu_ne _ _ _ (by decide)) ?_ ?_
    · simp (disch := omega) only [zu_ne, zu_eq, up_ne, up_at]
    · simp (disch := omega) only [zu_ne, zu_eq, up_ne, up_at]
    · refine ⟨?_, ?_, ?_, ?_, fun k k0 k1 => ?_, ?_⟩
      · simp (disch := omega) only [zu_ne]; exact hO.1
      · simp (disch := omega) only [zu_ne]; exact hO.2.1
      · simp (disch := omega) only [zu_ne]; exact hO.2.2.1
      · simp (disch := omega) only [zu_ne]; exact hO.2.2.2.1
      · rw [zu_eq, zu_eq]
        by_cases c : k = a
        · rw [up_at c, up_at c]
        · rw [up_ne c, up_ne c]; exact hO.2.2.2.2.1 k k0 k1
      · simp (disch := omega) only [zu_ne]; exact hO.2.2.2.2.2

theorem t_tear {d dM N : Nat} {x m : zM} {Q : Int → zM → zM → Prop} (hd : 40 ≤ d) (hdM : 40 ≤ dM) (hNN : N ≤ 600) (hI : Inv N x m) (K : ∀ q x', MOK N dM 277 [zr 386] q x' m → Q q x' m) : WPc d 157 [zr 0] 403 [] x m 403 [] Q := by
  obtain ⟨hF, hIF, hK, hO⟩ := id hI
  have hX := hF.1
  have hIx := hIF.1
  have hB := hIx.1
  have hA := hIx.2.1
  have hN := hIx.2.2.1
  have hM := hIF.2.1
  have hE := hIF.2.2.1
  have hb := hB; unfold IB at hb
  have hRL := hX.2.1
  have hRA := hX.2.2.1
  have hRN := hX.2.2.2.1
  have e10 : x 1 0 = m 387 0 := hX.1.1
  have e11 : x 1 1 = m 387 1 := hX.1.2.1
  have hr := hO.2.2.2.1
  have ht := hO.2.1
  apply r157
  repeat' (first | (with_reducible assumption) | (with_reducible rfl) | (with_reducible apply And.intro) | (with_reducible apply zIn_mk) | (with_reducible apply zLn_mk) | ((with_reducible intro _); try (exfalso; omega)) | omega | (with_reducible exact Or.inr trivial) | (with_reducible exact Or.inl trivial) | (with_reducible apply k161) | (with_reducible apply k162) | (with_reducible apply k163) | (with_reducible apply k164) | (with_reducible apply k165) | (with_reducible apply k166) | (with_reducible apply k167) | ((refine K _ _ ?_; intro Q' hQ; apply r277)) | (with_reducible apply s171) | (with_reducible apply s172) | (with_reducible apply s173) | (with_reducible apply s174) | (with_reducible apply s175) | (with_reducible apply s176) | ((refine zQe (hQ _ _ ?_ ?_) ?_)) | ((exact zP_ne _ _ (by decide))) | ((exact zP_eq _ _)) | ((exact Inv_c (by omega) (by omega) hI)) | ((exact Inv_s (zSx.rf _) (zSame.rf _) hI)) | ((exact zu_ne _ _ _ (by decide))) | fail)
  all_goals refine Inv_o hI (fun k k0 k1 => zu_ne _ _ _ (by omega)) ?_ (zu_ne _ _ _ (by decide)) (zu_ne _ _ _ (by decide)) (zu_ne _ _ _ (by decide)) (zu_ne _ _ _ (by decide)) ?_ ?_
  all_goals first | (simp (disch := omega) only [zu_ne, zu_eq, up_ne, up_at]; done) | skip
  all_goals refine ⟨?_, ?_, ?_, ?_, ?_, ?_⟩
  all_goals simp (disch := omega) only [zu_ne, zu_eq, up_ne, up_at]
  all_goals first | exact hO.1 | exact hO.2.1 | exact hO.2.2.1 | omega | exact hO.2.2.2.2.1 | exact hO.2.2.2.2.2

theorem t_wipe {d dM N : Nat} {x m : zM} {Q : Int → zM → zM → Prop} (hd : 40 ≤ d) (hdM : 40 ≤ dM) (hNN : N ≤ 600) (hI : Inv N x m) (K : ∀ q x', MOK N dM 219 [zr 386] q x' m → Q q x' m) : WPc d 133 [zr 0] 403 [] x m 403 [] Q := by
  obtain ⟨hF, hIF, hK, hO⟩ := id hI
  have hX := hF.1
  have hIx := hIF.1
  have hB := hIx.1
  have hA := hIx.2.1
  have hN := hIx.2.2.1
  have hM := hIF.2.1
  have hE := hIF.2.2.1
  have hb := hB; unfold IB at hb
  have hRL := hX.2.1
  have hRA := hX.2.2.1
  have hRN := hX.2.2.2.1
  have e10 : x 1 0 = m 387 0 := hX.1.1
  have e11 : x 1 1 = m 387 1 := hX.1.2.1
  have hr := hO.2.2.2.1
  have ht := hO.2.1
  apply r133
  repeat' (first | (with_reducible assumption) | (with_reducible rfl) | (with_reducible apply And.intro) | (with_reducible apply zIn_mk) | (with_reducible apply zLn_mk) | ((with_reducible intro _); try (exfalso; omega)) | omega | (with_reducible exact Or.inr trivial) | (with_reducible exact Or.inl trivial) | (with_reducible apply k161) | (with_reducible apply k162) | (with_reducible apply k163) | (with_reducible apply k164) | (with_reducible apply k165) | (with_reducible apply k166) | (with_reducible apply k167) | ((refine K _ _ ?_; intro Q' hQ; apply r219)) | (with_reducible apply s171) | (with_reducible apply s172) | (with_reducible apply s173) | (with_reducible apply s174) | (with_reducible apply s175) | (with_reducible apply s176) | ((refine zQe (hQ _ _ ?_ ?_) ?_)) | ((exact zP_ne _ _ (by decide))) | ((exact zP_eq _ _)) | ((exact Inv_c (by omega) (by omega) hI)) | ((exact Inv_s (zSx.rf _) (zSame.rf _) hI)) | ((exact zu_ne _ _ _ (by decide))) | fail)
  · refine Inv_o hI (fun k k0 k1 => zu_ne _ _ _ (by omega)) ?_ (zu_ne _ _ _ (by decide)) (zu_ne _ _ _ (by decide)) (zu_ne _ _ _ (by decide)) (zu_ne _ _ _ (by decide)) ?_ ?_
    · simp (disch := omega) only [zu_ne, zu_eq, up_ne, up_at]
    · simp (disch := omega) only [zu_ne, zu_eq, up_ne, up_at]
    · refine ⟨?_, ?_, ?_, ?_, ?_, ?_⟩
      all_goals simp (disch := omega) only [zu_ne, zu_eq, up_ne, up_at]
      · exact hO.1
      · first | omega | exact ⟨by decide, by decide, by first | rfl | trivial⟩
      · intro k k0 k1; omega
      · exact hO.2.2.2.1
      · exact hO.2.2.2.2.1
      · exact hO.2.2.2.2.2

