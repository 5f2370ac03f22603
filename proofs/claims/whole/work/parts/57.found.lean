/-! FOUND, COST -/
theorem t_found {d dM N : Nat} {a b c : Int} {x m : zM} {Q : Int → zM → zM → Prop} (hd : 40 ≤ d) (hdM : 40 ≤ dM) (hNN : N ≤ 600) (hI : Inv N x m) (K : ∀ q x', MOK N dM 186 [zr 386, zi a, zi b, zi c] q x' m → Q q x' m) : WPc d 120 [zr 0, zi a, zi b, zi c] 403 [] x m 403 [] Q := by
  obtain ⟨hF, hIF, hK, hO⟩ := id hI
  have hX := hF.1
  have hIx := hIF.1
  have hB := hIx.1
  have hA := hIx.2.1
  have hN := hIx.2.2.1
  have hM := hIF.2.1
  have hE := hIF.2.2.1
  have hb := hB; unfold IB at hb
  have hRL := hX.2.1
  have hRA := hX.2.2.1
  have hRN := hX.2.2.2.1
  have e10 : x 1 0 = m 387 0 := hX.1.1
  have e11 : x 1 1 = m 387 1 := hX.1.2.1
  have e77 : x 7 7 = m 387 6161 := hRL.2.2.2.1
  have et := hRL.2.2.1 a
  have hsub : m 387 6161 - b = m 387 6161 + -b := by omega
  have hr := hX.1.2.2 a
  have hm := hM.1 a
  have h4 := IEc_4 hIF
  have hc0 := hIF.2.2.2.2.2.1.1
  have h6 : ∀ w, gI (m 387) a w = -1 → m 387 4 < 700 := fun w _ => by omega
  have g0 : gEn (m 387) a b (c) 0 = m 387 0 := gEn_o hB (h6 _) (by omega) (by omega)
  have g1 : gEn (m 387) a b (c) 6161 = m 387 6161 := gEn_o hB (h6 _) (by omega) (by omega)
  have hq : 0 ≤ a → a < m 387 1 → 0 ≤ b → b ≤ m 387 0 → 0 ≤ m 387 6161 + (c) → (c) ≤ 99999 → gHas (m 387) a b → IF (N + 1) (up (gEn (m 387) a b (c)) 6161 (m 387 6161 + (c))) (m 390) := by
    intro u0 u1 u2 u3 u4 u5 u6
    have hh := IF_cash (N' := N + 1) (c := m 387 6161 + (c)) (IF_en (n := c) hIF u0 u1 u2 u3 (fun e => by rcases u6 with u | u; omega; exact absurd e u)) u4 (by omega)
    exact hh
  have hv : 0 ≤ a → a < 16 → gSv (up (gEn (m 387) a b (c)) 6161 (m 387 6161 + (c))) a 400 400 = gSv (gEn (m 387) a b (c)) a 400 400 := fun a0 a1 => gSv_f (p := gEn (m 387) a b (c)) (q := up (gEn (m 387) a b (c)) 6161 (m 387 6161 + (c))) (IB_en hB (h6 _)) (by simp (disch := omega) only [up_ne]) (fun i i0 i1 => by simp (disch := omega) only [up_ne]) _ _ _
  apply r120
  repeat' (first | (with_reducible assumption) | (with_reducible rfl) | (with_reducible apply And.intro) | (with_reducible apply zIn_mk) | (with_reducible apply zLn_mk) | (simp only [zP_up, zP_eq, zP_zP]) | (simp (disch := omega) only [up_ne, up_at]) | (simp only [g0, g1, e10, e77, hsub]) | (simp (disch := omega) only [et]) | ((with_reducible intro _); try (exfalso; omega)) | omega | (with_reducible exact Or.inr trivial) | (with_reducible exact Or.inl trivial) | ((refine c24 (by omega) hRL hB hE (by omega) ?_ ?_ <;> intro hg)) | ((exact absurd hg hg')) | ((exact absurd hg' hg)) | ((refine s179 (p := m 387) (by first | rfl | exact zP_eq _ _) (by omega) hB hE ?_ ?_ <;> intro hg')) | ((apply r103)) | ((refine c25_7 (p := m 387) (by omega) (by first | exact hRL | (unfold RLx; simp only [zu_ne, ne_eq, Nat.reduceEqDiff, not_false_eq_true]; exact hRL)) hB hE (by first | exact e10 | rfl | (rw [zu_ne _ _ _ (by decide)]; exact e10)) (by omega) (by omega) (by omega) (by omega) (h6 _) ?_; intro xB hB1 hB2; have f7 := hB2.2.2.2.1; have f12 := hB2.2.2.1 a (by omega) (by omega); rw [g1] at f7)) | ((refine s178 (p := m 387) (by omega) rfl hB hE (h6 _) (by unfold zIn; omega) ?_)) | ((refine s181 (zP_eq _ _) (by omega) (hq (by omega) (by omega) (by omega) (by omega) (by omega) (by omega) hg).1.1 ?_)) | (with_reducible apply k161) | (with_reducible apply k162) | (with_reducible apply k163) | (with_reducible apply k164) | (with_reducible apply k165) | (with_reducible apply k166) | (with_reducible apply k167) | ((refine K _ _ ?_; intro Q' hQ; apply r186)) | (with_reducible apply s171) | (with_reducible apply s172) | (with_reducible apply s173) | (with_reducible apply s174) | (with_reducible apply s175) | (with_reducible apply s176) | ((refine zQe (hQ _ _ ?_ ?_) ?_)) | ((exact zP_ne _ _ (by decide))) | ((exact zP_eq _ _)) | ((exact Inv_c (by omega) (by omega) hI)) | ((exact Inv_s (zSx.rf _) (zSame.rf _) hI)) | ((exact zu_ne _ _ _ (by decide))) | fail)
  · refine Inv_w hI ?_ (hq (by omega) (by omega) (by omega) (by omega) (by omega) (by omega) hg) ?_
    · have hIq := hq (by omega) (by omega) (by omega) (by omega) (by omega) (by omega) hg
      have o := fun i => gEn_o (p := m 387) (a := a) (w := b) (n := c) (i := i) hB (h6 _)
      refine RF_1 hB hN hIx.2.2.2 hF ?_ ?_ ?_ ?_ ?_ ?_ ?_ ?_ ?_ ?_ ?_
      · unfold RMx
        simp (disch := omega) only [zu_ne, zu_eq]
        rw [hB1 1 (by omega), hB1 2 (by omega), hB1 3 (by omega), hB1 4 (by omega), hB1 5 (by omega), hB1 6 (by omega)]
        exact RM_f hB (by simp (disch := omega) only [up_ne]; exact o _ (by omega) (by omega)) (by simp (disch := omega) only [up_ne]; exact o _ (by omega) (by omega)) (fun i i0 i1 => by simp (disch := omega) only [up_ne]; exact o _ (by omega) (by omega)) hX.1
      · unfold RLx
        simp (disch := omega) only [zu_ne, zu_eq]
        rw [f7]
        exact RL_cash (IB_en hB (h6 _)) hB2
      all_goals first | (intro k k0 k1; rw [zu_ne _ _ _ (by omega), hB1 k (by omega)]; first | done | rfl | rw [zu_ne _ _ _ (by omega)]) | (simp (disch := omega) only [up_ne]; exact o _ (by omega) (by omega)) | (intro i i0 i1; simp (disch := omega) only [up_ne]; exact o _ (by omega) (by omega))
    · intro k k0 k1; rw [zu_ne _ _ _ (by omega), hB1 k (by omega)]; first | done | rfl | rw [zu_ne _ _ _ (by omega)]

theorem RL_res {s ow fo tl mu to : Int → Int} {p : Int → Int} {c e : Int} (hB : IB p) (h : w32 c = e) (r : RLd s ow fo tl mu to p) : RLd (up s 8 c) ow fo tl mu to (up p 6162 e) := by
  have hb := hB; unfold IB at hb
  refine ⟨?_, ?_, ?_, ?_, ?_⟩
  · simp (disch := omega) only [up_ne]; exact r.1
  · intro k k0 k1
    simp (disch := omega) only [up_ne] at k1; simp (disch := omega) only [up_ne]; exact r.2.1 k k0 k1
  · intro k k0 k1
    rw [gSv_f hB (by simp (disch := omega) only [up_ne]) (fun i i0 i1 => by simp (disch := omega) only [up_ne])]; exact r.2.2.1 k k0 k1
  · simp (disch := omega) only [up_ne]; exact r.2.2.2.1
  · rw [up_eq, up_eq]; exact h
theorem IF_res {N : Nat} {p w : Int → Int} {c : Int} (hIF : IF N p w) : IF N (up p 6162 c) w := by
  have hB := hIF.1.1
  have hb := hB; unfold IB at hb
  refine IF_1 hIF ?_ ?_ ?_ ?_ ?_ ?_ ?_ ?_ ?_ ?_ ?_ (IM_f hB ?_ ?_ ?_ hIF.2.1) (IE_f hB ?_ ?_ ?_ ?_ hIF.2.2.1) ?_ ?_ ?_
  all_goals first | (simp (disch := omega) only [up_ne, up_at]; done) | (intro i i0 i1; simp (disch := omega) only [up_ne]; done) | (intro k k0 k1; simp (disch := omega) only [zu_ne]; done) | skip
  · simp (disch := omega) only [up_ne]; omega
  · unfold IB at *; simp (disch := omega) only [up_ne, up_at]; omega
  · simp (disch := omega) only [up_ne]; omega
  · simp (disch := omega) only [up_ne]; omega
  · simp (disch := omega) only [up_ne]; omega
  · simp (disch := omega) only [up_ne]; exact (IEc_4 hIF).1
  · simp (disch := omega) only [up_ne]; exact hIF.2.2.2.2.2.1.1.1
  · simp (disch := omega) only [up_ne]; exact hIF.2.2.2.2.2.1.1.2
theorem t_cost {d dM N : Nat} {a : Int} {x m : zM} {Q : Int → zM → zM → Prop} (hd : 40 ≤ d) (hdM : 40 ≤ dM) (hNN : N ≤ 600) (hI : Inv N x m) (K : ∀ q x', MOK N dM 248 [zr 386, zi a] q x' m → Q q x' m) : WPc d 138 [zr 0, zi a] 403 [] x m 403 [] Q := by
  obtain ⟨hF, hIF, hK, hO⟩ := id hI
  have hX := hF.1
  have hIx := hIF.1
  have hB := hIx.1
  have hA := hIx.2.1
  have hN := hIx.2.2.1
  have hM := hIF.2.1
  have hE := hIF.2.2.1
  have hb := hB; unfold IB at hb
  have hRL := hX.2.1
  have hRA := hX.2.2.1
  have hRN := hX.2.2.2.1
  have e10 : x 1 0 = m 387 0 := hX.1.1
  have e11 : x 1 1 = m 387 1 := hX.1.2.1
  have e77 : x 7 7 = m 387 6161 := hRL.2.2.2.1
  have e78 : w32 (x 7 8) = m 387 6162 := hRL.2.2.2.2
  have hc0 := hIF.2.2.2.2.2.1.1
  apply r138
  repeat' (first | (with_reducible assumption) | (with_reducible rfl) | (with_reducible apply And.intro) | (with_reducible apply zIn_mk) | (with_reducible apply zLn_mk) | (simp only [zP_up, zP_eq, zP_zP]) | (simp (disch := omega) only [up_ne, up_at]) | (simp only [e77]) | ((with_reducible intro _); try (exfalso; omega)) | omega | (with_reducible exact Or.inr trivial) | (with_reducible exact Or.inl trivial) | (with_reducible apply k161) | (with_reducible apply k162) | (with_reducible apply k163) | (with_reducible apply k164) | (with_reducible apply k165) | (with_reducible apply k166) | (with_reducible apply k167) | ((refine K _ _ ?_; intro Q' hQ; apply r248)) | (with_reducible apply s171) | (with_reducible apply s172) | (with_reducible apply s173) | (with_reducible apply s174) | (with_reducible apply s175) | (with_reducible apply s176) | ((refine zQe (hQ _ _ ?_ ?_) ?_)) | ((exact zP_ne _ _ (by decide))) | ((exact zP_eq _ _)) | ((exact Inv_c (by omega) (by omega) hI)) | ((exact Inv_s (zSx.rf _) (zSame.rf _) hI)) | ((exact zu_ne _ _ _ (by decide))) | fail)
  · rename_i h1 h2 _ _ _
    have hq : IF (N + 1) (up (up (m 387) 6161 (m 387 6161 - a)) 6162 (w32 (m 387 6162 - a))) (m 390) := IF_res (IF_cash hIF (by omega) (by omega))
    have hB1 := (IF_cash (N' := N + 1) (c := m 387 6161 - a) hIF (by omega) (by omega)).1.1
    refine Inv_w hI (RF_1 hB hN hIx.2.2.2 hF ?_ ?_ ?_ ?_ ?_ ?_ ?_ ?_ ?_ ?_ ?_) hq ?_
    all_goals first | (simp (disch := omega) only [up_ne, up_at]; done) | (intro i i0 i1; simp (disch := omega) only [up_ne]; done) | (intro k k0 k1; simp (disch := omega) only [zu_ne]; done) | skip
    · unfold RMx; simp (disch := omega) only [zu_ne]
      exact RM_f hB (by simp (disch := omega) only [up_ne]) (by simp (disch := omega) only [up_ne]) (fun i i0 i1 => by simp (disch := omega) only [up_ne]) hX.1
    · unfold RLx; simp (disch := omega) only [zu_ne, zu_eq, up_ne, up_at]
      exact RL_res hB1 (by rw [w32_w64]; rw [← e78, w32_ws]) (RL_cash hB hRL)

