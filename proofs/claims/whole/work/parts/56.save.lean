/-! SAVE, DRAW, FOUND, COST -/
theorem RL_cash {s ow fo tl mu to : Int → Int} {p : Int → Int} {c : Int} (hB : IB p) (r : RLd s ow fo tl mu to p) : RLd (up s 7 c) ow fo tl mu to (up p 6161 c) := by
  have hb := hB; unfold IB at hb
  refine ⟨?_, ?_, ?_, ?_, ?_⟩
  · simp (disch := omega) only [up_ne]; exact r.1
  · intro k k0 k1
    simp (disch := omega) only [up_ne] at k1; simp (disch := omega) only [up_ne]; exact r.2.1 k k0 k1
  · intro k k0 k1
    rw [gSv_f hB (by simp (disch := omega) only [up_ne]) (fun i i0 i1 => by simp (disch := omega) only [up_ne])]; exact r.2.2.1 k k0 k1
  · rw [up_eq, up_eq]
  · simp (disch := omega) only [up_ne]; exact r.2.2.2.2
theorem RM_act {s wo st jo de ac : Int → Int} {p : Int → Int} {a : Int} (hB : IB p) (a0 : 0 ≤ a) (a1 : a < 16) (r : RM s wo st jo de ac p) : RM s wo st jo de (up ac a (p 0)) (up p (74 + a) (p 0)) := by
  have hb := hB; unfold IB at hb
  refine ⟨?_, ?_, fun k k0 k1 => ?_⟩
  · simp (disch := omega) only [up_ne]; exact r.1
  · simp (disch := omega) only [up_ne]; exact r.2.1
  · simp (disch := omega) only [up_ne] at k1
    have q := r.2.2 k k0 k1
    by_cases c : k = a
    · simp (disch := omega) only [up_at, up_ne, c] at *
      exact ⟨q.1, q.2.1, q.2.2.1, q.2.2.2.1, trivial⟩
    · simp (disch := omega) only [up_ne]
      exact q
theorem IF_cash {N N' : Nat} {p w : Int → Int} {c : Int} (hIF : IF N p w) (c0 : 0 ≤ c) (c1 : c ≤ 219997 * (N' : Int)) : IF N' (up p 6161 c) w := by
  have hB := hIF.1.1
  have hb := hB; unfold IB at hb
  refine IF_1 hIF ?_ ?_ ?_ ?_ ?_ ?_ ?_ ?_ ?_ ?_ ?_ (IM_f hB ?_ ?_ ?_ hIF.2.1) (IE_f hB ?_ ?_ ?_ ?_ hIF.2.2.1) ?_ ?_ ?_
  all_goals first | (simp (disch := omega) only [up_ne, up_at]; done) | (intro i i0 i1; simp (disch := omega) only [up_ne]; done) | (intro k k0 k1; simp (disch := omega) only [zu_ne]; done) | skip
  · simp (disch := omega) only [up_ne]; omega
  · unfold IB at *; simp (disch := omega) only [up_ne, up_at]; omega
  · simp (disch := omega) only [up_ne]; omega
  · simp (disch := omega) only [up_ne]; omega
  · simp (disch := omega) only [up_ne]; omega
  · simp (disch := omega) only [up_ne]; exact (IEc_4 hIF).1
  · rw [up_eq]; exact c0
  · rw [up_eq]; exact c1
theorem IF_act {N : Nat} {p w : Int → Int} {a : Int} (hIF : IF N p w) (a0 : 0 ≤ a) (a1 : a < 16) : IF N (up p (74 + a) (p 0)) w := by
  have hB := hIF.1.1
  have hb := hB; unfold IB at hb
  refine IF_1 hIF ?_ ?_ ?_ ?_ ?_ ?_ ?_ ?_ ?_ ?_ ?_ ?_ (IE_f hB ?_ ?_ ?_ ?_ hIF.2.2.1) ?_ ?_ ?_
  all_goals first | (simp (disch := omega) only [up_ne, up_at]; done) | (intro i i0 i1; simp (disch := omega) only [up_ne]; done) | (intro k k0 k1; simp (disch := omega) only [zu_ne]; done) | skip
  · simp (disch := omega) only [up_ne]; omega
  · unfold IB at *; simp (disch := omega) only [up_ne, up_at]; omega
  · refine ⟨fun k k0 k1 => ?_, fun k k0 k1 => ?_⟩
    · simp (disch := omega) only [up_ne] at k1
      have q := hIF.2.1.1 k k0 k1
      by_cases c : k = a
      · simp (disch := omega) only [up_at, up_ne, c] at *
        omega
      · simp (disch := omega) only [up_ne]
        exact q
    · simp (disch := omega) only [up_ne] at k0
      simp (disch := omega) only [up_ne]
      exact hIF.2.1.2 k (by omega) k1
  · simp (disch := omega) only [up_ne]; omega
  · simp (disch := omega) only [up_ne]; omega
  · simp (disch := omega) only [up_ne]; exact (IEc_4 hIF).1
  · simp (disch := omega) only [up_ne]; exact hIF.2.2.2.2.2.1.1.1
  · simp (disch := omega) only [up_ne]; exact hIF.2.2.2.2.2.1.1.2
theorem IF_en {N : Nat} {p w : Int → Int} {a wk n : Int} (hIF : IF N p w) (a0 : 0 ≤ a) (a1 : a < p 1) (w0 : 0 ≤ wk) (w1 : wk ≤ p 0) (hc : gI p a wk = -1 → p 4 + 1 ≤ gCap p) : IF N (gEn p a wk n) w := by
  have hB := hIF.1.1
  have hb := hB; unfold IB at hb
  have h4 := IEc_4 hIF
  have h6 : gI p a wk = -1 → p 4 < 700 := fun _ => by omega
  have o := fun i => gEn_o (p := p) (a := a) (w := wk) (n := n) (i := i) hB h6
  refine IF_1 hIF (o _ (by omega) (by omega)) (by rw [o _ (by omega) (by omega)]; omega) (o _ (by omega) (by omega)) (o _ (by omega) (by omega)) (o _ (by omega) (by omega)) (o _ (by omega) (by omega)) (o _ (by omega) (by omega)) (o _ (by omega) (by omega)) (fun i i0 i1 => o _ (by omega) (by omega)) (fun i i0 i1 => o _ (by omega) (by omega)) (IB_en hB h6) (IM_f hB (by rw [o _ (by omega) (by omega)]; omega) (o _ (by omega) (by omega)) (fun i i0 i1 => o _ (by omega) (by omega)) hIF.2.1) (IE_en hB hIF.2.2.1 a0 a1 w0 w1 h6) ?_ ?_ ?_
  · rw [gEn_4 hB]; split
    · rename_i c; exact hc c
    · exact h4.1
  · rw [o _ (by omega) (by omega)]; exact hIF.2.2.2.2.2.1.1.1
  · rw [o _ (by omega) (by omega)]; exact hIF.2.2.2.2.2.1.1.2
theorem t_save {d dM N : Nat} {a b : Int} {x m : zM} {Q : Int → zM → zM → Prop} (hd : 40 ≤ d) (hdM : 40 ≤ dM) (hNN : N ≤ 600) (hI : Inv N x m) (K : ∀ q x', MOK N dM 184 [zr 386, zi a, zi b] q x' m → Q q x' m) : WPc d 118 [zr 0, zi a, zi b] 403 [] x m 403 [] Q := by
  obtain ⟨hF, hIF, hK, hO⟩ := id hI
  have hX := hF.1
  have hIx := hIF.1
  have hB := hIx.1
  have hA := hIx.2.1
  have hN := hIx.2.2.1
  have hM := hIF.2.1
  have hE := hIF.2.2.1
  have hb := hB; unfold IB at hb
  have hRL := hX.2.1
  have hRA := hX.2.2.1
  have hRN := hX.2.2.2.1
  have e10 : x 1 0 = m 387 0 := hX.1.1
  have e11 : x 1 1 = m 387 1 := hX.1.2.1
  have e77 : x 7 7 = m 387 6161 := hRL.2.2.2.1
  have et := hRL.2.2.1 a
  have hsub : m 387 6161 - b = m 387 6161 + -b := by omega
  have hr := hX.1.2.2 a
  have hm := hM.1 a
  have h4 := IEc_4 hIF
  have hc0 := hIF.2.2.2.2.2.1.1
  have h6 : ∀ w, gI (m 387) a w = -1 → m 387 4 < 700 := fun w _ => by omega
  have g0 : gEn (m 387) a (m 387 0) (b) 0 = m 387 0 := gEn_o hB (h6 _) (by omega) (by omega)
  have g1 : gEn (m 387) a (m 387 0) (b) 6161 = m 387 6161 := gEn_o hB (h6 _) (by omega) (by omega)
  have hq : 0 ≤ a → a < m 387 1 → 0 ≤ (m 387 0) → (m 387 0) ≤ m 387 0 → 0 ≤ m 387 6161 + (b) → (b) ≤ 99999 → gHas (m 387) a (m 387 0) → IF (N + 1) (up (up (gEn (m 387) a (m 387 0) (b)) 6161 (m 387 6161 + (b))) (74 + a) (m 387 0)) (m 390) := by
    intro u0 u1 u2 u3 u4 u5 u6
    have hh := IF_cash (N' := N + 1) (c := m 387 6161 + (b)) (IF_en (n := b) hIF u0 u1 u2 u3 (fun e => by rcases u6 with u | u; omega; exact absurd e u)) u4 (by omega)
    have := IF_act (a := a) hh u0 (by omega)
    rw [show up (gEn (m 387) a (m 387 0) (b)) 6161 (m 387 6161 + (b)) 0 = m 387 0 by rw [up_ne (by omega), g0]] at this
    exact this
  have hv : 0 ≤ a → a < 16 → gSv (up (up (gEn (m 387) a (m 387 0) (b)) 6161 (m 387 6161 + (b))) (74 + a) (m 387 0)) a 400 400 = gSv (gEn (m 387) a (m 387 0) (b)) a 400 400 := fun a0 a1 => gSv_f (p := gEn (m 387) a (m 387 0) (b)) (q := up (up (gEn (m 387) a (m 387 0) (b)) 6161 (m 387 6161 + (b))) (74 + a) (m 387 0)) (IB_en hB (h6 _)) (by simp (disch := omega) only [up_ne]) (fun i i0 i1 => by simp (disch := omega) only [up_ne]) _ _ _
  apply r118
  repeat' (first | (with_reducible assumption) | (with_reducible rfl) | (with_reducible apply And.intro) | (with_reducible apply zIn_mk) | (with_reducible apply zLn_mk) | (simp only [zP_up, zP_eq, zP_zP]) | (simp (disch := omega) only [up_ne, up_at]) | (simp only [g0, g1, e10, e77, hsub]) | (simp (disch := omega) only [et]) | ((with_reducible intro _); try (exfalso; omega)) | omega | (with_reducible exact Or.inr trivial) | (with_reducible exact Or.inl trivial) | ((refine c24 (by omega) hRL hB hE (by omega) ?_ ?_ <;> intro hg)) | ((exact absurd hg hg')) | ((exact absurd hg' hg)) | ((refine s179 (p := m 387) (by first | rfl | exact zP_eq _ _) (by omega) hB hE ?_ ?_ <;> intro hg')) | ((apply r103)) | ((refine c25_7 (p := m 387) (by omega) (by first | exact hRL | (unfold RLx; simp only [zu_ne, ne_eq, Nat.reduceEqDiff, not_false_eq_true]; exact hRL)) hB hE (by first | exact e10 | rfl | (rw [zu_ne _ _ _ (by decide)]; exact e10)) (by omega) (by omega) (by omega) (by omega) (h6 _) ?_; intro xB hB1 hB2; have f7 := hB2.2.2.2.1; have f12 := hB2.2.2.1 a (by omega) (by omega); rw [g1] at f7)) | ((refine s178 (p := m 387) (by omega) rfl hB hE (h6 _) (by unfold zIn; omega) ?_)) | ((refine s181 (zP_eq _ _) (by omega) (hq (by omega) (by omega) (by omega) (by omega) (by omega) (by omega) hg).1.1 ?_)) | (with_reducible apply k161) | (with_reducible apply k162) | (with_reducible apply k163) | (with_reducible apply k164) | (with_reducible apply k165) | (with_reducible apply k166) | (with_reducible apply k167) | ((refine K _ _ ?_; intro Q' hQ; apply r184)) | (with_reducible apply s171) | (with_reducible apply s172) | (with_reducible apply s173) | (with_reducible apply s174) | (with_reducible apply s175) | (with_reducible apply s176) | ((refine zQe (hQ _ _ ?_ ?_) ?_)) | ((exact zP_ne _ _ (by decide))) | ((exact zP_eq _ _)) | ((exact Inv_c (by omega) (by omega) hI)) | ((exact Inv_s (zSx.rf _) (zSame.rf _) hI)) | ((exact zu_ne _ _ _ (by decide))) | fail)
  · refine Inv_w hI ?_ (hq (by omega) (by omega) (by omega) (by omega) (by omega) (by omega) hg) ?_
    · have hIq := hq (by omega) (by omega) (by omega) (by omega) (by omega) (by omega) hg
      have o := fun i => gEn_o (p := m 387) (a := a) (w := (m 387 0)) (n := b) (i := i) hB (h6 _)
      refine RF_1 hB hN hIx.2.2.2 hF ?_ ?_ ?_ ?_ ?_ ?_ ?_ ?_ ?_ ?_ ?_
      · unfold RMx
        simp (disch := omega) only [zu_ne, zu_eq]
        rw [hB1 1 (by omega), hB1 2 (by omega), hB1 3 (by omega), hB1 4 (by omega), hB1 5 (by omega), hB1 6 (by omega)]
        simp (disch := omega) only [zu_ne, zu_eq]
        have := RM_act (a := a) (p := up (gEn (m 387) a (m 387 0) (b)) 6161 (m 387 6161 + (b))) (IF_cash (N := N + 1) (N' := N + 1) (c := m 387 6161 + (b)) (IF_m (by omega) (IF_en (n := b) hIF (by omega) (by omega) (by omega) (by omega) (fun e => by rcases hg with u | u; omega; exact absurd e u))) (by omega) (by omega)).1.1 (by omega) (by omega) (RM_f hB (by simp (disch := omega) only [up_ne]; exact o _ (by omega) (by omega)) (by simp (disch := omega) only [up_ne]; exact o _ (by omega) (by omega)) (fun i i0 i1 => by simp (disch := omega) only [up_ne]; exact o _ (by omega) (by omega)) hX.1)
        rw [show up (gEn (m 387) a (m 387 0) (b)) 6161 (m 387 6161 + (b)) 0 = m 387 0 by rw [up_ne (by omega), g0]] at this
        exact this
      · unfold RLx
        simp (disch := omega) only [zu_ne, zu_eq]
        rw [f7]
        refine RL_f (IF_cash (N := N + 1) (N' := N + 1) (c := m 387 6161 + (b)) (IF_m (by omega) (IF_en (n := b) hIF (by omega) (by omega) (by omega) (by omega) (fun e => by rcases hg with u | u; omega; exact absurd e u))) (by omega) (by omega)).1.1 ?_ ?_ ?_ ?_ (RL_cash (IB_en hB (h6 _)) hB2) <;> first | (intro i i0 i1; simp (disch := omega) only [up_ne]; done) | (simp (disch := omega) only [up_ne]; done)
      all_goals first | (intro k k0 k1; rw [zu_ne _ _ _ (by omega), hB1 k (by omega)]; first | done | rfl | rw [zu_ne _ _ _ (by omega)]) | (simp (disch := omega) only [up_ne]; exact o _ (by omega) (by omega)) | (intro i i0 i1; simp (disch := omega) only [up_ne]; exact o _ (by omega) (by omega))
    · intro k k0 k1; rw [zu_ne _ _ _ (by omega), hB1 k (by omega)]; first | done | rfl | rw [zu_ne _ _ _ (by omega)]

theorem t_draw {d dM N : Nat} {a b : Int} {x m : zM} {Q : Int → zM → zM → Prop} (hd : 40 ≤ d) (hdM : 40 ≤ dM) (hNN : N ≤ 600) (hI : Inv N x m) (K : ∀ q x', MOK N dM 185 [zr 386, zi a, zi b] q x' m → Q q x' m) : WPc d 119 [zr 0, zi a, zi b] 403 [] x m 403 [] Q := by
  obtain ⟨hF, hIF, hK, hO⟩ := id hI
  have hX := hF.1
  have hIx := hIF.1
  have hB := hIx.1
  have hA := hIx.2.1
  have hN := hIx.2.2.1
  have hM := hIF.2.1
  have hE := hIF.2.2.1
  have hb := hB; unfold IB at hb
  have hRL := hX.2.1
  have hRA := hX.2.2.1
  have hRN := hX.2.2.2.1
  have e10 : x 1 0 = m 387 0 := hX.1.1
  have e11 : x 1 1 = m 387 1 := hX.1.2.1
  have e77 : x 7 7 = m 387 6161 := hRL.2.2.2.1
  have et := hRL.2.2.1 a
  have hsub : m 387 6161 - b = m 387 6161 + -b := by omega
  have hr := hX.1.2.2 a
  have hm := hM.1 a
  have h4 := IEc_4 hIF
  have hc0 := hIF.2.2.2.2.2.1.1
  have h6 : ∀ w, gI (m 387) a w = -1 → m 387 4 < 700 := fun w _ => by omega
  have g0 : gEn (m 387) a (m 387 0) (-b) 0 = m 387 0 := gEn_o hB (h6 _) (by omega) (by omega)
  have g1 : gEn (m 387) a (m 387 0) (-b) 6161 = m 387 6161 := gEn_o hB (h6 _) (by omega) (by omega)
  have hq : 0 ≤ a → a < m 387 1 → 0 ≤ (m 387 0) → (m 387 0) ≤ m 387 0 → 0 ≤ m 387 6161 + (-b) → (-b) ≤ 99999 → gHas (m 387) a (m 387 0) → IF (N + 1) (up (up (gEn (m 387) a (m 387 0) (-b)) 6161 (m 387 6161 + (-b))) (74 + a) (m 387 0)) (m 390) := by
    intro u0 u1 u2 u3 u4 u5 u6
    have hh := IF_cash (N' := N + 1) (c := m 387 6161 + (-b)) (IF_en (n := -b) hIF u0 u1 u2 u3 (fun e => by rcases u6 with u | u; omega; exact absurd e u)) u4 (by omega)
    have := IF_act (a := a) hh u0 (by omega)
    rw [show up (gEn (m 387) a (m 387 0) (-b)) 6161 (m 387 6161 + (-b)) 0 = m 387 0 by rw [up_ne (by omega), g0]] at this
    exact this
  have hv : 0 ≤ a → a < 16 → gSv (up (up (gEn (m 387) a (m 387 0) (-b)) 6161 (m 387 6161 + (-b))) (74 + a) (m 387 0)) a 400 400 = gSv (gEn (m 387) a (m 387 0) (-b)) a 400 400 := fun a0 a1 => gSv_f (p := gEn (m 387) a (m 387 0) (-b)) (q := up (up (gEn (m 387) a (m 387 0) (-b)) 6161 (m 387 6161 + (-b))) (74 + a) (m 387 0)) (IB_en hB (h6 _)) (by simp (disch := omega) only [up_ne]) (fun i i0 i1 => by simp (disch := omega) only [up_ne]) _ _ _
  apply r119
  repeat' (first | (with_reducible assumption) | (with_reducible rfl) | (with_reducible apply And.intro) | (with_reducible apply zIn_mk) | (with_reducible apply zLn_mk) | (simp only [zP_up, zP_eq, zP_zP]) | (simp (disch := omega) only [up_ne, up_at]) | (simp only [g0, g1, e10, e77, hsub]) | (simp (disch := omega) only [et]) | ((with_reducible intro _); try (exfalso; omega)) | omega | (with_reducible exact Or.inr trivial) | (with_reducible exact Or.inl trivial) | ((refine c24 (by omega) hRL hB hE (by omega) ?_ ?_ <;> intro hg)) | ((exact absurd hg hg')) | ((exact absurd hg' hg)) | ((refine s179 (p := m 387) (by first | rfl | exact zP_eq _ _) (by omega) hB hE ?_ ?_ <;> intro hg')) | ((apply r103)) | ((refine c25_7 (p := m 387) (by omega) (by first | exact hRL | (unfold RLx; simp only [zu_ne, ne_eq, Nat.reduceEqDiff, not_false_eq_true]; exact hRL)) hB hE (by first | exact e10 | rfl | (rw [zu_ne _ _ _ (by decide)]; exact e10)) (by omega) (by omega) (by omega) (by omega) (h6 _) ?_; intro xB hB1 hB2; have f7 := hB2.2.2.2.1; have f12 := hB2.2.2.1 a (by omega) (by omega); rw [g1] at f7)) | ((refine s178 (p := m 387) (by omega) rfl hB hE (h6 _) (by unfold zIn; omega) ?_)) | ((refine s181 (zP_eq _ _) (by omega) (hq (by omega) (by omega) (by omega) (by omega) (by omega) (by omega) hg).1.1 ?_)) | ((refine c57_72 (by omega) hRN hB hA hN ?_)) | ((refine s193 (p := m 387) rfl (by omega) hB hA hN ?_)) | ((refine s181 (p := m 387) rfl (by omega) hB ?_)) | (with_reducible apply k161) | (with_reducible apply k162) | (with_reducible apply k163) | (with_reducible apply k164) | (with_reducible apply k165) | (with_reducible apply k166) | (with_reducible apply k167) | ((refine K _ _ ?_; intro Q' hQ; apply r185)) | (with_reducible apply s171) | (with_reducible apply s172) | (with_reducible apply s173) | (with_reducible apply s174) | (with_reducible apply s175) | (with_reducible apply s176) | ((refine zQe (hQ _ _ ?_ ?_) ?_)) | ((exact zP_ne _ _ (by decide))) | ((exact zP_eq _ _)) | ((exact Inv_c (by omega) (by omega) hI)) | ((exact Inv_s (zSx.rf _) (zSame.rf _) hI)) | ((exact zu_ne _ _ _ (by decide))) | fail)
  · refine Inv_w hI ?_ (hq (by omega) (by omega) (by omega) (by omega) (by omega) (by omega) hg) ?_
    · have hIq := hq (by omega) (by omega) (by omega) (by omega) (by omega) (by omega) hg
      have o := fun i => gEn_o (p := m 387) (a := a) (w := (m 387 0)) (n := -b) (i := i) hB (h6 _)
      refine RF_1 hB hN hIx.2.2.2 hF ?_ ?_ ?_ ?_ ?_ ?_ ?_ ?_ ?_ ?_ ?_
      · unfold RMx
        simp (disch := omega) only [zu_ne, zu_eq]
        rw [hB1 1 (by omega), hB1 2 (by omega), hB1 3 (by omega), hB1 4 (by omega), hB1 5 (by omega), hB1 6 (by omega)]
        simp (disch := omega) only [zu_ne, zu_eq]
        have := RM_act (a := a) (p := up (gEn (m 387) a (m 387 0) (-b)) 6161 (m 387 6161 + (-b))) (IF_cash (N := N + 1) (N' := N + 1) (c := m 387 6161 + (-b)) (IF_m (by omega) (IF_en (n := -b) hIF (by omega) (by omega) (by omega) (by omega) (fun e => by rcases hg with u | u; omega; exact absurd e u))) (by omega) (by omega)).1.1 (by omega) (by omega) (RM_f hB (by simp (disch := omega) only [up_ne]; exact o _ (by omega) (by omega)) (by simp (disch := omega) only [up_ne]; exact o _ (by omega) (by omega)) (fun i i0 i1 => by simp (disch := omega) only [up_ne]; exact o _ (by omega) (by omega)) hX.1)
        rw [show up (gEn (m 387) a (m 387 0) (-b)) 6161 (m 387 6161 + (-b)) 0 = m 387 0 by rw [up_ne (by omega), g0]] at this
        exact this
      · unfold RLx
        simp (disch := omega) only [zu_ne, zu_eq]
        rw [f7]
        refine RL_f (IF_cash (N := N + 1) (N' := N + 1) (c := m 387 6161 + (-b)) (IF_m (by omega) (IF_en (n := -b) hIF (by omega) (by omega) (by omega) (by omega) (fun e => by rcases hg with u | u; omega; exact absurd e u))) (by omega) (by omega)).1.1 ?_ ?_ ?_ ?_ (RL_cash (IB_en hB (h6 _)) hB2) <;> first | (intro i i0 i1; simp (disch := omega) only [up_ne]; done) | (simp (disch := omega) only [up_ne]; done)
      all_goals first | (intro k k0 k1; rw [zu_ne _ _ _ (by omega), hB1 k (by omega)]; first | done | rfl | rw [zu_ne _ _ _ (by omega)]) | (simp (disch := omega) only [up_ne]; exact o _ (by omega) (by omega)) | (intro i i0 i1; simp (disch := omega) only [up_ne]; exact o _ (by omega) (by omega))
    · intro k k0 k1; rw [zu_ne _ _ _ (by omega), hB1 k (by omega)]; first | done | rfl | rw [zu_ne _ _ _ (by omega)]

