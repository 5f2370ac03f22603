/-! BACK, PAY -/
theorem t_back {d dM N : Nat} {a b c : Int} {x m : zM} {Q : Int → zM → zM → Prop} (hd : 40 ≤ d) (hdM : 40 ≤ dM) (hNN : N ≤ 600) (hI : Inv N x m) (K : ∀ q x', MOK N dM 203 [zr 386, zi a, zi b, zi c] q x' m → Q q x' m) : WPc d 124 [zr 0, zi a, zi b, zi c] 403 [] x m 403 [] Q := by
  obtain ⟨hF, hIF, hK, hO⟩ := id hI
  have hX := hF.1
  have hIx := hIF.1
  have hB := hIx.1
  have hA := hIx.2.1
  have hN := hIx.2.2.1
  have hM := hIF.2.1
  have hE := hIF.2.2.1
  have hb := hB; unfold IB at hb
  have hRL := hX.2.1
  have hRA := hX.2.2.1
  have hRN := hX.2.2.2.1
  have e10 : x 1 0 = m 387 0 := hX.1.1
  have e11 : x 1 1 = m 387 1 := hX.1.2.1
  apply r124
  by_cases u : (0 ≤ a ∧ a < m 387 2) ∧ (0 ≤ b ∧ b < m 387 1)
  · obtain ⟨⟨ua, ub⟩, uc, ud⟩ := u
    have hr := hRA.2.1 a ua ub
    have ha := hA.1 a ua ub
    unfold IAa at ha
    have e21 : x 21 a = m 387 (234 + a) := hr.2.2.2.2.2.2
    have hc0 := hIF.2.2.2.2.2.1.1
    repeat' (first | (with_reducible assumption) | (with_reducible rfl) | (with_reducible apply And.intro) | (with_reducible apply zIn_mk) | (with_reducible apply zLn_mk) | (simp only [zP_up, zP_eq, zP_zP]) | (simp (disch := omega) only [up_ne, up_at]) | ((with_reducible intro _); try (exfalso; omega)) | omega | (with_reducible exact Or.inr trivial) | (with_reducible exact Or.inl trivial) | ((refine c4 hRA hB hA (by omega) (by omega) ?_ ?_ <;> intro hg)) | ((refine s203l (p := m 387) rfl hB hA (by omega) (by omega) ?_ ?_ <;> intro hg')) | (with_reducible apply r203_c29) | ((apply r3)) | ((exact absurd hg hg')) | ((exact absurd hg' hg)) | (with_reducible apply k161) | (with_reducible apply k162) | (with_reducible apply k163) | (with_reducible apply k164) | (with_reducible apply k165) | (with_reducible apply k166) | (with_reducible apply k167) | ((refine K _ _ ?_; intro Q' hQ; apply r203)) | (with_reducible apply s171) | (with_reducible apply s172) | (with_reducible apply s173) | (with_reducible apply s174) | (with_reducible apply s175) | (with_reducible apply s176) | ((refine zQe (hQ _ _ ?_ ?_) ?_)) | ((exact zP_ne _ _ (by decide))) | ((exact zP_eq _ _)) | ((exact Inv_c (by omega) (by omega) hI)) | ((exact Inv_s (zSx.rf _) (zSame.rf _) hI)) | ((exact zu_ne _ _ _ (by decide))) | fail)
    · rw [e21]
      refine Inv_w hI (RF_2 hB hN hIx.2.2.2 hF ?_ ?_ ?_ ?_ (fun k k0 k1 k2 => by simp (disch := omega) only [zu_ne]) (fun i i0 => by simp (disch := omega) only [up_ne])) (IF_2 (N := N) hIF (by omega) ?_ ?_ ?_ ?_ ?_ ?_ ?_ ?_ ?_ (fun i i0 => by simp (disch := omega) only [up_ne])) (fun k k0 k1 => by simp (disch := omega) only [zu_ne])
      · unfold RMx; simp (disch := omega) only [zu_ne]
        exact RM_f hB (by simp (disch := omega) only [up_ne]) (by simp (disch := omega) only [up_ne]) (fun i i0 i1 => by simp (disch := omega) only [up_ne]) hX.1
      · unfold RLx; simp (disch := omega) only [zu_ne]
        exact RL_f hB (by simp (disch := omega) only [up_ne]) (fun i i0 i1 => by simp (disch := omega) only [up_ne]) (by simp (disch := omega) only [up_ne]) (by simp (disch := omega) only [up_ne]) hRL
      · refine ⟨?_, fun k k0 k1 => ?_, fun k j k0 k1 j0 j1 j2 => ?_⟩
        · simp (disch := omega) only [zu_ne, up_ne]; exact hRA.1
        · simp (disch := omega) only [up_ne] at k1
          simp (disch := omega) only [zu_ne, zu_eq]
          have q := hRA.2.1 k k0 k1
          by_cases c : k = a
          · subst c
            simp (disch := omega) only [up_at, up_ne]
            exact ⟨q.1, q.2.1, q.2.2.1, q.2.2.2.1, q.2.2.2.2.1, q.2.2.2.2.2.1, trivial⟩
          · simp (disch := omega) only [up_ne]
            exact q
        · simp (disch := omega) only [up_ne] at k1
          have q := hRA.2.2 k j k0 k1 j0 j1
          simp (disch := omega) only [zu_ne, zu_eq]
          by_cases c : k = a
          · subst c
            rw [up_eq] at j2
            by_cases c2 : j = m 387 (234 + k)
            · simp (disch := omega) only [up_at, up_ne]; exact ⟨trivial, trivial⟩
            · simp (disch := omega) only [up_ne]
              exact q (by omega)
          · simp (disch := omega) only [up_ne] at j2
            simp (disch := omega) only [up_ne]
            exact q j2
      · unfold RNx; simp (disch := omega) only [zu_ne]
        exact RN_f hB hN (by simp (disch := omega) only [up_ne]) (fun i i0 i1 => by simp (disch := omega) only [up_ne]) (fun i i0 i1 => by simp (disch := omega) only [up_ne]) hRN
      · unfold IB at *; simp (disch := omega) only [up_ne, up_at]; omega
      · refine ⟨fun k k0 k1 => ?_, fun k j k0 k1 j0 j1 => ?_⟩
        · simp (disch := omega) only [up_ne] at k1
          have q := hA.1 k k0 k1
          unfold IAa at *
          by_cases c : k = a
          · subst c
            simp (disch := omega) only [up_at, up_ne]; omega
          · simp (disch := omega) only [up_ne]
            exact q
        · simp (disch := omega) only [up_ne] at k1
          have q := hA.2 k j k0 k1 j0
          have q1 := hA.1 k k0 k1
          unfold IAa at q1
          unfold IAb at *
          by_cases c : k = a
          · subst c
            rw [up_eq] at j1
            by_cases c2 : j = m 387 (234 + k)
            · simp (disch := omega) only [up_at, up_ne]; omega
            · simp (disch := omega) only [up_ne]
              exact q (by omega)
          · simp (disch := omega) only [up_ne] at j1
            simp (disch := omega) only [up_ne]
            exact q j1
      · exact IN_f hB (by simp (disch := omega) only [up_ne]; omega) (by simp (disch := omega) only [up_ne]) (by simp (disch := omega) only [up_ne]) (fun i i0 i1 => by simp (disch := omega) only [up_ne]) (fun i i0 i1 => by simp (disch := omega) only [up_ne]) hN
      · exact IM_f hB (by simp (disch := omega) only [up_ne]; omega) (by simp (disch := omega) only [up_ne]) (fun i i0 i1 => by simp (disch := omega) only [up_ne]) hM
      · exact IE_f hB (by simp (disch := omega) only [up_ne]; omega) (by simp (disch := omega) only [up_ne]; omega) (by simp (disch := omega) only [up_ne]) (fun i i0 i1 => by simp (disch := omega) only [up_ne]) hE
      · rw [gCap_f (p := m 387) hB (by simp (disch := omega) only [up_ne]) (by simp (disch := omega) only [up_ne]) (fun i i0 i1 => by simp (disch := omega) only [up_ne]) (fun i i0 i1 => by simp (disch := omega) only [up_ne])]
        simp (disch := omega) only [up_ne]; exact (IEc_4 hIF).1
      · exact IK_f hB (by simp (disch := omega) only [up_ne]) (by simp (disch := omega) only [up_ne]) (fun i i0 i1 => by simp (disch := omega) only [up_ne]) (fun i i0 i1 => by simp (disch := omega) only [up_ne]) hIF.2.2.2.1.2
      · simp (disch := omega) only [up_ne]; exact hc0.1
      · simp (disch := omega) only [up_ne]; omega
  · repeat' (first | (with_reducible assumption) | (with_reducible rfl) | (with_reducible apply And.intro) | (with_reducible apply zIn_mk) | (with_reducible apply zLn_mk) | (simp only [zP_up, zP_eq, zP_zP]) | (simp (disch := omega) only [up_ne, up_at]) | ((with_reducible intro _); try (exfalso; omega)) | omega | (with_reducible exact Or.inr trivial) | (with_reducible exact Or.inl trivial) | ((refine c4 hRA hB hA (by omega) (by omega) ?_ ?_ <;> intro hg)) | ((refine s203l (p := m 387) rfl hB hA (by omega) (by omega) ?_ ?_ <;> intro hg')) | (with_reducible apply r203_c29) | ((apply r3)) | ((exact absurd hg hg')) | ((exact absurd hg' hg)) | (with_reducible apply k161) | (with_reducible apply k162) | (with_reducible apply k163) | (with_reducible apply k164) | (with_reducible apply k165) | (with_reducible apply k166) | (with_reducible apply k167) | ((refine K _ _ ?_; intro Q' hQ; apply r203)) | (with_reducible apply s171) | (with_reducible apply s172) | (with_reducible apply s173) | (with_reducible apply s174) | (with_reducible apply s175) | (with_reducible apply s176) | ((refine zQe (hQ _ _ ?_ ?_) ?_)) | ((exact zP_ne _ _ (by decide))) | ((exact zP_eq _ _)) | ((exact Inv_c (by omega) (by omega) hI)) | ((exact Inv_s (zSx.rf _) (zSame.rf _) hI)) | ((exact zu_ne _ _ _ (by decide))) | fail)

