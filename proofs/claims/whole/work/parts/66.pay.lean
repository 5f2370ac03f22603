/-! PAY -/
theorem t_pay {d dM N : Nat} {a b : Int} {x m : zM} {Q : Int → zM → zM → Prop} (hd : 40 ≤ d) (hdM : 40 ≤ dM) (hNN : N ≤ 600) (hI : Inv N x m) (K : ∀ q x', MOK N dM 212 [zr 386, zi a, zi b] q x' m → Q q x' m) : WPc d 127 [zr 0, zi a, zi b] 403 [] x m 403 [] Q := by
  obtain ⟨hF, hIF, hK, hO⟩ := id hI
  have hX := hF.1
  have hIx := hIF.1
  have hB := hIx.1
  have hA := hIx.2.1
  have hN := hIx.2.2.1
  have hM := hIF.2.1
  have hE := hIF.2.2.1
  have hb := hB; unfold IB at hb
  have hRL := hX.2.1
  have hRA := hX.2.2.1
  have hRN := hX.2.2.2.1
  have e10 : x 1 0 = m 387 0 := hX.1.1
  have e11 : x 1 1 = m 387 1 := hX.1.2.1
  apply r127
  by_cases u : 0 ≤ a ∧ a < m 387 3
  · obtain ⟨ua, ub⟩ := u
    have r := hRN.2 a ua ub
    have nl := hN.1 a ua ub
    unfold INl at nl
    have aa := hA.1 (m 387 (450 + a)) (by omega) (by omega)
    unfold IAa at aa
    have hc0 := hIF.2.2.2.2.2.1.1
    have e74 : x 74 a = m 387 (90 + m 387 (450 + a)) := r.2.1
    have e81 : x 81 a = m 387 (522 + a) := r.2.2.2.2.2.2.2.2.1
    have e77 : x 7 7 = m 387 6161 := hRL.2.2.2.1
    repeat' (first | (with_reducible assumption) | (with_reducible rfl) | (with_reducible apply And.intro) | (with_reducible apply zIn_mk) | (with_reducible apply zLn_mk) | (simp only [zP_up, zP_eq, zP_zP]) | (simp (disch := omega) only [up_ne, up_at]) | (simp (disch := omega) only [zu_ne, zu_eq]) | (simp only [e10, e74, e81, e77]) | ((with_reducible intro _); try (exfalso; omega)) | omega | (with_reducible exact Or.inr trivial) | (with_reducible exact Or.inl trivial) | ((apply r50)) | ((apply r49_72)) | ((apply r190)) | (with_reducible apply k161) | (with_reducible apply k162) | (with_reducible apply k163) | (with_reducible apply k164) | (with_reducible apply k165) | (with_reducible apply k166) | (with_reducible apply k167) | ((refine K _ _ ?_; intro Q' hQ; apply r212)) | (with_reducible apply s171) | (with_reducible apply s172) | (with_reducible apply s173) | (with_reducible apply s174) | (with_reducible apply s175) | (with_reducible apply s176) | ((refine zQe (hQ _ _ ?_ ?_) ?_)) | ((exact zP_ne _ _ (by decide))) | ((exact zP_eq _ _)) | ((exact Inv_c (by omega) (by omega) hI)) | ((exact Inv_s (zSx.rf _) (zSame.rf _) hI)) | ((exact zu_ne _ _ _ (by decide))) | fail)
    · have q79 : m 387 (522 + a) + b ≤ m 387 (138 + m 387 (450 + a)) + m 387 (498 + a) := by omega
      refine Inv_w hI (RF_2 hB hN hIx.2.2.2 hF ?_ ?_ ?_ ?_ (fun k k0 k1 k2 => by simp (disch := omega) only [zu_ne]) (fun i i0 => by simp (disch := omega) only [up_ne])) (IF_2 (N := N) hIF (by omega) ?_ ?_ ?_ ?_ ?_ ?_ ?_ ?_ ?_ (fun i i0 => by simp (disch := omega) only [up_ne])) (fun k k0 k1 => by simp (disch := omega) only [zu_ne])
      · unfold RMx; simp (disch := omega) only [zu_ne, zu_eq]
        have h1 := RM_act (a := m 387 (90 + m 387 (450 + a))) hB (by omega) (by omega) hX.1
        have hB1 := (IF_act (a := m 387 (90 + m 387 (450 + a))) hIF (by omega) (by omega)).1.1
        refine RM_f hB1 ?_ ?_ ?_ h1
        · simp (disch := omega) only [up_ne]
        · simp (disch := omega) only [up_ne]
        · intro i i0 i1
          by_cases c : i = 74 + m 387 (90 + m 387 (450 + a))
          · simp (disch := omega) only [up_ne, up_at]
          · simp (disch := omega) only [up_ne]
      · unfold RLx; simp (disch := omega) only [zu_ne, zu_eq]
        refine RL_f (IF_cash (N' := N + 1) (c := m 387 6161 + b) hIF (by omega) (by omega)).1.1 ?_ ?_ ?_ ?_ (RL_cash hB hRL)
        · simp (disch := omega) only [up_ne]
        · intro i i0 i1; simp (disch := omega) only [up_ne]
        · simp (disch := omega) only [up_ne, up_at]
        · simp (disch := omega) only [up_ne]
      · unfold RAx; simp (disch := omega) only [zu_ne]
        exact RA_f hB (by simp (disch := omega) only [up_ne]) (fun i i0 i1 => by simp (disch := omega) only [up_ne]) hRA
      · refine ⟨by simp (disch := omega) only [zu_ne, up_ne]; exact hRN.1, fun k k0 k1 => ?_⟩
        simp (disch := omega) only [up_ne] at k1
        have rk := hRN.2 k k0 k1
        have nk := hN.1 k k0 k1
        unfold INl at nk
        unfold gEc at *
        by_cases c : k = a
        · subst c
          simp (disch := omega) only [zu_ne, zu_eq, up_ne, up_at]
          repeat' (first | (with_reducible apply And.intro) | trivial | (exact rk.2.2.2.2.2.2.2.1) | omega)
        · simp (disch := omega) only [zu_ne, zu_eq, up_ne]
          exact rk
      · unfold IB at *; simp (disch := omega) only [up_ne, up_at]; omega
      · exact IA_f hB (by simp (disch := omega) only [up_ne]; omega) (by simp (disch := omega) only [up_ne]) (fun i i0 i1 => by simp (disch := omega) only [up_ne]) hA
      · refine ⟨fun k k0 k1 => ?_, fun k k0 k1 => ?_⟩
        · simp (disch := omega) only [up_ne] at k1
          have nk := hN.1 k k0 k1
          unfold INl at *
          by_cases c : k = a
          · subst c
            simp (disch := omega) only [up_ne, up_at]; omega
          · simp (disch := omega) only [up_ne]
            exact nk
        · simp (disch := omega) only [up_ne] at k1
          have nk := hN.1 k k0 k1
          have ne := hN.2 k k0 k1
          unfold INl at nk
          unfold INe at *
          by_cases c : k = a
          · subst c
            simp (disch := omega) only [up_ne, up_at]
            rw [Int.add_mul]
            have := Int.mul_nonneg (show 0 ≤ b by omega) (show 0 ≤ m 387 (498 + k) by omega)
            omega
          · simp (disch := omega) only [up_ne]
            exact ne
      · refine ⟨fun k k0 k1 => ?_, fun k k0 k1 => ?_⟩
        · simp (disch := omega) only [up_ne] at k1
          have q := hM.1 k k0 k1
          by_cases c : k = m 387 (90 + m 387 (450 + a))
          · simp (disch := omega) only [up_at, up_ne]
            simp (disch := omega) only [c] at *
            omega
          · simp (disch := omega) only [up_ne]
            exact q
        · simp (disch := omega) only [up_ne] at k0
          simp (disch := omega) only [up_ne]
          exact hM.2 k (by omega) k1
      · exact IE_f hB (by simp (disch := omega) only [up_ne]; omega) (by simp (disch := omega) only [up_ne]; omega) (by simp (disch := omega) only [up_ne]) (fun i i0 i1 => by simp (disch := omega) only [up_ne]) hE
      · have ec : ∀ s, s ≠ 2 → zT (fun l => if up (up (up (up (m 387) (522 + a) (m 387 (522 + a) + b)) 6161 (m 387 6161 + b)) (74 + m 387 (90 + m 387 (450 + a))) (m 387 0)) (570 + a) s (570 + l) = 2 then 1 else 0) (m 387 3) = zT (fun l => if m 387 (570 + l) = 2 then 1 else 0) (m 387 3) := by
          intro s hs
          refine zT_congr (fun l l0 l1 => ?_)
          by_cases c : l = a
          · subst c
            simp (disch := omega) only [up_at]
            rw [if_neg hs, if_neg (by omega)]
          · simp (disch := omega) only [up_ne]
        have e2 : zT (fun y => up (up (up (up (m 387) (522 + a) (m 387 (522 + a) + b)) 6161 (m 387 6161 + b)) (74 + m 387 (90 + m 387 (450 + a))) (m 387 0)) (570 + a) 0 (5689 + y)) (m 387 6) = zT (fun y => m 387 (5689 + y)) (m 387 6) := zT_congr (fun y y0 y1 => by simp (disch := omega) only [up_ne])
        unfold gCap
        simp (disch := omega) only [up_ne] at e2 ⊢
        have e1 := ec 0 (by omega)
        try simp (disch := omega) only [up_ne] at e1
        have := (IEc_4 hIF).1
        unfold gCap at this
        first | (rw [e1]; exact this) | (rw [e1, e2]; exact this)
      · refine ⟨IK0_f hB (by simp (disch := omega) only [up_ne]) (by simp (disch := omega) only [up_ne]) (fun i i0 i1 => by simp (disch := omega) only [up_ne]) hIF.2.2.2.1.2.1, fun l l0 l1 => ?_⟩
        simp (disch := omega) only [up_ne] at l1
        have q := hIF.2.2.2.1.2.2 l l0 l1
        by_cases c : l = a
        · subst c
          simp (disch := omega) only [up_at, up_ne]
          omega
        · simp (disch := omega) only [up_ne]
          exact q
      · simp (disch := omega) only [up_ne, up_at]; omega
      · simp (disch := omega) only [up_ne, up_at]; omega
    · have q79 : m 387 (522 + a) + b ≤ m 387 (138 + m 387 (450 + a)) + m 387 (498 + a) := by omega
      refine Inv_w hI (RF_2 hB hN hIx.2.2.2 hF ?_ ?_ ?_ ?_ (fun k k0 k1 k2 => by simp (disch := omega) only [zu_ne]) (fun i i0 => by simp (disch := omega) only [up_ne])) (IF_2 (N := N) hIF (by omega) ?_ ?_ ?_ ?_ ?_ ?_ ?_ ?_ ?_ (fun i i0 => by simp (disch := omega) only [up_ne])) (fun k k0 k1 => by simp (disch := omega) only [zu_ne])
      · unfold RMx; simp (disch := omega) only [zu_ne, zu_eq]
        have h1 := RM_act (a := m 387 (90 + m 387 (450 + a))) hB (by omega) (by omega) hX.1
        have hB1 := (IF_act (a := m 387 (90 + m 387 (450 + a))) hIF (by omega) (by omega)).1.1
        refine RM_f hB1 ?_ ?_ ?_ h1
        · simp (disch := omega) only [up_ne]
        · simp (disch := omega) only [up_ne]
        · intro i i0 i1
          by_cases c : i = 74 + m 387 (90 + m 387 (450 + a))
          · simp (disch := omega) only [up_ne, up_at]
          · simp (disch := omega) only [up_ne]
      · unfold RLx; simp (disch := omega) only [zu_ne, zu_eq]
        refine RL_f (IF_cash (N' := N + 1) (c := m 387 6161 + b) hIF (by omega) (by omega)).1.1 ?_ ?_ ?_ ?_ (RL_cash hB hRL)
        · simp (disch := omega) only [up_ne]
        · intro i i0 i1; simp (disch := omega) only [up_ne]
        · simp (disch := omega) only [up_ne, up_at]
        · simp (disch := omega) only [up_ne]
      · unfold RAx; simp (disch := omega) only [zu_ne]
        exact RA_f hB (by simp (disch := omega) only [up_ne]) (fun i i0 i1 => by simp (disch := omega) only [up_ne]) hRA
      · refine ⟨by simp (disch := omega) only [zu_ne, up_ne]; exact hRN.1, fun k k0 k1 => ?_⟩
        simp (disch := omega) only [up_ne] at k1
        have rk := hRN.2 k k0 k1
        have nk := hN.1 k k0 k1
        unfold INl at nk
        unfold gEc at *
        by_cases c : k = a
        · subst c
          simp (disch := omega) only [zu_ne, zu_eq, up_ne, up_at]
          repeat' (first | (with_reducible apply And.intro) | trivial | (exact rk.2.2.2.2.2.2.2.1) | omega)
        · simp (disch := omega) only [zu_ne, zu_eq, up_ne]
          exact rk
      · unfold IB at *; simp (disch := omega) only [up_ne, up_at]; omega
      · exact IA_f hB (by simp (disch := omega) only [up_ne]; omega) (by simp (disch := omega) only [up_ne]) (fun i i0 i1 => by simp (disch := omega) only [up_ne]) hA
      · refine ⟨fun k k0 k1 => ?_, fun k k0 k1 => ?_⟩
        · simp (disch := omega) only [up_ne] at k1
          have nk := hN.1 k k0 k1
          unfold INl at *
          by_cases c : k = a
          · subst c
            simp (disch := omega) only [up_ne, up_at]; omega
          · simp (disch := omega) only [up_ne]
            exact nk
        · simp (disch := omega) only [up_ne] at k1
          have nk := hN.1 k k0 k1
          have ne := hN.2 k k0 k1
          unfold INl at nk
          unfold INe at *
          by_cases c : k = a
          · subst c
            simp (disch := omega) only [up_ne, up_at]
            rw [Int.add_mul]
            have := Int.mul_nonneg (show 0 ≤ b by omega) (show 0 ≤ m 387 (498 + k) by omega)
            omega
          · simp (disch := omega) only [up_ne]
            exact ne
      · refine ⟨fun k k0 k1 => ?_, fun k k0 k1 => ?_⟩
        · simp (disch := omega) only [up_ne] at k1
          have q := hM.1 k k0 k1
          by_cases c : k = m 387 (90 + m 387 (450 + a))
          · simp (disch := omega) only [up_at, up_ne]
            simp (disch := omega) only [c] at *
            omega
          · simp (disch := omega) only [up_ne]
            exact q
        · simp (disch := omega) only [up_ne] at k0
          simp (disch := omega) only [up_ne]
          exact hM.2 k (by omega) k1
      · exact IE_f hB (by simp (disch := omega) only [up_ne]; omega) (by simp (disch := omega) only [up_ne]; omega) (by simp (disch := omega) only [up_ne]) (fun i i0 i1 => by simp (disch := omega) only [up_ne]) hE
      · have ec : ∀ s, s ≠ 2 → zT (fun l => if up (up (up (up (m 387) (522 + a) (m 387 (522 + a) + b)) 6161 (m 387 6161 + b)) (74 + m 387 (90 + m 387 (450 + a))) (m 387 0)) (570 + a) s (570 + l) = 2 then 1 else 0) (m 387 3) = zT (fun l => if m 387 (570 + l) = 2 then 1 else 0) (m 387 3) := by
          intro s hs
          refine zT_congr (fun l l0 l1 => ?_)
          by_cases c : l = a
          · subst c
            simp (disch := omega) only [up_at]
            rw [if_neg hs, if_neg (by omega)]
          · simp (disch := omega) only [up_ne]
        have e2 : zT (fun y => up (up (up (up (m 387) (522 + a) (m 387 (522 + a) + b)) 6161 (m 387 6161 + b)) (74 + m 387 (90 + m 387 (450 + a))) (m 387 0)) (570 + a) 1 (5689 + y)) (m 387 6) = zT (fun y => m 387 (5689 + y)) (m 387 6) := zT_congr (fun y y0 y1 => by simp (disch := omega) only [up_ne])
        unfold gCap
        simp (disch := omega) only [up_ne] at e2 ⊢
        have e1 := ec 1 (by omega)
        try simp (disch := omega) only [up_ne] at e1
        have := (IEc_4 hIF).1
        unfold gCap at this
        first | (rw [e1]; exact this) | (rw [e1, e2]; exact this)
      · refine ⟨IK0_f hB (by simp (disch := omega) only [up_ne]) (by simp (disch := omega) only [up_ne]) (fun i i0 i1 => by simp (disch := omega) only [up_ne]) hIF.2.2.2.1.2.1, fun l l0 l1 => ?_⟩
        simp (disch := omega) only [up_ne] at l1
        have q := hIF.2.2.2.1.2.2 l l0 l1
        by_cases c : l = a
        · subst c
          simp (disch := omega) only [up_at, up_ne]
          omega
        · simp (disch := omega) only [up_ne]
          exact q
      · simp (disch := omega) only [up_ne, up_at]; omega
      · simp (disch := omega) only [up_ne, up_at]; omega
  · repeat' (first | (with_reducible assumption) | (with_reducible rfl) | (with_reducible apply And.intro) | (with_reducible apply zIn_mk) | (with_reducible apply zLn_mk) | (simp only [zP_up, zP_eq, zP_zP]) | (simp (disch := omega) only [up_ne, up_at]) | (simp (disch := omega) only [zu_ne, zu_eq]) | (simp only [e10, e74, e81, e77]) | ((with_reducible intro _); try (exfalso; omega)) | omega | (with_reducible exact Or.inr trivial) | (with_reducible exact Or.inl trivial) | ((apply r50)) | ((apply r49_72)) | ((apply r190)) | (with_reducible apply k161) | (with_reducible apply k162) | (with_reducible apply k163) | (with_reducible apply k164) | (with_reducible apply k165) | (with_reducible apply k166) | (with_reducible apply k167) | ((refine K _ _ ?_; intro Q' hQ; apply r212)) | (with_reducible apply s171) | (with_reducible apply s172) | (with_reducible apply s173) | (with_reducible apply s174) | (with_reducible apply s175) | (with_reducible apply s176) | ((refine zQe (hQ _ _ ?_ ?_) ?_)) | ((exact zP_ne _ _ (by decide))) | ((exact zP_eq _ _)) | ((exact Inv_c (by omega) (by omega) hI)) | ((exact Inv_s (zSx.rf _) (zSame.rf _) hI)) | ((exact zu_ne _ _ _ (by decide))) | fail)

