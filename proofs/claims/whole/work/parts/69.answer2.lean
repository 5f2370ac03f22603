/-! ANSWER: the call -/
theorem zScr_k2 {k : Nat} (h0 : k = 0 ∨ 163 ≤ k) (h1 : k < 330) : zScr k = false := by
  have nb : ∀ b : Nat, k ≠ b → Nat.beq k b = false := fun b h => by
    cases e : Nat.beq k b
    · rfl
    · exact absurd (Nat.eq_of_beq_eq_true e) h
  have nl : Nat.ble 333 k = false := by
    cases e : Nat.ble 333 k
    · rfl
    · exact absurd (Nat.le_of_ble_eq_true e) (by omega)
  unfold zScr
  rw [nb 13 (by omega), nb 107 (by omega), nb 331 (by omega), nl]
  rfl
theorem RF_g {x : zM} {p w : Int → Int} {a v : Int} (hF : RF x p w) (hI : IX p) (a0 : 0 ≤ a) (a1 : a < p 2) : RF (zupd x 19 a v) (up p (186 + a) v) w := by
  have hB := hI.1
  have hb := hB; unfold IB at hb
  refine ⟨RX_g hF.1 hI a0 a1, ?_, ?_, ?_⟩
  · unfold RYx; simp (disch := omega) only [zu_ne]
    exact RY_f (by simp (disch := omega) only [up_ne]) (by simp (disch := omega) only [up_ne]) (fun i i0 i1 => by simp (disch := omega) only [up_ne]) hF.2.1
  · unfold RTx; simp (disch := omega) only [zu_ne]
    exact RT_f hB (by simp (disch := omega) only [up_ne]) (by simp (disch := omega) only [up_ne]) (fun i i0 i1 => by simp (disch := omega) only [up_ne]) hF.2.2.1
  · unfold RPx; simp (disch := omega) only [zu_ne]
    exact RP_f (fun i i0 i1 => by simp (disch := omega) only [up_ne]) hF.2.2.2
theorem t_answer {d dM N : Nat} {a : Int} {x m : zM} {Q : Int → zM → zM → Prop} (hd : 40 ≤ d) (hdM : 40 ≤ dM) (hNN : N ≤ 600) (hI : Inv N x m) (K : ∀ q x', MOK N dM 211 [zr 386, zi a] q x' m → Q q x' m) : WPc d 126 [zr 0, zi a] 403 [] x m 403 [] Q := by
  obtain ⟨hF, hIF, hK, hO⟩ := id hI
  have hX := hF.1
  have hIx := hIF.1
  have hB := hIx.1
  have hA := hIx.2.1
  have hN := hIx.2.2.1
  have hM := hIF.2.1
  have hE := hIF.2.2.1
  have hb := hB; unfold IB at hb
  have hRL := hX.2.1
  have hRA := hX.2.2.1
  have hRN := hX.2.2.2.1
  have e10 : x 1 0 = m 387 0 := hX.1.1
  have e11 : x 1 1 = m 387 1 := hX.1.2.1
  apply r126
  by_cases u : 0 ≤ a ∧ a < m 387 2
  · obtain ⟨ua, ub⟩ := u
    have hr := hRA.2.1 a ua ub
    have ha := hA.1 a ua ub
    have ha' := ha
    unfold IAa at ha'
    have hgb := gAns_bd (m 387) a
    have hib := gInt_bd ha
    have e19 : x 19 a = m 387 (186 + a) := hr.2.2.2.2.1
    have hc0 := hIF.2.2.2.2.2.1.1
    have room : m 387 (186 + a) ≠ 0 → m 387 3 ≤ m 387 2 - 1 := IK_room hB hIF.2.2.2.1.2 ua ub
    have g0 : gAns (m 387) a = 0 → m 387 (138 + a) ≤ m 387 6161 := gAns_0
    have hI1 : IX (up (m 387) (186 + a) (gAns (m 387) a)) := IX_g hIx ua ub hgb.1 hgb.2
    have hX1 : ∀ xB, zSx x xB → RX (zupd xB 19 a (gAns (m 387) a)) (up (m 387) (186 + a) (gAns (m 387) a)) := fun xB h => RX_g (RX_s h hX) hIx ua ub
    have hq1 : ∀ i, i < 186 ∨ 210 ≤ i → up (m 387) (186 + a) (gAns (m 387) a) i = m 387 i := fun i hi => up_ne (by omega)
    have ub1 : a < up (m 387) (186 + a) (gAns (m 387) a) 2 := by rw [up_ne (by omega)]; exact ub
    repeat' (first | (with_reducible assumption) | (with_reducible rfl) | (with_reducible apply And.intro) | (with_reducible apply zIn_mk) | (with_reducible apply zLn_mk) | (simp only [zP_up, zP_eq, zP_zP]) | (simp (disch := omega) only [up_ne, up_at]) | (simp only [hpC, hpB]) | (simp only [e7C, e17C, ekC, e1C]) | (simp (disch := omega) only [zu_ne, zu_eq]) | ((with_reducible intro _); try (exfalso; omega)) | omega | (with_reducible exact Or.inr trivial) | (with_reducible exact Or.inl trivial) | ((refine c41 (p := m 387) (by omega) hX hIx ua ub ?_; intro xB hB1)) | ((apply r43)) | ((refine c40 (p := up (m 387) (186 + a) (gAns (m 387) a)) (by omega) (hX1 xB hB1) hI1 ua ub1 ?_; intro xC hC1; rw [gInt_f hIx ua ub hq1]; have hXC := RX_s hC1 (hX1 xB hB1); have rc := hXC.2.2.1.2.1 a ua ub1; simp (disch := omega) only [up_ne] at rc; have eLC : xC 72 0 = m 387 3 := hXC.2.2.2.1.1.trans (up_ne (by omega)); have e7C : xC 7 7 = m 387 6161 := hXC.2.1.2.2.2.1.trans (up_ne (by omega)); have e17C : xC 17 a = m 387 (138 + a) := rc.2.2.1; have e1C : (zupd xB 19 a (gAns (m 387) a)) 1 0 = m 387 0 := (hX1 xB hB1).1.1.trans (up_ne (by omega)); have ekC : xB 1 0 = m 387 0 := (RX_s hB1 hX).1.1)) | ((refine c48 (p := m 387) (L := m 387 3) (by omega) eLC (by omega) (by omega) ua (by omega) ha hib.1 hib.2 rc.1 rc.2.1 rc.2.2.1 rc.2.2.2.1 rfl rfl rfl ?_; unfold xAdd)) | ((refine s209 (p := m 387) (by omega) rfl hIx ua ub ?_; intro mB hT hpB)) | ((refine s206 (p := m 387) (by omega) hpB hIx ua ub ?_; intro mC hT2 hpC; replace hT := hT.tr hT2)) | (with_reducible apply r211_c139) | ((exact (zP_ne _ _ (by decide)).trans (hT.1 2000 (by decide) (by decide) (by decide)))) | (with_reducible apply k161) | (with_reducible apply k162) | (with_reducible apply k163) | (with_reducible apply k164) | (with_reducible apply k165) | (with_reducible apply k166) | (with_reducible apply k167) | ((refine K _ _ ?_; intro Q' hQ; apply r211)) | (with_reducible apply s171) | (with_reducible apply s172) | (with_reducible apply s173) | (with_reducible apply s174) | (with_reducible apply s175) | (with_reducible apply s176) | ((refine zQe (hQ _ _ ?_ ?_) ?_)) | ((exact zP_ne _ _ (by decide))) | ((exact zP_eq _ _)) | ((exact Inv_c (by omega) (by omega) hI)) | ((exact Inv_s (zSx.rf _) (zSame.rf _) hI)) | ((exact zu_ne _ _ _ (by decide))) | fail)
    · rename_i hv _
      have hm9 : mC 390 = m 390 := hT.1 390 (by decide) (by decide) (by decide)
      refine Inv_w (Inv_s0 (zSx.rf x) hT hI) ?_ ?_ ?_
      · rw [hm9]; exact RF_g (RF_s hB1 hF) hIx ua ub
      · rw [hm9]
        refine IF_2 (N := N) hIF (by omega) hI1.1 hI1.2.1 hI1.2.2.1 (IM_f hB (by simp (disch := omega) only [up_ne]; omega) (by simp (disch := omega) only [up_ne]) (fun i i0 i1 => by simp (disch := omega) only [up_ne]) hM) (IE_f hB (by simp (disch := omega) only [up_ne]; omega) (by simp (disch := omega) only [up_ne]; omega) (by simp (disch := omega) only [up_ne]) (fun i i0 i1 => by simp (disch := omega) only [up_ne]) hE) ?_ ?_ ?_ ?_ (fun i i0 => by simp (disch := omega) only [up_ne])
        · rw [gCap_f (p := m 387) hB (by simp (disch := omega) only [up_ne]) (by simp (disch := omega) only [up_ne]) (fun i i0 i1 => by simp (disch := omega) only [up_ne]) (fun i i0 i1 => by simp (disch := omega) only [up_ne])]
          simp (disch := omega) only [up_ne]; exact (IEc_4 hIF).1
        · have hk := hIF.2.2.2.1.2.1
          refine ⟨?_, fun l l0 l1 => ?_⟩
          rotate_left
          · simp (disch := omega) only [up_ne] at l1 ⊢
            exact hIF.2.2.2.1.2.2 l l0 l1
          unfold IK0 at *
          simp (disch := omega) only [up_ne]
          rw [← hk]
          refine zT_congr (fun j j0 j1 => ?_)
          by_cases c : j = a
          · subst c; simp (disch := omega) only [up_at]; rw [if_neg (by omega), if_neg (by omega)]
          · simp (disch := omega) only [up_ne]
        · simp (disch := omega) only [up_ne]; exact hc0.1
        · simp (disch := omega) only [up_ne]; omega
      · intro k k0 k1
        rw [zu_ne _ _ _ (by omega)]; exact hB1 k (zScr_k2 k0 k1)
    · have hm9 : mC 390 = m 390 := hT.1 390 (by decide) (by decide) (by decide)
      have hv : gAns (m 387) a = 0 := by omega
      have e186 : m 387 (186 + a) = -1 := by omega
      have hroom := room (by omega)
      obtain ⟨Q0, hQ⟩ : ∃ Q0 : Int → Int, Q0 = up (up (up (up (up (up (up (up (up (up (up (up (up (up (m 387) (186 + a) (gAns (m 387) a)) 3 (m 387 3 + 1)) (210 + a) (m 387 3)) (450 + m 387 3) a) (474 + m 387 3) (m 387 0)) (498 + m 387 3) (gInt (m 387) a)) (522 + m 387 3) 0) (522 + 24 + m 387 3) 0) (522 + 24 + 24 + m 387 3) 0) (522 + 24 + 24 + 24 + m 387 3) 0) (522 + 24 + 24 + 24 + 24 + m 387 3) 0) (522 + 24 + 24 + 24 + 24 + 24 + m 387 3) 0) (522 + 24 + 24 + 24 + 24 + 24 + 24 + m 387 3) 0) 6161 (m 387 6161 - m 387 (138 + a)) := ⟨_, rfl⟩
      rw [← hQ]
      have qo : ∀ i, (i < 186 ∧ i ≠ 3) ∨ (234 ≤ i ∧ i < 450) ∨ (690 ≤ i ∧ i ≠ 6161) → Q0 i = m 387 i := fun i hi => by rw [hQ]; simp (disch := omega) only [up_ne]
      have q3 : Q0 3 = m 387 3 + 1 := by rw [hQ]; simp (disch := omega) only [up_ne, up_at]
      have qc : Q0 6161 = m 387 6161 - m 387 (138 + a) := by rw [hQ]; simp (disch := omega) only [up_ne, up_at]
      have qga : Q0 (186 + a) = gAns (m 387) a := by rw [hQ]; simp (disch := omega) only [up_ne, up_at]
      have qla : Q0 (210 + a) = m 387 3 := by rw [hQ]; simp (disch := omega) only [up_ne, up_at]
      have qg : ∀ k, 0 ≤ k → k < 24 → k ≠ a → Q0 (186 + k) = m 387 (186 + k) := fun k k0 k1 k2 => by rw [hQ]; simp (disch := omega) only [up_ne]
      have ql : ∀ k, 0 ≤ k → k < 24 → k ≠ a → Q0 (210 + k) = m 387 (210 + k) := fun k k0 k1 k2 => by rw [hQ]; simp (disch := omega) only [up_ne]
      have n450 : Q0 (450 + m 387 3) = a := by rw [hQ]; simp (disch := omega) only [up_ne, up_at]
      have n474 : Q0 (474 + m 387 3) = m 387 0 := by rw [hQ]; simp (disch := omega) only [up_ne, up_at]
      have n498 : Q0 (498 + m 387 3) = gInt (m 387) a := by rw [hQ]; simp (disch := omega) only [up_ne, up_at]
      have nz : Q0 (522 + m 387 3) = 0 ∧ Q0 (546 + m 387 3) = 0 ∧ Q0 (570 + m 387 3) = 0 ∧ Q0 (594 + m 387 3) = 0 ∧ Q0 (618 + m 387 3) = 0 ∧ Q0 (642 + m 387 3) = 0 ∧ Q0 (666 + m 387 3) = 0 := by
        rw [hQ]; refine ⟨?_, ?_, ?_, ?_, ?_, ?_, ?_⟩ <;> simp (disch := omega) only [up_ne, up_at]
      have no : ∀ k, 0 ≤ k → k < 24 → k ≠ m 387 3 → Q0 (450 + k) = m 387 (450 + k) ∧ Q0 (474 + k) = m 387 (474 + k) ∧ Q0 (498 + k) = m 387 (498 + k) ∧ Q0 (522 + k) = m 387 (522 + k) ∧ Q0 (546 + k) = m 387 (546 + k) ∧ Q0 (570 + k) = m 387 (570 + k) ∧ Q0 (594 + k) = m 387 (594 + k) ∧ Q0 (618 + k) = m 387 (618 + k) ∧ Q0 (642 + k) = m 387 (642 + k) ∧ Q0 (666 + k) = m 387 (666 + k) := by
        intro k k0 k1 k2
        rw [hQ]; refine ⟨?_, ?_, ?_, ?_, ?_, ?_, ?_, ?_, ?_, ?_⟩ <;> simp (disch := omega) only [up_ne]
      clear hQ
      have q1 : ∀ i, (i < 186 ∧ i ≠ 3) ∨ (234 ≤ i ∧ i < 450) ∨ (690 ≤ i ∧ i ≠ 6161) → Q0 i = up (m 387) (186 + a) (gAns (m 387) a) i := fun i hi => by rw [qo i hi, up_ne (by omega)]
      have qe : ∀ b i, 0 ≤ b → b < 24 → gEc Q0 b i = gEc (m 387) b i := fun b i b0 b1 => gEc_f b0 b1 (fun j j0 j1 => qo j (by omega))
      have hk := hIF.2.2.2.1.2
      refine Inv_w (Inv_s0 (zSx.rf x) hT hI) ?_ ?_ ?_
      · rw [hm9]
        refine RF_2 hI1.1 hI1.2.2.1 hI1.2.2.2 (RF_s hC1 (RF_g (RF_s hB1 hF) hIx ua ub)) ?_ ?_ ?_ ?_ (fun k k0 k1 k2 => by simp (disch := omega) only [zu_ne]) (fun i i0 => q1 i (by omega))
        · unfold RMx; simp (disch := omega) only [zu_ne]
          exact RM_f hI1.1 (q1 _ (by omega)) (q1 _ (by omega)) (fun i i0 i1 => q1 i (by omega)) hXC.1
        · unfold RLx; simp (disch := omega) only [zu_ne, zu_eq]
          have hB2 : IB (up (up (m 387) (186 + a) (gAns (m 387) a)) 6161 (m 387 6161 - m 387 (138 + a))) := by unfold IB at *; simp (disch := omega) only [up_ne]; omega
          refine RL_f hB2 ?_ ?_ ?_ ?_ (RL_cash hI1.1 hXC.2.1)
          · rw [up_ne (by omega)]; exact q1 _ (by omega)
          · intro i i0 i1; rw [up_ne (by omega)]; exact q1 _ (by omega)
          · rw [qc, up_eq]
          · rw [up_ne (by omega)]; exact q1 _ (by omega)
        · have hg := hXC.2.2.1
          refine ⟨by simp (disch := omega) only [zu_ne]; rw [q1 _ (by omega)]; exact hg.1, fun k k0 k1 => ?_, fun k j k0 k1 j0 j1 j2 => ?_⟩
          · rw [qo 2 (by omega)] at k1
            have rk := hg.2.1 k k0 (by rw [up_ne (by omega)]; exact k1)
            simp (disch := omega) only [zu_ne, zu_eq]
            rw [q1 (90 + k) (by omega), q1 (114 + k) (by omega), q1 (138 + k) (by omega), q1 (162 + k) (by omega), q1 (234 + k) (by omega)]
            by_cases c : k = a
            · subst c
              rw [up_eq] at rk
              rw [qga, qla, up_eq]
              exact ⟨rk.1, rk.2.1, rk.2.2.1, rk.2.2.2.1, rk.2.2.2.2.1, rfl, rk.2.2.2.2.2.2⟩
            · rw [qg k k0 (by omega) c, ql k k0 (by omega) c, up_ne c]
              rw [up_ne (show 186 + k ≠ 186 + a by omega), up_ne (show 210 + k ≠ 186 + a by omega)] at rk
              exact rk
          · rw [qo 2 (by omega)] at k1
            have aa := hA.1 k k0 k1
            unfold IAa at aa
            rw [qo (234 + k) (by omega)] at j2
            have rk := hg.2.2 k j k0 (by rw [up_ne (by omega)]; exact k1) j0 j1 (by rw [up_ne (by omega)]; exact j2)
            simp (disch := omega) only [zu_ne]
            rw [q1 (258 + 4 * k + j) (by omega), q1 (354 + 4 * k + j) (by omega)]
            exact rk
        · have hg := hXC.2.2.2.1
          refine ⟨?_, fun k k0 k1 => ?_⟩
          · simp (disch := omega) only [zu_ne, zu_eq, up_at]; rw [q3]
          · rw [q3] at k1
            simp (disch := omega) only [zu_ne, zu_eq]
            by_cases c : k = m 387 3
            · subst c
              rw [n450, n474, n498, nz.1, nz.2.1, nz.2.2.1, nz.2.2.2.1, nz.2.2.2.2.1, nz.2.2.2.2.2.1, nz.2.2.2.2.2.2, qo (90 + a) (by omega), qo (114 + a) (by omega), qo (138 + a) (by omega), qo (162 + a) (by omega), qe a _ ua (by omega)]
              simp only [up_eq, and_self]
            · have rk := hg.2 k k0 (by rw [up_ne (by omega)]; omega)
              have nk := hN.1 k k0 (by omega)
              unfold INl at nk
              obtain ⟨o1, o2, o3, o4, o5, o6, o7, o8, o9, o10⟩ := no k k0 (by omega) c
              simp (disch := omega) only [up_ne]
              rw [o1, o2, o3, o4, o5, o6, o7, o8, o9, o10, qo (90 + m 387 (450 + k)) (by omega), qo (114 + m 387 (450 + k)) (by omega), qo (138 + m 387 (450 + k)) (by omega), qo (162 + m 387 (450 + k)) (by omega), qe _ _ (by omega) (by omega)]
              simp (disch := omega) only [up_ne] at rk
              have ge : gEc (up (m 387) (186 + a) (gAns (m 387) a)) (m 387 (450 + k)) (m 387 (498 + k)) = gEc (m 387) (m 387 (450 + k)) (m 387 (498 + k)) := gEc_f (by omega) (by omega) (fun j j0 j1 => up_ne (by omega))
              rw [ge] at rk
              exact rk
      · rw [hm9]
        have hIA : IA Q0 := by
          refine ⟨fun k k0 k1 => ?_, fun k j k0 k1 j0 j1 => ?_⟩
          · rw [qo 2 (by omega)] at k1
            have aa := hA.1 k k0 k1
            unfold IAa at *
            rw [qo (90 + k) (by omega), qo 1 (by omega), qo (114 + k) (by omega), qo (138 + k) (by omega), qo (162 + k) (by omega), qo (234 + k) (by omega)]
            by_cases c : k = a
            · subst c; rw [qga, qla]; omega
            · rw [qg k k0 (by omega) c, ql k k0 (by omega) c]; exact aa
          · rw [qo 2 (by omega)] at k1
            have aa := hA.1 k k0 k1
            unfold IAa at aa
            rw [qo (234 + k) (by omega)] at j1
            have bb := hA.2 k j k0 k1 j0 j1
            unfold IAb at *
            rw [qo (258 + 4 * k + j) (by omega), qo (354 + 4 * k + j) (by omega), qo 1 (by omega)]
            exact bb
        have hIN : IN Q0 := by
          refine ⟨fun k k0 k1 => ?_, fun k k0 k1 => ?_⟩
          · rw [q3] at k1
            unfold INl
            by_cases c : k = m 387 3
            · subst c
              rw [n450, n474, n498, nz.1, nz.2.1, nz.2.2.1, nz.2.2.2.1, nz.2.2.2.2.1, nz.2.2.2.2.2.1, qo (138 + a) (by omega), qo 2 (by omega), qo 0 (by omega)]
              omega
            · have nk := hN.1 k k0 (by omega)
              unfold INl at nk
              obtain ⟨o1, o2, o3, o4, o5, o6, o7, o8, o9, o10⟩ := no k k0 (by omega) c
              rw [o1, o2, o3, o4, o5, o6, o7, o8, o9, qo (138 + m 387 (450 + k)) (by omega), qo 2 (by omega), qo 0 (by omega)]
              exact nk
          · rw [q3] at k1
            unfold INe
            by_cases c : k = m 387 3
            · subst c
              rw [nz.1, nz.2.2.2.2.2.2, Int.zero_mul, Int.zero_mul]
              exact ⟨by omega, by omega⟩
            · have nk := hN.1 k k0 (by omega)
              have ne := hN.2 k k0 (by omega)
              unfold INl at nk
              unfold INe at ne
              obtain ⟨o1, o2, o3, o4, o5, o6, o7, o8, o9, o10⟩ := no k k0 (by omega) c
              rw [o1, o3, o4, o10, qo (138 + m 387 (450 + k)) (by omega)]
              exact ne
        refine IF_2 (N := N) hIF (by omega) ?_ hIA hIN (IM_f hB (by rw [qo 0 (by omega)]; omega) (qo 1 (by omega)) (fun i i0 i1 => qo i (by omega)) hM) (IE_f hB (by rw [qo 0 (by omega)]; omega) (by rw [qo 1 (by omega)]; omega) (qo 4 (by omega)) (fun i i0 i1 => qo i (by omega)) hE) ?_ ?_ ?_ ?_ (fun i i0 => qo i (by omega))
        · unfold IB at *; rw [q3, qo 0 (by omega), qo 1 (by omega), qo 2 (by omega), qo 4 (by omega), qo 5 (by omega), qo 6 (by omega), qo 7 (by omega), qo 8 (by omega)]; omega
        · have h4 := (IEc_4 hIF).1
          unfold gCap at *
          rw [q3, zT_s (by omega), if_neg (by omega), qo 4 (by omega), qo 6 (by omega)]
          have e1 : zT (fun l => if Q0 (570 + l) = 2 then 1 else 0) (m 387 3) = zT (fun l => if m 387 (570 + l) = 2 then 1 else 0) (m 387 3) := zT_congr (fun l l0 l1 => by (try dsimp only); rw [(no l l0 (by omega) (by omega)).2.2.2.2.2.1])
          have e2 : zT (fun y => Q0 (5689 + y)) (m 387 6) = zT (fun y => m 387 (5689 + y)) (m 387 6) := zT_congr (fun y y0 y1 => qo _ (by omega))
          rw [e1, e2]; omega
        · refine ⟨?_, fun l l0 l1 => ?_⟩
          rotate_left
          · rw [q3] at l1
            by_cases c : l = m 387 3
            · subst c
              rw [nz.2.1]; omega
            · obtain ⟨o1, o2, o3, o4, o5, o6, o7, o8, o9, o10⟩ := no l l0 (by omega) c
              rw [o5, o6]
              exact hk.2 l l0 (by omega)
          replace hk := hk.1
          unfold IK0 at *
          rw [q3, qo 2 (by omega)]
          have e := zT_one (f := fun j => if Q0 (186 + j) = 0 then 1 else 0) (g := fun j => if m 387 (186 + j) = 0 then 1 else 0) (n := m 387 2) ua ub (fun j j0 j1 jn => by (try dsimp only); rw [qg j j0 (by omega) jn])
          have f1 : (if Q0 (186 + a) = 0 then (1 : Int) else 0) = 1 := by rw [qga, hv, if_pos rfl]
          have f2 : (if m 387 (186 + a) = 0 then (1 : Int) else 0) = 0 := by rw [if_neg (by omega)]
          try dsimp only at e
          rw [f1, f2] at e
          omega
        · rw [qc]; omega
        · rw [qc]; omega
      · intro k k0 k1
        simp (disch := omega) only [zu_ne]
        rw [hC1 k (zScr_k2 k0 k1), zu_ne _ _ _ (by omega)]; exact hB1 k (zScr_k2 k0 k1)
  · repeat' (first | (with_reducible assumption) | (with_reducible rfl) | (with_reducible apply And.intro) | (with_reducible apply zIn_mk) | (with_reducible apply zLn_mk) | (simp only [zP_up, zP_eq, zP_zP]) | (simp (disch := omega) only [up_ne, up_at]) | (simp only [hpC, hpB]) | (simp only [e7C, e17C, ekC, e1C]) | (simp (disch := omega) only [zu_ne, zu_eq]) | ((with_reducible intro _); try (exfalso; omega)) | omega | (with_reducible exact Or.inr trivial) | (with_reducible exact Or.inl trivial) | ((refine c41 (p := m 387) (by omega) hX hIx ua ub ?_; intro xB hB1)) | ((apply r43)) | ((refine c40 (p := up (m 387) (186 + a) (gAns (m 387) a)) (by omega) (hX1 xB hB1) hI1 ua ub1 ?_; intro xC hC1; rw [gInt_f hIx ua ub hq1]; have hXC := RX_s hC1 (hX1 xB hB1); have rc := hXC.2.2.1.2.1 a ua ub1; simp (disch := omega) only [up_ne] at rc; have eLC : xC 72 0 = m 387 3 := hXC.2.2.2.1.1.trans (up_ne (by omega)); have e7C : xC 7 7 = m 387 6161 := hXC.2.1.2.2.2.1.trans (up_ne (by omega)); have e17C : xC 17 a = m 387 (138 + a) := rc.2.2.1; have e1C : (zupd xB 19 a (gAns (m 387) a)) 1 0 = m 387 0 := (hX1 xB hB1).1.1.trans (up_ne (by omega)); have ekC : xB 1 0 = m 387 0 := (RX_s hB1 hX).1.1)) | ((refine c48 (p := m 387) (L := m 387 3) (by omega) eLC (by omega) (by omega) ua (by omega) ha hib.1 hib.2 rc.1 rc.2.1 rc.2.2.1 rc.2.2.2.1 rfl rfl rfl ?_; unfold xAdd)) | ((refine s209 (p := m 387) (by omega) rfl hIx ua ub ?_; intro mB hT hpB)) | ((refine s206 (p := m 387) (by omega) hpB hIx ua ub ?_; intro mC hT2 hpC; replace hT := hT.tr hT2)) | (with_reducible apply r211_c139) | ((exact (zP_ne _ _ (by decide)).trans (hT.1 2000 (by decide) (by decide) (by decide)))) | (with_reducible apply k161) | (with_reducible apply k162) | (with_reducible apply k163) | (with_reducible apply k164) | (with_reducible apply k165) | (with_reducible apply k166) | (with_reducible apply k167) | ((refine K _ _ ?_; intro Q' hQ; apply r211)) | (with_reducible apply s171) | (with_reducible apply s172) | (with_reducible apply s173) | (with_reducible apply s174) | (with_reducible apply s175) | (with_reducible apply s176) | ((refine zQe (hQ _ _ ?_ ?_) ?_)) | ((exact zP_ne _ _ (by decide))) | ((exact zP_eq _ _)) | ((exact Inv_c (by omega) (by omega) hI)) | ((exact Inv_s (zSx.rf _) (zSame.rf _) hI)) | ((exact zu_ne _ _ _ (by decide))) | fail)

