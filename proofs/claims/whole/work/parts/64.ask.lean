/-! ASK, BACK -/
theorem s203l {d : Nat} {a v w : Int} {p : Int → Int} {x m : zM} {Q : Int → zM → zM → Prop} (hp : m 387 = p) (hB : IB p) (hA : IA p) (a0 : 0 ≤ a) (a1 : a < p 2) (hY : gHasB p a v → WP d 203 29 [(0, zr 386), (1, zi a), (2, zi v), (3, zi w), (4, zi 1), (5, zi (p (234 + a)))] [] 403 [] x m 403 [] Q) (hN : ¬ gHasB p a v → WP d 203 29 [(0, zr 386), (1, zi a), (2, zi v), (3, zi w), (4, zi 0), (5, zi (p (234 + a)))] [] 403 [] x m 403 [] Q) : WP d 203 29 [(0, zr 386), (1, zi a), (2, zi v), (3, zi w), (4, zi 0), (5, zi 0)] [] 403 [] x m 403 [] Q := by
  have hb := hB; unfold IB at hb
  have ha := hA.1 a a0 a1
  unfold IAa at ha
  obtain ⟨G, hG⟩ : ∃ G : Prop, G = gHasB p a v := ⟨_, rfl⟩
  rw [← hG] at hY hN
  have loop : ∀ j, 0 ≤ j → j ≤ p (234 + a) → ∀ t, (t = 0 ∨ t = 1) → (t = 1 → G) → (t = 0 → ∀ k, 0 ≤ k → k < j → p (258 + 4 * a + k) ≠ v) → WP d 203 29 [(0, zr 386), (1, zi a), (2, zi v), (3, zi w), (4, zi t), (5, zi j)] [] 403 [] x m 403 [] Q := by
    refine zdown _ _ ?_
    intro j j0 j1 ih t ht h1 h0
    by_cases c : j < p (234 + a)
    · apply r203_c29
      simp only [hp]
      repeat' (first | (with_reducible assumption) | (with_reducible rfl) | (with_reducible apply And.intro) | (with_reducible apply zIn_mk) | (with_reducible apply zLn_mk) | ((with_reducible intro _); try (exfalso; omega)) | omega | (with_reducible exact Or.inr trivial) | (with_reducible exact Or.inl trivial) | ((refine ih c _ (Or.inr rfl) (fun _ => h1 (by omega)) (fun e => absurd e (by decide)))) | ((refine ih c _ (Or.inr rfl) (fun _ => by rw [hG]; exact ⟨j, j0, c, by omega⟩) (fun e => absurd e (by decide)))) | ((refine ih c _ (Or.inl rfl) (fun e => absurd e (by decide)) (fun _ k k0 k1 => (if e : k = j then (by rw [e]; omega) else h0 (by omega) k k0 (by omega))))) | fail)
    · rw [show j = p (234 + a) by omega]
      rcases ht with e | e
      · rw [e]; refine hN ?_
        rw [hG]
        rintro ⟨k, k0, k1, k2⟩
        exact h0 e k k0 (by omega) k2
      · rw [e]; exact hY (h1 e)
  exact loop 0 (by omega) (by omega) 0 (Or.inl rfl) (fun e => by omega) (fun _ k k0 k1 => by omega)
theorem t_ask {d dM N : Nat} {a b c : Int} {x m : zM} {Q : Int → zM → zM → Prop} (hd : 40 ≤ d) (hdM : 40 ≤ dM) (hNN : N ≤ 600) (hI : Inv N x m) (K : ∀ q x', MOK N dM 202 [zr 386, zi a, zi b, zi c] q x' m → Q q x' m) : WPc d 123 [zr 0, zi a, zi b, zi c] 403 [] x m 403 [] Q := by
  obtain ⟨hF, hIF, hK, hO⟩ := id hI
  have hX := hF.1
  have hIx := hIF.1
  have hB := hIx.1
  have hA := hIx.2.1
  have hN := hIx.2.2.1
  have hM := hIF.2.1
  have hE := hIF.2.2.1
  have hb := hB; unfold IB at hb
  have hRL := hX.2.1
  have hRA := hX.2.2.1
  have hRN := hX.2.2.2.1
  have e10 : x 1 0 = m 387 0 := hX.1.1
  have e11 : x 1 1 = m 387 1 := hX.1.2.1
  apply r123
  repeat' (first | (with_reducible assumption) | (with_reducible rfl) | (with_reducible apply And.intro) | (with_reducible apply zIn_mk) | (with_reducible apply zLn_mk) | (simp only [zP_up, zP_eq, zP_zP]) | (simp (disch := omega) only [up_ne, up_at]) | (simp only [show x 14 0 = m 387 2 from hRA.1]) | ((with_reducible intro _); try (exfalso; omega)) | omega | (with_reducible exact Or.inr trivial) | (with_reducible exact Or.inl trivial) | ((apply r2)) | (with_reducible apply k161) | (with_reducible apply k162) | (with_reducible apply k163) | (with_reducible apply k164) | (with_reducible apply k165) | (with_reducible apply k166) | (with_reducible apply k167) | ((refine K _ _ ?_; intro Q' hQ; apply r202)) | (with_reducible apply s171) | (with_reducible apply s172) | (with_reducible apply s173) | (with_reducible apply s174) | (with_reducible apply s175) | (with_reducible apply s176) | ((refine zQe (hQ _ _ ?_ ?_) ?_)) | ((exact zP_ne _ _ (by decide))) | ((exact zP_eq _ _)) | ((exact Inv_c (by omega) (by omega) hI)) | ((exact Inv_s (zSx.rf _) (zSame.rf _) hI)) | ((exact zu_ne _ _ _ (by decide))) | fail)
  · rename_i _ _ _ _ _ _ _ _ _ _ _ _ _ _ _
    have eA : x 14 0 = m 387 2 := hRA.1
    have hc0 := hIF.2.2.2.2.2.1.1
    have qa : ∀ l, 0 ≤ l → l < m 387 3 → 0 ≤ m 387 (450 + l) ∧ m 387 (450 + l) < m 387 2 := fun l l0 l1 => by have n := hN.1 l l0 l1; unfold INl at n; omega
    refine Inv_w hI (RF_2 hB hN hIx.2.2.2 hF ?_ ?_ ?_ ?_ (fun k k0 k1 k2 => by simp (disch := omega) only [zu_ne]) (fun i i0 => by simp (disch := omega) only [up_ne])) (IF_2 (N := N) hIF (by omega) ?_ ?_ ?_ ?_ ?_ ?_ ?_ ?_ ?_ (fun i i0 => by simp (disch := omega) only [up_ne])) (fun k k0 k1 => by simp (disch := omega) only [zu_ne])
    · unfold RMx; simp (disch := omega) only [zu_ne]
      exact RM_f hB (by simp (disch := omega) only [up_ne]) (by simp (disch := omega) only [up_ne]) (fun i i0 i1 => by simp (disch := omega) only [up_ne]) hX.1
    · unfold RLx; simp (disch := omega) only [zu_ne]
      exact RL_f hB (by simp (disch := omega) only [up_ne]) (fun i i0 i1 => by simp (disch := omega) only [up_ne]) (by simp (disch := omega) only [up_ne]) (by simp (disch := omega) only [up_ne]) hRL
    · refine ⟨?_, fun k k0 k1 => ?_, fun k j k0 k1 j0 j1 j2 => ?_⟩
      · simp (disch := omega) only [zu_ne, zu_eq, up_at]
      · rw [up_eq] at k1
        simp (disch := omega) only [zu_ne, zu_eq]
        by_cases c : k = m 387 2
        · simp (disch := omega) only [up_at, up_ne]
          exact ⟨trivial, trivial, trivial, trivial, trivial, trivial, trivial⟩
        · simp (disch := omega) only [up_ne]
          exact hRA.2.1 k k0 (by omega)
      · rw [up_eq] at k1
        by_cases c : k = m 387 2
        · simp (disch := omega) only [up_at, up_ne] at j2; omega
        · have aa := hA.1 k k0 (by omega)
          unfold IAa at aa
          simp (disch := omega) only [up_ne] at j2
          simp (disch := omega) only [up_ne, zu_ne]
          exact hRA.2.2 k j k0 (by omega) j0 j1 j2
    · refine ⟨by simp (disch := omega) only [zu_ne, up_ne]; exact hRN.1, fun k k0 k1 => ?_⟩
      simp (disch := omega) only [up_ne] at k1
      have q := qa k k0 k1
      unfold gEc
      simp (disch := omega) only [zu_ne, up_ne]
      exact hRN.2 k k0 k1
    · unfold IB at *; simp (disch := omega) only [up_ne, up_at]; omega
    · refine ⟨fun k k0 k1 => ?_, fun k j k0 k1 j0 j1 => ?_⟩
      · rw [up_eq] at k1
        unfold IAa
        by_cases c : k = m 387 2
        · simp (disch := omega) only [up_at, up_ne]; omega
        · simp (disch := omega) only [up_ne]
          exact hA.1 k k0 (by omega)
      · rw [up_eq] at k1
        unfold IAb
        by_cases c : k = m 387 2
        · simp (disch := omega) only [up_at, up_ne] at j1; omega
        · have aa := hA.1 k k0 (by omega)
          unfold IAa at aa
          simp (disch := omega) only [up_ne] at j1
          simp (disch := omega) only [up_ne]
          exact hA.2 k j k0 (by omega) j0 j1
    · refine ⟨fun k k0 k1 => ?_, fun k k0 k1 => ?_⟩
      · simp (disch := omega) only [up_ne] at k1
        have q := qa k k0 k1
        have n := hN.1 k k0 k1
        unfold INl at *
        simp (disch := omega) only [up_ne, up_eq]
        omega
      · simp (disch := omega) only [up_ne] at k1
        have q := qa k k0 k1
        have n := hN.2 k k0 k1
        unfold INe at *
        simp (disch := omega) only [up_ne]
        exact n
    · exact IM_f hB (by simp (disch := omega) only [up_ne]; omega) (by simp (disch := omega) only [up_ne]) (fun i i0 i1 => by simp (disch := omega) only [up_ne]) hM
    · exact IE_f hB (by simp (disch := omega) only [up_ne]; omega) (by simp (disch := omega) only [up_ne]; omega) (by simp (disch := omega) only [up_ne]) (fun i i0 i1 => by simp (disch := omega) only [up_ne]) hE
    · rw [gCap_f (p := m 387) hB (by simp (disch := omega) only [up_ne]) (by simp (disch := omega) only [up_ne]) (fun i i0 i1 => by simp (disch := omega) only [up_ne]) (fun i i0 i1 => by simp (disch := omega) only [up_ne])]
      simp (disch := omega) only [up_ne]; exact (IEc_4 hIF).1
    · refine ⟨?_, fun l l0 l1 => ?_⟩
      · unfold IK0
        rw [up_eq, zT_s (by omega)]
        simp (disch := omega) only [up_ne, up_at]
        rw [if_neg (by omega), ← hIF.2.2.2.1.2.1, Int.add_zero]
        exact zT_congr (fun j j0 j1 => by simp (disch := omega) only [up_ne])
      · simp (disch := omega) only [up_ne] at l1 ⊢
        exact hIF.2.2.2.1.2.2 l l0 l1
    · simp (disch := omega) only [up_ne]; exact hc0.1
    · simp (disch := omega) only [up_ne]; omega

