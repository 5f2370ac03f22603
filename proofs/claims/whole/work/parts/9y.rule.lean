/-! RULE: the call -/
theorem t_rule {d dM N : Nat} {a b : Int} {x m : zM} {Q : Int → zM → zM → Prop} (hd : 80 ≤ d) (hdM : 80 ≤ dM) (hNN : N ≤ 600) (hI : Inv N x m) (K : ∀ q x', MOK N dM 231 [zr 386, zi a, zi b] q x' m → Q q x' m) : WPc d 134 [zr 0, zi a, zi b] 403 [] x m 403 [] Q := by
  obtain ⟨hF, hIF, hK, hO⟩ := id hI
  have hX := hF.1
  have hIx := hIF.1
  have hB := hIx.1
  have hA := hIx.2.1
  have hN := hIx.2.2.1
  have hM := hIF.2.1
  have hE := hIF.2.2.1
  have hb := hB; unfold IB at hb
  have hRL := hX.2.1
  have hRA := hX.2.2.1
  have hRN := hX.2.2.2.1
  have e10 : x 1 0 = m 387 0 := hX.1.1
  have e11 : x 1 1 = m 387 1 := hX.1.2.1
  have e88 : x 88 0 = m 387 5 := hX.2.2.2.2.1
  have hTm : jTm m (m 394) (m 386 9) := ⟨⟨hO.2.1.1, hO.2.1.2.1⟩, rfl, fun i i0 i1 => ⟨rfl, (hO.2.2.1 i i0 i1).2⟩, hO.2.2.2.2.2⟩
  have hTx : jTp x (m 394) (m 386 9) := ⟨⟨hO.2.1.1, hO.2.1.2.1⟩, hO.2.1.2.2, hO.2.2.1⟩
  by_cases u : (0 ≤ a ∧ a < b ∧ b ≤ 1000) ∧ m 387 5 < 12
  · have rd : WPc (d - 1) 77 [zr 325] 403 [] x m 403 [] (fun q13 x14 m15 => (q13 = 0 ∨ q13 = 1) → (q13 ≠ 0 → 1 ≤ d ∧ WPc (d - 1) 95 [zr 88, zr 325, zi a, zi b] 403 [] (zupd x14 325 1 0) m15 403 [] (fun q16 x17 m18 => Q q16 x17 m18)) ∧ (q13 = 0 → zIn (-10 - x14 325 10) ∧ Q (-10 - x14 325 10) x14 m15)) := by
      refine c77 (t := m 394) (T := m 386 9) (by omega) hTx ?_
      intro ok fb key half e c x' hOO hok N1 E hq
      refine ⟨fun hn => ⟨by omega, ?_⟩, fun hz => ?_⟩
      · have en : ok = 1 := by omega
        subst en
        have T1 := hO.2.1.2.1
        have T0 := hO.2.1.1
        obtain ⟨⟨ke0, ke1⟩, ha1, ha2, e1, w1, w2⟩ := jO_ok T0 T1 hOO
        obtain ⟨E8, E9, E7, -, Ec⟩ := E.2 rfl
        have x88 : zupd x' 325 1 0 88 0 = m 387 5 := by rw [zu_ne _ _ _ (by decide), N1.1 88 (by decide) (by decide)]; exact e88
        have x7 : zupd x' 325 1 0 325 7 = e := by rw [zu_eq, up_ne (by omega)]; exact E7
        have x8 : zupd x' 325 1 0 325 8 = key := by rw [zu_eq, up_ne (by omega)]; exact E8
        have x9 : zupd x' 325 1 0 325 9 = half := by rw [zu_eq, up_ne (by omega)]; exact E9
        apply r95
        intro _ _
        rw [x88, x7, x8, x9]
        have r0 : 0 ≤ m 387 5 := by omega
        refine ⟨⟨r0, u.2⟩, ⟨r0, u.2⟩, ⟨r0, u.2⟩, ⟨r0, u.2⟩, ⟨r0, u.2⟩, ⟨r0, u.2⟩, by omega, ⟨by omega, by omega, by omega, by omega, by omega⟩, by unfold zIn; omega, ?_⟩
        refine K _ _ ?_
        intro Q' hQ
        refine s231 (r := m 387 5) (by omega) hTm rfl r0 u.2 u.1.1 u.1.2.1 u.1.2.2 hOO (fun e => absurd e (by decide)) (fun _ m1 L hc => ?_)
        exact hQ _ _ (Inv_ra hI rfl r0 u.2 u.1.1 u.1.2.1 u.1.2.2 T0 T1 hOO N1 E L hc) (by rw [jFin_ne (by decide) (by decide)]; exact L.1 2000 (by decide) (by decide))
      · subst hz
        have fbb := jO_fb hO.2.1.1 hOO
        have T1 := hO.2.1.2.1
        rw [E.1 rfl]
        refine ⟨by unfold zIn; omega, ?_⟩
        refine K _ _ ?_
        intro Q' hQ
        refine s231 (r := m 387 5) (by omega) hTm rfl (by omega) u.2 u.1.1 u.1.2.1 u.1.2.2 hOO (fun _ m' L => ?_) (fun e => absurd e (by decide))
        exact hQ _ _ (Inv_rf hI u.2 N1 L) (L.1 2000 (by decide) (by decide))
    apply r134
    intro _ _
    clear K
    repeat' (first | (with_reducible assumption) | (with_reducible rfl) | (with_reducible apply And.intro) | (with_reducible apply zIn_mk) | (with_reducible apply zLn_mk) | ((with_reducible intro _); try (exfalso; omega)) | omega | (with_reducible exact Or.inr trivial) | (with_reducible exact Or.inl trivial) | ((refine k163 ?_ ?_)) | ((exact rd)) | fail)
  · apply r134
    repeat' (first | (with_reducible assumption) | (with_reducible rfl) | (with_reducible apply And.intro) | (with_reducible apply zIn_mk) | (with_reducible apply zLn_mk) | ((with_reducible intro _); try (exfalso; omega)) | omega | (with_reducible exact Or.inr trivial) | (with_reducible exact Or.inl trivial) | (with_reducible apply k161) | (with_reducible apply k162) | (with_reducible apply k163) | (with_reducible apply k164) | (with_reducible apply k165) | (with_reducible apply k166) | (with_reducible apply k167) | ((refine K _ _ ?_; intro Q' hQ; apply r231)) | (with_reducible apply s171) | (with_reducible apply s172) | (with_reducible apply s173) | (with_reducible apply s174) | (with_reducible apply s175) | (with_reducible apply s176) | ((refine zQe (hQ _ _ ?_ ?_) ?_)) | ((exact zP_ne _ _ (by decide))) | ((exact zP_eq _ _)) | ((exact Inv_c (by omega) (by omega) hI)) | ((exact Inv_s (zSx.rf _) (zSame.rf _) hI)) | ((exact zu_ne _ _ _ (by decide))) | fail)

