/-! CALLS THAT ONLY READ -/
def MOK (N dM yM : Nat) (as : List zV) (q : Int) (x' m : zM) : Prop := ∀ Q' : Int → zM → zM → Prop, (∀ x'' m', Inv (N + 1) x'' m' → m' 2000 = m 2000 → Q' q x'' m') → WPc dM yM as 403 [] x' m 403 [] Q'
theorem k161 {d : Nat} {v : Int} {x m : zM} {Q : Int → zM → zM → Prop} (hv : -8 ≤ v ∧ v ≤ -2) (h : Q v (zcX x v) m) : WPc d 161 [zr 0, zi v] 403 [] x m 403 [] Q := by
  apply r161
  unfold zcX at h
  repeat' (first | (with_reducible assumption) | (with_reducible rfl) | (with_reducible apply And.intro) | (with_reducible apply zIn_mk) | (with_reducible apply zLn_mk) | ((with_reducible intro _); try (exfalso; omega)) | omega | (with_reducible exact Or.inr trivial) | (with_reducible exact Or.inl trivial) | fail)
theorem k162 {d : Nat} {v : Int} {x m : zM} {Q : Int → zM → zM → Prop} (hd : 1 ≤ d) (hv : -8 ≤ v ∧ v ≤ -2) (h : Q 0 (zcX x v) m) : WPc d 162 [zr 0, zi v] 403 [] x m 403 [] Q := by
  apply r162
  repeat' (first | (with_reducible assumption) | (with_reducible rfl) | (with_reducible apply And.intro) | (with_reducible apply zIn_mk) | (with_reducible apply zLn_mk) | ((with_reducible intro _); try (exfalso; omega)) | omega | (with_reducible exact Or.inr trivial) | (with_reducible exact Or.inl trivial) | (with_reducible apply k161) | fail)
theorem k163 {d : Nat} {v lo hi : Int} {x m : zM} {Q : Int → zM → zM → Prop} (h1 : (v < lo ∨ hi < v) → Q 1 x m) (h0 : lo ≤ v → v ≤ hi → Q 0 x m) : WPc d 163 [zi v, zi lo, zi hi] 403 [] x m 403 [] Q := by
  apply r163
  repeat' (first | (with_reducible assumption) | (with_reducible rfl) | (with_reducible apply And.intro) | (with_reducible apply zIn_mk) | (with_reducible apply zLn_mk) | ((with_reducible intro _); try (exfalso; omega)) | omega | (with_reducible exact Or.inr trivial) | (with_reducible exact Or.inl trivial) | ((with_reducible apply h1) <;> omega) | ((with_reducible apply h0) <;> omega) | fail)
theorem k164 {d : Nat} {v : Int} {p : Int → Int} {x m : zM} {Q : Int → zM → zM → Prop} (hX : RX x p) (h1 : (v < 0 ∨ p 1 ≤ v) → Q 1 x m) (h0 : 0 ≤ v → v < p 1 → Q 0 x m) : WPc d 164 [zr 0, zi v] 403 [] x m 403 [] Q := by
  have e : x 1 1 = p 1 := hX.1.2.1
  apply r164
  repeat' (first | (with_reducible assumption) | (with_reducible rfl) | (with_reducible apply And.intro) | (with_reducible apply zIn_mk) | (with_reducible apply zLn_mk) | ((with_reducible intro _); try (exfalso; omega)) | omega | (with_reducible exact Or.inr trivial) | (with_reducible exact Or.inl trivial) | ((with_reducible apply h1) <;> omega) | ((with_reducible apply h0) <;> omega) | fail)
theorem k165 {d : Nat} {v : Int} {p : Int → Int} {x m : zM} {Q : Int → zM → zM → Prop} (hX : RX x p) (h1 : (v < 0 ∨ p 2 ≤ v) → Q 1 x m) (h0 : 0 ≤ v → v < p 2 → Q 0 x m) : WPc d 165 [zr 0, zi v] 403 [] x m 403 [] Q := by
  have e : x 14 0 = p 2 := hX.2.2.1.1
  apply r165
  repeat' (first | (with_reducible assumption) | (with_reducible rfl) | (with_reducible apply And.intro) | (with_reducible apply zIn_mk) | (with_reducible apply zLn_mk) | ((with_reducible intro _); try (exfalso; omega)) | omega | (with_reducible exact Or.inr trivial) | (with_reducible exact Or.inl trivial) | ((with_reducible apply h1) <;> omega) | ((with_reducible apply h0) <;> omega) | fail)
theorem k166 {d : Nat} {v : Int} {p : Int → Int} {x m : zM} {Q : Int → zM → zM → Prop} (hX : RX x p) (h1 : (v < 0 ∨ p 3 ≤ v) → Q 1 x m) (h0 : 0 ≤ v → v < p 3 → Q 0 x m) : WPc d 166 [zr 0, zi v] 403 [] x m 403 [] Q := by
  have e : x 72 0 = p 3 := hX.2.2.2.1.1
  apply r166
  repeat' (first | (with_reducible assumption) | (with_reducible rfl) | (with_reducible apply And.intro) | (with_reducible apply zIn_mk) | (with_reducible apply zLn_mk) | ((with_reducible intro _); try (exfalso; omega)) | omega | (with_reducible exact Or.inr trivial) | (with_reducible exact Or.inl trivial) | ((with_reducible apply h1) <;> omega) | ((with_reducible apply h0) <;> omega) | fail)
theorem k167 {d : Nat} {v : Int} {p : Int → Int} {x m : zM} {Q : Int → zM → zM → Prop} (hX : RX x p) (h1 : (v < 0 ∨ p 0 < v) → Q 1 x m) (h0 : 0 ≤ v → v ≤ p 0 → Q 0 x m) : WPc d 167 [zr 0, zi v] 403 [] x m 403 [] Q := by
  have e : x 1 0 = p 0 := hX.1.1
  apply r167
  repeat' (first | (with_reducible assumption) | (with_reducible rfl) | (with_reducible apply And.intro) | (with_reducible apply zIn_mk) | (with_reducible apply zLn_mk) | ((with_reducible intro _); try (exfalso; omega)) | omega | (with_reducible exact Or.inr trivial) | (with_reducible exact Or.inl trivial) | ((with_reducible apply h1) <;> omega) | ((with_reducible apply h0) <;> omega) | fail)
theorem c44' {d : Nat} {v : Int} {p : Int → Int} {x m : zM} {Q : Int → zM → zM → Prop} (hd : 6 ≤ d) (hX : RX x p) (hI : IX p) (hM : IM p) (v0 : 0 ≤ v) (v1 : v < p 1) (h1 : gDo p v → ∀ x', zSx x x' → Q 1 x' m) (h0 : ¬ gDo p v → ∀ x', zSx x x' → Q 0 x' m) : WPc d 44 [zr 330, zi v] 403 [] x m 403 [] Q := by
  refine c44 hd hX hI hM v0 v1 ?_
  by_cases c : gDo p v
  · rw [if_pos c]; exact h1 c
  · rw [if_neg c]; exact h0 c
theorem s199' {d : Nat} {v : Int} {p : Int → Int} {x m : zM} {Q : Int → zM → zM → Prop} (hd : 9 ≤ d) (hp : m 387 = p) (hI : IX p) (hM : IM p) (v0 : 0 ≤ v) (v1 : v < p 1) (h1 : gDo p v → ∀ m', zSame m m' → m' 387 = p → Q 1 x m') (h0 : ¬ gDo p v → ∀ m', zSame m m' → m' 387 = p → Q 0 x m') : WPc d 199 [zr 386, zi v] 403 [] x m 403 [] Q := by
  refine s199 hd hp hI hM v0 v1 ?_
  by_cases c : gDo p v
  · rw [if_pos c]; exact h1 c
  · rw [if_neg c]; exact h0 c
theorem t_saved {d dM N : Nat} {a b c : Int} {x m : zM} {Q : Int → zM → zM → Prop} (hd : 40 ≤ d) (hdM : 40 ≤ dM) (hNN : N ≤ 600) (hI : Inv N x m) (K : ∀ q x', MOK N dM 187 [zr 386, zi a, zi b, zi c] q x' m → Q q x' m) : WPc d 121 [zr 0, zi a, zi b, zi c] 403 [] x m 403 [] Q := by
  obtain ⟨hF, hIF, hK, hO⟩ := id hI
  have hX := hF.1
  have hIx := hIF.1
  have hB := hIx.1
  have hA := hIx.2.1
  have hN := hIx.2.2.1
  have hM := hIF.2.1
  have hE := hIF.2.2.1
  have hb := hB; unfold IB at hb
  have hRL := hX.2.1
  have hRA := hX.2.2.1
  have hRN := hX.2.2.2.1
  have e10 : x 1 0 = m 387 0 := hX.1.1
  have e11 : x 1 1 = m 387 1 := hX.1.2.1
  apply r121
  repeat' (first | (with_reducible assumption) | (with_reducible rfl) | (with_reducible apply And.intro) | (with_reducible apply zIn_mk) | (with_reducible apply zLn_mk) | ((with_reducible intro _); try (exfalso; omega)) | omega | (with_reducible exact Or.inr trivial) | (with_reducible exact Or.inl trivial) | ((refine c26 hRL hB ?_)) | (with_reducible apply s180) | (with_reducible apply k161) | (with_reducible apply k162) | (with_reducible apply k163) | (with_reducible apply k164) | (with_reducible apply k165) | (with_reducible apply k166) | (with_reducible apply k167) | ((refine K _ _ ?_; intro Q' hQ; apply r187)) | (with_reducible apply s171) | (with_reducible apply s172) | (with_reducible apply s173) | (with_reducible apply s174) | (with_reducible apply s175) | (with_reducible apply s176) | ((refine zQe (hQ _ _ ?_ ?_) ?_)) | ((exact zP_ne _ _ (by decide))) | ((exact zP_eq _ _)) | ((exact Inv_c (by omega) (by omega) hI)) | ((exact Inv_s (zSx.rf _) (zSame.rf _) hI)) | ((exact zu_ne _ _ _ (by decide))) | fail)

theorem t_look {d dM N : Nat} {a b : Int} {x m : zM} {Q : Int → zM → zM → Prop} (hd : 40 ≤ d) (hdM : 40 ≤ dM) (hNN : N ≤ 600) (hI : Inv N x m) (K : ∀ q x', MOK N dM 201 [zr 386, zi a, zi b] q x' m → Q q x' m) : WPc d 122 [zr 0, zi a, zi b] 403 [] x m 403 [] Q := by
  obtain ⟨hF, hIF, hK, hO⟩ := id hI
  have hX := hF.1
  have hIx := hIF.1
  have hB := hIx.1
  have hA := hIx.2.1
  have hN := hIx.2.2.1
  have hM := hIF.2.1
  have hE := hIF.2.2.1
  have hb := hB; unfold IB at hb
  have hRL := hX.2.1
  have hRA := hX.2.2.1
  have hRN := hX.2.2.2.1
  have e10 : x 1 0 = m 387 0 := hX.1.1
  have e11 : x 1 1 = m 387 1 := hX.1.2.1
  apply r122
  by_cases u : 0 ≤ a ∧ a < m 387 1
  · have hr := hX.1.2.2 a u.1 u.2
    have hm := hM.1 a u.1 u.2
    repeat' (first | (with_reducible assumption) | (with_reducible rfl) | (with_reducible apply And.intro) | (with_reducible apply zIn_mk) | (with_reducible apply zLn_mk) | ((with_reducible intro _); try (exfalso; omega)) | omega | (with_reducible exact Or.inr trivial) | (with_reducible exact Or.inl trivial) | (with_reducible apply trivial) | ((refine c57_72 (by omega) hRN hB hA hN ?_)) | ((refine c56 (by omega) hRN hB hA hN ?_)) | ((refine c54 (by omega) hRN hB hA hN (by omega) ?_)) | ((refine c104 (by omega) hX hB (by omega) (by omega) ?_)) | (with_reducible apply s193) | (with_reducible apply s192) | (with_reducible apply s198) | (with_reducible apply s200) | ((refine c44' (by omega) hX hIx hM (by omega) (by omega) ?_ ?_ <;> intro cD xB hB2)) | ((refine s199' (by omega) rfl hIx hM (by omega) (by omega) ?_ ?_ <;> intro cD' mB hT _)) | ((exact absurd cD cD')) | ((exact absurd cD' cD)) | ((exact Inv_s hB2 hT hI)) | ((exact hT.1 2000 (by decide) (by decide) (by decide))) | (with_reducible apply k161) | (with_reducible apply k162) | (with_reducible apply k163) | (with_reducible apply k164) | (with_reducible apply k165) | (with_reducible apply k166) | (with_reducible apply k167) | ((refine K _ _ ?_; intro Q' hQ; apply r201)) | (with_reducible apply s171) | (with_reducible apply s172) | (with_reducible apply s173) | (with_reducible apply s174) | (with_reducible apply s175) | (with_reducible apply s176) | ((refine zQe (hQ _ _ ?_ ?_) ?_)) | ((exact zP_ne _ _ (by decide))) | ((exact zP_eq _ _)) | ((exact Inv_c (by omega) (by omega) hI)) | ((exact Inv_s (zSx.rf _) (zSame.rf _) hI)) | ((exact zu_ne _ _ _ (by decide))) | fail)
  · repeat' (first | (with_reducible assumption) | (with_reducible rfl) | (with_reducible apply And.intro) | (with_reducible apply zIn_mk) | (with_reducible apply zLn_mk) | ((with_reducible intro _); try (exfalso; omega)) | omega | (with_reducible exact Or.inr trivial) | (with_reducible exact Or.inl trivial) | (with_reducible apply trivial) | ((refine c57_72 (by omega) hRN hB hA hN ?_)) | ((refine c56 (by omega) hRN hB hA hN ?_)) | ((refine c54 (by omega) hRN hB hA hN (by omega) ?_)) | ((refine c104 (by omega) hX hB (by omega) (by omega) ?_)) | (with_reducible apply s193) | (with_reducible apply s192) | (with_reducible apply s198) | (with_reducible apply s200) | ((refine c44' (by omega) hX hIx hM (by omega) (by omega) ?_ ?_ <;> intro cD xB hB2)) | ((refine s199' (by omega) rfl hIx hM (by omega) (by omega) ?_ ?_ <;> intro cD' mB hT _)) | ((exact absurd cD cD')) | ((exact absurd cD' cD)) | ((exact Inv_s hB2 hT hI)) | ((exact hT.1 2000 (by decide) (by decide) (by decide))) | (with_reducible apply k161) | (with_reducible apply k162) | (with_reducible apply k163) | (with_reducible apply k164) | (with_reducible apply k165) | (with_reducible apply k166) | (with_reducible apply k167) | ((refine K _ _ ?_; intro Q' hQ; apply r201)) | (with_reducible apply s171) | (with_reducible apply s172) | (with_reducible apply s173) | (with_reducible apply s174) | (with_reducible apply s175) | (with_reducible apply s176) | ((refine zQe (hQ _ _ ?_ ?_) ?_)) | ((exact zP_ne _ _ (by decide))) | ((exact zP_eq _ _)) | ((exact Inv_c (by omega) (by omega) hI)) | ((exact Inv_s (zSx.rf _) (zSame.rf _) hI)) | ((exact zu_ne _ _ _ (by decide))) | fail)

theorem t_askOf {d dM N : Nat} {a b : Int} {x m : zM} {Q : Int → zM → zM → Prop} (hd : 40 ≤ d) (hdM : 40 ≤ dM) (hNN : N ≤ 600) (hI : Inv N x m) (K : ∀ q x', MOK N dM 210 [zr 386, zi a, zi b] q x' m → Q q x' m) : WPc d 125 [zr 0, zi a, zi b] 403 [] x m 403 [] Q := by
  obtain ⟨hF, hIF, hK, hO⟩ := id hI
  have hX := hF.1
  have hIx := hIF.1
  have hB := hIx.1
  have hA := hIx.2.1
  have hN := hIx.2.2.1
  have hM := hIF.2.1
  have hE := hIF.2.2.1
  have hb := hB; unfold IB at hb
  have hRL := hX.2.1
  have hRA := hX.2.2.1
  have hRN := hX.2.2.2.1
  have e10 : x 1 0 = m 387 0 := hX.1.1
  have e11 : x 1 1 = m 387 1 := hX.1.2.1
  apply r125
  by_cases u : 0 ≤ a ∧ a < m 387 2
  · have hr := hRA.2.1 a u.1 u.2
    have ha := hA.1 a u.1 u.2
    unfold IAa at ha
    repeat' (first | (with_reducible assumption) | (with_reducible rfl) | (with_reducible apply And.intro) | (with_reducible apply zIn_mk) | (with_reducible apply zLn_mk) | ((with_reducible intro _); try (exfalso; omega)) | omega | (with_reducible exact Or.inr trivial) | (with_reducible exact Or.inl trivial) | (with_reducible apply trivial) | ((refine c5 hRA hB hA (by omega) (by omega) ?_)) | (with_reducible apply s204) | ((refine c38 (by omega) hX hIx (by omega) (by omega) ?_; intro xB hB2)) | ((refine c40 (by omega) hX hIx (by omega) (by omega) ?_; intro xB hB2)) | ((refine c41 (by omega) hX hIx (by omega) (by omega) ?_; intro xB hB2)) | ((refine s205 (by omega) rfl hIx (by omega) (by omega) ?_; intro mB hT _)) | ((refine s206 (by omega) rfl hIx (by omega) (by omega) ?_; intro mB hT _)) | ((refine s209 (by omega) rfl hIx (by omega) (by omega) ?_; intro mB hT _)) | ((exact Inv_s hB2 hT hI)) | ((exact hT.1 2000 (by decide) (by decide) (by decide))) | ((rw [show (90 : Int) + 24 * b + a = 90 + a by omega]; omega)) | ((rw [show (90 : Int) + 24 * b + a = 114 + a by omega]; omega)) | ((rw [show (90 : Int) + 24 * b + a = 138 + a by omega]; omega)) | ((rw [show (90 : Int) + 24 * b + a = 162 + a by omega]; omega)) | (with_reducible apply k161) | (with_reducible apply k162) | (with_reducible apply k163) | (with_reducible apply k164) | (with_reducible apply k165) | (with_reducible apply k166) | (with_reducible apply k167) | ((refine K _ _ ?_; intro Q' hQ; apply r210)) | (with_reducible apply s171) | (with_reducible apply s172) | (with_reducible apply s173) | (with_reducible apply s174) | (with_reducible apply s175) | (with_reducible apply s176) | ((refine zQe (hQ _ _ ?_ ?_) ?_)) | ((exact zP_ne _ _ (by decide))) | ((exact zP_eq _ _)) | ((exact Inv_c (by omega) (by omega) hI)) | ((exact Inv_s (zSx.rf _) (zSame.rf _) hI)) | ((exact zu_ne _ _ _ (by decide))) | fail)
  · repeat' (first | (with_reducible assumption) | (with_reducible rfl) | (with_reducible apply And.intro) | (with_reducible apply zIn_mk) | (with_reducible apply zLn_mk) | ((with_reducible intro _); try (exfalso; omega)) | omega | (with_reducible exact Or.inr trivial) | (with_reducible exact Or.inl trivial) | (with_reducible apply trivial) | ((refine c5 hRA hB hA (by omega) (by omega) ?_)) | (with_reducible apply s204) | ((refine c38 (by omega) hX hIx (by omega) (by omega) ?_; intro xB hB2)) | ((refine c40 (by omega) hX hIx (by omega) (by omega) ?_; intro xB hB2)) | ((refine c41 (by omega) hX hIx (by omega) (by omega) ?_; intro xB hB2)) | ((refine s205 (by omega) rfl hIx (by omega) (by omega) ?_; intro mB hT _)) | ((refine s206 (by omega) rfl hIx (by omega) (by omega) ?_; intro mB hT _)) | ((refine s209 (by omega) rfl hIx (by omega) (by omega) ?_; intro mB hT _)) | ((exact Inv_s hB2 hT hI)) | ((exact hT.1 2000 (by decide) (by decide) (by decide))) | ((rw [show (90 : Int) + 24 * b + a = 90 + a by omega]; omega)) | ((rw [show (90 : Int) + 24 * b + a = 114 + a by omega]; omega)) | ((rw [show (90 : Int) + 24 * b + a = 138 + a by omega]; omega)) | ((rw [show (90 : Int) + 24 * b + a = 162 + a by omega]; omega)) | (with_reducible apply k161) | (with_reducible apply k162) | (with_reducible apply k163) | (with_reducible apply k164) | (with_reducible apply k165) | (with_reducible apply k166) | (with_reducible apply k167) | ((refine K _ _ ?_; intro Q' hQ; apply r210)) | (with_reducible apply s171) | (with_reducible apply s172) | (with_reducible apply s173) | (with_reducible apply s174) | (with_reducible apply s175) | (with_reducible apply s176) | ((refine zQe (hQ _ _ ?_ ?_) ?_)) | ((exact zP_ne _ _ (by decide))) | ((exact zP_eq _ _)) | ((exact Inv_c (by omega) (by omega) hI)) | ((exact Inv_s (zSx.rf _) (zSame.rf _) hI)) | ((exact zu_ne _ _ _ (by decide))) | fail)

theorem t_loanOf {d dM N : Nat} {a b : Int} {x m : zM} {Q : Int → zM → zM → Prop} (hd : 40 ≤ d) (hdM : 40 ≤ dM) (hNN : N ≤ 600) (hI : Inv N x m) (K : ∀ q x', MOK N dM 213 [zr 386, zi a, zi b] q x' m → Q q x' m) : WPc d 128 [zr 0, zi a, zi b] 403 [] x m 403 [] Q := by
  obtain ⟨hF, hIF, hK, hO⟩ := id hI
  have hX := hF.1
  have hIx := hIF.1
  have hB := hIx.1
  have hA := hIx.2.1
  have hN := hIx.2.2.1
  have hM := hIF.2.1
  have hE := hIF.2.2.1
  have hb := hB; unfold IB at hb
  have hRL := hX.2.1
  have hRA := hX.2.2.1
  have hRN := hX.2.2.2.1
  have e10 : x 1 0 = m 387 0 := hX.1.1
  have e11 : x 1 1 = m 387 1 := hX.1.2.1
  apply r128
  by_cases u : 0 ≤ a ∧ a < m 387 3
  · have hr := hRN.2 a u.1 u.2
    have hl := hN.1 a u.1 u.2
    unfold INl at hl
    have hal := hA.1 (m 387 (450 + a)) (by omega) (by omega)
    unfold IAa at hal
    repeat' (first | (with_reducible assumption) | (with_reducible rfl) | (with_reducible apply And.intro) | (with_reducible apply zIn_mk) | (with_reducible apply zLn_mk) | (simp only [e10]) | ((with_reducible intro _); try (exfalso; omega)) | omega | (with_reducible exact Or.inr trivial) | (with_reducible exact Or.inl trivial) | (with_reducible apply trivial) | ((refine c52 hRN hB hA hN (by omega) (by omega) (by omega) (by omega) ?_)) | ((refine c49_72 hRN hB hA hN (by omega) (by omega) ?_)) | (with_reducible apply s196) | (with_reducible apply k161) | (with_reducible apply k162) | (with_reducible apply k163) | (with_reducible apply k164) | (with_reducible apply k165) | (with_reducible apply k166) | (with_reducible apply k167) | ((refine K _ _ ?_; intro Q' hQ; apply r213)) | (with_reducible apply s171) | (with_reducible apply s172) | (with_reducible apply s173) | (with_reducible apply s174) | (with_reducible apply s175) | (with_reducible apply s176) | ((refine zQe (hQ _ _ ?_ ?_) ?_)) | ((exact zP_ne _ _ (by decide))) | ((exact zP_eq _ _)) | ((exact Inv_c (by omega) (by omega) hI)) | ((exact Inv_s (zSx.rf _) (zSame.rf _) hI)) | ((exact zu_ne _ _ _ (by decide))) | fail)
  · repeat' (first | (with_reducible assumption) | (with_reducible rfl) | (with_reducible apply And.intro) | (with_reducible apply zIn_mk) | (with_reducible apply zLn_mk) | (simp only [e10]) | ((with_reducible intro _); try (exfalso; omega)) | omega | (with_reducible exact Or.inr trivial) | (with_reducible exact Or.inl trivial) | (with_reducible apply trivial) | ((refine c52 hRN hB hA hN (by omega) (by omega) (by omega) (by omega) ?_)) | ((refine c49_72 hRN hB hA hN (by omega) (by omega) ?_)) | (with_reducible apply s196) | (with_reducible apply k161) | (with_reducible apply k162) | (with_reducible apply k163) | (with_reducible apply k164) | (with_reducible apply k165) | (with_reducible apply k166) | (with_reducible apply k167) | ((refine K _ _ ?_; intro Q' hQ; apply r213)) | (with_reducible apply s171) | (with_reducible apply s172) | (with_reducible apply s173) | (with_reducible apply s174) | (with_reducible apply s175) | (with_reducible apply s176) | ((refine zQe (hQ _ _ ?_ ?_) ?_)) | ((exact zP_ne _ _ (by decide))) | ((exact zP_eq _ _)) | ((exact Inv_c (by omega) (by omega) hI)) | ((exact Inv_s (zSx.rf _) (zSame.rf _) hI)) | ((exact zu_ne _ _ _ (by decide))) | fail)

theorem t_dues {d dM N : Nat} {a b : Int} {x m : zM} {Q : Int → zM → zM → Prop} (hd : 40 ≤ d) (hdM : 40 ≤ dM) (hNN : N ≤ 600) (hI : Inv N x m) (K : ∀ q x', MOK N dM 214 [zr 386, zi a, zi b] q x' m → Q q x' m) : WPc d 129 [zr 0, zi a, zi b] 403 [] x m 403 [] Q := by
  obtain ⟨hF, hIF, hK, hO⟩ := id hI
  have hX := hF.1
  have hIx := hIF.1
  have hB := hIx.1
  have hA := hIx.2.1
  have hN := hIx.2.2.1
  have hM := hIF.2.1
  have hE := hIF.2.2.1
  have hb := hB; unfold IB at hb
  have hRL := hX.2.1
  have hRA := hX.2.2.1
  have hRN := hX.2.2.2.1
  have e10 : x 1 0 = m 387 0 := hX.1.1
  have e11 : x 1 1 = m 387 1 := hX.1.2.1
  apply r129
  repeat' (first | (with_reducible assumption) | (with_reducible rfl) | (with_reducible apply And.intro) | (with_reducible apply zIn_mk) | (with_reducible apply zLn_mk) | ((with_reducible intro _); try (exfalso; omega)) | omega | (with_reducible exact Or.inr trivial) | (with_reducible exact Or.inl trivial) | ((refine c51 (by omega) hRN hB hA hN (by omega) (by omega) (by omega) (by omega) ?_)) | (with_reducible apply s195) | (with_reducible apply k161) | (with_reducible apply k162) | (with_reducible apply k163) | (with_reducible apply k164) | (with_reducible apply k165) | (with_reducible apply k166) | (with_reducible apply k167) | ((refine K _ _ ?_; intro Q' hQ; apply r214)) | (with_reducible apply s171) | (with_reducible apply s172) | (with_reducible apply s173) | (with_reducible apply s174) | (with_reducible apply s175) | (with_reducible apply s176) | ((refine zQe (hQ _ _ ?_ ?_) ?_)) | ((exact zP_ne _ _ (by decide))) | ((exact zP_eq _ _)) | ((exact Inv_c (by omega) (by omega) hI)) | ((exact Inv_s (zSx.rf _) (zSame.rf _) hI)) | ((exact zu_ne _ _ _ (by decide))) | fail)

theorem s215 {d : Nat} {k o : Int} {x m : zM} {Q : Int → zM → zM → Prop} (h1 : (k = o ∨ o = 0 ∨ (o = 2 ∧ k = 5) ∨ (o = 3 ∧ k = 4)) → Q 1 x m) (h0 : (k ≠ o ∧ o ≠ 0 ∧ ¬(o = 2 ∧ k = 5) ∧ ¬(o = 3 ∧ k = 4)) → Q 0 x m) : WPc d 215 [zi k, zi o] 403 [] x m 403 [] Q := by
  apply r215
  repeat' (first | (with_reducible assumption) | (with_reducible rfl) | (with_reducible apply And.intro) | (with_reducible apply zIn_mk) | (with_reducible apply zLn_mk) | ((with_reducible intro _); try (exfalso; omega)) | omega | (with_reducible exact Or.inr trivial) | (with_reducible exact Or.inl trivial) | ((with_reducible apply h1) <;> omega) | ((with_reducible apply h0) <;> omega) | fail)
theorem t_taken {d dM N : Nat} {a b : Int} {x m : zM} {Q : Int → zM → zM → Prop} (hd : 40 ≤ d) (hdM : 40 ≤ dM) (hNN : N ≤ 600) (hI : Inv N x m) (K : ∀ q x', MOK N dM 216 [zr 386, zi a, zi b] q x' m → Q q x' m) : WPc d 130 [zr 0, zi a, zi b] 403 [] x m 403 [] Q := by
  obtain ⟨hF, hIF, hK, hO⟩ := id hI
  have hX := hF.1
  have hIx := hIF.1
  have hB := hIx.1
  have hA := hIx.2.1
  have hN := hIx.2.2.1
  have hM := hIF.2.1
  have hE := hIF.2.2.1
  have hb := hB; unfold IB at hb
  have hRL := hX.2.1
  have hRA := hX.2.2.1
  have hRN := hX.2.2.2.1
  have e10 : x 1 0 = m 387 0 := hX.1.1
  have e11 : x 1 1 = m 387 1 := hX.1.2.1
  apply r130
  by_cases u : 0 ≤ a ∧ a < m 387 3
  · have hr := hRN.2 a u.1 u.2
    have hl := hN.1 a u.1 u.2
    unfold INl at hl
    have hal := hA.1 (m 387 (450 + a)) (by omega) (by omega)
    unfold IAa at hal
    repeat' (first | (with_reducible assumption) | (with_reducible rfl) | (with_reducible apply And.intro) | (with_reducible apply zIn_mk) | (with_reducible apply zLn_mk) | ((with_reducible intro _); try (exfalso; omega)) | omega | (with_reducible exact Or.inr trivial) | (with_reducible exact Or.inl trivial) | ((refine c1 (by omega) (by omega) ?_ ?_)) | (with_reducible apply s215) | (with_reducible apply k161) | (with_reducible apply k162) | (with_reducible apply k163) | (with_reducible apply k164) | (with_reducible apply k165) | (with_reducible apply k166) | (with_reducible apply k167) | ((refine K _ _ ?_; intro Q' hQ; apply r216)) | (with_reducible apply s171) | (with_reducible apply s172) | (with_reducible apply s173) | (with_reducible apply s174) | (with_reducible apply s175) | (with_reducible apply s176) | ((refine zQe (hQ _ _ ?_ ?_) ?_)) | ((exact zP_ne _ _ (by decide))) | ((exact zP_eq _ _)) | ((exact Inv_c (by omega) (by omega) hI)) | ((exact Inv_s (zSx.rf _) (zSame.rf _) hI)) | ((exact zu_ne _ _ _ (by decide))) | fail)
  · repeat' (first | (with_reducible assumption) | (with_reducible rfl) | (with_reducible apply And.intro) | (with_reducible apply zIn_mk) | (with_reducible apply zLn_mk) | ((with_reducible intro _); try (exfalso; omega)) | omega | (with_reducible exact Or.inr trivial) | (with_reducible exact Or.inl trivial) | ((refine c1 (by omega) (by omega) ?_ ?_)) | (with_reducible apply s215) | (with_reducible apply k161) | (with_reducible apply k162) | (with_reducible apply k163) | (with_reducible apply k164) | (with_reducible apply k165) | (with_reducible apply k166) | (with_reducible apply k167) | ((refine K _ _ ?_; intro Q' hQ; apply r216)) | (with_reducible apply s171) | (with_reducible apply s172) | (with_reducible apply s173) | (with_reducible apply s174) | (with_reducible apply s175) | (with_reducible apply s176) | ((refine zQe (hQ _ _ ?_ ?_) ?_)) | ((exact zP_ne _ _ (by decide))) | ((exact zP_eq _ _)) | ((exact Inv_c (by omega) (by omega) hI)) | ((exact Inv_s (zSx.rf _) (zSame.rf _) hI)) | ((exact zu_ne _ _ _ (by decide))) | fail)

theorem t_alike {d dM N : Nat} {a b : Int} {x m : zM} {Q : Int → zM → zM → Prop} (hd : 40 ≤ d) (hdM : 40 ≤ dM) (hNN : N ≤ 600) (hI : Inv N x m) (K : ∀ q x', MOK N dM 217 [zr 386, zi a, zi b] q x' m → Q q x' m) : WPc d 131 [zr 0, zi a, zi b] 403 [] x m 403 [] Q := by
  obtain ⟨hF, hIF, hK, hO⟩ := id hI
  have hX := hF.1
  have hIx := hIF.1
  have hB := hIx.1
  have hA := hIx.2.1
  have hN := hIx.2.2.1
  have hM := hIF.2.1
  have hE := hIF.2.2.1
  have hb := hB; unfold IB at hb
  have hRL := hX.2.1
  have hRA := hX.2.2.1
  have hRN := hX.2.2.2.1
  have e10 : x 1 0 = m 387 0 := hX.1.1
  have e11 : x 1 1 = m 387 1 := hX.1.2.1
  apply r131
  by_cases u : (0 ≤ a ∧ a < m 387 2) ∧ (0 ≤ b ∧ b < m 387 2)
  · have hr := hRA.2.1 a u.1.1 u.1.2
    have hr2 := hRA.2.1 b u.2.1 u.2.2
    repeat' (first | (with_reducible assumption) | (with_reducible rfl) | (with_reducible apply And.intro) | (with_reducible apply zIn_mk) | (with_reducible apply zLn_mk) | ((with_reducible intro _); try (exfalso; omega)) | omega | (with_reducible exact Or.inr trivial) | (with_reducible exact Or.inl trivial) | ((apply r6)) | (with_reducible apply k161) | (with_reducible apply k162) | (with_reducible apply k163) | (with_reducible apply k164) | (with_reducible apply k165) | (with_reducible apply k166) | (with_reducible apply k167) | ((refine K _ _ ?_; intro Q' hQ; apply r217)) | (with_reducible apply s171) | (with_reducible apply s172) | (with_reducible apply s173) | (with_reducible apply s174) | (with_reducible apply s175) | (with_reducible apply s176) | ((refine zQe (hQ _ _ ?_ ?_) ?_)) | ((exact zP_ne _ _ (by decide))) | ((exact zP_eq _ _)) | ((exact Inv_c (by omega) (by omega) hI)) | ((exact Inv_s (zSx.rf _) (zSame.rf _) hI)) | ((exact zu_ne _ _ _ (by decide))) | fail)
  · repeat' (first | (with_reducible assumption) | (with_reducible rfl) | (with_reducible apply And.intro) | (with_reducible apply zIn_mk) | (with_reducible apply zLn_mk) | ((with_reducible intro _); try (exfalso; omega)) | omega | (with_reducible exact Or.inr trivial) | (with_reducible exact Or.inl trivial) | ((apply r6)) | (with_reducible apply k161) | (with_reducible apply k162) | (with_reducible apply k163) | (with_reducible apply k164) | (with_reducible apply k165) | (with_reducible apply k166) | (with_reducible apply k167) | ((refine K _ _ ?_; intro Q' hQ; apply r217)) | (with_reducible apply s171) | (with_reducible apply s172) | (with_reducible apply s173) | (with_reducible apply s174) | (with_reducible apply s175) | (with_reducible apply s176) | ((refine zQe (hQ _ _ ?_ ?_) ?_)) | ((exact zP_ne _ _ (by decide))) | ((exact zP_eq _ _)) | ((exact Inv_c (by omega) (by omega) hI)) | ((exact Inv_s (zSx.rf _) (zSame.rf _) hI)) | ((exact zu_ne _ _ _ (by decide))) | fail)

theorem t_year {d dM N : Nat} {a b : Int} {x m : zM} {Q : Int → zM → zM → Prop} (hd : 40 ≤ d) (hdM : 40 ≤ dM) (hNN : N ≤ 600) (hI : Inv N x m) (K : ∀ q x', MOK N dM 250 [zr 386, zi a, zi b] q x' m → Q q x' m) : WPc d 139 [zr 0, zi a, zi b] 403 [] x m 403 [] Q := by
  obtain ⟨hF, hIF, hK, hO⟩ := id hI
  have hX := hF.1
  have hIx := hIF.1
  have hB := hIx.1
  have hA := hIx.2.1
  have hN := hIx.2.2.1
  have hM := hIF.2.1
  have hE := hIF.2.2.1
  have hb := hB; unfold IB at hb
  have hRL := hX.2.1
  have hRA := hX.2.2.1
  have hRN := hX.2.2.2.1
  have e10 : x 1 0 = m 387 0 := hX.1.1
  have e11 : x 1 1 = m 387 1 := hX.1.2.1
  have hy := hF.2.1.2.2.1 a b
  have ey : x 108 0 = m 387 6 := hF.2.1.1
  apply r139
  repeat' (first | (with_reducible assumption) | (with_reducible rfl) | (with_reducible apply And.intro) | (with_reducible apply zIn_mk) | (with_reducible apply zLn_mk) | ((with_reducible intro _); try (exfalso; omega)) | omega | (with_reducible exact Or.inr trivial) | (with_reducible exact Or.inl trivial) | ((apply r249)) | (with_reducible apply k161) | (with_reducible apply k162) | (with_reducible apply k163) | (with_reducible apply k164) | (with_reducible apply k165) | (with_reducible apply k166) | (with_reducible apply k167) | ((refine K _ _ ?_; intro Q' hQ; apply r250)) | (with_reducible apply s171) | (with_reducible apply s172) | (with_reducible apply s173) | (with_reducible apply s174) | (with_reducible apply s175) | (with_reducible apply s176) | ((refine zQe (hQ _ _ ?_ ?_) ?_)) | ((exact zP_ne _ _ (by decide))) | ((exact zP_eq _ _)) | ((exact Inv_c (by omega) (by omega) hI)) | ((exact Inv_s (zSx.rf _) (zSame.rf _) hI)) | ((exact zu_ne _ _ _ (by decide))) | fail)

theorem t_row {d dM N : Nat} {a : Int} {x m : zM} {Q : Int → zM → zM → Prop} (hd : 40 ≤ d) (hdM : 40 ≤ dM) (hNN : N ≤ 600) (hI : Inv N x m) (K : ∀ q x', MOK N dM 278 [zr 386, zi a] q x' m → Q q x' m) : WPc d 158 [zr 0, zi a] 403 [] x m 403 [] Q := by
  obtain ⟨hF, hIF, hK, hO⟩ := id hI
  have hX := hF.1
  have hIx := hIF.1
  have hB := hIx.1
  have hA := hIx.2.1
  have hN := hIx.2.2.1
  have hM := hIF.2.1
  have hE := hIF.2.2.1
  have hb := hB; unfold IB at hb
  have hRL := hX.2.1
  have hRA := hX.2.2.1
  have hRN := hX.2.2.2.1
  have e10 : x 1 0 = m 387 0 := hX.1.1
  have e11 : x 1 1 = m 387 1 := hX.1.2.1
  have ho := hO.2.2.2.1
  have hc := hO.2.2.2.2.1 a
  apply r158
  repeat' (first | (with_reducible assumption) | (with_reducible rfl) | (with_reducible apply And.intro) | (with_reducible apply zIn_mk) | (with_reducible apply zLn_mk) | ((with_reducible intro _); try (exfalso; omega)) | omega | (with_reducible exact Or.inr trivial) | (with_reducible exact Or.inl trivial) | (with_reducible apply k161) | (with_reducible apply k162) | (with_reducible apply k163) | (with_reducible apply k164) | (with_reducible apply k165) | (with_reducible apply k166) | (with_reducible apply k167) | ((refine K _ _ ?_; intro Q' hQ; apply r278)) | (with_reducible apply s171) | (with_reducible apply s172) | (with_reducible apply s173) | (with_reducible apply s174) | (with_reducible apply s175) | (with_reducible apply s176) | ((refine zQe (hQ _ _ ?_ ?_) ?_)) | ((exact zP_ne _ _ (by decide))) | ((exact zP_eq _ _)) | ((exact Inv_c (by omega) (by omega) hI)) | ((exact Inv_s (zSx.rf _) (zSame.rf _) hI)) | ((exact zu_ne _ _ _ (by decide))) | fail)

theorem t_status {d dM N : Nat} {a : Int} {x m : zM} {Q : Int → zM → zM → Prop} (hd : 40 ≤ d) (hdM : 40 ≤ dM) (hNN : N ≤ 600) (hI : Inv N x m) (K : ∀ q x', MOK N dM 280 [zr 386, zi a] q x' m → Q q x' m) : WPc d 160 [zr 0, zi a] 403 [] x m 403 [] Q := by
  obtain ⟨hF, hIF, hK, hO⟩ := id hI
  have hX := hF.1
  have hIx := hIF.1
  have hB := hIx.1
  have hA := hIx.2.1
  have hN := hIx.2.2.1
  have hM := hIF.2.1
  have hE := hIF.2.2.1
  have hb := hB; unfold IB at hb
  have hRL := hX.2.1
  have hRA := hX.2.2.1
  have hRN := hX.2.2.2.1
  have e10 : x 1 0 = m 387 0 := hX.1.1
  have e11 : x 1 1 = m 387 1 := hX.1.2.1
  have hc := hO.1 (-a)
  apply r160
  repeat' (first | (with_reducible assumption) | (with_reducible rfl) | (with_reducible apply And.intro) | (with_reducible apply zIn_mk) | (with_reducible apply zLn_mk) | ((with_reducible intro _); try (exfalso; omega)) | omega | (with_reducible exact Or.inr trivial) | (with_reducible exact Or.inl trivial) | (with_reducible apply k161) | (with_reducible apply k162) | (with_reducible apply k163) | (with_reducible apply k164) | (with_reducible apply k165) | (with_reducible apply k166) | (with_reducible apply k167) | ((refine K _ _ ?_; intro Q' hQ; apply r280)) | (with_reducible apply s171) | (with_reducible apply s172) | (with_reducible apply s173) | (with_reducible apply s174) | (with_reducible apply s175) | (with_reducible apply s176) | ((refine zQe (hQ _ _ ?_ ?_) ?_)) | ((exact zP_ne _ _ (by decide))) | ((exact zP_eq _ _)) | ((exact Inv_c (by omega) (by omega) hI)) | ((exact Inv_s (zSx.rf _) (zSame.rf _) hI)) | ((exact zu_ne _ _ _ (by decide))) | fail)

