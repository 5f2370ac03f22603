/-! ONE LEDGER BECOMES ANOTHER -/
theorem c30_169_7 {d : Nat} {p : Int → Int} {x m : zM} {Q : Int → zM → zM → Prop} (hd : 1 ≤ d) (hL : RLd (x 7) (x 8) (x 9) (x 10) (x 11) (x 12) p) (hB : IB p) (h : ∀ x', (∀ k, k < 169 ∨ 174 < k → x' k = x k) → RLd (x' 169) (x' 170) (x' 171) (x' 172) (x' 173) (x' 174) p → Q 0 x' m) : WPc d 30 [zr 169, zr 7] 403 [] x m 403 [] Q := by
  have hb := hB; unfold IB at hb
  have e0 : x 7 0 = p 4 := hL.1
  apply r30_169_7
  repeat' (first | (with_reducible assumption) | (with_reducible rfl) | (with_reducible apply And.intro) | (with_reducible apply zIn_mk) | (with_reducible apply zLn_mk) | (simp (disch := omega) only [zu_ne, zu_eq, zcpy_ne, up_ne, up_at, e0]) | ((with_reducible intro _); try (exfalso; omega)) | omega | (with_reducible exact Or.inr trivial) | (with_reducible exact Or.inl trivial) | (with_reducible apply r30_169_7_c25) | (with_reducible apply r30_169_7_c42) | (with_reducible apply r30_169_7_c59) | (with_reducible apply r30_169_7_c76) | (with_reducible apply r30_169_7_c91) | ((refine h _ ?_ ?_)) | fail)
  · refine ⟨?_, fun k k0 k1 => ?_, fun k k0 k1 => ?_, ?_, ?_⟩
    · simp (disch := omega) only [up_ne, up_at]
    · have r := hL.2.1 k k0 k1
      simp (disch := omega) only [zcpy_in, zcpy_ne, zu_ne, Int.sub_zero, Int.zero_add]
      exact r
    · have r := hL.2.2.1 k k0 k1
      simp (disch := omega) only [zcpy_in, zcpy_ne, zu_ne, Int.sub_zero, Int.zero_add]
      exact r
    · simp (disch := omega) only [up_ne, up_at]; exact hL.2.2.2.1
    · simp (disch := omega) only [up_ne, up_at]; exact hL.2.2.2.2

theorem c30_7_169 {d : Nat} {p : Int → Int} {x m : zM} {Q : Int → zM → zM → Prop} (hd : 1 ≤ d) (hL : RLd (x 169) (x 170) (x 171) (x 172) (x 173) (x 174) p) (hB : IB p) (h : ∀ x', (∀ k, k < 7 ∨ 12 < k → x' k = x k) → RLd (x' 7) (x' 8) (x' 9) (x' 10) (x' 11) (x' 12) p → Q 0 x' m) : WPc d 30 [zr 7, zr 169] 403 [] x m 403 [] Q := by
  have hb := hB; unfold IB at hb
  have e0 : x 169 0 = p 4 := hL.1
  apply r30_7_169
  repeat' (first | (with_reducible assumption) | (with_reducible rfl) | (with_reducible apply And.intro) | (with_reducible apply zIn_mk) | (with_reducible apply zLn_mk) | (simp (disch := omega) only [zu_ne, zu_eq, zcpy_ne, up_ne, up_at, e0]) | ((with_reducible intro _); try (exfalso; omega)) | omega | (with_reducible exact Or.inr trivial) | (with_reducible exact Or.inl trivial) | (with_reducible apply r30_7_169_c25) | (with_reducible apply r30_7_169_c42) | (with_reducible apply r30_7_169_c59) | (with_reducible apply r30_7_169_c76) | (with_reducible apply r30_7_169_c91) | ((refine h _ ?_ ?_)) | fail)
  · refine ⟨?_, fun k k0 k1 => ?_, fun k k0 k1 => ?_, ?_, ?_⟩
    · simp (disch := omega) only [up_ne, up_at]
    · have r := hL.2.1 k k0 k1
      simp (disch := omega) only [zcpy_in, zcpy_ne, zu_ne, Int.sub_zero, Int.zero_add]
      exact r
    · have r := hL.2.2.1 k k0 k1
      simp (disch := omega) only [zcpy_in, zcpy_ne, zu_ne, Int.sub_zero, Int.zero_add]
      exact r
    · simp (disch := omega) only [up_ne, up_at]; exact hL.2.2.2.1
    · simp (disch := omega) only [up_ne, up_at]; exact hL.2.2.2.2

theorem c30_363_7 {d : Nat} {p : Int → Int} {x m : zM} {Q : Int → zM → zM → Prop} (hd : 1 ≤ d) (hL : RLd (x 7) (x 8) (x 9) (x 10) (x 11) (x 12) p) (hB : IB p) (h : ∀ x', (∀ k, k < 363 ∨ 368 < k → x' k = x k) → RLd (x' 363) (x' 364) (x' 365) (x' 366) (x' 367) (x' 368) p → Q 0 x' m) : WPc d 30 [zr 363, zr 7] 403 [] x m 403 [] Q := by
  have hb := hB; unfold IB at hb
  have e0 : x 7 0 = p 4 := hL.1
  apply r30_363_7
  repeat' (first | (with_reducible assumption) | (with_reducible rfl) | (with_reducible apply And.intro) | (with_reducible apply zIn_mk) | (with_reducible apply zLn_mk) | (simp (disch := omega) only [zu_ne, zu_eq, zcpy_ne, up_ne, up_at, e0]) | ((with_reducible intro _); try (exfalso; omega)) | omega | (with_reducible exact Or.inr trivial) | (with_reducible exact Or.inl trivial) | (with_reducible apply r30_363_7_c25) | (with_reducible apply r30_363_7_c42) | (with_reducible apply r30_363_7_c59) | (with_reducible apply r30_363_7_c76) | (with_reducible apply r30_363_7_c91) | ((refine h _ ?_ ?_)) | fail)
  · refine ⟨?_, fun k k0 k1 => ?_, fun k k0 k1 => ?_, ?_, ?_⟩
    · simp (disch := omega) only [up_ne, up_at]
    · have r := hL.2.1 k k0 k1
      simp (disch := omega) only [zcpy_in, zcpy_ne, zu_ne, Int.sub_zero, Int.zero_add]
      exact r
    · have r := hL.2.2.1 k k0 k1
      simp (disch := omega) only [zcpy_in, zcpy_ne, zu_ne, Int.sub_zero, Int.zero_add]
      exact r
    · simp (disch := omega) only [up_ne, up_at]; exact hL.2.2.2.1
    · simp (disch := omega) only [up_ne, up_at]; exact hL.2.2.2.2

