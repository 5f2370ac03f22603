/-! LOANS BECOME OTHERS -/
theorem c61_234_72 {d : Nat} {p : Int → Int} {x m : zM} {Q : Int → zM → zM → Prop} (hd : 1 ≤ d) (hL : RN (x 72) (x 73) (x 74) (x 75) (x 76) (x 77) (x 78) (x 79) (x 80) (x 81) (x 82) (x 83) (x 84) (x 85) (x 86) (x 87) p) (hB : IB p) (h : ∀ x', (∀ k, k < 234 ∨ 249 < k → x' k = x k) → RN (x' 234) (x' 235) (x' 236) (x' 237) (x' 238) (x' 239) (x' 240) (x' 241) (x' 242) (x' 243) (x' 244) (x' 245) (x' 246) (x' 247) (x' 248) (x' 249) p → Q 0 x' m) : WPc d 61 [zr 234, zr 72] 403 [] x m 403 [] Q := by
  have hb := hB; unfold IB at hb
  have e0 : x 72 0 = p 3 := hL.1
  apply r61_234_72
  repeat' (first | (with_reducible assumption) | (with_reducible rfl) | (with_reducible apply And.intro) | (with_reducible apply zIn_mk) | (with_reducible apply zLn_mk) | (simp (disch := omega) only [zu_ne, zu_eq, zcpy_ne, up_ne, up_at, e0]) | ((with_reducible intro _); try (exfalso; omega)) | omega | (with_reducible exact Or.inr trivial) | (with_reducible exact Or.inl trivial) | (with_reducible apply r61_234_72_c25) | (with_reducible apply r61_234_72_c42) | (with_reducible apply r61_234_72_c59) | (with_reducible apply r61_234_72_c76) | (with_reducible apply r61_234_72_c93) | (with_reducible apply r61_234_72_c110) | (with_reducible apply r61_234_72_c127) | (with_reducible apply r61_234_72_c144) | (with_reducible apply r61_234_72_c161) | (with_reducible apply r61_234_72_c178) | (with_reducible apply r61_234_72_c195) | (with_reducible apply r61_234_72_c212) | (with_reducible apply r61_234_72_c229) | (with_reducible apply r61_234_72_c246) | ((refine h _ ?_ ?_)) | fail)
  · refine ⟨?_, fun k k0 k1 => ?_⟩
    · simp (disch := omega) only [up_ne, up_at]
    · have r := hL.2 k k0 k1
      simp (disch := omega) only [zcpy_in, zcpy_ne, zu_ne, Int.sub_zero, Int.zero_add]
      exact r

theorem c61_72_234 {d : Nat} {p : Int → Int} {x m : zM} {Q : Int → zM → zM → Prop} (hd : 1 ≤ d) (hL : RN (x 234) (x 235) (x 236) (x 237) (x 238) (x 239) (x 240) (x 241) (x 242) (x 243) (x 244) (x 245) (x 246) (x 247) (x 248) (x 249) p) (hB : IB p) (h : ∀ x', (∀ k, k < 72 ∨ 87 < k → x' k = x k) → RN (x' 72) (x' 73) (x' 74) (x' 75) (x' 76) (x' 77) (x' 78) (x' 79) (x' 80) (x' 81) (x' 82) (x' 83) (x' 84) (x' 85) (x' 86) (x' 87) p → Q 0 x' m) : WPc d 61 [zr 72, zr 234] 403 [] x m 403 [] Q := by
  have hb := hB; unfold IB at hb
  have e0 : x 234 0 = p 3 := hL.1
  apply r61_72_234
  repeat' (first | (with_reducible assumption) | (with_reducible rfl) | (with_reducible apply And.intro) | (with_reducible apply zIn_mk) | (with_reducible apply zLn_mk) | (simp (disch := omega) only [zu_ne, zu_eq, zcpy_ne, up_ne, up_at, e0]) | ((with_reducible intro _); try (exfalso; omega)) | omega | (with_reducible exact Or.inr trivial) | (with_reducible exact Or.inl trivial) | (with_reducible apply r61_72_234_c25) | (with_reducible apply r61_72_234_c42) | (with_reducible apply r61_72_234_c59) | (with_reducible apply r61_72_234_c76) | (with_reducible apply r61_72_234_c93) | (with_reducible apply r61_72_234_c110) | (with_reducible apply r61_72_234_c127) | (with_reducible apply r61_72_234_c144) | (with_reducible apply r61_72_234_c161) | (with_reducible apply r61_72_234_c178) | (with_reducible apply r61_72_234_c195) | (with_reducible apply r61_72_234_c212) | (with_reducible apply r61_72_234_c229) | (with_reducible apply r61_72_234_c246) | ((refine h _ ?_ ?_)) | fail)
  · refine ⟨?_, fun k k0 k1 => ?_⟩
    · simp (disch := omega) only [up_ne, up_at]
    · have r := hL.2 k k0 k1
      simp (disch := omega) only [zcpy_in, zcpy_ne, zu_ne, Int.sub_zero, Int.zero_add]
      exact r

theorem c61_370_72 {d : Nat} {p : Int → Int} {x m : zM} {Q : Int → zM → zM → Prop} (hd : 1 ≤ d) (hL : RN (x 72) (x 73) (x 74) (x 75) (x 76) (x 77) (x 78) (x 79) (x 80) (x 81) (x 82) (x 83) (x 84) (x 85) (x 86) (x 87) p) (hB : IB p) (h : ∀ x', (∀ k, k < 370 ∨ 385 < k → x' k = x k) → RN (x' 370) (x' 371) (x' 372) (x' 373) (x' 374) (x' 375) (x' 376) (x' 377) (x' 378) (x' 379) (x' 380) (x' 381) (x' 382) (x' 383) (x' 384) (x' 385) p → Q 0 x' m) : WPc d 61 [zr 370, zr 72] 403 [] x m 403 [] Q := by
  have hb := hB; unfold IB at hb
  have e0 : x 72 0 = p 3 := hL.1
  apply r61_370_72
  repeat' (first | (with_reducible assumption) | (with_reducible rfl) | (with_reducible apply And.intro) | (with_reducible apply zIn_mk) | (with_reducible apply zLn_mk) | (simp (disch := omega) only [zu_ne, zu_eq, zcpy_ne, up_ne, up_at, e0]) | ((with_reducible intro _); try (exfalso; omega)) | omega | (with_reducible exact Or.inr trivial) | (with_reducible exact Or.inl trivial) | (with_reducible apply r61_370_72_c25) | (with_reducible apply r61_370_72_c42) | (with_reducible apply r61_370_72_c59) | (with_reducible apply r61_370_72_c76) | (with_reducible apply r61_370_72_c93) | (with_reducible apply r61_370_72_c110) | (with_reducible apply r61_370_72_c127) | (with_reducible apply r61_370_72_c144) | (with_reducible apply r61_370_72_c161) | (with_reducible apply r61_370_72_c178) | (with_reducible apply r61_370_72_c195) | (with_reducible apply r61_370_72_c212) | (with_reducible apply r61_370_72_c229) | (with_reducible apply r61_370_72_c246) | ((refine h _ ?_ ?_)) | fail)
  · refine ⟨?_, fun k k0 k1 => ?_⟩
    · simp (disch := omega) only [up_ne, up_at]
    · have r := hL.2 k k0 k1
      simp (disch := omega) only [zcpy_in, zcpy_ne, zu_ne, Int.sub_zero, Int.zero_add]
      exact r

