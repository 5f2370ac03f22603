/-! A TILL BECOMES ANOTHER -/
theorem c111_150_312 {d : Nat} {p : Int → Int} {x m : zM} {Q : Int → zM → zM → Prop} (hd : 1 ≤ d) (hL : RT (x 312) (x 313) (x 314) (x 315) (x 316) (x 317) (x 318) p) (hB : IB p) (h : ∀ x', (∀ k, k < 150 ∨ 156 < k → x' k = x k) → RT (x' 150) (x' 151) (x' 152) (x' 153) (x' 154) (x' 155) (x' 156) p → Q 0 x' m) : WPc d 111 [zr 150, zr 312] 403 [] x m 403 [] Q := by
  have hb := hB; unfold IB at hb
  have e1 : x 312 1 = p 8 := hL.1
  have e4 : x 312 4 = p 7 := hL.2.1
  apply r111_150_312
  repeat' (first | (with_reducible assumption) | (with_reducible rfl) | (with_reducible apply And.intro) | (with_reducible apply zIn_mk) | (with_reducible apply zLn_mk) | (simp (disch := omega) only [zu_ne, zu_eq, zcpy_ne, up_ne, up_at, e1, e4]) | ((with_reducible intro _); try (exfalso; omega)) | omega | (with_reducible exact Or.inr trivial) | (with_reducible exact Or.inl trivial) | (with_reducible apply r111_150_312_c16) | (with_reducible apply r111_150_312_c41) | (with_reducible apply r111_150_312_c58) | (with_reducible apply r111_150_312_c83) | (with_reducible apply r111_150_312_c100) | ((refine h _ ?_ ?_)) | fail)
  · refine ⟨?_, ?_, fun k k0 k1 => ?_, fun k k0 k1 => ?_, fun k k0 k1 => ?_⟩
    · simp (disch := omega) only [up_ne, up_at]
    · simp (disch := omega) only [up_ne, up_at]
    · have r := hL.2.2.1 k k0 k1
      simp (disch := omega) only [zcpy_in, zcpy_ne, zu_ne, Int.sub_zero, Int.zero_add]
      exact r
    · have r := hL.2.2.2.1 k k0 k1
      simp (disch := omega) only [zcpy_in, zcpy_ne, zu_ne, Int.sub_zero, Int.zero_add]
      exact r
    · have r := hL.2.2.2.2 k k0 k1
      simp (disch := omega) only [zcpy_in, zcpy_ne, zu_ne, Int.sub_zero, Int.zero_add]
      exact r

theorem c111_312_150 {d : Nat} {p : Int → Int} {x m : zM} {Q : Int → zM → zM → Prop} (hd : 1 ≤ d) (hL : RT (x 150) (x 151) (x 152) (x 153) (x 154) (x 155) (x 156) p) (hB : IB p) (h : ∀ x', (∀ k, k < 312 ∨ 318 < k → x' k = x k) → RT (x' 312) (x' 313) (x' 314) (x' 315) (x' 316) (x' 317) (x' 318) p → Q 0 x' m) : WPc d 111 [zr 312, zr 150] 403 [] x m 403 [] Q := by
  have hb := hB; unfold IB at hb
  have e1 : x 150 1 = p 8 := hL.1
  have e4 : x 150 4 = p 7 := hL.2.1
  apply r111_312_150
  repeat' (first | (with_reducible assumption) | (with_reducible rfl) | (with_reducible apply And.intro) | (with_reducible apply zIn_mk) | (with_reducible apply zLn_mk) | (simp (disch := omega) only [zu_ne, zu_eq, zcpy_ne, up_ne, up_at, e1, e4]) | ((with_reducible intro _); try (exfalso; omega)) | omega | (with_reducible exact Or.inr trivial) | (with_reducible exact Or.inl trivial) | (with_reducible apply r111_312_150_c16) | (with_reducible apply r111_312_150_c41) | (with_reducible apply r111_312_150_c58) | (with_reducible apply r111_312_150_c83) | (with_reducible apply r111_312_150_c100) | ((refine h _ ?_ ?_)) | fail)
  · refine ⟨?_, ?_, fun k k0 k1 => ?_, fun k k0 k1 => ?_, fun k k0 k1 => ?_⟩
    · simp (disch := omega) only [up_ne, up_at]
    · simp (disch := omega) only [up_ne, up_at]
    · have r := hL.2.2.1 k k0 k1
      simp (disch := omega) only [zcpy_in, zcpy_ne, zu_ne, Int.sub_zero, Int.zero_add]
      exact r
    · have r := hL.2.2.2.1 k k0 k1
      simp (disch := omega) only [zcpy_in, zcpy_ne, zu_ne, Int.sub_zero, Int.zero_add]
      exact r
    · have r := hL.2.2.2.2 k k0 k1
      simp (disch := omega) only [zcpy_in, zcpy_ne, zu_ne, Int.sub_zero, Int.zero_add]
      exact r

