/-! ASKS, RULES AND YEARS BECOME OTHERS -/
theorem zcpy_row (x : zM) {ks kd : Nat} {n j w k : Int} (k0 : 0 ≤ k) (k1 : k < n) : zcpy x ks (j * w + 0) kd (j * w + 0) n kd (j * w + k) = x ks (j * w + k) := by
  generalize j * w = t
  rw [zcpy_in _ (by omega), show t + 0 + (t + k - (t + 0)) = t + k by omega]
theorem c7_14_176 {d : Nat} {p : Int → Int} {x m : zM} {Q : Int → zM → zM → Prop} (hd : 1 ≤ d) (hL : RA (x 176) (x 177) (x 178) (x 179) (x 180) (x 181) (x 182) (x 183) (x 184) (x 209) p) (hB : IB p) (h : ∀ x', (∀ k, k < 14 ∨ 47 < k → x' k = x k) → RA (x' 14) (x' 15) (x' 16) (x' 17) (x' 18) (x' 19) (x' 20) (x' 21) (x' 22) (x' 47) p → Q 0 x' m) : WPc d 7 [zr 14, zr 176] 403 [] x m 403 [] Q := by
  have hb := hB; unfold IB at hb
  have e0 : x 176 0 = p 2 := hL.1
  have step : ∀ j, 0 ≤ j → j ≤ p 2 → ∀ x', (∀ k, k < 14 ∨ 47 < k → x' k = x k) → x' 14 0 = p 2 → (∀ k, 0 ≤ k → k < p 2 → x' 15 k = p (90 + k) ∧ x' 16 k = p (114 + k) ∧ x' 17 k = p (138 + k) ∧ x' 18 k = p (162 + k) ∧ x' 19 k = p (186 + k) ∧ x' 20 k = p (210 + k) ∧ x' 21 k = p (234 + k)) → (∀ k i, 0 ≤ k → k < j → 0 ≤ i → i < 4 → i < p (234 + k) → x' 22 (k * 4 + i) = p (258 + 4 * k + i) ∧ x' 47 (k * 4 + i) = p (354 + 4 * k + i)) → WP d 7 129 [(0, zr 14), (1, zr 176), (2, zi j)] [] 403 [] x' m 403 [] Q := by
    refine zdown _ _ ?_
    intro j j0 j1 ih x' M1 M2 M3 M4
    apply r7_14_176_c129
    simp only [M2]
    by_cases c : j < p 2
    · have ih' := ih c (zcpy (zcpy x' 184 (j * 4 + 0) 22 (j * 4 + 0) 4) 209 (j * 4 + 0) 47 (j * 4 + 0) 4) (fun k k0 => by rw [zcpy_ne _ _ _ _ (by omega), zcpy_ne _ _ _ _ (by omega)]; exact M1 k k0) (by rw [zcpy_ne _ _ _ _ (by decide), zcpy_ne _ _ _ _ (by decide)]; exact M2) (fun k k0 k1 => by simp (disch := omega) only [zcpy_ne]; exact M3 k k0 k1) (fun k i k0 k1 i0 i1 i2 => by
        by_cases ck : k = j
        · have r := hL.2.2 k i k0 (by omega) i0 i1 i2
          rw [ck] at r ⊢
          simp (disch := omega) only [zcpy_ne, zcpy_row, M1]
          exact r
        · have r := M4 k i k0 (by omega) i0 i1 i2
          simp (disch := omega) only [zcpy_ne, zcpy_out]
          exact r)
      clear ih h
      repeat' (first | (with_reducible assumption) | (with_reducible rfl) | (with_reducible apply And.intro) | (with_reducible apply zIn_mk) | (with_reducible apply zLn_mk) | ((with_reducible intro _); try (exfalso; omega)) | omega | (with_reducible exact Or.inr trivial) | (with_reducible exact Or.inl trivial) | (with_reducible apply r7_14_176_c155) | (with_reducible apply r7_14_176_c173) | ((exact ih')) | fail)
    · have h2 := h x' M1 ⟨M2, M3, fun k i k0 k1 i0 i1 i2 => M4 k i k0 (by omega) i0 i1 i2⟩
      clear ih h
      repeat' (first | (with_reducible assumption) | (with_reducible rfl) | (with_reducible apply And.intro) | (with_reducible apply zIn_mk) | (with_reducible apply zLn_mk) | ((with_reducible intro _); try (exfalso; omega)) | omega | (with_reducible exact Or.inr trivial) | (with_reducible exact Or.inl trivial) | ((exact h2)) | fail)
  obtain ⟨G, hG⟩ : ∃ G : zM → Prop, G = fun x' => (∀ k, k < 14 ∨ 47 < k → x' k = x k) ∧ x' 14 0 = p 2 ∧ (∀ k, 0 ≤ k → k < p 2 → x' 15 k = p (90 + k) ∧ x' 16 k = p (114 + k) ∧ x' 17 k = p (138 + k) ∧ x' 18 k = p (162 + k) ∧ x' 19 k = p (186 + k) ∧ x' 20 k = p (210 + k) ∧ x' 21 k = p (234 + k)) := ⟨_, rfl⟩
  have start : ∀ x', G x' → WP d 7 127 [(0, zr 14), (1, zr 176)] [] 403 [] x' m 403 [] Q := fun x' g => by
    rw [hG] at g
    apply r7_14_176_c127
    exact step 0 (by omega) (by omega) x' g.1 g.2.1 g.2.2 (fun k i k0 k1 => by omega)
  clear step h
  apply r7_14_176
  repeat' (first | (with_reducible assumption) | (with_reducible rfl) | (with_reducible apply And.intro) | (with_reducible apply zIn_mk) | (with_reducible apply zLn_mk) | (simp (disch := omega) only [zu_ne, zu_eq, zcpy_ne, up_ne, up_at, e0]) | ((with_reducible intro _); try (exfalso; omega)) | omega | (with_reducible exact Or.inr trivial) | (with_reducible exact Or.inl trivial) | (with_reducible apply r7_14_176_c25) | (with_reducible apply r7_14_176_c42) | (with_reducible apply r7_14_176_c59) | (with_reducible apply r7_14_176_c76) | (with_reducible apply r7_14_176_c93) | (with_reducible apply r7_14_176_c110) | ((refine start _ ?_)) | fail)
  rw [hG]
  refine ⟨fun k k0 => ?_, ?_, fun k k0 k1 => ?_⟩
  · simp (disch := omega) only [zcpy_ne, zu_ne]
  · simp (disch := omega) only [zcpy_ne, zu_eq, up_at]
  · have r := hL.2.1 k k0 k1
    simp (disch := omega) only [zcpy_in, zcpy_ne, zu_ne, Int.sub_zero, Int.zero_add]
    exact r

theorem c7_176_14 {d : Nat} {p : Int → Int} {x m : zM} {Q : Int → zM → zM → Prop} (hd : 1 ≤ d) (hL : RA (x 14) (x 15) (x 16) (x 17) (x 18) (x 19) (x 20) (x 21) (x 22) (x 47) p) (hB : IB p) (h : ∀ x', (∀ k, k < 176 ∨ 209 < k → x' k = x k) → RA (x' 176) (x' 177) (x' 178) (x' 179) (x' 180) (x' 181) (x' 182) (x' 183) (x' 184) (x' 209) p → Q 0 x' m) : WPc d 7 [zr 176, zr 14] 403 [] x m 403 [] Q := by
  have hb := hB; unfold IB at hb
  have e0 : x 14 0 = p 2 := hL.1
  have step : ∀ j, 0 ≤ j → j ≤ p 2 → ∀ x', (∀ k, k < 176 ∨ 209 < k → x' k = x k) → x' 176 0 = p 2 → (∀ k, 0 ≤ k → k < p 2 → x' 177 k = p (90 + k) ∧ x' 178 k = p (114 + k) ∧ x' 179 k = p (138 + k) ∧ x' 180 k = p (162 + k) ∧ x' 181 k = p (186 + k) ∧ x' 182 k = p (210 + k) ∧ x' 183 k = p (234 + k)) → (∀ k i, 0 ≤ k → k < j → 0 ≤ i → i < 4 → i < p (234 + k) → x' 184 (k * 4 + i) = p (258 + 4 * k + i) ∧ x' 209 (k * 4 + i) = p (354 + 4 * k + i)) → WP d 7 129 [(0, zr 176), (1, zr 14), (2, zi j)] [] 403 [] x' m 403 [] Q := by
    refine zdown _ _ ?_
    intro j j0 j1 ih x' M1 M2 M3 M4
    apply r7_176_14_c129
    simp only [M2]
    by_cases c : j < p 2
    · have ih' := ih c (zcpy (zcpy x' 22 (j * 4 + 0) 184 (j * 4 + 0) 4) 47 (j * 4 + 0) 209 (j * 4 + 0) 4) (fun k k0 => by rw [zcpy_ne _ _ _ _ (by omega), zcpy_ne _ _ _ _ (by omega)]; exact M1 k k0) (by rw [zcpy_ne _ _ _ _ (by decide), zcpy_ne _ _ _ _ (by decide)]; exact M2) (fun k k0 k1 => by simp (disch := omega) only [zcpy_ne]; exact M3 k k0 k1) (fun k i k0 k1 i0 i1 i2 => by
        by_cases ck : k = j
        · have r := hL.2.2 k i k0 (by omega) i0 i1 i2
          rw [ck] at r ⊢
          simp (disch := omega) only [zcpy_ne, zcpy_row, M1]
          exact r
        · have r := M4 k i k0 (by omega) i0 i1 i2
          simp (disch := omega) only [zcpy_ne, zcpy_out]
          exact r)
      clear ih h
      repeat' (first | (with_reducible assumption) | (with_reducible rfl) | (with_reducible apply And.intro) | (with_reducible apply zIn_mk) | (with_reducible apply zLn_mk) | ((with_reducible intro _); try (exfalso; omega)) | omega | (with_reducible exact Or.inr trivial) | (with_reducible exact Or.inl trivial) | (with_reducible apply r7_176_14_c155) | (with_reducible apply r7_176_14_c173) | ((exact ih')) | fail)
    · have h2 := h x' M1 ⟨M2, M3, fun k i k0 k1 i0 i1 i2 => M4 k i k0 (by omega) i0 i1 i2⟩
      clear ih h
      repeat' (first | (with_reducible assumption) | (with_reducible rfl) | (with_reducible apply And.intro) | (with_reducible apply zIn_mk) | (with_reducible apply zLn_mk) | ((with_reducible intro _); try (exfalso; omega)) | omega | (with_reducible exact Or.inr trivial) | (with_reducible exact Or.inl trivial) | ((exact h2)) | fail)
  obtain ⟨G, hG⟩ : ∃ G : zM → Prop, G = fun x' => (∀ k, k < 176 ∨ 209 < k → x' k = x k) ∧ x' 176 0 = p 2 ∧ (∀ k, 0 ≤ k → k < p 2 → x' 177 k = p (90 + k) ∧ x' 178 k = p (114 + k) ∧ x' 179 k = p (138 + k) ∧ x' 180 k = p (162 + k) ∧ x' 181 k = p (186 + k) ∧ x' 182 k = p (210 + k) ∧ x' 183 k = p (234 + k)) := ⟨_, rfl⟩
  have start : ∀ x', G x' → WP d 7 127 [(0, zr 176), (1, zr 14)] [] 403 [] x' m 403 [] Q := fun x' g => by
    rw [hG] at g
    apply r7_176_14_c127
    exact step 0 (by omega) (by omega) x' g.1 g.2.1 g.2.2 (fun k i k0 k1 => by omega)
  clear step h
  apply r7_176_14
  repeat' (first | (with_reducible assumption) | (with_reducible rfl) | (with_reducible apply And.intro) | (with_reducible apply zIn_mk) | (with_reducible apply zLn_mk) | (simp (disch := omega) only [zu_ne, zu_eq, zcpy_ne, up_ne, up_at, e0]) | ((with_reducible intro _); try (exfalso; omega)) | omega | (with_reducible exact Or.inr trivial) | (with_reducible exact Or.inl trivial) | (with_reducible apply r7_176_14_c25) | (with_reducible apply r7_176_14_c42) | (with_reducible apply r7_176_14_c59) | (with_reducible apply r7_176_14_c76) | (with_reducible apply r7_176_14_c93) | (with_reducible apply r7_176_14_c110) | ((refine start _ ?_)) | fail)
  rw [hG]
  refine ⟨fun k k0 => ?_, ?_, fun k k0 k1 => ?_⟩
  · simp (disch := omega) only [zcpy_ne, zu_ne]
  · simp (disch := omega) only [zcpy_ne, zu_eq, up_at]
  · have r := hL.2.1 k k0 k1
    simp (disch := omega) only [zcpy_in, zcpy_ne, zu_ne, Int.sub_zero, Int.zero_add]
    exact r

theorem c100_88_250 {d : Nat} {p : Int → Int} {x m : zM} {Q : Int → zM → zM → Prop} (hd : 1 ≤ d) (hL : RRd (x 250) (x 251) (x 252) (x 253) (x 254) (x 255) (x 256) p) (hB : IB p) (hR : IR p) (h : ∀ x', (∀ k, k < 88 ∨ 94 < k → x' k = x k) → RRd (x' 88) (x' 89) (x' 90) (x' 91) (x' 92) (x' 93) (x' 94) p → Q 0 x' m) : WPc d 100 [zr 88, zr 250] 403 [] x m 403 [] Q := by
  have hb := hB; unfold IB at hb
  have e0 : x 250 0 = p 5 := hL.1
  have le : ∀ r, 0 ≤ r → r < p 5 → 0 ≤ p (3538 + r) ∧ p (3538 + r) ≤ 120 := fun r r0 r1 => by have := hR.1 r r0 r1; unfold IRr at this; omega
  have step : ∀ j, 0 ≤ j → j ≤ p 5 → ∀ x', (∀ k, k < 88 ∨ 94 < k → x' k = x k) → x' 88 0 = p 5 → (∀ k, 0 ≤ k → k < p 5 → x' 89 k = p (3490 + k) ∧ x' 90 k = p (3502 + k) ∧ x' 91 k = p (3514 + k) ∧ x' 92 k = p (3526 + k) ∧ x' 93 k = p (3538 + k)) → (∀ k i, 0 ≤ k → k < j → 0 ≤ i → i < p (3538 + k) → x' 94 (k * 120 + i) = gCc (p (3550 + 130 * k + i))) → WP d 100 95 [(0, zr 88), (1, zr 250), (2, zi j)] [] 403 [] x' m 403 [] Q := by
    refine zdown _ _ ?_
    intro j j0 j1 ih x' M1 M2 M3 M4
    apply r100_88_250_c95
    simp only [M2]
    by_cases c : j < p 5
    · have e5 := (M3 j j0 c).2.2.2.2
      have lj := le j j0 c
      simp only [e5]
      have ih' := ih c (zcpy x' 256 (j * 120 + 0) 94 (j * 120 + 0) (p (3538 + j))) (fun k k0 => by rw [zcpy_ne _ _ _ _ (by omega)]; exact M1 k k0) (by rw [zcpy_ne _ _ _ _ (by decide)]; exact M2) (fun k k0 k1 => by simp (disch := omega) only [zcpy_ne]; exact M3 k k0 k1) (fun k i k0 k1 i0 i1 => by
        by_cases ck : k = j
        · have r := hL.2.2 k i k0 (by omega) i0 i1
          rw [ck] at r i1 ⊢
          rw [zcpy_row _ i0 i1, M1 _ (by omega)]
          exact r
        · have r := M4 k i k0 (by omega) i0 i1
          have lk := le k k0 (by omega)
          rw [zcpy_out _ (by omega)]
          exact r)
      clear ih h
      repeat' (first | (with_reducible assumption) | (with_reducible rfl) | (with_reducible apply And.intro) | (with_reducible apply zIn_mk) | (with_reducible apply zLn_mk) | ((with_reducible intro _); try (exfalso; omega)) | omega | (with_reducible exact Or.inr trivial) | (with_reducible exact Or.inl trivial) | (with_reducible apply r100_88_250_c126) | ((exact ih')) | fail)
    · have h2 := h x' M1 ⟨M2, M3, fun k i k0 k1 i0 i1 => M4 k i k0 (by omega) i0 i1⟩
      clear ih h
      repeat' (first | (with_reducible assumption) | (with_reducible rfl) | (with_reducible apply And.intro) | (with_reducible apply zIn_mk) | (with_reducible apply zLn_mk) | ((with_reducible intro _); try (exfalso; omega)) | omega | (with_reducible exact Or.inr trivial) | (with_reducible exact Or.inl trivial) | ((exact h2)) | fail)
  obtain ⟨G, hG⟩ : ∃ G : zM → Prop, G = fun x' => (∀ k, k < 88 ∨ 94 < k → x' k = x k) ∧ x' 88 0 = p 5 ∧ (∀ k, 0 ≤ k → k < p 5 → x' 89 k = p (3490 + k) ∧ x' 90 k = p (3502 + k) ∧ x' 91 k = p (3514 + k) ∧ x' 92 k = p (3526 + k) ∧ x' 93 k = p (3538 + k)) := ⟨_, rfl⟩
  have start : ∀ x', G x' → WP d 100 93 [(0, zr 88), (1, zr 250)] [] 403 [] x' m 403 [] Q := fun x' g => by
    rw [hG] at g
    apply r100_88_250_c93
    exact step 0 (by omega) (by omega) x' g.1 g.2.1 g.2.2 (fun k i k0 k1 => by omega)
  clear step h
  apply r100_88_250
  repeat' (first | (with_reducible assumption) | (with_reducible rfl) | (with_reducible apply And.intro) | (with_reducible apply zIn_mk) | (with_reducible apply zLn_mk) | (simp (disch := omega) only [zu_ne, zu_eq, zcpy_ne, up_ne, up_at, e0]) | ((with_reducible intro _); try (exfalso; omega)) | omega | (with_reducible exact Or.inr trivial) | (with_reducible exact Or.inl trivial) | (with_reducible apply r100_88_250_c25) | (with_reducible apply r100_88_250_c42) | (with_reducible apply r100_88_250_c59) | (with_reducible apply r100_88_250_c76) | ((refine start _ ?_)) | fail)
  rw [hG]
  refine ⟨fun k k0 => ?_, ?_, fun k k0 k1 => ?_⟩
  · simp (disch := omega) only [zcpy_ne, zu_ne]
  · simp (disch := omega) only [zcpy_ne, zu_eq, up_at]
  · have r := hL.2.1 k k0 k1
    simp (disch := omega) only [zcpy_in, zcpy_ne, zu_ne, Int.sub_zero, Int.zero_add]
    exact r

theorem c100_250_88 {d : Nat} {p : Int → Int} {x m : zM} {Q : Int → zM → zM → Prop} (hd : 1 ≤ d) (hL : RRd (x 88) (x 89) (x 90) (x 91) (x 92) (x 93) (x 94) p) (hB : IB p) (hR : IR p) (h : ∀ x', (∀ k, k < 250 ∨ 256 < k → x' k = x k) → RRd (x' 250) (x' 251) (x' 252) (x' 253) (x' 254) (x' 255) (x' 256) p → Q 0 x' m) : WPc d 100 [zr 250, zr 88] 403 [] x m 403 [] Q := by
  have hb := hB; unfold IB at hb
  have e0 : x 88 0 = p 5 := hL.1
  have le : ∀ r, 0 ≤ r → r < p 5 → 0 ≤ p (3538 + r) ∧ p (3538 + r) ≤ 120 := fun r r0 r1 => by have := hR.1 r r0 r1; unfold IRr at this; omega
  have step : ∀ j, 0 ≤ j → j ≤ p 5 → ∀ x', (∀ k, k < 250 ∨ 256 < k → x' k = x k) → x' 250 0 = p 5 → (∀ k, 0 ≤ k → k < p 5 → x' 251 k = p (3490 + k) ∧ x' 252 k = p (3502 + k) ∧ x' 253 k = p (3514 + k) ∧ x' 254 k = p (3526 + k) ∧ x' 255 k = p (3538 + k)) → (∀ k i, 0 ≤ k → k < j → 0 ≤ i → i < p (3538 + k) → x' 256 (k * 120 + i) = gCc (p (3550 + 130 * k + i))) → WP d 100 95 [(0, zr 250), (1, zr 88), (2, zi j)] [] 403 [] x' m 403 [] Q := by
    refine zdown _ _ ?_
    intro j j0 j1 ih x' M1 M2 M3 M4
    apply r100_250_88_c95
    simp only [M2]
    by_cases c : j < p 5
    · have e5 := (M3 j j0 c).2.2.2.2
      have lj := le j j0 c
      simp only [e5]
      have ih' := ih c (zcpy x' 94 (j * 120 + 0) 256 (j * 120 + 0) (p (3538 + j))) (fun k k0 => by rw [zcpy_ne _ _ _ _ (by omega)]; exact M1 k k0) (by rw [zcpy_ne _ _ _ _ (by decide)]; exact M2) (fun k k0 k1 => by simp (disch := omega) only [zcpy_ne]; exact M3 k k0 k1) (fun k i k0 k1 i0 i1 => by
        by_cases ck : k = j
        · have r := hL.2.2 k i k0 (by omega) i0 i1
          rw [ck] at r i1 ⊢
          rw [zcpy_row _ i0 i1, M1 _ (by omega)]
          exact r
        · have r := M4 k i k0 (by omega) i0 i1
          have lk := le k k0 (by omega)
          rw [zcpy_out _ (by omega)]
          exact r)
      clear ih h
      repeat' (first | (with_reducible assumption) | (with_reducible rfl) | (with_reducible apply And.intro) | (with_reducible apply zIn_mk) | (with_reducible apply zLn_mk) | ((with_reducible intro _); try (exfalso; omega)) | omega | (with_reducible exact Or.inr trivial) | (with_reducible exact Or.inl trivial) | (with_reducible apply r100_250_88_c126) | ((exact ih')) | fail)
    · have h2 := h x' M1 ⟨M2, M3, fun k i k0 k1 i0 i1 => M4 k i k0 (by omega) i0 i1⟩
      clear ih h
      repeat' (first | (with_reducible assumption) | (with_reducible rfl) | (with_reducible apply And.intro) | (with_reducible apply zIn_mk) | (with_reducible apply zLn_mk) | ((with_reducible intro _); try (exfalso; omega)) | omega | (with_reducible exact Or.inr trivial) | (with_reducible exact Or.inl trivial) | ((exact h2)) | fail)
  obtain ⟨G, hG⟩ : ∃ G : zM → Prop, G = fun x' => (∀ k, k < 250 ∨ 256 < k → x' k = x k) ∧ x' 250 0 = p 5 ∧ (∀ k, 0 ≤ k → k < p 5 → x' 251 k = p (3490 + k) ∧ x' 252 k = p (3502 + k) ∧ x' 253 k = p (3514 + k) ∧ x' 254 k = p (3526 + k) ∧ x' 255 k = p (3538 + k)) := ⟨_, rfl⟩
  have start : ∀ x', G x' → WP d 100 93 [(0, zr 250), (1, zr 88)] [] 403 [] x' m 403 [] Q := fun x' g => by
    rw [hG] at g
    apply r100_250_88_c93
    exact step 0 (by omega) (by omega) x' g.1 g.2.1 g.2.2 (fun k i k0 k1 => by omega)
  clear step h
  apply r100_250_88
  repeat' (first | (with_reducible assumption) | (with_reducible rfl) | (with_reducible apply And.intro) | (with_reducible apply zIn_mk) | (with_reducible apply zLn_mk) | (simp (disch := omega) only [zu_ne, zu_eq, zcpy_ne, up_ne, up_at, e0]) | ((with_reducible intro _); try (exfalso; omega)) | omega | (with_reducible exact Or.inr trivial) | (with_reducible exact Or.inl trivial) | (with_reducible apply r100_250_88_c25) | (with_reducible apply r100_250_88_c42) | (with_reducible apply r100_250_88_c59) | (with_reducible apply r100_250_88_c76) | ((refine start _ ?_)) | fail)
  rw [hG]
  refine ⟨fun k k0 => ?_, ?_, fun k k0 k1 => ?_⟩
  · simp (disch := omega) only [zcpy_ne, zu_ne]
  · simp (disch := omega) only [zcpy_ne, zu_eq, up_at]
  · have r := hL.2.1 k k0 k1
    simp (disch := omega) only [zcpy_in, zcpy_ne, zu_ne, Int.sub_zero, Int.zero_add]
    exact r

theorem c114_108_270 {d : Nat} {p w : Int → Int} {x m : zM} {Q : Int → zM → zM → Prop} (hd : 1 ≤ d) (hL : RY (x 270) (x 271) (x 279) (x 287) (x 295) (x 303) (x 311) p w) (h : ∀ x', (∀ k, k < 108 ∨ 149 < k → x' k = x k) → RY (x' 108) (x' 109) (x' 117) (x' 125) (x' 133) (x' 141) (x' 149) p w → Q 0 x' m) : WPc d 114 [zr 108, zr 270] 403 [] x m 403 [] Q := by
  have e0 : x 270 0 = p 6 := hL.1
  have e7 : x 270 7 = p 6160 := hL.2.1
  obtain ⟨G, hG⟩ : ∃ G : zM → Prop, G = fun x' => (∀ k, k < 108 ∨ 149 < k → x' k = x k) ∧ RY (x' 108) (x' 109) (x' 117) (x' 125) (x' 133) (x' 141) (x' 149) p w := ⟨_, rfl⟩
  have hq : ∀ x', G x' → Q 0 x' m := fun x' g => by rw [hG] at g; exact h x' g.1 g.2
  have step : ∀ j, 0 ≤ j → j ≤ 7 → ∀ x', (∀ k, k < 108 ∨ 149 < k → x' k = x k) → x' 108 0 = p 6 → (∀ y, 0 ≤ y → y < j → (∀ k, 0 ≤ k → k < 7 → x' 109 (y * 7 + k) = p (5647 + 7 * k + y)) ∧ (∀ k, 0 ≤ k → k < 16 → x' 117 (y * 16 + k) = p (5696 + 16 * y + k) ∧ x' 125 (y * 16 + k) = p (5808 + 16 * y + k) ∧ x' 141 (y * 16 + k) = p (6032 + 16 * y + k) ∧ x' 133 (y * 16 + k) = w (16 * y + k))) → WP d 114 10 [(0, zr 108), (1, zr 270), (2, zi j)] [] 403 [] x' m 403 [] Q := by
    refine zdown _ _ ?_
    intro j j0 j1 ih x' M1 M2 M3
    apply r114_108_270_c10
    by_cases c : j < 7
    · have ih' := ih c (zcpy (zcpy (zcpy (zcpy (zcpy x' 271 (j * 7 + 0) 109 (j * 7 + 0) 7) 279 (j * 16 + 0) 117 (j * 16 + 0) 16) 287 (j * 16 + 0) 125 (j * 16 + 0) 16) 295 (j * 16 + 0) 133 (j * 16 + 0) 16) 303 (j * 16 + 0) 141 (j * 16 + 0) 16) (fun k k0 => by simp (disch := omega) only [zcpy_ne]; exact M1 k k0) (by simp (disch := omega) only [zcpy_ne]; exact M2) (fun y y0 y1 => by
        by_cases cy : y = j
        · refine ⟨fun k k0 k1 => ?_, fun k k0 k1 => ?_⟩
          · have r := hL.2.2.1 y k y0 (by omega) k0 k1
            rw [cy] at r ⊢
            simp (disch := omega) only [zcpy_ne, zcpy_row, M1]
            exact r
          · have r := hL.2.2.2.1 y k y0 (by omega) k0 k1
            rw [cy] at r ⊢
            simp (disch := omega) only [zcpy_ne, zcpy_row, M1]
            exact r
        · obtain ⟨r, r'⟩ := M3 y y0 (by omega)
          refine ⟨fun k k0 k1 => ?_, fun k k0 k1 => ?_⟩
          · have r := r k k0 k1
            simp (disch := omega) only [zcpy_ne, zcpy_out]
            exact r
          · have r := r' k k0 k1
            simp (disch := omega) only [zcpy_ne, zcpy_out]
            exact r)
      clear ih h hq hG
      repeat' (first | (with_reducible assumption) | (with_reducible rfl) | (with_reducible apply And.intro) | (with_reducible apply zIn_mk) | (with_reducible apply zLn_mk) | ((with_reducible intro _); try (exfalso; omega)) | omega | (with_reducible exact Or.inr trivial) | (with_reducible exact Or.inl trivial) | (with_reducible apply r114_108_270_c35) | (with_reducible apply r114_108_270_c54) | (with_reducible apply r114_108_270_c73) | (with_reducible apply r114_108_270_c92) | (with_reducible apply r114_108_270_c111) | ((exact ih')) | fail)
    · have hg : G (zupd (zcpy x' 311 0 149 0 16) 108 7 (p 6160)) := by
        rw [hG]
        refine ⟨fun k k0 => ?_, ?_, ?_, fun y k y0 y1 k0 k1 => ?_, fun y k y0 y1 k0 k1 => ?_, fun k k0 k1 => ?_⟩
        · simp (disch := omega) only [zcpy_ne, zu_ne]; exact M1 k k0
        · simp (disch := omega) only [zcpy_ne, zu_eq, up_ne]; exact M2
        · simp (disch := omega) only [zu_eq, up_at]
        · simp (disch := omega) only [zcpy_ne, zu_ne]; exact (M3 y y0 (by omega)).1 k k0 k1
        · simp (disch := omega) only [zcpy_ne, zu_ne]; exact (M3 y y0 (by omega)).2 k k0 k1
        · have r := hL.2.2.2.2 k k0 k1
          simp (disch := omega) only [zcpy_in, zcpy_ne, zu_ne, M1, Int.sub_zero, Int.zero_add]
          exact r
      have h2 := hq _ hg
      have e7' : zcpy x' 311 0 149 0 16 270 7 = p 6160 := by rw [zcpy_ne _ _ _ _ (by decide), M1 270 (by omega)]; exact e7
      clear ih h hq hG hg
      repeat' (first | (with_reducible assumption) | (with_reducible rfl) | (with_reducible apply And.intro) | (with_reducible apply zIn_mk) | (with_reducible apply zLn_mk) | (simp only [e7']) | ((with_reducible intro _); try (exfalso; omega)) | omega | (with_reducible exact Or.inr trivial) | (with_reducible exact Or.inl trivial) | (with_reducible apply r114_108_270_c132) | ((exact h2)) | fail)
  apply r114_108_270
  rw [e0]
  exact step 0 (by omega) (by omega) _ (fun k k0 => zu_ne _ _ _ (by omega)) (by rw [zu_eq, up_at rfl]) (fun y y0 y1 => by omega)

theorem c114_270_108 {d : Nat} {p w : Int → Int} {x m : zM} {Q : Int → zM → zM → Prop} (hd : 1 ≤ d) (hL : RY (x 108) (x 109) (x 117) (x 125) (x 133) (x 141) (x 149) p w) (h : ∀ x', (∀ k, k < 270 ∨ 311 < k → x' k = x k) → RY (x' 270) (x' 271) (x' 279) (x' 287) (x' 295) (x' 303) (x' 311) p w → Q 0 x' m) : WPc d 114 [zr 270, zr 108] 403 [] x m 403 [] Q := by
  have e0 : x 108 0 = p 6 := hL.1
  have e7 : x 108 7 = p 6160 := hL.2.1
  obtain ⟨G, hG⟩ : ∃ G : zM → Prop, G = fun x' => (∀ k, k < 270 ∨ 311 < k → x' k = x k) ∧ RY (x' 270) (x' 271) (x' 279) (x' 287) (x' 295) (x' 303) (x' 311) p w := ⟨_, rfl⟩
  have hq : ∀ x', G x' → Q 0 x' m := fun x' g => by rw [hG] at g; exact h x' g.1 g.2
  have step : ∀ j, 0 ≤ j → j ≤ 7 → ∀ x', (∀ k, k < 270 ∨ 311 < k → x' k = x k) → x' 270 0 = p 6 → (∀ y, 0 ≤ y → y < j → (∀ k, 0 ≤ k → k < 7 → x' 271 (y * 7 + k) = p (5647 + 7 * k + y)) ∧ (∀ k, 0 ≤ k → k < 16 → x' 279 (y * 16 + k) = p (5696 + 16 * y + k) ∧ x' 287 (y * 16 + k) = p (5808 + 16 * y + k) ∧ x' 303 (y * 16 + k) = p (6032 + 16 * y + k) ∧ x' 295 (y * 16 + k) = w (16 * y + k))) → WP d 114 10 [(0, zr 270), (1, zr 108), (2, zi j)] [] 403 [] x' m 403 [] Q := by
    refine zdown _ _ ?_
    intro j j0 j1 ih x' M1 M2 M3
    apply r114_270_108_c10
    by_cases c : j < 7
    · have ih' := ih c (zcpy (zcpy (zcpy (zcpy (zcpy x' 109 (j * 7 + 0) 271 (j * 7 + 0) 7) 117 (j * 16 + 0) 279 (j * 16 + 0) 16) 125 (j * 16 + 0) 287 (j * 16 + 0) 16) 133 (j * 16 + 0) 295 (j * 16 + 0) 16) 141 (j * 16 + 0) 303 (j * 16 + 0) 16) (fun k k0 => by simp (disch := omega) only [zcpy_ne]; exact M1 k k0) (by simp (disch := omega) only [zcpy_ne]; exact M2) (fun y y0 y1 => by
        by_cases cy : y = j
        · refine ⟨fun k k0 k1 => ?_, fun k k0 k1 => ?_⟩
          · have r := hL.2.2.1 y k y0 (by omega) k0 k1
            rw [cy] at r ⊢
            simp (disch := omega) only [zcpy_ne, zcpy_row, M1]
            exact r
          · have r := hL.2.2.2.1 y k y0 (by omega) k0 k1
            rw [cy] at r ⊢
            simp (disch := omega) only [zcpy_ne, zcpy_row, M1]
            exact r
        · obtain ⟨r, r'⟩ := M3 y y0 (by omega)
          refine ⟨fun k k0 k1 => ?_, fun k k0 k1 => ?_⟩
          · have r := r k k0 k1
            simp (disch := omega) only [zcpy_ne, zcpy_out]
            exact r
          · have r := r' k k0 k1
            simp (disch := omega) only [zcpy_ne, zcpy_out]
            exact r)
      clear ih h hq hG
      repeat' (first | (with_reducible assumption) | (with_reducible rfl) | (with_reducible apply And.intro) | (with_reducible apply zIn_mk) | (with_reducible apply zLn_mk) | ((with_reducible intro _); try (exfalso; omega)) | omega | (with_reducible exact Or.inr trivial) | (with_reducible exact Or.inl trivial) | (with_reducible apply r114_270_108_c35) | (with_reducible apply r114_270_108_c54) | (with_reducible apply r114_270_108_c73) | (with_reducible apply r114_270_108_c92) | (with_reducible apply r114_270_108_c111) | ((exact ih')) | fail)
    · have hg : G (zupd (zcpy x' 149 0 311 0 16) 270 7 (p 6160)) := by
        rw [hG]
        refine ⟨fun k k0 => ?_, ?_, ?_, fun y k y0 y1 k0 k1 => ?_, fun y k y0 y1 k0 k1 => ?_, fun k k0 k1 => ?_⟩
        · simp (disch := omega) only [zcpy_ne, zu_ne]; exact M1 k k0
        · simp (disch := omega) only [zcpy_ne, zu_eq, up_ne]; exact M2
        · simp (disch := omega) only [zu_eq, up_at]
        · simp (disch := omega) only [zcpy_ne, zu_ne]; exact (M3 y y0 (by omega)).1 k k0 k1
        · simp (disch := omega) only [zcpy_ne, zu_ne]; exact (M3 y y0 (by omega)).2 k k0 k1
        · have r := hL.2.2.2.2 k k0 k1
          simp (disch := omega) only [zcpy_in, zcpy_ne, zu_ne, M1, Int.sub_zero, Int.zero_add]
          exact r
      have h2 := hq _ hg
      have e7' : zcpy x' 149 0 311 0 16 108 7 = p 6160 := by rw [zcpy_ne _ _ _ _ (by decide), M1 108 (by omega)]; exact e7
      clear ih h hq hG hg
      repeat' (first | (with_reducible assumption) | (with_reducible rfl) | (with_reducible apply And.intro) | (with_reducible apply zIn_mk) | (with_reducible apply zLn_mk) | (simp only [e7']) | ((with_reducible intro _); try (exfalso; omega)) | omega | (with_reducible exact Or.inr trivial) | (with_reducible exact Or.inl trivial) | (with_reducible apply r114_270_108_c132) | ((exact h2)) | fail)
  apply r114_270_108
  rw [e0]
  exact step 0 (by omega) (by omega) _ (fun k k0 => zu_ne _ _ _ (by omega)) (by rw [zu_eq, up_at rfl]) (fun y y0 y1 => by omega)

