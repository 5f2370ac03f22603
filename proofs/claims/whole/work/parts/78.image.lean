/-! THE MODEL'S IMAGE AND UNDO: the copying -/
theorem zcpy_st (m : zM) {s t : Nat} (h : s ≠ t) (j : Int) (j0 : 0 ≤ j) : zupd (zcpy m s 0 t 0 j) t j (zcpy m s 0 t 0 j s j) = zcpy m s 0 t 0 (j + 1) := by
  rw [zcpy_ne m _ _ _ h]
  funext k z
  unfold zupd
  by_cases c : k = t
  · subst c
    by_cases c2 : z = j
    · rw [if_pos ⟨rfl, c2⟩, zcpy_in m (by omega), c2, Int.sub_zero, Int.zero_add]
    · rw [if_neg (fun e => c2 e.2)]
      by_cases c3 : 0 ≤ z ∧ z < 0 + j
      · rw [zcpy_in m c3, zcpy_in m (by omega)]
      · rw [zcpy_out m (by omega), zcpy_out m (by omega)]
  · rw [if_neg (fun e => c e.1), zcpy_ne m _ _ _ c, zcpy_ne m _ _ _ c]
theorem zcpy_z (m : zM) (s t : Nat) : zcpy m s 0 t 0 0 = m := by funext k z; unfold zcpy; rw [if_neg (by omega)]
theorem s273_2 {d : Nat} {x m : zM} {Q : Int → zM → zM → Prop} (h : WP d 273 29 [(0, zr 386), (1, zi 0)] [] 403 [] x (zcpy m 387 0 388 0 6163) 403 [] Q) : WP d 273 2 [(0, zr 386), (1, zi 0)] [] 403 [] x m 403 [] Q := by
  have loop : ∀ j, 0 ≤ j → j ≤ 6163 → WP d 273 2 [(0, zr 386), (1, zi j)] [] 403 [] x (zcpy m 387 0 388 0 j) 403 [] Q := by
    refine zdown 6163 _ ?_
    intro j j0 j1 ih
    apply r273_c2
    repeat' (first | (with_reducible assumption) | (with_reducible rfl) | (with_reducible apply And.intro) | (with_reducible apply zIn_mk) | (with_reducible apply zLn_mk) | ((with_reducible intro _); try (exfalso; omega)) | omega | (with_reducible exact Or.inr trivial) | (with_reducible exact Or.inl trivial) | ((rw [zcpy_st m (by decide) j j0]; exact ih (by omega))) | ((rw [show j = 6163 by omega]; exact h)) | fail)
  have := loop 0 (by omega) (by omega)
  rwa [zcpy_z] at this
theorem s274_16 {d : Nat} {x m : zM} {Q : Int → zM → zM → Prop} (h : WP d 274 43 [(0, zr 386), (1, zi 0)] [] 403 [] x (zcpy m 388 0 387 0 6163) 403 [] Q) : WP d 274 16 [(0, zr 386), (1, zi 0)] [] 403 [] x m 403 [] Q := by
  have loop : ∀ j, 0 ≤ j → j ≤ 6163 → WP d 274 16 [(0, zr 386), (1, zi j)] [] 403 [] x (zcpy m 388 0 387 0 j) 403 [] Q := by
    refine zdown 6163 _ ?_
    intro j j0 j1 ih
    apply r274_c16
    repeat' (first | (with_reducible assumption) | (with_reducible rfl) | (with_reducible apply And.intro) | (with_reducible apply zIn_mk) | (with_reducible apply zLn_mk) | ((with_reducible intro _); try (exfalso; omega)) | omega | (with_reducible exact Or.inr trivial) | (with_reducible exact Or.inl trivial) | ((rw [zcpy_st m (by decide) j j0]; exact ih (by omega))) | ((rw [show j = 6163 by omega]; exact h)) | fail)
  have := loop 0 (by omega) (by omega)
  rwa [zcpy_z] at this
theorem s273_29 {d : Nat} {x m : zM} {Q : Int → zM → zM → Prop} (h : Q (zcpy m 390 0 391 0 128 387 0) x (zupd (zcpy m 390 0 391 0 128) 386 6 1)) : WP d 273 29 [(0, zr 386), (1, zi 0)] [] 403 [] x m 403 [] Q := by
  have loop : ∀ j, 0 ≤ j → j ≤ 128 → WP d 273 29 [(0, zr 386), (1, zi j)] [] 403 [] x (zcpy m 390 0 391 0 j) 403 [] Q := by
    refine zdown 128 _ ?_
    intro j j0 j1 ih
    apply r273_c29
    repeat' (first | (with_reducible assumption) | (with_reducible rfl) | (with_reducible apply And.intro) | (with_reducible apply zIn_mk) | (with_reducible apply zLn_mk) | ((with_reducible intro _); try (exfalso; omega)) | omega | (with_reducible exact Or.inr trivial) | (with_reducible exact Or.inl trivial) | ((rw [zcpy_st m (by decide) j j0]; exact ih (by omega))) | ((rw [show j = 128 by omega]; exact h)) | fail)
  have := loop 0 (by omega) (by omega)
  rwa [zcpy_z] at this
theorem s274_43 {d : Nat} {x m : zM} {Q : Int → zM → zM → Prop} (h : Q (zcpy m 391 0 390 0 128 387 0) x (zcpy m 391 0 390 0 128)) : WP d 274 43 [(0, zr 386), (1, zi 0)] [] 403 [] x m 403 [] Q := by
  have loop : ∀ j, 0 ≤ j → j ≤ 128 → WP d 274 43 [(0, zr 386), (1, zi j)] [] 403 [] x (zcpy m 391 0 390 0 j) 403 [] Q := by
    refine zdown 128 _ ?_
    intro j j0 j1 ih
    apply r274_c43
    repeat' (first | (with_reducible assumption) | (with_reducible rfl) | (with_reducible apply And.intro) | (with_reducible apply zIn_mk) | (with_reducible apply zLn_mk) | ((with_reducible intro _); try (exfalso; omega)) | omega | (with_reducible exact Or.inr trivial) | (with_reducible exact Or.inl trivial) | ((rw [zcpy_st m (by decide) j j0]; exact ih (by omega))) | ((rw [show j = 128 by omega]; exact h)) | fail)
  have := loop 0 (by omega) (by omega)
  rwa [zcpy_z] at this
