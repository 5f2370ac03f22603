/-! A LOAN FAILS, in the class -/
theorem c9_14_72_7 {d : Nat} {l w : Int} {p : Int → Int} {x m : zM} {Q : Int → zM → zM → Prop} (hd : 5 ≤ d) (hL : RLx x p) (hR : RNx x p) (hS : RAx x p) (hB : IB p) (hA : IA p) (hN : IN p) (hE : IE p) (h6 : p 4 ≤ 644) (l0 : 0 ≤ l) (l1 : l < p 3) (hw : w = p 0) (hs0 : p (570 + l) = 0) (h : ∀ x', RLx x' (gFj p l (p (234 + p (450 + l)))).1 → (∀ k, k < 7 ∨ 12 < k → k ≠ 83 → k ≠ 84 → k ≠ 85 → k ≠ 86 → x' k = x k) → x' 83 = up (x 83) l 2 → x' 84 = up (x 84) l (gFown p l) → x' 85 = up (x 85) l (gFback p l) → x' 86 = up (x 86) l (gFlost p l) → Q (gFlost p l) x' m) : WPc d 9 [zr 14, zr 72, zr 7, zi l, zi w] 403 [] x m 403 [] Q := by
  have hb := hB; unfold IB at hb
  have nl := hN.1 l l0 l1
  unfold INl at nl
  have aa := hA.1 (p (450 + l)) (by omega) (by omega)
  unfold IAa at aa
  have ow := gOw_bd hA hN l0 l1
  have eo : gOw p l = p (138 + p (450 + l)) + p (498 + l) - p (522 + l) := by unfold gOw; rw [if_pos hs0]
  have r := hR.2 l l0 l1
  have e73 : x 73 l = p (450 + l) := r.1
  have e74 : x 74 l = p (90 + p (450 + l)) := r.2.1
  have ra := hS.2.1 (p (450 + l)) (by omega) (by omega)
  have e21 : x 21 (p (450 + l)) = p (234 + p (450 + l)) := ra.2.2.2.2.2.2
  have b0 := gTk_bd p (p (90 + p (450 + l))) (gOw p l)
  have loop : ∀ j, 0 ≤ j → j ≤ p (234 + p (450 + l)) → ∀ la bk, la = (gFj p l j).2.1 → bk = (gFj p l j).2.2 → ∀ x', RLx x' (gFj p l j).1 → (∀ k, k < 7 ∨ 12 < k → k ≠ 83 → k ≠ 84 → x' k = x k) → x' 83 = up (x 83) l 2 → x' 84 = up (x 84) l (gFown p l) → WP d 9 59 [(0, zr 14), (1, zr 72), (2, zr 7), (3, zi l), (4, zi w), (5, zi la), (6, zi (p (450 + l))), (8, zi bk), (9, zi j)] [] 403 [] x' m 403 [] Q := by
    refine zdown _ _ ?_
    intro j j0 j1 ih la bk hla hbk x' hL' hf h83 h84
    obtain ⟨J1, J2, J3, J4, J5, J6, J7⟩ := gFj_J hB hA hN hE h6 l0 l1 j j0 j1
    have ow' : 0 ≤ gFown p l := (gTk_bd _ _ _).1
    have hs := gFj_s (p := p) (l := l) j0
    have e0 := J4 0 (by omega) (by omega)
    have e1' := J4 1 (by omega) (by omega)
    apply r9_14_72_7_c59
    rw [hf 21 (by omega) (by omega) (by omega), hf 22 (by omega) (by omega) (by omega), hf 47 (by omega) (by omega) (by omega), e21]
    by_cases c : j < p (234 + p (450 + l))
    · have bb := hA.2 (p (450 + l)) j (by omega) (by omega) j0 c
      unfold IAb at bb
      obtain ⟨rb1, rb2⟩ := hS.2.2 (p (450 + l)) j (by omega) (by omega) j0 (by omega) c
      rw [rb1, rb2]
      have eb := J4 (258 + 4 * p (450 + l) + j) (by omega) (by omega)
      have ep := J4 (354 + 4 * p (450 + l) + j) (by omega) (by omega)
      have ez : zmn la (p (354 + 4 * p (450 + l) + j)) = (if (gFj p l j).1 (354 + 4 * p (450 + l) + j) < (gFj p l j).2.1 then (gFj p l j).1 (354 + 4 * p (450 + l) + j) else (gFj p l j).2.1) := by rw [ep, ← hla]; rfl
      rw [ez, ← eb]
      have b1 := gTk_bd (gFj p l j).1 ((gFj p l j).1 (258 + 4 * p (450 + l) + j)) (if (gFj p l j).1 (354 + 4 * p (450 + l) + j) < (gFj p l j).2.1 then (gFj p l j).1 (354 + 4 * p (450 + l) + j) else (gFj p l j).2.1)
      have mm : (if (gFj p l j).1 (354 + 4 * p (450 + l) + j) < (gFj p l j).2.1 then (gFj p l j).1 (354 + 4 * p (450 + l) + j) else (gFj p l j).2.1) ≤ (gFj p l j).2.1 := by split <;> omega
      repeat' (first | (with_reducible assumption) | (with_reducible rfl) | (with_reducible apply And.intro) | (with_reducible apply zIn_mk) | (with_reducible apply zLn_mk) | ((with_reducible intro _); try (exfalso; omega)) | omega | (with_reducible exact Or.inr trivial) | (with_reducible exact Or.inl trivial) | ((refine c10_7 (p := (gFj p l j).1) (by omega) hL' J1 J2 (by omega) (by omega) (by omega) (by omega) ?_; intro xB hB1 hB2)) | ((refine ih c _ _ (by rw [hs, hla]) (by rw [hs, hbk]) xB (by rw [hs]; exact hB2) (fun k k0 k1 k2 => by rw [hB1 k k0]; exact hf k k0 k1 k2) (by rw [hB1 _ (by omega)]; exact h83) (by rw [hB1 _ (by omega)]; exact h84))) | fail)
    · have ej : j = p (234 + p (450 + l)) := by omega
      have h' := h
      unfold gFlost gFback at h'
      rw [← ej, ← hla, ← hbk] at h'
      repeat' (first | (with_reducible assumption) | (with_reducible rfl) | (with_reducible apply And.intro) | (with_reducible apply zIn_mk) | (with_reducible apply zLn_mk) | ((with_reducible intro _); try (exfalso; omega)) | omega | (with_reducible exact Or.inr trivial) | (with_reducible exact Or.inl trivial) | ((refine h' _ ?_ ?_ ?_ ?_ ?_ ?_)) | fail)
      · unfold RLx; simp (disch := omega) only [zu_ne]; exact hL'
      · rename_i k k0 k1 k2 k3 k4; rw [zu_ne _ _ _ k4, zu_ne _ _ _ k3]; exact hf k k0 k1 k2
      · simp (disch := omega) only [zu_ne]; exact h83
      · simp (disch := omega) only [zu_ne]; exact h84
      · simp (disch := omega) only [zu_ne, zu_eq]; rw [hf _ (by omega) (by omega) (by omega)]
      · simp (disch := omega) only [zu_ne, zu_eq]; rw [hf _ (by omega) (by omega) (by omega)]
  apply r9_14_72_7
  repeat' (first | (with_reducible assumption) | (with_reducible rfl) | (with_reducible apply And.intro) | (with_reducible apply zIn_mk) | (with_reducible apply zLn_mk) | (simp (disch := omega) only [zu_ne, e74, e73]) | ((with_reducible intro _); try (exfalso; omega)) | omega | (with_reducible exact Or.inr trivial) | (with_reducible exact Or.inl trivial) | ((refine c49_72 hR hB hA hN l0 l1 ?_; rw [← eo])) | ((refine c10_7 (p := p) (by omega) (by unfold RLx; simp (disch := omega) only [zu_ne]; exact hL) hB hE hw (by omega) (by omega) (by omega) ?_; intro xB hB1 hB2)) | ((refine loop 0 (by omega) (by omega) _ _ rfl rfl _ ?_ ?_ ?_ ?_)) | fail)
  · unfold RLx; simp (disch := omega) only [zu_ne]; exact hB2
  · rename_i k k0 k1 k2; rw [hB1 k k0, zu_ne _ _ _ k1]
  · rw [hB1 _ (by omega), zu_eq]
  · rw [zu_eq, hB1 _ (by omega), zu_ne _ _ _ (by decide)]; rfl

theorem c9_14_370_363 {d : Nat} {l w : Int} {p : Int → Int} {x m : zM} {Q : Int → zM → zM → Prop} (hd : 5 ≤ d) (hL : RLt x p) (hR : RNt x p) (hS : RAx x p) (hB : IB p) (hA : IA p) (hN : IN p) (hE : IE p) (h6 : p 4 ≤ 644) (l0 : 0 ≤ l) (l1 : l < p 3) (hw : w = p 0) (hs0 : p (570 + l) = 0) (h : ∀ x', RLt x' (gFj p l (p (234 + p (450 + l)))).1 → (∀ k, k < 363 ∨ 368 < k → k ≠ 381 → k ≠ 382 → k ≠ 383 → k ≠ 384 → x' k = x k) → x' 381 = up (x 381) l 2 → x' 382 = up (x 382) l (gFown p l) → x' 383 = up (x 383) l (gFback p l) → x' 384 = up (x 384) l (gFlost p l) → Q (gFlost p l) x' m) : WPc d 9 [zr 14, zr 370, zr 363, zi l, zi w] 403 [] x m 403 [] Q := by
  have hb := hB; unfold IB at hb
  have nl := hN.1 l l0 l1
  unfold INl at nl
  have aa := hA.1 (p (450 + l)) (by omega) (by omega)
  unfold IAa at aa
  have ow := gOw_bd hA hN l0 l1
  have eo : gOw p l = p (138 + p (450 + l)) + p (498 + l) - p (522 + l) := by unfold gOw; rw [if_pos hs0]
  have r := hR.2 l l0 l1
  have e73 : x 371 l = p (450 + l) := r.1
  have e74 : x 372 l = p (90 + p (450 + l)) := r.2.1
  have ra := hS.2.1 (p (450 + l)) (by omega) (by omega)
  have e21 : x 21 (p (450 + l)) = p (234 + p (450 + l)) := ra.2.2.2.2.2.2
  have b0 := gTk_bd p (p (90 + p (450 + l))) (gOw p l)
  have loop : ∀ j, 0 ≤ j → j ≤ p (234 + p (450 + l)) → ∀ la bk, la = (gFj p l j).2.1 → bk = (gFj p l j).2.2 → ∀ x', RLt x' (gFj p l j).1 → (∀ k, k < 363 ∨ 368 < k → k ≠ 381 → k ≠ 382 → x' k = x k) → x' 381 = up (x 381) l 2 → x' 382 = up (x 382) l (gFown p l) → WP d 9 59 [(0, zr 14), (1, zr 370), (2, zr 363), (3, zi l), (4, zi w), (5, zi la), (6, zi (p (450 + l))), (8, zi bk), (9, zi j)] [] 403 [] x' m 403 [] Q := by
    refine zdown _ _ ?_
    intro j j0 j1 ih la bk hla hbk x' hL' hf h83 h84
    obtain ⟨J1, J2, J3, J4, J5, J6, J7⟩ := gFj_J hB hA hN hE h6 l0 l1 j j0 j1
    have ow' : 0 ≤ gFown p l := (gTk_bd _ _ _).1
    have hs := gFj_s (p := p) (l := l) j0
    have e0 := J4 0 (by omega) (by omega)
    have e1' := J4 1 (by omega) (by omega)
    apply r9_14_370_363_c59
    rw [hf 21 (by omega) (by omega) (by omega), hf 22 (by omega) (by omega) (by omega), hf 47 (by omega) (by omega) (by omega), e21]
    by_cases c : j < p (234 + p (450 + l))
    · have bb := hA.2 (p (450 + l)) j (by omega) (by omega) j0 c
      unfold IAb at bb
      obtain ⟨rb1, rb2⟩ := hS.2.2 (p (450 + l)) j (by omega) (by omega) j0 (by omega) c
      rw [rb1, rb2]
      have eb := J4 (258 + 4 * p (450 + l) + j) (by omega) (by omega)
      have ep := J4 (354 + 4 * p (450 + l) + j) (by omega) (by omega)
      have ez : zmn la (p (354 + 4 * p (450 + l) + j)) = (if (gFj p l j).1 (354 + 4 * p (450 + l) + j) < (gFj p l j).2.1 then (gFj p l j).1 (354 + 4 * p (450 + l) + j) else (gFj p l j).2.1) := by rw [ep, ← hla]; rfl
      rw [ez, ← eb]
      have b1 := gTk_bd (gFj p l j).1 ((gFj p l j).1 (258 + 4 * p (450 + l) + j)) (if (gFj p l j).1 (354 + 4 * p (450 + l) + j) < (gFj p l j).2.1 then (gFj p l j).1 (354 + 4 * p (450 + l) + j) else (gFj p l j).2.1)
      have mm : (if (gFj p l j).1 (354 + 4 * p (450 + l) + j) < (gFj p l j).2.1 then (gFj p l j).1 (354 + 4 * p (450 + l) + j) else (gFj p l j).2.1) ≤ (gFj p l j).2.1 := by split <;> omega
      repeat' (first | (with_reducible assumption) | (with_reducible rfl) | (with_reducible apply And.intro) | (with_reducible apply zIn_mk) | (with_reducible apply zLn_mk) | ((with_reducible intro _); try (exfalso; omega)) | omega | (with_reducible exact Or.inr trivial) | (with_reducible exact Or.inl trivial) | ((refine c10_363 (p := (gFj p l j).1) (by omega) hL' J1 J2 (by omega) (by omega) (by omega) (by omega) ?_; intro xB hB1 hB2)) | ((refine ih c _ _ (by rw [hs, hla]) (by rw [hs, hbk]) xB (by rw [hs]; exact hB2) (fun k k0 k1 k2 => by rw [hB1 k k0]; exact hf k k0 k1 k2) (by rw [hB1 _ (by omega)]; exact h83) (by rw [hB1 _ (by omega)]; exact h84))) | fail)
    · have ej : j = p (234 + p (450 + l)) := by omega
      have h' := h
      unfold gFlost gFback at h'
      rw [← ej, ← hla, ← hbk] at h'
      repeat' (first | (with_reducible assumption) | (with_reducible rfl) | (with_reducible apply And.intro) | (with_reducible apply zIn_mk) | (with_reducible apply zLn_mk) | ((with_reducible intro _); try (exfalso; omega)) | omega | (with_reducible exact Or.inr trivial) | (with_reducible exact Or.inl trivial) | ((refine h' _ ?_ ?_ ?_ ?_ ?_ ?_)) | fail)
      · unfold RLt; simp (disch := omega) only [zu_ne]; exact hL'
      · rename_i k k0 k1 k2 k3 k4; rw [zu_ne _ _ _ k4, zu_ne _ _ _ k3]; exact hf k k0 k1 k2
      · simp (disch := omega) only [zu_ne]; exact h83
      · simp (disch := omega) only [zu_ne]; exact h84
      · simp (disch := omega) only [zu_ne, zu_eq]; rw [hf _ (by omega) (by omega) (by omega)]
      · simp (disch := omega) only [zu_ne, zu_eq]; rw [hf _ (by omega) (by omega) (by omega)]
  apply r9_14_370_363
  repeat' (first | (with_reducible assumption) | (with_reducible rfl) | (with_reducible apply And.intro) | (with_reducible apply zIn_mk) | (with_reducible apply zLn_mk) | (simp (disch := omega) only [zu_ne, e74, e73]) | ((with_reducible intro _); try (exfalso; omega)) | omega | (with_reducible exact Or.inr trivial) | (with_reducible exact Or.inl trivial) | ((refine c49_370 hR hB hA hN l0 l1 ?_; rw [← eo])) | ((refine c10_363 (p := p) (by omega) (by unfold RLt; simp (disch := omega) only [zu_ne]; exact hL) hB hE hw (by omega) (by omega) (by omega) ?_; intro xB hB1 hB2)) | ((refine loop 0 (by omega) (by omega) _ _ rfl rfl _ ?_ ?_ ?_ ?_)) | fail)
  · unfold RLt; simp (disch := omega) only [zu_ne]; exact hB2
  · rename_i k k0 k1 k2; rw [hB1 k k0, zu_ne _ _ _ k1]
  · rw [hB1 _ (by omega), zu_eq]
  · rw [zu_eq, hB1 _ (by omega), zu_ne _ _ _ (by decide)]; rfl

