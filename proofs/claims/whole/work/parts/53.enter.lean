/-! AN ENTRY IS MADE -/
theorem up_up (p : Int → Int) (i v v' : Int) : up (up p i v) i v' = up p i v' := by funext j; simp only [up]; split <;> rfl
theorem gEn_o {p : Int → Int} {a w n i : Int} (hB : IB p) (h6 : gI p a w = -1 → p 4 < 700) (h4 : i ≠ 4) (h : i < 690 ∨ 3490 ≤ i) : gEn p a w n i = p i := by
  unfold IB at hB
  unfold gEn
  split
  · rw [up_ne (by omega), up_ne (by omega), up_ne (by omega), up_ne (by omega), up_ne (by omega)]
  · rcases gI_in (p := p) (a := a) (w := w) (by omega) with e | ⟨e0, e1, e2⟩
    · contradiction
    · rw [up_ne (by omega)]
theorem gEn_4 {p : Int → Int} {a w n : Int} (hB : IB p) : gEn p a w n 4 = if gI p a w = -1 then p 4 + 1 else p 4 := by
  unfold IB at hB
  unfold gEn
  split
  · rw [up_ne (by omega), up_ne (by omega), up_ne (by omega), up_ne (by omega), up_eq]
  · rcases gI_in (p := p) (a := a) (w := w) (by omega) with e | ⟨e0, e1, e2⟩
    · contradiction
    · rw [up_ne (by omega)]
/-- an entry that was there: who, when, told don't change -/
theorem gEn_k {p : Int → Int} {a w n k : Int} (hB : IB p) (h6 : gI p a w = -1 → p 4 < 700) (k0 : 0 ≤ k) (k1 : k < p 4) : gEn p a w n (690 + k) = p (690 + k) ∧ gEn p a w n (1390 + k) = p (1390 + k) ∧ gEn p a w n (2090 + k) = p (2090 + k) ∧ (k ≠ gI p a w → gEn p a w n (2790 + k) = p (2790 + k)) ∧ (k = gI p a w → gEn p a w n (2790 + k) = w32 (p (2790 + k) + n)) := by
  unfold IB at hB
  unfold gEn
  split
  · rename_i h
    refine ⟨?_, ?_, ?_, fun _ => ?_, fun e => by omega⟩ <;> rw [up_ne (by omega), up_ne (by omega), up_ne (by omega), up_ne (by omega), up_ne (by omega)]
  · rcases gI_in (p := p) (a := a) (w := w) (by omega) with e | ⟨e0, e1, e2⟩
    · contradiction
    · refine ⟨up_ne (by omega), up_ne (by omega), up_ne (by omega), fun _ => up_ne (by omega), fun e => by rw [e]; exact up_eq _ _ _⟩
/-- the new one -/
theorem gEn_n {p : Int → Int} {a w n : Int} (hB : IB p) (h : gI p a w = -1) (h6 : p 4 < 700) : gEn p a w n (690 + p 4) = a ∧ gEn p a w n (1390 + p 4) = w ∧ gEn p a w n (2090 + p 4) = p 0 ∧ gEn p a w n (2790 + p 4) = w32 n := by
  unfold IB at hB
  unfold gEn
  rw [if_pos h]
  refine ⟨?_, ?_, ?_, up_eq _ _ _⟩
  · rw [up_ne (by omega), up_ne (by omega), up_ne (by omega), up_eq]
  · rw [up_ne (by omega), up_ne (by omega), up_eq]
  · rw [up_ne (by omega), up_eq]
theorem gSv_en {p : Int → Int} {a w n b w' as : Int} (hB : IB p) (h6 : gI p a w = -1 → p 4 < 700) : gSv (gEn p a w n) b w' as = if a = b ∧ w ≤ w' ∧ p 0 ≤ as then w32 (gSv p b w' as + n) else gSv p b w' as := by
  have hb := hB
  unfold IB at hb
  have old : ∀ j, 0 ≤ j → j < p 4 → j ≠ gI p a w → gE (gEn p a w n) b w' as j = gE p b w' as j := by
    intro j j0 j1 jk
    obtain ⟨e1, e2, e3, e4, _⟩ := gEn_k (a := a) (w := w) (n := n) hB h6 j0 j1
    unfold gE
    rw [e1, e2, e3, e4 jk]
  by_cases c : gI p a w = -1
  · have e4 : gEn p a w n 4 = p 4 + 1 := by rw [gEn_4 hB, if_pos c]
    obtain ⟨f1, f2, f3, f4⟩ := gEn_n (n := n) hB c (h6 c)
    unfold gSv
    rw [e4, zT_s (by omega), zT_congr (g := gE p b w' as) (fun j j0 j1 => old j j0 j1 (by omega))]
    have : gE (gEn p a w n) b w' as (p 4) = if a = b ∧ w ≤ w' ∧ p 0 ≤ as then w32 n else 0 := by unfold gE; rw [f1, f2, f3, f4]
    rw [this]
    split
    · rw [w32_aw, w32_wa]
    · rw [Int.add_zero]
  · rcases gI_in (p := p) (a := a) (w := w) (by omega) with e | ⟨e0, e1, e2, e3, e4⟩
    · contradiction
    · have e4' : gEn p a w n 4 = p 4 := by rw [gEn_4 hB, if_neg c]
      obtain ⟨g1, g2, g3, _, g5⟩ := gEn_k (a := a) (w := w) (n := n) hB h6 e0 e1
      unfold gSv
      rw [e4', zT_one (g := gE p b w' as) e0 e1 old]
      have h1 : gE (gEn p a w n) b w' as (gI p a w) = if a = b ∧ w ≤ w' ∧ p 0 ≤ as then w32 (p (2790 + gI p a w) + n) else 0 := by unfold gE; rw [g1, g2, g3, g5 rfl, e2, e3, e4]
      have h2 : gE p b w' as (gI p a w) = if a = b ∧ w ≤ w' ∧ p 0 ≤ as then p (2790 + gI p a w) else 0 := by unfold gE; rw [e2, e3, e4]
      rw [h1, h2]
      split
      · unfold w32; omega
      · rw [show ∀ z : Int, z + (0 - 0) = z by intro z; omega]
theorem IB_en {p : Int → Int} {a w n : Int} (hB : IB p) (h6 : gI p a w = -1 → p 4 < 700) : IB (gEn p a w n) := by
  have hb := hB
  unfold IB at hb
  unfold IB
  rw [gEn_4 hB, gEn_o hB h6 (by omega) (by omega), gEn_o hB h6 (by omega) (by omega), gEn_o hB h6 (by omega) (by omega), gEn_o hB h6 (by omega) (by omega), gEn_o hB h6 (by omega) (by omega), gEn_o hB h6 (by omega) (by omega), gEn_o hB h6 (by omega) (by omega), gEn_o hB h6 (by omega) (by omega)]
  split <;> omega
theorem IE_en {p : Int → Int} {a w n : Int} (hB : IB p) (hE : IE p) (a0 : 0 ≤ a) (a1 : a < p 1) (w0 : 0 ≤ w) (w1 : w ≤ p 0) (h6 : gI p a w = -1 → p 4 < 700) : IE (gEn p a w n) := by
  have hb := hB
  unfold IB at hb
  have o0 : gEn p a w n 0 = p 0 := gEn_o hB h6 (by omega) (by omega)
  have o1 : gEn p a w n 1 = p 1 := gEn_o hB h6 (by omega) (by omega)
  have e4 := gEn_4 (a := a) (w := w) (n := n) hB
  unfold IE
  rw [o0, o1]
  refine ⟨?_, ?_⟩
  · intro k k0 k1
    by_cases c : k < p 4
    · obtain ⟨e1, e2, e3, _, _⟩ := gEn_k (a := a) (w := w) (n := n) hB h6 k0 c
      rw [e1, e2, e3]; exact hE.1 k k0 c
    · by_cases c2 : gI p a w = -1
      · rw [if_pos c2] at e4
        obtain ⟨f1, f2, f3, f4⟩ := gEn_n (n := n) hB c2 (h6 c2)
        rw [show k = p 4 by omega, f1, f2, f3]; omega
      · rw [if_neg c2] at e4; omega
  · intro j k j0 jk k1
    by_cases c : k < p 4
    · obtain ⟨e1, e2, e3, _, _⟩ := gEn_k (a := a) (w := w) (n := n) hB h6 (show 0 ≤ k by omega) c
      obtain ⟨g1, g2, g3, _, _⟩ := gEn_k (a := a) (w := w) (n := n) hB h6 j0 (show j < p 4 by omega)
      rw [e1, e2, e3, g1, g2, g3]; exact hE.2 j k j0 jk c
    · by_cases c2 : gI p a w = -1
      · rw [if_pos c2] at e4
        obtain ⟨f1, f2, f3, f4⟩ := gEn_n (n := n) hB c2 (h6 c2)
        obtain ⟨g1, g2, g3, _, _⟩ := gEn_k (a := a) (w := w) (n := n) hB h6 j0 (show j < p 4 by omega)
        rw [show k = p 4 by omega, f1, f2, f3, g1, g2, g3]
        intro h
        exact gI_none c2 j j0 (by omega) ⟨h.1, h.2.1, h.2.2⟩
      · rw [if_neg c2] at e4; omega
theorem s178 {d : Nat} {a w n : Int} {p : Int → Int} {x m : zM} {Q : Int → zM → zM → Prop} (hd : 1 ≤ d) (hp : m 387 = p) (hB : IB p) (hE : IE p) (h6 : gI p a w = -1 → p 4 < 700) (hn : zIn n) (h : Q 0 x (zP m (gEn p a w n))) : WPc d 178 [zr 386, zi a, zi w, zi n] 403 [] x m 403 [] Q := by
  subst hp
  have hb := hB; unfold IB at hb
  have g := gI_in (p := m 387) (a := a) (w := w) (by omega)
  unfold zIn at hn
  unfold gEn at h
  apply r178
  repeat' (first | (with_reducible assumption) | (with_reducible rfl) | (with_reducible apply And.intro) | (with_reducible apply zIn_mk) | (with_reducible apply zLn_mk) | ((with_reducible intro _); try (exfalso; omega)) | omega | (with_reducible exact Or.inr trivial) | (with_reducible exact Or.inl trivial) | (with_reducible apply s177) | fail)
  · rw [if_neg (by omega)] at h
    rw [zP_up]; exact h
  · rw [if_pos (by omega)] at h
    simp only [zP_up, zP_eq, zP_zP] at *
    rw [up_ne (show (0 : Int) ≠ 1390 + m 387 4 by omega), up_ne (show (0 : Int) ≠ 690 + m 387 4 by omega), up_eq, Int.zero_add, up_up]
    exact h
theorem c25_7 {d : Nat} {a w t n : Int} {p : Int → Int} {x m : zM} {Q : Int → zM → zM → Prop} (hd : 1 ≤ d) (hL : RLx x p) (hB : IB p) (hE : IE p) (ht : t = p 0) (a0 : 0 ≤ a) (a1 : a < 16) (w0 : 0 ≤ w) (w1 : w ≤ p 0) (h6 : gI p a w = -1 → p 4 < 700) (h : ∀ x', (∀ k, k < 7 ∨ 12 < k → x' k = x k) → RLx x' (gEn p a w n) → Q 0 x' m) : WPc d 25 [zr 7, zi a, zi w, zi t, zi n] 403 [] x m 403 [] Q := by
  have hb := hB; unfold IB at hb
  have e0 : x 7 0 = p 4 := hL.1
  have g := gI_in (p := p) (a := a) (w := w) (by omega)
  have q0 : gEn p a w n 6161 = p 6161 := gEn_o hB h6 (by omega) (by omega)
  have q1 : gEn p a w n 6162 = p 6162 := gEn_o hB h6 (by omega) (by omega)
  have q4 := gEn_4 (a := a) (w := w) (n := n) hB
  have qk := fun k k0 k1 => gEn_k (p := p) (a := a) (w := w) (n := n) (k := k) hB h6 k0 k1
  have qs := fun b => gSv_en (p := p) (a := a) (w := w) (n := n) (b := b) (w' := 400) (as := 400) hB h6
  have rl := hL.2.1
  have rt := hL.2.2.1
  apply r25_7
  repeat' (first | (with_reducible assumption) | (with_reducible rfl) | (with_reducible apply And.intro) | (with_reducible apply zIn_mk) | (with_reducible apply zLn_mk) | ((with_reducible intro _); try (exfalso; omega)) | omega | (with_reducible exact Or.inr trivial) | (with_reducible exact Or.inl trivial) | ((refine c23_7 hL hB hE ht ?_)) | fail)
  · refine h _ (fun k hk => by rw [zu_ne _ _ _ (by omega), zu_ne _ _ _ (by omega)]) ⟨?_, ?_, ?_, ?_, ?_⟩
    · rw [zu_ne _ _ _ (by decide), zu_ne _ _ _ (by decide), q4, if_neg (by omega)]; exact e0
    · intro k k0 k1
      rw [q4, if_neg (by omega)] at k1
      obtain ⟨b1, b2, b3, b4, b5⟩ := qk k k0 k1
      obtain ⟨l1, l2, l3, l4⟩ := rl k k0 k1
      rw [zu_ne _ _ _ (by decide), zu_ne _ _ _ (by decide), zu_ne _ _ _ (by decide), zu_ne _ _ _ (by decide), zu_ne _ _ _ (by decide), zu_ne _ _ _ (by decide), zu_ne _ _ _ (by decide), zu_eq, b1, b2, b3]
      refine ⟨l1, l2, l3, ?_⟩
      by_cases c : k = gI p a w
      · rw [b5 c, up_at c, ← c, l4]
      · rw [b4 c, up_ne c, l4]
    · intro k k0 k1
      rw [zu_eq, zu_ne _ _ _ (by decide), qs k]
      by_cases c : a = k
      · rw [if_pos (by omega), c, up_eq, rt k k0 k1]
      · rw [if_neg (by omega), up_ne (by omega), rt k k0 k1]
    · rw [zu_ne _ _ _ (by decide), zu_ne _ _ _ (by decide), q0]; exact hL.2.2.2.1
    · rw [zu_ne _ _ _ (by decide), zu_ne _ _ _ (by decide), q1]; exact hL.2.2.2.2
  · have c2 : gI p a w = -1 := by omega
    obtain ⟨f1, f2, f3, f4⟩ := gEn_n (n := n) hB c2 (h6 c2)
    refine h _ (fun k hk => by rw [zu_ne _ _ _ (by omega), zu_ne _ _ _ (by omega), zu_ne _ _ _ (by omega), zu_ne _ _ _ (by omega), zu_ne _ _ _ (by omega), zu_ne _ _ _ (by omega), zu_ne _ _ _ (by omega)]) ⟨?_, ?_, ?_, ?_, ?_⟩
    · simp only [zu_ne, ne_eq, Nat.reduceEqDiff, not_false_eq_true, zu_eq, up_eq]
      rw [q4, if_pos c2, e0]
    · intro k k0 k1
      rw [q4, if_pos c2] at k1
      simp only [zu_ne, ne_eq, Nat.reduceEqDiff, not_false_eq_true, zu_eq, e0]
      by_cases c : k = p 4
      · rw [c, f1, f2, f3, f4]
        exact ⟨up_eq _ _ _, up_eq _ _ _, (up_eq _ _ _).trans ht, by rw [up_eq, up_eq, Int.zero_add]⟩
      · obtain ⟨b1, b2, b3, b4, b5⟩ := qk k k0 (by omega)
        rw [up_ne c, up_ne c, up_ne c, up_ne c, up_ne c, b1, b2, b3, b4 (by omega)]
        exact rl k k0 (by omega)
    · intro k k0 k1
      simp only [zu_ne, ne_eq, Nat.reduceEqDiff, not_false_eq_true, zu_eq, e0]
      rw [qs k]
      by_cases c : a = k
      · rw [if_pos (by omega), c, up_eq, rt k k0 k1]
      · rw [if_neg (by omega), up_ne (by omega), rt k k0 k1]
    · simp only [zu_ne, ne_eq, Nat.reduceEqDiff, not_false_eq_true, zu_eq]
      rw [q0, up_ne (by omega)]; exact hL.2.2.2.1
    · simp only [zu_ne, ne_eq, Nat.reduceEqDiff, not_false_eq_true, zu_eq]
      rw [q1, up_ne (by omega)]; exact hL.2.2.2.2
theorem c25_363 {d : Nat} {a w t n : Int} {p : Int → Int} {x m : zM} {Q : Int → zM → zM → Prop} (hd : 1 ≤ d) (hL : RLt x p) (hB : IB p) (hE : IE p) (ht : t = p 0) (a0 : 0 ≤ a) (a1 : a < 16) (w0 : 0 ≤ w) (w1 : w ≤ p 0) (h6 : gI p a w = -1 → p 4 < 700) (h : ∀ x', (∀ k, k < 363 ∨ 368 < k → x' k = x k) → RLt x' (gEn p a w n) → Q 0 x' m) : WPc d 25 [zr 363, zi a, zi w, zi t, zi n] 403 [] x m 403 [] Q := by
  have hb := hB; unfold IB at hb
  have e0 : x 363 0 = p 4 := hL.1
  have g := gI_in (p := p) (a := a) (w := w) (by omega)
  have q0 : gEn p a w n 6161 = p 6161 := gEn_o hB h6 (by omega) (by omega)
  have q1 : gEn p a w n 6162 = p 6162 := gEn_o hB h6 (by omega) (by omega)
  have q4 := gEn_4 (a := a) (w := w) (n := n) hB
  have qk := fun k k0 k1 => gEn_k (p := p) (a := a) (w := w) (n := n) (k := k) hB h6 k0 k1
  have qs := fun b => gSv_en (p := p) (a := a) (w := w) (n := n) (b := b) (w' := 400) (as := 400) hB h6
  have rl := hL.2.1
  have rt := hL.2.2.1
  apply r25_363
  repeat' (first | (with_reducible assumption) | (with_reducible rfl) | (with_reducible apply And.intro) | (with_reducible apply zIn_mk) | (with_reducible apply zLn_mk) | ((with_reducible intro _); try (exfalso; omega)) | omega | (with_reducible exact Or.inr trivial) | (with_reducible exact Or.inl trivial) | ((refine c23_363 hL hB hE ht ?_)) | fail)
  · refine h _ (fun k hk => by rw [zu_ne _ _ _ (by omega), zu_ne _ _ _ (by omega)]) ⟨?_, ?_, ?_, ?_, ?_⟩
    · rw [zu_ne _ _ _ (by decide), zu_ne _ _ _ (by decide), q4, if_neg (by omega)]; exact e0
    · intro k k0 k1
      rw [q4, if_neg (by omega)] at k1
      obtain ⟨b1, b2, b3, b4, b5⟩ := qk k k0 k1
      obtain ⟨l1, l2, l3, l4⟩ := rl k k0 k1
      rw [zu_ne _ _ _ (by decide), zu_ne _ _ _ (by decide), zu_ne _ _ _ (by decide), zu_ne _ _ _ (by decide), zu_ne _ _ _ (by decide), zu_ne _ _ _ (by decide), zu_ne _ _ _ (by decide), zu_eq, b1, b2, b3]
      refine ⟨l1, l2, l3, ?_⟩
      by_cases c : k = gI p a w
      · rw [b5 c, up_at c, ← c, l4]
      · rw [b4 c, up_ne c, l4]
    · intro k k0 k1
      rw [zu_eq, zu_ne _ _ _ (by decide), qs k]
      by_cases c : a = k
      · rw [if_pos (by omega), c, up_eq, rt k k0 k1]
      · rw [if_neg (by omega), up_ne (by omega), rt k k0 k1]
    · rw [zu_ne _ _ _ (by decide), zu_ne _ _ _ (by decide), q0]; exact hL.2.2.2.1
    · rw [zu_ne _ _ _ (by decide), zu_ne _ _ _ (by decide), q1]; exact hL.2.2.2.2
  · have c2 : gI p a w = -1 := by omega
    obtain ⟨f1, f2, f3, f4⟩ := gEn_n (n := n) hB c2 (h6 c2)
    refine h _ (fun k hk => by rw [zu_ne _ _ _ (by omega), zu_ne _ _ _ (by omega), zu_ne _ _ _ (by omega), zu_ne _ _ _ (by omega), zu_ne _ _ _ (by omega), zu_ne _ _ _ (by omega), zu_ne _ _ _ (by omega)]) ⟨?_, ?_, ?_, ?_, ?_⟩
    · simp only [zu_ne, ne_eq, Nat.reduceEqDiff, not_false_eq_true, zu_eq, up_eq]
      rw [q4, if_pos c2, e0]
    · intro k k0 k1
      rw [q4, if_pos c2] at k1
      simp only [zu_ne, ne_eq, Nat.reduceEqDiff, not_false_eq_true, zu_eq, e0]
      by_cases c : k = p 4
      · rw [c, f1, f2, f3, f4]
        exact ⟨up_eq _ _ _, up_eq _ _ _, (up_eq _ _ _).trans ht, by rw [up_eq, up_eq, Int.zero_add]⟩
      · obtain ⟨b1, b2, b3, b4, b5⟩ := qk k k0 (by omega)
        rw [up_ne c, up_ne c, up_ne c, up_ne c, up_ne c, b1, b2, b3, b4 (by omega)]
        exact rl k k0 (by omega)
    · intro k k0 k1
      simp only [zu_ne, ne_eq, Nat.reduceEqDiff, not_false_eq_true, zu_eq, e0]
      rw [qs k]
      by_cases c : a = k
      · rw [if_pos (by omega), c, up_eq, rt k k0 k1]
      · rw [if_neg (by omega), up_ne (by omega), rt k k0 k1]
    · simp only [zu_ne, ne_eq, Nat.reduceEqDiff, not_false_eq_true, zu_eq]
      rw [q0, up_ne (by omega)]; exact hL.2.2.2.1
    · simp only [zu_ne, ne_eq, Nat.reduceEqDiff, not_false_eq_true, zu_eq]
      rw [q1, up_ne (by omega)]; exact hL.2.2.2.2
