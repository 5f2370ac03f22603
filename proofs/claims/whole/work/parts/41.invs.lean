/-! THE MODEL'S STATE: what holds of it, and what is read out of it -/
def IB (p : Int → Int) : Prop := (0 ≤ p 0 ∧ p 0 ≤ 400) ∧ (0 ≤ p 1 ∧ p 1 ≤ 16) ∧ (0 ≤ p 2 ∧ p 2 ≤ 24) ∧ (0 ≤ p 3 ∧ p 3 ≤ 24) ∧ (0 ≤ p 4 ∧ p 4 ≤ 700) ∧ (0 ≤ p 5 ∧ p 5 ≤ 12) ∧ (0 ≤ p 6 ∧ p 6 ≤ 7) ∧ (0 ≤ p 7 ∧ p 7 ≤ 20) ∧ (0 ≤ p 8 ∧ p 8 ≤ 20)
def IM (p : Int → Int) : Prop := (∀ k, 0 ≤ k → k < p 1 → (0 ≤ p (10 + k) ∧ p (10 + k) ≤ 9) ∧ (0 ≤ p (26 + k) ∧ p (26 + k) ≤ 9) ∧ (0 ≤ p (42 + k) ∧ p (42 + k) ≤ p 0) ∧ (-1 ≤ p (58 + k) ∧ p (58 + k) ≤ p 0) ∧ (0 ≤ p (74 + k) ∧ p (74 + k) ≤ p 0)) ∧ (∀ k, p 1 ≤ k → k < 16 → p (58 + k) = -1)
def IAa (p : Int → Int) (a : Int) : Prop := (0 ≤ p (90 + a) ∧ p (90 + a) < p 1) ∧ (0 ≤ p (114 + a) ∧ p (114 + a) ≤ 5) ∧ (1 ≤ p (138 + a) ∧ p (138 + a) ≤ 99999) ∧ (1 ≤ p (162 + a) ∧ p (162 + a) ≤ 60) ∧ (-1 ≤ p (186 + a) ∧ p (186 + a) ≤ 5) ∧ (-1 ≤ p (210 + a) ∧ p (210 + a) ≤ 23) ∧ (0 ≤ p (234 + a) ∧ p (234 + a) ≤ 4)
def IAb (p : Int → Int) (a k : Int) : Prop := (0 ≤ p (258 + 4 * a + k) ∧ p (258 + 4 * a + k) < p 1) ∧ (1 ≤ p (354 + 4 * a + k) ∧ p (354 + 4 * a + k) ≤ 99999)
def IA (p : Int → Int) : Prop := (∀ a, 0 ≤ a → a < p 2 → IAa p a) ∧ (∀ a k, 0 ≤ a → a < p 2 → 0 ≤ k → k < p (234 + a) → IAb p a k)
def INl (p : Int → Int) (l : Int) : Prop := (0 ≤ p (450 + l) ∧ p (450 + l) < p 2) ∧ (0 ≤ p (474 + l) ∧ p (474 + l) ≤ p 0) ∧ (0 ≤ p (498 + l) ∧ p (498 + l) ≤ 119998) ∧ (0 ≤ p (522 + l) ∧ p (522 + l) ≤ p (138 + p (450 + l)) + p (498 + l)) ∧ (0 ≤ p (546 + l) ∧ p (546 + l) ≤ 13) ∧ (0 ≤ p (570 + l) ∧ p (570 + l) ≤ 2) ∧ (0 ≤ p (594 + l) ∧ p (594 + l) ≤ 219997) ∧ (0 ≤ p (618 + l) ∧ p (618 + l) ≤ 219997) ∧ (0 ≤ p (642 + l) ∧ p (642 + l) ≤ 219997)
def INe (p : Int → Int) (l : Int) : Prop := 0 ≤ p (666 + l) ∧ p (666 + l) * (p (138 + p (450 + l)) + p (498 + l)) ≤ p (522 + l) * p (498 + l)
def IN (p : Int → Int) : Prop := (∀ l, 0 ≤ l → l < p 3 → INl p l) ∧ (∀ l, 0 ≤ l → l < p 3 → INe p l)
def IK0 (p : Int → Int) : Prop := zT (fun a => if p (186 + a) = 0 then 1 else 0) (p 2) = p 3
def IQ (p : Int → Int) : Prop := ∀ l, 0 ≤ l → l < p 3 → p (570 + l) = 0 → p (546 + l) ≤ 12
def IK (p : Int → Int) : Prop := IK0 p ∧ IQ p
abbrev gMt (p : Int → Int) (a w k : Int) : Prop := p (690 + k) = a ∧ p (1390 + k) = w ∧ p (2090 + k) = p 0
abbrev gOf (p : Int → Int) (l m : Int) : Prop := p (570 + l) = 0 ∧ p (90 + p (450 + l)) = m
def IE (p : Int → Int) : Prop := (∀ k, 0 ≤ k → k < p 4 → (0 ≤ p (690 + k) ∧ p (690 + k) < p 1) ∧ (0 ≤ p (1390 + k) ∧ p (1390 + k) ≤ p 0) ∧ (0 ≤ p (2090 + k) ∧ p (2090 + k) ≤ p 0)) ∧ (∀ j k, 0 ≤ j → j < k → k < p 4 → ¬(p (690 + j) = p (690 + k) ∧ p (1390 + j) = p (1390 + k) ∧ p (2090 + j) = p (2090 + k)))
def gE (p : Int → Int) (a w as k : Int) : Int := if p (690 + k) = a ∧ p (1390 + k) ≤ w ∧ p (2090 + k) ≤ as then p (2790 + k) else 0
def gSv (p : Int → Int) (a w as : Int) : Int := w32 (zT (gE p a w as) (p 4))
theorem gSv_lo (p : Int → Int) (a w as : Int) : -2147483648 ≤ gSv p a w as := w32_lo _
theorem gSv_hi (p : Int → Int) (a w as : Int) : gSv p a w as < 2147483648 := w32_hi _
/-- the place of an entry, or -1 -/
def gIx (p : Int → Int) (a w : Int) : Nat → Int
  | 0 => -1
  | n + 1 => if gMt p a w n then n else gIx p a w n
def gI (p : Int → Int) (a w : Int) : Int := gIx p a w (p 4).toNat
theorem gIx_no {p : Int → Int} {a w : Int} {n : Nat} (h : ∀ k : Int, 0 ≤ k → k < n → ¬ gMt p a w k) : gIx p a w n = -1 := by
  induction n with
  | zero => rfl
  | succ n ih =>
    simp only [gIx]
    rw [if_neg (h n (by omega) (by omega))]
    exact ih (fun k a b => h k a (by omega))
theorem gI_no {p : Int → Int} {a w : Int} (h : ∀ k : Int, 0 ≤ k → k < p 4 → ¬ gMt p a w k) : gI p a w = -1 := gIx_no (fun k h0 h1 => h k h0 (by omega))
theorem gIx_in {p : Int → Int} {a w : Int} {n : Nat} : gIx p a w n = -1 ∨ (0 ≤ gIx p a w n ∧ gIx p a w n < n ∧ gMt p a w (gIx p a w n)) := by
  induction n with
  | zero => exact Or.inl rfl
  | succ n ih =>
    simp only [gIx]
    split
    · rename_i h; exact Or.inr ⟨by omega, by omega, h⟩
    · rcases ih with h | ⟨h0, h1, h2⟩
      · exact Or.inl h
      · exact Or.inr ⟨h0, by omega, h2⟩
theorem gIx_none {p : Int → Int} {a w : Int} {n : Nat} (h : gIx p a w n = -1) : ∀ k : Int, 0 ≤ k → k < n → ¬ gMt p a w k := by
  induction n with
  | zero => intro k a b; omega
  | succ n ih =>
    intro k h0 h1
    simp only [gIx] at h
    split at h
    · omega
    · rename_i hn
      by_cases e : k = n
      · subst e; exact hn
      · exact ih h k h0 (by omega)
theorem gI_none {p : Int → Int} {a w : Int} (h : gI p a w = -1) : ∀ k : Int, 0 ≤ k → k < p 4 → ¬ gMt p a w k := fun k h0 h1 => gIx_none h k h0 (by omega)
theorem gI_in {p : Int → Int} {a w : Int} (hB : 0 ≤ p 4) : gI p a w = -1 ∨ (0 ≤ gI p a w ∧ gI p a w < p 4 ∧ gMt p a w (gI p a w)) := by
  have h : gIx p a w (p 4).toNat = -1 ∨ _ := gIx_in
  have e : ((p 4).toNat : Int) = p 4 := by omega
  unfold gI
  rcases h with h | ⟨h0, h1, h2⟩
  · exact Or.inl h
  · exact Or.inr ⟨h0, by omega, h2⟩
theorem gI_is {p : Int → Int} {a w k : Int} (hE : IE p) (h0 : 0 ≤ k) (h1 : k < p 4) (h : gMt p a w k) : gI p a w = k := by
  rcases gI_in (p := p) (a := a) (w := w) (by omega) with e | ⟨e0, e1, e2⟩
  · exact absurd h (gI_none e k h0 h1)
  · obtain ⟨a1, a2, a3⟩ := h
    obtain ⟨b1, b2, b3⟩ := e2
    by_cases c : gI p a w < k
    · exact absurd ⟨by omega, by omega, by omega⟩ (hE.2 _ _ e0 c h1)
    · by_cases c2 : k < gI p a w
      · exact absurd ⟨by omega, by omega, by omega⟩ (hE.2 _ _ h0 c2 e1)
      · omega
/-- enters -/
def gEn (p : Int → Int) (a w n : Int) : Int → Int :=
  if gI p a w = -1 then up (up (up (up (up p 4 (p 4 + 1)) (690 + p 4) a) (1390 + p 4) w) (2090 + p 4) (p 0)) (2790 + p 4) (w32 n)
  else up p (2790 + gI p a w) (w32 (p (2790 + gI p a w) + n))
abbrev gHas (p : Int → Int) (a w : Int) : Prop := p 4 < 300 ∨ gI p a w ≠ -1
def gOw (p : Int → Int) (l : Int) : Int := if p (570 + l) = 0 then p (138 + p (450 + l)) + p (498 + l) - p (522 + l) else 0
def gOws (p : Int → Int) (m : Int) : Int := zT (fun l => if p (570 + l) = 0 ∧ p (90 + p (450 + l)) = m then gOw p l else 0) (p 3)
def gHd (p : Int → Int) (m : Int) : Int := zT (fun l => if (p (570 + l) = 0 ∧ p (90 + p (450 + l)) = m) ∧ (p (114 + p (450 + l)) = 2 ∨ p (114 + p (450 + l)) = 5) then gOw p l else 0) (p 3)
def gEc (p : Int → Int) (a i : Int) : Int := if p (114 + a) = 4 then 0 else if p (114 + a) = 5 then i / p (162 + a) else (p (138 + a) + i) / p (162 + a)
def gDue (p : Int → Int) (a i n : Int) : Int := if 1 ≤ n ∧ n ≤ p (162 + a) then (if n = p (162 + a) then p (138 + a) + i - (p (162 + a) - 1) * gEc p a i else gEc p a i) else 0
def gDn (p : Int → Int) (a i g : Int) : Int := if g ≤ 0 then 0 else if p (162 + a) ≤ g then p (138 + a) + i else g * gEc p a i
/-- due till a week -/
def gDt (p : Int → Int) (l w : Int) : Int := gDn p (p (450 + l)) (p (498 + l)) (w - p (474 + l))
abbrev gLt (p : Int → Int) (l w : Int) : Prop := p (570 + l) = 0 ∧ p (522 + l) < gDt p l w
def gLo (p : Int → Int) (m : Int) : Int := zT (fun l => if (p (570 + l) = 0 ∧ p (90 + p (450 + l)) = m) ∧ p (570 + l) = 0 ∧ p (522 + l) < gDt p l (p 0 - 1) then 1 else 0) (p 3)
theorem gEc_bd {p : Int → Int} {a i : Int} (h : IAa p a) (hi : 0 ≤ i) : 0 ≤ gEc p a i ∧ p (162 + a) * gEc p a i ≤ p (138 + a) + i ∧ gEc p a i ≤ p (138 + a) + i := by
  unfold IAa at h
  unfold gEc
  have w1 : 0 < p (162 + a) := by omega
  split
  · omega
  · split
    · have := Int.ediv_nonneg hi (Int.le_of_lt w1)
      have h2 := Int.mul_ediv_self_le (x := i) (k := p (162 + a)) (by omega)
      have h3 := Int.ediv_le_self (p (162 + a)) hi
      omega
    · have h0 : 0 ≤ p (138 + a) + i := by omega
      have := Int.ediv_nonneg h0 (Int.le_of_lt w1)
      have h2 := Int.mul_ediv_self_le (x := p (138 + a) + i) (k := p (162 + a)) (by omega)
      have h3 := Int.ediv_le_self (p (162 + a)) h0
      omega
theorem gEc_part {p : Int → Int} {a i n : Int} (h : IAa p a) (hi : 0 ≤ i) (h0 : 0 ≤ n) (h1 : n ≤ p (162 + a)) : 0 ≤ n * gEc p a i ∧ n * gEc p a i ≤ p (138 + a) + i := by
  have b := gEc_bd h hi
  have c := Int.mul_nonneg h0 b.1
  have e := Int.mul_le_mul_of_nonneg_right h1 b.1
  omega
theorem gDn_bd {p : Int → Int} {a i n : Int} (h : IAa p a) (hi : 0 ≤ i) : 0 ≤ gDn p a i n ∧ gDn p a i n ≤ p (138 + a) + i := by
  unfold gDn
  have h' := h
  unfold IAa at h'
  split
  · omega
  · split
    · omega
    · exact gEc_part h hi (by omega) (by omega)
theorem gDn_s {p : Int → Int} {a i n : Int} (h : IAa p a) : gDn p a i n = gDn p a i (n - 1) + gDue p a i n := by
  have h' := h
  unfold IAa at h'
  unfold gDn gDue
  by_cases c : n ≤ 0
  · rw [if_pos c, if_pos (by omega), if_neg (by omega)]; rfl
  · rw [if_neg c]
    by_cases c2 : p (162 + a) < n
    · rw [if_pos (by omega), if_neg (by omega), if_pos (by omega), if_neg (by omega)]; omega
    · rw [if_pos (show 1 ≤ n ∧ n ≤ p (162 + a) by omega)]
      by_cases c3 : n = 1
      · subst c3
        rw [if_pos (show (1 : Int) - 1 ≤ 0 by omega)]
        by_cases c4 : p (162 + a) = 1
        · rw [if_pos (by omega), if_pos (by omega), c4]; omega
        · rw [if_neg (by omega), if_neg (by omega)]; omega
      · rw [if_neg (show ¬ n - 1 ≤ 0 by omega), if_neg (show ¬ p (162 + a) ≤ n - 1 by omega)]
        by_cases c4 : p (162 + a) = n
        · rw [if_pos (by omega), if_pos (by omega), c4]; omega
        · rw [if_neg (by omega), if_neg (by omega), Int.sub_mul]; omega
theorem gDue_bd {p : Int → Int} {a i n : Int} (h : IAa p a) (hi : 0 ≤ i) : 0 ≤ gDue p a i n ∧ gDue p a i n ≤ p (138 + a) + i := by
  unfold gDue
  have h' := h
  unfold IAa at h'
  split
  · split
    · have := gEc_part (n := p (162 + a) - 1) h hi (by omega) (by omega); omega
    · have := gEc_bd h hi; omega
  · omega
