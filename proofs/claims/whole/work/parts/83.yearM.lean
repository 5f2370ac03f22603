/-! A YEAR CLOSES: the model's side -/
theorem gTell_n {p q : Int → Int} {key : Int} (hB : IB p) (hR : IR p) (h0 : q 0 = p 0) (h5 : q 5 = p 5) (hc : q 6161 = p 6161) (hq : ∀ i, 3490 ≤ i → i < 5110 → q i = p i) : gTell q key (-1) = gTell p key (-1) := by
  have e : gNm q (-1) = gNm p (-1) := by
    funext k
    unfold gNm
    by_cases a : k = 8
    · rw [if_pos a, if_pos a, h0]
    · rw [if_neg a, if_neg a]
      by_cases b : k = 9
      · rw [if_pos b, if_pos b, hc]
      · rw [if_neg b, if_neg b, if_pos rfl, if_pos rfl]
  unfold gTell
  rw [e]
  exact gTn_f hB hR h0 h5 hq
theorem s243 {d : Nat} {v : Int} {x m : zM} {Q : Int → zM → zM → Prop} (h : Q (gCl v) x m) : WPc d 243 [zi v] 403 [] x m 403 [] Q := by
  unfold gCl at h
  apply r243
  intro hz
  unfold zIn at hz
  repeat' (first | (with_reducible assumption) | (with_reducible rfl) | (with_reducible apply And.intro) | (with_reducible apply zIn_mk) | (with_reducible apply zLn_mk) | ((with_reducible intro _); try (exfalso; omega)) | omega | (with_reducible exact Or.inr trivial) | (with_reducible exact Or.inl trivial) | (((repeat (first | rw [if_pos (by omega)] at h | rw [if_neg (by omega)] at h)); exact h)) | fail)
theorem s245 {d : Nat} {to s : Int} {a p : Int → Int} {x m : zM} {Q : Int → zM → zM → Prop} (hd : 1 ≤ d) (hp : m 387 = p) (t0 : 5696 ≤ to) (t1 : to + 16 ≤ 6032) (s0 : 0 ≤ s) (s1 : s ≤ 2879952) (ha : ∀ k, 0 ≤ k → k < 16 → m 399 k = a k) (hb : ∀ k, 0 ≤ k → k < 16 → 0 ≤ a k ∧ a k ≤ 858993459200) (h : ∀ m', (∀ k, k ≠ 400 → k ≠ 387 → m' k = m k) → (∀ i, i ≠ 6162 → i < to ∨ to + 16 ≤ i → m' 387 i = p i) → (∀ k, 0 ≤ k → k < 16 → m' 387 (to + k) = gGet s a k) → m' 387 6162 = w32 (p 6162 + (if zT a 16 = 0 then s else 0)) → Q 0 x m') : WPc d 245 [zr 386, zi to, zi s] 403 [] x m 403 [] Q := by
  have loop : ∀ mB : zM, (∀ k, k ≠ 400 → mB k = m k) → (∀ k, 0 ≤ k → k < 16 → mB 400 k = gGet s a k) → ∀ j, 0 ≤ j → j ≤ 16 → ∀ m', (∀ k, k ≠ 387 → m' k = mB k) → (∀ i, i ≠ 6162 → i < to ∨ to + 16 ≤ i → m' 387 i = p i) → (∀ k, 0 ≤ k → k < j → m' 387 (to + k) = gGet s a k) → m' 387 6162 = w32 (p 6162 + (if zT a 16 = 0 then s else 0)) → WP d 245 20 [(0, zr 386), (1, zi to), (3, zi j)] [] 403 [] x m' 403 [] Q := by
    intro mB hB1 hB2
    refine zdown _ _ ?_
    intro j j0 j1 ih m' hm hi hk hr
    apply r245_c20
    by_cases c : j = 16
    · subst c
      have h2 := h m' (fun k k0 k1 => by rw [hm k k1, hB1 k k0]) hi hk hr
      clear ih
      repeat' (first | (with_reducible assumption) | (with_reducible rfl) | (with_reducible apply And.intro) | (with_reducible apply zIn_mk) | (with_reducible apply zLn_mk) | ((with_reducible intro _); try (exfalso; omega)) | omega | (with_reducible exact Or.inr trivial) | (with_reducible exact Or.inl trivial) | ((exact h2)) | fail)
    · have g := hB2 j j0 (by omega)
      have gb := gGet_bd s0 s1 hb j0 (show j < 16 by omega)
      have e400 : m' 400 j = gGet s a j := by rw [hm 400 (by decide)]; exact g
      have ih2 := ih (by omega) (zupd m' 387 (to + j) (gGet s a j)) (fun k k0 => by rw [zu_ne _ _ _ k0]; exact hm k k0) (fun i i0 i1 => by rw [zu_eq, up_ne (by omega)]; exact hi i i0 i1) (fun k k0 k1 => by
        rw [zu_eq]
        by_cases ck : k = j
        · subst ck; rw [up_at rfl]
        · rw [up_ne (by omega)]; exact hk k k0 (by omega)) (by rw [zu_eq, up_ne (by omega)]; exact hr)
      rw [e400]
      clear ih hm hi hk h
      repeat' (first | (with_reducible assumption) | (with_reducible rfl) | (with_reducible apply And.intro) | (with_reducible apply zIn_mk) | (with_reducible apply zLn_mk) | ((with_reducible intro _); try (exfalso; omega)) | omega | (with_reducible exact Or.inr trivial) | (with_reducible exact Or.inl trivial) | ((exact ih2)) | fail)
  apply r245
  intro hz1 hz2
  repeat' (first | (with_reducible assumption) | (with_reducible rfl) | (with_reducible apply And.intro) | (with_reducible apply zIn_mk) | (with_reducible apply zLn_mk) | ((with_reducible intro _); try (exfalso; omega)) | omega | (with_reducible exact Or.inr trivial) | (with_reducible exact Or.inl trivial) | ((refine s242 (a := a) s0 s1 ha hb ?_; intro mB hB1 hB2)) | ((split <;> (unfold zIn at *; omega))) | fail)
  rw [hp]
  exact loop mB hB1 hB2 0 (by omega) (by omega) _ (fun k k0 => zu_ne _ _ _ k0) (fun i i0 i1 => by rw [zu_eq, up_ne i0, hB1 387 (by decide), hp]) (fun k k0 k1 => by omega) (by rw [zu_eq, up_at rfl])
def gYe (p : Int → Int) : Int := (gEr p (p 6) (p 3)).2
def gYr (p : Int → Int) : Int → Int := (gEr p (p 6) (p 3)).1
def gYs (p : Int → Int) : Int := gYe p - p 6160
def gYf (p : Int → Int) : Int := gYs p * gCl (gTell p 3 (-1)) / 100
def gYd (p : Int → Int) : Int := (gYs p - gYf p) * gCl (gTell p 4 (-1)) / 100
def gYb (p : Int → Int) : Int := gYs p - gYf p - gYd p
def gYa (w : Int → Int) : Int → Int := fun k => w (112 + k)
def gYc (p : Int → Int) : Int → Int := fun k => gYr p (6032 + 16 * p 6 + k)
def gYv (p w : Int → Int) : Int := if 0 < gYs p then w32 (w32 (w32 (p 6162 + gYf p) + (if zT (gYa w) 16 = 0 then gYd p else 0)) + (if zT (gYc p) 16 = 0 then gYb p else 0)) else w32 (p 6162 + gYs p)
def gYp (p w : Int → Int) : Int → Int := fun i =>
  if i = 6 then p 6 + 1 else if i = 6160 then 0 else if i = 6162 then gYv p w
  else if i = 5647 + p 6 then gYe p else if i = 5654 + p 6 then p 6160 else if i = 5661 + p 6 then gYs p
  else if 0 < gYs p ∧ i = 5668 + p 6 then gYf p else if 0 < gYs p ∧ i = 5675 + p 6 then gYd p else if 0 < gYs p ∧ i = 5682 + p 6 then gYb p
  else if 0 < gYs p ∧ 5696 + 16 * p 6 ≤ i ∧ i < 5696 + 16 * p 6 + 16 then gGet (gYd p) (gYa w) (i - (5696 + 16 * p 6))
  else if 0 < gYs p ∧ 5808 + 16 * p 6 ≤ i ∧ i < 5808 + 16 * p 6 + 16 then gGet (gYb p) (gYc p) (i - (5808 + 16 * p 6))
  else gYr p i
def gYw (p w : Int → Int) : Int → Int := fun k => if 16 * p 6 ≤ k ∧ k < 16 * p 6 + 16 then w (112 + (k - 16 * p 6)) else if 112 ≤ k ∧ k < 128 then 0 else w k
/-- what the sums of a year are -/
theorem gY_bd {p : Int → Int} (hB : IB p) (hA : IA p) (hN : IN p) (h6 : p 6 < 7) (hz : ∀ k, 0 ≤ k → k < 16 → p (6032 + 16 * p 6 + k) = 0) (hl0 : 0 ≤ p 6160) : (0 ≤ gYe p ∧ gYe p ≤ 2879952) ∧ (∀ k, 0 ≤ k → k < 16 → 0 ≤ gYc p k ∧ gYc p k ≤ 2879952) ∧ (gYs p ≤ 2879952) ∧ (0 < gYs p → (0 ≤ gYf p ∧ gYf p ≤ gYs p) ∧ (0 ≤ gYd p ∧ gYd p ≤ gYs p - gYf p) ∧ (0 ≤ gYb p ∧ gYb p ≤ gYs p) ∧ (0 ≤ gYs p * gCl (gTell p 3 (-1)) ∧ gYs p * gCl (gTell p 3 (-1)) ≤ 287995200) ∧ (0 ≤ (gYs p - gYf p) * gCl (gTell p 4 (-1)) ∧ (gYs p - gYf p) * gCl (gTell p 4 (-1)) ≤ 287995200)) := by
  have hb := hB; unfold IB at hb
  obtain ⟨J1, J2, J3, J4, J5⟩ := gEr_J hB hA hN (show 0 ≤ p 6 by omega) h6 hz (p 3) (by omega) (Int.le_refl _)
  have e1 : 0 ≤ gYe p ∧ gYe p ≤ 2879952 := by unfold gYe; omega
  refine ⟨e1, fun k k0 k1 => ?_, by unfold gYs; omega, fun hs => ?_⟩
  · have := J4 k k0 k1
    unfold gYe at e1
    unfold gYc gYr
    omega
  · have hs1 : gYs p ≤ 2879952 := by unfold gYs; omega
    have c3 := gCl_bd (gTell p 3 (-1))
    have c4 := gCl_bd (gTell p 4 (-1))
    have m3 := mulbd (a := gYs p) (A := 2879952) (by omega) hs1 c3.1 c3.2
    have f3 : gYs p * gCl (gTell p 3 (-1)) ≤ gYs p * 100 := Int.mul_le_mul_of_nonneg_left c3.2 (by omega)
    have f : 0 ≤ gYf p ∧ gYf p ≤ gYs p := by unfold gYf; omega
    have m4 := mulbd (a := gYs p - gYf p) (A := 2879952) (by omega) (by omega) c4.1 c4.2
    have f4 : (gYs p - gYf p) * gCl (gTell p 4 (-1)) ≤ (gYs p - gYf p) * 100 := Int.mul_le_mul_of_nonneg_left c4.2 (by omega)
    have dd : 0 ≤ gYd p ∧ gYd p ≤ gYs p - gYf p := by unfold gYd; omega
    exact ⟨f, dd, by unfold gYb; omega, by omega, by omega⟩
theorem s244g {d : Nat} {y dv bv : Int} {r a c : Int → Int} {x m : zM} {Q : Int → zM → zM → Prop} (hd : 2 ≤ d) (hr : m 387 = r) (y0 : 0 ≤ y) (y1 : y < 7) (e75 : r (5675 + y) = dv) (e82 : r (5682 + y) = bv) (d0 : 0 ≤ dv) (d1 : dv ≤ 2879952) (b0 : 0 ≤ bv) (b1 : bv ≤ 2879952) (ha : ∀ k, 0 ≤ k → k < 16 → m 390 (16 * y + k) = a k) (hab : ∀ k, 0 ≤ k → k < 16 → 0 ≤ a k ∧ a k ≤ 858993459200) (hc : ∀ k, 0 ≤ k → k < 16 → r (6032 + 16 * y + k) = c k) (hcb : ∀ k, 0 ≤ k → k < 16 → 0 ≤ c k ∧ c k ≤ 858993459200) (h6 : 0 ≤ r 6 ∧ r 6 < 7) (h : ∀ m', (∀ k, k ≠ 387 → k ≠ 399 → k ≠ 400 → m' k = m k) → (∀ i, i ≠ 6 → i ≠ 6162 → i < 5696 + 16 * y ∨ 5696 + 16 * y + 16 ≤ i → i < 5808 + 16 * y ∨ 5808 + 16 * y + 16 ≤ i → m' 387 i = r i) → (∀ k, 0 ≤ k → k < 16 → m' 387 (5696 + 16 * y + k) = gGet dv a k) → (∀ k, 0 ≤ k → k < 16 → m' 387 (5808 + 16 * y + k) = gGet bv c k) → m' 387 6 = r 6 + 1 → m' 387 6162 = w32 (w32 (r 6162 + (if zT a 16 = 0 then dv else 0)) + (if zT c 16 = 0 then bv else 0)) → Q 0 x m') : WP d 244 414 [(0, zr 386), (1, zi y), (5, zi 0)] [] 403 [] x m 403 [] Q := by
  have loop2 : ∀ mB : zM, (∀ k, k ≠ 387 → k ≠ 399 → k ≠ 400 → mB k = m k) → (∀ i, i ≠ 6162 → i < 5696 + 16 * y ∨ 5696 + 16 * y + 16 ≤ i → mB 387 i = r i) → (∀ k, 0 ≤ k → k < 16 → mB 387 (5696 + 16 * y + k) = gGet dv a k) → mB 387 6162 = w32 (r 6162 + (if zT a 16 = 0 then dv else 0)) → ∀ j, 0 ≤ j → j ≤ 16 → ∀ m', (∀ k, k ≠ 399 → m' k = mB k) → (∀ k, 0 ≤ k → k < j → m' 399 k = c k) → WP d 244 471 [(0, zr 386), (1, zi y), (5, zi j)] [] 403 [] x m' 403 [] Q := by
    intro mB hB1 hB2 hB3 hB4
    refine zdown _ _ ?_
    intro j j0 j1 ih m' hm hk
    have e387 : m' 387 = mB 387 := hm 387 (by decide)
    apply r244_c471
    simp only [e387]
    by_cases cj : j = 16
    · subst cj
      clear ih
      have f82 : mB 387 (5682 + y) = bv := by rw [hB2 (5682 + y) (by omega) (by omega)]; exact e82
      have f6 : mB 387 6 = r 6 := hB2 6 (by omega) (by omega)
      simp only [f82]
      repeat' (first | (with_reducible assumption) | (with_reducible rfl) | (with_reducible apply And.intro) | (with_reducible apply zIn_mk) | (with_reducible apply zLn_mk) | ((with_reducible intro _); try (exfalso; omega)) | omega | (with_reducible exact Or.inr trivial) | (with_reducible exact Or.inl trivial) | ((refine s245 (a := c) (p := mB 387) (by omega) e387 (by omega) (by omega) b0 b1 hk hcb ?_; intro mC g1 g2 g3 g4; have f6' : mC 387 6 = r 6 := by rw [g2 6 (by omega) (by omega)]; exact f6)) | ((refine h _ ?_ ?_ ?_ ?_ ?_ ?_)) | fail)
      · rename_i k k0 k1 k2
        rw [zu_ne _ _ _ k0, g1 k k2 k0, hm k k1]; exact hB1 k k0 k1 k2
      · rename_i i i0 i1 i2 i3
        rw [zu_eq, up_ne i0, g2 i i1 (by omega)]; exact hB2 i i1 i2
      · rename_i k k0 k1
        rw [zu_eq, up_ne (by omega), g2 _ (by omega) (by omega)]; exact hB3 k k0 k1
      · rename_i k k0 k1
        rw [zu_eq, up_ne (by omega)]; exact g3 k k0 k1
      · rw [zu_eq, up_at rfl, f6']
      · rw [zu_eq, up_ne (by omega), g4, hB4]
    · have e1 : mB 387 (6032 + 16 * y + j) = c j := by rw [hB2 _ (by omega) (by omega)]; exact hc j j0 (by omega)
      simp only [e1]
      have ih2 := ih (by omega) (zupd m' 399 j (c j)) (fun k k0 => by rw [zu_ne _ _ _ k0]; exact hm k k0) (fun k k0 k1 => by
        rw [zu_eq]
        by_cases ck : k = j
        · subst ck; rw [up_at rfl]
        · rw [up_ne ck]; exact hk k k0 (by omega))
      clear ih
      repeat' (first | (with_reducible assumption) | (with_reducible rfl) | (with_reducible apply And.intro) | (with_reducible apply zIn_mk) | (with_reducible apply zLn_mk) | ((with_reducible intro _); try (exfalso; omega)) | omega | (with_reducible exact Or.inr trivial) | (with_reducible exact Or.inl trivial) | ((exact ih2)) | fail)
  have loop1 : ∀ j, 0 ≤ j → j ≤ 16 → ∀ m', (∀ k, k ≠ 399 → m' k = m k) → (∀ k, 0 ≤ k → k < j → m' 399 k = a k) → WP d 244 414 [(0, zr 386), (1, zi y), (5, zi j)] [] 403 [] x m' 403 [] Q := by
    refine zdown _ _ ?_
    intro j j0 j1 ih m' hm hk
    have e387 : m' 387 = r := by rw [hm 387 (by decide)]; exact hr
    have e390 : m' 390 = m 390 := hm 390 (by decide)
    apply r244_c414
    simp only [e387, e390, e75]
    by_cases cj : j = 16
    · subst cj
      clear ih
      repeat' (first | (with_reducible assumption) | (with_reducible rfl) | (with_reducible apply And.intro) | (with_reducible apply zIn_mk) | (with_reducible apply zLn_mk) | ((with_reducible intro _); try (exfalso; omega)) | omega | (with_reducible exact Or.inr trivial) | (with_reducible exact Or.inl trivial) | ((refine s245 (a := a) (p := r) (by omega) e387 (by omega) (by omega) d0 d1 hk hab ?_; intro mB g1 g2 g3 g4; exact loop2 mB (fun k k0 k1 k2 => by rw [g1 k k2 k0]; exact hm k k1) g2 g3 g4 0 (by omega) (by omega) mB (fun _ _ => rfl) (fun k k0 k1 => by omega))) | fail)
    · have e1 := ha j j0 (by omega)
      simp only [e1]
      have ih2 := ih (by omega) (zupd m' 399 j (a j)) (fun k k0 => by rw [zu_ne _ _ _ k0]; exact hm k k0) (fun k k0 k1 => by
        rw [zu_eq]
        by_cases ck : k = j
        · subst ck; rw [up_at rfl]
        · rw [up_ne ck]; exact hk k k0 (by omega))
      clear ih
      repeat' (first | (with_reducible assumption) | (with_reducible rfl) | (with_reducible apply And.intro) | (with_reducible apply zIn_mk) | (with_reducible apply zLn_mk) | ((with_reducible intro _); try (exfalso; omega)) | omega | (with_reducible exact Or.inr trivial) | (with_reducible exact Or.inl trivial) | ((exact ih2)) | fail)
  exact loop1 0 (by omega) (by omega) m (fun _ _ => rfl) (fun k k0 k1 => by omega)
theorem gYp_of {p w q : Int → Int} (h0 : 0 ≤ p 6) (h6 : p 6 < 7) (f6 : q 6 = p 6 + 1) (f6160 : q 6160 = 0) (f6162 : q 6162 = gYv p w) (f47 : q (5647 + p 6) = gYe p) (f54 : q (5654 + p 6) = p 6160) (f61 : q (5661 + p 6) = gYs p) (fn : ¬ 0 < gYs p → ∀ i, i ≠ 6 → i ≠ 6160 → i ≠ 6162 → i ≠ 5647 + p 6 → i ≠ 5654 + p 6 → i ≠ 5661 + p 6 → q i = gYr p i) (fo : 0 < gYs p → ∀ i, i ≠ 6 → i ≠ 6160 → i ≠ 6162 → i ≠ 5647 + p 6 → i ≠ 5654 + p 6 → i ≠ 5661 + p 6 → i ≠ 5668 + p 6 → i ≠ 5675 + p 6 → i ≠ 5682 + p 6 → i < 5696 + 16 * p 6 ∨ 5696 + 16 * p 6 + 16 ≤ i → i < 5808 + 16 * p 6 ∨ 5808 + 16 * p 6 + 16 ≤ i → q i = gYr p i) (f68 : 0 < gYs p → q (5668 + p 6) = gYf p) (f75 : 0 < gYs p → q (5675 + p 6) = gYd p) (f82 : 0 < gYs p → q (5682 + p 6) = gYb p) (f96 : 0 < gYs p → ∀ k, 0 ≤ k → k < 16 → q (5696 + 16 * p 6 + k) = gGet (gYd p) (gYa w) k) (f08 : 0 < gYs p → ∀ k, 0 ≤ k → k < 16 → q (5808 + 16 * p 6 + k) = gGet (gYb p) (gYc p) k) : q = gYp p w := by
  funext i
  unfold gYp
  by_cases a1 : i = 6
  · rw [if_pos a1, a1]; exact f6
  rw [if_neg a1]
  by_cases a2 : i = 6160
  · rw [if_pos a2, a2]; exact f6160
  rw [if_neg a2]
  by_cases a3 : i = 6162
  · rw [if_pos a3, a3]; exact f6162
  rw [if_neg a3]
  by_cases a4 : i = 5647 + p 6
  · rw [if_pos a4, a4]; exact f47
  rw [if_neg a4]
  by_cases a5 : i = 5654 + p 6
  · rw [if_pos a5, a5]; exact f54
  rw [if_neg a5]
  by_cases a6 : i = 5661 + p 6
  · rw [if_pos a6, a6]; exact f61
  rw [if_neg a6]
  by_cases hs : 0 < gYs p
  · by_cases a7 : i = 5668 + p 6
    · rw [if_pos ⟨hs, a7⟩, a7]; exact f68 hs
    rw [if_neg (fun c => a7 c.2)]
    by_cases a8 : i = 5675 + p 6
    · rw [if_pos ⟨hs, a8⟩, a8]; exact f75 hs
    rw [if_neg (fun c => a8 c.2)]
    by_cases a9 : i = 5682 + p 6
    · rw [if_pos ⟨hs, a9⟩, a9]; exact f82 hs
    rw [if_neg (fun c => a9 c.2)]
    by_cases b1 : 5696 + 16 * p 6 ≤ i ∧ i < 5696 + 16 * p 6 + 16
    · rw [if_pos ⟨hs, b1⟩]
      have := f96 hs (i - (5696 + 16 * p 6)) (by omega) (by omega)
      rwa [show 5696 + 16 * p 6 + (i - (5696 + 16 * p 6)) = i by omega] at this
    rw [if_neg (fun c => b1 c.2)]
    by_cases b2 : 5808 + 16 * p 6 ≤ i ∧ i < 5808 + 16 * p 6 + 16
    · rw [if_pos ⟨hs, b2⟩]
      have := f08 hs (i - (5808 + 16 * p 6)) (by omega) (by omega)
      rwa [show 5808 + 16 * p 6 + (i - (5808 + 16 * p 6)) = i by omega] at this
    rw [if_neg (fun c => b2 c.2)]
    exact fo hs i a1 a2 a3 a4 a5 a6 a7 a8 a9 (by omega) (by omega)
  · rw [if_neg (fun c => hs c.1), if_neg (fun c => hs c.1), if_neg (fun c => hs c.1), if_neg (fun c => hs c.1), if_neg (fun c => hs c.1)]
    exact fn hs i a1 a2 a3 a4 a5 a6
theorem s244 {d : Nat} {p w : Int → Int} {x m : zM} {Q : Int → zM → zM → Prop} (hd : 10 ≤ d) (hp : m 387 = p) (hw : m 390 = w) (hI : IX p) (h6 : p 6 < 7) (hz : ∀ k, 0 ≤ k → k < 16 → p (6032 + 16 * p 6 + k) = 0) (hl0 : 0 ≤ p 6160) (hl1 : p 6160 ≤ 2117251128) (hwb : ∀ k, 0 ≤ k → k < 16 → 0 ≤ w (112 + k) ∧ w (112 + k) ≤ 858993459200) (h : ∀ m', (∀ k, k ≠ 386 → k ≠ 387 → k ≠ 390 → k ≠ 397 → k ≠ 398 → k ≠ 399 → k ≠ 400 → m' k = m k) → (∀ i, i ≠ 23 → m' 386 i = m 386 i) → m' 387 = gYp p w → m' 390 = gYw p w → Q 0 x m') : WPc d 244 [zr 386] 403 [] x m 403 [] Q := by
  obtain ⟨hB, hA, hN, hR⟩ := id hI
  have hb := hB; unfold IB at hb
  obtain ⟨y, hy⟩ : ∃ y, y = p 6 := ⟨_, rfl⟩
  obtain ⟨B1, B2, B3, B4⟩ := gY_bd hB hA hN h6 hz hl0
  obtain ⟨J1, J2, J3, J4, J5⟩ := gEr_J hB hA hN (show 0 ≤ p 6 by omega) h6 hz (p 3) (by omega) (Int.le_refl _)
  rw [show (gEr p (p 6) (p 3)).1 = gYr p from rfl] at J1 J2 J3 J4
  rw [show (gEr p (p 6) (p 3)).2 = gYe p from rfl] at J4 J5
  have hS : gYe p - p 6160 = gYs p := rfl
  -- the row behind the first sums
  obtain ⟨r1, hr1⟩ : ∃ r1, r1 = up (up (up (up (gYr p) (5647 + p 6) (gYe p)) (5654 + p 6) (p 6160)) (5661 + p 6) (gYs p)) 6160 0 := ⟨_, rfl⟩
  have o1 : ∀ i, i ≠ 6160 → i ≠ 5647 + p 6 → i ≠ 5654 + p 6 → i ≠ 5661 + p 6 → r1 i = gYr p i := fun i i0 i1 i2 i3 => by rw [hr1, up_ne i0, up_ne i3, up_ne i2, up_ne i1]
  have o2 : ∀ i, i < 666 ∨ (690 ≤ i ∧ i < 5647) ∨ 6161 ≤ i → r1 i = p i := fun i hi => by rw [o1 i (by omega) (by omega) (by omega) (by omega)]; exact J2 i (by omega) (by omega)
  have hB1 : IB r1 := by
    unfold IB
    rw [o2 0 (by omega), o2 1 (by omega), o2 2 (by omega), o2 3 (by omega), o2 4 (by omega), o2 5 (by omega), o2 6 (by omega), o2 7 (by omega), o2 8 (by omega)]
    exact hb
  have hBr : IB (gYr p) := by
    unfold IB
    rw [J2 0 (by omega) (by omega), J2 1 (by omega) (by omega), J2 2 (by omega) (by omega), J2 3 (by omega) (by omega), J2 4 (by omega) (by omega), J2 5 (by omega) (by omega), J2 6 (by omega) (by omega), J2 7 (by omega) (by omega), J2 8 (by omega) (by omega)]
    exact hb
  have hA1 : IA r1 := IA_f hB (by rw [o2 1 (by omega)]; omega) (o2 2 (by omega)) (fun i i0 i1 => o2 i (by omega)) hA
  have hN1 : IN r1 := IN_f hBr (by rw [o1 0 (by omega) (by omega) (by omega) (by omega)]; omega) (o1 2 (by omega) (by omega) (by omega) (by omega)) (o1 3 (by omega) (by omega) (by omega) (by omega)) (fun i i0 i1 => o1 i (by omega) (by omega) (by omega) (by omega)) (fun i i0 i1 => o1 i (by omega) (by omega) (by omega) (by omega)) J1
  have hR1 : IR r1 := IR_f hB (o2 5 (by omega)) (fun i i0 i1 => o2 i (by omega)) hR
  have t3 : gTell r1 3 (-1) = gTell p 3 (-1) := gTell_n hB hR (o2 0 (by omega)) (o2 5 (by omega)) (o2 6161 (by omega)) (fun i i0 i1 => o2 i (by omega))
  -- the weeks
  have loop : ∀ j, 0 ≤ j → j ≤ 16 → ∀ m', (∀ k, k ≠ 387 → k ≠ 390 → m' k = m k) → m' 387 = up (up (up (gYr p) (5647 + p 6) (gYe p)) (5654 + p 6) (p 6160)) (5661 + p 6) (gYs p) → (∀ k, m' 390 k = if 16 * p 6 ≤ k ∧ k < 16 * p 6 + j then w (112 + (k - 16 * p 6)) else if 112 ≤ k ∧ k < 112 + j then 0 else w k) → WP d 244 212 [(0, zr 386), (1, zi (p 6)), (3, zi (gYs p)), (4, zi j)] [] 403 [] x m' 403 [] Q := by
    refine zdown _ _ ?_
    intro j j0 j1 ih m' hm e387 e390
    apply r244_c212
    by_cases cj : j = 16
    · subst cj
      clear ih
      have ew : m' 390 = gYw p w := by funext k; rw [e390 k]; unfold gYw; rw [show (112 : Int) + 16 = 128 by omega]
      have v6162 : up (up (up (gYr p) (5647 + p 6) (gYe p)) (5654 + p 6) (p 6160)) (5661 + p 6) (gYs p) 6162 = p 6162 := by rw [up_ne (by omega), up_ne (by omega), up_ne (by omega)]; exact J2 6162 (by omega) (by omega)
      have v6 : up (up (up (gYr p) (5647 + p 6) (gYe p)) (5654 + p 6) (p 6160)) (5661 + p 6) (gYs p) 6 = p 6 := by rw [up_ne (by omega), up_ne (by omega), up_ne (by omega)]; exact J2 6 (by omega) (by omega)
      simp only [zP_up, zP_eq, zP_zP, e387, v6162, v6, ← hr1]
      by_cases hs : 0 < gYs p
      · obtain ⟨⟨F0, F1⟩, ⟨D0, D1⟩, ⟨E0, E1⟩, M3, M4⟩ := B4 hs
        have k6162 : ∀ v, up r1 (5668 + p 6) v 6162 = p 6162 := fun v => by rw [up_ne (by omega)]; exact o2 6162 (by omega)
        have k5668 : ∀ v, up r1 (5668 + p 6) v (5668 + p 6) = v := fun v => up_at rfl
        have l5668 : ∀ v u, up (up r1 (5668 + p 6) v) 6162 u (5668 + p 6) = v := fun v u => by rw [up_ne (by omega)]; exact up_at rfl
        have hf : gYs p * gCl (gTell p 3 (-1)) / 100 = gYf p := rfl
        obtain ⟨r2, hr2⟩ : ∃ r2, r2 = up (up r1 (5668 + p 6) (gYf p)) 6162 (w32 (p 6162 + gYf p)) := ⟨_, rfl⟩
        have q2 : ∀ i, i ≠ 5668 + p 6 → i ≠ 6162 → r2 i = r1 i := fun i i0 i1 => by rw [hr2, up_ne i1, up_ne i0]
        have hB2 : IB r2 := by
          unfold IB
          rw [q2 0 (by omega) (by omega), q2 1 (by omega) (by omega), q2 2 (by omega) (by omega), q2 3 (by omega) (by omega), q2 4 (by omega) (by omega), q2 5 (by omega) (by omega), q2 6 (by omega) (by omega), q2 7 (by omega) (by omega), q2 8 (by omega) (by omega)]
          exact hB1
        have hA2 : IA r2 := IA_f hB1 (by rw [q2 1 (by omega) (by omega)]; omega) (q2 2 (by omega) (by omega)) (fun i i0 i1 => q2 i (by omega) (by omega)) hA1
        have hN2 : IN r2 := IN_f hB1 (by rw [q2 0 (by omega) (by omega)]; omega) (q2 2 (by omega) (by omega)) (q2 3 (by omega) (by omega)) (fun i i0 i1 => q2 i (by omega) (by omega)) (fun i i0 i1 => q2 i (by omega) (by omega)) hN1
        have hR2 : IR r2 := IR_f hB1 (q2 5 (by omega) (by omega)) (fun i i0 i1 => q2 i (by omega) (by omega)) hR1
        have t4 : gTell r2 4 (-1) = gTell p 4 (-1) := gTell_n hB hR (by rw [q2 0 (by omega) (by omega)]; exact o2 0 (by omega)) (by rw [q2 5 (by omega) (by omega)]; exact o2 5 (by omega)) (by rw [q2 6161 (by omega) (by omega)]; exact o2 6161 (by omega)) (fun i i0 i1 => by rw [q2 i (by omega) (by omega)]; exact o2 i (by omega))
        have hdv : (gYs p - gYf p) * gCl (gTell p 4 (-1)) / 100 = gYd p := rfl
        have l5675 : ∀ v, up r2 (5675 + p 6) v (5675 + p 6) = v := fun v => up_at rfl
        obtain ⟨r3, hr3⟩ : ∃ r3, r3 = up (up r2 (5675 + p 6) (gYd p)) (5682 + p 6) (gYs p - gYf p - gYd p) := ⟨_, rfl⟩
        have q3 : ∀ i, i ≠ 5675 + p 6 → i ≠ 5682 + p 6 → r3 i = r2 i := fun i i0 i1 => by rw [hr3, up_ne i1, up_ne i0]
        have e75 : r3 (5675 + p 6) = gYd p := by rw [hr3, up_ne (by omega)]; exact up_at rfl
        have e82 : r3 (5682 + p 6) = gYb p := by rw [hr3]; exact up_at rfl
        have e68 : r3 (5668 + p 6) = gYf p := by rw [q3 _ (by omega) (by omega), hr2, up_ne (by omega)]; exact up_at rfl
        have e6162 : r3 6162 = w32 (p 6162 + gYf p) := by rw [q3 _ (by omega) (by omega), hr2]; exact up_at rfl
        have q31 : ∀ i, i ≠ 5668 + p 6 → i ≠ 6162 → i ≠ 5675 + p 6 → i ≠ 5682 + p 6 → r3 i = r1 i := fun i i0 i1 i2 i3 => by rw [q3 i i2 i3, q2 i i0 i1]
        repeat' (first | (with_reducible assumption) | (with_reducible rfl) | (with_reducible apply And.intro) | (with_reducible apply zIn_mk) | (with_reducible apply zLn_mk) | ((with_reducible intro _); try (exfalso; omega)) | omega | (with_reducible exact Or.inr trivial) | (with_reducible exact Or.inl trivial) | ((exfalso; omega)) | ((refine s235 (p := r1) (by omega) (zP_eq _ _) hB1 hA1 hN1 hR1 (by unfold gWho; omega) ?_; intro mB hT hpB hsB; simp only [hsB, t3, zP_up, zP_eq, zP_zP, hpB, k6162, k5668, l5668])) | ((refine s243 ?_; simp only [hdv, l5675, zP_up, zP_eq, zP_zP, hpC])) | ((refine s243 ?_; simp only [hf, zP_up, zP_eq, zP_zP, hpB, k6162, k5668, l5668])) | ((simp only [← hr2]; refine s235 (p := r2) (by omega) (zP_eq _ _) hB2 hA2 hN2 hR2 (by unfold gWho; omega) ?_; intro mC hTC hpC hsC; simp only [hsC, t4, zP_up, zP_eq, zP_zP, hpC])) | ((simp only [← hr3]; refine s244g (r := r3) (a := gYa w) (c := gYc p) (by omega) (zP_eq _ _) (by omega) h6 e75 e82 D0 (by omega) E0 (by omega) ?_ hwb ?_ ?_ ?_ ?_)) | fail)
        · rename_i k k0 k1
          rw [zP_ne _ _ (by decide), hTC.1 390 (by decide) (by decide) (by decide), zP_ne _ _ (by decide), hT.1 390 (by decide) (by decide) (by decide), zP_ne _ _ (by decide), ew]
          unfold gYw gYa
          rw [if_pos (by omega), show 16 * p 6 + k - 16 * p 6 = k by omega]
        · rename_i k k0 k1
          rw [q31 _ (by omega) (by omega) (by omega) (by omega), o1 _ (by omega) (by omega) (by omega) (by omega)]
          rfl
        · rename_i k k0 k1
          exact (B2 k k0 k1).1
        · rename_i k k0 k1
          have := B2 k k0 k1
          omega
        · have e6 : r3 6 = p 6 := by rw [q31 6 (by omega) (by omega) (by omega) (by omega)]; exact o2 6 (by omega)
          omega
        · have e6 : r3 6 = p 6 := by rw [q31 6 (by omega) (by omega) (by omega) (by omega)]; exact o2 6 (by omega)
          omega
        · rename_i mD g1 g2 g3 g4 g5 g6
          have e6 : r3 6 = p 6 := by rw [q31 6 (by omega) (by omega) (by omega) (by omega)]; exact o2 6 (by omega)
          have x7 : ∀ i, i ≠ 6 → i ≠ 6162 → i < 5696 ∨ 6032 ≤ i → mD 387 i = r3 i := fun i i0 i1 i2 => g2 i i0 i1 (by omega) (by omega)
          refine h mD (fun k k0 k1 k2 k3 k4 k5 k6 => ?_) (fun i i0 => ?_) (gYp_of (by omega) h6 ?_ ?_ ?_ ?_ ?_ ?_ (fun c => absurd hs c) (fun _ i i0 i1 i2 i3 i4 i5 i6 i7 i8 i9 j9 => ?_) (fun _ => ?_) (fun _ => ?_) (fun _ => ?_) (fun _ => g3) (fun _ => g4)) ?_
          · rw [g1 k k1 k5 k6, zP_ne _ _ k1, hTC.1 k k3 k4 k0, zP_ne _ _ k1, hT.1 k k3 k4 k0, zP_ne _ _ k1]; exact hm k k1 k2
          · rw [g1 386 (by decide) (by decide) (by decide), zP_ne _ _ (by decide), hTC.2 i i0, zP_ne _ _ (by decide), hT.2 i i0, zP_ne _ _ (by decide), hm 386 (by decide) (by decide)]
          · rw [g5, e6]
          · rw [x7 6160 (by omega) (by omega) (by omega), q31 6160 (by omega) (by omega) (by omega) (by omega), hr1]; exact up_at rfl
          · rw [g6, e6162]; unfold gYv; rw [if_pos hs]
          · rw [x7 _ (by omega) (by omega) (by omega), q31 _ (by omega) (by omega) (by omega) (by omega), hr1, up_ne (by omega), up_ne (by omega), up_ne (by omega)]; exact up_at rfl
          · rw [x7 _ (by omega) (by omega) (by omega), q31 _ (by omega) (by omega) (by omega) (by omega), hr1, up_ne (by omega), up_ne (by omega)]; exact up_at rfl
          · rw [x7 _ (by omega) (by omega) (by omega), q31 _ (by omega) (by omega) (by omega) (by omega), hr1, up_ne (by omega)]; exact up_at rfl
          · rw [g2 i i0 i2 i9 j9, q31 i i6 i2 i7 i8]; exact o1 i i1 i3 i4 i5
          · rw [x7 _ (by omega) (by omega) (by omega)]; exact e68
          · rw [x7 _ (by omega) (by omega) (by omega)]; exact e75
          · rw [x7 _ (by omega) (by omega) (by omega)]; exact e82
          · rw [g1 390 (by decide) (by decide) (by decide), zP_ne _ _ (by decide), hTC.1 390 (by decide) (by decide) (by decide), zP_ne _ _ (by decide), hT.1 390 (by decide) (by decide) (by decide), zP_ne _ _ (by decide)]; exact ew
      · repeat' (first | (with_reducible assumption) | (with_reducible rfl) | (with_reducible apply And.intro) | (with_reducible apply zIn_mk) | (with_reducible apply zLn_mk) | ((with_reducible intro _); try (exfalso; omega)) | omega | (with_reducible exact Or.inr trivial) | (with_reducible exact Or.inl trivial) | ((exfalso; omega)) | ((refine h _ (fun k k0 k1 k2 _ _ _ _ => by rw [zP_ne _ _ k1]; exact hm k k1 k2) (fun i _ => by rw [zP_ne _ _ (by decide), hm 386 (by decide) (by decide)]) ((zP_eq _ _).trans (gYp_of (by omega) h6 ?_ ?_ ?_ ?_ ?_ ?_ ?_ ?_ ?_ ?_ ?_ ?_ ?_)) ((zP_ne _ _ (by decide)).trans ew))) | fail)
        · exact up_at rfl
        · rw [up_ne (by omega), up_ne (by omega), hr1]; exact up_at rfl
        · rw [up_ne (by omega), up_at rfl]; unfold gYv; rw [if_neg hs]
        · rw [up_ne (by omega), up_ne (by omega), hr1, up_ne (by omega), up_ne (by omega), up_ne (by omega)]; exact up_at rfl
        · rw [up_ne (by omega), up_ne (by omega), hr1, up_ne (by omega), up_ne (by omega)]; exact up_at rfl
        · rw [up_ne (by omega), up_ne (by omega), hr1, up_ne (by omega)]; exact up_at rfl
        · rename_i _ i i1 i2 i3 i4 i5 i6
          rw [up_ne i1, up_ne i3]; exact o1 i i2 i4 i5 i6
    · have ih2 := ih (by omega) (zupd (zupd m' 390 (16 * p 6 + j) (m' 390 (112 + j))) 390 (112 + j) 0) (fun k k0 k1 => by rw [zu_ne _ _ _ k1, zu_ne _ _ _ k1]; exact hm k k0 k1) (by rw [zu_ne _ _ _ (by decide), zu_ne _ _ _ (by decide)]; exact e387) (fun k => by
        rw [zu_eq, zu_eq]
        by_cases c1 : k = 112 + j
        · rw [up_at c1, if_neg (by omega), if_pos (by omega)]
        · rw [up_ne c1]
          by_cases c2 : k = 16 * p 6 + j
          · rw [up_at c2, e390 (112 + j), if_neg (by omega), if_neg (by omega), if_pos (by omega), show k - 16 * p 6 = j by omega]
          · rw [up_ne c2, e390 k]
            by_cases c3 : 16 * p 6 ≤ k ∧ k < 16 * p 6 + j
            · rw [if_pos c3, if_pos (by omega)]
            · rw [if_neg c3]
              by_cases c4 : 112 ≤ k ∧ k < 112 + j
              · rw [if_pos c4, if_neg (by omega), if_pos (by omega)]
              · rw [if_neg c4, if_neg (by omega), if_neg (by omega)])
      clear ih
      repeat' (first | (with_reducible assumption) | (with_reducible rfl) | (with_reducible apply And.intro) | (with_reducible apply zIn_mk) | (with_reducible apply zLn_mk) | ((with_reducible intro _); try (exfalso; omega)) | omega | (with_reducible exact Or.inr trivial) | (with_reducible exact Or.inl trivial) | ((exact ih2)) | fail)
  apply r244
  rw [hp]
  refine ⟨by omega, ?_⟩
  refine s244l hp hB hA hN (by omega) h6 hz hl0 hl1 ?_
  exact loop 0 (by omega) (by omega) _ (fun k k0 _ => zP_ne _ _ k0) (zP_eq _ _) (fun k => by rw [zP_ne _ _ (by decide), hw, if_neg (by omega), if_neg (by omega)])
