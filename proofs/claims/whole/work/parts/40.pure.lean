/-! PURE: numbers, sums, rows of numbers -/
theorem zIn_mk {a : Int} (h : -2147483648 ≤ a) (h2 : a < 2147483648) : zIn a := ⟨h, h2⟩
theorem zLn_mk {a : Int} (h : -9223372036854775808 ≤ a) (h2 : a < 9223372036854775808) : zLn a := ⟨h, h2⟩
def up (p : Int → Int) (i v : Int) : Int → Int := fun j => if j = i then v else p j
theorem up_eq (p : Int → Int) (i v : Int) : up p i v i = v := by simp [up]
theorem up_at {p : Int → Int} {i v j : Int} (h : j = i) : up p i v j = v := by simp [up, h]
theorem up_ne {p : Int → Int} {i v j : Int} (h : j ≠ i) : up p i v j = p j := by simp [up, h]
theorem zu_eq (m : zM) (k : Nat) (i v : Int) : zupd m k i v k = up (m k) i v := by funext j; simp [zupd, up]
theorem zu_ne (m : zM) {k k' : Nat} (i v : Int) (h : k' ≠ k) : zupd m k i v k' = m k' := zupd_ne h
def zP (m : zM) (p : Int → Int) : zM := fun k => if k = 387 then p else m k
theorem zP_eq (m : zM) (p : Int → Int) : zP m p 387 = p := by simp [zP]
theorem zP_ne (m : zM) (p : Int → Int) {k : Nat} (h : k ≠ 387) : zP m p k = m k := by simp [zP, h]
theorem zP_zP (m : zM) (p q : Int → Int) : zP (zP m p) q = zP m q := by funext k; simp only [zP]; split <;> rfl
theorem zP_up (m : zM) (i v : Int) : zupd m 387 i v = zP m (up (m 387) i v) := by
  funext k j; by_cases h : k = 387 <;> simp [zP, zupd, up, h]
theorem zP_self (m : zM) : zP m (m 387) = m := by funext k; simp only [zP]; split <;> simp_all
/-- the sum of f over 0 .. n - 1 -/
def zS (f : Int → Int) : Nat → Int
  | 0 => 0
  | n + 1 => zS f n + f n
def zT (f : Int → Int) (n : Int) : Int := zS f n.toNat
theorem zT_0 {f : Int → Int} {n : Int} (h : n ≤ 0) : zT f n = 0 := by
  have : n.toNat = 0 := by omega
  simp [zT, this, zS]
theorem zT_s {f : Int → Int} {n : Int} (h : 0 ≤ n) : zT f (n + 1) = zT f n + f n := by
  have e : (n + 1).toNat = n.toNat + 1 := by omega
  have e2 : (n.toNat : Int) = n := by omega
  simp only [zT, e, zS, e2]
/-- up a loop's counter -/
theorem zdown (N : Int) (P : Int → Prop) (h : ∀ j, 0 ≤ j → j ≤ N → (j < N → P (j + 1)) → P j) : ∀ j, 0 ≤ j → j ≤ N → P j := by
  have key : ∀ (k : Nat) (j : Int), 0 ≤ j → j ≤ N → (N - j).toNat = k → P j := by
    intro k
    induction k with
    | zero => intro j h0 h1 hk; exact h j h0 h1 (fun hl => by omega)
    | succ k ih => intro j h0 h1 hk; exact h j h0 h1 (fun hl => ih (j + 1) (by omega) (by omega) (by omega))
  intro j h0 h1
  exact key _ j h0 h1 rfl
/-- down a loop's counter -/
theorem zfall (P : Int → Prop) (h : ∀ j, -1 ≤ j → (0 ≤ j → P (j - 1)) → P j) : ∀ j, -1 ≤ j → P j := by
  have key : ∀ (k : Nat) (j : Int), -1 ≤ j → (j + 1).toNat = k → P j := by
    intro k
    induction k with
    | zero => intro j h0 hk; exact h j h0 (fun hl => by omega)
    | succ k ih => intro j h0 hk; exact h j h0 (fun hl => ih (j - 1) (by omega) (by omega))
  intro j h0
  exact key _ j h0 rfl
theorem zup1 (P : Int → Prop) (h0 : P 0) (h : ∀ j, 0 ≤ j → P j → P (j + 1)) : ∀ j, 0 ≤ j → P j := by
  have key : ∀ (k : Nat), P k := by
    intro k
    induction k with
    | zero => exact h0
    | succ k ih => exact_mod_cast h k (by omega) ih
  intro j hj
  have := key j.toNat
  rwa [Int.toNat_of_nonneg hj] at this
theorem zT_congr {f g : Int → Int} {n : Int} (h : ∀ j, 0 ≤ j → j < n → f j = g j) : zT f n = zT g n := by
  by_cases hn : n ≤ 0
  · rw [zT_0 hn, zT_0 hn]
  · have key : ∀ j, 0 ≤ j → (j ≤ n → zT f j = zT g j) := by
      refine zup1 _ (fun _ => by rw [zT_0 (by omega), zT_0 (by omega)]) ?_
      intro j h0 ih hj
      rw [zT_s h0, zT_s h0, ih (by omega), h j h0 (by omega)]
    exact key n (by omega) (by omega)
/-- lo ≤ f ≤ hi at each place: so is the sum -/
theorem zT_bd {f : Int → Int} {lo hi n : Int} (hn : 0 ≤ n) (h : ∀ j, 0 ≤ j → j < n → lo ≤ f j ∧ f j ≤ hi) : lo * n ≤ zT f n ∧ zT f n ≤ hi * n := by
  have key : ∀ j, 0 ≤ j → (j ≤ n → lo * j ≤ zT f j ∧ zT f j ≤ hi * j) := by
    refine zup1 _ (fun _ => by rw [zT_0 (by omega)]; omega) ?_
    intro j h0 ih hj
    have a := ih (by omega)
    have b := h j h0 (by omega)
    rw [zT_s h0, Int.mul_add, Int.mul_add]
    omega
  exact key n hn (by omega)
theorem zT_add {f g : Int → Int} {n : Int} : zT (fun j => f j + g j) n = zT f n + zT g n := by
  by_cases hn : n ≤ 0
  · rw [zT_0 hn, zT_0 hn, zT_0 hn]; rfl
  · refine zup1 (fun j => zT (fun j => f j + g j) j = zT f j + zT g j) (by simp [zT_0]) ?_ n (by omega)
    intro j h0 ih
    show zT _ (j + 1) = _
    rw [zT_s h0, zT_s h0, zT_s h0]
    have : zT (fun j => f j + g j) j = zT f j + zT g j := ih
    omega
/-- f is changed at one place -/
theorem zT_one {f g : Int → Int} {n k : Int} (h0 : 0 ≤ k) (h1 : k < n) (h : ∀ j, 0 ≤ j → j < n → j ≠ k → f j = g j) : zT f n = zT g n + (f k - g k) := by
  have key : ∀ j, 0 ≤ j → (j ≤ n → zT f j = zT g j + (if k < j then f k - g k else 0)) := by
    refine zup1 _ (fun _ => by rw [zT_0 (by omega), zT_0 (by omega), if_neg (by omega)]; rfl) ?_
    intro j h0 ih hj
    have a := ih (by omega)
    rw [zT_s h0, zT_s h0]
    by_cases e : j = k
    · subst e; rw [if_neg (by omega)] at a; rw [if_pos (by omega)]; omega
    · have b := h j h0 (by omega) e
      by_cases c : k < j
      · rw [if_pos c] at a; rw [if_pos (by omega)]; omega
      · rw [if_neg c] at a; rw [if_neg (by omega)]; omega
  have := key n (by omega) (by omega)
  rwa [if_pos h1] at this
theorem zT_zero {f : Int → Int} {n : Int} (h : ∀ j, 0 ≤ j → j < n → f j = 0) : zT f n = 0 := by
  by_cases hn : n ≤ 0
  · exact zT_0 hn
  · have := zT_bd (lo := 0) (hi := 0) (f := f) (n := n) (by omega) (fun j a b => by rw [h j a b]; exact ⟨Int.le_refl _, Int.le_refl _⟩)
    omega
/-- a longer row whose rest is 0 -/
theorem zT_ext {f : Int → Int} {n k : Int} (hn : 0 ≤ n) (hk : n ≤ k) (h : ∀ j, n ≤ j → j < k → f j = 0) : zT f k = zT f n := by
  have key : ∀ j, 0 ≤ j → (n + j ≤ k → zT f (n + j) = zT f n) := by
    refine zup1 _ (fun _ => by rw [Int.add_zero]) ?_
    intro j h0 ih hj
    rw [← Int.add_assoc, zT_s (by omega), ih (by omega), h _ (by omega) (by omega), Int.add_zero]
  have := key (k - n) (by omega) (by omega)
  rwa [show n + (k - n) = k by omega] at this
theorem w32_lo (a : Int) : -2147483648 ≤ w32 a := by unfold w32; omega
theorem w32_hi (a : Int) : w32 a < 2147483648 := by unfold w32; omega
theorem w32_wa (a b : Int) : w32 (w32 a + b) = w32 (a + b) := by unfold w32; omega
theorem w32_aw (a b : Int) : w32 (a + w32 b) = w32 (a + b) := by unfold w32; omega
theorem w32_ws (a b : Int) : w32 (w32 a - b) = w32 (a - b) := by unfold w32; omega
theorem w32_w64 (a : Int) : w32 (w64 a) = w32 a := by unfold w32 w64; omega
theorem w32_w (a : Int) : w32 (w32 a) = w32 a := by unfold w32; omega
theorem w32_i {a : Int} (h : -2147483648 ≤ a) (h2 : a < 2147483648) : w32 a = a := by unfold w32; omega
theorem w32_0 : w32 0 = 0 := by decide
