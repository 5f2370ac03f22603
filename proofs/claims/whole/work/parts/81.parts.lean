/-! PARTING: the greatest rests -/
def gPkN (r : Int → Int) : Nat → Int
  | 0 => 0
  | n + 1 => if r (gPkN r n) < r ((n : Int) + 1) then (n : Int) + 1 else gPkN r n
def gPk (r : Int → Int) : Int := gPkN r 15
theorem gPkN_in (r : Int → Int) : ∀ n : Nat, 0 ≤ gPkN r n ∧ gPkN r n ≤ (n : Int) := by
  intro n
  induction n with
  | zero => exact ⟨Int.le_refl _, Int.le_refl _⟩
  | succ n ih => unfold gPkN; split <;> omega
theorem gPkN_max (r : Int → Int) : ∀ (n : Nat) (k : Int), 0 ≤ k → k ≤ (n : Int) → r k ≤ r (gPkN r n) := by
  intro n
  induction n with
  | zero => intro k k0 k1; rw [show k = 0 by omega]; exact Int.le_refl _
  | succ n ih =>
    intro k k0 k1
    unfold gPkN
    by_cases c : k = (n : Int) + 1
    · subst c; split <;> omega
    · have := ih k k0 (by omega)
      split <;> omega
theorem gPkN_c {r r' : Int → Int} : ∀ n : Nat, (∀ k, 0 ≤ k → k ≤ (n : Int) → r k = r' k) → gPkN r n = gPkN r' n := by
  intro n
  induction n with
  | zero => intro _; rfl
  | succ n ih =>
    intro h
    have e := ih (fun k k0 k1 => h k k0 (by omega))
    have i := gPkN_in r' n
    unfold gPkN
    rw [e, h (gPkN r' n) (by omega) (by omega), h ((n : Int) + 1) (by omega) (by omega)]
def gBeN (r : Int → Int) : Nat → Int
  | 0 => -1
  | n + 1 => if 0 < r n ∧ (gBeN r n = -1 ∨ r (gBeN r n) < r n) then (n : Int) else gBeN r n
def gBe (r : Int → Int) (i : Int) : Int := gBeN r i.toNat
theorem gBe_s {r : Int → Int} {i : Int} (h : 0 ≤ i) : gBe r (i + 1) = if 0 < r i ∧ (gBe r i = -1 ∨ r (gBe r i) < r i) then i else gBe r i := by
  unfold gBe
  have e : (i + 1).toNat = i.toNat + 1 := by omega
  have e2 : (i.toNat : Int) = i := by omega
  rw [e, gBeN, e2]
theorem gBe_in (r : Int → Int) : ∀ i, 0 ≤ i → gBe r i = -1 ∨ (0 ≤ gBe r i ∧ gBe r i < i ∧ 0 < r (gBe r i)) := by
  refine zup1 _ (Or.inl rfl) ?_
  intro i i0 ih
  rw [gBe_s i0]
  by_cases c : 0 < r i ∧ (gBe r i = -1 ∨ r (gBe r i) < r i)
  · rw [if_pos c]; exact Or.inr ⟨i0, by omega, c.1⟩
  · rw [if_neg c]
    rcases ih with h | ⟨h1, h2, h3⟩
    · exact Or.inl h
    · exact Or.inr ⟨h1, by omega, h3⟩
theorem gBeN_pk (r : Int → Int) : ∀ n : Nat, (gBeN r (n + 1) = -1 ∧ r (gPkN r n) ≤ 0) ∨ (gBeN r (n + 1) = gPkN r n ∧ 0 < r (gPkN r n)) := by
  intro n
  induction n with
  | zero =>
    show ((if 0 < r ((0 : Nat) : Int) ∧ ((-1 : Int) = -1 ∨ r (-1) < r ((0 : Nat) : Int)) then ((0 : Nat) : Int) else -1) = -1 ∧ r 0 ≤ 0) ∨ ((if 0 < r ((0 : Nat) : Int) ∧ ((-1 : Int) = -1 ∨ r (-1) < r ((0 : Nat) : Int)) then ((0 : Nat) : Int) else -1) = 0 ∧ 0 < r 0)
    rw [show ((0 : Nat) : Int) = 0 from rfl]
    by_cases c : 0 < r 0
    · right; rw [if_pos ⟨c, Or.inl rfl⟩]; exact ⟨rfl, c⟩
    · left; rw [if_neg (fun h => c h.1)]; exact ⟨rfl, by omega⟩
  | succ n ih =>
    have e : gBeN r (n + 1 + 1) = if 0 < r ((n + 1 : Nat) : Int) ∧ (gBeN r (n + 1) = -1 ∨ r (gBeN r (n + 1)) < r ((n + 1 : Nat) : Int)) then ((n + 1 : Nat) : Int) else gBeN r (n + 1) := rfl
    have e' : gPkN r (n + 1) = if r (gPkN r n) < r ((n : Int) + 1) then (n : Int) + 1 else gPkN r n := rfl
    have ec : ((n + 1 : Nat) : Int) = (n : Int) + 1 := rfl
    have i := gPkN_in r n
    rw [ec] at e
    rcases ih with ⟨h1, h2⟩ | ⟨h1, h2⟩
    · rw [h1] at e
      by_cases c : 0 < r ((n : Int) + 1)
      · right
        rw [if_pos ⟨c, Or.inl rfl⟩] at e
        rw [if_pos (by omega)] at e'
        rw [e, e']; exact ⟨rfl, c⟩
      · left
        rw [if_neg (fun h => c h.1)] at e
        refine ⟨e, ?_⟩
        rw [e']; split <;> omega
    · rw [h1] at e
      by_cases c : r (gPkN r n) < r ((n : Int) + 1)
      · right
        rw [if_pos ⟨by omega, Or.inr c⟩] at e
        rw [if_pos c] at e'
        rw [e, e']; exact ⟨rfl, by omega⟩
      · right
        rw [if_neg (fun h => h.2.elim (fun q => by omega) (fun q => c q))] at e
        rw [if_neg c] at e'
        rw [e, e']; exact ⟨rfl, h2⟩
theorem gBe_pk {r : Int → Int} (h : 0 < r (gPk r)) : gBe r 16 = gPk r := by
  unfold gPk at *
  have := gBeN_pk r 15
  show gBeN r (15 + 1) = _
  rcases this with ⟨_, h2⟩ | ⟨h1, _⟩
  · omega
  · exact h1
theorem gPk_c {r r' : Int → Int} (h : ∀ k, 0 ≤ k → k < 16 → r k = r' k) : gPk r = gPk r' := gPkN_c 15 (fun k k0 k1 => h k k0 (by omega))
theorem gPk_in (r : Int → Int) : 0 ≤ gPk r ∧ gPk r < 16 := by
  have := gPkN_in r 15
  unfold gPk; omega
/-- parts given, rests left, behind t of those that get one more -/
def gRs (s A : Int) (a : Int → Int) : Nat → (Int → Int) × (Int → Int)
  | 0 => (fun k => s * a k / A, fun k => s * a k % A)
  | t + 1 => (up (gRs s A a t).1 (gPk (gRs s A a t).2) ((gRs s A a t).1 (gPk (gRs s A a t).2) + 1), up (gRs s A a t).2 (gPk (gRs s A a t).2) (-1))
def gRi (s A : Int) (a : Int → Int) (t : Int) : (Int → Int) × (Int → Int) := gRs s A a t.toNat
theorem gRi_s {s A : Int} {a : Int → Int} {t : Int} (h : 0 ≤ t) : gRi s A a (t + 1) = (up (gRi s A a t).1 (gPk (gRi s A a t).2) ((gRi s A a t).1 (gPk (gRi s A a t).2) + 1), up (gRi s A a t).2 (gPk (gRi s A a t).2) (-1)) := by
  unfold gRi
  have e : (t + 1).toNat = t.toNat + 1 := by omega
  rw [e, gRs]
def gLf (s : Int) (a : Int → Int) : Int := s - zT (fun k => s * a k / zT a 16) 16
def gGet (s : Int) (a : Int → Int) : Int → Int := if zT a 16 = 0 then fun _ => 0 else (gRi s (zT a 16) a (gLf s a)).1
theorem zT_mul {f : Int → Int} {c : Int} : ∀ n, 0 ≤ n → zT (fun k => c * f k) n = c * zT f n := by
  refine zup1 _ (by rw [zT_0 (by omega), zT_0 (by omega), Int.mul_zero]) ?_
  intro n n0 ih
  rw [zT_s n0, zT_s n0, ih, Int.mul_add]
theorem zT_part {f : Int → Int} {n k : Int} (hf : ∀ j, 0 ≤ j → j < n → 0 ≤ f j) (k0 : 0 ≤ k) (k1 : k < n) : f k ≤ zT f n := by
  have e := zT_one (f := f) (g := fun j => if j = k then 0 else f j) k0 k1 (fun j _ _ hj => by (try dsimp only); rw [if_neg hj])
  have b : zT (fun _ => (0 : Int)) n ≤ zT (fun j => if j = k then 0 else f j) n := zT_le (by omega) (fun j j0 j1 => by (try dsimp only); split <;> first | omega | exact hf j j0 j1)
  rw [zT_zero (f := fun _ => (0 : Int)) (fun _ _ _ => rfl)] at b
  (try dsimp only at e)
  rw [if_pos rfl] at e
  omega
theorem gPt {s : Int} {a : Int → Int} (s0 : 0 ≤ s) (s1 : s ≤ 2879952) (hb : ∀ k, 0 ≤ k → k < 16 → 0 ≤ a k ∧ a k ≤ 858993459200) (hA : 0 < zT a 16) {k : Int} (k0 : 0 ≤ k) (k1 : k < 16) : (0 ≤ s * a k ∧ s * a k ≤ 2879952 * 858993459200) ∧ (0 ≤ s * a k / zT a 16 ∧ s * a k / zT a 16 ≤ s) ∧ (0 ≤ s * a k % zT a 16 ∧ s * a k % zT a 16 < zT a 16) ∧ zT a 16 * (s * a k / zT a 16) + s * a k % zT a 16 = s * a k := by
  have b := hb k k0 k1
  have m := mulbd s0 s1 b.1 b.2
  have p := zT_part (f := a) (n := 16) (fun j j0 j1 => (hb j j0 j1).1) k0 k1
  refine ⟨m, ⟨Int.ediv_nonneg m.1 (by omega), Int.ediv_le_of_le_mul hA (Int.mul_le_mul_of_nonneg_left p s0)⟩, ⟨Int.emod_nonneg _ (by omega), Int.emod_lt_of_pos _ hA⟩, Int.mul_ediv_add_emod _ _⟩
theorem gLf_rs {s : Int} {a : Int → Int} : zT (fun k => s * a k % zT a 16) 16 = zT a 16 * gLf s a := by
  have h1 : zT (fun k => s * a k) 16 = s * zT a 16 := zT_mul 16 (by omega)
  have h2 : zT (fun k => s * a k) 16 = zT (fun k => zT a 16 * (s * a k / zT a 16) + s * a k % zT a 16) 16 := zT_congr (fun k _ _ => (Int.mul_ediv_add_emod _ _).symm)
  rw [zT_add (f := fun k => zT a 16 * (s * a k / zT a 16)) (g := fun k => s * a k % zT a 16), zT_mul (f := fun k => s * a k / zT a 16) 16 (by omega)] at h2
  unfold gLf
  rw [Int.mul_sub, Int.mul_comm (zT a 16) s]
  omega
theorem gLf_bd {s : Int} {a : Int → Int} (s0 : 0 ≤ s) (s1 : s ≤ 2879952) (hb : ∀ k, 0 ≤ k → k < 16 → 0 ≤ a k ∧ a k ≤ 858993459200) (hA : 0 < zT a 16) : 0 ≤ gLf s a ∧ gLf s a ≤ 15 := by
  have e := gLf_rs (s := s) (a := a)
  have b := zT_bd (f := fun k => s * a k % zT a 16) (lo := 0) (hi := zT a 16 - 1) (n := 16) (by omega) (fun k k0 k1 => by have := (gPt s0 s1 hb hA k0 k1).2.2.1; (try dsimp only); omega)
  refine ⟨?_, ?_⟩
  · by_cases c : 0 ≤ gLf s a
    · exact c
    · have := Int.mul_le_mul_of_nonneg_left (show gLf s a ≤ -1 by omega) (show 0 ≤ zT a 16 by omega)
      omega
  · by_cases c : gLf s a ≤ 15
    · exact c
    · have := Int.mul_le_mul_of_nonneg_left (show 16 ≤ gLf s a by omega) (show 0 ≤ zT a 16 by omega)
      omega
theorem gRi_J {s : Int} {a : Int → Int} (s0 : 0 ≤ s) (s1 : s ≤ 2879952) (hb : ∀ k, 0 ≤ k → k < 16 → 0 ≤ a k ∧ a k ≤ 858993459200) (hA : 0 < zT a 16) : ∀ t, 0 ≤ t → (t ≤ gLf s a → (∀ k, 0 ≤ k → k < 16 → ((gRi s (zT a 16) a t).2 k = s * a k % zT a 16 ∧ (gRi s (zT a 16) a t).1 k = s * a k / zT a 16) ∨ ((gRi s (zT a 16) a t).2 k = -1 ∧ (gRi s (zT a 16) a t).1 k = s * a k / zT a 16 + 1 ∧ 0 < s * a k % zT a 16)) ∧ zT a 16 * (gLf s a - t) ≤ zT (fun k => if (gRi s (zT a 16) a t).2 k = -1 then 0 else (gRi s (zT a 16) a t).2 k) 16 ∧ (t < gLf s a → 0 < (gRi s (zT a 16) a t).2 (gPk (gRi s (zT a 16) a t).2))) := by
  have pos : ∀ (r : Int → Int) (t : Int), t < gLf s a → zT a 16 * (gLf s a - t) ≤ zT (fun k => if r k = -1 then 0 else r k) 16 → 0 < r (gPk r) := by
    intro r t ht hz
    by_cases c : 0 < r (gPk r)
    · exact c
    · have l : zT (fun k => if r k = -1 then 0 else r k) 16 ≤ zT (fun _ => (0 : Int)) 16 := zT_le (by omega) (fun k k0 k1 => by have := gPkN_max r 15 k k0 (by omega); unfold gPk at c; (try dsimp only); split <;> omega)
      rw [zT_zero (f := fun _ => (0 : Int)) (fun _ _ _ => rfl)] at l
      have := Int.mul_pos hA (show 0 < gLf s a - t by omega)
      omega
  refine zup1 _ (fun _ => ?_) ?_
  · have z : zT a 16 * (gLf s a - 0) ≤ zT (fun k => if s * a k % zT a 16 = -1 then 0 else s * a k % zT a 16) 16 := by
      have e : zT (fun k => if s * a k % zT a 16 = -1 then 0 else s * a k % zT a 16) 16 = zT (fun k => s * a k % zT a 16) 16 := zT_congr (fun k k0 k1 => by have := (gPt s0 s1 hb hA k0 k1).2.2.1; (try dsimp only); rw [if_neg (by omega)])
      rw [e, gLf_rs, Int.sub_zero]; exact Int.le_refl _
    exact ⟨fun k k0 k1 => Or.inl ⟨rfl, rfl⟩, z, fun h => pos (gRi s (zT a 16) a 0).2 0 h z⟩
  · intro t t0 ih t1
    obtain ⟨h1, h2, h3⟩ := ih (by omega)
    have h4 := h3 (by omega)
    have es := gRi_s (s := s) (A := zT a 16) (a := a) t0
    have gi := gPk_in (gRi s (zT a 16) a t).2
    obtain ⟨r, hr⟩ : ∃ r, r = (gRi s (zT a 16) a t).2 := ⟨_, rfl⟩
    obtain ⟨g, hg⟩ : ∃ g, g = (gRi s (zT a 16) a t).1 := ⟨_, rfl⟩
    rw [← hr, ← hg] at es
    rw [← hr] at h2 h4 gi
    rw [← hr, ← hg] at h1
    rw [es]
    clear ih h3 hr hg es
    obtain ⟨b, hb'⟩ : ∃ b, b = gPk r := ⟨_, rfl⟩
    rw [← hb'] at h4 gi ⊢
    have pb := gPt s0 s1 hb hA gi.1 gi.2
    have hbb := h1 b gi.1 gi.2
    have z : zT a 16 * (gLf s a - (t + 1)) ≤ zT (fun k => if (up r b (-1)) k = -1 then 0 else (up r b (-1)) k) 16 := by
      have e := zT_one (f := fun k => if (up r b (-1)) k = -1 then 0 else (up r b (-1)) k) (g := fun k => if r k = -1 then 0 else r k) (n := 16) gi.1 gi.2 (fun k _ _ hk => by (try dsimp only); rw [up_ne hk])
      (try dsimp only at e)
      rw [up_at rfl, if_pos rfl, if_neg (by omega)] at e
      rw [e, show gLf s a - (t + 1) = gLf s a - t - 1 by omega, Int.mul_sub, Int.mul_one]
      omega
    refine ⟨fun k k0 k1 => ?_, z, fun h => pos (up r b (-1)) (t + 1) h z⟩
    show ((up r b (-1)) k = _ ∧ (up g b (g b + 1)) k = _) ∨ ((up r b (-1)) k = -1 ∧ (up g b (g b + 1)) k = _ ∧ _)
    by_cases c : k = b
    · subst c
      rw [up_at rfl, up_at rfl]
      right
      rcases hbb with ⟨q1, q2⟩ | ⟨q1, _⟩
      · exact ⟨rfl, by omega, by omega⟩
      · omega
    · rw [up_ne c, up_ne c]; exact h1 k k0 k1
theorem gGet_bd {s : Int} {a : Int → Int} (s0 : 0 ≤ s) (s1 : s ≤ 2879952) (hb : ∀ k, 0 ≤ k → k < 16 → 0 ≤ a k ∧ a k ≤ 858993459200) {k : Int} (k0 : 0 ≤ k) (k1 : k < 16) : 0 ≤ gGet s a k ∧ gGet s a k ≤ s := by
  unfold gGet
  have p := zT_bd (f := a) (lo := 0) (hi := 858993459200) (n := 16) (by omega) hb
  by_cases c : zT a 16 = 0
  · rw [if_pos c]; exact ⟨Int.le_refl _, s0⟩
  · rw [if_neg c]
    have hA : 0 < zT a 16 := by omega
    have l := gLf_bd s0 s1 hb hA
    have J := (gRi_J s0 s1 hb hA (gLf s a) l.1 (Int.le_refl _)).1 k k0 k1
    have q := gPt s0 s1 hb hA k0 k1
    rcases J with ⟨_, e⟩ | ⟨_, e, hp⟩
    · rw [e]; exact q.2.1
    · rw [e]
      refine ⟨by omega, ?_⟩
      have t := zT_part (f := a) (n := 16) (fun j j0 j1 => (hb j j0 j1).1) k0 k1
      have u := Int.mul_le_mul_of_nonneg_left t s0
      have v : zT a 16 * (s * a k / zT a 16) < zT a 16 * s := by rw [Int.mul_comm (zT a 16) s]; omega
      have := Int.lt_of_mul_lt_mul_left v (by omega)
      omega
/-! the model's -/
theorem s242 {d : Nat} {s : Int} {a : Int → Int} {x m : zM} {Q : Int → zM → zM → Prop} (s0 : 0 ≤ s) (s1 : s ≤ 2879952) (ha : ∀ k, 0 ≤ k → k < 16 → m 399 k = a k) (hb : ∀ k, 0 ≤ k → k < 16 → 0 ≤ a k ∧ a k ≤ 858993459200) (h : ∀ m', (∀ k, k ≠ 400 → m' k = m k) → (∀ k, 0 ≤ k → k < 16 → m' 400 k = gGet s a k) → Q (if zT a 16 = 0 then s else 0) x m') : WPc d 242 [zr 386, zl s] 403 [] x m 403 [] Q := by
  have pA := zT_bd (f := a) (lo := 0) (hi := 858993459200) (n := 16) (by omega) hb
  have loop3 : 0 < zT a 16 → ∀ j, 0 ≤ j → j ≤ gLf s a → ∀ m', (∀ k, k ≠ 400 → m' k = m k) → (∀ k, 0 ≤ k → k < 16 → m' 400 k = (gRi s (zT a 16) a j).1 k) → WP d 242 93 [(0, zr 386), (1, zl s), (3, zl (zT a 16)), (5, zl (gLf s a - j))] [] 403 [] x m' 403 [] Q := by
    intro hA
    have hl := gLf_bd s0 s1 hb hA
    refine zdown _ _ ?_
    intro j j0 j1 ih m' hm hg
    obtain ⟨J1, J2, J3⟩ := gRi_J s0 s1 hb hA j j0 j1
    have hend : j = gLf s a → Q 0 x m' := fun e => by
      have := h m' hm (fun k k0 k1 => by unfold gGet; rw [if_neg (by omega), ← e]; exact hg k k0 k1)
      rwa [if_neg (by omega)] at this
    have es := gRi_s (s := s) (A := zT a 16) (a := a) j0
    have gi := gPk_in (gRi s (zT a 16) a j).2
    rw [es] at ih
    obtain ⟨r, hr⟩ : ∃ r, r = (gRi s (zT a 16) a j).2 := ⟨_, rfl⟩
    obtain ⟨g, hg'⟩ : ∃ g, g = (gRi s (zT a 16) a j).1 := ⟨_, rfl⟩
    rw [← hr, ← hg'] at ih
    rw [← hr] at J3 gi
    rw [← hr, ← hg'] at J1
    rw [← hg'] at hg
    clear J2 es hr hg'
    obtain ⟨A, eA⟩ : ∃ A, A = zT a 16 := ⟨_, rfl⟩
    rw [← eA] at hA J1 ih ⊢
    have F : ∀ k, 0 ≤ k → k < 16 → (0 ≤ s * a k ∧ s * a k ≤ 2879952 * 858993459200) ∧ (0 ≤ s * a k / A ∧ s * a k / A ≤ s) ∧ (0 ≤ s * a k % A ∧ s * a k % A < A) := fun k k0 k1 => by have q := gPt s0 s1 hb (eA ▸ hA) k0 k1; rw [← eA] at q; exact ⟨q.1, q.2.1, q.2.2.1⟩
    have h399 : m' 399 = m 399 := hm 399 (by decide)
    apply r242_c93
    by_cases c : j = gLf s a
    · have h2 := hend c
      clear hend J3 ih
      repeat' (first | (with_reducible assumption) | (with_reducible rfl) | (with_reducible apply And.intro) | (with_reducible apply zIn_mk) | (with_reducible apply zLn_mk) | ((with_reducible intro _); try (exfalso; omega)) | omega | (with_reducible exact Or.inr trivial) | (with_reducible exact Or.inl trivial) | ((exact h2)) | fail)
    · have J3' := J3 (by omega)
      have ih' := ih (by omega)
      clear hend J3 ih
      have loop4 : ∀ i, 0 ≤ i → i ≤ 16 → WP d 242 106 [(0, zr 386), (1, zl s), (3, zl A), (5, zl (gLf s a - j)), (7, zi (gBe r i)), (8, zi i)] [] 403 [] x m' 403 [] Q := by
        refine zdown _ _ ?_
        intro i i0 i1 ih4
        have bi := gBe_in r i i0
        rw [gBe_s i0] at ih4
        have hpk : i = 16 → gBe r i = gPk r := fun e => by rw [e]; exact gBe_pk J3'
        obtain ⟨b, eb⟩ : ∃ b, b = gBe r i := ⟨_, rfl⟩
        rw [← eb] at bi ih4 hpk ⊢
        clear eb
        apply r242_c106
        rw [h399]
        by_cases ci : i = 16
        · have e := hpk ci
          have gb := hg b (by omega) (by omega)
          have Fb := F b (by omega) (by omega)
          have Jb := J1 b (by omega) (by omega)
          have ih5 := ih' (zupd m' 400 b (m' 400 b + 1)) (fun k k0 => by rw [zu_ne _ _ _ k0]; exact hm k k0) (fun k k0 k1 => by
            show _ = (up g (gPk r) (g (gPk r) + 1)) k
            rw [zu_eq, ← e]
            by_cases ck : k = b
            · subst ck; rw [up_at rfl, up_at rfl, gb]
            · rw [up_ne ck, up_ne ck]; exact hg k k0 k1)
          rw [show gLf s a - (j + 1) = gLf s a - j - 1 by omega] at ih5
          clear ih' ih4 hpk J1 F hg hm
          repeat' (first | (with_reducible assumption) | (with_reducible rfl) | (with_reducible apply And.intro) | (with_reducible apply zIn_mk) | (with_reducible apply zLn_mk) | ((with_reducible intro _); try (exfalso; omega)) | omega | (with_reducible exact Or.inr trivial) | (with_reducible exact Or.inl trivial) | ((exact ih5)) | fail)
        · have gii := hg i i0 (by omega)
          have Fi := F i i0 (by omega)
          have Ji := J1 i i0 (by omega)
          have ai := ha i i0 (by omega)
          replace ih4 := ih4 (by omega)
          rw [ai, gii]
          clear hpk ih'
          rcases bi with bi | ⟨b0, b1, b2⟩
          · subst bi
            clear J1 F hg hm ha
            repeat' (first | (with_reducible assumption) | (with_reducible rfl) | (with_reducible apply And.intro) | (with_reducible apply zIn_mk) | (with_reducible apply zLn_mk) | ((with_reducible intro _); try (exfalso; omega)) | omega | (with_reducible exact Or.inr trivial) | (with_reducible exact Or.inl trivial) | ((rw [if_pos (by omega)] at ih4; exact ih4)) | ((rw [if_neg (by omega)] at ih4; exact ih4)) | fail)
          · have Fb := F b b0 (by omega)
            have Jb := J1 b b0 (by omega)
            have ab := ha b b0 (by omega)
            rw [ab]
            clear J1 F hg hm ha
            repeat' (first | (with_reducible assumption) | (with_reducible rfl) | (with_reducible apply And.intro) | (with_reducible apply zIn_mk) | (with_reducible apply zLn_mk) | ((with_reducible intro _); try (exfalso; omega)) | omega | (with_reducible exact Or.inr trivial) | (with_reducible exact Or.inl trivial) | ((rw [if_pos (by omega)] at ih4; exact ih4)) | ((rw [if_neg (by omega)] at ih4; exact ih4)) | fail)
      have l0 := loop4 0 (by omega) (by omega)
      rw [show gBe r 0 = -1 from rfl] at l0
      clear loop4 ih' J1 F hg hm
      repeat' (first | (with_reducible assumption) | (with_reducible rfl) | (with_reducible apply And.intro) | (with_reducible apply zIn_mk) | (with_reducible apply zLn_mk) | ((with_reducible intro _); try (exfalso; omega)) | omega | (with_reducible exact Or.inr trivial) | (with_reducible exact Or.inl trivial) | ((exact l0)) | fail)
  have loop2 : 0 < zT a 16 → ∀ j, 0 ≤ j → j ≤ 16 → ∀ m', (∀ k, k ≠ 400 → m' k = m k) → (∀ k, 0 ≤ k → k < j → m' 400 k = s * a k / zT a 16) → WP d 242 50 [(0, zr 386), (1, zl s), (3, zl (zT a 16)), (5, zl (s - zT (fun k => s * a k / zT a 16) j)), (7, zi j)] [] 403 [] x m' 403 [] Q := by
    intro hA
    have hl := gLf_bd s0 s1 hb hA
    refine zdown _ _ ?_
    intro j j0 j1 ih m' hm hg
    have h399 : m' 399 = m 399 := hm 399 (by decide)
    apply r242_c50
    rw [h399]
    by_cases c : j = 16
    · subst c
      have l3 := loop3 hA 0 (by omega) (by omega) m' hm (fun k k0 k1 => hg k k0 k1)
      rw [Int.sub_zero] at l3
      clear ih loop3
      repeat' (first | (with_reducible assumption) | (with_reducible rfl) | (with_reducible apply And.intro) | (with_reducible apply zIn_mk) | (with_reducible apply zLn_mk) | ((with_reducible intro _); try (exfalso; omega)) | omega | (with_reducible exact Or.inr trivial) | (with_reducible exact Or.inl trivial) | ((exact l3)) | fail)
    · have F := gPt s0 s1 hb hA j0 (show j < 16 by omega)
      have zb := zT_bd (f := fun k => s * a k / zT a 16) (lo := 0) (hi := s) (n := j) j0 (fun k k0 k1 => (gPt s0 s1 hb hA k0 (by omega)).2.1)
      have z2 := Int.mul_le_mul_of_nonneg_left j1 s0
      have ih' := ih (by omega) (zupd m' 400 j (s * a j / zT a 16)) (fun k k0 => by rw [zu_ne _ _ _ k0]; exact hm k k0) (fun k k0 k1 => by
        rw [zu_eq]
        by_cases ck : k = j
        · subst ck; rw [up_at rfl]
        · rw [up_ne ck]; exact hg k k0 (by omega))
      rw [zT_s j0] at ih'
      rw [show s - (zT (fun k => s * a k / zT a 16) j + s * a j / zT a 16) = s - zT (fun k => s * a k / zT a 16) j - s * a j / zT a 16 by omega] at ih'
      rw [ha j j0 (by omega), zu_eq, up_at rfl]
      clear ih loop3 hm hg ha
      repeat' (first | (with_reducible assumption) | (with_reducible rfl) | (with_reducible apply And.intro) | (with_reducible apply zIn_mk) | (with_reducible apply zLn_mk) | ((with_reducible intro _); try (exfalso; omega)) | omega | (with_reducible exact Or.inr trivial) | (with_reducible exact Or.inl trivial) | ((exact ih')) | fail)
  have loop1 : ∀ j, 0 ≤ j → j ≤ 16 → ∀ m', (∀ k, k ≠ 400 → m' k = m k) → (∀ k, 0 ≤ k → k < j → m' 400 k = 0) → WP d 242 8 [(0, zr 386), (1, zl s), (3, zl (zT a j)), (5, zl s), (7, zi j)] [] 403 [] x m' 403 [] Q := by
    refine zdown _ _ ?_
    intro j j0 j1 ih m' hm hg
    have h399 : m' 399 = m 399 := hm 399 (by decide)
    apply r242_c8
    rw [h399]
    by_cases c : j = 16
    · subst c
      clear ih
      by_cases cA : zT a 16 = 0
      · have h2 := h m' hm (fun k k0 k1 => by unfold gGet; rw [if_pos cA]; exact hg k k0 k1)
        rw [if_pos cA] at h2
        clear loop2 loop3
        repeat' (first | (with_reducible assumption) | (with_reducible rfl) | (with_reducible apply And.intro) | (with_reducible apply zIn_mk) | (with_reducible apply zLn_mk) | ((with_reducible intro _); try (exfalso; omega)) | omega | (with_reducible exact Or.inr trivial) | (with_reducible exact Or.inl trivial) | ((exact h2)) | fail)
      · have l2 := loop2 (by omega) 0 (by omega) (by omega) m' hm (fun k k0 k1 => by omega)
        rw [zT_0 (f := fun k => s * a k / zT a 16) (by omega), Int.sub_zero] at l2
        clear loop2 loop3
        repeat' (first | (with_reducible assumption) | (with_reducible rfl) | (with_reducible apply And.intro) | (with_reducible apply zIn_mk) | (with_reducible apply zLn_mk) | ((with_reducible intro _); try (exfalso; omega)) | omega | (with_reducible exact Or.inr trivial) | (with_reducible exact Or.inl trivial) | ((exact l2)) | fail)
    · have zb := zT_bd (f := a) (lo := 0) (hi := 858993459200) (n := j) j0 (fun k k0 k1 => hb k k0 (by omega))
      have b := hb j j0 (by omega)
      have ih' := ih (by omega) (zupd m' 400 j 0) (fun k k0 => by rw [zu_ne _ _ _ k0]; exact hm k k0) (fun k k0 k1 => by
        rw [zu_eq]
        by_cases ck : k = j
        · subst ck; rw [up_at rfl]
        · rw [up_ne ck]; exact hg k k0 (by omega))
      rw [zT_s j0] at ih'
      rw [ha j j0 (by omega)]
      clear ih loop3 loop2 hm hg ha
      repeat' (first | (with_reducible assumption) | (with_reducible rfl) | (with_reducible apply And.intro) | (with_reducible apply zIn_mk) | (with_reducible apply zLn_mk) | ((with_reducible intro _); try (exfalso; omega)) | omega | (with_reducible exact Or.inr trivial) | (with_reducible exact Or.inl trivial) | ((exact ih')) | fail)
  apply r242
  intro hz
  have l1 := loop1 0 (by omega) (by omega) m (fun _ _ => rfl) (fun k k0 k1 => by omega)
  rw [zT_0 (by omega)] at l1
  exact l1
/-! the class's -/
theorem c17 {d : Nat} {r : Int → Int} {x m : zM} {Q : Int → zM → zM → Prop} (hr : ∀ k, 0 ≤ k → k < 16 → x 335 k = r k) (h : Q (gPk r) x m) : WPc d 17 [zr 332] 403 [] x m 403 [] Q := by
  have loop : ∀ j, 1 ≤ j → j ≤ 16 → WP d 17 4 [(0, zr 332), (1, zi (gPkN r (j - 1).toNat)), (2, zi j)] [] 403 [] x m 403 [] Q := by
    refine zdownL _ _ _ ?_
    intro j j0 j1 ih
    have i := gPkN_in r (j - 1).toNat
    apply r17_c4
    by_cases c : j = 16
    · subst c
      clear ih
      repeat' (first | (with_reducible assumption) | (with_reducible rfl) | (with_reducible apply And.intro) | (with_reducible apply zIn_mk) | (with_reducible apply zLn_mk) | ((with_reducible intro _); try (exfalso; omega)) | omega | (with_reducible exact Or.inr trivial) | (with_reducible exact Or.inl trivial) | ((exact h)) | fail)
    · have e : gPkN r (j + 1 - 1).toNat = if r (gPkN r (j - 1).toNat) < r j then j else gPkN r (j - 1).toNat := by
        have e1 : (j + 1 - 1).toNat = (j - 1).toNat + 1 := by omega
        have e2 : ((j - 1).toNat : Int) + 1 = j := by omega
        rw [e1, gPkN, e2]
      replace ih := ih (by omega)
      rw [e] at ih
      rw [hr j (by omega) (by omega), hr (gPkN r (j - 1).toNat) (by omega) (by omega)]
      repeat' (first | (with_reducible assumption) | (with_reducible rfl) | (with_reducible apply And.intro) | (with_reducible apply zIn_mk) | (with_reducible apply zLn_mk) | ((with_reducible intro _); try (exfalso; omega)) | omega | (with_reducible exact Or.inr trivial) | (with_reducible exact Or.inl trivial) | ((rw [if_pos (by omega)] at ih; exact ih)) | ((rw [if_neg (by omega)] at ih; exact ih)) | fail)
  apply r17
  exact loop 1 (by omega) (by omega)

theorem c16_333 {d : Nat} {s : Int} {a : Int → Int} {x m : zM} {Q : Int → zM → zM → Prop} (hd : 1 ≤ d) (s0 : 0 ≤ s) (s1 : s ≤ 2879952) (ha : ∀ k, 0 ≤ k → k < 16 → x 333 (k) = a k) (hb : ∀ k, 0 ≤ k → k < 16 → 0 ≤ a k ∧ a k ≤ 858993459200) (h : ∀ x', (∀ k, k ≠ 334 → k ≠ 335 → x' k = x k) → (∀ k, 0 ≤ k → k < 16 → x' 334 (k) = gGet s a k) → (∀ i, i < 0 ∨ 16 ≤ i → x' 334 i = x 334 i) → Q (if zT a 16 = 0 then 0 else 1) x' m) : WPc d 16 [zr 332, zl s, zr 333, zr 334] 403 [] x m 403 [] Q := by
  have pA := zT_bd (f := a) (lo := 0) (hi := 858993459200) (n := 16) (by omega) hb
  have loop3 : 0 < zT a 16 → ∀ j, 0 ≤ j → j ≤ gLf s a → ∀ x', (∀ k, k ≠ 334 → k ≠ 335 → x' k = x k) → (∀ k, 0 ≤ k → k < 16 → x' 334 (k) = (gRi s (zT a 16) a j).1 k) → (∀ k, 0 ≤ k → k < 16 → x' 335 k = (gRi s (zT a 16) a j).2 k) → (∀ i, i < 0 ∨ 16 ≤ i → x' 334 i = x 334 i) → WP d 16 105 [(0, zr 332), (4, zr 334), (7, zl (gLf s a - j)), (9, zi j)] [] 403 [] x' m 403 [] Q := by
    intro hA
    have hl := gLf_bd s0 s1 hb hA
    refine zdown _ _ ?_
    intro j j0 j1 ih x' hx hg hr hi
    obtain ⟨J1, J2, J3⟩ := gRi_J s0 s1 hb hA j j0 j1
    have hend : j = gLf s a → Q 1 x' m := fun e => by
      have := h x' hx (fun k k0 k1 => by unfold gGet; rw [if_neg (by omega), ← e]; exact hg k k0 k1) hi
      rwa [if_neg (by omega)] at this
    have es := gRi_s (s := s) (A := zT a 16) (a := a) j0
    have gi := gPk_in (gRi s (zT a 16) a j).2
    rw [es] at ih
    obtain ⟨r, hr'⟩ : ∃ r, r = (gRi s (zT a 16) a j).2 := ⟨_, rfl⟩
    obtain ⟨g, hg'⟩ : ∃ g, g = (gRi s (zT a 16) a j).1 := ⟨_, rfl⟩
    rw [← hr', ← hg'] at ih
    rw [← hr'] at gi
    rw [← hr', ← hg'] at J1
    rw [← hg'] at hg
    rw [← hr'] at hr
    clear J2 J3 es hr' hg'
    apply r16_332_333_334_c105
    by_cases c : j = gLf s a
    · have h2 := hend c
      clear hend ih
      repeat' (first | (with_reducible assumption) | (with_reducible rfl) | (with_reducible apply And.intro) | (with_reducible apply zIn_mk) | (with_reducible apply zLn_mk) | ((with_reducible intro _); try (exfalso; omega)) | omega | (with_reducible exact Or.inr trivial) | (with_reducible exact Or.inl trivial) | ((exact h2)) | fail)
    · obtain ⟨b, eb⟩ : ∃ b, b = gPk r := ⟨_, rfl⟩
      rw [← eb] at ih gi
      have gb := hg b (by omega) (by omega)
      have Fb := gPt s0 s1 hb hA gi.1 gi.2
      have Jb := J1 b (by omega) (by omega)
      have ih5 := ih (by omega) (zupd (zupd x' 334 (b) (x' 334 (b) + 1)) 335 b (-1)) (fun k k0 k1 => by rw [zu_ne _ _ _ k1, zu_ne _ _ _ k0]; exact hx k k0 k1) (fun k k0 k1 => by
            show _ = (up g b (g b + 1)) k
            rw [zu_ne _ _ _ (by decide), zu_eq]
            by_cases ck : k = b
            · subst ck; rw [up_at rfl, up_at rfl, gb]
            · rw [up_ne (by omega), up_ne ck]; exact hg k k0 k1) (fun k k0 k1 => by
            show _ = (up r b (-1)) k
            rw [zu_eq, zu_ne _ _ _ (by decide)]
            by_cases ck : k = b
            · subst ck; rw [up_at rfl, up_at rfl]
            · rw [up_ne ck, up_ne ck]; exact hr k k0 k1) (fun i i0 => by rw [zu_ne _ _ _ (by decide), zu_eq, up_ne (by omega)]; exact hi i i0)
      rw [show gLf s a - (j + 1) = gLf s a - j - 1 by omega] at ih5
      clear ih hend J1 hg hx hi
      repeat' (first | (with_reducible assumption) | (with_reducible rfl) | (with_reducible apply And.intro) | (with_reducible apply zIn_mk) | (with_reducible apply zLn_mk) | ((with_reducible intro _); try (exfalso; omega)) | omega | (with_reducible exact Or.inr trivial) | (with_reducible exact Or.inl trivial) | ((refine c17 hr ?_; rw [← eb])) | ((exact ih5)) | fail)
  have loop2 : 0 < zT a 16 → ∀ j, 0 ≤ j → j ≤ 16 → ∀ x', (∀ k, k ≠ 334 → k ≠ 335 → x' k = x k) → (∀ k, 0 ≤ k → k < j → x' 334 (k) = s * a k / zT a 16) → (∀ k, 0 ≤ k → k < j → x' 335 k = s * a k % zT a 16) → (∀ i, i < 0 ∨ 16 ≤ i → x' 334 i = x 334 i) → WP d 16 49 [(0, zr 332), (1, zl s), (3, zr 333), (4, zr 334), (5, zl (zT a 16)), (7, zl (s - zT (fun k => s * a k / zT a 16) j)), (9, zi j)] [] 403 [] x' m 403 [] Q := by
    intro hA
    have hl := gLf_bd s0 s1 hb hA
    refine zdown _ _ ?_
    intro j j0 j1 ih x' hx hg hr hi
    have h399 : x' 333 = x 333 := hx 333 (by decide) (by decide)
    apply r16_332_333_334_c49
    rw [h399]
    by_cases c : j = 16
    · subst c
      have l3 := loop3 hA 0 (by omega) (by omega) x' hx (fun k k0 k1 => hg k k0 k1) (fun k k0 k1 => hr k k0 k1) hi
      rw [Int.sub_zero] at l3
      clear ih loop3
      repeat' (first | (with_reducible assumption) | (with_reducible rfl) | (with_reducible apply And.intro) | (with_reducible apply zIn_mk) | (with_reducible apply zLn_mk) | ((with_reducible intro _); try (exfalso; omega)) | omega | (with_reducible exact Or.inr trivial) | (with_reducible exact Or.inl trivial) | ((exact l3)) | fail)
    · have F := gPt s0 s1 hb hA j0 (show j < 16 by omega)
      have zb := zT_bd (f := fun k => s * a k / zT a 16) (lo := 0) (hi := s) (n := j) j0 (fun k k0 k1 => (gPt s0 s1 hb hA k0 (by omega)).2.1)
      have z2 := Int.mul_le_mul_of_nonneg_left j1 s0
      have ih' := ih (by omega) (zupd (zupd x' 334 (j) (s * a j / zT a 16)) 335 j (s * a j % zT a 16)) (fun k k0 k1 => by rw [zu_ne _ _ _ k1, zu_ne _ _ _ k0]; exact hx k k0 k1) (fun k k0 k1 => by
        rw [zu_ne _ _ _ (by decide), zu_eq]
        by_cases ck : k = j
        · subst ck; rw [up_at rfl]
        · rw [up_ne (by omega)]; exact hg k k0 (by omega)) (fun k k0 k1 => by
        rw [zu_eq, zu_ne _ _ _ (by decide)]
        by_cases ck : k = j
        · subst ck; rw [up_at rfl]
        · rw [up_ne ck]; exact hr k k0 (by omega)) (fun i i0 => by rw [zu_ne _ _ _ (by decide), zu_eq, up_ne (by omega)]; exact hi i i0)
      rw [zT_s j0] at ih'
      rw [show s - (zT (fun k => s * a k / zT a 16) j + s * a j / zT a 16) = s - zT (fun k => s * a k / zT a 16) j - s * a j / zT a 16 by omega] at ih'
      have aj := ha j j0 (by omega)
      simp only [aj, zu_eq, up_eq]
      clear ih loop3 hx hg hi hr ha
      repeat' (first | (with_reducible assumption) | (with_reducible rfl) | (with_reducible apply And.intro) | (with_reducible apply zIn_mk) | (with_reducible apply zLn_mk) | ((with_reducible intro _); try (exfalso; omega)) | omega | (with_reducible exact Or.inr trivial) | (with_reducible exact Or.inl trivial) | ((exact ih')) | fail)
  have loop1 : ∀ j, 0 ≤ j → j ≤ 16 → WP d 16 6 [(0, zr 332), (1, zl s), (3, zr 333), (4, zr 334), (5, zl (zT a j)), (7, zi j)] [] 403 [] x m 403 [] Q := by
    refine zdown _ _ ?_
    intro j j0 j1 ih
    apply r16_332_333_334_c6
    by_cases c : j = 16
    · subst c
      clear ih
      have ez : zoff (zr 334) 0 = 0 := rfl
      by_cases cA : zT a 16 = 0
      · have h2 := h (zfil x 334 (0) 16 0) (fun k k0 k1 => zfil_ne x _ _ _ k0) (fun k k0 k1 => by rw [zfil_at x _ _ _ _ _ (by omega)]; unfold gGet; rw [if_pos cA]) (fun i i0 => by unfold zfil; rw [if_neg (by omega)])
        rw [if_pos cA] at h2
        clear loop2 loop3
        repeat' (first | (with_reducible assumption) | (with_reducible rfl) | (with_reducible apply And.intro) | (with_reducible apply zIn_mk) | (with_reducible apply zLn_mk) | ((with_reducible intro _); try (exfalso; omega)) | omega | (with_reducible exact Or.inr trivial) | (with_reducible exact Or.inl trivial) | ((refine r283 (k := 334) (len := 16) rfl rfl ?_; rw [ez])) | ((exact h2)) | fail)
      · have l2 := loop2 (by omega) 0 (by omega) (by omega) (zfil x 334 (0) 16 0) (fun k k0 k1 => zfil_ne x _ _ _ k0) (fun k k0 k1 => by omega) (fun k k0 k1 => by omega) (fun i i0 => by unfold zfil; rw [if_neg (by omega)])
        rw [zT_0 (f := fun k => s * a k / zT a 16) (by omega), Int.sub_zero] at l2
        clear loop2 loop3
        repeat' (first | (with_reducible assumption) | (with_reducible rfl) | (with_reducible apply And.intro) | (with_reducible apply zIn_mk) | (with_reducible apply zLn_mk) | ((with_reducible intro _); try (exfalso; omega)) | omega | (with_reducible exact Or.inr trivial) | (with_reducible exact Or.inl trivial) | ((refine r283 (k := 334) (len := 16) rfl rfl ?_; rw [ez])) | ((exact l2)) | fail)
    · have zb := zT_bd (f := a) (lo := 0) (hi := 858993459200) (n := j) j0 (fun k k0 k1 => hb k k0 (by omega))
      have b := hb j j0 (by omega)
      have ih' := ih (by omega)
      rw [zT_s j0] at ih'
      rw [ha j j0 (by omega)]
      clear ih loop3 loop2 ha
      repeat' (first | (with_reducible assumption) | (with_reducible rfl) | (with_reducible apply And.intro) | (with_reducible apply zIn_mk) | (with_reducible apply zLn_mk) | ((with_reducible intro _); try (exfalso; omega)) | omega | (with_reducible exact Or.inr trivial) | (with_reducible exact Or.inl trivial) | ((exact ih')) | fail)
  apply r16_332_333_334
  intro hz
  have l1 := loop1 0 (by omega) (by omega)
  rw [zT_0 (by omega)] at l1
  exact l1

theorem c16_133 {d : Nat} {s v3 v4 : Int} {a : Int → Int} {x m : zM} {Q : Int → zM → zM → Prop} (hd : 1 ≤ d) (s0 : 0 ≤ s) (s1 : s ≤ 2879952) (ha : ∀ k, 0 ≤ k → k < 16 → x 133 (v3 * 16 + k) = a k) (hb : ∀ k, 0 ≤ k → k < 16 → 0 ≤ a k ∧ a k ≤ 858993459200) (h : ∀ x', (∀ k, k ≠ 117 → k ≠ 335 → x' k = x k) → (∀ k, 0 ≤ k → k < 16 → x' 117 (v4 * 16 + k) = gGet s a k) → (∀ i, i < v4 * 16 + 0 ∨ v4 * 16 + 16 ≤ i → x' 117 i = x 117 i) → Q (if zT a 16 = 0 then 0 else 1) x' m) : WPc d 16 [zr 332, zl s, zw 133 v3, zw 117 v4] 403 [] x m 403 [] Q := by
  have pA := zT_bd (f := a) (lo := 0) (hi := 858993459200) (n := 16) (by omega) hb
  have loop3 : 0 < zT a 16 → ∀ j, 0 ≤ j → j ≤ gLf s a → ∀ x', (∀ k, k ≠ 117 → k ≠ 335 → x' k = x k) → (∀ k, 0 ≤ k → k < 16 → x' 117 (v4 * 16 + k) = (gRi s (zT a 16) a j).1 k) → (∀ k, 0 ≤ k → k < 16 → x' 335 k = (gRi s (zT a 16) a j).2 k) → (∀ i, i < v4 * 16 + 0 ∨ v4 * 16 + 16 ≤ i → x' 117 i = x 117 i) → WP d 16 105 [(0, zr 332), (4, zw 117 v4), (7, zl (gLf s a - j)), (9, zi j)] [] 403 [] x' m 403 [] Q := by
    intro hA
    have hl := gLf_bd s0 s1 hb hA
    refine zdown _ _ ?_
    intro j j0 j1 ih x' hx hg hr hi
    obtain ⟨J1, J2, J3⟩ := gRi_J s0 s1 hb hA j j0 j1
    have hend : j = gLf s a → Q 1 x' m := fun e => by
      have := h x' hx (fun k k0 k1 => by unfold gGet; rw [if_neg (by omega), ← e]; exact hg k k0 k1) hi
      rwa [if_neg (by omega)] at this
    have es := gRi_s (s := s) (A := zT a 16) (a := a) j0
    have gi := gPk_in (gRi s (zT a 16) a j).2
    rw [es] at ih
    obtain ⟨r, hr'⟩ : ∃ r, r = (gRi s (zT a 16) a j).2 := ⟨_, rfl⟩
    obtain ⟨g, hg'⟩ : ∃ g, g = (gRi s (zT a 16) a j).1 := ⟨_, rfl⟩
    rw [← hr', ← hg'] at ih
    rw [← hr'] at gi
    rw [← hr', ← hg'] at J1
    rw [← hg'] at hg
    rw [← hr'] at hr
    clear J2 J3 es hr' hg'
    apply r16_332_133_117_c105
    by_cases c : j = gLf s a
    · have h2 := hend c
      clear hend ih
      repeat' (first | (with_reducible assumption) | (with_reducible rfl) | (with_reducible apply And.intro) | (with_reducible apply zIn_mk) | (with_reducible apply zLn_mk) | ((with_reducible intro _); try (exfalso; omega)) | omega | (with_reducible exact Or.inr trivial) | (with_reducible exact Or.inl trivial) | ((exact h2)) | fail)
    · obtain ⟨b, eb⟩ : ∃ b, b = gPk r := ⟨_, rfl⟩
      rw [← eb] at ih gi
      have gb := hg b (by omega) (by omega)
      have Fb := gPt s0 s1 hb hA gi.1 gi.2
      have Jb := J1 b (by omega) (by omega)
      have ih5 := ih (by omega) (zupd (zupd x' 117 (v4 * 16 + b) (x' 117 (v4 * 16 + b) + 1)) 335 b (-1)) (fun k k0 k1 => by rw [zu_ne _ _ _ k1, zu_ne _ _ _ k0]; exact hx k k0 k1) (fun k k0 k1 => by
            show _ = (up g b (g b + 1)) k
            rw [zu_ne _ _ _ (by decide), zu_eq]
            by_cases ck : k = b
            · subst ck; rw [up_at rfl, up_at rfl, gb]
            · rw [up_ne (by omega), up_ne ck]; exact hg k k0 k1) (fun k k0 k1 => by
            show _ = (up r b (-1)) k
            rw [zu_eq, zu_ne _ _ _ (by decide)]
            by_cases ck : k = b
            · subst ck; rw [up_at rfl, up_at rfl]
            · rw [up_ne ck, up_ne ck]; exact hr k k0 k1) (fun i i0 => by rw [zu_ne _ _ _ (by decide), zu_eq, up_ne (by omega)]; exact hi i i0)
      rw [show gLf s a - (j + 1) = gLf s a - j - 1 by omega] at ih5
      clear ih hend J1 hg hx hi
      repeat' (first | (with_reducible assumption) | (with_reducible rfl) | (with_reducible apply And.intro) | (with_reducible apply zIn_mk) | (with_reducible apply zLn_mk) | ((with_reducible intro _); try (exfalso; omega)) | omega | (with_reducible exact Or.inr trivial) | (with_reducible exact Or.inl trivial) | ((refine c17 hr ?_; rw [← eb])) | ((exact ih5)) | fail)
  have loop2 : 0 < zT a 16 → ∀ j, 0 ≤ j → j ≤ 16 → ∀ x', (∀ k, k ≠ 117 → k ≠ 335 → x' k = x k) → (∀ k, 0 ≤ k → k < j → x' 117 (v4 * 16 + k) = s * a k / zT a 16) → (∀ k, 0 ≤ k → k < j → x' 335 k = s * a k % zT a 16) → (∀ i, i < v4 * 16 + 0 ∨ v4 * 16 + 16 ≤ i → x' 117 i = x 117 i) → WP d 16 49 [(0, zr 332), (1, zl s), (3, zw 133 v3), (4, zw 117 v4), (5, zl (zT a 16)), (7, zl (s - zT (fun k => s * a k / zT a 16) j)), (9, zi j)] [] 403 [] x' m 403 [] Q := by
    intro hA
    have hl := gLf_bd s0 s1 hb hA
    refine zdown _ _ ?_
    intro j j0 j1 ih x' hx hg hr hi
    have h399 : x' 133 = x 133 := hx 133 (by decide) (by decide)
    apply r16_332_133_117_c49
    rw [h399]
    by_cases c : j = 16
    · subst c
      have l3 := loop3 hA 0 (by omega) (by omega) x' hx (fun k k0 k1 => hg k k0 k1) (fun k k0 k1 => hr k k0 k1) hi
      rw [Int.sub_zero] at l3
      clear ih loop3
      repeat' (first | (with_reducible assumption) | (with_reducible rfl) | (with_reducible apply And.intro) | (with_reducible apply zIn_mk) | (with_reducible apply zLn_mk) | ((with_reducible intro _); try (exfalso; omega)) | omega | (with_reducible exact Or.inr trivial) | (with_reducible exact Or.inl trivial) | ((exact l3)) | fail)
    · have F := gPt s0 s1 hb hA j0 (show j < 16 by omega)
      have zb := zT_bd (f := fun k => s * a k / zT a 16) (lo := 0) (hi := s) (n := j) j0 (fun k k0 k1 => (gPt s0 s1 hb hA k0 (by omega)).2.1)
      have z2 := Int.mul_le_mul_of_nonneg_left j1 s0
      have ih' := ih (by omega) (zupd (zupd x' 117 (v4 * 16 + j) (s * a j / zT a 16)) 335 j (s * a j % zT a 16)) (fun k k0 k1 => by rw [zu_ne _ _ _ k1, zu_ne _ _ _ k0]; exact hx k k0 k1) (fun k k0 k1 => by
        rw [zu_ne _ _ _ (by decide), zu_eq]
        by_cases ck : k = j
        · subst ck; rw [up_at rfl]
        · rw [up_ne (by omega)]; exact hg k k0 (by omega)) (fun k k0 k1 => by
        rw [zu_eq, zu_ne _ _ _ (by decide)]
        by_cases ck : k = j
        · subst ck; rw [up_at rfl]
        · rw [up_ne ck]; exact hr k k0 (by omega)) (fun i i0 => by rw [zu_ne _ _ _ (by decide), zu_eq, up_ne (by omega)]; exact hi i i0)
      rw [zT_s j0] at ih'
      rw [show s - (zT (fun k => s * a k / zT a 16) j + s * a j / zT a 16) = s - zT (fun k => s * a k / zT a 16) j - s * a j / zT a 16 by omega] at ih'
      have aj := ha j j0 (by omega)
      simp only [aj, zu_eq, up_eq]
      clear ih loop3 hx hg hi hr ha
      repeat' (first | (with_reducible assumption) | (with_reducible rfl) | (with_reducible apply And.intro) | (with_reducible apply zIn_mk) | (with_reducible apply zLn_mk) | ((with_reducible intro _); try (exfalso; omega)) | omega | (with_reducible exact Or.inr trivial) | (with_reducible exact Or.inl trivial) | ((exact ih')) | fail)
  have loop1 : ∀ j, 0 ≤ j → j ≤ 16 → WP d 16 6 [(0, zr 332), (1, zl s), (3, zw 133 v3), (4, zw 117 v4), (5, zl (zT a j)), (7, zi j)] [] 403 [] x m 403 [] Q := by
    refine zdown _ _ ?_
    intro j j0 j1 ih
    apply r16_332_133_117_c6
    by_cases c : j = 16
    · subst c
      clear ih
      have ez : zoff (zw 117 v4) 0 = v4 * 16 + 0 := rfl
      by_cases cA : zT a 16 = 0
      · have h2 := h (zfil x 117 (v4 * 16 + 0) 16 0) (fun k k0 k1 => zfil_ne x _ _ _ k0) (fun k k0 k1 => by rw [zfil_at x _ _ _ _ _ (by omega)]; unfold gGet; rw [if_pos cA]) (fun i i0 => by unfold zfil; rw [if_neg (by omega)])
        rw [if_pos cA] at h2
        clear loop2 loop3
        repeat' (first | (with_reducible assumption) | (with_reducible rfl) | (with_reducible apply And.intro) | (with_reducible apply zIn_mk) | (with_reducible apply zLn_mk) | ((with_reducible intro _); try (exfalso; omega)) | omega | (with_reducible exact Or.inr trivial) | (with_reducible exact Or.inl trivial) | ((refine r283 (k := 117) (len := 16) rfl rfl ?_; rw [ez])) | ((exact h2)) | fail)
      · have l2 := loop2 (by omega) 0 (by omega) (by omega) (zfil x 117 (v4 * 16 + 0) 16 0) (fun k k0 k1 => zfil_ne x _ _ _ k0) (fun k k0 k1 => by omega) (fun k k0 k1 => by omega) (fun i i0 => by unfold zfil; rw [if_neg (by omega)])
        rw [zT_0 (f := fun k => s * a k / zT a 16) (by omega), Int.sub_zero] at l2
        clear loop2 loop3
        repeat' (first | (with_reducible assumption) | (with_reducible rfl) | (with_reducible apply And.intro) | (with_reducible apply zIn_mk) | (with_reducible apply zLn_mk) | ((with_reducible intro _); try (exfalso; omega)) | omega | (with_reducible exact Or.inr trivial) | (with_reducible exact Or.inl trivial) | ((refine r283 (k := 117) (len := 16) rfl rfl ?_; rw [ez])) | ((exact l2)) | fail)
    · have zb := zT_bd (f := a) (lo := 0) (hi := 858993459200) (n := j) j0 (fun k k0 k1 => hb k k0 (by omega))
      have b := hb j j0 (by omega)
      have ih' := ih (by omega)
      rw [zT_s j0] at ih'
      rw [ha j j0 (by omega)]
      clear ih loop3 loop2 ha
      repeat' (first | (with_reducible assumption) | (with_reducible rfl) | (with_reducible apply And.intro) | (with_reducible apply zIn_mk) | (with_reducible apply zLn_mk) | ((with_reducible intro _); try (exfalso; omega)) | omega | (with_reducible exact Or.inr trivial) | (with_reducible exact Or.inl trivial) | ((exact ih')) | fail)
  apply r16_332_133_117
  intro hz
  have l1 := loop1 0 (by omega) (by omega)
  rw [zT_0 (by omega)] at l1
  exact l1

theorem c16_141 {d : Nat} {s v3 v4 : Int} {a : Int → Int} {x m : zM} {Q : Int → zM → zM → Prop} (hd : 1 ≤ d) (s0 : 0 ≤ s) (s1 : s ≤ 2879952) (ha : ∀ k, 0 ≤ k → k < 16 → x 141 (v3 * 16 + k) = a k) (hb : ∀ k, 0 ≤ k → k < 16 → 0 ≤ a k ∧ a k ≤ 858993459200) (h : ∀ x', (∀ k, k ≠ 125 → k ≠ 335 → x' k = x k) → (∀ k, 0 ≤ k → k < 16 → x' 125 (v4 * 16 + k) = gGet s a k) → (∀ i, i < v4 * 16 + 0 ∨ v4 * 16 + 16 ≤ i → x' 125 i = x 125 i) → Q (if zT a 16 = 0 then 0 else 1) x' m) : WPc d 16 [zr 332, zl s, zw 141 v3, zw 125 v4] 403 [] x m 403 [] Q := by
  have pA := zT_bd (f := a) (lo := 0) (hi := 858993459200) (n := 16) (by omega) hb
  have loop3 : 0 < zT a 16 → ∀ j, 0 ≤ j → j ≤ gLf s a → ∀ x', (∀ k, k ≠ 125 → k ≠ 335 → x' k = x k) → (∀ k, 0 ≤ k → k < 16 → x' 125 (v4 * 16 + k) = (gRi s (zT a 16) a j).1 k) → (∀ k, 0 ≤ k → k < 16 → x' 335 k = (gRi s (zT a 16) a j).2 k) → (∀ i, i < v4 * 16 + 0 ∨ v4 * 16 + 16 ≤ i → x' 125 i = x 125 i) → WP d 16 105 [(0, zr 332), (4, zw 125 v4), (7, zl (gLf s a - j)), (9, zi j)] [] 403 [] x' m 403 [] Q := by
    intro hA
    have hl := gLf_bd s0 s1 hb hA
    refine zdown _ _ ?_
    intro j j0 j1 ih x' hx hg hr hi
    obtain ⟨J1, J2, J3⟩ := gRi_J s0 s1 hb hA j j0 j1
    have hend : j = gLf s a → Q 1 x' m := fun e => by
      have := h x' hx (fun k k0 k1 => by unfold gGet; rw [if_neg (by omega), ← e]; exact hg k k0 k1) hi
      rwa [if_neg (by omega)] at this
    have es := gRi_s (s := s) (A := zT a 16) (a := a) j0
    have gi := gPk_in (gRi s (zT a 16) a j).2
    rw [es] at ih
    obtain ⟨r, hr'⟩ : ∃ r, r = (gRi s (zT a 16) a j).2 := ⟨_, rfl⟩
    obtain ⟨g, hg'⟩ : ∃ g, g = (gRi s (zT a 16) a j).1 := ⟨_, rfl⟩
    rw [← hr', ← hg'] at ih
    rw [← hr'] at gi
    rw [← hr', ← hg'] at J1
    rw [← hg'] at hg
    rw [← hr'] at hr
    clear J2 J3 es hr' hg'
    apply r16_332_141_125_c105
    by_cases c : j = gLf s a
    · have h2 := hend c
      clear hend ih
      repeat' (first | (with_reducible assumption) | (with_reducible rfl) | (with_reducible apply And.intro) | (with_reducible apply zIn_mk) | (with_reducible apply zLn_mk) | ((with_reducible intro _); try (exfalso; omega)) | omega | (with_reducible exact Or.inr trivial) | (with_reducible exact Or.inl trivial) | ((exact h2)) | fail)
    · obtain ⟨b, eb⟩ : ∃ b, b = gPk r := ⟨_, rfl⟩
      rw [← eb] at ih gi
      have gb := hg b (by omega) (by omega)
      have Fb := gPt s0 s1 hb hA gi.1 gi.2
      have Jb := J1 b (by omega) (by omega)
      have ih5 := ih (by omega) (zupd (zupd x' 125 (v4 * 16 + b) (x' 125 (v4 * 16 + b) + 1)) 335 b (-1)) (fun k k0 k1 => by rw [zu_ne _ _ _ k1, zu_ne _ _ _ k0]; exact hx k k0 k1) (fun k k0 k1 => by
            show _ = (up g b (g b + 1)) k
            rw [zu_ne _ _ _ (by decide), zu_eq]
            by_cases ck : k = b
            · subst ck; rw [up_at rfl, up_at rfl, gb]
            · rw [up_ne (by omega), up_ne ck]; exact hg k k0 k1) (fun k k0 k1 => by
            show _ = (up r b (-1)) k
            rw [zu_eq, zu_ne _ _ _ (by decide)]
            by_cases ck : k = b
            · subst ck; rw [up_at rfl, up_at rfl]
            · rw [up_ne ck, up_ne ck]; exact hr k k0 k1) (fun i i0 => by rw [zu_ne _ _ _ (by decide), zu_eq, up_ne (by omega)]; exact hi i i0)
      rw [show gLf s a - (j + 1) = gLf s a - j - 1 by omega] at ih5
      clear ih hend J1 hg hx hi
      repeat' (first | (with_reducible assumption) | (with_reducible rfl) | (with_reducible apply And.intro) | (with_reducible apply zIn_mk) | (with_reducible apply zLn_mk) | ((with_reducible intro _); try (exfalso; omega)) | omega | (with_reducible exact Or.inr trivial) | (with_reducible exact Or.inl trivial) | ((refine c17 hr ?_; rw [← eb])) | ((exact ih5)) | fail)
  have loop2 : 0 < zT a 16 → ∀ j, 0 ≤ j → j ≤ 16 → ∀ x', (∀ k, k ≠ 125 → k ≠ 335 → x' k = x k) → (∀ k, 0 ≤ k → k < j → x' 125 (v4 * 16 + k) = s * a k / zT a 16) → (∀ k, 0 ≤ k → k < j → x' 335 k = s * a k % zT a 16) → (∀ i, i < v4 * 16 + 0 ∨ v4 * 16 + 16 ≤ i → x' 125 i = x 125 i) → WP d 16 49 [(0, zr 332), (1, zl s), (3, zw 141 v3), (4, zw 125 v4), (5, zl (zT a 16)), (7, zl (s - zT (fun k => s * a k / zT a 16) j)), (9, zi j)] [] 403 [] x' m 403 [] Q := by
    intro hA
    have hl := gLf_bd s0 s1 hb hA
    refine zdown _ _ ?_
    intro j j0 j1 ih x' hx hg hr hi
    have h399 : x' 141 = x 141 := hx 141 (by decide) (by decide)
    apply r16_332_141_125_c49
    rw [h399]
    by_cases c : j = 16
    · subst c
      have l3 := loop3 hA 0 (by omega) (by omega) x' hx (fun k k0 k1 => hg k k0 k1) (fun k k0 k1 => hr k k0 k1) hi
      rw [Int.sub_zero] at l3
      clear ih loop3
      repeat' (first | (with_reducible assumption) | (with_reducible rfl) | (with_reducible apply And.intro) | (with_reducible apply zIn_mk) | (with_reducible apply zLn_mk) | ((with_reducible intro _); try (exfalso; omega)) | omega | (with_reducible exact Or.inr trivial) | (with_reducible exact Or.inl trivial) | ((exact l3)) | fail)
    · have F := gPt s0 s1 hb hA j0 (show j < 16 by omega)
      have zb := zT_bd (f := fun k => s * a k / zT a 16) (lo := 0) (hi := s) (n := j) j0 (fun k k0 k1 => (gPt s0 s1 hb hA k0 (by omega)).2.1)
      have z2 := Int.mul_le_mul_of_nonneg_left j1 s0
      have ih' := ih (by omega) (zupd (zupd x' 125 (v4 * 16 + j) (s * a j / zT a 16)) 335 j (s * a j % zT a 16)) (fun k k0 k1 => by rw [zu_ne _ _ _ k1, zu_ne _ _ _ k0]; exact hx k k0 k1) (fun k k0 k1 => by
        rw [zu_ne _ _ _ (by decide), zu_eq]
        by_cases ck : k = j
        · subst ck; rw [up_at rfl]
        · rw [up_ne (by omega)]; exact hg k k0 (by omega)) (fun k k0 k1 => by
        rw [zu_eq, zu_ne _ _ _ (by decide)]
        by_cases ck : k = j
        · subst ck; rw [up_at rfl]
        · rw [up_ne ck]; exact hr k k0 (by omega)) (fun i i0 => by rw [zu_ne _ _ _ (by decide), zu_eq, up_ne (by omega)]; exact hi i i0)
      rw [zT_s j0] at ih'
      rw [show s - (zT (fun k => s * a k / zT a 16) j + s * a j / zT a 16) = s - zT (fun k => s * a k / zT a 16) j - s * a j / zT a 16 by omega] at ih'
      have aj := ha j j0 (by omega)
      simp only [aj, zu_eq, up_eq]
      clear ih loop3 hx hg hi hr ha
      repeat' (first | (with_reducible assumption) | (with_reducible rfl) | (with_reducible apply And.intro) | (with_reducible apply zIn_mk) | (with_reducible apply zLn_mk) | ((with_reducible intro _); try (exfalso; omega)) | omega | (with_reducible exact Or.inr trivial) | (with_reducible exact Or.inl trivial) | ((exact ih')) | fail)
  have loop1 : ∀ j, 0 ≤ j → j ≤ 16 → WP d 16 6 [(0, zr 332), (1, zl s), (3, zw 141 v3), (4, zw 125 v4), (5, zl (zT a j)), (7, zi j)] [] 403 [] x m 403 [] Q := by
    refine zdown _ _ ?_
    intro j j0 j1 ih
    apply r16_332_141_125_c6
    by_cases c : j = 16
    · subst c
      clear ih
      have ez : zoff (zw 125 v4) 0 = v4 * 16 + 0 := rfl
      by_cases cA : zT a 16 = 0
      · have h2 := h (zfil x 125 (v4 * 16 + 0) 16 0) (fun k k0 k1 => zfil_ne x _ _ _ k0) (fun k k0 k1 => by rw [zfil_at x _ _ _ _ _ (by omega)]; unfold gGet; rw [if_pos cA]) (fun i i0 => by unfold zfil; rw [if_neg (by omega)])
        rw [if_pos cA] at h2
        clear loop2 loop3
        repeat' (first | (with_reducible assumption) | (with_reducible rfl) | (with_reducible apply And.intro) | (with_reducible apply zIn_mk) | (with_reducible apply zLn_mk) | ((with_reducible intro _); try (exfalso; omega)) | omega | (with_reducible exact Or.inr trivial) | (with_reducible exact Or.inl trivial) | ((refine r283 (k := 125) (len := 16) rfl rfl ?_; rw [ez])) | ((exact h2)) | fail)
      · have l2 := loop2 (by omega) 0 (by omega) (by omega) (zfil x 125 (v4 * 16 + 0) 16 0) (fun k k0 k1 => zfil_ne x _ _ _ k0) (fun k k0 k1 => by omega) (fun k k0 k1 => by omega) (fun i i0 => by unfold zfil; rw [if_neg (by omega)])
        rw [zT_0 (f := fun k => s * a k / zT a 16) (by omega), Int.sub_zero] at l2
        clear loop2 loop3
        repeat' (first | (with_reducible assumption) | (with_reducible rfl) | (with_reducible apply And.intro) | (with_reducible apply zIn_mk) | (with_reducible apply zLn_mk) | ((with_reducible intro _); try (exfalso; omega)) | omega | (with_reducible exact Or.inr trivial) | (with_reducible exact Or.inl trivial) | ((refine r283 (k := 125) (len := 16) rfl rfl ?_; rw [ez])) | ((exact l2)) | fail)
    · have zb := zT_bd (f := a) (lo := 0) (hi := 858993459200) (n := j) j0 (fun k k0 k1 => hb k k0 (by omega))
      have b := hb j j0 (by omega)
      have ih' := ih (by omega)
      rw [zT_s j0] at ih'
      rw [ha j j0 (by omega)]
      clear ih loop3 loop2 ha
      repeat' (first | (with_reducible assumption) | (with_reducible rfl) | (with_reducible apply And.intro) | (with_reducible apply zIn_mk) | (with_reducible apply zLn_mk) | ((with_reducible intro _); try (exfalso; omega)) | omega | (with_reducible exact Or.inr trivial) | (with_reducible exact Or.inl trivial) | ((exact ih')) | fail)
  apply r16_332_141_125
  intro hz
  have l1 := loop1 0 (by omega) (by omega)
  rw [zT_0 (by omega)] at l1
  exact l1
