/-! RULES: what they say -/
theorem zdownL (lo N : Int) (P : Int → Prop) (h : ∀ j, lo ≤ j → j ≤ N → (j < N → P (j + 1)) → P j) : ∀ j, lo ≤ j → j ≤ N → P j := by
  intro j h0 h1
  have := zdown (N - lo) (fun i => P (lo + i)) (fun i i0 i1 ih => h (lo + i) (by omega) (by omega) (fun hl => by rw [Int.add_assoc]; exact ih (by omega))) (j - lo) (by omega) (by omega)
  rwa [show lo + (j - lo) = j by omega] at this
theorem zT_pos {f : Int → Int} {n k : Int} (h : ∀ j, 0 ≤ j → j < n → 0 ≤ f j) (k0 : 0 ≤ k) (k1 : k < n) (hk : 0 < f k) : 0 < zT f n := by
  have e := zT_one (f := f) (g := fun j => if j = k then 0 else f j) k0 k1 (fun j a b c => by rw [if_neg c])
  rw [if_pos rfl] at e
  have b := zT_bd (f := fun j => if j = k then 0 else f j) (lo := 0) (hi := (2147483648 : Int) * 2147483648 + zT f n) (n := n) (by omega)
  have c : 0 ≤ zT (fun j => if j = k then 0 else f j) n := by
    have key : ∀ j, 0 ≤ j → (j ≤ n → 0 ≤ zT (fun j => if j = k then 0 else f j) j) := by
      refine zup1 _ (fun _ => by rw [zT_0 (by omega)]; omega) ?_
      intro j j0 ih j1
      rw [zT_s j0]
      have := h j j0 (by omega)
      have := ih (by omega)
      split <;> omega
    exact key n (by omega) (by omega)
  omega
theorem up_ag {f s : Int → Int} {n n' a v v' : Int} (h : ∀ j, 0 ≤ j → j < n → f j = s j) (hv : v = v') (hn : n' ≤ n ∨ (n' = n + 1 ∧ a = n)) : ∀ j, 0 ≤ j → j < n' → up f a v j = up s a v' j := by
  intro j j0 j1
  by_cases e : j = a
  · rw [up_at e, up_at e, hv]
  · rw [up_ne e, up_ne e]; exact h j j0 (by omega)
def gTwo (k a b : Int) : Int :=
  if k = 20 then (if a ≠ 0 ∨ b ≠ 0 then 1 else 0) else if k = 21 then (if a ≠ 0 ∧ b ≠ 0 then 1 else 0) else if k = 23 then (if a = b then 1 else 0)
  else if k = 24 then (if a < b then 1 else 0) else if k = 25 then (if b < a then 1 else 0) else if k = 26 then w32 (a + b) else if k = 27 then w32 (a - b)
  else if k = 28 then w32 (a * b) else if k = 29 then (if b = 0 then 0 else w32 (a.tdiv b)) else (if b = 0 then 0 else a.tmod b)
def gDl (k : Int) : Int := if 100 ≤ k ∨ k < 10 then 1 else if k = 22 ∨ k = 31 then 0 else -1
/-- how high the numbers stand, ahead of code i -/
def gDp (c : Int → Int) (lo i : Int) : Int := zT (fun j => gDl (c (lo + j))) (i - lo)
theorem gDp_0 (c : Int → Int) (lo : Int) : gDp c lo lo = 0 := zT_0 (by omega)
theorem gDp_s {c : Int → Int} {lo i : Int} (h : lo ≤ i) : gDp c lo (i + 1) = gDp c lo i + gDl (c i) := by
  unfold gDp
  rw [show i + 1 - lo = i - lo + 1 by omega, zT_s (by omega), show lo + (i - lo) = i by omega]
def gStep (nm s : Int → Int) (d k : Int) : Int → Int :=
  if 100 ≤ k then up s d (k - 100) else if k < 10 then up s d (nm k) else if k = 22 then up s (d - 1) (if s (d - 1) = 0 then 1 else 0)
  else if k = 31 then up s (d - 1) (w32 (-(s (d - 1)))) else up s (d - 1 - 1) (gTwo k (s (d - 1 - 1)) (s (d - 1)))
def gSkN (c nm : Int → Int) (lo : Int) : Nat → (Int → Int)
  | 0 => fun _ => 0
  | n + 1 => gStep nm (gSkN c nm lo n) (gDp c lo (lo + n)) (c (lo + n))
def gSk (c nm : Int → Int) (lo i : Int) : Int → Int := gSkN c nm lo (i - lo).toNat
theorem gSk_s {c nm : Int → Int} {lo i : Int} (h : lo ≤ i) : gSk c nm lo (i + 1) = gStep nm (gSk c nm lo i) (gDp c lo i) (c i) := by
  unfold gSk
  have e : (i + 1 - lo).toNat = (i - lo).toNat + 1 := by omega
  have e2 : lo + ((i - lo).toNat : Int) = i := by omega
  rw [e, gSkN, e2]
/-- codes lo .. hi - 1 make one number -/
def gOkc (c : Int → Int) (lo i : Int) : Prop := ((0 ≤ c i ∧ c i < 10) ∨ (20 ≤ c i ∧ c i ≤ 31) ∨ (100 ≤ c i ∧ c i ≤ 100099)) ∧ (c i = 22 ∨ c i = 31 → 1 ≤ gDp c lo i) ∧ (20 ≤ c i → c i ≤ 30 → c i ≠ 22 → 2 ≤ gDp c lo i)
def gWf (c : Int → Int) (lo hi : Int) : Prop := (∀ i, lo ≤ i → i < hi → gOkc c lo i) ∧ gDp c lo hi = 1
theorem gDp_bd {c : Int → Int} {lo hi : Int} (h : gWf c lo hi) : ∀ i, lo ≤ i → i ≤ hi → 0 ≤ gDp c lo i ∧ gDp c lo i ≤ i - lo ∧ (lo < i → 1 ≤ gDp c lo i) := by
  have key : ∀ j, 0 ≤ j → (lo + j ≤ hi → 0 ≤ gDp c lo (lo + j) ∧ gDp c lo (lo + j) ≤ j ∧ (0 < j → 1 ≤ gDp c lo (lo + j))) := by
    refine zup1 _ (fun _ => by rw [Int.add_zero, gDp_0]; omega) ?_
    intro j j0 ih j1
    have a := ih (by omega)
    have b := h.1 (lo + j) (by omega) (by omega)
    unfold gOkc at b
    rw [← Int.add_assoc, gDp_s (by omega)]
    unfold gDl
    split
    · omega
    · split
      · omega
      · omega
  intro i i0 i1
  have := key (i - lo) (by omega) (by omega)
  rw [show lo + (i - lo) = i by omega] at this
  omega
abbrev gCo (p : Int → Int) (r : Int) : Int → Int := fun k => p (3550 + 130 * r + k)
def gW (p : Int → Int) (r lo hi : Int) (nm : Int → Int) : Int := gSk (gCo p r) nm lo hi 0
def IRr (p : Int → Int) (r : Int) : Prop := (0 ≤ p (3490 + r) ∧ p (3490 + r) ≤ 5) ∧ (0 ≤ p (3502 + r) ∧ p (3502 + r) ≤ 1000) ∧ (0 ≤ p (3514 + r) ∧ p (3514 + r) ≤ 1000) ∧ (1 ≤ p (3526 + r) ∧ p (3526 + r) ≤ p (3538 + r) ∧ p (3538 + r) ≤ 120)
def IR (p : Int → Int) : Prop := (∀ r, 0 ≤ r → r < p 5 → IRr p r) ∧ (∀ r, 0 ≤ r → r < p 5 → gWf (gCo p r) 0 (p (3526 + r))) ∧ (∀ r, 0 ≤ r → r < p 5 → p (3526 + r) < p (3538 + r) → gWf (gCo p r) (p (3526 + r)) (p (3538 + r)))
theorem s232 {d : Nat} {k a b : Int} {x m : zM} {Q : Int → zM → zM → Prop} (h : Q (gTwo k a b) x m) : WPc d 232 [zi k, zi a, zi b] 403 [] x m 403 [] Q := by
  apply r232
  unfold gTwo at h
  repeat' (first | (with_reducible assumption) | (with_reducible rfl) | (with_reducible apply And.intro) | (with_reducible apply zIn_mk) | (with_reducible apply zLn_mk) | ((with_reducible intro _); try (exfalso; omega)) | omega | (with_reducible exact Or.inr trivial) | (with_reducible exact Or.inl trivial) | (with_reducible apply trivial) | ((rw [if_pos (by omega), if_pos (by omega)] at h; exact h)) | ((rw [if_pos (by omega), if_neg (by omega)] at h; exact h)) | ((rw [if_neg (by omega), if_pos (by omega), if_pos (by omega)] at h; exact h)) | ((rw [if_neg (by omega), if_pos (by omega), if_neg (by omega)] at h; exact h)) | (((repeat rw [if_neg (show ¬ k = _ by omega)] at h); (first | rw [if_pos (by omega)] at h | skip); (first | rw [if_pos (by omega)] at h | rw [if_neg (by omega)] at h | skip); exact h)) | fail)
theorem c99 {d : Nat} {w k a b : Int} {x m : zM} {Q : Int → zM → zM → Prop} (hw : w = 9 - k) (k0 : 20 ≤ k) (k1 : k ≤ 30) (k2 : k ≠ 22) (h : Q (gTwo k a b) x m) : WPc d 99 [zi w, zi a, zi b] 403 [] x m 403 [] Q := by
  subst hw
  apply r99
  unfold gTwo at h
  repeat' (first | (with_reducible assumption) | (with_reducible rfl) | (with_reducible apply And.intro) | (with_reducible apply zIn_mk) | (with_reducible apply zLn_mk) | ((with_reducible intro _); try (exfalso; omega)) | omega | (with_reducible exact Or.inr trivial) | (with_reducible exact Or.inl trivial) | (with_reducible apply trivial) | ((rw [if_pos (by omega), if_pos (by omega)] at h; exact h)) | ((rw [if_pos (by omega), if_neg (by omega)] at h; exact h)) | ((rw [if_neg (by omega), if_pos (by omega), if_pos (by omega)] at h; exact h)) | ((rw [if_neg (by omega), if_pos (by omega), if_neg (by omega)] at h; exact h)) | (((repeat rw [if_neg (show ¬ k = _ by omega)] at h); (first | rw [if_pos (by omega)] at h | skip); (first | rw [if_pos (by omega)] at h | rw [if_neg (by omega)] at h | skip); exact h)) | fail)
theorem s233 {d : Nat} {r lo hi : Int} {p nm : Int → Int} {x m : zM} {Q : Int → zM → zM → Prop} (hd : 1 ≤ d) (hp : m 387 = p) (r0 : 0 ≤ r) (r1 : r ≤ 11) (l0 : 0 ≤ lo) (l1 : lo ≤ hi) (l2 : hi ≤ 120) (hw : gWf (gCo p r) lo hi) (hn : ∀ k, 0 ≤ k → k < 10 → m 397 k = nm k) (h : ∀ m', (∀ k, k ≠ 398 → m' k = m k) → Q (gW p r lo hi nm) x m') : WPc d 233 [zr 386, zi r, zi lo, zi hi] 403 [] x m 403 [] Q := by
  have key : ∀ i, lo ≤ i → i ≤ hi → ∀ n, n = gDp (gCo p r) lo i → ∀ m', (∀ k, k ≠ 398 → m' k = m k) → (∀ j, 0 ≤ j → j < n → m' 398 j = gSk (gCo p r) nm lo i j) → WP d 233 6 [(0, zr 386), (1, zi r), (3, zi hi), (4, zi n), (5, zi i)] [] 403 [] x m' 403 [] Q := by
    refine zdownL lo hi _ ?_
    intro i i0 i1 ih n hn' m' hf hag
    have bd := gDp_bd hw i i0 i1
    have hs := gSk_s (c := gCo p r) (nm := nm) i0
    have hds := gDp_s (c := gCo p r) i0
    have ok : i < hi → gOkc (gCo p r) lo i := fun hl => hw.1 i i0 hl
    unfold gOkc at ok
    have ed := hw.2
    have e : m' 387 = p := by rw [hf 387 (by decide), hp]
    have e2 : m' 397 = m 397 := hf 397 (by decide)
    unfold gDl at hds
    have hc : gCo p r i = p (3550 + 130 * r + i) := rfl
    rw [hc] at hs hds ok
    apply r233_c6
    simp only [e, e2]
    repeat' (first | (with_reducible assumption) | (with_reducible rfl) | (with_reducible apply And.intro) | (with_reducible apply zIn_mk) | (with_reducible apply zLn_mk) | ((with_reducible intro _); try (exfalso; omega)) | omega | (with_reducible exact Or.inr trivial) | (with_reducible exact Or.inl trivial) | ((refine ih (by omega) _ (by rw [hds, if_pos (by omega)]; omega) _ (fun k hk => by rw [zu_ne _ _ _ hk]; exact hf k hk) (fun j j0 j1 => by rw [zu_eq, hs]; unfold gStep; rw [if_pos (by omega), ← hn']; exact up_ag hag rfl (by omega) j j0 j1))) | ((refine ih (by omega) _ (by rw [hds, if_pos (by omega)]; omega) _ (fun k hk => by rw [zu_ne _ _ _ hk]; exact hf k hk) (fun j j0 j1 => by rw [zu_eq, hs]; unfold gStep; rw [if_neg (by omega), if_pos (by omega), ← hn']; exact up_ag hag (hn _ (by omega) (by omega)) (by omega) j j0 j1))) | ((refine ih (by omega) _ (by rw [hds, if_neg (by omega), if_pos (by omega)]; omega) _ (fun k hk => by rw [zu_ne _ _ _ hk]; exact hf k hk) (fun j j0 j1 => by rw [zu_eq, hs]; unfold gStep; rw [if_neg (by omega), if_neg (by omega), if_neg (by omega), if_pos (by omega), ← hn', ← hag (n - 1) (by omega) (by omega)]; exact up_ag hag rfl (by omega) j j0 j1))) | ((refine ih (by omega) _ (by rw [hds, if_neg (by omega), if_pos (by omega)]; omega) _ (fun k hk => by rw [zu_ne _ _ _ hk]; exact hf k hk) (fun j j0 j1 => by rw [zu_eq, hs]; unfold gStep; rw [if_neg (by omega), if_neg (by omega), if_pos (by omega), ← hn', ← hag (n - 1) (by omega) (by omega)]; exact up_ag hag (by first | rw [if_pos (by omega)] | rw [if_neg (by omega)]) (by omega) j j0 j1))) | ((refine ih (by omega) _ (by rw [hds, if_neg (by omega), if_neg (by omega)]; omega) _ (fun k hk => by rw [zu_ne _ _ _ hk]; exact hf k hk) (fun j j0 j1 => by rw [zu_eq, hs]; unfold gStep; rw [if_neg (by omega), if_neg (by omega), if_neg (by omega), if_neg (by omega), ← hn', ← hag (n - 1) (by omega) (by omega), ← hag (n - 1 - 1) (by omega) (by omega)]; exact up_ag hag rfl (by omega) j j0 j1))) | ((refine s232 ?_)) | fail)
    · have ei : i = hi := by omega
      subst ei
      rw [hag 0 (by omega) (by omega)]
      exact h m' hf
  apply r233
  intro _ _ _
  exact key lo (by omega) l1 0 (gDp_0 _ _).symm m (fun k _ => rfl) (fun j j0 j1 => by omega)
