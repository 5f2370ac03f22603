/-! RULES in the class; names; what is found -/
def gCc (k : Int) : Int := if 100 ≤ k then k - 100 else if k < 10 then -1 - k else 9 - k
def RRd (s ke fr to ia en co : Int → Int) (p : Int → Int) : Prop := s 0 = p 5 ∧ (∀ r, 0 ≤ r → r < p 5 → ke r = p (3490 + r) ∧ fr r = p (3502 + r) ∧ to r = p (3514 + r) ∧ ia r = p (3526 + r) ∧ en r = p (3538 + r)) ∧ (∀ r k, 0 ≤ r → r < p 5 → 0 ≤ k → k < p (3538 + r) → co (r * 120 + k) = gCc (p (3550 + 130 * r + k)))
abbrev RRx (x : zM) (p : Int → Int) : Prop := RRd (x 88) (x 89) (x 90) (x 91) (x 92) (x 93) (x 94) p
theorem c98 {d : Nat} {r lo hi : Int} {p nm : Int → Int} {x m : zM} {Q : Int → zM → zM → Prop} (hd : 1 ≤ d) (r0 : 0 ≤ r) (r1 : r ≤ 11) (l0 : 0 ≤ lo) (l1 : lo ≤ hi) (l2 : hi ≤ 120) (hw : gWf (gCo p r) lo hi) (hcd : ∀ k, lo ≤ k → k < hi → x 94 (r * 120 + k) = gCc (p (3550 + 130 * r + k))) (hn : ∀ k, 0 ≤ k → k < 10 → x 331 k = nm k) (h : ∀ x', (∀ k, k ≠ 107 → x' k = x k) → Q (gW p r lo hi nm) x' m) : WPc d 98 [zr 88, zi r, zi lo, zi hi, zr 331] 403 [] x m 403 [] Q := by
  have key : ∀ i, lo ≤ i → i ≤ hi → ∀ n, n = gDp (gCo p r) lo i → ∀ x', (∀ k, k ≠ 107 → x' k = x k) → (∀ j, 0 ≤ j → j < n → x' 107 j = gSk (gCo p r) nm lo i j) → WP d 98 6 [(0, zr 88), (1, zi r), (3, zi hi), (4, zr 331), (5, zi n), (6, zi i)] [] 403 [] x' m 403 [] Q := by
    refine zdownL lo hi _ ?_
    intro i i0 i1 ih n hn' m' hf hag
    have bd := gDp_bd hw i i0 i1
    have hs := gSk_s (c := gCo p r) (nm := nm) i0
    have hds := gDp_s (c := gCo p r) i0
    have ok : i < hi → gOkc (gCo p r) lo i := fun hl => hw.1 i i0 hl
    unfold gOkc at ok
    have ed := hw.2
    have e : m' 94 = x 94 := hf 94 (by decide)
    have e2 : m' 331 = x 331 := hf 331 (by decide)
    have ec := hcd i i0
    have ec1 : i < hi → 100 ≤ p (3550 + 130 * r + i) → x 94 (r * 120 + i) = p (3550 + 130 * r + i) - 100 := fun a b => by rw [ec a]; unfold gCc; rw [if_pos b]
    have ec2 : i < hi → p (3550 + 130 * r + i) < 10 → x 94 (r * 120 + i) = -1 - p (3550 + 130 * r + i) := fun a b => by rw [ec a]; unfold gCc; rw [if_neg (by omega), if_pos b]
    have ec3 : i < hi → p (3550 + 130 * r + i) < 100 → 10 ≤ p (3550 + 130 * r + i) → x 94 (r * 120 + i) = 9 - p (3550 + 130 * r + i) := fun a b c => by rw [ec a]; unfold gCc; rw [if_neg (by omega), if_neg (by omega)]
    have ei : i = hi → gDp (gCo p r) lo i = 1 := fun e => by rw [e]; exact ed
    clear ec
    unfold gDl at hds
    have hc : gCo p r i = p (3550 + 130 * r + i) := rfl
    rw [hc] at hs hds ok
    apply r98_c6
    simp only [e, e2]
    repeat' (first | (with_reducible assumption) | (with_reducible rfl) | (with_reducible apply And.intro) | (with_reducible apply zIn_mk) | (with_reducible apply zLn_mk) | ((with_reducible intro _); try (exfalso; omega)) | omega | (with_reducible exact Or.inr trivial) | (with_reducible exact Or.inl trivial) | ((refine ih (by omega) _ (by rw [hds, if_pos (by omega)]; omega) _ (fun k hk => by rw [zu_ne _ _ _ hk]; exact hf k hk) (fun j j0 j1 => by rw [zu_eq, hs]; unfold gStep; rw [if_pos (by omega), ← hn']; exact up_ag hag (by omega) (by omega) j j0 j1))) | ((refine ih (by omega) _ (by rw [hds, if_pos (by omega)]; omega) _ (fun k hk => by rw [zu_ne _ _ _ hk]; exact hf k hk) (fun j j0 j1 => by rw [zu_eq, hs]; unfold gStep; rw [if_neg (by omega), if_pos (by omega), ← hn']; exact up_ag hag (by rw [hn _ (by omega) (by omega)]; congr 1; omega) (by omega) j j0 j1))) | ((refine ih (by omega) _ (by rw [hds, if_neg (by omega), if_pos (by omega)]; omega) _ (fun k hk => by rw [zu_ne _ _ _ hk]; exact hf k hk) (fun j j0 j1 => by rw [zu_eq, hs]; unfold gStep; rw [if_neg (by omega), if_neg (by omega), if_neg (by omega), if_pos (by omega), ← hn', ← hag (n - 1) (by omega) (by omega)]; exact up_ag hag rfl (by omega) j j0 j1))) | ((refine ih (by omega) _ (by rw [hds, if_neg (by omega), if_pos (by omega)]; omega) _ (fun k hk => by rw [zu_ne _ _ _ hk]; exact hf k hk) (fun j j0 j1 => by rw [zu_eq, hs]; unfold gStep; rw [if_neg (by omega), if_neg (by omega), if_pos (by omega), ← hn', ← hag (n - 1) (by omega) (by omega)]; exact up_ag hag (by first | rw [if_pos (by omega)] | rw [if_neg (by omega)]) (by omega) j j0 j1))) | ((refine ih (by omega) _ (by rw [hds, if_neg (by omega), if_neg (by omega)]; omega) _ (fun k hk => by rw [zu_ne _ _ _ hk]; exact hf k hk) (fun j j0 j1 => by rw [zu_eq, hs]; unfold gStep; rw [if_neg (by omega), if_neg (by omega), if_neg (by omega), if_neg (by omega), ← hn', ← hag (n - 1) (by omega) (by omega), ← hag (n - 1 - 1) (by omega) (by omega)]; exact up_ag hag rfl (by omega) j j0 j1))) | ((refine c99 (k := p (3550 + 130 * r + i)) (by omega) (by omega) (by omega) (by omega) ?_)) | ((rw [show i = hi by omega] at hag; rw [show n - 1 = 0 by omega, hag 0 (by omega) (by omega)]; exact h m' hf)) | fail)
  apply r98
  intro _ _ _
  exact key lo (by omega) l1 0 (gDp_0 _ _).symm x (fun k _ => rfl) (fun j j0 j1 => by omega)
/-- the names of one that is asked of -/
def gNm (p : Int → Int) (who k : Int) : Int :=
  if k = 8 then p 0 else if k = 9 then p 6161 else if who = -1 then 0
  else if k = 0 then p (10 + (if who < 100 then who else p (90 + (who - 100)))) else if k = 1 then p (26 + (if who < 100 then who else p (90 + (who - 100))))
  else if k = 2 then gSv p (if who < 100 then who else p (90 + (who - 100))) 400 400 else if k = 3 then gOws p (if who < 100 then who else p (90 + (who - 100)))
  else if k = 4 then p (42 + (if who < 100 then who else p (90 + (who - 100)))) else if k = 5 then gLo p (if who < 100 then who else p (90 + (who - 100)))
  else if who < 100 then 0 else if k = 6 then p (114 + (who - 100)) else p (138 + (who - 100))
abbrev gWho (p : Int → Int) (who : Int) : Prop := who = -1 ∨ (0 ≤ who ∧ who < p 1) ∨ (100 ≤ who ∧ who < 100 + p 2)
theorem cs10 {k : Int} (h0 : 0 ≤ k) (h1 : k < 10) : k = 0 ∨ k = 1 ∨ k = 2 ∨ k = 3 ∨ k = 4 ∨ k = 5 ∨ k = 6 ∨ k = 7 ∨ k = 8 ∨ k = 9 := by omega
/-- the model's scratch cells alone differ -/
def zSame (m m' : zM) : Prop := (∀ k, k ≠ 397 → k ≠ 398 → k ≠ 386 → m' k = m k) ∧ (∀ i, i ≠ 23 → m' 386 i = m 386 i)
theorem zSame.p {m m' : zM} (h : zSame m m') : m' 387 = m 387 := h.1 387 (by decide) (by decide) (by decide)
theorem zSame.rf (m : zM) : zSame m m := ⟨fun _ _ _ _ => rfl, fun _ _ => rfl⟩
theorem zSame.tr {m m' m'' : zM} (h : zSame m m') (h' : zSame m' m'') : zSame m m'' := ⟨fun k a b c => by rw [h'.1 k a b c, h.1 k a b c], fun i a => by rw [h'.2 i a, h.2 i a]⟩
theorem zSame.u7 {m m' : zM} (h : zSame m m') (i v : Int) : zSame m (zupd m' 397 i v) := ⟨fun k a b c => by rw [zu_ne _ _ _ a]; exact h.1 k a b c, fun i' a => by rw [zu_ne _ _ _ (by decide)]; exact h.2 i' a⟩
theorem zSame.u8 {m m' : zM} (h : zSame m m') (i v : Int) : zSame m (zupd m' 398 i v) := ⟨fun k a b c => by rw [zu_ne _ _ _ b]; exact h.1 k a b c, fun i' a => by rw [zu_ne _ _ _ (by decide)]; exact h.2 i' a⟩
theorem zSame.u6 {m m' : zM} (h : zSame m m') (v : Int) : zSame m (zupd m' 386 23 v) := ⟨fun k a b c => by rw [zu_ne _ _ _ c]; exact h.1 k a b c, fun i' a => by rw [zu_eq, up_ne a]; exact h.2 i' a⟩
theorem zSame.k8 {m m' m'' : zM} (h : zSame m m') (h' : ∀ k, k ≠ 398 → m'' k = m' k) : zSame m m'' := ⟨fun k a b c => by rw [h' k b]; exact h.1 k a b c, fun i' a => by rw [h' 386 (by decide)]; exact h.2 i' a⟩
theorem s234 {d : Nat} {who : Int} {p : Int → Int} {x m : zM} {Q : Int → zM → zM → Prop} (hd : 7 ≤ d) (hp : m 387 = p) (hB : IB p) (hA : IA p) (hN : IN p) (hw : gWho p who) (h : ∀ m', zSame m m' → m' 387 = p → m' 386 = m 386 → (∀ k, 0 ≤ k → k < 10 → m' 397 k = gNm p who k) → Q 0 x m') : WPc d 234 [zr 386, zi who] 403 [] x m 403 [] Q := by
  have hb := hB; unfold IB at hb
  have ha : 100 ≤ who → IAa p (who - 100) := fun c => hA.1 _ (by omega) (by omega)
  unfold IAa at ha
  unfold gWho at hw
  have e8 : ∀ k, k = 8 → gNm p who k = p 0 := fun k e => by unfold gNm; rw [if_pos e]
  have key : ∀ i, 0 ≤ i → i ≤ 10 → ∀ m', zSame m m' → m' 387 = p → m' 386 = m 386 → (∀ j, 0 ≤ j → j < i → m' 397 j = 0) → WP d 234 2 [(0, zr 386), (1, zi who), (2, zi i)] [] 403 [] x m' 403 [] Q := by
    refine zdown 10 _ ?_
    intro i i0 i1 ih m' hf hp' h6 hz
    apply r234_c2
    simp only [hp']
    repeat' (first | (with_reducible assumption) | (with_reducible rfl) | (with_reducible apply And.intro) | (with_reducible apply zIn_mk) | (with_reducible apply zLn_mk) | ((with_reducible intro _); try (exfalso; omega)) | omega | (with_reducible exact Or.inr trivial) | (with_reducible exact Or.inl trivial) | ((refine ih (by omega) _ (hf.u7 _ _) (by rw [zu_ne _ _ _ (by decide)]; exact hp') (by rw [zu_ne _ _ _ (by decide)]; exact h6) (fun j j0 j1 => by rw [zu_eq]; exact (if e : j = i then (by rw [up_at e]) else (by rw [up_ne e]; exact hz j j0 (by omega)))))) | ((refine s181 (p := p) ?_ ?_ ?_ ?_)) | ((refine s192 (p := p) ?_ ?_ ?_ ?_ ?_ ?_)) | ((refine s198 (p := p) ?_ ?_ ?_ ?_ ?_ ?_)) | (simp only [zu_ne, ne_eq, Nat.reduceEqDiff, not_false_eq_true, hp']) | fail)
    all_goals refine h _ ?_ ?_ ?_ ?_
    all_goals first | (with_reducible assumption) | ((repeat' with_reducible apply zSame.u7); assumption) | (simp only [zu_ne, ne_eq, Nat.reduceEqDiff, not_false_eq_true, hp', h6]; done) | skip
    all_goals intro k k0 k1
    all_goals rcases cs10 k0 k1 with e | e | e | e | e | e | e | e | e | e <;> subst e <;> simp only [zu_eq, up, gNm, reduceIte, Int.reduceEq]
    all_goals (repeat (first | rw [if_pos (by omega)] | rw [if_neg (by omega)]))
    all_goals first | rfl | exact hz _ (by omega) (by omega)
  apply r234
  intro _
  exact key 0 (by omega) (by omega) m (zSame.rf m) hp rfl (fun j j0 j1 => by omega)
