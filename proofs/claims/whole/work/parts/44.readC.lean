/-! THE CLASS'S READERS -/
theorem zQe {Q : Int → zM → zM → Prop} {a b : Int} {x m : zM} (h : Q a x m) (e : b = a) : Q b x m := e ▸ h
theorem zU0 : zUi 0 = -1 := rfl
theorem zU1 : zUi 1 = 0 := rfl
theorem zU2 : zUi 2 = 0 := rfl
theorem zU3 : zUi 3 = 0 := rfl
theorem zU4 : zUi 4 = 3 := rfl
theorem zU5 : zUi 5 = 2 := rfl
theorem c1 {d : Nat} {k o : Int} {x m : zM} {Q : Int → zM → zM → Prop} (k0 : 0 ≤ k) (k1 : k ≤ 5) (h1 : (k = o ∨ o = 0 ∨ (o = 2 ∧ k = 5) ∨ (o = 3 ∧ k = 4)) → Q 1 x m) (h0 : (k ≠ o ∧ o ≠ 0 ∧ ¬(o = 2 ∧ k = 5) ∧ ¬(o = 3 ∧ k = 4)) → Q 0 x m) : WPc d 1 [zi k, zi o] 403 [] x m 403 [] Q := by
  have c : k = 0 ∨ k = 1 ∨ k = 2 ∨ k = 3 ∨ k = 4 ∨ k = 5 := by omega
  rcases c with e | e | e | e | e | e <;> subst e <;> apply r1
  all_goals repeat' (first | (with_reducible assumption) | (with_reducible rfl) | (with_reducible apply And.intro) | (with_reducible apply zIn_mk) | (with_reducible apply zLn_mk) | ((with_reducible intro _); try (exfalso; omega)) | omega | (with_reducible exact Or.inr trivial) | (with_reducible exact Or.inl trivial) | ((with_reducible apply h1) <;> omega) | ((with_reducible apply h0) <;> omega) | (simp only [zU0, zU1, zU2, zU3, zU4, zU5]) | (with_reducible apply r1_c4) | fail)
theorem c23_7 {d : Nat} {a w t : Int} {p : Int → Int} {x m : zM} {Q : Int → zM → zM → Prop} (hL : RLx x p) (hB : IB p) (hE : IE p) (ht : t = p 0) (h : Q (gI p a w) x m) : WPc d 23 [zr 7, zi a, zi w, zi t] 403 [] x m 403 [] Q := by
  have hb := hB; unfold IB at hb
  have e0 : x 7 0 = p 4 := hL.1
  have key : ∀ j, -1 ≤ j → (j < p 4 → (∀ k, j < k → k < p 4 → ¬ gMt p a w k) → WP d 23 8 [(0, zr 7), (1, zi a), (2, zi w), (3, zi t), (4, zi j)] [] 403 [] x m 403 [] Q) := by
    refine zfall _ ?_
    intro j h0 ih h1 hno
    have ihs : 0 ≤ j → ¬ gMt p a w j → WP d 23 8 [(0, zr 7), (1, zi a), (2, zi w), (3, zi t), (4, zi (j + -1))] [] 403 [] x m 403 [] Q := by
      intro hl hn
      refine ih hl (by omega) ?_
      intro k k0 k1
      by_cases e : k = j
      · subst e; exact hn
      · exact hno k (by omega) k1
    have r := hL.2.1 j
    apply r23_7_c8
    repeat' (first | (with_reducible assumption) | (with_reducible rfl) | (with_reducible apply And.intro) | (with_reducible apply zIn_mk) | (with_reducible apply zLn_mk) | ((with_reducible intro _); try (exfalso; omega)) | omega | (with_reducible exact Or.inr trivial) | (with_reducible exact Or.inl trivial) | ((refine ihs (by omega) ?_; unfold gMt; omega)) | fail)
    · rw [← gI_no (p := p) (a := a) (w := w) (fun k k0 k1 => hno k (by omega) k1)]; exact h
    · rw [show j = gI p a w from (gI_is hE (by omega) (by omega) ⟨by omega, by omega, by omega⟩).symm]; exact h
  apply r23_7
  repeat' (first | (with_reducible assumption) | (with_reducible rfl) | (with_reducible apply And.intro) | (with_reducible apply zIn_mk) | (with_reducible apply zLn_mk) | ((with_reducible intro _); try (exfalso; omega)) | omega | (with_reducible exact Or.inr trivial) | (with_reducible exact Or.inl trivial) | ((rw [e0]; exact key _ (by omega) (by omega) (fun k k0 k1 => by omega))) | fail)
theorem c23_363 {d : Nat} {a w t : Int} {p : Int → Int} {x m : zM} {Q : Int → zM → zM → Prop} (hL : RLt x p) (hB : IB p) (hE : IE p) (ht : t = p 0) (h : Q (gI p a w) x m) : WPc d 23 [zr 363, zi a, zi w, zi t] 403 [] x m 403 [] Q := by
  have hb := hB; unfold IB at hb
  have e0 : x 363 0 = p 4 := hL.1
  have key : ∀ j, -1 ≤ j → (j < p 4 → (∀ k, j < k → k < p 4 → ¬ gMt p a w k) → WP d 23 8 [(0, zr 363), (1, zi a), (2, zi w), (3, zi t), (4, zi j)] [] 403 [] x m 403 [] Q) := by
    refine zfall _ ?_
    intro j h0 ih h1 hno
    have ihs : 0 ≤ j → ¬ gMt p a w j → WP d 23 8 [(0, zr 363), (1, zi a), (2, zi w), (3, zi t), (4, zi (j + -1))] [] 403 [] x m 403 [] Q := by
      intro hl hn
      refine ih hl (by omega) ?_
      intro k k0 k1
      by_cases e : k = j
      · subst e; exact hn
      · exact hno k (by omega) k1
    have r := hL.2.1 j
    apply r23_363_c8
    repeat' (first | (with_reducible assumption) | (with_reducible rfl) | (with_reducible apply And.intro) | (with_reducible apply zIn_mk) | (with_reducible apply zLn_mk) | ((with_reducible intro _); try (exfalso; omega)) | omega | (with_reducible exact Or.inr trivial) | (with_reducible exact Or.inl trivial) | ((refine ihs (by omega) ?_; unfold gMt; omega)) | fail)
    · rw [← gI_no (p := p) (a := a) (w := w) (fun k k0 k1 => hno k (by omega) k1)]; exact h
    · rw [show j = gI p a w from (gI_is hE (by omega) (by omega) ⟨by omega, by omega, by omega⟩).symm]; exact h
  apply r23_363
  repeat' (first | (with_reducible assumption) | (with_reducible rfl) | (with_reducible apply And.intro) | (with_reducible apply zIn_mk) | (with_reducible apply zLn_mk) | ((with_reducible intro _); try (exfalso; omega)) | omega | (with_reducible exact Or.inr trivial) | (with_reducible exact Or.inl trivial) | ((rw [e0]; exact key _ (by omega) (by omega) (fun k k0 k1 => by omega))) | fail)
theorem c24 {d : Nat} {a w t : Int} {p : Int → Int} {x m : zM} {Q : Int → zM → zM → Prop} (hd : 1 ≤ d) (hL : RLx x p) (hB : IB p) (hE : IE p) (ht : t = p 0) (h1 : gHas p a w → Q 1 x m) (h0 : ¬ gHas p a w → Q 0 x m) : WPc d 24 [zr 7, zi a, zi w, zi t] 403 [] x m 403 [] Q := by
  have hb := hB; unfold IB at hb
  have e0 : x 7 0 = p 4 := hL.1
  have g := gI_in (p := p) (a := a) (w := w) (by omega)
  unfold gHas at h1 h0
  apply r24
  repeat' (first | (with_reducible assumption) | (with_reducible rfl) | (with_reducible apply And.intro) | (with_reducible apply zIn_mk) | (with_reducible apply zLn_mk) | ((with_reducible intro _); try (exfalso; omega)) | omega | (with_reducible exact Or.inr trivial) | (with_reducible exact Or.inl trivial) | ((refine c23_7 hL hB hE ht ?_)) | ((with_reducible apply h1) <;> omega) | ((with_reducible apply h0) <;> omega) | fail)
theorem c26 {d : Nat} {a w as : Int} {p : Int → Int} {x m : zM} {Q : Int → zM → zM → Prop} (hL : RLx x p) (hB : IB p) (h : Q (gSv p a w as) x m) : WPc d 26 [zr 7, zi a, zi w, zi as] 403 [] x m 403 [] Q := by
  have hb := hB; unfold IB at hb
  have e0 : x 7 0 = p 4 := hL.1
  apply r26
  intro _ _ _
  have key : ∀ j, 0 ≤ j → j ≤ p 4 → ∀ v, v = w32 (zT (gE p a w as) j) → WP d 26 6 [(0, zr 7), (1, zi a), (2, zi w), (3, zi as), (4, zi v), (5, zi j)] [] 403 [] x m 403 [] Q := by
    refine zdown _ _ ?_
    intro j h0 h1 ih v hv
    have r := hL.2.1 j h0
    have hs := zT_s (f := gE p a w as) h0
    have hg : gE p a w as j = if p (690 + j) = a ∧ p (1390 + j) ≤ w ∧ p (2090 + j) ≤ as then p (2790 + j) else 0 := rfl
    apply r26_c6
    repeat' (first | (with_reducible assumption) | (with_reducible rfl) | (with_reducible apply And.intro) | (with_reducible apply zIn_mk) | (with_reducible apply zLn_mk) | ((with_reducible intro _); try (exfalso; omega)) | omega | (with_reducible exact Or.inr trivial) | (with_reducible exact Or.inl trivial) | ((refine ih (by omega) _ ?_; rw [hs, hg]; first | rw [if_pos (by omega), hv, w32_wa, (r (by omega)).2.2.2] | rw [if_neg (by omega), hv, Int.add_zero])) | fail)
    · rw [hv, show j = p 4 by omega]; exact h
  exact key 0 (by omega) (by omega) 0 (by rw [zT_0 (by omega)]; rfl)
def gAll (p : Int → Int) : Int := w32 (zT (fun k => gSv p k 400 400) 16)
theorem c27 {d : Nat} {p : Int → Int} {x m : zM} {Q : Int → zM → zM → Prop} (hL : RLx x p) (h : Q (gAll p) x m) : WPc d 27 [zr 7] 403 [] x m 403 [] Q := by
  apply r27
  have key : ∀ j, 0 ≤ j → j ≤ 16 → ∀ v, v = w32 (zT (fun k => gSv p k 400 400) j) → WP d 27 4 [(0, zr 7), (1, zi v), (2, zi j)] [] 403 [] x m 403 [] Q := by
    refine zdown _ _ ?_
    intro j h0 h1 ih v hv
    have r := hL.2.2.1 j h0
    have hs := zT_s (f := fun k => gSv p k 400 400) h0
    apply r27_c4
    repeat' (first | (with_reducible assumption) | (with_reducible rfl) | (with_reducible apply And.intro) | (with_reducible apply zIn_mk) | (with_reducible apply zLn_mk) | ((with_reducible intro _); try (exfalso; omega)) | omega | (with_reducible exact Or.inr trivial) | (with_reducible exact Or.inl trivial) | ((refine ih (by omega) _ ?_; rw [hs, hv, w32_wa, r (by omega)])) | fail)
    · rw [hv, show j = 16 by omega]; exact h
  exact key 0 (by omega) (by omega) 0 (by rw [zT_0 (by omega)]; rfl)
/-- entries behind a week -/
def gBh (p : Int → Int) (a w : Int) : Int := zT (fun k => if p (690 + k) = a ∧ w < p (1390 + k) then 1 else 0) (p 4)
theorem c28 {d : Nat} {a w : Int} {p : Int → Int} {x m : zM} {Q : Int → zM → zM → Prop} (hL : RLx x p) (hB : IB p) (h : Q (gBh p a w) x m) : WPc d 28 [zr 7, zi a, zi w] 403 [] x m 403 [] Q := by
  have hb := hB; unfold IB at hb
  have e0 : x 7 0 = p 4 := hL.1
  apply r28
  intro _ _
  have key : ∀ j, 0 ≤ j → j ≤ p 4 → ∀ v, v = zT (fun k => if p (690 + k) = a ∧ w < p (1390 + k) then 1 else 0) j → WP d 28 5 [(0, zr 7), (1, zi a), (2, zi w), (3, zi v), (4, zi j)] [] 403 [] x m 403 [] Q := by
    refine zdown _ _ ?_
    intro j h0 h1 ih v hv
    have r := hL.2.1 j h0
    have hs := zT_s (f := fun k => if p (690 + k) = a ∧ w < p (1390 + k) then 1 else 0) h0
    have bd := zT_bd (f := fun k => if p (690 + k) = a ∧ w < p (1390 + k) then 1 else 0) (lo := 0) (hi := 1) h0 (fun i a b => by (try dsimp only); split <;> omega)
    try dsimp only at hs
    apply r28_c5
    repeat' (first | (with_reducible assumption) | (with_reducible rfl) | (with_reducible apply And.intro) | (with_reducible apply zIn_mk) | (with_reducible apply zLn_mk) | ((with_reducible intro _); try (exfalso; omega)) | omega | (with_reducible exact Or.inr trivial) | (with_reducible exact Or.inl trivial) | ((refine ih (by omega) _ ?_; rw [hs]; (first | rw [if_pos (by omega)] | rw [if_neg (by omega)]); omega)) | fail)
    · rw [hv, show j = p 4 by omega]; exact h
  exact key 0 (by omega) (by omega) 0 (by rw [zT_0 (by omega)])
theorem c47 {d : Nat} {a i : Int} {k s w : Int} {p : Int → Int} {x m : zM} {Q : Int → zM → zM → Prop} (hA : IAa p a) (i0 : 0 ≤ i) (i1 : i ≤ 119998) (ek : k = p (114 + a)) (es : s = p (138 + a)) (ew : w = p (162 + a)) (h : Q (gEc p a i) x m) : WPc d 47 [zi k, zi s, zi i, zi w] 403 [] x m 403 [] Q := by
  subst ek es ew
  unfold IAa at hA
  unfold gEc at h
  apply r47
  repeat' (first | (with_reducible assumption) | (with_reducible rfl) | (with_reducible apply And.intro) | (with_reducible apply zIn_mk) | (with_reducible apply zLn_mk) | ((with_reducible intro _); try (exfalso; omega)) | omega | (with_reducible exact Or.inr trivial) | (with_reducible exact Or.inl trivial) | ((rw [if_pos (by omega)] at h; exact h)) | ((rw [if_neg (by omega), if_pos (by omega)] at h; exact h)) | ((rw [if_neg (by omega), if_neg (by omega)] at h; exact h)) | fail)
theorem c49_72 {d : Nat} {l : Int} {p : Int → Int} {x m : zM} {Q : Int → zM → zM → Prop} (hR : RNx x p) (hB : IB p) (hA : IA p) (hN : IN p) (l0 : 0 ≤ l) (l1 : l < p 3) (h : Q (p (138 + p (450 + l)) + p (498 + l) - p (522 + l)) x m) : WPc d 49 [zr 72, zi l] 403 [] x m 403 [] Q := by
  have hb := hB; unfold IB at hb
  have a := hN.1 l l0 l1
  unfold INl at a
  have b := hA.1 (p (450 + l)) (by omega) (by omega)
  unfold IAa at b
  have r := hR.2 l l0 l1
  apply r49_72
  repeat' (first | (with_reducible assumption) | (with_reducible rfl) | (with_reducible apply And.intro) | (with_reducible apply zIn_mk) | (with_reducible apply zLn_mk) | ((with_reducible intro _); try (exfalso; omega)) | omega | (with_reducible exact Or.inr trivial) | (with_reducible exact Or.inl trivial) | (((with_reducible refine zQe h ?_); omega)) | fail)
theorem c57_72 {d : Nat} {v : Int} {p : Int → Int} {x m : zM} {Q : Int → zM → zM → Prop} (hd : 1 ≤ d) (hR : RNx x p) (hB : IB p) (hA : IA p) (hN : IN p) (h : Q (gHd p v) x m) : WPc d 57 [zr 72, zi v] 403 [] x m 403 [] Q := by
  have hb := hB; unfold IB at hb
  have e0 : x 72 0 = p 3 := hR.1
  apply r57_72
  intro _
  have key : ∀ j, 0 ≤ j → j ≤ p 3 → ∀ q, q = zT (fun l => if (p (570 + l) = 0 ∧ p (90 + p (450 + l)) = v) ∧ (p (114 + p (450 + l)) = 2 ∨ p (114 + p (450 + l)) = 5) then gOw p l else 0) j → WP d 57 4 [(0, zr 72), (1, zi v), (2, zi q), (3, zi j)] [] 403 [] x m 403 [] Q := by
    refine zdown _ _ ?_
    intro j h0 h1 ih q hq
    have hs := zT_s (f := fun l => if (p (570 + l) = 0 ∧ p (90 + p (450 + l)) = v) ∧ (p (114 + p (450 + l)) = 2 ∨ p (114 + p (450 + l)) = 5) then gOw p l else 0) h0
    have bd := zT_bd (f := fun l => if (p (570 + l) = 0 ∧ p (90 + p (450 + l)) = v) ∧ (p (114 + p (450 + l)) = 2 ∨ p (114 + p (450 + l)) = 5) then gOw p l else 0) (lo := 0) (hi := 219997) h0 (fun i a b => by have := gOw_bd hA hN a (show i < p 3 by omega); (try dsimp only); split <;> omega)
    have bj : j < p 3 → 0 ≤ gOw p j ∧ gOw p j ≤ 219997 := gOw_bd hA hN h0
    have ow : gOw p j = if p (570 + j) = 0 then p (138 + p (450 + j)) + p (498 + j) - p (522 + j) else 0 := rfl
    have nj := hN.1 j h0
    unfold INl at nj
    have aj : j < p 3 → IAa p (p (450 + j)) := fun hh => hA.1 _ (by omega) (by omega)
    unfold IAa at aj
    have r := hR.2 j h0
    try dsimp only at hs
    apply r57_72_c4
    repeat' (first | (with_reducible assumption) | (with_reducible rfl) | (with_reducible apply And.intro) | (with_reducible apply zIn_mk) | (with_reducible apply zLn_mk) | ((with_reducible intro _); try (exfalso; omega)) | omega | (with_reducible exact Or.inr trivial) | (with_reducible exact Or.inl trivial) | ((refine c49_72 hR hB hA hN h0 (by omega) ?_; rw [if_pos (by omega)] at ow; rw [← ow])) | (with_reducible apply c1) | ((refine ih (by omega) _ ?_; rw [hs]; (first | rw [if_pos (by omega)] | rw [if_neg (by omega)]); omega)) | fail)
    · rw [hq, show j = p 3 by omega]; exact h
  exact key 0 (by omega) (by omega) 0 (by rw [zT_0 (by omega)])
theorem c49_370 {d : Nat} {l : Int} {p : Int → Int} {x m : zM} {Q : Int → zM → zM → Prop} (hR : RNt x p) (hB : IB p) (hA : IA p) (hN : IN p) (l0 : 0 ≤ l) (l1 : l < p 3) (h : Q (p (138 + p (450 + l)) + p (498 + l) - p (522 + l)) x m) : WPc d 49 [zr 370, zi l] 403 [] x m 403 [] Q := by
  have hb := hB; unfold IB at hb
  have a := hN.1 l l0 l1
  unfold INl at a
  have b := hA.1 (p (450 + l)) (by omega) (by omega)
  unfold IAa at b
  have r := hR.2 l l0 l1
  apply r49_370
  repeat' (first | (with_reducible assumption) | (with_reducible rfl) | (with_reducible apply And.intro) | (with_reducible apply zIn_mk) | (with_reducible apply zLn_mk) | ((with_reducible intro _); try (exfalso; omega)) | omega | (with_reducible exact Or.inr trivial) | (with_reducible exact Or.inl trivial) | (((with_reducible refine zQe h ?_); omega)) | fail)
theorem c57_370 {d : Nat} {v : Int} {p : Int → Int} {x m : zM} {Q : Int → zM → zM → Prop} (hd : 1 ≤ d) (hR : RNt x p) (hB : IB p) (hA : IA p) (hN : IN p) (h : Q (gHd p v) x m) : WPc d 57 [zr 370, zi v] 403 [] x m 403 [] Q := by
  have hb := hB; unfold IB at hb
  have e0 : x 370 0 = p 3 := hR.1
  apply r57_370
  intro _
  have key : ∀ j, 0 ≤ j → j ≤ p 3 → ∀ q, q = zT (fun l => if (p (570 + l) = 0 ∧ p (90 + p (450 + l)) = v) ∧ (p (114 + p (450 + l)) = 2 ∨ p (114 + p (450 + l)) = 5) then gOw p l else 0) j → WP d 57 4 [(0, zr 370), (1, zi v), (2, zi q), (3, zi j)] [] 403 [] x m 403 [] Q := by
    refine zdown _ _ ?_
    intro j h0 h1 ih q hq
    have hs := zT_s (f := fun l => if (p (570 + l) = 0 ∧ p (90 + p (450 + l)) = v) ∧ (p (114 + p (450 + l)) = 2 ∨ p (114 + p (450 + l)) = 5) then gOw p l else 0) h0
    have bd := zT_bd (f := fun l => if (p (570 + l) = 0 ∧ p (90 + p (450 + l)) = v) ∧ (p (114 + p (450 + l)) = 2 ∨ p (114 + p (450 + l)) = 5) then gOw p l else 0) (lo := 0) (hi := 219997) h0 (fun i a b => by have := gOw_bd hA hN a (show i < p 3 by omega); (try dsimp only); split <;> omega)
    have bj : j < p 3 → 0 ≤ gOw p j ∧ gOw p j ≤ 219997 := gOw_bd hA hN h0
    have ow : gOw p j = if p (570 + j) = 0 then p (138 + p (450 + j)) + p (498 + j) - p (522 + j) else 0 := rfl
    have nj := hN.1 j h0
    unfold INl at nj
    have aj : j < p 3 → IAa p (p (450 + j)) := fun hh => hA.1 _ (by omega) (by omega)
    unfold IAa at aj
    have r := hR.2 j h0
    try dsimp only at hs
    apply r57_370_c4
    repeat' (first | (with_reducible assumption) | (with_reducible rfl) | (with_reducible apply And.intro) | (with_reducible apply zIn_mk) | (with_reducible apply zLn_mk) | ((with_reducible intro _); try (exfalso; omega)) | omega | (with_reducible exact Or.inr trivial) | (with_reducible exact Or.inl trivial) | ((refine c49_370 hR hB hA hN h0 (by omega) ?_; rw [if_pos (by omega)] at ow; rw [← ow])) | (with_reducible apply c1) | ((refine ih (by omega) _ ?_; rw [hs]; (first | rw [if_pos (by omega)] | rw [if_neg (by omega)]); omega)) | fail)
    · rw [hq, show j = p 3 by omega]; exact h
  exact key 0 (by omega) (by omega) 0 (by rw [zT_0 (by omega)])
theorem c52 {d : Nat} {l w : Int} {p : Int → Int} {x m : zM} {Q : Int → zM → zM → Prop} (hR : RNx x p) (hB : IB p) (hA : IA p) (hN : IN p) (l0 : 0 ≤ l) (l1 : l < p 3) (w0 : -1000 ≤ w) (w1 : w ≤ 1000) (h : Q (gDt p l w) x m) : WPc d 52 [zr 72, zi l, zi w] 403 [] x m 403 [] Q := by
  have hb := hB; unfold IB at hb
  have a := hN.1 l l0 l1
  unfold INl at a
  have b := hA.1 (p (450 + l)) (by omega) (by omega)
  have r := hR.2 l l0 l1
  have e1 : x 78 l = p (474 + l) := r.2.2.2.2.2.1
  have e2 : x 77 l = p (162 + p (450 + l)) := r.2.2.2.2.1
  have e3 : x 80 l = gEc p (p (450 + l)) (p (498 + l)) := r.2.2.2.2.2.2.2.1
  have e4 : x 76 l = p (138 + p (450 + l)) := r.2.2.2.1
  have e5 : x 79 l = p (498 + l) := r.2.2.2.2.2.2.1
  have b' := b
  unfold IAa at b'
  have bd := gDn_bd (n := w - p (474 + l)) b (show 0 ≤ p (498 + l) by omega)
  unfold gDt gDn at h
  unfold gDn at bd
  apply r52
  simp only [e1, e2, e3, e4, e5]
  repeat' (first | (with_reducible assumption) | (with_reducible rfl) | (with_reducible apply And.intro) | (with_reducible apply zIn_mk) | (with_reducible apply zLn_mk) | ((with_reducible intro _); try (exfalso; omega)) | omega | (with_reducible exact Or.inr trivial) | (with_reducible exact Or.inl trivial) | ((rw [if_pos (by omega)] at h; exact h)) | ((rw [if_neg (by omega), if_pos (by omega)] at h; exact h)) | ((rw [if_neg (by omega), if_neg (by omega)] at h; exact h)) | ((rw [if_neg (by omega), if_neg (by omega)] at bd; omega)) | fail)
theorem c51 {d : Nat} {l w : Int} {p : Int → Int} {x m : zM} {Q : Int → zM → zM → Prop} (hd : 1 ≤ d) (hR : RNx x p) (hB : IB p) (hA : IA p) (hN : IN p) (l0 : 0 ≤ l) (l1 : l < p 3) (w0 : -900 ≤ w) (w1 : w ≤ 1000) (h : Q (gDt p l w - gDt p l (w - 1)) x m) : WPc d 51 [zr 72, zi l, zi w] 403 [] x m 403 [] Q := by
  have b1 := gDt_bd (w := w) hA hN l0 l1
  have b2 := gDt_bd (w := w - 1) hA hN l0 l1
  apply r51
  repeat' (first | (with_reducible assumption) | (with_reducible rfl) | (with_reducible apply And.intro) | (with_reducible apply zIn_mk) | (with_reducible apply zLn_mk) | ((with_reducible intro _); try (exfalso; omega)) | omega | (with_reducible exact Or.inr trivial) | (with_reducible exact Or.inl trivial) | ((refine c52 hR hB hA hN l0 l1 (by omega) (by omega) ?_)) | fail)
theorem c53 {d : Nat} {l w : Int} {p : Int → Int} {x m : zM} {Q : Int → zM → zM → Prop} (hd : 1 ≤ d) (hR : RNx x p) (hB : IB p) (hA : IA p) (hN : IN p) (l0 : 0 ≤ l) (l1 : l < p 3) (w0 : -1000 ≤ w) (w1 : w ≤ 1000) (h1 : p (570 + l) = 0 → p (522 + l) < gDt p l w → Q 1 x m) (h0 : (p (570 + l) = 0 → gDt p l w ≤ p (522 + l)) → Q 0 x m) : WPc d 53 [zr 72, zi l, zi w] 403 [] x m 403 [] Q := by
  have hb := hB; unfold IB at hb
  have r := hR.2 l l0 l1
  apply r53
  repeat' (first | (with_reducible assumption) | (with_reducible rfl) | (with_reducible apply And.intro) | (with_reducible apply zIn_mk) | (with_reducible apply zLn_mk) | ((with_reducible intro _); try (exfalso; omega)) | omega | (with_reducible exact Or.inr trivial) | (with_reducible exact Or.inl trivial) | ((refine c52 hR hB hA hN l0 l1 (by omega) (by omega) ?_)) | ((with_reducible apply h1) <;> omega) | ((with_reducible apply h0) <;> omega) | fail)
theorem c54 {d : Nat} {v w : Int} {p : Int → Int} {x m : zM} {Q : Int → zM → zM → Prop} (hd : 1 ≤ d) (hR : RNx x p) (hB : IB p) (hA : IA p) (hN : IN p) (hw : w = p 0 - 1) (h : Q (gLo p v) x m) : WPc d 54 [zr 72, zi v, zi w] 403 [] x m 403 [] Q := by
  subst hw
  have hb := hB; unfold IB at hb
  have e0 : x 72 0 = p 3 := hR.1
  apply r54
  intro _ _
  have key : ∀ j, 0 ≤ j → j ≤ p 3 → ∀ q, q = zT (fun l => if (p (570 + l) = 0 ∧ p (90 + p (450 + l)) = v) ∧ p (570 + l) = 0 ∧ p (522 + l) < gDt p l (p 0 - 1) then 1 else 0) j → WP d 54 5 [(0, zr 72), (1, zi v), (2, zi (p 0 - 1)), (3, zi q), (4, zi j)] [] 403 [] x m 403 [] Q := by
    refine zdown _ _ ?_
    intro j h0 h1 ih q hq
    have hs := zT_s (f := fun l => if (p (570 + l) = 0 ∧ p (90 + p (450 + l)) = v) ∧ p (570 + l) = 0 ∧ p (522 + l) < gDt p l (p 0 - 1) then 1 else 0) h0
    have bd := zT_bd (f := fun l => if (p (570 + l) = 0 ∧ p (90 + p (450 + l)) = v) ∧ p (570 + l) = 0 ∧ p (522 + l) < gDt p l (p 0 - 1) then 1 else 0) (lo := 0) (hi := 1) h0 (fun i a b => by (try dsimp only); split <;> omega)
    try dsimp only at hs
    have r := hR.2 j h0
    apply r54_c5
    repeat' (first | (with_reducible assumption) | (with_reducible rfl) | (with_reducible apply And.intro) | (with_reducible apply zIn_mk) | (with_reducible apply zLn_mk) | ((with_reducible intro _); try (exfalso; omega)) | omega | (with_reducible exact Or.inr trivial) | (with_reducible exact Or.inl trivial) | ((refine c52 hR hB hA hN h0 (by omega) (by omega) (by omega) ?_)) | ((refine ih (by omega) _ ?_; rw [hs]; (first | rw [if_pos (by omega)] | rw [if_neg (by omega)]); omega)) | fail)
    · rw [hq, show j = p 3 by omega]; exact h
  exact key 0 (by omega) (by omega) 0 (by rw [zT_0 (by omega)])
/-- a loan of somebody's has failed -/
abbrev gFl (p : Int → Int) (v : Int) : Prop := ∃ l, 0 ≤ l ∧ l < p 3 ∧ p (90 + p (450 + l)) = v ∧ p (570 + l) = 2
theorem c55 {d : Nat} {v : Int} {p : Int → Int} {x m : zM} {Q : Int → zM → zM → Prop} (hR : RNx x p) (hB : IB p) (h1 : gFl p v → Q 1 x m) (h0 : ¬ gFl p v → Q 0 x m) : WPc d 55 [zr 72, zi v] 403 [] x m 403 [] Q := by
  have hb := hB; unfold IB at hb
  have e0 : x 72 0 = p 3 := hR.1
  apply r55
  intro _
  have key : ∀ j, 0 ≤ j → j ≤ p 3 → (∀ l, 0 ≤ l → l < j → ¬ (p (90 + p (450 + l)) = v ∧ p (570 + l) = 2)) → WP d 55 2 [(0, zr 72), (1, zi v), (2, zi j)] [] 403 [] x m 403 [] Q := by
    refine zdown _ _ ?_
    intro j h0' h1' ih hno
    have r := hR.2 j h0'
    have ihs : j < p 3 → ¬ (p (90 + p (450 + j)) = v ∧ p (570 + j) = 2) → WP d 55 2 [(0, zr 72), (1, zi v), (2, zi (j + 1))] [] 403 [] x m 403 [] Q := by
      intro hl hn
      refine ih hl ?_
      intro k k0 k1
      by_cases e : k = j
      · subst e; exact hn
      · exact hno k k0 (by omega)
    apply r55_c2
    repeat' (first | (with_reducible assumption) | (with_reducible rfl) | (with_reducible apply And.intro) | (with_reducible apply zIn_mk) | (with_reducible apply zLn_mk) | ((with_reducible intro _); try (exfalso; omega)) | omega | (with_reducible exact Or.inr trivial) | (with_reducible exact Or.inl trivial) | ((refine ihs (by omega) ?_; omega)) | ((refine h1 ⟨j, h0', by omega, by omega, by omega⟩)) | ((refine h0 ?_; rintro ⟨l, l0, l1, l2, l3⟩; exact hno l l0 (by omega) ⟨l2, l3⟩)) | fail)
  exact key 0 (by omega) (by omega) (fun k k0 k1 => by omega)
theorem c56 {d : Nat} {v : Int} {p : Int → Int} {x m : zM} {Q : Int → zM → zM → Prop} (hd : 1 ≤ d) (hR : RNx x p) (hB : IB p) (hA : IA p) (hN : IN p) (h : Q (gOws p v) x m) : WPc d 56 [zr 72, zi v] 403 [] x m 403 [] Q := by
  have hb := hB; unfold IB at hb
  have e0 : x 72 0 = p 3 := hR.1
  apply r56
  intro _
  have key : ∀ j, 0 ≤ j → j ≤ p 3 → ∀ q, q = zT (fun l => if p (570 + l) = 0 ∧ p (90 + p (450 + l)) = v then gOw p l else 0) j → WP d 56 4 [(0, zr 72), (1, zi v), (2, zi q), (3, zi j)] [] 403 [] x m 403 [] Q := by
    refine zdown _ _ ?_
    intro j h0 h1 ih q hq
    have hs := zT_s (f := fun l => if p (570 + l) = 0 ∧ p (90 + p (450 + l)) = v then gOw p l else 0) h0
    have bd := zT_bd (f := fun l => if p (570 + l) = 0 ∧ p (90 + p (450 + l)) = v then gOw p l else 0) (lo := 0) (hi := 219997) h0 (fun i a b => by have := gOw_bd hA hN a (show i < p 3 by omega); (try dsimp only); split <;> omega)
    have bj : j < p 3 → 0 ≤ gOw p j ∧ gOw p j ≤ 219997 := gOw_bd hA hN h0
    have ow : gOw p j = if p (570 + j) = 0 then p (138 + p (450 + j)) + p (498 + j) - p (522 + j) else 0 := rfl
    have r := hR.2 j h0
    try dsimp only at hs
    apply r56_c4
    repeat' (first | (with_reducible assumption) | (with_reducible rfl) | (with_reducible apply And.intro) | (with_reducible apply zIn_mk) | (with_reducible apply zLn_mk) | ((with_reducible intro _); try (exfalso; omega)) | omega | (with_reducible exact Or.inr trivial) | (with_reducible exact Or.inl trivial) | ((refine c49_72 hR hB hA hN h0 (by omega) ?_; rw [if_pos (by omega)] at ow; rw [← ow])) | ((refine ih (by omega) _ ?_; rw [hs]; (first | rw [if_pos (by omega)] | rw [if_neg (by omega)]); omega)) | fail)
    · rw [hq, show j = p 3 by omega]; exact h
  exact key 0 (by omega) (by omega) 0 (by rw [zT_0 (by omega)])
def gOpen (p : Int → Int) : Int := zT (fun l => if p (570 + l) = 0 then 1 else 0) (p 3)
theorem c58 {d : Nat} {p : Int → Int} {x m : zM} {Q : Int → zM → zM → Prop} (hR : RNx x p) (hB : IB p) (h : Q (gOpen p) x m) : WPc d 58 [zr 72] 403 [] x m 403 [] Q := by
  have hb := hB; unfold IB at hb
  have e0 : x 72 0 = p 3 := hR.1
  apply r58
  have key : ∀ j, 0 ≤ j → j ≤ p 3 → ∀ q, q = zT (fun l => if p (570 + l) = 0 then 1 else 0) j → WP d 58 4 [(0, zr 72), (1, zi q), (2, zi j)] [] 403 [] x m 403 [] Q := by
    refine zdown _ _ ?_
    intro j h0 h1 ih q hq
    have hs := zT_s (f := fun l => if p (570 + l) = 0 then 1 else 0) h0
    have bd := zT_bd (f := fun l => if p (570 + l) = 0 then 1 else 0) (lo := 0) (hi := 1) h0 (fun i a b => by (try dsimp only); split <;> omega)
    have r := hR.2 j h0
    try dsimp only at hs
    apply r58_c4
    repeat' (first | (with_reducible assumption) | (with_reducible rfl) | (with_reducible apply And.intro) | (with_reducible apply zIn_mk) | (with_reducible apply zLn_mk) | ((with_reducible intro _); try (exfalso; omega)) | omega | (with_reducible exact Or.inr trivial) | (with_reducible exact Or.inl trivial) | ((refine ih (by omega) _ ?_; rw [hs]; (first | rw [if_pos (by omega)] | rw [if_neg (by omega)]); omega)) | fail)
    · rw [hq, show j = p 3 by omega]; exact h
  exact key 0 (by omega) (by omega) 0 (by rw [zT_0 (by omega)])
def gOwAll (p : Int → Int) : Int := zT (fun l => gOw p l) (p 3)
theorem c59 {d : Nat} {p : Int → Int} {x m : zM} {Q : Int → zM → zM → Prop} (hd : 1 ≤ d) (hR : RNx x p) (hB : IB p) (hA : IA p) (hN : IN p) (h : Q (gOwAll p) x m) : WPc d 59 [zr 72] 403 [] x m 403 [] Q := by
  have hb := hB; unfold IB at hb
  have e0 : x 72 0 = p 3 := hR.1
  apply r59
  have key : ∀ j, 0 ≤ j → j ≤ p 3 → ∀ q, q = zT (fun l => gOw p l) j → WP d 59 4 [(0, zr 72), (1, zi q), (2, zi j)] [] 403 [] x m 403 [] Q := by
    refine zdown _ _ ?_
    intro j h0 h1 ih q hq
    have hs := zT_s (f := fun l => gOw p l) h0
    have bd := zT_bd (f := fun l => gOw p l) (lo := 0) (hi := 219997) h0 (fun i a b => gOw_bd hA hN a (show i < p 3 by omega))
    have bj : j < p 3 → 0 ≤ gOw p j ∧ gOw p j ≤ 219997 := gOw_bd hA hN h0
    have ow : gOw p j = if p (570 + j) = 0 then p (138 + p (450 + j)) + p (498 + j) - p (522 + j) else 0 := rfl
    have r := hR.2 j h0
    try dsimp only at hs
    apply r59_c4
    repeat' (first | (with_reducible assumption) | (with_reducible rfl) | (with_reducible apply And.intro) | (with_reducible apply zIn_mk) | (with_reducible apply zLn_mk) | ((with_reducible intro _); try (exfalso; omega)) | omega | (with_reducible exact Or.inr trivial) | (with_reducible exact Or.inl trivial) | ((refine c49_72 hR hB hA hN h0 (by omega) ?_; rw [if_pos (by omega)] at ow; rw [← ow])) | ((refine ih (by omega) _ ?_; rw [hs]; first | rw [if_neg (by omega)] at ow; omega | omega)) | fail)
    · rw [hq, show j = p 3 by omega]; exact h
  exact key 0 (by omega) (by omega) 0 (by rw [zT_0 (by omega)])
/-- what comes in of open loans in a week -/
def gIn (p : Int → Int) (w : Int) : Int := zT (fun l => if p (570 + l) = 0 then gDt p l w - gDt p l (w - 1) else 0) (p 3)
theorem gDt_in {p : Int → Int} {l w : Int} (hA : IA p) (hN : IN p) (h0 : 0 ≤ l) (h1 : l < p 3) : 0 ≤ gDt p l w - gDt p l (w - 1) ∧ gDt p l w - gDt p l (w - 1) ≤ 219997 := by
  have a := hN.1 l h0 h1
  unfold INl at a
  have b := hA.1 (p (450 + l)) (by omega) (by omega)
  have e := gDn_s (p := p) (i := p (498 + l)) (n := w - p (474 + l)) b
  have f := gDue_bd (p := p) (i := p (498 + l)) (n := w - p (474 + l)) b (by omega)
  rw [show w - p (474 + l) - 1 = w - 1 - p (474 + l) by omega] at e
  unfold IAa at b
  unfold gDt
  omega
theorem c60 {d : Nat} {w : Int} {p : Int → Int} {x m : zM} {Q : Int → zM → zM → Prop} (hd : 2 ≤ d) (hR : RNx x p) (hB : IB p) (hA : IA p) (hN : IN p) (w0 : 0 ≤ w) (w1 : w ≤ 1000) (h : Q (gIn p w) x m) : WPc d 60 [zr 72, zi w] 403 [] x m 403 [] Q := by
  have hb := hB; unfold IB at hb
  have e0 : x 72 0 = p 3 := hR.1
  apply r60
  intro _
  have key : ∀ j, 0 ≤ j → j ≤ p 3 → ∀ q, q = zT (fun l => if p (570 + l) = 0 then gDt p l w - gDt p l (w - 1) else 0) j → WP d 60 4 [(0, zr 72), (1, zi w), (2, zi q), (3, zi j)] [] 403 [] x m 403 [] Q := by
    refine zdown _ _ ?_
    intro j h0 h1 ih q hq
    have hs := zT_s (f := fun l => if p (570 + l) = 0 then gDt p l w - gDt p l (w - 1) else 0) h0
    have bd := zT_bd (f := fun l => if p (570 + l) = 0 then gDt p l w - gDt p l (w - 1) else 0) (lo := 0) (hi := 219997) h0 (fun i a b => by have := gDt_in (w := w) hA hN a (show i < p 3 by omega); (try dsimp only); split <;> omega)
    have bj := gDt_in (p := p) (w := w) hA hN h0
    have r := hR.2 j h0
    try dsimp only at hs
    apply r60_c4
    repeat' (first | (with_reducible assumption) | (with_reducible rfl) | (with_reducible apply And.intro) | (with_reducible apply zIn_mk) | (with_reducible apply zLn_mk) | ((with_reducible intro _); try (exfalso; omega)) | omega | (with_reducible exact Or.inr trivial) | (with_reducible exact Or.inl trivial) | ((refine c51 (by omega) hR hB hA hN h0 (by omega) (by omega) (by omega) ?_)) | ((refine ih (by omega) _ ?_; rw [hs]; (first | rw [if_pos (by omega)] | rw [if_neg (by omega)]); omega)) | fail)
    · rw [hq, show j = p 3 by omega]; exact h
  exact key 0 (by omega) (by omega) 0 (by rw [zT_0 (by omega)])
def gPl (p : Int → Int) (a : Int) : Int := zT (fun k => p (354 + 4 * a + k)) (p (234 + a))
theorem gPl_sum {p : Int → Int} {a j : Int} (hA : IA p) (a0 : 0 ≤ a) (a1 : a < p 2) (h0 : 0 ≤ j) (h1 : j ≤ p (234 + a)) : 0 ≤ zT (fun k => p (354 + 4 * a + k)) j ∧ zT (fun k => p (354 + 4 * a + k)) j ≤ 99999 * j := by
  have := zT_bd (f := fun k => p (354 + 4 * a + k)) (lo := 0) (hi := 99999) h0 (fun i b c => by have := hA.2 a i a0 a1 b (by omega); unfold IAb at this; (try dsimp only); omega)
  omega
theorem c5 {d : Nat} {a : Int} {p : Int → Int} {x m : zM} {Q : Int → zM → zM → Prop} (hR : RAx x p) (hB : IB p) (hA : IA p) (a0 : 0 ≤ a) (a1 : a < p 2) (h : Q (gPl p a) x m) : WPc d 5 [zr 14, zi a] 403 [] x m 403 [] Q := by
  have hb := hB; unfold IB at hb
  have ha := hA.1 a a0 a1
  unfold IAa at ha
  have ra := hR.2.1 a a0 a1
  apply r5
  intro _
  have key : ∀ j, 0 ≤ j → j ≤ p (234 + a) → ∀ q, q = zT (fun k => p (354 + 4 * a + k)) j → WP d 5 4 [(0, zr 14), (1, zi a), (2, zi q), (3, zi j)] [] 403 [] x m 403 [] Q := by
    refine zdown _ _ ?_
    intro j h0 h1 ih q hq
    have hs := zT_s (f := fun k => p (354 + 4 * a + k)) h0
    have bd := gPl_sum hA a0 a1 h0 h1
    have bj := hA.2 a j a0 a1 h0
    unfold IAb at bj
    have r := hR.2.2 a j a0 a1 h0
    try dsimp only at hs
    apply r5_c4
    repeat' (first | (with_reducible assumption) | (with_reducible rfl) | (with_reducible apply And.intro) | (with_reducible apply zIn_mk) | (with_reducible apply zLn_mk) | ((with_reducible intro _); try (exfalso; omega)) | omega | (with_reducible exact Or.inr trivial) | (with_reducible exact Or.inl trivial) | ((refine ih (by omega) _ ?_; rw [hs]; omega)) | fail)
    · rw [hq, show j = p (234 + a) by omega]; exact h
  exact key 0 (by omega) (by omega) 0 (by rw [zT_0 (by omega)])
abbrev gHasB (p : Int → Int) (a v : Int) : Prop := ∃ k, 0 ≤ k ∧ k < p (234 + a) ∧ p (258 + 4 * a + k) = v
theorem c4 {d : Nat} {a v : Int} {p : Int → Int} {x m : zM} {Q : Int → zM → zM → Prop} (hR : RAx x p) (hB : IB p) (hA : IA p) (a0 : 0 ≤ a) (a1 : a < p 2) (h1 : gHasB p a v → Q 1 x m) (h0 : ¬ gHasB p a v → Q 0 x m) : WPc d 4 [zr 14, zi a, zi v] 403 [] x m 403 [] Q := by
  have hb := hB; unfold IB at hb
  have ha := hA.1 a a0 a1
  unfold IAa at ha
  have ra := hR.2.1 a a0 a1
  apply r4
  intro _ _
  have key : ∀ j, 0 ≤ j → j ≤ p (234 + a) → (∀ k, 0 ≤ k → k < j → p (258 + 4 * a + k) ≠ v) → WP d 4 2 [(0, zr 14), (1, zi a), (2, zi v), (3, zi j)] [] 403 [] x m 403 [] Q := by
    refine zdown _ _ ?_
    intro j h0' h1' ih hno
    have r := hR.2.2 a j a0 a1 h0'
    apply r4_c2
    repeat' (first | (with_reducible assumption) | (with_reducible rfl) | (with_reducible apply And.intro) | (with_reducible apply zIn_mk) | (with_reducible apply zLn_mk) | ((with_reducible intro _); try (exfalso; omega)) | omega | (with_reducible exact Or.inr trivial) | (with_reducible exact Or.inl trivial) | ((refine ih (by omega) ?_; intro k k0 k1; exact (if e : k = j then (by rw [e]; omega) else hno k k0 (by omega)))) | ((refine h1 ⟨j, h0', by omega, by omega⟩)) | ((refine h0 ?_; rintro ⟨l, l0, l1, l2⟩; exact hno l l0 (by omega) l2)) | fail)
  exact key 0 (by omega) (by omega) (fun k k0 k1 => by omega)
