/-! WHAT AN ASK WOULD BE ANSWERED NOW: both sides -/
def gFlN (p : Int → Int) (v : Int) : Int := zT (fun l => if p (90 + p (450 + l)) = v ∧ p (570 + l) = 2 then 1 else 0) (p 3)
theorem gFlN_p {p : Int → Int} {v l : Int} (l0 : 0 ≤ l) (l1 : l < p 3) (h : p (90 + p (450 + l)) = v) (h2 : p (570 + l) = 2) : 0 < gFlN p v := zT_pos (fun j _ _ => by split <;> omega) l0 l1 (by rw [if_pos ⟨h, h2⟩]; omega)
theorem gLo_p {p : Int → Int} {v l : Int} (l0 : 0 ≤ l) (l1 : l < p 3) (h : p (90 + p (450 + l)) = v) (h2 : p (570 + l) = 0) (h3 : p (522 + l) < gDt p l (p 0 - 1)) : 0 < gLo p v := zT_pos (fun j _ _ => by split <;> omega) l0 l1 (by rw [if_pos ⟨⟨h2, h⟩, h2, h3⟩]; omega)
theorem gFlN_z {p : Int → Int} {v n : Int} (h : ∀ l, 0 ≤ l → l < n → ¬ (p (90 + p (450 + l)) = v ∧ p (570 + l) = 2)) : zT (fun l => if p (90 + p (450 + l)) = v ∧ p (570 + l) = 2 then 1 else 0) n = 0 := zT_zero (fun j a b => by rw [if_neg (h j a b)])
theorem c55' {d : Nat} {v : Int} {p : Int → Int} {x m : zM} {Q : Int → zM → zM → Prop} (hR : RNx x p) (hB : IB p) (h1 : 0 < gFlN p v → Q 1 x m) (h0 : gFlN p v ≤ 0 → Q 0 x m) : WPc d 55 [zr 72, zi v] 403 [] x m 403 [] Q := by
  refine c55 hR hB ?_ ?_
  · rintro ⟨l, l0, l1, l2, l3⟩; exact h1 (gFlN_p l0 l1 l2 l3)
  · intro hn; refine h0 ?_; unfold gFlN; rw [gFlN_z (fun l l0 l1 c => hn ⟨l, l0, l1, c.1, c.2⟩)]; omega
def gAns (p : Int → Int) (a : Int) : Int := if p (58 + p (90 + a)) ≠ -1 ∨ gTell p 0 (100 + a) = 0 then 1 else if gLim p a < p (138 + a) then 2 else if 0 < gFlN p (p (90 + a)) ∨ 0 < gLo p (p (90 + a)) then 3 else if (p (114 + a) = 3 ∨ p (114 + a) = 4) ∧ ¬ (p (138 + a) ≤ gPl p a ∧ gBad p a ≤ 0) then 4 else if p 6161 < p (138 + a) then 5 else 0
theorem gAns_bd (p : Int → Int) (a : Int) : 0 ≤ gAns p a ∧ gAns p a ≤ 5 := by unfold gAns; repeat (split; omega); omega
theorem s204 {d : Nat} {a : Int} {p : Int → Int} {x m : zM} {Q : Int → zM → zM → Prop} (hp : m 387 = p) (hB : IB p) (hA : IA p) (a0 : 0 ≤ a) (a1 : a < p 2) (h : Q (gPl p a) x m) : WPc d 204 [zr 386, zi a] 403 [] x m 403 [] Q := by
  have hb := hB; unfold IB at hb
  have ha := hA.1 a a0 a1
  unfold IAa at ha
  apply r204
  intro _
  have key : ∀ j, 0 ≤ j → j ≤ p (234 + a) → ∀ q, q = zT (fun k => p (354 + 4 * a + k)) j → WP d 204 4 [(0, zr 386), (1, zi a), (2, zi q), (3, zi j)] [] 403 [] x m 403 [] Q := by
    refine zdown _ _ ?_
    intro j h0 h1 ih q hq
    have hs := zT_s (f := fun k => p (354 + 4 * a + k)) h0
    have bd := gPl_sum hA a0 a1 h0 h1
    have bj := hA.2 a j a0 a1 h0
    unfold IAb at bj
    try dsimp only at hs
    apply r204_c4
    simp only [hp]
    repeat' (first | (with_reducible assumption) | (with_reducible rfl) | (with_reducible apply And.intro) | (with_reducible apply zIn_mk) | (with_reducible apply zLn_mk) | ((with_reducible intro _); try (exfalso; omega)) | omega | (with_reducible exact Or.inr trivial) | (with_reducible exact Or.inl trivial) | ((refine ih (by omega) _ ?_; rw [hs]; omega)) | fail)
    · rw [hq, show j = p (234 + a) by omega]; exact h
  exact key 0 (by omega) (by omega) 0 (by rw [zT_0 (by omega)])
theorem s207 {d : Nat} {v : Int} {p : Int → Int} {x m : zM} {Q : Int → zM → zM → Prop} (hd : 5 ≤ d) (hp : m 387 = p) (hB : IB p) (hA : IA p) (hN : IN p) (h1 : (0 < gFlN p v ∨ 0 < gLo p v) → Q 1 x m) (h0 : gFlN p v ≤ 0 → gLo p v ≤ 0 → Q 0 x m) : WPc d 207 [zr 386, zi v] 403 [] x m 403 [] Q := by
  have hb := hB; unfold IB at hb
  apply r207
  intro _
  have key : ∀ j, 0 ≤ j → j ≤ p 3 → (∀ l, 0 ≤ l → l < j → ¬ (p (90 + p (450 + l)) = v ∧ (p (570 + l) = 2 ∨ (p (570 + l) = 0 ∧ p (522 + l) < gDt p l (p 0 - 1))))) → WP d 207 2 [(0, zr 386), (1, zi v), (2, zi j)] [] 403 [] x m 403 [] Q := by
    refine zdown _ _ ?_
    intro j h0' h1' ih hno
    have nj := hN.1 j h0'
    unfold INl at nj
    have ihs : j < p 3 → ¬ (p (90 + p (450 + j)) = v ∧ (p (570 + j) = 2 ∨ (p (570 + j) = 0 ∧ p (522 + j) < gDt p j (p 0 - 1)))) → WP d 207 2 [(0, zr 386), (1, zi v), (2, zi (j + 1))] [] 403 [] x m 403 [] Q := by
      intro hl hn
      refine ih hl ?_
      intro k k0 k1
      by_cases e : k = j
      · subst e; exact hn
      · exact hno k k0 (by omega)
    apply r207_c2
    simp only [hp]
    repeat' (first | (with_reducible assumption) | (with_reducible rfl) | (with_reducible apply And.intro) | (with_reducible apply zIn_mk) | (with_reducible apply zLn_mk) | ((with_reducible intro _); try (exfalso; omega)) | omega | (with_reducible exact Or.inr trivial) | (with_reducible exact Or.inl trivial) | ((refine ihs (by omega) ?_; omega)) | ((refine s197 hp hB hA hN ?_ ?_ ?_ ?_ ?_ ?_)) | (with_reducible apply s197) | ((refine h1 (Or.inl (gFlN_p h0' (by omega) (by omega) (by omega))))) | ((refine h1 (Or.inr (gLo_p h0' (by omega) (by omega) (by omega) (by omega))))) | ((refine h0 (by unfold gFlN; rw [gFlN_z (fun l l0 l1 c => hno l l0 (by omega) ⟨c.1, Or.inl c.2⟩)]; omega) (by unfold gLo; rw [zT_zero (fun l l0 l1 => if_neg (fun c => hno l l0 (by omega) ⟨c.1.2, Or.inr c.2⟩))]; omega))) | fail)
  exact key 0 (by omega) (by omega) (fun k k0 k1 => by omega)
theorem s208 {d : Nat} {a : Int} {p : Int → Int} {x m : zM} {Q : Int → zM → zM → Prop} (hd : 2 ≤ d) (hp : m 387 = p) (hB : IB p) (hA : IA p) (a0 : 0 ≤ a) (a1 : a < p 2) (h1 : p (138 + a) ≤ gPl p a → gBad p a ≤ 0 → Q 1 x m) (h0 : (gPl p a < p (138 + a) ∨ 0 < gBad p a) → Q 0 x m) : WPc d 208 [zr 386, zi a] 403 [] x m 403 [] Q := by
  have hb := hB; unfold IB at hb
  have ha := hA.1 a a0 a1
  unfold IAa at ha
  have bad : 0 ≤ gBad p a := by
    have := (zT_bd (f := fun k => if gSv p (p (258 + 4 * a + k)) 400 400 < p (354 + 4 * a + k) then 1 else 0) (lo := 0) (hi := 1) (n := p (234 + a)) (by omega) (fun j _ _ => by (try dsimp only); split <;> omega)).1
    unfold gBad; omega
  have loop : ∀ j, 0 ≤ j → j ≤ p (234 + a) → ∀ g, (g = 1 → p (138 + a) ≤ gPl p a ∧ (∀ k, 0 ≤ k → k < j → p (354 + 4 * a + k) ≤ gSv p (p (258 + 4 * a + k)) 400 400)) → (g = 0 → gPl p a < p (138 + a) ∨ 0 < gBad p a) → (g = 0 ∨ g = 1) → WP d 208 26 [(0, zr 386), (1, zi a), (2, zi g), (3, zi j)] [] 403 [] x m 403 [] Q := by
    refine zdown _ _ ?_
    intro j h0' h1' ih g hg1 hg0 hg
    have bj := hA.2 a j a0 a1 h0'
    unfold IAb at bj
    have hbp : j < p (234 + a) → gSv p (p (258 + 4 * a + j)) 400 400 < p (354 + 4 * a + j) → 0 < gBad p a := fun c e => gBad_p h0' c e
    have hb0 : g = 1 → p (234 + a) ≤ j → gBad p a ≤ 0 := fun e c => by unfold gBad; rw [gBad_z (fun k k0 k1 => (hg1 e).2 k k0 (by omega))]; omega
    have hg1' : g = 1 → p (138 + a) ≤ gPl p a := fun e => (hg1 e).1
    apply r208_c26
    simp only [hp]
    repeat' (first | (with_reducible assumption) | (with_reducible rfl) | (with_reducible apply And.intro) | (with_reducible apply zIn_mk) | (with_reducible apply zLn_mk) | (simp only [hp]) | ((with_reducible intro _); try (exfalso; omega)) | omega | (with_reducible exact Or.inr trivial) | (with_reducible exact Or.inl trivial) | (with_reducible apply s181) | ((refine ih (by omega) _ (fun e => by omega) (fun _ => by omega) (Or.inl rfl))) | ((refine ih (by omega) _ (fun _ => ⟨by omega, fun k k0 k1 => (if e : k = j then (by rw [e]; omega) else (hg1 (by omega)).2 k k0 (by omega))⟩) (fun e => by omega) (Or.inr rfl))) | ((rw [show g = 1 by omega]; exact h1 (by omega) (hb0 (by omega) (by omega)))) | ((rw [show g = 0 by omega]; exact h0 (hg0 (by omega)))) | fail)
    · rcases hg with e | e
      · rw [e]; exact h0 (hg0 e)
      · rw [e]; exact h1 (hg1' e) (hb0 e (by omega))
  apply r208
  repeat' (first | (with_reducible assumption) | (with_reducible rfl) | (with_reducible apply And.intro) | (with_reducible apply zIn_mk) | (with_reducible apply zLn_mk) | (simp only [hp]) | ((with_reducible intro _); try (exfalso; omega)) | omega | (with_reducible exact Or.inr trivial) | (with_reducible exact Or.inl trivial) | ((refine s204 (p := p) hp hB hA a0 a1 ?_; simp only [hp])) | ((exact loop 0 (by omega) (by omega) _ (fun e => by omega) (fun _ => by omega) (Or.inl rfl))) | ((exact loop 0 (by omega) (by omega) _ (fun _ => ⟨by omega, fun k k0 k1 => by omega⟩) (fun e => by omega) (Or.inr rfl))) | fail)
theorem s205 {d : Nat} {a : Int} {p : Int → Int} {x m : zM} {Q : Int → zM → zM → Prop} (hd : 9 ≤ d) (hp : m 387 = p) (hI : IX p) (a0 : 0 ≤ a) (a1 : a < p 2) (h : ∀ m', zSame m m' → m' 387 = p → Q (gLim p a) x m') : WPc d 205 [zr 386, zi a] 403 [] x m 403 [] Q := by
  have hb := hI.1; unfold IB at hb
  have ha := hI.2.1.1 a a0 a1
  unfold IAa at ha
  unfold gLim gLm at h
  apply r205
  simp only [hp]
  repeat' (first | (with_reducible assumption) | (with_reducible rfl) | (with_reducible apply And.intro) | (with_reducible apply zIn_mk) | (with_reducible apply zLn_mk) | (simp only [hp]) | ((with_reducible intro _); try (exfalso; omega)) | omega | (with_reducible exact Or.inr trivial) | (with_reducible exact Or.inl trivial) | ((refine s181 (p := p) hp (by omega) hI.1 ?_; simp only [hp])) | ((refine s193 (p := p) hp (by omega) hI.1 hI.2.1 hI.2.2.1 ?_)) | ((refine s235 (p := p) ?_ hp hI.1 hI.2.1 hI.2.2.1 hI.2.2.2 ?_ ?_; omega; unfold gWho; omega; intro mB hB hpB hsB; simp only [hsB])) | ((have hh := h mB hB hpB; (repeat (first | rw [if_pos (by omega)] at hh | rw [if_neg (by omega)] at hh)); exact hh)) | fail)
theorem s206 {d : Nat} {a : Int} {p : Int → Int} {x m : zM} {Q : Int → zM → zM → Prop} (hd : 9 ≤ d) (hp : m 387 = p) (hI : IX p) (a0 : 0 ≤ a) (a1 : a < p 2) (h : ∀ m', zSame m m' → m' 387 = p → Q (gInt p a) x m') : WPc d 206 [zr 386, zi a] 403 [] x m 403 [] Q := by
  have hb := hI.1; unfold IB at hb
  have ha := hI.2.1.1 a a0 a1
  have m2 := gPn_bd ha (gCl_bd (gTell p 2 (100 + a))).1 (gCl_bd (gTell p 2 (100 + a))).2
  unfold IAa at ha
  unfold gInt gPn gCl at h
  unfold gCl at m2
  apply r206
  simp only [hp]
  repeat' (first | (with_reducible assumption) | (with_reducible rfl) | (with_reducible apply And.intro) | (with_reducible apply zIn_mk) | (with_reducible apply zLn_mk) | ((with_reducible intro _); try (exfalso; omega)) | omega | (with_reducible exact Or.inr trivial) | (with_reducible exact Or.inl trivial) | ((refine s235 (p := p) ?_ hp hI.1 hI.2.1 hI.2.2.1 hI.2.2.2 ?_ ?_; omega; unfold gWho; omega; intro mB hB hpB hsB; simp only [hsB, hpB])) | (with_reducible apply s188) | ((have hh := h mB hB hpB; (repeat (first | rw [if_pos (by omega)] at hh | rw [if_neg (by omega)] at hh)); exact hh)) | (((repeat (first | rw [if_pos (show gTell p 2 (100 + a) < 0 by omega)] at m2 | rw [if_neg (show ¬ gTell p 2 (100 + a) < 0 by omega)] at m2 | rw [if_pos (show 100 < gTell p 2 (100 + a) by omega)] at m2 | rw [if_neg (show ¬ 100 < gTell p 2 (100 + a) by omega)] at m2)); omega)) | fail)
theorem s209 {d : Nat} {a : Int} {p : Int → Int} {x m : zM} {Q : Int → zM → zM → Prop} (hd : 10 ≤ d) (hp : m 387 = p) (hI : IX p) (a0 : 0 ≤ a) (a1 : a < p 2) (h : ∀ m', zSame m m' → m' 387 = p → Q (gAns p a) x m') : WPc d 209 [zr 386, zi a] 403 [] x m 403 [] Q := by
  have hb := hI.1; unfold IB at hb
  have ha := hI.2.1.1 a a0 a1
  unfold IAa at ha
  unfold gAns at h
  apply r209
  repeat' (first | (with_reducible assumption) | (with_reducible rfl) | (with_reducible apply And.intro) | (with_reducible apply zIn_mk) | (with_reducible apply zLn_mk) | (simp only [hpC]) | (simp only [hpB]) | ((with_reducible intro _); try (exfalso; omega)) | omega | (with_reducible exact Or.inr trivial) | (with_reducible exact Or.inl trivial) | ((refine s235 (p := p) ?_ hp hI.1 hI.2.1 hI.2.2.1 hI.2.2.2 ?_ ?_; omega; unfold gWho; omega; intro mB hB hpB hsB; simp only [hsB, hpB])) | ((refine s205 (p := p) ?_ hpB hI a0 a1 ?_; omega; intro mC hC hpC; replace hB := hB.tr hC; simp only [hpC])) | ((refine s207 (p := p) ?_ hpC hI.1 hI.2.1 hI.2.2.1 ?_ ?_)) | ((refine s208 (p := p) ?_ hpC hI.1 hI.2.1 a0 a1 ?_ ?_)) | (with_reducible apply s189) | (simp only [hpC]) | ((have hh := h mC hB hpC; (repeat (first | rw [if_pos (by omega)] at hh | rw [if_neg (by omega)] at hh)); exact hh)) | ((have hh := h mB hB hpB; (repeat (first | rw [if_pos (by omega)] at hh | rw [if_neg (by omega)] at hh)); exact hh)) | fail)
