/-! WHAT AN ASK WOULD BE ANSWERED NOW, in the class; dormant ones -/
theorem c1_3 {d : Nat} {k : Int} {x m : zM} {Q : Int → zM → zM → Prop} (k0 : 0 ≤ k) (k1 : k ≤ 5) (h1 : (k = 3 ∨ k = 4) → Q 1 x m) (h0 : k ≠ 3 → k ≠ 4 → Q 0 x m) : WPc d 1 [zi k, zi 3] 403 [] x m 403 [] Q :=
  c1 k0 k1 (fun c => h1 (by omega)) (fun c => h0 (by omega) (by omega))
theorem c41 {d : Nat} {a : Int} {p : Int → Int} {x m : zM} {Q : Int → zM → zM → Prop} (hd : 6 ≤ d) (hX : RX x p) (hI : IX p) (a0 : 0 ≤ a) (a1 : a < p 2) (h : ∀ x', zSx x x' → Q (gAns p a) x' m) : WPc d 41 [zr 330, zi a] 403 [] x m 403 [] Q := by
  have hb := hI.1; unfold IB at hb
  have ha := hI.2.1.1 a a0 a1
  unfold IAa at ha
  have ra := hX.2.2.1.2.1 a a0 a1
  have em : x 15 a = p (90 + a) := ra.1
  have ek : x 16 a = p (114 + a) := ra.2.1
  have es : x 17 a = p (138 + a) := ra.2.2.1
  have e5 : x 5 (p (90 + a)) = p (58 + p (90 + a)) := (hX.1.2.2 (p (90 + a)) (by omega) (by omega)).2.2.2.1
  have e7 : x 7 7 = p 6161 := hX.2.1.2.2.2.1
  have eT0 : gTn p 0 (gNm p (100 + a)) = gTell p 0 (100 + a) := rfl
  have eT1 : gLm p a (gTn p 1 (gNm p (100 + a))) = gLim p a := rfl
  have e5n : gNm p (100 + a) 5 = gLo p (p (90 + a)) := by
    rw [gNm_ask a0 (by omega) (by omega) (by omega) (by omega) (by omega) (by omega)]
    simp only [gNm, reduceIte, Int.reduceEq]
    rw [if_neg (by omega), if_pos (by omega)]
  unfold gAns at h
  apply r41
  repeat' (first | (with_reducible assumption) | (with_reducible rfl) | (with_reducible apply And.intro) | (with_reducible apply zIn_mk) | (with_reducible apply zLn_mk) | (simp only [em, ek, es, e5, e7, hB 5 rfl, hB 7 rfl, hB 16 rfl]) | ((with_reducible intro _); try (exfalso; omega)) | omega | (with_reducible exact Or.inr trivial) | (with_reducible exact Or.inl trivial) | ((refine c34 (p := p) (by omega) hX hI a0 a1 ?_; intro xB hB hnB)) | ((refine c36 (p := p) (nm := gNm p (100 + a)) (by omega) (RX_s hB hX) hI (by omega) (by omega) hnB ?_; intro xC hC; replace hnB : ∀ k, 0 ≤ k → k < 10 → xC 331 k = gNm p (100 + a) k := (by rw [hC 331 (by decide)]; exact hnB); replace hB := hB.o (k0 := 107) rfl hC; have hl := hnB 5 (by decide) (by decide); rw [e5n] at hl; try rw [eT0])) | ((refine c39 (p := p) (by omega) (RX_s hB hX) hI a0 a1 ?_; rw [eT1])) | ((refine c55' (p := p) (RNx_s hB hX.2.2.2.1) hI.1 ?_ ?_)) | ((refine c42 (p := p) (by omega) (RX_s hB hX) hI a0 a1 ?_ ?_)) | ((refine c1_3 (by omega) (by omega) ?_ ?_)) | ((have hh := h _ hB; (repeat (first | rw [if_pos (by omega)] at hh | rw [if_neg (by omega)] at hh)); exact hh)) | fail)
/-- who is dormant now -/
abbrev gDo (p : Int → Int) (v : Int) : Prop := p (58 + v) = -1 ∧ 0 < gTell p 5 v ∧ gTell p 5 v ≤ p 0 - p (74 + v)
theorem c44 {d : Nat} {v : Int} {p : Int → Int} {x m : zM} {Q : Int → zM → zM → Prop} (hd : 6 ≤ d) (hX : RX x p) (hI : IX p) (hM : IM p) (v0 : 0 ≤ v) (v1 : v < p 1) (h : ∀ x', zSx x x' → Q (if gDo p v then 1 else 0) x' m) : WPc d 44 [zr 330, zi v] 403 [] x m 403 [] Q := by
  have hb := hI.1; unfold IB at hb
  have hm := hM.1 v v0 v1
  have r := hX.1.2.2 v v0 v1
  have e5 : x 5 v = p (58 + v) := r.2.2.2.1
  have e6 : x 6 v = p (74 + v) := r.2.2.2.2
  have e1 : x 1 0 = p 0 := hX.1.1
  have eT : gTn p 5 (gNm p v) = gTell p 5 v := rfl
  dsimp only [gDo] at h
  apply r44
  repeat' (first | (with_reducible assumption) | (with_reducible rfl) | (with_reducible apply And.intro) | (with_reducible apply zIn_mk) | (with_reducible apply zLn_mk) | (simp only [e5, e6, e1, hB 1 rfl, hB 6 rfl]) | ((with_reducible intro _); try (exfalso; omega)) | omega | (with_reducible exact Or.inr trivial) | (with_reducible exact Or.inl trivial) | ((refine c33 (p := p) (by omega) hX hI (by omega) ?_; intro xB hB hnB)) | ((refine c36 (p := p) (nm := gNm p v) (by omega) (RX_s hB hX) hI (by omega) (by omega) hnB ?_; intro xC hC; replace hB := hB.o (k0 := 107) rfl hC; try rw [eT])) | ((have hh := h _ hB; (repeat (first | rw [if_pos (by omega)] at hh | rw [if_neg (by omega)] at hh)); exact hh)) | ((have hh := h _ (zSx.rf x); (repeat (first | rw [if_pos (by omega)] at hh | rw [if_neg (by omega)] at hh)); exact hh)) | fail)
def gDos (p : Int → Int) : Int := zT (fun v => if gDo p v then 1 else 0) (p 1)
theorem c45 {d : Nat} {p : Int → Int} {x m : zM} {Q : Int → zM → zM → Prop} (hd : 7 ≤ d) (hX : RX x p) (hI : IX p) (hM : IM p) (h : ∀ x', zSx x x' → Q (gDos p) x' m) : WPc d 45 [zr 330] 403 [] x m 403 [] Q := by
  have hb := hI.1; unfold IB at hb
  have e1 : x 1 1 = p 1 := hX.1.2.1
  apply r45
  have loop : ∀ j, 0 ≤ j → j ≤ p 1 → ∀ q, q = zT (fun v => if gDo p v then 1 else 0) j → ∀ x', zSx x x' → WP d 45 4 [(0, zr 330), (1, zi q), (2, zi j)] [] 403 [] x' m 403 [] Q := by
    refine zdown _ _ ?_
    intro j h0 h1 ih q hq xA hA
    have hs := zT_s (f := fun v => if gDo p v then 1 else 0) h0
    have bd := zT_bd (f := fun v => if gDo p v then 1 else 0) (lo := 0) (hi := 1) h0 (fun i a b => by (try dsimp only); split <;> omega)
    try dsimp only at hs
    apply r45_c4
    simp only [hA 1 rfl, e1]
    by_cases c : gDo p j
    · rw [if_pos c] at hs
      repeat' (first | (with_reducible assumption) | (with_reducible rfl) | (with_reducible apply And.intro) | (with_reducible apply zIn_mk) | (with_reducible apply zLn_mk) | ((with_reducible intro _); try (exfalso; omega)) | omega | (with_reducible exact Or.inr trivial) | (with_reducible exact Or.inl trivial) | ((refine c44 (p := p) (by omega) (RX_s hA hX) hI hM h0 (by omega) ?_; rw [if_pos c]; intro xB hB; replace hA := hA.tr hB)) | ((refine ih (by omega) _ (by omega) _ hA)) | ((rw [show q = gDos p by rw [hq, show j = p 1 by omega]; rfl]; exact h _ hA)) | fail)
    · rw [if_neg c] at hs
      repeat' (first | (with_reducible assumption) | (with_reducible rfl) | (with_reducible apply And.intro) | (with_reducible apply zIn_mk) | (with_reducible apply zLn_mk) | ((with_reducible intro _); try (exfalso; omega)) | omega | (with_reducible exact Or.inr trivial) | (with_reducible exact Or.inl trivial) | ((refine c44 (p := p) (by omega) (RX_s hA hX) hI hM h0 (by omega) ?_; rw [if_neg c]; intro xB hB; replace hA := hA.tr hB)) | ((refine ih (by omega) _ (by omega) _ hA)) | ((rw [show q = gDos p by rw [hq, show j = p 1 by omega]; rfl]; exact h _ hA)) | fail)
  exact loop 0 (by omega) (by omega) 0 (by rw [zT_0 (by omega)]) x (zSx.rf x)
theorem s199 {d : Nat} {v : Int} {p : Int → Int} {x m : zM} {Q : Int → zM → zM → Prop} (hd : 9 ≤ d) (hp : m 387 = p) (hI : IX p) (hM : IM p) (v0 : 0 ≤ v) (v1 : v < p 1) (h : ∀ m', zSame m m' → m' 387 = p → Q (if gDo p v then 1 else 0) x m') : WPc d 199 [zr 386, zi v] 403 [] x m 403 [] Q := by
  have hb := hI.1; unfold IB at hb
  have hm := hM.1 v v0 v1
  dsimp only [gDo] at h
  apply r199
  repeat' (first | (with_reducible assumption) | (with_reducible rfl) | (with_reducible apply And.intro) | (with_reducible apply zIn_mk) | (with_reducible apply zLn_mk) | (simp only [hpB, hsB]) | ((with_reducible intro _); try (exfalso; omega)) | omega | (with_reducible exact Or.inr trivial) | (with_reducible exact Or.inl trivial) | ((refine s235 (p := p) ?_ hp hI.1 hI.2.1 hI.2.2.1 hI.2.2.2 ?_ ?_; omega; unfold gWho; omega; intro mB hB hpB hsB)) | ((have hh := h _ hB hpB; (repeat (first | rw [if_pos (by omega)] at hh | rw [if_neg (by omega)] at hh)); exact hh)) | fail)
/-- entries behind a death -/
def gLE (p : Int → Int) (v : Int) : Int := if p (58 + v) = -1 then 0 else gBh p v (p (58 + v))
theorem c104 {d : Nat} {v : Int} {p : Int → Int} {x m : zM} {Q : Int → zM → zM → Prop} (hd : 1 ≤ d) (hX : RX x p) (hB : IB p) (v0 : 0 ≤ v) (v1 : v < p 1) (h : Q (gLE p v) x m) : WPc d 104 [zr 1, zi v] 403 [] x m 403 [] Q := by
  have hb := hB; unfold IB at hb
  have e5 : x 5 v = p (58 + v) := (hX.1.2.2 v v0 v1).2.2.2.1
  unfold gLE at h
  apply r104
  simp only [e5]
  repeat' (first | (with_reducible assumption) | (with_reducible rfl) | (with_reducible apply And.intro) | (with_reducible apply zIn_mk) | (with_reducible apply zLn_mk) | ((with_reducible intro _); try (exfalso; omega)) | omega | (with_reducible exact Or.inr trivial) | (with_reducible exact Or.inl trivial) | ((refine c28 (p := p) hX.2.1 hB ?_)) | (((repeat (first | rw [if_pos (by omega)] at h | rw [if_neg (by omega)] at h)); exact h)) | fail)
theorem s200 {d : Nat} {v : Int} {p : Int → Int} {x m : zM} {Q : Int → zM → zM → Prop} (hp : m 387 = p) (hB : IB p) (v0 : 0 ≤ v) (v1 : v < p 1) (h : Q (gLE p v) x m) : WPc d 200 [zr 386, zi v] 403 [] x m 403 [] Q := by
  have hb := hB; unfold IB at hb
  apply r200
  intro _
  have key : ∀ j, 0 ≤ j → j ≤ p 4 → ∀ q, q = zT (fun k => if p (690 + k) = v ∧ p (58 + v) < p (1390 + k) then 1 else 0) j → (p (58 + v) = -1 → j = 0) → WP d 200 4 [(0, zr 386), (1, zi v), (2, zi q), (3, zi j)] [] 403 [] x m 403 [] Q := by
    refine zdown _ _ ?_
    intro j h0 h1 ih q hq hz
    have hs := zT_s (f := fun k => if p (690 + k) = v ∧ p (58 + v) < p (1390 + k) then 1 else 0) h0
    have bd := zT_bd (f := fun k => if p (690 + k) = v ∧ p (58 + v) < p (1390 + k) then 1 else 0) (lo := 0) (hi := 1) h0 (fun i a b => by (try dsimp only); split <;> omega)
    try dsimp only at hs
    have hq0 : p (58 + v) = -1 → q = 0 := fun e => by rw [hq, zT_0 (by have := hz e; omega)]
    apply r200_c4
    simp only [hp]
    repeat' (first | (with_reducible assumption) | (with_reducible rfl) | (with_reducible apply And.intro) | (with_reducible apply zIn_mk) | (with_reducible apply zLn_mk) | ((with_reducible intro _); try (exfalso; omega)) | omega | (with_reducible exact Or.inr trivial) | (with_reducible exact Or.inl trivial) | ((refine ih (by omega) _ (by rw [hs]; (first | rw [if_pos (by omega)] | rw [if_neg (by omega)]); omega) (by omega))) | ((unfold gLE at h; rw [if_pos (by omega)] at h; rw [show q = 0 by omega]; exact h)) | fail)
    · unfold gLE gBh at h
      by_cases c : p (58 + v) = -1
      · rw [if_pos c] at h; rw [hq0 c]; exact h
      · rw [if_neg c, show p 4 = j by omega, ← hq] at h; exact h
  exact key 0 (by omega) (by omega) 0 (by rw [zT_0 (by omega)]) (fun _ => rfl)
