/-! THE LENDER: both sides -/
theorem c33 {d : Nat} {who : Int} {p : Int → Int} {x m : zM} {Q : Int → zM → zM → Prop} (hd : 3 ≤ d) (hX : RX x p) (hI : IX p) (hw : who = -1 ∨ (0 ≤ who ∧ who < p 1)) (h : ∀ x', zSx x x' → (∀ k, 0 ≤ k → k < 10 → x' 331 k = gNm p who k) → Q 0 x' m) : WPc d 33 [zr 330, zi who] 403 [] x m 403 [] Q := by
  have hb := hI.1; unfold IB at hb
  have e1 : x 1 0 = p 0 := hX.1.1
  have er := hX.1.2.2 who
  have et := hX.2.1.2.2.1 who
  apply r33
  repeat' (first | (with_reducible assumption) | (with_reducible rfl) | (with_reducible apply And.intro) | (with_reducible apply zIn_mk) | (with_reducible apply zLn_mk) | ((with_reducible intro _); try (exfalso; omega)) | omega | (with_reducible exact Or.inr trivial) | (with_reducible exact Or.inl trivial) | ((refine c32 (p := p) (by omega) hX ?_; intro xB hB hnB; try simp only [hB 1 rfl, hB 2 rfl, hB 3 rfl, hB 4 rfl, hB 5 rfl, hB 6 rfl, hB 7 rfl, hB 12 rfl, hB 14 rfl, hB 15 rfl, hB 16 rfl, hB 17 rfl, hB 18 rfl, hB 19 rfl, hB 21 rfl, hB 22 rfl, hB 47 rfl])) | ((refine h _ hB ?_; rw [show who = -1 by omega]; exact hnB)) | ((refine c56 (p := p) ?_ ?_ hI.1 hI.2.1 hI.2.2.1 ?_)) | ((refine RNx_s (((hB.u rfl _ _).u rfl _ _).u rfl _ _) hX.2.2.2.1)) | ((refine RNx_s (((((hB.u rfl _ _).u rfl _ _).u rfl _ _).u rfl _ _).u rfl _ _) hX.2.2.2.1)) | ((refine c54 (p := p) ?_ ?_ hI.1 hI.2.1 hI.2.2.1 ?_ ?_)) | (simp only [zu_ne, ne_eq, Nat.reduceEqDiff, not_false_eq_true, hB 1 rfl, hB 2 rfl, hB 3 rfl, hB 4 rfl, hB 5 rfl, hB 6 rfl, hB 7 rfl, hB 12 rfl, hB 14 rfl, hB 15 rfl, hB 16 rfl, hB 17 rfl, hB 18 rfl, hB 19 rfl, hB 21 rfl, hB 22 rfl, hB 47 rfl]) | ((refine h _ ((((((hB.u rfl _ _).u rfl _ _).u rfl _ _).u rfl _ _).u rfl _ _).u rfl _ _) ?_; intro k k0 k1; rcases cs10 k0 k1 with e | e | e | e | e | e | e | e | e | e <;> subst e <;> simp only [zu_eq, up, gNm, reduceIte, Int.reduceEq] <;> (repeat (first | rw [if_pos (by omega)] | rw [if_neg (by omega)])) <;> first | omega | (refine (hnB _ (by decide) (by decide)).trans ?_; simp only [gNm, reduceIte, Int.reduceEq]))) | fail)
theorem gNm_ask {p : Int → Int} {a k : Int} (a0 : 0 ≤ a) (m0 : 0 ≤ p (90 + a)) (m1 : p (90 + a) < 100) (k0 : 0 ≤ k) (k1 : k < 10) (h6 : k ≠ 6) (h7 : k ≠ 7) : gNm p (100 + a) k = gNm p (p (90 + a)) k := by
  have eq : 100 + a - 100 = a := by omega
  unfold gNm
  rw [eq]
  simp only [if_neg (show ¬ (100 + a < 100) by omega), if_pos m1, if_neg (show ¬ (100 + a = -1) by omega), if_neg (show ¬ (p (90 + a) = -1) by omega)]
  rcases cs10 k0 k1 with e | e | e | e | e | e | e | e | e | e <;> subst e <;> first | rfl | omega
theorem c34 {d : Nat} {a : Int} {p : Int → Int} {x m : zM} {Q : Int → zM → zM → Prop} (hd : 4 ≤ d) (hX : RX x p) (hI : IX p) (a0 : 0 ≤ a) (a1 : a < p 2) (h : ∀ x', zSx x x' → (∀ k, 0 ≤ k → k < 10 → x' 331 k = gNm p (100 + a) k) → Q 0 x' m) : WPc d 34 [zr 330, zi a] 403 [] x m 403 [] Q := by
  have hb := hI.1; unfold IB at hb
  have ha := hI.2.1.1 a a0 a1; unfold IAa at ha
  have ra := hX.2.2.1.2.1 a a0 a1
  have em : x 15 a = p (90 + a) := ra.1
  have eq : 100 + a - 100 = a := by omega
  apply r34
  rw [em]
  repeat' (first | (with_reducible assumption) | (with_reducible rfl) | (with_reducible apply And.intro) | (with_reducible apply zIn_mk) | (with_reducible apply zLn_mk) | ((with_reducible intro _); try (exfalso; omega)) | omega | (with_reducible exact Or.inr trivial) | (with_reducible exact Or.inl trivial) | ((refine c33 (p := p) (by omega) hX hI (by omega) ?_; intro xB hB hnB; try simp only [hB 1 rfl, hB 2 rfl, hB 3 rfl, hB 4 rfl, hB 5 rfl, hB 6 rfl, hB 7 rfl, hB 12 rfl, hB 14 rfl, hB 15 rfl, hB 16 rfl, hB 17 rfl, hB 18 rfl, hB 19 rfl, hB 21 rfl, hB 22 rfl, hB 47 rfl])) | fail)
  refine h _ ((hB.u rfl _ _).u rfl _ _) ?_
  intro k k0 k1
  have hk := hnB k k0 k1
  rw [zu_eq, zu_eq]
  by_cases e7 : k = 7
  · rw [up_at e7, e7]; unfold gNm; repeat (first | rw [if_pos (by omega)] | rw [if_neg (by omega)])
    rw [eq]; omega
  · rw [up_ne e7]
    by_cases e6 : k = 6
    · rw [up_at e6, e6]; unfold gNm; repeat (first | rw [if_pos (by omega)] | rw [if_neg (by omega)])
      rw [eq]; omega
    · rw [up_ne e6, hk]; exact (gNm_ask a0 (by omega) (by omega) k0 k1 e6 e7).symm
theorem c96 {d : Nat} {key w : Int} {nm : Int → Int} {p : Int → Int} {x m : zM} {Q : Int → zM → zM → Prop} (hd : 2 ≤ d) (hX : RRx x p) (hB : IB p) (hR : IR p) (hw : w = p 0) (hn : ∀ k, 0 ≤ k → k < 10 → x 331 k = nm k) (h : ∀ x', (∀ k, k ≠ 107 → x' k = x k) → Q (gBst p key nm (p 5)) x' m) : WPc d 96 [zr 88, zi key, zi w, zr 331] 403 [] x m 403 [] Q := by
  have hb := hB; unfold IB at hb
  have e0 : x 88 0 = p 5 := hX.1
  have loop : ∀ i, -1 ≤ i → (i < p 5 → gBst p key nm (p 5) = gBst p key nm (i + 1) → ∀ x', (∀ k, k ≠ 107 → x' k = x k) → WP d 96 8 [(0, zr 88), (1, zi key), (2, zi w), (3, zr 331), (4, zi i)] [] 403 [] x' m 403 [] Q) := by
    refine zfall _ ?_
    intro i i0 ih i1 hbi xA hA
    have hbs := gBst_s (p := p) (key := key) (nm := nm) (i := i)
    have r := hX.2.1 i
    have hr := hR.1 i
    unfold IRr at hr
    have w2 := hR.2.2 i
    have hcd := hX.2.2 i
    dsimp only [gAp] at hbs
    have ih' : 0 ≤ i → ¬ (p (3490 + i) = key ∧ p (3502 + i) ≤ p 0 ∧ p 0 < p (3514 + i) ∧ (p (3526 + i) = p (3538 + i) ∨ gW p i (p (3526 + i)) (p (3538 + i)) nm ≠ 0)) → ∀ x', (∀ k, k ≠ 107 → x' k = x k) → WP d 96 8 [(0, zr 88), (1, zi key), (2, zi w), (3, zr 331), (4, zi (i + -1))] [] 403 [] x' m 403 [] Q := by
      intro hi hno x' hx'
      refine ih hi (by omega) ?_ x' hx'
      rw [show i - 1 + 1 = i by omega, hbi, hbs hi, if_neg hno]
    have hy : 0 ≤ i → p (3490 + i) = key ∧ p (3502 + i) ≤ p 0 ∧ p 0 < p (3514 + i) ∧ (p (3526 + i) = p (3538 + i) ∨ gW p i (p (3526 + i)) (p (3538 + i)) nm ≠ 0) → ∀ x', (∀ k, k ≠ 107 → x' k = x k) → Q i x' m := by
      intro hi hyes x' hx'
      have := h x' hx'
      rwa [hbi, hbs hi, if_pos hyes] at this
    have hy0 : i = -1 → Q (-1) xA m := by
      intro e
      have := h xA hA
      rwa [hbi, e] at this
    apply r96_c8
    simp only [hA 88 (by decide), hA 89 (by decide), hA 90 (by decide), hA 91 (by decide), hA 92 (by decide), hA 93 (by decide)]
    repeat' (first | (with_reducible assumption) | (with_reducible rfl) | (with_reducible apply And.intro) | (with_reducible apply zIn_mk) | (with_reducible apply zLn_mk) | ((with_reducible intro _); try (exfalso; omega)) | omega | (with_reducible exact Or.inr trivial) | (with_reducible exact Or.inl trivial) | ((exact hy0 (by omega))) | ((refine ih' (by omega) (by omega) _ hA)) | ((refine hy (by omega) (by omega) _ hA)) | ((rw [show x 92 i = p (3526 + i) by omega, show x 93 i = p (3538 + i) by omega]; refine c98 (p := p) (nm := nm) (by omega) (by omega) (by omega) (by omega) (by omega) (by omega) (w2 (by omega) (by omega) (by omega)) (fun k k0 k1 => by rw [hA 94 (by decide)]; exact hcd k (by omega) (by omega) (by omega) (by omega)) (by rw [hA 331 (by decide)]; exact hn) ?_; intro xB hB'; replace hA : ∀ k, k ≠ 107 → xB k = x k := (fun k hk => by rw [hB' k hk, hA k hk]))) | fail)
  apply r96
  repeat' (first | (with_reducible assumption) | (with_reducible rfl) | (with_reducible apply And.intro) | (with_reducible apply zIn_mk) | (with_reducible apply zLn_mk) | ((with_reducible intro _); try (exfalso; omega)) | omega | (with_reducible exact Or.inr trivial) | (with_reducible exact Or.inl trivial) | ((rw [e0]; exact loop _ (by omega) (by omega) (by rw [show p 5 - 1 + 1 = p 5 by omega]) x (fun k _ => rfl))) | fail)
theorem c97 {d : Nat} {r : Int} {nm : Int → Int} {p : Int → Int} {x m : zM} {Q : Int → zM → zM → Prop} (hd : 2 ≤ d) (hX : RRx x p) (hB : IB p) (hR : IR p) (r0 : 0 ≤ r) (r1 : r < p 5) (hn : ∀ k, 0 ≤ k → k < 10 → x 331 k = nm k) (h : ∀ x', (∀ k, k ≠ 107 → x' k = x k) → Q (gW p r 0 (p (3526 + r)) nm) x' m) : WPc d 97 [zr 88, zi r, zr 331] 403 [] x m 403 [] Q := by
  have hb := hB; unfold IB at hb
  have e := hX.2.1 r r0 r1
  have hr := hR.1 r r0 r1
  unfold IRr at hr
  apply r97
  rw [e.2.2.2.1]
  repeat' (first | (with_reducible assumption) | (with_reducible rfl) | (with_reducible apply And.intro) | (with_reducible apply zIn_mk) | (with_reducible apply zLn_mk) | ((with_reducible intro _); try (exfalso; omega)) | omega | (with_reducible exact Or.inr trivial) | (with_reducible exact Or.inl trivial) | ((refine c98 (p := p) (nm := nm) (by omega) (by omega) (by omega) (by omega) (by omega) (by omega) (hR.2.1 r r0 r1) (fun k k0 k1 => hX.2.2 r k r0 r1 (by omega) (by omega)) hn ?_; intro xB hB')) | ((exact h _ hB')) | fail)
theorem c36 {d : Nat} {key : Int} {nm : Int → Int} {p : Int → Int} {x m : zM} {Q : Int → zM → zM → Prop} (hd : 3 ≤ d) (hX : RX x p) (hI : IX p) (k0 : 0 ≤ key) (k1 : key ≤ 5) (hn : ∀ k, 0 ≤ k → k < 10 → x 331 k = nm k) (h : ∀ x', (∀ k, k ≠ 107 → x' k = x k) → Q (gTn p key nm) x' m) : WPc d 36 [zr 330, zi key] 403 [] x m 403 [] Q := by
  have hb := hI.1; unfold IB at hb
  have e1 : x 1 0 = p 0 := hX.1.1
  have hin := gBst_in (p := p) (key := key) (nm := nm) (p 5) (by omega)
  unfold gTn gTlr at h
  apply r36
  repeat' (first | (with_reducible assumption) | (with_reducible rfl) | (with_reducible apply And.intro) | (with_reducible apply zIn_mk) | (with_reducible apply zLn_mk) | ((with_reducible intro _); try (exfalso; omega)) | omega | (with_reducible exact Or.inr trivial) | (with_reducible exact Or.inl trivial) | ((refine c96 (p := p) (nm := nm) (by omega) hX.2.2.2.2 hI.1 hI.2.2.2 e1 hn ?_; intro xB hB)) | ((refine c97 (p := p) (nm := nm) (by omega) (RRx_s ((zSx.rf x).o (k0 := 107) rfl hB) hX.2.2.2.2) hI.1 hI.2.2.2 (by omega) (by omega) (by rw [hB 331 (by decide)]; exact hn) ?_; intro xC hC)) | ((have hh := h xC (fun k hk => by rw [hC k hk, hB k hk]); rw [if_neg (by omega)] at hh; exact hh)) | ((have hh := h xB hB; rw [if_pos (by omega)] at hh; exact hh)) | fail)
theorem c35 {d : Nat} {key : Int} {nm : Int → Int} {p : Int → Int} {x m : zM} {Q : Int → zM → zM → Prop} (hd : 3 ≤ d) (hX : RX x p) (hI : IX p) (hn : ∀ k, 0 ≤ k → k < 10 → x 331 k = nm k) (h : ∀ x', (∀ k, k ≠ 107 → x' k = x k) → Q (gBst p key nm (p 5)) x' m) : WPc d 35 [zr 330, zi key] 403 [] x m 403 [] Q := by
  have e1 : x 1 0 = p 0 := hX.1.1
  apply r35
  repeat' (first | (with_reducible assumption) | (with_reducible rfl) | (with_reducible apply And.intro) | (with_reducible apply zIn_mk) | (with_reducible apply zLn_mk) | ((with_reducible intro _); try (exfalso; omega)) | omega | (with_reducible exact Or.inr trivial) | (with_reducible exact Or.inl trivial) | ((refine c96 (p := p) (nm := nm) (by omega) hX.2.2.2.2 hI.1 hI.2.2.2 e1 hn ?_; intro xB hB; exact h xB hB)) | fail)
def gCl (v : Int) : Int := if v < 0 then 0 else if 100 < v then 100 else v
theorem c37 {d : Nat} {v : Int} {x m : zM} {Q : Int → zM → zM → Prop} (hd : 1 ≤ d) (h : Q (gCl v) x m) : WPc d 37 [zi v] 403 [] x m 403 [] Q := by
  have e : zmx 0 (zmn 100 v) = gCl v := by unfold zmx zmn gCl; split <;> split <;> (try split) <;> omega
  apply r37
  rw [e]
  repeat' (first | (with_reducible assumption) | (with_reducible rfl) | (with_reducible apply And.intro) | (with_reducible apply zIn_mk) | (with_reducible apply zLn_mk) | ((with_reducible intro _); try (exfalso; omega)) | omega | (with_reducible exact Or.inr trivial) | (with_reducible exact Or.inl trivial) | fail)
def gLm (p : Int → Int) (a t : Int) : Int := if p (114 + a) = 0 then t else if p (114 + a) = 1 then t.tdiv 4 else if p (114 + a) = 2 then w32 (gSv p (p (90 + a)) 400 400 - gHd p (p (90 + a))) else if p (114 + a) = 3 then w32 (2 * t) else if p (114 + a) = 4 then w32 (w32 (2 * t) + 100) else (w32 (gSv p (p (90 + a)) 400 400 - gHd p (p (90 + a)))).tdiv 2
def gLim (p : Int → Int) (a : Int) : Int := gLm p a (gTell p 1 (100 + a))
theorem c39 {d : Nat} {a t : Int} {p : Int → Int} {x m : zM} {Q : Int → zM → zM → Prop} (hd : 2 ≤ d) (hX : RX x p) (hI : IX p) (a0 : 0 ≤ a) (a1 : a < p 2) (h : Q (gLm p a t) x m) : WPc d 39 [zr 330, zi a, zi t] 403 [] x m 403 [] Q := by
  have hb := hI.1; unfold IB at hb
  have ha := hI.2.1.1 a a0 a1; unfold IAa at ha
  have ra := hX.2.2.1.2.1 a a0 a1
  have em : x 15 a = p (90 + a) := ra.1
  have ek : x 16 a = p (114 + a) := ra.2.1
  have et : x 12 (p (90 + a)) = gSv p (p (90 + a)) 400 400 := hX.2.1.2.2.1 _ (by omega) (by omega)
  unfold gLm at h
  apply r39
  simp only [em, ek, et]
  repeat' (first | (with_reducible assumption) | (with_reducible rfl) | (with_reducible apply And.intro) | (with_reducible apply zIn_mk) | (with_reducible apply zLn_mk) | ((with_reducible intro _); try (exfalso; omega)) | omega | (with_reducible exact Or.inr trivial) | (with_reducible exact Or.inl trivial) | (with_reducible apply trivial) | (simp only [em, et]) | ((refine c1 (by omega) (by omega) ?_ ?_)) | ((refine c57_72 (p := p) (by omega) hX.2.2.2.1 hI.1 hI.2.1 hI.2.2.1 ?_)) | (((repeat (first | rw [if_pos (by omega)] at h | rw [if_neg (by omega)] at h)); exact h)) | fail)
theorem c38 {d : Nat} {a : Int} {p : Int → Int} {x m : zM} {Q : Int → zM → zM → Prop} (hd : 5 ≤ d) (hX : RX x p) (hI : IX p) (a0 : 0 ≤ a) (a1 : a < p 2) (h : ∀ x', zSx x x' → Q (gLim p a) x' m) : WPc d 38 [zr 330, zi a] 403 [] x m 403 [] Q := by
  apply r38
  repeat' (first | (with_reducible assumption) | (with_reducible rfl) | (with_reducible apply And.intro) | (with_reducible apply zIn_mk) | (with_reducible apply zLn_mk) | ((with_reducible intro _); try (exfalso; omega)) | omega | (with_reducible exact Or.inr trivial) | (with_reducible exact Or.inl trivial) | ((refine c34 (p := p) (by omega) hX hI a0 a1 ?_; intro xB hB hnB)) | ((refine c36 (p := p) (nm := gNm p (100 + a)) (by omega) (RX_s hB hX) hI (by omega) (by omega) hnB ?_; intro xC hC; replace hC := hB.o (k0 := 107) rfl hC)) | ((refine c39 (p := p) (by omega) (RX_s hC hX) hI a0 a1 ?_; exact h xC hC)) | fail)
def gPn (p : Int → Int) (a : Int) : Int := p (138 + a) * gCl (gTell p 2 (100 + a)) * p (162 + a) / 10000
def gInt (p : Int → Int) (a : Int) : Int := if p (114 + a) = 1 then gPn p a + 1 else if p (114 + a) = 2 ∨ p (114 + a) = 5 then gPn p a / 2 else if p (114 + a) = 4 then 2 * gPn p a else gPn p a
theorem gCl_bd (v : Int) : 0 ≤ gCl v ∧ gCl v ≤ 100 := by unfold gCl; split <;> (try split) <;> omega
theorem mulbd {a b A B : Int} (a0 : 0 ≤ a) (a1 : a ≤ A) (b0 : 0 ≤ b) (b1 : b ≤ B) : 0 ≤ a * b ∧ a * b ≤ A * B := ⟨Int.mul_nonneg a0 b0, Int.mul_le_mul a1 b1 b0 (by omega)⟩
theorem gPn_bd {p : Int → Int} {a r : Int} (h : IAa p a) (r0 : 0 ≤ r) (r1 : r ≤ 100) : (0 ≤ p (138 + a) * r ∧ p (138 + a) * r ≤ 9999900) ∧ (0 ≤ p (138 + a) * r * p (162 + a) ∧ p (138 + a) * r * p (162 + a) ≤ 599994000) := by
  unfold IAa at h
  have m1 := mulbd (A := 99999) (B := 100) (show 0 ≤ p (138 + a) by omega) (by omega) r0 r1
  have m2 := mulbd (A := 9999900) (B := 60) m1.1 (by omega) (show 0 ≤ p (162 + a) by omega) (by omega)
  omega
theorem gInt_bd {p : Int → Int} {a : Int} (h : IAa p a) : 0 ≤ gInt p a ∧ gInt p a ≤ 119998 := by
  have m2 := gPn_bd h (gCl_bd (gTell p 2 (100 + a))).1 (gCl_bd (gTell p 2 (100 + a))).2
  unfold gInt gPn
  split
  · omega
  · split
    · omega
    · split <;> omega
theorem c40 {d : Nat} {a : Int} {p : Int → Int} {x m : zM} {Q : Int → zM → zM → Prop} (hd : 5 ≤ d) (hX : RX x p) (hI : IX p) (a0 : 0 ≤ a) (a1 : a < p 2) (h : ∀ x', zSx x x' → Q (gInt p a) x' m) : WPc d 40 [zr 330, zi a] 403 [] x m 403 [] Q := by
  have hb := hI.1; unfold IB at hb
  have ha := hI.2.1.1 a a0 a1
  have m2 := gPn_bd ha (gCl_bd (gTell p 2 (100 + a))).1 (gCl_bd (gTell p 2 (100 + a))).2
  unfold IAa at ha
  have ra := hX.2.2.1.2.1 a a0 a1
  have ek : x 16 a = p (114 + a) := ra.2.1
  have es : x 17 a = p (138 + a) := ra.2.2.1
  have ew : x 18 a = p (162 + a) := ra.2.2.2.1
  have eT : gTn p 2 (gNm p (100 + a)) = gTell p 2 (100 + a) := rfl
  unfold gInt gPn at h
  apply r40
  repeat' (first | (with_reducible assumption) | (with_reducible rfl) | (with_reducible apply And.intro) | (with_reducible apply zIn_mk) | (with_reducible apply zLn_mk) | ((with_reducible intro _); try (exfalso; omega)) | omega | (with_reducible exact Or.inr trivial) | (with_reducible exact Or.inl trivial) | (with_reducible apply trivial) | ((refine c34 (p := p) (by omega) hX hI a0 a1 ?_; intro xB hB hnB)) | ((refine c36 (p := p) (nm := gNm p (100 + a)) (by omega) (RX_s hB hX) hI (by omega) (by omega) hnB ?_; intro xC hC; replace hC := hB.o (k0 := 107) rfl hC)) | ((refine c37 (by omega) ?_; rw [eT, hC 16 rfl, hC 18 rfl, hB 17 rfl, ek, es, ew])) | ((have hh := h xC hC; (repeat (first | rw [if_pos (by omega)] at hh | rw [if_neg (by omega)] at hh)); exact hh)) | fail)
/-- backers whose savings don't bear their pledge -/
def gBad (p : Int → Int) (a : Int) : Int := zT (fun k => if gSv p (p (258 + 4 * a + k)) 400 400 < p (354 + 4 * a + k) then 1 else 0) (p (234 + a))
theorem gBad_z {p : Int → Int} {a n : Int} (h : ∀ k, 0 ≤ k → k < n → p (354 + 4 * a + k) ≤ gSv p (p (258 + 4 * a + k)) 400 400) : zT (fun k => if gSv p (p (258 + 4 * a + k)) 400 400 < p (354 + 4 * a + k) then 1 else 0) n = 0 := zT_zero (fun j j0 j1 => by rw [if_neg (by have := h j j0 j1; omega)])
theorem gBad_p {p : Int → Int} {a n k : Int} (k0 : 0 ≤ k) (k1 : k < n) (h : gSv p (p (258 + 4 * a + k)) 400 400 < p (354 + 4 * a + k)) : 0 < zT (fun k => if gSv p (p (258 + 4 * a + k)) 400 400 < p (354 + 4 * a + k) then 1 else 0) n := zT_pos (fun j _ _ => by split <;> omega) k0 k1 (by rw [if_pos h]; omega)
theorem c42 {d : Nat} {a : Int} {p : Int → Int} {x m : zM} {Q : Int → zM → zM → Prop} (hd : 1 ≤ d) (hX : RX x p) (hI : IX p) (a0 : 0 ≤ a) (a1 : a < p 2) (h1 : p (138 + a) ≤ gPl p a → gBad p a ≤ 0 → Q 1 x m) (h0 : (gPl p a < p (138 + a) ∨ 0 < gBad p a) → Q 0 x m) : WPc d 42 [zr 330, zi a] 403 [] x m 403 [] Q := by
  have hb := hI.1; unfold IB at hb
  have ha := hI.2.1.1 a a0 a1
  unfold IAa at ha
  have ra := hX.2.2.1.2.1 a a0 a1
  have loop : p (138 + a) ≤ gPl p a → ∀ j, 0 ≤ j → j ≤ p (234 + a) → (∀ k, 0 ≤ k → k < j → p (354 + 4 * a + k) ≤ gSv p (p (258 + 4 * a + k)) 400 400) → WP d 42 26 [(0, zr 330), (1, zi a), (2, zr 14), (3, zi j)] [] 403 [] x m 403 [] Q := by
    intro hs
    refine zdown _ _ ?_
    intro j h0' h1' ih hno
    have r := hX.2.2.1.2.2 a j a0 a1 h0'
    have bj := hI.2.1.2 a j a0 a1 h0'
    unfold IAb at bj
    have et := hX.2.1.2.2.1 (p (258 + 4 * a + j))
    have e22 : j < 4 → j < p (234 + a) → x 22 (a * 4 + j) = p (258 + 4 * a + j) := fun c c' => (r c c').1
    apply r42_c26
    by_cases c : j < p (234 + a)
    · rw [e22 (by omega) (by omega)]
      repeat' (first | (with_reducible assumption) | (with_reducible rfl) | (with_reducible apply And.intro) | (with_reducible apply zIn_mk) | (with_reducible apply zLn_mk) | ((with_reducible intro _); try (exfalso; omega)) | omega | (with_reducible exact Or.inr trivial) | (with_reducible exact Or.inl trivial) | ((refine ih (by omega) (fun k k0 k1 => (if e : k = j then (by rw [e]; omega) else hno k k0 (by omega))))) | ((refine h0 (Or.inr (gBad_p h0' (by omega) (by omega))))) | fail)
    · repeat' (first | (with_reducible assumption) | (with_reducible rfl) | (with_reducible apply And.intro) | (with_reducible apply zIn_mk) | (with_reducible apply zLn_mk) | ((with_reducible intro _); try (exfalso; omega)) | omega | (with_reducible exact Or.inr trivial) | (with_reducible exact Or.inl trivial) | ((refine h1 hs ?_; unfold gBad; rw [gBad_z (fun k k0 k1 => hno k k0 (by omega))]; omega)) | fail)
  apply r42
  repeat' (first | (with_reducible assumption) | (with_reducible rfl) | (with_reducible apply And.intro) | (with_reducible apply zIn_mk) | (with_reducible apply zLn_mk) | ((with_reducible intro _); try (exfalso; omega)) | omega | (with_reducible exact Or.inr trivial) | (with_reducible exact Or.inl trivial) | ((refine c5 (p := p) hX.2.2.1 hI.1 hI.2.1 a0 a1 ?_)) | ((exact loop (by omega) 0 (by omega) (by omega) (fun k k0 k1 => by omega))) | ((with_reducible apply h0) <;> omega) | fail)
