/-! THE SAME WITH LESS SCRATCH: what a rate is asked with leaves the plans as they are -/
def zScy (k : Nat) : Bool := Nat.beq k 107 || Nat.beq k 331
def zSy (x x' : zM) : Prop := ∀ k, zScy k = false → x' k = x k
theorem zSy.rf (x : zM) : zSy x x := fun _ _ => rfl
theorem zSy.tr {x x' x'' : zM} (h : zSy x x') (h' : zSy x' x'') : zSy x x'' := fun k a => by rw [h' k a, h k a]
theorem zSy.u {x x' : zM} (h : zSy x x') {k : Nat} (hk : zScy k = true) (i v : Int) : zSy x (zupd x' k i v) := fun k' a => by
  rw [zu_ne _ _ _ (by intro e; rw [e, hk] at a; exact absurd a (by decide))]; exact h k' a
theorem zSy.f {x x' : zM} (h : zSy x x') {k : Nat} (hk : zScy k = true) (lo n v : Int) : zSy x (zfil x' k lo n v) := fun k' a => by
  rw [zfil_ne _ _ _ _ (by intro e; rw [e, hk] at a; exact absurd a (by decide))]; exact h k' a
theorem zSy.o {x x' x'' : zM} (h : zSy x x') {k0 : Nat} (hk : zScy k0 = true) (h' : ∀ k, k ≠ k0 → x'' k = x' k) : zSy x x'' := fun k' a => by
  rw [h' k' (by intro e; rw [e, hk] at a; exact absurd a (by decide))]; exact h k' a
theorem RMx_y {x x' : zM} {p : Int → Int} (h : zSy x x') (r : RMx x p) : RMx x' p := by unfold RMx; rw [h 1 rfl, h 2 rfl, h 3 rfl, h 4 rfl, h 5 rfl, h 6 rfl]; exact r
theorem RLx_y {x x' : zM} {p : Int → Int} (h : zSy x x') (r : RLx x p) : RLx x' p := by unfold RLx; rw [h 7 rfl, h 8 rfl, h 9 rfl, h 10 rfl, h 11 rfl, h 12 rfl]; exact r
theorem RAx_y {x x' : zM} {p : Int → Int} (h : zSy x x') (r : RAx x p) : RAx x' p := by unfold RAx; rw [h 14 rfl, h 15 rfl, h 16 rfl, h 17 rfl, h 18 rfl, h 19 rfl, h 20 rfl, h 21 rfl, h 22 rfl, h 47 rfl]; exact r
theorem RNx_y {x x' : zM} {p : Int → Int} (h : zSy x x') (r : RNx x p) : RNx x' p := by unfold RNx; rw [h 72 rfl, h 73 rfl, h 74 rfl, h 75 rfl, h 76 rfl, h 77 rfl, h 78 rfl, h 79 rfl, h 80 rfl, h 81 rfl, h 82 rfl, h 83 rfl, h 84 rfl, h 85 rfl, h 86 rfl, h 87 rfl]; exact r
theorem RRx_y {x x' : zM} {p : Int → Int} (h : zSy x x') (r : RRx x p) : RRx x' p := by unfold RRx; rw [h 88 rfl, h 89 rfl, h 90 rfl, h 91 rfl, h 92 rfl, h 93 rfl, h 94 rfl]; exact r
theorem RX_y {x x' : zM} {p : Int → Int} (h : zSy x x') (r : RX x p) : RX x' p := ⟨RMx_y h r.1, RLx_y h r.2.1, RAx_y h r.2.2.1, RNx_y h r.2.2.2.1, RRx_y h r.2.2.2.2⟩
theorem c32y {d : Nat} {p : Int → Int} {x m : zM} {Q : Int → zM → zM → Prop} (hd : 1 ≤ d) (hX : RX x p) (h : ∀ x', zSy x x' → (∀ k, 0 ≤ k → k < 10 → x' 331 k = gNm p (-1) k) → Q 0 x' m) : WPc d 32 [zr 330] 403 [] x m 403 [] Q := by
  have e1 : x 1 0 = p 0 := hX.1.1
  have e2 : x 7 7 = p 6161 := hX.2.1.2.2.2.1
  apply r32
  repeat' (first | (with_reducible assumption) | (with_reducible rfl) | (with_reducible apply And.intro) | (with_reducible apply zIn_mk) | (with_reducible apply zLn_mk) | ((with_reducible intro _); try (exfalso; omega)) | omega | (with_reducible exact Or.inr trivial) | (with_reducible exact Or.inl trivial) | ((refine r284 (k := 331) (len := 10) rfl rfl ?_)) | ((refine h _ (((zSy.rf x).f rfl _ _ _).u rfl _ _ |>.u rfl _ _) ?_)) | fail)
  rename_i k k0 k1
  rw [zfil_ne _ _ _ _ (by decide), zfil_ne _ _ _ _ (by decide), e1, e2]
  simp only [zu_eq, up]
  have ef : ∀ j, 0 ≤ j → j < 10 → zfil x 331 0 10 0 331 j = 0 := fun j j0 j1 => zfil_at _ _ _ _ _ _ (by omega)
  rcases cs10 k0 k1 with e | e | e | e | e | e | e | e | e | e <;> subst e <;> simp only [gNm, reduceIte, Int.reduceEq]
  all_goals exact ef _ (by decide) (by decide)
theorem c33y {d : Nat} {who : Int} {p : Int → Int} {x m : zM} {Q : Int → zM → zM → Prop} (hd : 3 ≤ d) (hX : RX x p) (hI : IX p) (hw : who = -1 ∨ (0 ≤ who ∧ who < p 1)) (h : ∀ x', zSy x x' → (∀ k, 0 ≤ k → k < 10 → x' 331 k = gNm p who k) → Q 0 x' m) : WPc d 33 [zr 330, zi who] 403 [] x m 403 [] Q := by
  have hb := hI.1; unfold IB at hb
  have e1 : x 1 0 = p 0 := hX.1.1
  have er := hX.1.2.2 who
  have et := hX.2.1.2.2.1 who
  apply r33
  repeat' (first | (with_reducible assumption) | (with_reducible rfl) | (with_reducible apply And.intro) | (with_reducible apply zIn_mk) | (with_reducible apply zLn_mk) | ((with_reducible intro _); try (exfalso; omega)) | omega | (with_reducible exact Or.inr trivial) | (with_reducible exact Or.inl trivial) | ((refine c32y (p := p) (by omega) hX ?_; intro xB hB hnB; try simp only [hB 1 rfl, hB 2 rfl, hB 3 rfl, hB 4 rfl, hB 5 rfl, hB 6 rfl, hB 7 rfl, hB 12 rfl, hB 14 rfl, hB 15 rfl, hB 16 rfl, hB 17 rfl, hB 18 rfl, hB 19 rfl, hB 21 rfl, hB 22 rfl, hB 47 rfl])) | ((refine h _ hB ?_; rw [show who = -1 by omega]; exact hnB)) | ((refine c56 (p := p) ?_ ?_ hI.1 hI.2.1 hI.2.2.1 ?_)) | ((refine RNx_y (((hB.u rfl _ _).u rfl _ _).u rfl _ _) hX.2.2.2.1)) | ((refine RNx_y (((((hB.u rfl _ _).u rfl _ _).u rfl _ _).u rfl _ _).u rfl _ _) hX.2.2.2.1)) | ((refine c54 (p := p) ?_ ?_ hI.1 hI.2.1 hI.2.2.1 ?_ ?_)) | (simp only [zu_ne, ne_eq, Nat.reduceEqDiff, not_false_eq_true, hB 1 rfl, hB 2 rfl, hB 3 rfl, hB 4 rfl, hB 5 rfl, hB 6 rfl, hB 7 rfl, hB 12 rfl, hB 14 rfl, hB 15 rfl, hB 16 rfl, hB 17 rfl, hB 18 rfl, hB 19 rfl, hB 21 rfl, hB 22 rfl, hB 47 rfl]) | ((refine h _ ((((((hB.u rfl _ _).u rfl _ _).u rfl _ _).u rfl _ _).u rfl _ _).u rfl _ _) ?_; intro k k0 k1; rcases cs10 k0 k1 with e | e | e | e | e | e | e | e | e | e <;> subst e <;> simp only [zu_eq, up, gNm, reduceIte, Int.reduceEq] <;> (repeat (first | rw [if_pos (by omega)] | rw [if_neg (by omega)])) <;> first | omega | (refine (hnB _ (by decide) (by decide)).trans ?_; simp only [gNm, reduceIte, Int.reduceEq]))) | fail)
theorem c34y {d : Nat} {a : Int} {p : Int → Int} {x m : zM} {Q : Int → zM → zM → Prop} (hd : 4 ≤ d) (hX : RX x p) (hI : IX p) (a0 : 0 ≤ a) (a1 : a < p 2) (h : ∀ x', zSy x x' → (∀ k, 0 ≤ k → k < 10 → x' 331 k = gNm p (100 + a) k) → Q 0 x' m) : WPc d 34 [zr 330, zi a] 403 [] x m 403 [] Q := by
  have hb := hI.1; unfold IB at hb
  have ha := hI.2.1.1 a a0 a1; unfold IAa at ha
  have ra := hX.2.2.1.2.1 a a0 a1
  have em : x 15 a = p (90 + a) := ra.1
  have eq : 100 + a - 100 = a := by omega
  apply r34
  rw [em]
  repeat' (first | (with_reducible assumption) | (with_reducible rfl) | (with_reducible apply And.intro) | (with_reducible apply zIn_mk) | (with_reducible apply zLn_mk) | ((with_reducible intro _); try (exfalso; omega)) | omega | (with_reducible exact Or.inr trivial) | (with_reducible exact Or.inl trivial) | ((refine c33y (p := p) (by omega) hX hI (by omega) ?_; intro xB hB hnB; try simp only [hB 1 rfl, hB 2 rfl, hB 3 rfl, hB 4 rfl, hB 5 rfl, hB 6 rfl, hB 7 rfl, hB 12 rfl, hB 14 rfl, hB 15 rfl, hB 16 rfl, hB 17 rfl, hB 18 rfl, hB 19 rfl, hB 21 rfl, hB 22 rfl, hB 47 rfl])) | fail)
  refine h _ ((hB.u rfl _ _).u rfl _ _) ?_
  intro k k0 k1
  have hk := hnB k k0 k1
  rw [zu_eq, zu_eq]
  by_cases e7 : k = 7
  · rw [up_at e7, e7]; unfold gNm; repeat (first | rw [if_pos (by omega)] | rw [if_neg (by omega)])
    rw [eq]; omega
  · rw [up_ne e7]
    by_cases e6 : k = 6
    · rw [up_at e6, e6]; unfold gNm; repeat (first | rw [if_pos (by omega)] | rw [if_neg (by omega)])
      rw [eq]; omega
    · rw [up_ne e6, hk]; exact (gNm_ask a0 (by omega) (by omega) k0 k1 e6 e7).symm
theorem c40y {d : Nat} {a : Int} {p : Int → Int} {x m : zM} {Q : Int → zM → zM → Prop} (hd : 5 ≤ d) (hX : RX x p) (hI : IX p) (a0 : 0 ≤ a) (a1 : a < p 2) (h : ∀ x', zSy x x' → Q (gInt p a) x' m) : WPc d 40 [zr 330, zi a] 403 [] x m 403 [] Q := by
  have hb := hI.1; unfold IB at hb
  have ha := hI.2.1.1 a a0 a1
  have m2 := gPn_bd ha (gCl_bd (gTell p 2 (100 + a))).1 (gCl_bd (gTell p 2 (100 + a))).2
  unfold IAa at ha
  have ra := hX.2.2.1.2.1 a a0 a1
  have ek : x 16 a = p (114 + a) := ra.2.1
  have es : x 17 a = p (138 + a) := ra.2.2.1
  have ew : x 18 a = p (162 + a) := ra.2.2.2.1
  have eT : gTn p 2 (gNm p (100 + a)) = gTell p 2 (100 + a) := rfl
  unfold gInt gPn at h
  apply r40
  repeat' (first | (with_reducible assumption) | (with_reducible rfl) | (with_reducible apply And.intro) | (with_reducible apply zIn_mk) | (with_reducible apply zLn_mk) | ((with_reducible intro _); try (exfalso; omega)) | omega | (with_reducible exact Or.inr trivial) | (with_reducible exact Or.inl trivial) | (with_reducible apply trivial) | ((refine c34y (p := p) (by omega) hX hI a0 a1 ?_; intro xB hB hnB)) | ((refine c36 (p := p) (nm := gNm p (100 + a)) (by omega) (RX_y hB hX) hI (by omega) (by omega) hnB ?_; intro xC hC; replace hC := hB.o (k0 := 107) rfl hC)) | ((refine c37 (by omega) ?_; rw [eT, hC 16 rfl, hC 18 rfl, hB 17 rfl, ek, es, ew])) | ((have hh := h xC hC; (repeat (first | rw [if_pos (by omega)] at hh | rw [if_neg (by omega)] at hh)); exact hh)) | fail)
theorem zSy.x {x x' : zM} (h : zSy x x') : zSx x x' := fun k hk => h k (by
  unfold zScr at hk
  unfold zScy
  simp only [Bool.or_eq_false_iff] at hk
  rw [hk.1.1.2, hk.1.2]; rfl)
