/-! BEST: both sides -/
theorem c65 {d : Nat} {V : Nat} {p w : Int → Int} {x m : zM} {Q : Int → zM → zM → Prop} (hd : 14 ≤ d) (hF : RF x p w) (hI : IX p) (hIP : IP p) (c0 : 0 ≤ p 6161) (c1 : p 6161 ≤ 131998200) (hV : V < 2 ^ 24) (hn : gCn V ≤ 8) (h : ∀ x', zSx x x' → Q (gBzf p (gFv p V (p 2)) (gFv p V (p 2)) (gFv p V (p 2)) 0) x' m) : WPc d 65 [zr 336, zi V] 403 [] x m 403 [] Q := by
  obtain ⟨hB, hA, hN, hR⟩ := id hI
  have hb := hB; unfold IB at hb
  have loop : ∀ j, 0 ≤ j → j ≤ p 2 → ∀ x', zSx x x' → WP d 65 4 [(0, zr 336), (1, zi V), (2, zi (gFv p V j)), (3, zi j)] [] 403 [] x' m 403 [] Q := by
    refine zdown _ _ ?_
    intro j j0 j1 ih x' M1
    have e14 : x' 14 0 = p 2 := by rw [M1 14 rfl]; exact hF.1.2.2.1.1
    have bt := zbit (a := V) (j := j) (by omega) j0 (by omega)
    have nlt := gFv_lt (p := p) (V := V) j0 (by omega)
    have pw : 2 ^ j.toNat < 2 ^ 31 := Nat.pow_lt_pow_right (by decide) (by omega)
    have ez : zor (gFv p V j) (zshl 1 j) = ((gFv p V j ||| 2 ^ j.toNat : Nat) : Int) := by
      rw [zsh1 j0 (by omega)]
      exact zor_nat (by omega) pw
    apply r65_c4
    simp only [e14, bt, ez]
    by_cases c : j = p 2
    · subst c
      obtain ⟨F, hF0⟩ : ∃ F, F = gFv p V (p 2) := ⟨_, rfl⟩
      have bF : ∀ i, 0 ≤ i → gBt F i = decide (i < p 2 ∧ gBt V i = true ∧ gMJ p i) := fun i i0 => by rw [hF0]; exact gFv_bt i0 (p 2) (by omega)
      have zF : ∀ i, p 2 ≤ i → gBt F i = false := fun i i0 => by rw [bF i (by omega)]; exact decide_eq_false (fun h => by omega)
      have cF : gCn F ≤ gCn V := gCn_le' (fun i i0 b => by rw [bF i i0] at b; exact (of_decide_eq_true b).2.1)
      have rk := gRk_lt 24 F F
      have eC : gCn F = (gBn 24 F : Int) := gBn_c 24 F
      have b8 : gBn 24 F ≤ 8 := by omega
      have pB : 2 ^ gBn 24 F ≤ 2 ^ 8 := Nat.pow_le_pow_right (by decide) b8
      rw [← hF0] at nlt h ⊢
      have fin := fun x'' (M2 : zSx x' x'') (e337 : ∀ k, 0 ≤ k → k < 8 → x'' 337 k = gCom p k) (e338 : ∀ a, 0 ≤ a → a < p 2 → gBt F a = true → ∀ k, 0 ≤ k → k < 8 → x'' 338 (a * 8 + k) = gBr p a k) => c65L (d := d) (m := m) (Q := Q) (p := p) (F := F) (by omega) (RF_s (M1.tr M2) hF).1 (RF_s (M1.tr M2) hF).2.2.2 hI hIP c0 c1 nlt zF e337 e338 F F 0 0 (Nat.le_refl _) (Nat.and_self _) (by decide) (fun j _ => gBt_0 j) (by omega) (by omega) (h x'' (M1.tr M2))
      clear ih h bt ez pw
      repeat' (first | (with_reducible assumption) | (with_reducible rfl) | (with_reducible apply And.intro) | (with_reducible apply zIn_mk) | (with_reducible apply zLn_mk) | ((with_reducible intro _); try (exfalso; omega)) | omega | (with_reducible exact Or.inr trivial) | (with_reducible exact Or.inl trivial) | ((refine c68 (p := p) (by omega) (RF_s M1 hF).1 hI nlt ?_; intro xB g1 g2 g3)) | ((exact fin xB g1 g2 g3)) | fail)
    · have ih' := ih (by omega)
      rw [gFv_s j0] at ih'
      obtain ⟨f, hf⟩ : ∃ f, f = gFv p V j := ⟨_, rfl⟩
      rw [← hf] at ih' ⊢
      clear ih h bt ez pw
      by_cases cb : gBt V j = true
      · rw [if_pos cb]
        have i1 := fun x'' (M2 : zSx x' x'') (hh : gMJ p j) => ih' x'' (M1.tr M2)
        by_cases cm : gMJ p j
        · have i1 := fun x'' (M2 : zSx x' x'') => ih' x'' (M1.tr M2)
          rw [if_pos ⟨cb, cm⟩] at i1
          clear ih'
          repeat' (first | (with_reducible assumption) | (with_reducible rfl) | (with_reducible apply And.intro) | (with_reducible apply zIn_mk) | (with_reducible apply zLn_mk) | ((with_reducible intro _); try (exfalso; omega)) | omega | (with_reducible exact Or.inr trivial) | (with_reducible exact Or.inl trivial) | ((exact absurd rfl (by assumption))) | ((refine c63 (p := p) (by omega) (RF_s M1 hF).1 hI j0 (by omega) ?_ ?_)) | ((exact absurd cm (by assumption))) | ((exact i1 _ (by assumption))) | ((exfalso; exact absurd cm (by assumption))) | fail)
        · have i1 := fun x'' (M2 : zSx x' x'') => ih' x'' (M1.tr M2)
          rw [if_neg (fun hh => cm hh.2), Nat.or_zero] at i1
          clear ih'
          repeat' (first | (with_reducible assumption) | (with_reducible rfl) | (with_reducible apply And.intro) | (with_reducible apply zIn_mk) | (with_reducible apply zLn_mk) | ((with_reducible intro _); try (exfalso; omega)) | omega | (with_reducible exact Or.inr trivial) | (with_reducible exact Or.inl trivial) | ((exact absurd rfl (by assumption))) | ((refine c63 (p := p) (by omega) (RF_s M1 hF).1 hI j0 (by omega) ?_ ?_)) | ((exact i1 _ (by assumption))) | ((exfalso; exact absurd (by assumption) cm)) | fail)
      · rw [if_neg cb]
        have i1 := ih' x' M1
        rw [if_neg (fun hh => cb hh.1), Nat.or_zero] at i1
        clear ih'
        repeat' (first | (with_reducible assumption) | (with_reducible rfl) | (with_reducible apply And.intro) | (with_reducible apply zIn_mk) | (with_reducible apply zLn_mk) | ((with_reducible intro _); try (exfalso; omega)) | omega | (with_reducible exact Or.inr trivial) | (with_reducible exact Or.inl trivial) | ((exact absurd rfl (by assumption))) | ((exact i1)) | fail)
  apply r65
  intro _
  exact loop 0 (by omega) (by omega) x (zSx.rf x)
theorem s263 {d : Nat} {V : Nat} {p : Int → Int} {x m : zM} {Q : Int → zM → zM → Prop} (hd : 16 ≤ d) (hp : m 387 = p) (hI : IX p) (hIP : IP p) (c0 : 0 ≤ p 6161) (c1 : p 6161 ≤ 131998200) (hV : V < 2 ^ (p 2).toNat) (hn : gCn V ≤ 8) (h : ∀ m', (∀ k, k ≠ 386 → k ≠ 397 → k ≠ 398 → k ≠ 401 → k ≠ 402 → m' k = m k) → (∀ i, i ≠ 23 → m' 386 i = m 386 i) → Q (gBzf p (gFv p V (p 2)) (gFv p V (p 2)) (gFv p V (p 2)) 0) x m') : WPc d 263 [zr 386, zi V] 403 [] x m 403 [] Q := by
  obtain ⟨hB, hA, hN, hR⟩ := id hI
  have hb := hB; unfold IB at hb
  have hW : 2 ^ (p 2).toNat ≤ 2 ^ 24 := Nat.pow_le_pow_right (by decide) (by omega)
  have hV4 : V < 2 ^ 24 := Nat.lt_of_lt_of_le hV hW
  have loop : ∀ j, 0 ≤ j → j ≤ p 2 → ∀ m', zSame m m' → m' 387 = p → WP d 263 36 [(0, zr 386), (1, zi V), (2, zi (gFv p V j)), (3, zi j)] [] 403 [] x m' 403 [] Q := by
    refine zdown _ _ ?_
    intro j j0 j1 ih m' M1 M2
    have bt := zbit (a := V) (j := j) (by omega) j0 (by omega)
    have nlt := gFv_lt (p := p) (V := V) j0 (by omega)
    have pw : 2 ^ j.toNat < 2 ^ 31 := Nat.pow_lt_pow_right (by decide) (by omega)
    have ez : zor (gFv p V j) (zshl 1 j) = ((gFv p V j ||| 2 ^ j.toNat : Nat) : Int) := by
      rw [zsh1 j0 (by omega)]
      exact zor_nat (by omega) pw
    have e0 : zor (gFv p V j) 0 = (gFv p V j : Int) := zor_0 (by unfold zIn; omega)
    apply r263_c36
    simp only [M2, bt, ez, e0]
    by_cases c : j = p 2
    · subst c
      obtain ⟨F, hF0⟩ : ∃ F, F = gFv p V (p 2) := ⟨_, rfl⟩
      have bF : ∀ i, 0 ≤ i → gBt F i = decide (i < p 2 ∧ gBt V i = true ∧ gMJ p i) := fun i i0 => by rw [hF0]; exact gFv_bt i0 (p 2) (by omega)
      have zF : ∀ i, p 2 ≤ i → gBt F i = false := fun i i0 => by rw [bF i (by omega)]; exact decide_eq_false (fun h => by omega)
      rw [← hF0] at nlt h ⊢
      have fin := fun m'' (q1 : ∀ k, k ≠ 386 → k ≠ 397 → k ≠ 398 → k ≠ 401 → k ≠ 402 → m'' k = m' k) (q2 : ∀ i, i ≠ 23 → m'' 386 i = m' 386 i) (q3 : ∀ k, 0 ≤ k → k < 8 → m'' 401 k = gCom p k) (q4 : ∀ a, 0 ≤ a → a < p 2 → gBt F a = true → ∀ k, 0 ≤ k → k < 8 → m'' 402 (8 * a + k) = gBr p a k) => s263L (d := d) (x := x) (m := m'') (Q := Q) (p := p) (F := F) (by omega) (by rw [q1 387 (by decide) (by decide) (by decide) (by decide) (by decide)]; exact M2) hI hIP c0 c1 nlt zF q3 q4 F F 0 (Nat.le_refl _) (Nat.and_self _) (by decide) (h m'' (fun k k0 k1 k2 k3 k4 => by rw [q1 k k0 k1 k2 k3 k4]; exact M1.1 k k1 k2 k0) (fun i i0 => by rw [q2 i i0]; exact M1.2 i i0))
      clear ih h bt ez pw e0
      repeat' (first | (with_reducible assumption) | (with_reducible rfl) | (with_reducible apply And.intro) | (with_reducible apply zIn_mk) | (with_reducible apply zLn_mk) | ((with_reducible intro _); try (exfalso; omega)) | omega | (with_reducible exact Or.inr trivial) | (with_reducible exact Or.inl trivial) | ((refine s257 (p := p) (by omega) M2 hI nlt ?_; intro mB g1 g2 g3 g4)) | ((exact fin mB g1 g2 g3 g4)) | fail)
    · have ih' := fun m'' (q1 : zSame m' m'') (q2 : m'' 387 = p) => ih (by omega) m'' (M1.tr q1) q2
      rw [gFv_s j0] at ih'
      obtain ⟨f, hf⟩ : ∃ f, f = gFv p V j := ⟨_, rfl⟩
      rw [← hf] at ih' ⊢
      clear ih h bt ez pw e0
      have nb : (0 : Int) ≠ 1 := by decide
      by_cases cb : gBt V j = true
      · rw [if_pos cb]
        by_cases cm : gMJ p j
        · rw [if_pos ⟨cb, cm⟩] at ih'
          repeat' (first | (with_reducible assumption) | (with_reducible rfl) | (with_reducible apply And.intro) | (with_reducible apply zIn_mk) | (with_reducible apply zLn_mk) | ((with_reducible intro _); try (exfalso; omega)) | omega | (with_reducible exact Or.inr trivial) | (with_reducible exact Or.inl trivial) | ((exact absurd rfl (by assumption))) | ((refine s256 (p := p) (by omega) M2 hI ?_ ?_)) | ((exact ih' _ (by assumption) (by assumption))) | ((exfalso; rename_i hx _ _; exact hx ⟨by omega, by omega, cm⟩)) | fail)
        · rw [if_neg (fun hh => cm hh.2), Nat.or_zero] at ih'
          repeat' (first | (with_reducible assumption) | (with_reducible rfl) | (with_reducible apply And.intro) | (with_reducible apply zIn_mk) | (with_reducible apply zLn_mk) | ((with_reducible intro _); try (exfalso; omega)) | omega | (with_reducible exact Or.inr trivial) | (with_reducible exact Or.inl trivial) | ((exact absurd rfl (by assumption))) | ((refine s256 (p := p) (by omega) M2 hI ?_ ?_)) | ((exfalso; exact absurd (by assumption) cm)) | ((exact ih' _ (by assumption) (by assumption))) | fail)
      · rw [if_neg cb]
        rw [if_neg (fun hh => cb hh.1), Nat.or_zero] at ih'
        have i1 := ih' m' (zSame.rf m') M2
        clear ih'
        repeat' (first | (with_reducible assumption) | (with_reducible rfl) | (with_reducible apply And.intro) | (with_reducible apply zIn_mk) | (with_reducible apply zLn_mk) | ((with_reducible intro _); try (exfalso; omega)) | omega | (with_reducible exact Or.inr trivial) | (with_reducible exact Or.inl trivial) | ((exact i1)) | ((exact absurd (by assumption) nb)) | fail)
  have ew : zshl 1 (p 2) = ((2 ^ (p 2).toNat : Nat) : Int) := zsh1 (by omega) (by omega)
  have l0 := loop 0 (by omega) (by omega) m (zSame.rf m) hp
  have z0 : gFv p V 0 = 0 := rfl
  rw [z0] at l0
  apply r263
  simp only [hp, ew]
  clear loop h
  obtain ⟨W, hw⟩ : ∃ W, W = 2 ^ (p 2).toNat := ⟨_, rfl⟩
  rw [← hw] at hV hW ⊢
  repeat' (first | (with_reducible assumption) | (with_reducible rfl) | (with_reducible apply And.intro) | (with_reducible apply zIn_mk) | (with_reducible apply zLn_mk) | ((with_reducible intro _); try (exfalso; omega)) | omega | (with_reducible exact Or.inr trivial) | (with_reducible exact Or.inl trivial) | ((refine s260 (by omega) ?_)) | ((exact l0)) | fail)
theorem s263b {d : Nat} {v : Int} {p : Int → Int} {x m : zM} {Q : Int → zM → zM → Prop} (hd : 16 ≤ d) (hp : m 387 = p) (hB : IB p) (hv : v < 0 ∨ ((2 ^ (p 2).toNat : Nat) : Int) ≤ v ∨ ∃ V : Nat, v = V ∧ 8 < gCn V) (h : Q (-7) x (zcM m (-7))) : WPc d 263 [zr 386, zi v] 403 [] x m 403 [] Q := by
  have hb := hB; unfold IB at hb
  have hW : 2 ^ (p 2).toNat ≤ 2 ^ 24 := Nat.pow_le_pow_right (by decide) (by omega)
  have ew : zshl 1 (p 2) = ((2 ^ (p 2).toNat : Nat) : Int) := zsh1 (by omega) (by omega)
  apply r263
  simp only [hp, ew]
  obtain ⟨W, hw⟩ : ∃ W, W = 2 ^ (p 2).toNat := ⟨_, rfl⟩
  rw [← hw] at hv hW ⊢
  have cs : v < 0 ∨ (W : Int) ≤ v ∨ (0 ≤ v ∧ v < W ∧ ∃ V : Nat, v = V ∧ 8 < gCn V) := by
    by_cases c1 : v < 0
    · exact Or.inl c1
    · by_cases c2 : (W : Int) ≤ v
      · exact Or.inr (Or.inl c2)
      · rcases hv with a | a | a
        · exact absurd a c1
        · exact absurd a c2
        · exact Or.inr (Or.inr ⟨by omega, by omega, a⟩)
  clear hv
  rcases cs with a | a | ⟨a, b, V, eV, c⟩
  · repeat' (first | (with_reducible assumption) | (with_reducible rfl) | (with_reducible apply And.intro) | (with_reducible apply zIn_mk) | (with_reducible apply zLn_mk) | ((with_reducible intro _); try (exfalso; omega)) | omega | (with_reducible exact Or.inr trivial) | (with_reducible exact Or.inl trivial) | ((refine s172 (by omega) ?_)) | ((exact h)) | fail)
  · repeat' (first | (with_reducible assumption) | (with_reducible rfl) | (with_reducible apply And.intro) | (with_reducible apply zIn_mk) | (with_reducible apply zLn_mk) | ((with_reducible intro _); try (exfalso; omega)) | omega | (with_reducible exact Or.inr trivial) | (with_reducible exact Or.inl trivial) | ((refine s172 (by omega) ?_)) | ((exact h)) | fail)
  · subst eV
    repeat' (first | (with_reducible assumption) | (with_reducible rfl) | (with_reducible apply And.intro) | (with_reducible apply zIn_mk) | (with_reducible apply zLn_mk) | ((with_reducible intro _); try (exfalso; omega)) | omega | (with_reducible exact Or.inr trivial) | (with_reducible exact Or.inl trivial) | ((refine s260 (by omega) ?_)) | ((refine s172 (by omega) ?_)) | ((exact h)) | fail)

