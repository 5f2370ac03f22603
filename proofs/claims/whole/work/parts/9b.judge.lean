/-! BEST and JUDGE: the calls -/
theorem t_best {d dM N : Nat} {a : Int} {x m : zM} {Q : Int → zM → zM → Prop} (hd : 40 ≤ d) (hdM : 40 ≤ dM) (hNN : N ≤ 600) (hI : Inv N x m) (K : ∀ q x', MOK N dM 263 [zr 386, zi a] q x' m → Q q x' m) : WPc d 144 [zr 0, zi a] 403 [] x m 403 [] Q := by
  obtain ⟨hF, hIF, hK, hO⟩ := id hI
  have hX := hF.1
  have hIx := hIF.1
  have hB := hIx.1
  have hA := hIx.2.1
  have hN := hIx.2.2.1
  have hM := hIF.2.1
  have hE := hIF.2.2.1
  have hb := hB; unfold IB at hb
  have hRL := hX.2.1
  have hRA := hX.2.2.1
  have hRN := hX.2.2.2.1
  have e10 : x 1 0 = m 387 0 := hX.1.1
  have e11 : x 1 1 = m 387 1 := hX.1.2.1
  have hC := hIF.2.2.2.2.2.1.1
  have hIP := hIF.2.2.2.2.2.2.2
  have c0 := hC.1
  have c1 : m 387 6161 ≤ 131998200 := by have := hC.2; omega
  have e14 : x 14 0 = m 387 2 := hRA.1
  have ew : zshl 1 (m 387 2) = ((2 ^ (m 387 2).toNat : Nat) : Int) := zsh1 (by omega) (by omega)
  have hW : 2 ^ (m 387 2).toNat ≤ 2 ^ 24 := Nat.pow_le_pow_right (by decide) (by omega)
  have hW1 : 1 ≤ 2 ^ (m 387 2).toNat := Nat.one_le_two_pow
  have bad : (a < 0 ∨ ((2 ^ (m 387 2).toNat : Nat) : Int) ≤ a ∨ ∃ V : Nat, a = V ∧ 8 < gCn V) → Q (-7) (zcX x (-7)) m := fun hv => by
    refine K _ _ ?_
    intro Q' hQ
    exact s263b (p := m 387) (by omega) rfl hB hv (hQ _ _ (Inv_c (by omega) (by omega) hI) (zu_ne _ _ _ (by decide)))
  by_cases u : 0 ≤ a ∧ a < ((2 ^ (m 387 2).toNat : Nat) : Int)
  · obtain ⟨V, hV⟩ : ∃ V : Nat, a = V := ⟨a.toNat, by omega⟩
    subst hV
    have hV2 : V < 2 ^ (m 387 2).toNat := by omega
    have hV4 : V < 2 ^ 24 := Nat.lt_of_lt_of_le hV2 hW
    have good : gCn V ≤ 8 → ∀ x', zSx x x' → Q (gBzf (m 387) (gFv (m 387) V (m 387 2)) (gFv (m 387) V (m 387 2)) (gFv (m 387) V (m 387 2)) 0) x' m := fun hn x' hx => by
      refine K _ _ ?_
      intro Q' hQ
      refine s263 (p := m 387) (by omega) rfl hIx hIP c0 c1 hV2 hn ?_
      intro mB q1 q2
      exact hQ _ _ (Inv_z hI (RF_s hx hF) hIF (q1 387 (by decide) (by decide) (by decide) (by decide) (by decide)) (q1 390 (by decide) (by decide) (by decide) (by decide) (by decide)) (fun k hk _ => hx k hk) (fun k hk => q1 k (by omega) (by omega) (by omega) (by omega) (by omega)) q2) (q1 2000 (by decide) (by decide) (by decide) (by decide) (by decide))
    have bad8 := fun (hn : 8 < gCn V) => bad (Or.inr (Or.inr ⟨V, rfl, hn⟩))
    apply r144
    simp only [e14, ew]
    clear bad
    obtain ⟨W, hw⟩ : ∃ W, W = 2 ^ (m 387 2).toNat := ⟨_, rfl⟩
    rw [← hw] at u hW hW1 ⊢
    clear ew hw hV2
    repeat' (first | (with_reducible assumption) | (with_reducible rfl) | (with_reducible apply And.intro) | (with_reducible apply zIn_mk) | (with_reducible apply zLn_mk) | ((with_reducible intro _); try (exfalso; omega)) | omega | (with_reducible exact Or.inr trivial) | (with_reducible exact Or.inl trivial) | ((refine k163 ?_ ?_)) | ((refine k161 (by omega) ?_)) | ((refine c282 hV4 ?_)) | ((refine c65 (p := m 387) (w := m 390) (by omega) hF hIx hIP c0 c1 hV4 (by omega) ?_; intro xB hB1)) | ((exact good (by omega) _ hB1)) | ((exact bad8 (by omega))) | fail)
  · have bad' := bad (by omega)
    apply r144
    simp only [e14, ew]
    clear bad
    obtain ⟨W, hw⟩ : ∃ W, W = 2 ^ (m 387 2).toNat := ⟨_, rfl⟩
    rw [← hw] at u hW hW1 ⊢
    clear ew hw
    repeat' (first | (with_reducible assumption) | (with_reducible rfl) | (with_reducible apply And.intro) | (with_reducible apply zIn_mk) | (with_reducible apply zLn_mk) | ((with_reducible intro _); try (exfalso; omega)) | omega | (with_reducible exact Or.inr trivial) | (with_reducible exact Or.inl trivial) | ((refine k163 ?_ ?_)) | ((refine k161 (by omega) ?_)) | ((exact bad')) | fail)

theorem c64 {d S : Nat} {p w : Int → Int} {x m : zM} {Q : Int → zM → zM → Prop} (hd : 10 ≤ d) (hF : RF x p w) (hI : IX p) (hIP : IP p) (c0 : 0 ≤ p 6161) (c1 : p 6161 ≤ 131998200) (hS : S < 2 ^ 24) (hz : ∀ j, p 2 ≤ j → gBt S j = false) (h1 : 0 ≤ gCash p S → gLn p S ≤ 0 → ∀ x', zSx x x' → Q 1 x' m) (h0 : (gCash p S < 0 ∨ 0 < gLn p S) → ∀ x', zSx x x' → Q 0 x' m) : WPc d 64 [zr 336, zi S] 403 [] x m 403 [] Q := by
  obtain ⟨hB, hA, hN, hR⟩ := id hI
  apply r64
  intro _
  refine ⟨by omega, ?_⟩
  refine c68 (p := p) (by omega) hF.1 hI hS ?_
  intro xB g1 g2 g3
  refine ⟨by omega, ?_⟩
  refine c70 (p := p) (by omega) (RF_s g1 hF).1 (RF_s g1 hF).2.2.2 hB hA hN hIP hS hz c0 c1 g2 g3 ?_ ?_
  · intro a b _
    exact ⟨Or.inr rfl, h1 a b _ g1⟩
  · intro a _
    exact ⟨Or.inl rfl, h0 a _ g1⟩
def gJsN (r : Int → Int) : Nat → Nat
  | 0 => 0
  | n + 1 => gJsN r n ||| 2 ^ (r n).toNat
def gJs (r : Int → Int) (j : Int) : Nat := gJsN r j.toNat
theorem gJs_s {r : Int → Int} {j : Int} (h : 0 ≤ j) : gJs r (j + 1) = gJs r j ||| 2 ^ (r j).toNat := by
  unfold gJs
  have e : (j + 1).toNat = j.toNat + 1 := by omega
  have e2 : (j.toNat : Int) = j := by omega
  rw [e, gJsN, e2]
def gOk (p r : Int → Int) (j : Int) : Prop := (0 ≤ r j ∧ r j < p 2) ∧ gBt (gJs r j) (r j) = false ∧ gMJ p (r j)
theorem c145L {d : Nat} {n : Int} {p w r : Int → Int} {x m : zM} {Q : Int → zM → zM → Prop} (hd : 20 ≤ d) (hF : RF x p w) (hI : IX p) (hIP : IP p) (c0 : 0 ≤ p 6161) (c1 : p 6161 ≤ 131998200) (n0 : 0 ≤ n) (n1 : n ≤ 12) (e08 : x 0 8 = n) (er : ∀ k, 0 ≤ k → k < 12 → x 328 k = r k) (hbad : ∀ j, 0 ≤ j → j < n → (∀ i, 0 ≤ i → i < j → gOk p r i) → ¬ gOk p r j → ∀ x', zSx x x' → Q (-7) (zcX x' (-7)) m) (h1 : (∀ i, 0 ≤ i → i < n → gOk p r i) → 0 ≤ gCash p (gJs r n) → gLn p (gJs r n) ≤ 0 → ∀ x', zSx x x' → Q 1 x' m) (h0 : (∀ i, 0 ≤ i → i < n → gOk p r i) → (gCash p (gJs r n) < 0 ∨ 0 < gLn p (gJs r n)) → ∀ x', zSx x x' → Q 0 x' m) : WP d 145 18 [(0, zr 0), (1, zi 0), (2, zi 0)] [] 403 [] x m 403 [] Q := by
  have hb := hI.1; unfold IB at hb
  have loop : ∀ j, 0 ≤ j → j ≤ n → (∀ i, 0 ≤ i → i < j → gOk p r i) → (∀ i, p 2 ≤ i → gBt (gJs r j) i = false) → ∀ x', zSx x x' → WP d 145 18 [(0, zr 0), (1, zi (gJs r j)), (2, zi j)] [] 403 [] x' m 403 [] Q := by
    refine zdown _ _ ?_
    intro j j0 j1 ih hg hz x' M1
    have e8 : x' 0 8 = n := by rw [M1 0 rfl]; exact e08
    have hF' := RF_s M1 hF
    have lt : gJs r j < 2 ^ 24 := gBt_lo (fun i hi => hz i (by omega))
    by_cases c : j = n
    · subst c
      have g1 := fun a b x'' (M2 : zSx x' x'') => h1 hg a b x'' (M1.tr M2)
      have g0 := fun a x'' (M2 : zSx x' x'') => h0 hg a x'' (M1.tr M2)
      apply r145_c18
      simp only [e8]
      clear ih hbad h1 h0 hg
      repeat' (first | (with_reducible assumption) | (with_reducible rfl) | (with_reducible apply And.intro) | (with_reducible apply zIn_mk) | (with_reducible apply zLn_mk) | ((with_reducible intro _); try (exfalso; omega)) | omega | (with_reducible exact Or.inr trivial) | (with_reducible exact Or.inl trivial) | ((refine c64 (p := p) (w := w) (by omega) hF' hI hIP c0 c1 lt hz ?_ ?_)) | ((exact g1 (by assumption) (by assumption) _ (by assumption))) | ((exact g0 (by assumption) _ (by assumption))) | fail)
    · have e328 : x' 328 j = r j := by rw [M1 328 rfl]; exact er j j0 (by omega)
      have hb' := fun (hn : ¬ gOk p r j) x'' (M2 : zSx x' x'') => hbad j j0 (by omega) hg hn x'' (M1.tr M2)
      have hX := hF'.1
      by_cases rg : 0 ≤ r j ∧ r j < p 2
      · have bt := zbit (a := gJs r j) (j := r j) (by omega) rg.1 (by omega)
        have pw : 2 ^ (r j).toNat < 2 ^ 31 := Nat.pow_lt_pow_right (by decide) (by omega)
        have ez : zor (gJs r j) (zshl 1 (r j)) = ((gJs r j ||| 2 ^ (r j).toNat : Nat) : Int) := by
          rw [zsh1 rg.1 (by omega)]
          exact zor_nat (by omega) pw
        by_cases cb : gBt (gJs r j) (r j) = true
        · have b2 := hb' (fun hh => by have := hh.2.1; rw [cb] at this; cases this) x' (zSx.rf x')
          apply r145_c18
          simp only [e8, e328, bt, if_pos cb]
          clear ih hbad h1 h0 hg hb' ez
          repeat' (first | (with_reducible assumption) | (with_reducible rfl) | (with_reducible apply And.intro) | (with_reducible apply zIn_mk) | (with_reducible apply zLn_mk) | ((with_reducible intro _); try (exfalso; omega)) | omega | (with_reducible exact Or.inr trivial) | (with_reducible exact Or.inl trivial) | ((refine k165 (p := p) hX (fun hh => absurd hh (by omega)) (fun _ _ => ?_); simp only [e328, bt, if_pos cb])) | ((refine k161 (by omega) ?_)) | ((exact b2)) | ((exact absurd (by assumption) (by decide))) | fail)
        · have cb' : gBt (gJs r j) (r j) = false := by cases e : gBt (gJs r j) (r j) with | true => exact absurd e cb | false => rfl
          by_cases cm : gMJ p (r j)
          · have ih' := ih (by omega) (fun i i0 i1 => by
              by_cases e : i = j
              · rw [e]; exact ⟨rg, cb', cm⟩
              · exact hg i i0 (by omega)) (fun i i0 => by
              rw [gJs_s j0, gBt_or, hz i i0, gBt_1 rg.1 (by omega), Bool.false_or]
              exact decide_eq_false (by omega))
            have ih2 := fun x'' (M2 : zSx x' x'') => ih' x'' (M1.tr M2)
            rw [gJs_s j0] at ih2
            apply r145_c18
            simp only [e8, e328, bt, if_neg cb]
            clear ih ih' hbad h1 h0 hg hb'
            repeat' (first | (with_reducible assumption) | (with_reducible rfl) | (with_reducible apply And.intro) | (with_reducible apply zIn_mk) | (with_reducible apply zLn_mk) | ((with_reducible intro _); try (exfalso; omega)) | omega | (with_reducible exact Or.inr trivial) | (with_reducible exact Or.inl trivial) | ((refine k165 (p := p) hX (fun hh => absurd hh (by omega)) (fun _ _ => ?_); simp only [e328, bt, if_neg cb])) | ((exact absurd rfl (by assumption))) | ((refine c63 (p := p) (by omega) hX hI rg.1 rg.2 (fun _ xB hB1 => ?_) (fun hh => absurd cm hh); simp only [hB1 328 rfl, e328, ez])) | ((exact ih2 _ hB1)) | fail)
          · have b2 := hb' (fun hh => cm hh.2.2)
            apply r145_c18
            simp only [e8, e328, bt, if_neg cb]
            clear ih hbad h1 h0 hg hb'
            repeat' (first | (with_reducible assumption) | (with_reducible rfl) | (with_reducible apply And.intro) | (with_reducible apply zIn_mk) | (with_reducible apply zLn_mk) | ((with_reducible intro _); try (exfalso; omega)) | omega | (with_reducible exact Or.inr trivial) | (with_reducible exact Or.inl trivial) | ((refine k165 (p := p) hX (fun hh => absurd hh (by omega)) (fun _ _ => ?_); simp only [e328, bt, if_neg cb])) | ((exact absurd rfl (by assumption))) | ((refine c63 (p := p) (by omega) hX hI rg.1 rg.2 (fun hh => absurd hh cm) (fun _ xB hB1 => ?_))) | ((refine k161 (by omega) ?_)) | ((exact b2 _ hB1)) | fail)
      · have b2 := hb' (fun hh => rg hh.1) x' (zSx.rf x')
        apply r145_c18
        simp only [e8, e328]
        clear ih hbad h1 h0 hg hb'
        repeat' (first | (with_reducible assumption) | (with_reducible rfl) | (with_reducible apply And.intro) | (with_reducible apply zIn_mk) | (with_reducible apply zLn_mk) | ((with_reducible intro _); try (exfalso; omega)) | omega | (with_reducible exact Or.inr trivial) | (with_reducible exact Or.inl trivial) | ((refine k165 (p := p) hX ?_ ?_)) | ((refine k161 (by omega) ?_)) | ((exact b2)) | fail)
  exact loop 0 (by omega) n0 (fun i i0 i1 => by omega) (fun i _ => gBt_0 i) x (zSx.rf x)
theorem s264L {d : Nat} {n I : Int} {p r : Int → Int} {x m : zM} {Q : Int → zM → zM → Prop} (hd : 20 ≤ d) (hp : m 387 = p) (hI : IX p) (hIP : IP p) (c0 : 0 ≤ p 6161) (c1 : p 6161 ≤ 131998200) (n0 : 0 ≤ n) (n1 : n ≤ 12) (e08 : m 386 10 = n) (er : ∀ k, 0 ≤ k → k < 12 → m 395 k = r k) (I0 : 0 ≤ I) (I1 : I ≤ n) (hg : ∀ i, 0 ≤ i → i < I → gOk p r i) (hbad : I < n → ¬ gOk p r I ∧ ∀ m', (∀ k, k ≠ 386 → k ≠ 397 → k ≠ 398 → m' k = m k) → (∀ i, i ≠ 23 → m' 386 i = m 386 i) → Q (-7) x (zcM m' (-7))) (h1 : I = n → 0 ≤ gCash p (gJs r n) → gLn p (gJs r n) ≤ 0 → ∀ m', (∀ k, k ≠ 386 → k ≠ 397 → k ≠ 398 → k ≠ 401 → k ≠ 402 → m' k = m k) → (∀ i, i ≠ 23 → m' 386 i = m 386 i) → Q 1 x m') (h0 : I = n → (gCash p (gJs r n) < 0 ∨ 0 < gLn p (gJs r n)) → ∀ m', (∀ k, k ≠ 386 → k ≠ 397 → k ≠ 398 → k ≠ 401 → k ≠ 402 → m' k = m k) → (∀ i, i ≠ 23 → m' 386 i = m 386 i) → Q 0 x m') : WP d 264 18 [(0, zr 386), (1, zi 0), (2, zi 0)] [] 403 [] x m 403 [] Q := by
  obtain ⟨hB, hA, hN, hR⟩ := id hI
  have hb := hB; unfold IB at hb
  have loop : ∀ j, 0 ≤ j → j ≤ I → (∀ i, p 2 ≤ i → gBt (gJs r j) i = false) → ∀ m', zSame m m' → m' 387 = p → WP d 264 18 [(0, zr 386), (1, zi (gJs r j)), (2, zi j)] [] 403 [] x m' 403 [] Q := by
    refine zdown _ _ ?_
    intro j j0 j1 ih hz m' M1 M2
    have e8 : m' 386 10 = n := by rw [M1.2 10 (by omega)]; exact e08
    have lt : gJs r j < 2 ^ 24 := gBt_lo (fun i hi => hz i (by omega))
    have nb : (0 : Int) ≠ 1 := by decide
    by_cases c : j < n
    · have e395 : m' 395 j = r j := by rw [M1.1 395 (by decide) (by decide) (by decide)]; exact er j j0 (by omega)
      by_cases cI : j < I
      · obtain ⟨rg, cb', cm⟩ := hg j j0 cI
        have cb : ¬ gBt (gJs r j) (r j) = true := fun hh => by rw [cb'] at hh; cases hh
        have bt := zbit (a := gJs r j) (j := r j) (by omega) rg.1 (by omega)
        have pw : 2 ^ (r j).toNat < 2 ^ 31 := Nat.pow_lt_pow_right (by decide) (by omega)
        have ez : zor (gJs r j) (zshl 1 (r j)) = ((gJs r j ||| 2 ^ (r j).toNat : Nat) : Int) := by
          rw [zsh1 rg.1 (by omega)]
          exact zor_nat (by omega) pw
        have ih2 := fun m'' (q1 : zSame m' m'') (q2 : m'' 387 = p) => ih cI (fun i i0 => by
          rw [gJs_s j0, gBt_or, hz i i0, gBt_1 rg.1 (by omega), Bool.false_or]
          exact decide_eq_false (by omega)) m'' (M1.tr q1) q2
        rw [gJs_s j0] at ih2
        apply r264_c18
        simp only [e8, e395]
        clear ih hbad h1 h0 hg
        repeat' (first | (with_reducible assumption) | (with_reducible rfl) | (with_reducible apply And.intro) | (with_reducible apply zIn_mk) | (with_reducible apply zLn_mk) | ((with_reducible intro _); try (exfalso; omega)) | omega | (with_reducible exact Or.inr trivial) | (with_reducible exact Or.inl trivial) | ((refine s256 (p := p) (by omega) M2 hI (fun _ _ _ mB q1 q2 => ?_) (fun hh => absurd ⟨rg.1, rg.2, cm⟩ hh); simp only [q1.1 395 (by decide) (by decide) (by decide), e395, bt, if_neg cb, ez])) | ((exact ih2 _ q1 q2)) | ((exact absurd (by assumption) nb)) | fail)
      · obtain ⟨nk, hq⟩ := hbad (by omega)
        have eI : I = j := by omega
        subst eI
        have b2 := fun m'' (q1 : zSame m' m'') => hq m'' (fun k k0 k1 k2 => (M1.tr q1).1 k k1 k2 k0) (fun i i0 => (M1.tr q1).2 i i0)
        by_cases ok : 0 ≤ r I ∧ r I < p 2 ∧ gMJ p (r I)
        · have cb : gBt (gJs r I) (r I) = true := by
            cases e : gBt (gJs r I) (r I) with
            | true => rfl
            | false => exact absurd ⟨⟨ok.1, ok.2.1⟩, e, ok.2.2⟩ nk
          have bt := zbit (a := gJs r I) (j := r I) (by omega) ok.1 (by omega)
          apply r264_c18
          simp only [e8, e395]
          clear ih hbad h1 h0 hg hq nk
          repeat' (first | (with_reducible assumption) | (with_reducible rfl) | (with_reducible apply And.intro) | (with_reducible apply zIn_mk) | (with_reducible apply zLn_mk) | ((with_reducible intro _); try (exfalso; omega)) | omega | (with_reducible exact Or.inr trivial) | (with_reducible exact Or.inl trivial) | ((refine s256 (p := p) (by omega) M2 hI (fun _ _ _ mB q1 q2 => ?_) (fun hh => absurd ok hh); simp only [q1.1 395 (by decide) (by decide) (by decide), e395, bt, if_pos cb])) | ((refine s172 (by omega) ?_)) | ((exact b2 _ q1)) | ((exact absurd rfl (by assumption))) | fail)
        · apply r264_c18
          simp only [e8, e395]
          clear ih hbad h1 h0 hg hq nk
          repeat' (first | (with_reducible assumption) | (with_reducible rfl) | (with_reducible apply And.intro) | (with_reducible apply zIn_mk) | (with_reducible apply zLn_mk) | ((with_reducible intro _); try (exfalso; omega)) | omega | (with_reducible exact Or.inr trivial) | (with_reducible exact Or.inl trivial) | ((refine s256 (p := p) (by omega) M2 hI (fun a b c => absurd ⟨a, b, c⟩ ok) (fun _ mB q1 q2 => ?_))) | ((refine s172 (by omega) ?_)) | ((exact b2 _ q1)) | fail)
    · have eI : I = n := by omega
      have ej : j = n := by omega
      subst ej
      have fin := fun m'' (q1 : ∀ k, k ≠ 386 → k ≠ 397 → k ≠ 398 → k ≠ 401 → k ≠ 402 → m'' k = m' k) (q2 : ∀ i, i ≠ 23 → m'' 386 i = m' 386 i) (q3 : ∀ k, 0 ≤ k → k < 8 → m'' 401 k = gCom p k) (q4 : ∀ a, 0 ≤ a → a < p 2 → gBt (gJs r j) a = true → ∀ k, 0 ≤ k → k < 8 → m'' 402 (8 * a + k) = gBr p a k) => s259 (d := d - 1) (x := x) (m := m'') (Q := fun q x m => (q = 0 ∨ q = 1) → (q = 0 → Q 0 x m) ∧ (q ≠ 0 → Q 1 x m)) (p := p) (S := gJs r j) (by omega) (by rw [q1 387 (by decide) (by decide) (by decide) (by decide) (by decide)]; exact M2) hB hA hN hIP lt c0 c1 q3 q4 (fun a b _ => ⟨fun e => absurd e (by decide), fun _ => h1 eI a b m'' (fun k k0 k1 k2 k3 k4 => by rw [q1 k k0 k1 k2 k3 k4]; exact M1.1 k k1 k2 k0) (fun i i0 => by rw [q2 i i0]; exact M1.2 i i0)⟩) (fun a _ => ⟨fun _ => h0 eI a m'' (fun k k0 k1 k2 k3 k4 => by rw [q1 k k0 k1 k2 k3 k4]; exact M1.1 k k1 k2 k0) (fun i i0 => by rw [q2 i i0]; exact M1.2 i i0), fun e => absurd rfl e⟩)
      apply r264_c18
      simp only [e8]
      clear ih hbad h1 h0 hg
      repeat' (first | (with_reducible assumption) | (with_reducible rfl) | (with_reducible apply And.intro) | (with_reducible apply zIn_mk) | (with_reducible apply zLn_mk) | ((with_reducible intro _); try (exfalso; omega)) | omega | (with_reducible exact Or.inr trivial) | (with_reducible exact Or.inl trivial) | ((refine s257 (p := p) (by omega) M2 hI lt ?_; intro mB g1 g2 g3 g4)) | ((exact fin mB g1 g2 g3 g4)) | fail)
  exact loop 0 (by omega) I0 (fun i _ => gBt_0 i) m (zSame.rf m) hp

theorem t_judge {d dM N : Nat} {x m : zM} {Q : Int → zM → zM → Prop} (hd : 40 ≤ d) (hdM : 40 ≤ dM) (hNN : N ≤ 600) (hI : Inv N x m) (K : ∀ q x', MOK N dM 264 [zr 386] q x' m → Q q x' m) : WPc d 145 [zr 0] 403 [] x m 403 [] Q := by
  obtain ⟨hF, hIF, hK, hO⟩ := id hI
  have hX := hF.1
  have hIx := hIF.1
  have hB := hIx.1
  have hA := hIx.2.1
  have hN := hIx.2.2.1
  have hM := hIF.2.1
  have hE := hIF.2.2.1
  have hb := hB; unfold IB at hb
  have hRL := hX.2.1
  have hRA := hX.2.2.1
  have hRN := hX.2.2.2.1
  have e10 : x 1 0 = m 387 0 := hX.1.1
  have e11 : x 1 1 = m 387 1 := hX.1.2.1
  have hC := hIF.2.2.2.2.2.1.1
  have hIP := hIF.2.2.2.2.2.2.2
  have c0 := hC.1
  have c1 : m 387 6161 ≤ 131998200 := by have := hC.2; omega
  have hCnt := hO.2.2.2.1
  have hRow := hO.2.2.2.2.1
  have bad : ∀ x', zSx x x' → (∀ Q' : Int → zM → zM → Prop, (∀ m', (∀ k, k ≠ 386 → k ≠ 397 → k ≠ 398 → m' k = m k) → (∀ i, i ≠ 23 → m' 386 i = m 386 i) → Q' (-7) (zcX x' (-7)) (zcM m' (-7))) → WPc dM 264 [zr 386] 403 [] (zcX x' (-7)) m 403 [] Q') → Q (-7) (zcX x' (-7)) m := fun x' hx hw => by
    refine K _ _ ?_
    intro Q' hQ
    refine hw Q' ?_
    intro m' q1 q2
    refine hQ _ _ (Inv_c (by omega) (by omega) ?_) ?_
    · exact Inv_s0 hx ⟨fun k k0 k1 k2 => q1 k k2 k0 k1, q2⟩ hI
    · show zcM m' (-7) 2000 = m 2000
      unfold zcM
      rw [zu_ne _ _ _ (by decide)]
      exact q1 2000 (by decide) (by decide) (by decide)
  have good : ∀ (b : Int) x', zSx x x' → (∀ Q' : Int → zM → zM → Prop, (∀ m', (∀ k, k ≠ 386 → k ≠ 397 → k ≠ 398 → k ≠ 401 → k ≠ 402 → m' k = m k) → (∀ i, i ≠ 23 → m' 386 i = m 386 i) → Q' b x' m') → WPc dM 264 [zr 386] 403 [] x' m 403 [] Q') → Q b x' m := fun b x' hx hw => by
    refine K _ _ ?_
    intro Q' hQ
    refine hw Q' ?_
    intro m' q1 q2
    exact hQ _ _ (Inv_z hI (RF_s hx hF) hIF (q1 387 (by decide) (by decide) (by decide) (by decide) (by decide)) (q1 390 (by decide) (by decide) (by decide) (by decide) (by decide)) (fun k hk _ => hx k hk) (fun k hk => q1 k (by omega) (by omega) (by omega) (by omega) (by omega)) q2) (q1 2000 (by decide) (by decide) (by decide) (by decide) (by decide))
  rcases hCnt with ⟨n0, n1⟩ | ⟨n0, n1, n2⟩
  · clear bad good
    apply r145
    repeat' (first | (with_reducible assumption) | (with_reducible rfl) | (with_reducible apply And.intro) | (with_reducible apply zIn_mk) | (with_reducible apply zLn_mk) | ((with_reducible intro _); try (exfalso; omega)) | omega | (with_reducible exact Or.inr trivial) | (with_reducible exact Or.inl trivial) | ((refine k161 (by omega) ?_)) | ((refine K _ _ ?_; intro Q' hQ; apply r264)) | ((refine s172 (by omega) ?_)) | ((exact hQ _ _ (Inv_c (by omega) (by omega) hI) (zu_ne _ _ _ (by decide)))) | fail)
  · have enter : ∀ {x' : zM} {Q' : Int → zM → zM → Prop}, WP dM 264 18 [(0, zr 386), (1, zi 0), (2, zi 0)] [] 403 [] x' m 403 [] Q' → WPc dM 264 [zr 386] 403 [] x' m 403 [] Q' := fun hw => by
      apply r264
      exact ⟨fun _ => hw, fun hh => absurd n0 (by omega)⟩
    have main : WP d 145 18 [(0, zr 0), (1, zi 0), (2, zi 0)] [] 403 [] x m 403 [] Q := by
      refine c145L (p := m 387) (w := m 390) (r := m 395) (n := m 386 10) (by omega) hF hIx hIP c0 c1 n0 n1 n2 hRow ?_ ?_ ?_
      · intro j j0 j1 hg hn x' hx
        refine bad x' hx ?_
        intro Q' hw
        refine enter ?_
        exact s264L (p := m 387) (r := m 395) (n := m 386 10) (I := j) (by omega) rfl hIx hIP c0 c1 n0 n1 rfl (fun _ _ _ => rfl) j0 (by omega) hg (fun _ => ⟨hn, hw⟩) (fun e => absurd e (by omega)) (fun e => absurd e (by omega))
      · intro hg a b x' hx
        refine good 1 x' hx ?_
        intro Q' hw
        refine enter ?_
        exact s264L (p := m 387) (r := m 395) (n := m 386 10) (I := m 386 10) (by omega) rfl hIx hIP c0 c1 n0 n1 rfl (fun _ _ _ => rfl) n0 (by omega) hg (fun e => absurd e (by omega)) (fun _ _ _ => hw) (fun _ hh => by omega)
      · intro hg a x' hx
        refine good 0 x' hx ?_
        intro Q' hw
        refine enter ?_
        exact s264L (p := m 387) (r := m 395) (n := m 386 10) (I := m 386 10) (by omega) rfl hIx hIP c0 c1 n0 n1 rfl (fun _ _ _ => rfl) n0 (by omega) hg (fun e => absurd e (by omega)) (fun _ hh hh' => by omega) (fun _ _ => hw)
    apply r145
    rw [n2]
    exact ⟨fun _ => main, fun hh => absurd n0 (by omega)⟩

