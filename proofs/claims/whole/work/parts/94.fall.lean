/-! FALL: the model's side -/
theorem s266a {d : Nat} {v c : Int} {x m : zM} {Q : Int → zM → zM → Prop} (h : WP d 266 98 [(0, zr 386), (2, zi c), (3, zi 0), (4, zi (zshl 1 v)), (5, zi 0), (6, zi 0)] [] 403 [] x (zcpy (zcpy m 387 0 389 0 6163) 390 0 392 0 128) 403 [] Q) : WP d 266 33 [(0, zr 386), (1, zi v), (2, zi c), (3, zi 0)] [] 403 [] x m 403 [] Q := by
  have loop2 : ∀ j, 0 ≤ j → j ≤ 128 → WP d 266 60 [(0, zr 386), (1, zi v), (2, zi c), (3, zi j)] [] 403 [] x (zcpy (zcpy m 387 0 389 0 6163) 390 0 392 0 j) 403 [] Q := by
    refine zdown 128 _ ?_
    intro j j0 j1 ih
    apply r266_c60
    repeat' (first | (with_reducible assumption) | (with_reducible rfl) | (with_reducible apply And.intro) | (with_reducible apply zIn_mk) | (with_reducible apply zLn_mk) | ((with_reducible intro _); try (exfalso; omega)) | omega | (with_reducible exact Or.inr trivial) | (with_reducible exact Or.inl trivial) | ((rw [zcpy_st _ (by decide) j j0]; exact ih (by omega))) | ((rw [show j = 128 by omega]; exact h)) | fail)
  have loop1 : ∀ j, 0 ≤ j → j ≤ 6163 → WP d 266 33 [(0, zr 386), (1, zi v), (2, zi c), (3, zi j)] [] 403 [] x (zcpy m 387 0 389 0 j) 403 [] Q := by
    refine zdown 6163 _ ?_
    intro j j0 j1 ih
    have l2 := loop2 0 (by omega) (by omega)
    rw [zcpy_z] at l2
    apply r266_c33
    clear loop2
    repeat' (first | (with_reducible assumption) | (with_reducible rfl) | (with_reducible apply And.intro) | (with_reducible apply zIn_mk) | (with_reducible apply zLn_mk) | ((with_reducible intro _); try (exfalso; omega)) | omega | (with_reducible exact Or.inr trivial) | (with_reducible exact Or.inl trivial) | ((rw [zcpy_st _ (by decide) j j0]; exact ih (by omega))) | ((rw [show j = 6163 by omega]; exact l2)) | fail)
  have l1 := loop1 0 (by omega) (by omega)
  rwa [zcpy_z] at l1
theorem s266b {d : Nat} {c a l i : Int} {x m : zM} {Q : Int → zM → zM → Prop} (h : Q (if c = 0 then a else if c = 1 then l else i) x (zcpy (zcpy m 389 0 387 0 6163) 392 0 390 0 128)) : WP d 266 223 [(0, zr 386), (2, zi c), (3, zi a), (5, zi l), (6, zi i), (7, zi 0)] [] 403 [] x m 403 [] Q := by
  have loop2 : ∀ j, 0 ≤ j → j ≤ 128 → WP d 266 254 [(0, zr 386), (2, zi c), (3, zi a), (5, zi l), (6, zi i), (7, zi j)] [] 403 [] x (zcpy (zcpy m 389 0 387 0 6163) 392 0 390 0 j) 403 [] Q := by
    refine zdown 128 _ ?_
    intro j j0 j1 ih
    have hend : j = 128 → Q (if c = 0 then a else if c = 1 then l else i) x (zcpy (zcpy m 389 0 387 0 6163) 392 0 390 0 j) := fun e => by rw [e]; exact h
    apply r266_c254
    clear h
    repeat' (first | (with_reducible assumption) | (with_reducible rfl) | (with_reducible apply And.intro) | (with_reducible apply zIn_mk) | (with_reducible apply zLn_mk) | ((with_reducible intro _); try (exfalso; omega)) | omega | (with_reducible exact Or.inr trivial) | (with_reducible exact Or.inl trivial) | ((rw [zcpy_st _ (by decide) j j0]; exact ih (by omega))) | ((have h2 := hend (by omega); rw [if_pos (by omega)] at h2; exact h2)) | ((have h2 := hend (by omega); rw [if_neg (by omega), if_pos (by omega)] at h2; exact h2)) | ((have h2 := hend (by omega); rw [if_neg (by omega), if_neg (by omega)] at h2; exact h2)) | fail)
  have loop1 : ∀ j, 0 ≤ j → j ≤ 6163 → WP d 266 223 [(0, zr 386), (2, zi c), (3, zi a), (5, zi l), (6, zi i), (7, zi j)] [] 403 [] x (zcpy m 389 0 387 0 j) 403 [] Q := by
    refine zdown 6163 _ ?_
    intro j j0 j1 ih
    have l2 := loop2 0 (by omega) (by omega)
    rw [zcpy_z] at l2
    apply r266_c223
    clear loop2 h
    repeat' (first | (with_reducible assumption) | (with_reducible rfl) | (with_reducible apply And.intro) | (with_reducible apply zIn_mk) | (with_reducible apply zLn_mk) | ((with_reducible intro _); try (exfalso; omega)) | omega | (with_reducible exact Or.inr trivial) | (with_reducible exact Or.inl trivial) | ((rw [zcpy_st _ (by decide) j j0]; exact ih (by omega))) | ((rw [show j = 6163 by omega]; exact l2)) | fail)
  have l1 := loop1 0 (by omega) (by omega)
  rwa [zcpy_z] at l1
theorem s266 {d N : Nat} {v c I : Int} {p w : Int → Int} {x m : zM} {Q : Int → zM → zM → Prop} (hd : 8 ≤ d) (hp : m 387 = p) (hw : m 390 = w) (hIF : IF N p w) (v0 : 0 ≤ v) (v1 : v < p 1) (I0 : 0 ≤ I) (I1 : I ≤ 16) (hall : ∀ i, 0 ≤ i → i < I → (gS p v i).2.2 ≠ 0) (hz : (gS p v I).2.2 = 0) (h : ∀ m', (∀ k, k ≠ 387 → k ≠ 389 → k ≠ 390 → k ≠ 392 → m' k = m k) → m' 387 = p → m' 390 = w → Q (if c = 0 then ((gS p v I).2.1 : Int) else if c = 1 then (gS p v I).1 6160 - p 6160 else I) x m') : WP d 266 33 [(0, zr 386), (1, zi v), (2, zi c), (3, zi 0)] [] 403 [] x m 403 [] Q := by
  have hB := hIF.1.1
  have hb := hB; unfold IB at hb
  have hC := hIF.2.2.2.2.2.1
  have hc := hC; unfold IC at hc
  have hY := hIF.2.2.2.2.1
  have h0 : gTr p p := gTr_0 hB hIF.1.2.1 hIF.1.2.2.1 hIF.2.2.1 hIF.2.2.2.1.1 hY
  obtain ⟨mA, hA⟩ : ∃ mA, mA = zcpy (zcpy m 387 0 389 0 6163) 390 0 392 0 128 := ⟨_, rfl⟩
  have A1 : ∀ k, k ≠ 389 → k ≠ 392 → mA k = m k := fun k k0 k1 => by rw [hA, zcpy_ne _ _ _ _ k1, zcpy_ne _ _ _ _ k0]
  have A389 : ∀ i, 0 ≤ i → i < 6163 → mA 389 i = p i := fun i i0 i1 => by rw [hA, zcpy_ne _ _ _ _ (by decide), zcpy_in _ (by omega), hp, show 0 + (i - 0) = i by omega]
  have A392 : ∀ i, 0 ≤ i → i < 128 → mA 392 i = w i := fun i i0 i1 => by rw [hA, zcpy_in _ (by omega), zcpy_ne _ _ _ _ (by decide), hw, show 0 + (i - 0) = i by omega]
  have A387 : mA 387 = p := by rw [A1 387 (by decide) (by decide)]; exact hp
  have A390 : mA 390 = w := by rw [A1 390 (by decide) (by decide)]; exact hw
  have loop : ∀ j, 0 ≤ j → j ≤ I → WP d 266 98 [(0, zr 386), (2, zi c), (3, zi (gS p v j).2.1), (4, zi (gS p v j).2.2), (5, zi ((gS p v j).1 6160 - p 6160)), (6, zi j)] [] 403 [] x (zP mA (gS p v j).1) 403 [] Q := by
    refine zdown _ _ ?_
    intro j j0 j1 ih
    obtain ⟨J1, J2, J3, J4⟩ := gS_J hY h0 v0 v1 j j0
    obtain ⟨l1, l2⟩ := gS_lt hY h0 v0 v1 j0
    have hend : j = I → WP d 266 223 [(0, zr 386), (2, zi c), (3, zi (gS p v j).2.1), (5, zi ((gS p v j).1 6160 - p 6160)), (6, zi j), (7, zi 0)] [] 403 [] x (zP mA (gS p v j).1) 403 [] Q := fun e => by
      refine s266b ?_
      have k := h (zcpy (zcpy (zP mA (gS p v j).1) 389 0 387 0 6163) 392 0 390 0 128) (fun k k0 k1 k2 k3 => by rw [zcpy_ne _ _ _ _ k2, zcpy_ne _ _ _ _ k0, zP_ne _ _ k0, A1 k k1 k3]) (by
        rw [zcpy_ne _ _ _ _ (by decide)]
        funext i
        by_cases ci : 0 ≤ i ∧ i < 0 + 6163
        · rw [zcpy_in _ ci, zP_ne _ _ (by decide), show 0 + (i - 0) = i by omega]
          exact A389 i ci.1 (by omega)
        · rw [zcpy_out _ (by omega), zP_eq]
          exact J1.2.2.2.2.2.1 i (by omega) (by omega) (by omega)) (by
        funext i
        by_cases ci : 0 ≤ i ∧ i < 0 + 128
        · rw [zcpy_in _ ci, zcpy_ne _ _ _ _ (by decide), zP_ne _ _ (by decide), show 0 + (i - 0) = i by omega]
          exact A392 i ci.1 (by omega)
        · rw [zcpy_out _ (by omega), zcpy_ne _ _ _ _ (by decide), zP_ne _ _ (by decide), A390])
      rw [e]
      rw [e] at k
      exact k
    apply r266_c98
    by_cases cj : j = I
    · have h2 := hend cj
      have f0 : (((gS p v j).2.2 : Nat) : Int) = 0 := by rw [cj, hz]; rfl
      rw [f0]
      clear hend ih h
      repeat' (first | (with_reducible assumption) | (with_reducible rfl) | (with_reducible apply And.intro) | (with_reducible apply zIn_mk) | (with_reducible apply zLn_mk) | ((with_reducible intro _); try (exfalso; omega)) | omega | (with_reducible exact Or.inr trivial) | (with_reducible exact Or.inl trivial) | ((exact h2)) | fail)
    · have fn : (((gS p v j).2.2 : Nat) : Int) ≠ 0 := by have := hall j j0 (by omega); omega
      have ih' := ih (by omega)
      rw [gS_s j0] at ih'
      dsimp only at ih'
      clear hend ih h
      obtain ⟨q, hq⟩ : ∃ q, q = (gS p v j).1 := ⟨_, rfl⟩
      obtain ⟨a, ha⟩ : ∃ a, a = (gS p v j).2.1 := ⟨_, rfl⟩
      obtain ⟨f, hf⟩ : ∃ f, f = (gS p v j).2.2 := ⟨_, rfl⟩
      rw [← hq] at J1 ih' ⊢
      rw [← ha] at J2 l1 ih' ⊢
      rw [← hf] at J2 l2 fn ih' ⊢
      have lor : a ||| f < 2 ^ 16 := Nat.or_lt_two_pow l1 l2
      have eor : zor a f = ((a ||| f : Nat) : Int) := zor_nat (by omega) (by omega)
      simp only [eor]
      have T := (gFa_J (f := f) hY J1 (p 1) (by omega)).1
      -- the next ones
      have loopN : ∀ n, 0 ≤ n → n ≤ p 1 → WP d 266 163 [(0, zr 386), (2, zi c), (3, zi (a ||| f : Nat)), (4, zi (gNx (gFa f q (p 1)) (a ||| f) n)), (5, zi (gFa f q (p 1) 6160 - p 6160)), (6, zi (j + 1)), (7, zi n)] [] 403 [] x (zP mA (gFa f q (p 1))) 403 [] Q := by
        obtain ⟨r, hr⟩ : ∃ r, r = gFa f q (p 1) := ⟨_, rfl⟩
        rw [← hr] at ih' T ⊢
        have t1 : r 1 = p 1 := T.2.2.2.2.2.1 1 (by omega) (by omega) (by omega)
        refine zdown _ _ ?_
        intro n n0 n1 ihN
        have hendN : n = p 1 → WP d 266 98 [(0, zr 386), (2, zi c), (3, zi (a ||| f : Nat)), (4, zi (gNx r (a ||| f) n)), (5, zi (r 6160 - p 6160)), (6, zi (j + 1))] [] 403 [] x (zP mA r) 403 [] Q := fun e => by rw [e]; exact ih'
        have bt := zbit (a := a ||| f) (j := n) (by omega) n0 (by omega)
        have nlt := gNx_lt (q := r) (a := a ||| f) n0 (by omega)
        have pw : 2 ^ n.toNat < 2 ^ 31 := Nat.pow_lt_pow_right (by decide) (by omega)
        have ez : zor (gNx r (a ||| f) n) (zshl 1 n) = ((gNx r (a ||| f) n ||| 2 ^ n.toNat : Nat) : Int) := by
          rw [zsh1 n0 (by omega)]
          exact zor_nat (by omega) pw
        have e0 : zor (gNx r (a ||| f) n) 0 = (gNx r (a ||| f) n : Int) := zor_0 (by unfold zIn; omega)
        rw [gNx_s n0] at ihN
        apply r266_c163
        simp only [zP_eq, t1, bt, ez, e0]
        clear bt ez e0 pw ih'
        by_cases cn : n < p 1
        · have ih2 := ihN cn
          clear ihN hendN
          by_cases cb : gBt (a ||| f) n = true
          · rw [if_pos cb]
            rw [if_neg (fun hh => by rw [cb] at hh; cases hh.1), Nat.or_zero] at ih2
            repeat' (first | (with_reducible assumption) | (with_reducible rfl) | (with_reducible apply And.intro) | (with_reducible apply zIn_mk) | (with_reducible apply zLn_mk) | ((with_reducible intro _); try (exfalso; omega)) | omega | (with_reducible exact Or.inr trivial) | (with_reducible exact Or.inl trivial) | ((exact ih2)) | ((exact absurd rfl (by assumption))) | fail)
          · rw [if_neg cb]
            have cb' : gBt (a ||| f) n = false := by cases e : gBt (a ||| f) n with | true => exact absurd e cb | false => rfl
            repeat' (first | (with_reducible assumption) | (with_reducible rfl) | (with_reducible apply And.intro) | (with_reducible apply zIn_mk) | (with_reducible apply zLn_mk) | ((with_reducible intro _); try (exfalso; omega)) | omega | (with_reducible exact Or.inr trivial) | (with_reducible exact Or.inl trivial) | ((exact absurd rfl (by assumption))) | ((refine s181 (p := r) (zP_eq _ _) (by omega) T.1 ?_)) | ((refine s193 (p := r) (zP_eq _ _) (by omega) T.1 T.2.1 T.2.2.1 ?_)) | ((rw [if_neg (fun hh => by omega), Nat.or_zero] at ih2; exact ih2)) | ((rw [if_pos ⟨cb', by omega⟩] at ih2; exact ih2)) | fail)
        · have h2 := hendN (by omega)
          clear ihN hendN
          repeat' (first | (with_reducible assumption) | (with_reducible rfl) | (with_reducible apply And.intro) | (with_reducible apply zIn_mk) | (with_reducible apply zLn_mk) | ((with_reducible intro _); try (exfalso; omega)) | omega | (with_reducible exact Or.inr trivial) | (with_reducible exact Or.inl trivial) | ((exact h2)) | fail)
      -- all that fall
      have loopF : ∀ n, 0 ≤ n → n ≤ p 1 → WP d 266 114 [(0, zr 386), (2, zi c), (3, zi (a ||| f : Nat)), (4, zi f), (5, zi (gFa f q n 6160 - p 6160)), (6, zi (j + 1)), (7, zi n)] [] 403 [] x (zP mA (gFa f q n)) 403 [] Q := by
        refine zdown _ _ ?_
        intro n n0 n1 ihF
        obtain ⟨U, U6⟩ := gFa_J (f := f) hY J1 n n0
        have hendF : n = p 1 → WP d 266 163 [(0, zr 386), (2, zi c), (3, zi (a ||| f : Nat)), (4, zi 0), (5, zi (gFa f q n 6160 - p 6160)), (6, zi (j + 1)), (7, zi 0)] [] 403 [] x (zP mA (gFa f q n)) 403 [] Q := fun e => by rw [e]; exact loopN 0 (by omega) (by omega)
        rw [gFa_s n0] at ihF
        obtain ⟨r, hr⟩ : ∃ r, r = gFa f q n := ⟨_, rfl⟩
        rw [← hr] at ihF U U6 hendF ⊢
        have t1 : r 1 = p 1 := U.2.2.2.2.2.1 1 (by omega) (by omega) (by omega)
        have r3 : r 3 = q 3 := by rw [U.2.2.2.2.2.1 3 (by omega) (by omega) (by omega), J1.2.2.2.2.2.1 3 (by omega) (by omega) (by omega)]
        have r6 := gTr_6 (by omega) hB U
        have r6' := U.2.2.2.2.2.2.1
        have bt := zbit (a := f) (j := n) (by omega) n0 (by omega)
        have V := gFm_J (v := n) hY U (q 3) (by unfold IB at *; have := J1.1; unfold IB at this; omega) (by omega)
        have V6 := gTr_6 (by omega) hB V.1
        apply r266_c114
        simp only [zP_eq, t1, bt]
        clear bt loopN ih'
        by_cases cn : n < p 1
        · have ih2 := ihF cn
          clear ihF hendF
          by_cases cb : gBt f n = true
          · rw [if_pos cb] at ih2 ⊢
            repeat' (first | (with_reducible assumption) | (with_reducible rfl) | (with_reducible apply And.intro) | (with_reducible apply zIn_mk) | (with_reducible apply zLn_mk) | ((with_reducible intro _); try (exfalso; omega)) | omega | (with_reducible exact Or.inr trivial) | (with_reducible exact Or.inl trivial) | ((exact absurd rfl (by assumption))) | ((refine s265 (p := p) (w := w) (q := r) (by omega) (zP_eq _ _) hY hB U hc.2.1 (by omega) ?_; rw [r3, zP_zP]; rw [show gFm n r (q 3) 6160 - p 6160 = r 6160 - p 6160 + (gFm n r (q 3) 6160 - r 6160) by omega] at ih2)) | ((exact ih2)) | fail)
          · rw [if_neg cb] at ih2 ⊢
            repeat' (first | (with_reducible assumption) | (with_reducible rfl) | (with_reducible apply And.intro) | (with_reducible apply zIn_mk) | (with_reducible apply zLn_mk) | ((with_reducible intro _); try (exfalso; omega)) | omega | (with_reducible exact Or.inr trivial) | (with_reducible exact Or.inl trivial) | ((rw [Int.add_zero]; exact ih2)) | ((exact absurd (by assumption) (by decide))) | fail)
        · have h2 := hendF (by omega)
          clear ihF hendF
          repeat' (first | (with_reducible assumption) | (with_reducible rfl) | (with_reducible apply And.intro) | (with_reducible apply zIn_mk) | (with_reducible apply zLn_mk) | ((with_reducible intro _); try (exfalso; omega)) | omega | (with_reducible exact Or.inr trivial) | (with_reducible exact Or.inl trivial) | ((exact h2)) | fail)
      have f0 := loopF 0 (by omega) (by omega)
      rw [show gFa f q 0 = q from rfl] at f0
      clear loopF loopN ih' J2 J3 J4
      repeat' (first | (with_reducible assumption) | (with_reducible rfl) | (with_reducible apply And.intro) | (with_reducible apply zIn_mk) | (with_reducible apply zLn_mk) | ((with_reducible intro _); try (exfalso; omega)) | omega | (with_reducible exact Or.inr trivial) | (with_reducible exact Or.inl trivial) | ((exact f0)) | fail)
  refine s266a ?_
  rw [← hA, zsh1 v0 (by omega)]
  have l0 := loop 0 (by omega) I0
  rw [show gS p v 0 = (p, 0, 2 ^ v.toNat) from rfl] at l0
  dsimp only at l0
  rw [Int.sub_self, ← A387, zP_self] at l0
  exact l0
theorem t_fall {d dM N : Nat} {a b : Int} {x m : zM} {Q : Int → zM → zM → Prop} (hd : 40 ≤ d) (hdM : 40 ≤ dM) (hNN : N ≤ 600) (hI : Inv N x m) (K : ∀ q x', MOK N dM 266 [zr 386, zi a, zi b] q x' m → Q q x' m) : WPc d 146 [zr 0, zi a, zi b] 403 [] x m 403 [] Q := by
  obtain ⟨hF, hIF, hK, hO⟩ := id hI
  have hX := hF.1
  have hIx := hIF.1
  have hB := hIx.1
  have hA := hIx.2.1
  have hN := hIx.2.2.1
  have hM := hIF.2.1
  have hE := hIF.2.2.1
  have hb := hB; unfold IB at hb
  have hRL := hX.2.1
  have hRA := hX.2.2.1
  have hRN := hX.2.2.2.1
  have e10 : x 1 0 = m 387 0 := hX.1.1
  have e11 : x 1 1 = m 387 1 := hX.1.2.1
  apply r146
  repeat' (first | (with_reducible assumption) | (with_reducible rfl) | (with_reducible apply And.intro) | (with_reducible apply zIn_mk) | (with_reducible apply zLn_mk) | ((with_reducible intro _); try (exfalso; omega)) | omega | (with_reducible exact Or.inr trivial) | (with_reducible exact Or.inl trivial) | ((refine c72 (p := m 387) (w := m 390) (by omega) hF hIF (by omega) (by omega) ?_; intro I I0 I1 I2 I3 xB g1 g2 g3 g4; simp only [g2, g3, g4])) | ((refine s266 (p := m 387) (w := m 390) (by omega) rfl rfl hIF (by omega) (by omega) I0 I1 I2 I3 ?_; intro mB q1 q2 q3; refine zQe (hQ _ _ (Inv_z hI (RF_s g1 hF) hIF q2 q3 (fun k hk _ => g1 k hk) (fun k hk => q1 k (by omega) (by omega) (by omega) (by omega)) (fun i _ => by rw [q1 386 (by decide) (by decide) (by decide) (by decide)])) (q1 2000 (by decide) (by decide) (by decide) (by decide))) ?_)) | ((rw [if_pos (by omega)]; done)) | ((rw [if_neg (by omega), if_pos (by omega)]; done)) | ((rw [if_neg (by omega), if_neg (by omega)]; done)) | (with_reducible apply k161) | (with_reducible apply k162) | (with_reducible apply k163) | (with_reducible apply k164) | (with_reducible apply k165) | (with_reducible apply k166) | (with_reducible apply k167) | ((refine K _ _ ?_; intro Q' hQ; apply r266)) | (with_reducible apply s171) | (with_reducible apply s172) | (with_reducible apply s173) | (with_reducible apply s174) | (with_reducible apply s175) | (with_reducible apply s176) | ((refine zQe (hQ _ _ ?_ ?_) ?_)) | ((exact zP_ne _ _ (by decide))) | ((exact zP_eq _ _)) | ((exact Inv_c (by omega) (by omega) hI)) | ((exact Inv_s (zSx.rf _) (zSame.rf _) hI)) | ((exact zu_ne _ _ _ (by decide))) | fail)

