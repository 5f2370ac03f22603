/-! FALL -/
theorem s265 {d : Nat} {v : Int} {p w q : Int → Int} {x m : zM} {Q : Int → zM → zM → Prop} (hd : 6 ≤ d) (hp : m 387 = q) (hY : IY p w) (hB : IB p) (h : gTr p q) (hl0 : 0 ≤ p 6160) (hl1 : p 6160 ≤ 2111971200) (k : Q (gFm v q (q 3) 6160 - q 6160) x (zP m (gFm v q (q 3)))) : WPc d 265 [zr 386, zi v] 403 [] x m 403 [] Q := by
  have qb := h.1; unfold IB at qb
  have q6 := h.2.2.2.2.2.2.1
  have loop : ∀ j, 0 ≤ j → j ≤ q 3 → WP d 265 4 [(0, zr 386), (1, zi v), (2, zi (gFm v q j 6160 - q 6160)), (3, zi j)] [] 403 [] x (zP m (gFm v q j)) 403 [] Q := by
    refine zdown _ _ ?_
    intro j j0 j1 ih
    obtain ⟨J, J6⟩ := gFm_J (v := v) hY h j j0 j1
    have hend : j = q 3 → Q (gFm v q j 6160 - q 6160) x (zP m (gFm v q j)) := fun e => by rw [e]; exact k
    rw [gFm_s j0] at ih
    obtain ⟨r, hr⟩ : ∃ r, r = gFm v q j := ⟨_, rfl⟩
    rw [← hr] at J J6 ih hend ⊢
    clear hr
    have r3 : r 3 = q 3 := by rw [J.2.2.2.2.2.1 3 (by omega) (by omega) (by omega), h.2.2.2.2.2.1 3 (by omega) (by omega) (by omega)]
    have r6 := gTr_6 hl1 hB J
    have jb := J.1; unfold IB at jb
    have c4 := J.2.2.2.2.1
    apply r265_c4
    simp only [zP_eq, r3]
    by_cases c : j < q 3
    · have ih' := ih c
      unfold gFm1 at ih'
      clear ih hend
      repeat' (first | (with_reducible assumption) | (with_reducible rfl) | (with_reducible apply And.intro) | (with_reducible apply zIn_mk) | (with_reducible apply zLn_mk) | ((with_reducible intro _); try (exfalso; omega)) | omega | (with_reducible exact Or.inr trivial) | (with_reducible exact Or.inl trivial) | ((refine s191 (p := r) (zP_eq _ _) J.1 J.2.2.1 j0 (by omega) ?_ ?_)) | ((rw [if_neg (fun hh => by omega)] at ih'; rw [Int.add_zero]; exact ih')) | ((have gb := (gTr_f hY J j0 (by omega) (by omega)); have fb := gFp_bd J.1 J.2.1 J.2.2.1 J.2.2.2.1 (by omega) j0 (show j < r 3 by omega); rw [if_pos ⟨by omega, by omega⟩, gb.2.1] at ih'; refine s240 (p := r) (zP_eq _ _) (by omega) J.1 J.2.1 J.2.2.1 J.2.2.2.1 (by omega) j0 (by omega) (by omega) (by omega) ?_; rw [zP_zP])) | ((rw [show r 6160 - q 6160 + gFlost r j = r 6160 + gFlost r j - q 6160 by omega]; exact ih')) | fail)
    · have h2 := hend (by omega)
      clear ih hend
      repeat' (first | (with_reducible assumption) | (with_reducible rfl) | (with_reducible apply And.intro) | (with_reducible apply zIn_mk) | (with_reducible apply zLn_mk) | ((with_reducible intro _); try (exfalso; omega)) | omega | (with_reducible exact Or.inr trivial) | (with_reducible exact Or.inl trivial) | ((exact h2)) | fail)
  apply r265
  intro hz
  have l0 := loop 0 (by omega) (by omega)
  rw [show gFm v q 0 = q from rfl, Int.sub_self, ← hp, zP_self] at l0
  exact l0
theorem Rt_fail {x x' : zM} {q : Int → Int} {l : Int} (hR : RNt x q) (hB : IB q) (hA : IA q) (hN : IN q) (hE : IE q) (h6 : q 4 ≤ 644) (l0 : 0 ≤ l) (l1 : l < q 3) (hL : RLt x' (gFj q l (q (234 + q (450 + l)))).1) (hx : ∀ k, k < 363 ∨ 368 < k → k ≠ 381 → k ≠ 382 → k ≠ 383 → k ≠ 384 → x' k = x k) (e83 : x' 381 = up (x 381) l 2) (e84 : x' 382 = up (x 382) l (gFown q l)) (e85 : x' 383 = up (x 383) l (gFback q l)) (e86 : x' 384 = up (x 384) l (gFlost q l)) : RLt x' (gFp q l) ∧ RNt x' (gFp q l) := by
  have hb := hB; unfold IB at hb
  have nl := hN.1 l l0 l1
  unfold INl at nl
  have aa := hA.1 (q (450 + l)) (by omega) (by omega)
  unfold IAa at aa
  obtain ⟨J1, J2, J3, J4, J5, J6, J7⟩ := gFj_J hB hA hN hE h6 l0 l1 (q (234 + q (450 + l))) (by omega) (by omega)
  have o : ∀ i, i ≠ 4 → i < 570 ∨ (3490 ≤ i ∧ i ≠ 6160) → gFp q l i = q i := fun i i4 hi => gFp_o hB hA hN hE h6 l0 l1 i4 (by omega) (by omega) (by omega) (by omega) (by omega) (by omega)
  have e := fun i => gFp_e (p := q) (l := l) (i := i) l0 (by omega)
  refine ⟨?_, ?_⟩
  · refine RL_f J1 (e 4 (by omega)) (fun i i0 i1 => e i (by omega)) ?_ ?_ hL
    · rw [o 6161 (by omega) (by omega), J4 6161 (by omega) (by omega)]
    · rw [o 6162 (by omega) (by omega), J4 6162 (by omega) (by omega)]
  · unfold RNt
    rw [hx 370 (by omega) (by omega) (by omega) (by omega) (by omega), hx 371 (by omega) (by omega) (by omega) (by omega) (by omega), hx 372 (by omega) (by omega) (by omega) (by omega) (by omega), hx 373 (by omega) (by omega) (by omega) (by omega) (by omega), hx 374 (by omega) (by omega) (by omega) (by omega) (by omega), hx 375 (by omega) (by omega) (by omega) (by omega) (by omega), hx 376 (by omega) (by omega) (by omega) (by omega) (by omega), hx 377 (by omega) (by omega) (by omega) (by omega) (by omega), hx 378 (by omega) (by omega) (by omega) (by omega) (by omega), hx 379 (by omega) (by omega) (by omega) (by omega) (by omega), hx 380 (by omega) (by omega) (by omega) (by omega) (by omega), e83, e84, e85, e86, hx 385 (by omega) (by omega) (by omega) (by omega) (by omega)]
    exact RN_fail hB hA hN hE h6 l0 l1 hR
theorem c73 {d : Nat} {f : Nat} {p w q : Int → Int} {x m : zM} {Q : Int → zM → zM → Prop} (hd : 7 ≤ d) (hY : IY p w) (hB : IB p) (h : gTr p q) (hl0 : 0 ≤ p 6160) (hl1 : p 6160 ≤ 2111971200) (hf : f < 2 ^ 16) (hS : RAx x p) (e10 : x 1 0 = p 0) (hL : RLt x q) (hR : RNt x q) (e7 : x 336 7 = q 6160 - p 6160) (k : ∀ x', RLt x' (gFa f q 16) → RNt x' (gFa f q 16) → (∀ k, k < 363 ∨ 368 < k → k < 370 ∨ 385 < k → k ≠ 336 → x' k = x k) → x' 336 7 = gFa f q 16 6160 - p 6160 → (∀ i, i ≠ 7 → x' 336 i = x 336 i) → Q 0 x' m) : WPc d 73 [zr 336, zi f] 403 [] x m 403 [] Q := by
  have qb := h.1; unfold IB at qb
  have loop : ∀ j, 0 ≤ j → j ≤ 16 → ∀ x', RLt x' (gFa f q j) → RNt x' (gFa f q j) → (∀ k, k < 363 ∨ 368 < k → k < 370 ∨ 385 < k → k ≠ 336 → x' k = x k) → x' 336 7 = gFa f q j 6160 - p 6160 → (∀ i, i ≠ 7 → x' 336 i = x 336 i) → WP d 73 2 [(0, zr 336), (1, zi f), (2, zi j)] [] 403 [] x' m 403 [] Q := by
    refine zdown _ _ ?_
    intro j j0 j1 ih x' M1 M2 M3 M4 M5
    obtain ⟨J, J6⟩ := gFa_J (f := f) hY h j j0
    have hend : j = 16 → Q 0 x' m := fun e => by rw [e] at M1 M2 M4; exact k x' M1 M2 M3 M4 M5
    rw [gFa_s j0] at ih
    obtain ⟨r, hr⟩ : ∃ r, r = gFa f q j := ⟨_, rfl⟩
    rw [← hr] at J J6 ih M1 M2 M4
    clear hr
    have r3 : r 3 = q 3 := by rw [J.2.2.2.2.2.1 3 (by omega) (by omega) (by omega), h.2.2.2.2.2.1 3 (by omega) (by omega) (by omega)]
    apply r73_c2
    by_cases c : j = 16
    · have h2 := hend c
      clear hend ih
      repeat' (first | (with_reducible assumption) | (with_reducible rfl) | (with_reducible apply And.intro) | (with_reducible apply zIn_mk) | (with_reducible apply zLn_mk) | ((with_reducible intro _); try (exfalso; omega)) | omega | (with_reducible exact Or.inr trivial) | (with_reducible exact Or.inl trivial) | ((exact h2)) | fail)
    · have ih' := ih (by omega)
      clear hend ih
      have bt := zbit (a := f) (j := j) (by omega) j0 (by omega)
      have e370 : x' 370 0 = q 3 := by rw [M2.1, r3]
      by_cases cb : gBt f j = true
      · rw [if_pos cb] at ih' bt
        have inner : ∀ l, 0 ≤ l → l ≤ q 3 → ∀ x2, RLt x2 (gFm j r l) → RNt x2 (gFm j r l) → (∀ k, k < 363 ∨ 368 < k → k < 370 ∨ 385 < k → k ≠ 336 → x2 k = x k) → x2 336 7 = gFm j r l 6160 - p 6160 → (∀ i, i ≠ 7 → x2 336 i = x 336 i) → WP d 73 10 [(0, zr 336), (1, zi f), (2, zi j), (3, zi l)] [] 403 [] x2 m 403 [] Q := by
          refine zdown _ _ ?_
          intro l l0 l1 ih2 x2 L1 L2 L3 L4 L5
          obtain ⟨T, T6⟩ := gFm_J (v := j) hY J l l0 (by omega)
          have hend2 : l = q 3 → WP d 73 2 [(0, zr 336), (1, zi f), (2, zi (j + 1))] [] 403 [] x2 m 403 [] Q := fun e => by rw [e] at L1 L2 L4; exact ih' x2 L1 L2 L3 L4 L5
          rw [gFm_s l0] at ih2
          obtain ⟨t, ht⟩ : ∃ t, t = gFm j r l := ⟨_, rfl⟩
          rw [← ht] at T T6 ih2 L1 L2 L4
          clear ht
          have t3 : t 3 = q 3 := by rw [T.2.2.2.2.2.1 3 (by omega) (by omega) (by omega), h.2.2.2.2.2.1 3 (by omega) (by omega) (by omega)]
          have t6 := gTr_6 hl1 hB T
          have t6' := T.2.2.2.2.2.2.1
          have tb := T.1; unfold IB at tb
          have c4 := T.2.2.2.2.1
          have f370 : x2 370 0 = q 3 := by rw [L2.1, t3]
          have f10 : x2 1 0 = t 0 := by rw [L3 1 (by omega) (by omega) (by omega), T.2.2.2.2.2.1 0 (by omega) (by omega) (by omega)]; exact e10
          have hS2 : RAx x2 t := by
            unfold RAx; rw [L3 14 (by omega) (by omega) (by omega), L3 15 (by omega) (by omega) (by omega), L3 16 (by omega) (by omega) (by omega), L3 17 (by omega) (by omega) (by omega), L3 18 (by omega) (by omega) (by omega), L3 19 (by omega) (by omega) (by omega), L3 20 (by omega) (by omega) (by omega), L3 21 (by omega) (by omega) (by omega), L3 22 (by omega) (by omega) (by omega), L3 47 (by omega) (by omega) (by omega)]
            exact RA_f hB (T.2.2.2.2.2.1 2 (by omega) (by omega) (by omega)) (fun i i0 i1 => T.2.2.2.2.2.1 i (by omega) (by omega) (by omega)) hS
          apply r73_c10
          simp only [f370, bt, f10, L4]
          by_cases cl : l < q 3
          · have rk := L2.2 l l0 (by omega)
            have f372 : x2 372 l = t (90 + t (450 + l)) := rk.2.1
            have f381 : x2 381 l = t (570 + l) := rk.2.2.2.2.2.2.2.2.2.2.1
            have ih3 := ih2 cl
            unfold gFm1 at ih3
            simp only [f372, f381]
            clear ih2 hend2 ih' rk
            repeat' (first | (with_reducible assumption) | (with_reducible rfl) | (with_reducible apply And.intro) | (with_reducible apply zIn_mk) | (with_reducible apply zLn_mk) | ((with_reducible intro _); try (exfalso; omega)) | omega | (with_reducible exact Or.inr trivial) | (with_reducible exact Or.inl trivial) | ((exact absurd rfl (by assumption))) | ((rw [if_neg (fun hh => by omega)] at ih3; exact ih3 x2 L1 L2 L3 L4 L5)) | ((have gb := (gTr_f hY T l0 (by omega) (by omega)); have fb := gFp_bd T.1 T.2.1 T.2.2.1 T.2.2.2.1 (by omega) l0 (show l < t 3 by omega); rw [if_pos ⟨by omega, by omega⟩, gb.2.1] at ih3; refine c9_14_370_363 (p := t) (by omega) L1 L2 hS2 T.1 T.2.1 T.2.2.1 T.2.2.2.1 (by omega) l0 (by omega) rfl (by omega) ?_; intro x5 f1 f2 f3 f4 f5 f6; have ff := Rt_fail L2 T.1 T.2.1 T.2.2.1 T.2.2.2.1 (by omega) l0 (by omega) f1 f2 f3 f4 f5 f6; have f336 : x5 336 = x2 336 := f2 336 (by omega) (by omega) (by omega) (by omega) (by omega))) | ((exact ih3 _ (by unfold RLt; simp (disch := omega) only [zu_ne]; exact ff.1) (by unfold RNt; simp (disch := omega) only [zu_ne]; exact ff.2) (fun k k0 k1 k2 => by rw [zu_ne _ _ _ k2, f2 k k0 (by omega) (by omega) (by omega) (by omega)]; exact L3 k k0 k1 k2) (by rw [zu_eq, up_at rfl]; omega) (fun i i0 => by rw [zu_eq, up_ne i0, f336]; exact L5 i i0))) | fail)
          · have h2 := hend2 (by omega)
            clear ih2 hend2 ih'
            repeat' (first | (with_reducible assumption) | (with_reducible rfl) | (with_reducible apply And.intro) | (with_reducible apply zIn_mk) | (with_reducible apply zLn_mk) | ((with_reducible intro _); try (exfalso; omega)) | omega | (with_reducible exact Or.inr trivial) | (with_reducible exact Or.inl trivial) | ((exact h2)) | fail)
        have i0 := inner 0 (by omega) (by omega) x' M1 M2 M3 M4 M5
        clear inner ih'
        repeat' (first | (with_reducible assumption) | (with_reducible rfl) | (with_reducible apply And.intro) | (with_reducible apply zIn_mk) | (with_reducible apply zLn_mk) | ((with_reducible intro _); try (exfalso; omega)) | omega | (with_reducible exact Or.inr trivial) | (with_reducible exact Or.inl trivial) | ((exact i0)) | fail)
      · rw [if_neg cb] at ih' bt
        have h2 := ih' x' M1 M2 M3 M4 M5
        clear ih'
        repeat' (first | (with_reducible assumption) | (with_reducible rfl) | (with_reducible apply And.intro) | (with_reducible apply zIn_mk) | (with_reducible apply zLn_mk) | ((with_reducible intro _); try (exfalso; omega)) | omega | (with_reducible exact Or.inr trivial) | (with_reducible exact Or.inl trivial) | ((with_reducible apply r73_c10)) | ((simp only [e370, bt])) | ((exact h2)) | ((exact absurd rfl (by assumption))) | fail)
  apply r73
  intro hz
  exact loop 0 (by omega) (by omega) x hL hR (fun _ _ _ _ => rfl) e7 (fun _ _ => rfl)
theorem c74 {d : Nat} {q : Int → Int} {x m : zM} {Q : Int → zM → zM → Prop} (hd : 2 ≤ d) (hB : IB q) (hA : IA q) (hN : IN q) (hL : RLt x q) (hR : RNt x q) (e11 : x 1 1 = q 1) (k : Q (gWt q (q 1)) x m) : WPc d 74 [zr 336] 403 [] x m 403 [] Q := by
  have hb := hB; unfold IB at hb
  have loop : ∀ j, 0 ≤ j → j ≤ q 1 → WP d 74 4 [(0, zr 336), (1, zi (gWt q j)), (2, zi j)] [] 403 [] x m 403 [] Q := by
    refine zdown _ _ ?_
    intro j j0 j1 ih
    have lt := gNx_lt (q := q) (a := 0) j0 (by omega)
    have hend : j = q 1 → Q (gWt q j) x m := fun e => by rw [e]; exact k
    rw [gWt_s j0] at ih
    apply r74_c4
    simp only [e11]
    by_cases c : j < q 1
    · have e368 : x 368 j = gSv q j 400 400 := hL.2.2.1 j j0 (by omega)
      have ih' := ih c
      have pw : 2 ^ j.toNat < 2 ^ 31 := Nat.pow_lt_pow_right (by decide) (by omega)
      have ez : zor (gWt q j) (zshl 1 j) = ((gWt q j ||| 2 ^ j.toNat : Nat) : Int) := by
        rw [zsh1 j0 (by omega)]
        exact zor_nat (by unfold gWt; omega) pw
      simp only [e368, ez]
      clear ih hend pw ez
      repeat' (first | (with_reducible assumption) | (with_reducible rfl) | (with_reducible apply And.intro) | (with_reducible apply zIn_mk) | (with_reducible apply zLn_mk) | ((with_reducible intro _); try (exfalso; omega)) | omega | (with_reducible exact Or.inr trivial) | (with_reducible exact Or.inl trivial) | ((refine c57_370 (p := q) (by omega) hR hB hA hN ?_)) | ((rw [if_neg (by omega), Nat.or_zero] at ih'; exact ih')) | ((rw [if_pos (by omega)] at ih'; exact ih')) | fail)
    · have h2 := hend (by omega)
      clear ih hend
      repeat' (first | (with_reducible assumption) | (with_reducible rfl) | (with_reducible apply And.intro) | (with_reducible apply zIn_mk) | (with_reducible apply zLn_mk) | ((with_reducible intro _); try (exfalso; omega)) | omega | (with_reducible exact Or.inr trivial) | (with_reducible exact Or.inl trivial) | ((exact h2)) | fail)
  apply r74
  exact loop 0 (by omega) (by omega)
theorem c72 {d N : Nat} {v : Int} {p w : Int → Int} {x m : zM} {Q : Int → zM → zM → Prop} (hd : 9 ≤ d) (hF : RF x p w) (hIF : IF N p w) (v0 : 0 ≤ v) (v1 : v < p 1) (k : ∀ I, 0 ≤ I → I ≤ 16 → (∀ i, 0 ≤ i → i < I → (gS p v i).2.2 ≠ 0) → (gS p v I).2.2 = 0 → ∀ x', zSx x x' → x' 336 6 = (gS p v I).2.1 → x' 336 7 = (gS p v I).1 6160 - p 6160 → x' 336 8 = I → Q 0 x' m) : WPc d 72 [zr 336, zi v] 403 [] x m 403 [] Q := by
  have hB := hIF.1.1
  have hb := hB; unfold IB at hb
  have hC := hIF.2.2.2.2.2.1
  have hc := hC; unfold IC at hc
  have hY := hIF.2.2.2.2.1
  have h0 : gTr p p := gTr_0 hB hIF.1.2.1 hIF.1.2.2.1 hIF.2.2.1 hIF.2.2.2.1.1 hY
  have loop : ∀ j, 0 ≤ j → j ≤ 16 → (∀ i, 0 ≤ i → i < j → (gS p v i).2.2 ≠ 0) → ∀ x', RLt x' (gS p v j).1 → RNt x' (gS p v j).1 → zSx x x' → x' 336 6 = (gS p v j).2.1 → x' 336 7 = (gS p v j).1 6160 - p 6160 → x' 336 8 = j → WP d 72 49 [(0, zr 336), (2, zi (gS p v j).2.2), (3, zi j)] [] 403 [] x' m 403 [] Q := by
    refine zdown _ _ ?_
    intro j j0 j1 ih hall x' M1 M2 M3 M4 M5 M6
    obtain ⟨J1, J2, J3, J4⟩ := gS_J hY h0 v0 v1 j j0
    obtain ⟨l1, l2⟩ := gS_lt hY h0 v0 v1 j0
    have hend : (gS p v j).2.2 = 0 → Q 0 x' m := fun e => k j j0 j1 hall e x' M3 M4 M5 M6
    have h16 : j = 16 → (gS p v j).2.2 = 0 := fun e => by rw [e]; exact gS_16 hY h0 v0 v1 (fun i i0 i1 => hall i i0 (by omega))
    apply r72_c49
    by_cases c : (gS p v j).2.2 = 0
    · have h2 := hend c
      rw [c]
      clear hend ih k
      repeat' (first | (with_reducible assumption) | (with_reducible rfl) | (with_reducible apply And.intro) | (with_reducible apply zIn_mk) | (with_reducible apply zLn_mk) | ((with_reducible intro _); try (exfalso; omega)) | omega | (with_reducible exact Or.inr trivial) | (with_reducible exact Or.inl trivial) | ((exact h2)) | fail)
    · have cj : j < 16 := by
        by_cases e : j = 16
        · exact absurd (h16 e) c
        · omega
      have fn : (((gS p v j).2.2 : Nat) : Int) ≠ 0 := by omega
      have ih' := ih cj (fun i i0 i1 => by
        by_cases e : i = j
        · rw [e]; exact c
        · exact hall i i0 (by omega))
      rw [gS_s j0] at ih'
      dsimp only at ih'
      clear hend ih h16 k
      obtain ⟨q, hq⟩ : ∃ q, q = (gS p v j).1 := ⟨_, rfl⟩
      obtain ⟨a, ha⟩ : ∃ a, a = (gS p v j).2.1 := ⟨_, rfl⟩
      obtain ⟨f, hf⟩ : ∃ f, f = (gS p v j).2.2 := ⟨_, rfl⟩
      rw [← hq] at J1 M1 M2 M5 ih'
      rw [← ha] at J2 M4 l1 ih'
      rw [← hf] at J2 l2 fn c ih' ⊢
      have e16 : gFa f q 16 = gFa f q (p 1) := by
        have := gFa_e (f := f) (q := q) (n := p 1) (by omega) (fun i i0 => (J2 i i0).2) (16 - p 1) (by omega)
        rwa [show p 1 + (16 - p 1) = 16 by omega] at this
      have T := (gFa_J (f := f) hY J1 (p 1) (by omega)).1
      rw [← e16] at ih' T
      obtain ⟨r, hr⟩ : ∃ r, r = gFa f q 16 := ⟨_, rfl⟩
      rw [← hr] at ih' T
      have eor : zor (x' 336 6) f = ((a ||| f : Nat) : Int) := by rw [M4]; exact zor_nat (by omega) (by omega)
      have lor : a ||| f < 2 ^ 16 := Nat.or_lt_two_pow l1 l2
      have t1 : r 1 = p 1 := T.2.2.2.2.2.1 1 (by omega) (by omega) (by omega)
      have wlt := gNx_lt (q := r) (a := 0) (j := p 1) (by omega) (by omega)
      simp only [eor, M6]
      have hAp : RAx x' p := RAx_s M3 hF.1.2.2.1
      have e10 : x' 1 0 = p 0 := by rw [M3 1 rfl]; exact hF.1.1.1
      have e11 : x' 1 1 = p 1 := by rw [M3 1 rfl]; exact hF.1.1.2.1
      clear J2 J3 J4 hall
      refine ⟨fun h9 => by omega, fun _ => ⟨fun h9 => absurd h9 fn, fun _ => ⟨by unfold zIn; omega, by omega, ?_⟩⟩⟩
      refine c73 (p := p) (w := w) (q := q) (by omega) hY hB J1 hc.2.1 (by omega) l2 ?_ ?_ ?_ ?_ ?_ ?_
      · unfold RAx; simp (disch := omega) only [zu_ne]; exact hAp
      · rw [zu_ne _ _ _ (by omega), zu_ne _ _ _ (by omega)]; exact e10
      · unfold RLt; simp (disch := omega) only [zu_ne]; exact M1
      · unfold RNt; simp (disch := omega) only [zu_ne]; exact M2
      · rw [zu_eq, up_ne (by omega), zu_eq, up_ne (by omega)]; exact M5
      · intro xB g1 g2 g3 g4 g5
        rw [← hr] at g1 g2 g4
        refine ⟨by omega, ?_⟩
        have b336 : xB 336 6 = ((a ||| f : Nat) : Int) := by rw [g5 6 (by omega), zu_eq, up_ne (by omega), zu_eq, up_at rfl]
        refine c74 (q := r) (by omega) T.1 T.2.1 T.2.2.1 g1 g2 ?_ ?_
        · rw [g3 1 (by omega) (by omega) (by omega), zu_ne _ _ _ (by omega), zu_ne _ _ _ (by omega), e11, t1]
        · rw [t1, b336, zanx (by unfold gWt; omega), gAn_wt (by omega) (by omega)]
          refine ⟨by unfold zIn; omega, ih' xB g1 g2 (fun k hk => ?_) b336 g4 ?_⟩
          · have kk : k ≠ 336 := fun e => by subst e; exact absurd hk (by decide)
            have k3 : k < 333 ∨ 385 < k := by
              by_cases c3 : k < 333 ∨ 385 < k
              · exact c3
              · exfalso
                have : zScr k = true := by
                  unfold zScr
                  have a1 : Nat.ble 333 k = true := Nat.ble_eq_true_of_le (by omega)
                  have a2 : Nat.ble k 385 = true := Nat.ble_eq_true_of_le (by omega)
                  rw [a1, a2]; simp
                rw [this] at hk; cases hk
            rw [g3 k (by omega) (by omega) kk, zu_ne _ _ _ kk, zu_ne _ _ _ kk]; exact M3 k hk
          · rw [g5 8 (by omega), zu_eq, up_at rfl]
  apply r72
  intro hz
  refine ⟨by omega, ?_⟩
  refine c30_363_7 (p := p) (by omega) hF.1.2.1 hB ?_
  intro xA a1 a2
  refine ⟨by omega, ?_⟩
  have hNA : RNx xA p := by unfold RNx; rw [a1 72 (by omega), a1 73 (by omega), a1 74 (by omega), a1 75 (by omega), a1 76 (by omega), a1 77 (by omega), a1 78 (by omega), a1 79 (by omega), a1 80 (by omega), a1 81 (by omega), a1 82 (by omega), a1 83 (by omega), a1 84 (by omega), a1 85 (by omega), a1 86 (by omega), a1 87 (by omega)]; exact hF.1.2.2.2.1
  refine c61_370_72 (p := p) (by omega) hNA hB ?_
  intro xB b1 b2
  rw [zsh1 v0 (by omega)]
  refine loop 0 (by omega) (by omega) (fun i i0 i1 => by omega) _ ?_ ?_ (fun k hk => ?_) ?_ ?_ ?_
  · show RLt _ p
    unfold RLt; simp (disch := omega) only [zu_ne]
    rw [b1 363 (by omega), b1 364 (by omega), b1 365 (by omega), b1 366 (by omega), b1 367 (by omega), b1 368 (by omega)]; exact a2
  · show RNt _ p
    unfold RNt; simp (disch := omega) only [zu_ne]; exact b2
  · have kk : k ≠ 336 := fun e => by subst e; exact absurd hk (by decide)
    have k3 : k < 333 ∨ 385 < k := by
      by_cases c3 : k < 333 ∨ 385 < k
      · exact c3
      · exfalso
        have : zScr k = true := by
          unfold zScr
          have a1 : Nat.ble 333 k = true := Nat.ble_eq_true_of_le (by omega)
          have a2 : Nat.ble k 385 = true := Nat.ble_eq_true_of_le (by omega)
          rw [a1, a2]; simp
        rw [this] at hk; cases hk
    rw [zu_ne _ _ _ kk, zu_ne _ _ _ kk, zu_ne _ _ _ kk, b1 k (by omega), a1 k (by omega)]
  · rw [zu_eq, up_ne (by omega), zu_eq, up_ne (by omega), zu_eq, up_at rfl]; rfl
  · rw [zu_eq, up_ne (by omega), zu_eq, up_at rfl]
    show 0 = p 6160 - p 6160
    omega
  · rw [zu_eq, up_at rfl]
