/-! A WEEK CLOSES -/
def gWk (q w : Int → Int) (n : Int) : Int → Int := fun k => if 112 ≤ k ∧ k < 112 + n then w k + zmx 0 (gSv q (k - 112) 400 400) else w k
def gHoS (y : Int) (q : Int → Int) (j : Int) : Int → Int := if 0 < q (5696 + (16 * y + j)) + q (5808 + (16 * y + j)) then gEn q j (q 0) (q (5696 + (16 * y + j)) + q (5808 + (16 * y + j))) else q
def gHoN (y : Int) (p : Int → Int) : Nat → (Int → Int)
  | 0 => p
  | n + 1 => gHoS y (gHoN y p n) n
def gHo (y : Int) (p : Int → Int) (j : Int) : Int → Int := gHoN y p j.toNat
theorem gHo_s {y : Int} {p : Int → Int} {j : Int} (h : 0 ≤ j) : gHo y p (j + 1) = gHoS y (gHo y p j) j := by
  unfold gHo
  have e : (j + 1).toNat = j.toNat + 1 := by omega
  have e2 : (j.toNat : Int) = j := by omega
  rw [e, gHoN, e2]
abbrev gYear (q : Int → Int) : Prop := q 0 % 52 = 51 ∧ q 6 < 7
def gQ1 (p : Int → Int) : Int → Int := (gPs p (p 3)).1
def gZn (p : Int → Int) : Int := (gPs p (p 3)).2
def gW1 (p w : Int → Int) : Int → Int := gWk (gQ1 p) w (p 1)
def gZp (p w : Int → Int) : Int → Int := if gYear (gQ1 p) then gHo (gQ1 p 6) (up (gYp (gQ1 p) (gW1 p w)) 0 (p 0 + 1)) (p 1) else up (gQ1 p) 0 (p 0 + 1)
def gZw (p w : Int → Int) : Int → Int := if gYear (gQ1 p) then gYw (gQ1 p) (gW1 p w) else gW1 p w
theorem gHo_J {N : Nat} {y : Int} {p w : Int → Int} (hIF : IF N p w) (y0 : 0 ≤ y) (y1 : y < 7) (hc : p 4 + 16 ≤ gCap p) : ∀ j, 0 ≤ j → (j ≤ p 1 → IF N (gHo y p j) w ∧ gHo y p j 4 + 16 ≤ gCap (gHo y p j) + j ∧ (∀ i, i ≠ 4 → i < 690 ∨ 3490 ≤ i → gHo y p j i = p i)) := by
  have hb := hIF.1.1; unfold IB at hb
  refine zup1 _ (fun _ => ?_) ?_
  · rw [show gHo y p 0 = p from rfl]
    exact ⟨hIF, by omega, fun i _ _ => rfl⟩
  · intro j j0 ih j1
    obtain ⟨J1, J2, J3⟩ := ih (by omega)
    rw [gHo_s j0]
    obtain ⟨q, hq⟩ : ∃ q, q = gHo y p j := ⟨_, rfl⟩
    rw [← hq] at J1 J2 J3 ⊢
    unfold gHoS
    by_cases c : 0 < q (5696 + (16 * y + j)) + q (5808 + (16 * y + j))
    · rw [if_pos c]
      have qb := J1.1.1; unfold IB at qb
      have q1 := J3 1 (by omega) (by omega)
      have h4 := IEc_4 J1
      have h7 : gI q j (q 0) = -1 → q 4 < 700 := fun _ => by omega
      have o : ∀ i, i ≠ 4 → i < 690 ∨ 3490 ≤ i → gEn q j (q 0) (q (5696 + (16 * y + j)) + q (5808 + (16 * y + j))) i = q i := fun i a b => gEn_o J1.1.1 h7 a b
      have e4 := gEn_4 (a := j) (w := q 0) (n := q (5696 + (16 * y + j)) + q (5808 + (16 * y + j))) J1.1.1
      have cp := gCap_f (q := gEn q j (q 0) (q (5696 + (16 * y + j)) + q (5808 + (16 * y + j)))) J1.1.1 (o 3 (by omega) (by omega)) (o 6 (by omega) (by omega)) (fun i i0 i1 => o i (by omega) (by omega)) (fun i i0 i1 => o i (by omega) (by omega))
      refine ⟨IF_en J1 j0 (by omega) (by omega) (Int.le_refl _) (fun _ => by omega), ?_, fun i a b => by rw [o i a b, J3 i a b]⟩
      rw [cp]
      split at e4 <;> omega
    · rw [if_neg c]
      exact ⟨J1, by omega, J3⟩
theorem IF_w {N : Nat} {p w : Int → Int} (hIF : IF N p w) (h399 : p 0 ≤ 399) : IX (gQ1 p) ∧ IE (gQ1 p) ∧ IF N (up (gQ1 p) 0 (gQ1 p 0 + 1)) (gW1 p w) ∧ (∀ i, i ≠ 4 → i ≠ 6160 → (i < 546 ∨ (666 ≤ i ∧ i < 690) ∨ 3490 ≤ i) → gQ1 p i = p i) ∧ (0 ≤ gQ1 p 6160 ∧ gQ1 p 6160 ≤ 2117251128) ∧ (∀ k, 0 ≤ k → k < 16 → 0 ≤ gW1 p w (112 + k) ∧ gW1 p w (112 + k) ≤ 858993459200) ∧ (0 ≤ gZn p ∧ gZn p ≤ 24) := by
  obtain ⟨⟨hB, hA, hN, hR⟩, hM, hE, hEc, hY, hC, hT, hP⟩ := hIF
  have hb := hB; unfold IB at hb
  have hc := hC; unfold IC at hc
  obtain ⟨J1, J2, J3, J4, ⟨J5, J5'⟩, J6, J7, J8, J9, J10⟩ := gPs_J hB hA hN hE hEc.2.2 hEc.1 hY hc.2.1 (p 3) (by omega) (Int.le_refl _)
  rw [show (gPs p (p 3)).1 = gQ1 p from rfl] at J1 J2 J3 J4 J5 J5' J6 J7 J8 J9
  rw [show (gPs p (p 3)).2 = gZn p from rfl] at J10
  have jb := J1; unfold IB at jb
  have q0 := J6 0 (by omega) (by omega) (by omega)
  have hR1 : IR (gQ1 p) := IR_f hB (J6 5 (by omega) (by omega) (by omega)) (fun i i0 i1 => J6 i (by omega) (by omega) (by omega)) hR
  have u : ∀ i, i ≠ 0 → up (gQ1 p) 0 (gQ1 p 0 + 1) i = gQ1 p i := fun i i0 => up_ne i0
  have u2 : ∀ i, i ≠ 0 → i ≠ 4 → i ≠ 6160 → (i < 546 ∨ (666 ≤ i ∧ i < 690) ∨ 3490 ≤ i) → up (gQ1 p) 0 (gQ1 p 0 + 1) i = p i := fun i i0 i4 i6 hi => by rw [u i i0, J6 i i4 i6 hi]
  have e0 : up (gQ1 p) 0 (gQ1 p 0 + 1) 0 = p 0 + 1 := by rw [up_at rfl, q0]
  have wk : ∀ k, 112 ≤ k → k < 128 → 0 ≤ gW1 p w k ∧ gW1 p w k ≤ (p 0 + 1) * 2147483648 := fun k k0 k1 => by
    have o := hY.2.2.1 k k0 k1
    have s := gSv_pos (gQ1 p) (k - 112) 400 400
    unfold gW1 gWk
    split <;> omega
  refine ⟨⟨J1, J2, J3, hR1⟩, J4, ⟨⟨?_, IA_f J1 (by rw [u 1 (by omega)]; omega) (u 2 (by omega)) (fun i i0 i1 => u i (by omega)) J2, IN_f J1 (by rw [e0, q0]; omega) (u 2 (by omega)) (u 3 (by omega)) (fun i i0 i1 => u i (by omega)) (fun i i0 i1 => u i (by omega)) J3, IR_f J1 (u 5 (by omega)) (fun i i0 i1 => u i (by omega)) hR1⟩, IM_f hB (by rw [e0]; omega) (u2 1 (by omega) (by omega) (by omega) (by omega)) (fun i i0 i1 => u2 i (by omega) (by omega) (by omega) (by omega)) hM, IE_f J1 (by rw [e0, q0]; omega) (by rw [u 1 (by omega)]; omega) (u 4 (by omega)) (fun i i0 i1 => u i (by omega)) J4, ⟨?_, IK0_f hB (u2 2 (by omega) (by omega) (by omega) (by omega)) (u2 3 (by omega) (by omega) (by omega) (by omega)) (fun i i0 i1 => u2 i (by omega) (by omega) (by omega) (by omega)) hEc.2.1, fun l l0 l1 => ?_⟩, ⟨?_, fun k k0 k1 => ?_, fun k k0 k1 => ?_, fun y y0 y1 => ?_⟩, ⟨?_, ?_⟩, IT_f hB (by rw [e0]; omega) (u2 8 (by omega) (by omega) (by omega) (by omega)) (fun i i0 i1 => u2 i (by omega) (by omega) (by omega) (by omega)) hT, IP_f (fun i i0 i1 => u2 i (by omega) (by omega) (by omega) (by omega)) hP⟩, J6, ⟨by omega, by omega⟩, fun k k0 k1 => ?_, by omega⟩
  · unfold IB
    rw [e0, u 1 (by omega), u 2 (by omega), u 3 (by omega), u 4 (by omega), u 5 (by omega), u 6 (by omega), u 7 (by omega), u 8 (by omega)]
    omega
  · show _ ≤ gCap _
    rw [gCap_f J1 (u 3 (by omega)) (u 6 (by omega)) (fun i i0 i1 => u i (by omega)) (fun i i0 i1 => u i (by omega)), u 4 (by omega)]
    exact J5
  · rw [u 3 (by omega)] at l1
    rw [u (570 + l) (by omega), u (546 + l) (by omega)]
    exact J8 l l0 (by rw [J6 3 (by omega) (by omega) (by omega)] at l1; exact l1)
  · intro y k y0 y1 k0 k1
    rw [u2 _ (by omega) (by omega) (by omega) (by omega), u2 _ (by omega) (by omega) (by omega) (by omega), u2 _ (by omega) (by omega) (by omega) (by omega), u2 6 (by omega) (by omega) (by omega) (by omega)]
    exact hY.1 y k y0 y1 k0 k1
  · have o := hY.2.1 k k0 k1
    unfold gW1 gWk
    rw [if_neg (by omega)]; exact o
  · rw [e0]; exact wk k k0 k1
  · rw [u2 _ (by omega) (by omega) (by omega) (by omega), u2 _ (by omega) (by omega) (by omega) (by omega)]
    exact hY.2.2.2 y y0 y1
  · rw [u2 6161 (by omega) (by omega) (by omega) (by omega)]; exact hC.1
  · rw [u 6160 (by omega), e0]; omega
  · have := wk (112 + k) (by omega) (by omega); omega
theorem IF_z {N : Nat} {p w : Int → Int} (hIF : IF N p w) (h399 : p 0 ≤ 399) : IF N (gZp p w) (gZw p w) ∧ gZp p w 0 = p 0 + 1 := by
  obtain ⟨h1, hE1, h2, h3, h4, h5, h6⟩ := IF_w hIF h399
  have hb := hIF.1.1; unfold IB at hb
  have e0 := h3 0 (by omega) (by omega) (by omega)
  rw [← e0]
  unfold gZp gZw
  rw [← e0]
  by_cases c : gYear (gQ1 p)
  · rw [if_pos c, if_pos c]
    obtain ⟨g1, g2⟩ := IF_y h1 h2 c.2 h4.1 h5
    have e1 := h3 1 (by omega) (by omega) (by omega)
    have e6 := h3 6 (by omega) (by omega) (by omega)
    have hz : ∀ k, 0 ≤ k → k < 16 → gQ1 p (6032 + 16 * gQ1 p 6 + k) = 0 := fun k k0 k1 => by
      have := (h2.2.2.2.2.1.1 (gQ1 p 6) k (by omega) c.2 k0 k1).2.2.2
      rw [up_ne (by omega), up_ne (by omega)] at this
      exact this (by omega)
    have J := gHo_J (y := gQ1 p 6) g1 (by omega) c.2 g2 (p 1) (by omega) (by rw [up_ne (by omega), gYp_o h1 c.2 hz 1 (by omega) (by omega)]; omega)
    exact ⟨J.1, by rw [J.2.2 0 (by omega) (by omega), up_at rfl]⟩
  · rw [if_neg c, if_neg c]
    exact ⟨h2, up_at rfl⟩
theorem s246 {d N : Nat} {p w : Int → Int} {x m : zM} {Q : Int → zM → zM → Prop} (hd : 12 ≤ d) (hp : m 387 = p) (hw : m 390 = w) (hIF : IF N p w) (h399 : p 0 ≤ 399) (h : ∀ m', (∀ k, k ≠ 386 → k ≠ 387 → k ≠ 390 → k ≠ 397 → k ≠ 398 → k ≠ 399 → k ≠ 400 → m' k = m k) → (∀ i, i ≠ 23 → m' 386 i = m 386 i) → m' 387 = gZp p w → m' 390 = gZw p w → Q (gZn p) x m') : WPc d 246 [zr 386] 403 [] x m 403 [] Q := by
  have hb := hIF.1.1; unfold IB at hb
  have hC := hIF.2.2.2.2.2.1
  have hc := hC; unfold IC at hc
  obtain ⟨h1, hE1, h2, h3, h4, h5, h6⟩ := IF_w hIF h399
  have e0 := h3 0 (by omega) (by omega) (by omega)
  have e1 := h3 1 (by omega) (by omega) (by omega)
  have e6 := h3 6 (by omega) (by omega) (by omega)
  have hz : gQ1 p 6 < 7 → ∀ k, 0 ≤ k → k < 16 → gQ1 p (6032 + 16 * gQ1 p 6 + k) = 0 := fun c k k0 k1 => by
    have := (h2.2.2.2.2.1.1 (gQ1 p 6) k (by omega) c k0 k1).2.2.2
    rw [up_ne (by omega), up_ne (by omega)] at this
    exact this (by omega)
  have loop2 : gYear (gQ1 p) → ∀ j, 0 ≤ j → j ≤ p 1 → ∀ m', (∀ k, k ≠ 386 → k ≠ 387 → k ≠ 390 → k ≠ 397 → k ≠ 398 → k ≠ 399 → k ≠ 400 → m' k = m k) → (∀ i, i ≠ 23 → m' 386 i = m 386 i) → m' 387 = gHo (gQ1 p 6) (up (gYp (gQ1 p) (gW1 p w)) 0 (p 0 + 1)) j → m' 390 = gYw (gQ1 p) (gW1 p w) → WP d 246 115 [(0, zr 386), (1, zi (gZn p)), (2, zi 1), (3, zi j)] [] 403 [] x m' 403 [] Q := by
    intro c
    obtain ⟨g1, g2⟩ := IF_y h1 h2 c.2 h4.1 h5
    rw [e0] at g1 g2
    refine zdown _ _ ?_
    intro j j0 j1 ih m' M1 M2 M3 M4
    have P1 : up (gYp (gQ1 p) (gW1 p w)) 0 (p 0 + 1) 1 = p 1 := by rw [up_ne (by omega), gYp_o h1 c.2 (hz c.2) 1 (by omega) (by omega)]; exact e1
    have P6 : up (gYp (gQ1 p) (gW1 p w)) 0 (p 0 + 1) 6 = gQ1 p 6 + 1 := by rw [up_ne (by omega)]; exact (gYp_v (by omega) c.2).1
    obtain ⟨J1, J2, J3⟩ := gHo_J (y := gQ1 p 6) g1 (by omega) c.2 g2 j j0 (by omega)
    rw [gHo_s j0] at ih
    have hend : j = p 1 → m' 387 = gZp p w := fun e => by rw [M3, e]; unfold gZp; rw [if_pos c]
    obtain ⟨q, hq⟩ : ∃ q, q = gHo (gQ1 p 6) (up (gYp (gQ1 p) (gW1 p w)) 0 (p 0 + 1)) j := ⟨_, rfl⟩
    rw [← hq] at J1 J2 J3 ih M3
    have q1 : q 1 = p 1 := by rw [J3 1 (by omega) (by omega), P1]
    have q6 : q 6 = gQ1 p 6 + 1 := by rw [J3 6 (by omega) (by omega), P6]
    clear hq
    have qb := J1.1.1; unfold IB at qb
    apply r246_c115
    simp only [M3, q1, q6, show gQ1 p 6 + 1 - 1 = gQ1 p 6 by omega]
    by_cases cj : j < p 1
    · have yb := J1.2.2.2.2.1.1 (gQ1 p 6) j (by omega) c.2 j0 (by omega)
      rw [show 5696 + 16 * gQ1 p 6 + j = 5696 + (16 * gQ1 p 6 + j) by omega, show 5808 + 16 * gQ1 p 6 + j = 5808 + (16 * gQ1 p 6 + j) by omega] at yb
      have ih' := ih (by omega)
      unfold gHoS at ih'
      have h44 := IEc_4 J1
      have h7 : gI q j (q 0) = -1 → q 4 < 700 := fun _ => by omega
      clear ih hend g1 g2
      repeat' (first | (with_reducible assumption) | (with_reducible rfl) | (with_reducible apply And.intro) | (with_reducible apply zIn_mk) | (with_reducible apply zLn_mk) | ((with_reducible intro _); try (exfalso; omega)) | omega | (with_reducible exact Or.inr trivial) | (with_reducible exact Or.inl trivial) | ((rw [if_neg (by omega)] at ih'; exact ih' m' M1 M2 M3 M4)) | ((refine s178 (p := q) (by omega) M3 J1.1.1 J1.2.2.1 h7 (by unfold zIn; omega) ?_; rw [if_pos (by omega)] at ih')) | ((exact ih' _ (fun k k0 k1 k2 k3 k4 k5 k6 => by rw [zP_ne _ _ k1]; exact M1 k k0 k1 k2 k3 k4 k5 k6) (fun i i0 => by rw [zP_ne _ _ (by decide)]; exact M2 i i0) (zP_eq _ _) (by rw [zP_ne _ _ (by decide)]; exact M4))) | fail)
    · have h2' := h m' M1 M2 (hend (by omega)) (by rw [M4]; unfold gZw; rw [if_pos c])
      clear ih hend g1 g2
      repeat' (first | (with_reducible assumption) | (with_reducible rfl) | (with_reducible apply And.intro) | (with_reducible apply zIn_mk) | (with_reducible apply zLn_mk) | ((with_reducible intro _); try (exfalso; omega)) | omega | (with_reducible exact Or.inr trivial) | (with_reducible exact Or.inl trivial) | ((exact h2')) | fail)
  have loop1 : ∀ j, 0 ≤ j → j ≤ p 1 → ∀ m', (∀ k, k ≠ 387 → k ≠ 390 → m' k = m k) → m' 387 = gQ1 p → m' 390 = gWk (gQ1 p) w j → WP d 246 7 [(0, zr 386), (1, zi (gZn p)), (2, zi j)] [] 403 [] x m' 403 [] Q := by
    refine zdown _ _ ?_
    intro j j0 j1 ih m' M1 M3 M4
    apply r246_c7
    simp only [M3, e1, e0, e6]
    by_cases cj : j < p 1
    · have sv := gSv_now h1.1 hE1 j
      rw [e0] at sv
      have lo := gSv_lo (gQ1 p) j 400 400
      have hi := gSv_hi (gQ1 p) j 400 400
      have e390 : m' 390 (112 + j) = w (112 + j) := by rw [M4]; unfold gWk; rw [if_neg (by omega)]
      have wb := hIF.2.2.2.2.1.2.2.1 (112 + j) (by omega) (by omega)
      have ih' := ih (by omega) (zupd m' 390 (112 + j) (w (112 + j) + zmx 0 (gSv (gQ1 p) j 400 400))) (fun k k0 k1 => by rw [zu_ne _ _ _ k1]; exact M1 k k0 k1) (by rw [zu_ne _ _ _ (by decide)]; exact M3) (by
        rw [zu_eq, M4]
        funext k
        unfold gWk
        by_cases ck : k = 112 + j
        · rw [up_at ck, if_pos (by omega), ck, show 112 + j - 112 = j by omega]
        · rw [up_ne ck]
          by_cases c2 : 112 ≤ k ∧ k < 112 + j
          · rw [if_pos c2, if_pos (by omega)]
          · rw [if_neg c2, if_neg (by omega)])
      clear ih
      repeat' (first | (with_reducible assumption) | (with_reducible rfl) | (with_reducible apply And.intro) | (with_reducible apply zIn_mk) | (with_reducible apply zLn_mk) | ((with_reducible intro _); try (exfalso; omega)) | omega | (with_reducible exact Or.inr trivial) | (with_reducible exact Or.inl trivial) | ((refine s180 (p := gQ1 p) M3 h1.1 ?_; rw [sv]; simp only [e390])) | ((unfold zmx at ih'; rw [if_pos (by omega)] at ih'; exact ih')) | ((unfold zmx at ih'; rw [if_neg (by omega)] at ih'; exact ih')) | fail)
    · have ej : j = p 1 := by omega
      have eW : m' 390 = gW1 p w := by rw [M4, ej]; rfl
      have hb1 := h1.1; unfold IB at hb1
      clear ih
      by_cases c : gYear (gQ1 p)
      · have l2 := loop2 c 0 (by omega) (by omega)
        have c' := c
        unfold gYear at c'
        have g0 : gYp (gQ1 p) (gW1 p w) 0 = p 0 := by rw [gYp_o h1 c.2 (hz c.2) 0 (by omega) (by omega)]; exact e0
        clear loop2
        repeat' (first | (with_reducible assumption) | (with_reducible rfl) | (with_reducible apply And.intro) | (with_reducible apply zIn_mk) | (with_reducible apply zLn_mk) | ((with_reducible intro _); try (exfalso; omega)) | omega | (with_reducible exact Or.inr trivial) | (with_reducible exact Or.inl trivial) | ((exfalso; omega)) | ((refine s244 (p := gQ1 p) (w := gW1 p w) (by omega) M3 eW h1 c.2 (hz c.2) h4.1 h4.2 h5 ?_; intro mB g1 g2 g3 g4; simp only [g3, g0])) | fail)
        exact l2 _ (fun k k0 k1 k2 k3 k4 k5 k6 => by rw [zu_ne _ _ _ k1, g1 k k0 k1 k2 k3 k4 k5 k6]; exact M1 k k1 k2) (fun i i0 => by rw [zu_ne _ _ _ (by decide), g2 i i0, M1 386 (by decide) (by decide)]) (by rw [zu_eq, g3]; rfl) (by rw [zu_ne _ _ _ (by decide)]; exact g4)
      · have hend := h (zP m' (up (gQ1 p) 0 (p 0 + 1))) (fun k k0 k1 k2 k3 k4 k5 k6 => by rw [zP_ne _ _ k1]; exact M1 k k1 k2) (fun i i0 => by rw [zP_ne _ _ (by decide), M1 386 (by decide) (by decide)]) (by rw [zP_eq]; unfold gZp; rw [if_neg c]) (by rw [zP_ne _ _ (by decide), eW]; unfold gZw; rw [if_neg c])
        unfold gYear at c
        rw [e0, e6] at c
        clear loop2 h
        repeat' (first | (with_reducible assumption) | (with_reducible rfl) | (with_reducible apply And.intro) | (with_reducible apply zIn_mk) | (with_reducible apply zLn_mk) | (simp only [zP_up, M3]) | ((with_reducible intro _); try (exfalso; omega)) | omega | (with_reducible exact Or.inr trivial) | (with_reducible exact Or.inl trivial) | ((exfalso; omega)) | ((with_reducible apply r246_c115)) | ((exact hend)) | fail)
  apply r246
  refine ⟨by omega, ?_⟩
  refine s241 (p := p) (w := w) hp (by omega) hIF.1.1 hIF.1.2.1 hIF.1.2.2.1 hIF.2.2.1 hIF.2.2.2.1.2.2 hIF.2.2.2.1.1 hIF.2.2.2.2.1 hc.2.1 (by omega) ?_
  exact loop1 0 (by omega) (by omega) _ (fun k k0 _ => zP_ne _ _ k0) (zP_eq _ _) (by rw [zP_ne _ _ (by decide), hw]; funext k; unfold gWk; rw [if_neg (by omega)])
