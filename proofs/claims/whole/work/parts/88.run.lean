/-! A WEEK CLOSES: the class's side; RUN -/
theorem IX_yp {q w : Int → Int} (hI : IX q) (h6 : q 6 < 7) (hz : ∀ k, 0 ≤ k → k < 16 → q (6032 + 16 * q 6 + k) = 0) : IX (gYp q w) := by
  have qb := hI.1; unfold IB at qb
  have o := gYp_o (w := w) hI h6 hz
  obtain ⟨hIr, hro⟩ := IX_yr hI h6 hz
  have rb := hIr.1; unfold IB at rb
  have v6 := (gYp_v (p := q) (w := w) (by omega) h6).1
  refine ⟨?_, IA_f hI.1 (by rw [o 1 (by omega) (by omega)]; omega) (o 2 (by omega) (by omega)) (fun i i0 i1 => o i (by omega) (by omega)) hI.2.1, ?_, IR_f hI.1 (o 5 (by omega) (by omega)) (fun i i0 i1 => o i (by omega) (by omega)) hI.2.2.2⟩
  · unfold IB
    rw [o 0 (by omega) (by omega), o 1 (by omega) (by omega), o 2 (by omega) (by omega), o 3 (by omega) (by omega), o 4 (by omega) (by omega), o 5 (by omega) (by omega), v6, o 7 (by omega) (by omega), o 8 (by omega) (by omega)]
    omega
  · refine IN_f hIr.1 ?_ ?_ ?_ (fun i i0 i1 => ?_) (fun i i0 i1 => ?_) hIr.2.2.1
    · rw [o 0 (by omega) (by omega), hro 0 (by omega) (by omega)]; omega
    · rw [o 2 (by omega) (by omega), hro 2 (by omega) (by omega)]
    · rw [o 3 (by omega) (by omega), hro 3 (by omega) (by omega)]
    · rw [gYp_r (by omega) (by omega) (by omega) (by omega) (by omega) (by omega) (by omega)]
    · rw [gYp_r (by omega) (by omega) (by omega) (by omega) (by omega) (by omega) (by omega)]
theorem RF_wk {x : zM} {q w : Int → Int} {v : Int} (hI : IX q) (hF : RF x q w) : RF (zupd x 1 0 v) (up q 0 v) w := by
  obtain ⟨hB, hA, hN, hR⟩ := hI
  have hb := hB; unfold IB at hb
  obtain ⟨⟨hM, hL, hAx, hNx, hRx⟩, hY, hT, hP⟩ := hF
  refine ⟨⟨?_, ?_, ?_, ?_, ?_⟩, ?_, ?_, ?_⟩
  · refine ⟨by rw [zu_eq, up_at rfl, up_at rfl], by rw [zu_eq, up_ne (by omega), up_ne (by omega)]; exact hM.2.1, fun k k0 k1 => ?_⟩
    rw [up_ne (by omega)] at k1
    simp (disch := omega) only [zu_ne, up_ne]
    exact hM.2.2 k k0 k1
  · unfold RLx; simp (disch := omega) only [zu_ne]; exact RL_f hB (up_ne (by omega)) (fun i i0 i1 => up_ne (by omega)) (up_ne (by omega)) (up_ne (by omega)) hL
  · unfold RAx; simp (disch := omega) only [zu_ne]; exact RA_f hB (up_ne (by omega)) (fun i i0 i1 => up_ne (by omega)) hAx
  · unfold RNx; simp (disch := omega) only [zu_ne]; exact RN_f hB hN (up_ne (by omega)) (fun i i0 i1 => up_ne (by omega)) (fun i i0 i1 => up_ne (by omega)) hNx
  · unfold RRx; simp (disch := omega) only [zu_ne]; exact RR_f hB hR (up_ne (by omega)) (fun i i0 i1 => up_ne (by omega)) hRx
  · unfold RYx; simp (disch := omega) only [zu_ne]; exact RY_f (up_ne (by omega)) (up_ne (by omega)) (fun i i0 i1 => up_ne (by omega)) hY
  · unfold RTx; simp (disch := omega) only [zu_ne]; exact RT_f hB (up_ne (by omega)) (up_ne (by omega)) (fun i i0 i1 => up_ne (by omega)) hT
  · unfold RPx; simp (disch := omega) only [zu_ne]; exact RP_f (fun i i0 i1 => up_ne (by omega)) hP
theorem c18 {d N : Nat} {y : Int} {p w : Int → Int} {x m : zM} {Q : Int → zM → zM → Prop} (hd : 3 ≤ d) (hF : RF x p w) (hIF : IF N p w) (y0 : 0 ≤ y) (y1 : y < 7) (hc : p 4 + 16 ≤ gCap p) (h : ∀ x', RF x' (gHo y p (p 1)) w → (∀ k, k < 7 ∨ 12 < k → x' k = x k) → Q 0 x' m) : WPc d 18 [zr 332, zi y] 403 [] x m 403 [] Q := by
  have hb := hIF.1.1; unfold IB at hb
  have hY := hF.2.1
  have loop : ∀ j, 0 ≤ j → j ≤ p 1 → ∀ x', RLx x' (gHo y p j) → (∀ k, k < 7 ∨ 12 < k → x' k = x k) → WP d 18 2 [(0, zr 332), (1, zi y), (2, zi j)] [] 403 [] x' m 403 [] Q := by
    refine zdown _ _ ?_
    intro j j0 j1 ih x' hL hx
    obtain ⟨J1, J2, J3⟩ := gHo_J hIF y0 y1 hc j j0 j1
    have hend : j = p 1 → Q 0 x' m := fun e => h x' (by
      rw [← e]
      refine RF_1 hIF.1.1 hIF.1.2.2.1 hIF.1.2.2.2 hF ?_ hL (fun k k0 k1 => hx k (by omega)) (J3 2 (by omega) (by omega)) (J3 3 (by omega) (by omega)) (J3 5 (by omega) (by omega)) (J3 6 (by omega) (by omega)) (J3 7 (by omega) (by omega)) (J3 8 (by omega) (by omega)) (fun i i0 i1 => J3 i (by omega) (by omega)) (fun i i0 i1 => J3 i (by omega) (by omega))
      unfold RMx; rw [hx 1 (by omega), hx 2 (by omega), hx 3 (by omega), hx 4 (by omega), hx 5 (by omega), hx 6 (by omega)]
      exact RM_f hIF.1.1 (J3 0 (by omega) (by omega)) (J3 1 (by omega) (by omega)) (fun i i0 i1 => J3 i (by omega) (by omega)) hF.1.1) hx
    rw [gHo_s j0] at ih
    obtain ⟨q, hq⟩ : ∃ q, q = gHo y p j := ⟨_, rfl⟩
    rw [← hq] at J1 J2 J3 ih hL
    clear hq
    have qb := J1.1.1; unfold IB at qb
    have e11 : x' 1 1 = p 1 := by rw [hx 1 (by omega)]; exact hF.1.1.2.1
    have e10 : x' 1 0 = q 0 := by rw [hx 1 (by omega), J3 0 (by omega) (by omega)]; exact hF.1.1.1
    apply r18_c2
    simp only [e11, e10]
    by_cases cj : j < p 1
    · have yb := J1.2.2.2.2.1.1 y j y0 y1 j0 (by omega)
      rw [show 5696 + 16 * y + j = 5696 + (16 * y + j) by omega, show 5808 + 16 * y + j = 5808 + (16 * y + j) by omega] at yb
      have ry := hY.2.2.2.1 y j y0 y1 j0 (by omega)
      have e117 : x' 117 (y * 16 + j) = q (5696 + (16 * y + j)) := by rw [hx 117 (by omega), J3 _ (by omega) (by omega), ← show 5696 + 16 * y + j = 5696 + (16 * y + j) by omega]; exact ry.1
      have e125 : x' 125 (y * 16 + j) = q (5808 + (16 * y + j)) := by rw [hx 125 (by omega), J3 _ (by omega) (by omega), ← show 5808 + 16 * y + j = 5808 + (16 * y + j) by omega]; exact ry.2.1
      have ih' := ih (by omega)
      unfold gHoS at ih'
      have h44 := IEc_4 J1
      have h7 : gI q j (q 0) = -1 → q 4 < 700 := fun _ => by omega
      clear ih hend ry
      repeat' (first | (with_reducible assumption) | (with_reducible rfl) | (with_reducible apply And.intro) | (with_reducible apply zIn_mk) | (with_reducible apply zLn_mk) | ((with_reducible intro _); try (exfalso; omega)) | omega | (with_reducible exact Or.inr trivial) | (with_reducible exact Or.inl trivial) | ((apply r113; intro hz1 hz2; simp only [e117, e125])) | ((rw [if_neg (by omega)] at ih'; exact ih' x' hL hx)) | ((rw [if_pos (by omega)] at ih'; simp only [e10]; refine c25_7 (p := q) (by omega) hL J1.1.1 J1.2.2.1 rfl j0 (by omega) (by omega) (Int.le_refl _) h7 ?_; intro xB hB1 hB2)) | ((exact ih' xB hB2 (fun k k0 => by rw [hB1 k k0]; exact hx k k0))) | fail)
    · have h2 := hend (by omega)
      clear ih hend
      repeat' (first | (with_reducible assumption) | (with_reducible rfl) | (with_reducible apply And.intro) | (with_reducible apply zIn_mk) | (with_reducible apply zLn_mk) | ((with_reducible intro _); try (exfalso; omega)) | omega | (with_reducible exact Or.inr trivial) | (with_reducible exact Or.inl trivial) | ((exact h2)) | fail)
  apply r18
  intro hz
  exact loop 0 (by omega) (by omega) x hF.1.2.1 (fun _ _ => rfl)
theorem c11 {d N : Nat} {p w : Int → Int} {x m : zM} {Q : Int → zM → zM → Prop} (hd : 12 ≤ d) (hF : RF x p w) (hIF : IF N p w) (h399 : p 0 ≤ 399) (h : ∀ x', RF x' (gZp p w) (gZw p w) → (∀ k, zScr k = false → k = 0 ∨ 163 ≤ k → x' k = x k) → Q (gZn p) x' m) : WPc d 11 [zr 332] 403 [] x m 403 [] Q := by
  have hb := hIF.1.1; unfold IB at hb
  have hC := hIF.2.2.2.2.2.1
  have hc := hC; unfold IC at hc
  obtain ⟨h1, hE1, h2, h3, h4, h5, h6⟩ := IF_w hIF h399
  have e0 := h3 0 (by omega) (by omega) (by omega)
  have e1 := h3 1 (by omega) (by omega) (by omega)
  have e6 := h3 6 (by omega) (by omega) (by omega)
  have hz : gQ1 p 6 < 7 → ∀ k, 0 ≤ k → k < 16 → gQ1 p (6032 + 16 * gQ1 p 6 + k) = 0 := fun c k k0 k1 => by
    have := (h2.2.2.2.2.1.1 (gQ1 p 6) k (by omega) c k0 k1).2.2.2
    rw [up_ne (by omega), up_ne (by omega)] at this
    exact this (by omega)
  obtain ⟨hX, hY, hT, hP⟩ := id hF
  apply r11
  refine ⟨by omega, ?_⟩
  refine c12 (p := p) (w := w) (by omega) hX hIF.1.1 hIF.1.2.1 hIF.1.2.2.1 hIF.1.2.2.2 hIF.2.2.1 hIF.2.2.2.1.2.2 hIF.2.2.2.1.1 hIF.2.2.2.2.1 hY.2.1 hc.2.1 (by omega) ?_
  intro xA hXA hA1 hA7 hAi
  rw [show (gPs p (p 3)).1 = gQ1 p from rfl] at hXA hA7
  rw [show (gPs p (p 3)).2 = gZn p from rfl]
  have loop : ∀ j, 0 ≤ j → j ≤ p 1 → ∀ x', (∀ k, k ≠ 149 → x' k = xA k) → (∀ k, 0 ≤ k → k < 16 → x' 149 k = gWk (gQ1 p) w j (112 + k)) → WP d 11 7 [(0, zr 332), (1, zi (gZn p)), (2, zi j)] [] 403 [] x' m 403 [] Q := by
    refine zdown _ _ ?_
    intro j j0 j1 ih x' M1 M2
    have a11 : x' 1 1 = p 1 := by rw [M1 1 (by decide), hA1 1 (by omega) (by omega) (by omega)]; exact hX.1.2.1
    have a10 : x' 1 0 = p 0 := by rw [M1 1 (by decide), hA1 1 (by omega) (by omega) (by omega)]; exact hX.1.1
    have a108 : x' 108 0 = p 6 := by rw [M1 108 (by decide), hAi 0 (by omega)]; exact hY.1
    apply r11_c7
    simp only [a11, a10, a108]
    by_cases cj : j < p 1
    · have e12 : x' 12 j = gSv (gQ1 p) j 400 400 := by rw [M1 12 (by decide)]; exact hXA.2.1.2.2.1 j j0 (by omega)
      have e149 : x' 149 j = w (112 + j) := by rw [M2 j j0 (by omega)]; unfold gWk; rw [if_neg (by omega)]
      have sp := gSv_pos (gQ1 p) j 400 400
      have wb := hIF.2.2.2.2.1.2.2.1 (112 + j) (by omega) (by omega)
      have ih' := ih (by omega) (zupd x' 149 j (w (112 + j) + zmx 0 (gSv (gQ1 p) j 400 400))) (fun k k0 => by rw [zu_ne _ _ _ k0]; exact M1 k k0) (fun k k0 k1 => by
        rw [zu_eq]
        unfold gWk
        by_cases ck : k = j
        · rw [up_at ck, if_pos (by omega), ck, show 112 + j - 112 = j by omega]
        · rw [up_ne ck, M2 k k0 k1]
          unfold gWk
          by_cases c2 : 112 ≤ 112 + k ∧ 112 + k < 112 + j
          · rw [if_pos c2, if_pos (by omega)]
          · rw [if_neg c2, if_neg (by omega)])
      simp only [e12, e149]
      clear ih
      repeat' (first | (with_reducible assumption) | (with_reducible rfl) | (with_reducible apply And.intro) | (with_reducible apply zIn_mk) | (with_reducible apply zLn_mk) | ((with_reducible intro _); try (exfalso; omega)) | omega | (with_reducible exact Or.inr trivial) | (with_reducible exact Or.inl trivial) | ((exact ih')) | fail)
    · have ej : j = p 1 := by omega
      clear ih
      have gw : ∀ k, k < 112 → gW1 p w k = w k := fun k k0 => by unfold gW1 gWk; rw [if_neg (by omega)]
      have hF' : RF x' (gQ1 p) (gW1 p w) := by
        refine ⟨RX_o (fun k k0 _ => M1 k (by omega)) hXA, ⟨by rw [a108, e6], by rw [M1 108 (by decide)]; exact hA7, fun y k y0 y1 k0 k1 => ?_, fun y k y0 y1 k0 k1 => ?_, fun k k0 k1 => ?_⟩, ?_, ?_⟩
        · rw [M1 109 (by decide), hA1 109 (by omega) (by omega) (by omega), h3 _ (by omega) (by omega) (by omega)]; exact hY.2.2.1 y k y0 y1 k0 k1
        · rw [M1 117 (by decide), hA1 117 (by omega) (by omega) (by omega), M1 125 (by decide), hA1 125 (by omega) (by omega) (by omega), M1 133 (by decide), hA1 133 (by omega) (by omega) (by omega), M1 141 (by decide), hA1 141 (by omega) (by omega) (by omega), h3 _ (by omega) (by omega) (by omega), h3 _ (by omega) (by omega) (by omega), h3 _ (by omega) (by omega) (by omega), gw _ (by omega)]
          exact hY.2.2.2.1 y k y0 y1 k0 k1
        · rw [M2 k k0 k1, ej]; rfl
        · unfold RTx; rw [M1 150 (by decide), hA1 150 (by omega) (by omega) (by omega), M1 151 (by decide), hA1 151 (by omega) (by omega) (by omega), M1 152 (by decide), hA1 152 (by omega) (by omega) (by omega), M1 153 (by decide), hA1 153 (by omega) (by omega) (by omega), M1 154 (by decide), hA1 154 (by omega) (by omega) (by omega), M1 155 (by decide), hA1 155 (by omega) (by omega) (by omega), M1 156 (by decide), hA1 156 (by omega) (by omega) (by omega)]; exact RT_f hIF.1.1 (h3 8 (by omega) (by omega) (by omega)) (h3 7 (by omega) (by omega) (by omega)) (fun i i0 i1 => h3 i (by omega) (by omega) (by omega)) hT
        · unfold RPx; rw [M1 157 (by decide), hA1 157 (by omega) (by omega) (by omega), M1 158 (by decide), hA1 158 (by omega) (by omega) (by omega)]; exact RP_f (fun i i0 i1 => h3 i (by omega) (by omega) (by omega)) hP
      have hfr : ∀ k, k = 0 ∨ 163 ≤ k → x' k = x k := fun k hk => by rw [M1 k (by omega), hA1 k (by omega) (by omega) (by omega)]
      by_cases c : gYear (gQ1 p)
      · have c' := c
        unfold gYear at c'
        obtain ⟨g1, g2⟩ := IF_y h1 h2 c.2 h4.1 h5
        rw [e0] at g1 g2
        have hIp := IX_yp (w := gW1 p w) h1 c.2 (hz c.2)
        have gp1 : up (gYp (gQ1 p) (gW1 p w)) 0 (p 0 + 1) 1 = p 1 := by rw [up_ne (by omega), gYp_o h1 c.2 (hz c.2) 1 (by omega) (by omega)]; exact e1
        have hend : ∀ x4, RF x4 (gHo (gQ1 p 6) (up (gYp (gQ1 p) (gW1 p w)) 0 (p 0 + 1)) (p 1)) (gYw (gQ1 p) (gW1 p w)) → (∀ k, zScr k = false → k = 0 ∨ 163 ≤ k → x4 k = x k) → Q (gZn p) x4 m := fun x4 q1 q2 => h x4 (by unfold gZp gZw; rw [if_pos c, if_pos c]; exact q1) q2
        clear h
        repeat' (first | (with_reducible assumption) | (with_reducible rfl) | (with_reducible apply And.intro) | (with_reducible apply zIn_mk) | (with_reducible apply zLn_mk) | ((with_reducible intro _); try (exfalso; omega)) | omega | (with_reducible exact Or.inr trivial) | (with_reducible exact Or.inl trivial) | ((exfalso; omega)) | ((refine c13 (p := gQ1 p) (w := gW1 p w) (by omega) hF'.1 hF'.2.1 h1 c.2 (hz c.2) h4.1 h4.2 h5 ?_; intro xB gF; have b10 : xB 1 0 = p 0 := (by rw [gF.1 1 rfl (by decide) (by decide) (by decide) (by decide) (by decide) (by decide) (by decide) (by decide) (by decide)]; exact a10); have b108 : xB 108 0 = gQ1 p 6 + 1 := gF.2.2.2.1.1; have b108' : zupd xB 1 0 (p 0 + 1) 108 0 = gQ1 p 6 + 1 := (by rw [zu_ne _ _ _ (by decide)]; exact b108); simp only [b10, b108, show gQ1 p 6 + 1 - 1 = gQ1 p 6 by omega])) | ((refine c18 (p := up (gYp (gQ1 p) (gW1 p w)) 0 (p 0 + 1)) (w := gYw (gQ1 p) (gW1 p w)) (by omega) (RF_wk hIp (RF_y h1 hF' c.2 (hz c.2) gF)) g1 (by omega) c.2 g2 ?_; rw [gp1]; intro xD d1 d2; exact hend xD d1 (fun k hk k0 => by rw [d2 k (by omega), zu_ne _ _ _ (by omega), gF.1 k hk (by omega) (by omega) (by omega) (by omega) (by omega) (by omega) (by omega) (by omega) (by omega)]; exact hfr k k0))) | fail)
      · have hend := h (zupd x' 1 0 (p 0 + 1)) (by unfold gZp gZw; rw [if_neg c, if_neg c]; exact RF_wk h1 hF') (fun k _ k0 => by rw [zu_ne _ _ _ (by omega)]; exact hfr k k0)
        unfold gYear at c
        rw [e0, e6] at c
        clear h
        repeat' (first | (with_reducible assumption) | (with_reducible rfl) | (with_reducible apply And.intro) | (with_reducible apply zIn_mk) | (with_reducible apply zLn_mk) | ((with_reducible intro _); try (exfalso; omega)) | omega | (with_reducible exact Or.inr trivial) | (with_reducible exact Or.inl trivial) | ((exfalso; omega)) | ((exact hend)) | fail)
  exact loop 0 (by omega) (by omega) xA (fun _ _ => rfl) (fun k k0 k1 => by
    unfold gWk
    rw [if_neg (by omega), hA1 149 (by omega) (by omega) (by omega)]
    exact hY.2.2.2.2 k k0 k1)
def gRnN (p w : Int → Int) : Nat → (Int → Int) × (Int → Int) × Int
  | 0 => (p, w, 0)
  | n + 1 => (gZp (gRnN p w n).1 (gRnN p w n).2.1, gZw (gRnN p w n).1 (gRnN p w n).2.1, (gRnN p w n).2.2 + gZn (gRnN p w n).1)
def gRn (p w : Int → Int) (j : Int) : (Int → Int) × (Int → Int) × Int := gRnN p w j.toNat
theorem gRn_s {p w : Int → Int} {j : Int} (h : 0 ≤ j) : gRn p w (j + 1) = (gZp (gRn p w j).1 (gRn p w j).2.1, gZw (gRn p w j).1 (gRn p w j).2.1, (gRn p w j).2.2 + gZn (gRn p w j).1) := by
  unfold gRn
  have e : (j + 1).toNat = j.toNat + 1 := by omega
  rw [e, gRnN]
theorem gRn_J {N : Nat} {p w : Int → Int} {n : Int} (hIF : IF N p w) (hn : p 0 + n ≤ 400) : ∀ j, 0 ≤ j → (j ≤ n → IF N (gRn p w j).1 (gRn p w j).2.1 ∧ (gRn p w j).1 0 = p 0 + j ∧ (0 ≤ (gRn p w j).2.2 ∧ (gRn p w j).2.2 ≤ 24 * j)) := by
  refine zup1 _ (fun _ => ?_) ?_
  · exact ⟨hIF, by show p 0 = p 0 + 0; omega, by show (0 : Int) ≤ 0 ∧ (0 : Int) ≤ 24 * 0; omega⟩
  · intro j j0 ih j1
    obtain ⟨J1, J2, J3⟩ := ih (by omega)
    rw [gRn_s j0]
    obtain ⟨z1, z2⟩ := IF_z J1 (by omega)
    have z3 := (IF_w J1 (by omega)).2.2.2.2.2.2
    refine ⟨z1, ?_, ?_⟩
    · show gZp _ _ 0 = _
      rw [z2]; omega
    · show 0 ≤ _ + gZn _ ∧ _ + gZn _ ≤ 24 * (j + 1)
      omega
theorem s247l {d N : Nat} {n : Int} {p w : Int → Int} {x m : zM} {Q : Int → zM → zM → Prop} (hd : 14 ≤ d) (hp : m 387 = p) (hw : m 390 = w) (hIF : IF N p w) (n0 : 0 ≤ n) (hn : p 0 + n ≤ 400) (h : ∀ m', (∀ k, k ≠ 386 → k ≠ 387 → k ≠ 390 → k ≠ 397 → k ≠ 398 → k ≠ 399 → k ≠ 400 → m' k = m k) → (∀ i, i ≠ 23 → m' 386 i = m 386 i) → m' 387 = (gRn p w n).1 → m' 390 = (gRn p w n).2.1 → Q (gRn p w n).2.2 x m') : WP d 247 53 [(0, zr 386), (1, zi n), (2, zi 0), (3, zi 0)] [] 403 [] x m 403 [] Q := by
  have hb := hIF.1.1; unfold IB at hb
  have loop : ∀ j, 0 ≤ j → j ≤ n → ∀ m', (∀ k, k ≠ 386 → k ≠ 387 → k ≠ 390 → k ≠ 397 → k ≠ 398 → k ≠ 399 → k ≠ 400 → m' k = m k) → (∀ i, i ≠ 23 → m' 386 i = m 386 i) → m' 387 = (gRn p w j).1 → m' 390 = (gRn p w j).2.1 → WP d 247 53 [(0, zr 386), (1, zi n), (2, zi (gRn p w j).2.2), (3, zi j)] [] 403 [] x m' 403 [] Q := by
    refine zdown _ _ ?_
    intro j j0 j1 ih m' M1 M2 M3 M4
    obtain ⟨J1, J2, J3⟩ := gRn_J hIF hn j j0 j1
    have hend : j = n → Q (gRn p w j).2.2 x m' := fun e => by rw [e]; rw [e] at M3 M4; exact h m' M1 M2 M3 M4
    rw [gRn_s j0] at ih
    have z3 := fun c : j < n => (IF_w J1 (by omega)).2.2.2.2.2.2
    apply r247_c53
    by_cases cj : j < n
    · have z3' := z3 cj
      have ih' := ih cj
      dsimp only at ih'
      clear ih hend z3
      repeat' (first | (with_reducible assumption) | (with_reducible rfl) | (with_reducible apply And.intro) | (with_reducible apply zIn_mk) | (with_reducible apply zLn_mk) | ((with_reducible intro _); try (exfalso; omega)) | omega | (with_reducible exact Or.inr trivial) | (with_reducible exact Or.inl trivial) | ((refine s246 (p := (gRn p w j).1) (w := (gRn p w j).2.1) (by omega) M3 M4 J1 (by omega) ?_; intro mB g1 g2 g3 g4)) | ((exact ih' mB (fun k k0 k1 k2 k3 k4 k5 k6 => by rw [g1 k k0 k1 k2 k3 k4 k5 k6]; exact M1 k k0 k1 k2 k3 k4 k5 k6) (fun i i0 => by rw [g2 i i0]; exact M2 i i0) g3 g4)) | fail)
    · have h2 := hend (by omega)
      clear ih hend z3
      repeat' (first | (with_reducible assumption) | (with_reducible rfl) | (with_reducible apply And.intro) | (with_reducible apply zIn_mk) | (with_reducible apply zLn_mk) | ((with_reducible intro _); try (exfalso; omega)) | omega | (with_reducible exact Or.inr trivial) | (with_reducible exact Or.inl trivial) | ((exact h2)) | fail)
  exact loop 0 (by omega) n0 m (fun _ _ _ _ _ _ _ _ => rfl) (fun _ _ => rfl) hp hw
theorem k137l {d N : Nat} {n : Int} {p w : Int → Int} {x m : zM} {Q : Int → zM → zM → Prop} (hd : 14 ≤ d) (hF : RF x p w) (hIF : IF N p w) (n0 : 0 ≤ n) (hn : p 0 + n ≤ 400) (h : ∀ x', RF x' (gRn p w n).1 (gRn p w n).2.1 → (∀ k, zScr k = false → k = 0 ∨ 163 ≤ k → x' k = x k) → Q (gRn p w n).2.2 x' m) : WP d 137 54 [(0, zr 0), (1, zi n), (2, zi 0), (3, zi 0)] [] 403 [] x m 403 [] Q := by
  have hb := hIF.1.1; unfold IB at hb
  have loop : ∀ j, 0 ≤ j → j ≤ n → ∀ x', RF x' (gRn p w j).1 (gRn p w j).2.1 → (∀ k, zScr k = false → k = 0 ∨ 163 ≤ k → x' k = x k) → WP d 137 54 [(0, zr 0), (1, zi n), (2, zi (gRn p w j).2.2), (3, zi j)] [] 403 [] x' m 403 [] Q := by
    refine zdown _ _ ?_
    intro j j0 j1 ih x' M1 M2
    obtain ⟨J1, J2, J3⟩ := gRn_J hIF hn j j0 j1
    have hend : j = n → Q (gRn p w j).2.2 x' m := fun e => by rw [e]; rw [e] at M1; exact h x' M1 M2
    rw [gRn_s j0] at ih
    have z3 := fun c : j < n => (IF_w J1 (by omega)).2.2.2.2.2.2
    apply r137_c54
    by_cases cj : j < n
    · have z3' := z3 cj
      have ih' := ih cj
      dsimp only at ih'
      clear ih hend z3
      repeat' (first | (with_reducible assumption) | (with_reducible rfl) | (with_reducible apply And.intro) | (with_reducible apply zIn_mk) | (with_reducible apply zLn_mk) | ((with_reducible intro _); try (exfalso; omega)) | omega | (with_reducible exact Or.inr trivial) | (with_reducible exact Or.inl trivial) | ((refine c11 (p := (gRn p w j).1) (w := (gRn p w j).2.1) (by omega) M1 J1 (by omega) ?_; intro xB g1 g2)) | ((exact ih' xB g1 (fun k hk k0 => by rw [g2 k hk k0]; exact M2 k hk k0))) | fail)
    · have h2 := hend (by omega)
      clear ih hend z3
      repeat' (first | (with_reducible assumption) | (with_reducible rfl) | (with_reducible apply And.intro) | (with_reducible apply zIn_mk) | (with_reducible apply zLn_mk) | ((with_reducible intro _); try (exfalso; omega)) | omega | (with_reducible exact Or.inr trivial) | (with_reducible exact Or.inl trivial) | ((exact h2)) | fail)
  exact loop 0 (by omega) n0 x hF (fun _ _ _ => rfl)
/-- what holds behind a call that changes the state alone -/
theorem Inv_z {N : Nat} {x x' m m' : zM} {p w : Int → Int} (hI : Inv N x m) (hF : RF x' p w) (hIF : IF N p w) (hp : m' 387 = p) (hw : m' 390 = w) (hx : ∀ k, zScr k = false → k = 0 ∨ 163 ≤ k → x' k = x k) (hm : ∀ k, k = 388 ∨ k = 391 ∨ k = 393 ∨ k = 394 ∨ k = 395 ∨ k = 396 → m' k = m k) (h6 : ∀ i, i ≠ 23 → m' 386 i = m 386 i) : Inv (N + 1) x' m' := by
  obtain ⟨_, _, c, d⟩ := hI
  refine ⟨by rw [hp, hw]; exact hF, by rw [hp, hw]; exact IF_m (by omega) hIF, ?_, ?_⟩
  · exact RK_m (by omega) (by rw [hx 0 rfl (by omega)]) (h6 6 (by decide)) (fun k k0 k1 => hx k (zScr_k k0 k1) (by omega)) (hm 388 (by omega)) (hm 391 (by omega)) c
  · unfold RO
    rw [h6 9 (by decide), h6 10 (by decide), hm 393 (by omega), hm 394 (by omega), hm 395 (by omega), hm 396 (by omega), hx 329 rfl (by omega), hx 325 rfl (by omega), hx 326 rfl (by omega), hx 0 rfl (by omega), hx 328 rfl (by omega)]
    exact d
theorem t_run {d dM N : Nat} {a : Int} {x m : zM} {Q : Int → zM → zM → Prop} (hd : 40 ≤ d) (hdM : 40 ≤ dM) (hNN : N ≤ 600) (hI : Inv N x m) (K : ∀ q x', MOK N dM 247 [zr 386, zi a] q x' m → Q q x' m) : WPc d 137 [zr 0, zi a] 403 [] x m 403 [] Q := by
  obtain ⟨hF, hIF, hK, hO⟩ := id hI
  have hX := hF.1
  have hIx := hIF.1
  have hB := hIx.1
  have hA := hIx.2.1
  have hN := hIx.2.2.1
  have hM := hIF.2.1
  have hE := hIF.2.2.1
  have hb := hB; unfold IB at hb
  have hRL := hX.2.1
  have hRA := hX.2.2.1
  have hRN := hX.2.2.2.1
  have e10 : x 1 0 = m 387 0 := hX.1.1
  have e11 : x 1 1 = m 387 1 := hX.1.2.1
  apply r137
  repeat' (first | (with_reducible assumption) | (with_reducible rfl) | (with_reducible apply And.intro) | (with_reducible apply zIn_mk) | (with_reducible apply zLn_mk) | ((with_reducible intro _); try (exfalso; omega)) | omega | (with_reducible exact Or.inr trivial) | (with_reducible exact Or.inl trivial) | ((refine k137l (p := m 387) (w := m 390) (by omega) hF hIF (by omega) (by omega) ?_; intro xB g1 g2; refine K _ _ ?_; intro Q' hQ; apply r247)) | ((refine s247l (p := m 387) (w := m 390) (by omega) rfl rfl hIF (by omega) (by omega) ?_; intro mB q1 q2 q3 q4; refine hQ _ _ (Inv_z hI g1 (gRn_J hIF (by omega) a (by omega) (Int.le_refl _)).1 q3 q4 g2 (fun k hk => q1 k (by omega) (by omega) (by omega) (by omega) (by omega) (by omega) (by omega)) q2) (q1 2000 (by decide) (by decide) (by decide) (by decide) (by decide) (by decide) (by decide)))) | (with_reducible apply k161) | (with_reducible apply k162) | (with_reducible apply k163) | (with_reducible apply k164) | (with_reducible apply k165) | (with_reducible apply k166) | (with_reducible apply k167) | ((refine K _ _ ?_; intro Q' hQ; apply r247)) | (with_reducible apply s171) | (with_reducible apply s172) | (with_reducible apply s173) | (with_reducible apply s174) | (with_reducible apply s175) | (with_reducible apply s176) | ((refine zQe (hQ _ _ ?_ ?_) ?_)) | ((exact zP_ne _ _ (by decide))) | ((exact zP_eq _ _)) | ((exact Inv_c (by omega) (by omega) hI)) | ((exact Inv_s (zSx.rf _) (zSame.rf _) hI)) | ((exact zu_ne _ _ _ (by decide))) | fail)

