/-! A YEAR CLOSES: the class's side -/
theorem RX_res {x x' : zM} {p : Int → Int} (h : ∀ k, k ≤ 94 → k ≠ 7 → k ≠ 13 → x' k = x k) (h7 : ∀ i, i ≠ 8 → x' 7 i = x 7 i) (r : RX x p) : RMx x' p ∧ RAx x' p ∧ RNx x' p ∧ RRx x' p := by
  refine ⟨?_, ?_, ?_, ?_⟩
  · unfold RMx; rw [h 1 (by omega) (by omega) (by omega), h 2 (by omega) (by omega) (by omega), h 3 (by omega) (by omega) (by omega), h 4 (by omega) (by omega) (by omega), h 5 (by omega) (by omega) (by omega), h 6 (by omega) (by omega) (by omega)]; exact r.1
  · unfold RAx; rw [h 14 (by omega) (by omega) (by omega), h 15 (by omega) (by omega) (by omega), h 16 (by omega) (by omega) (by omega), h 17 (by omega) (by omega) (by omega), h 18 (by omega) (by omega) (by omega), h 19 (by omega) (by omega) (by omega), h 20 (by omega) (by omega) (by omega), h 21 (by omega) (by omega) (by omega), h 22 (by omega) (by omega) (by omega), h 47 (by omega) (by omega) (by omega)]; exact r.2.2.1
  · unfold RNx; rw [h 72 (by omega) (by omega) (by omega), h 73 (by omega) (by omega) (by omega), h 74 (by omega) (by omega) (by omega), h 75 (by omega) (by omega) (by omega), h 76 (by omega) (by omega) (by omega), h 77 (by omega) (by omega) (by omega), h 78 (by omega) (by omega) (by omega), h 79 (by omega) (by omega) (by omega), h 80 (by omega) (by omega) (by omega), h 81 (by omega) (by omega) (by omega), h 82 (by omega) (by omega) (by omega), h 83 (by omega) (by omega) (by omega), h 84 (by omega) (by omega) (by omega), h 85 (by omega) (by omega) (by omega), h 86 (by omega) (by omega) (by omega), h 87 (by omega) (by omega) (by omega)]; exact r.2.2.2.1
  · unfold RRx; rw [h 88 (by omega) (by omega) (by omega), h 89 (by omega) (by omega) (by omega), h 90 (by omega) (by omega) (by omega), h 91 (by omega) (by omega) (by omega), h 92 (by omega) (by omega) (by omega), h 93 (by omega) (by omega) (by omega), h 94 (by omega) (by omega) (by omega)]; exact r.2.2.2.2
theorem c15 {d : Nat} {y S f3 f4 : Int} {p a c : Int → Int} {x m : zM} {Q : Int → zM → zM → Prop} (hd : 6 ≤ d) (hX : RX x p) (hI : IX p) (y0 : 0 ≤ y) (y1 : y < 7) (eS : x 109 (y * 7 + 2) = S) (S0 : 0 < S) (S1 : S ≤ 2879952) (ha : ∀ k, 0 ≤ k → k < 16 → x 133 (y * 16 + k) = a k) (hab : ∀ k, 0 ≤ k → k < 16 → 0 ≤ a k ∧ a k ≤ 858993459200) (hc : ∀ k, 0 ≤ k → k < 16 → x 141 (y * 16 + k) = c k) (hcb : ∀ k, 0 ≤ k → k < 16 → 0 ≤ c k ∧ c k ≤ 858993459200) (e3 : f3 = S * gCl (gTell p 3 (-1)) / 100) (e4 : f4 = (S - f3) * gCl (gTell p 4 (-1)) / 100) (h : ∀ x', (∀ k, zScr k = false → k ≠ 7 → k ≠ 109 → k ≠ 117 → k ≠ 125 → x' k = x k) → (∀ i, i ≠ 8 → x' 7 i = x 7 i) → w32 (x' 7 8) = w32 (w32 (w32 (w32 (x 7 8) + f3) + (if zT a 16 = 0 then f4 else 0)) + (if zT c 16 = 0 then S - f3 - f4 else 0)) → (x' 109 (y * 7 + 3) = f3 ∧ x' 109 (y * 7 + 4) = f4 ∧ x' 109 (y * 7 + 5) = S - f3 - f4) → (∀ i, i < y * 7 + 3 ∨ y * 7 + 6 ≤ i → x' 109 i = x 109 i) → (∀ k, 0 ≤ k → k < 16 → x' 117 (y * 16 + k) = gGet f4 a k) → (∀ i, i < y * 16 ∨ y * 16 + 16 ≤ i → x' 117 i = x 117 i) → (∀ k, 0 ≤ k → k < 16 → x' 125 (y * 16 + k) = gGet (S - f3 - f4) c k) → (∀ i, i < y * 16 ∨ y * 16 + 16 ≤ i → x' 125 i = x 125 i) → Q 0 x' m) : WPc d 15 [zr 332, zi y] 403 [] x m 403 [] Q := by
  have c3 := gCl_bd (gTell p 3 (-1))
  have c4 := gCl_bd (gTell p 4 (-1))
  have m3 := mulbd (a := S) (A := 2879952) (by omega) S1 c3.1 c3.2
  have g3 : S * gCl (gTell p 3 (-1)) ≤ S * 100 := Int.mul_le_mul_of_nonneg_left c3.2 (by omega)
  have F3 : 0 ≤ f3 ∧ f3 ≤ S := by omega
  have m4 := mulbd (a := S - f3) (A := 2879952) (by omega) (by omega) c4.1 c4.2
  have g4 : (S - f3) * gCl (gTell p 4 (-1)) ≤ (S - f3) * 100 := Int.mul_le_mul_of_nonneg_left c4.2 (by omega)
  have F4 : 0 ≤ f4 ∧ f4 ≤ S - f3 := by omega
  obtain ⟨b3, hb3⟩ : ∃ b3, b3 = gCl (gTell p 3 (-1)) := ⟨_, rfl⟩
  obtain ⟨b4, hb4⟩ : ∃ b4, b4 = gCl (gTell p 4 (-1)) := ⟨_, rfl⟩
  rw [← hb3] at e3 c3 m3 g3
  rw [← hb4] at e4 c4 m4 g4
  apply r15
  intro hz
  refine ⟨⟨y0, y1⟩, by omega, ?_⟩
  refine c32 (p := p) (by omega) hX ?_
  intro xA hA1 hA2
  have A109 : xA 109 = x 109 := hA1 109 rfl
  simp only [A109, eS]
  refine ⟨by omega, by omega, ?_⟩
  refine c36 (p := p) (nm := gNm p (-1)) (by omega) (RX_s hA1 hX) hI (by omega) (by omega) hA2 ?_
  intro xB hB1
  have et3 : gTn p 3 (gNm p (-1)) = gTell p 3 (-1) := rfl
  have et4 : gTn p 4 (gNm p (-1)) = gTell p 4 (-1) := rfl
  rw [et3]
  refine ⟨by omega, ?_⟩
  refine c37 (by omega) ?_
  rw [← hb3]
  have B109 : xB 109 = x 109 := by rw [hB1 109 (by decide)]; exact A109
  have v32 : zupd xB 109 (y * 7 + 3) (S * b3 / 100) 109 (y * 7 + 2) = S := by rw [zu_eq, up_ne (by omega), B109]; exact eS
  have v33 : zupd xB 109 (y * 7 + 3) (S * b3 / 100) 109 (y * 7 + 3) = f3 := by rw [zu_eq, up_at rfl, e3]
  simp only [v32, v33]
  rw [← e3]
  have hXB : RX (zupd xB 109 (y * 7 + 3) f3) p := RX_o (fun k k0 k1 => by rw [zu_ne _ _ _ (by omega), hB1 k (by omega)]) (RX_s hA1 hX)
  have hnB : ∀ k, 0 ≤ k → k < 10 → zupd xB 109 (y * 7 + 3) f3 331 k = gNm p (-1) k := fun k k0 k1 => by rw [zu_ne _ _ _ (by decide), hB1 331 (by decide)]; exact hA2 k k0 k1
  refine ⟨by unfold zLn; omega, by omega, by omega, by omega, by omega, by unfold zLn; omega, by omega, ?_⟩
  refine c36 (p := p) (nm := gNm p (-1)) (by omega) hXB hI (by omega) (by omega) hnB ?_
  intro xC hC1
  rw [et4]
  refine ⟨by omega, ?_⟩
  refine c37 (by omega) ?_
  rw [← hb4]
  have C109 : xC 109 = up (x 109) (y * 7 + 3) f3 := by rw [hC1 109 (by decide), zu_eq, B109]
  have w4 : zupd xC 109 (y * 7 + 4) ((S - f3) * b4 / 100) 109 (y * 7 + 4) = f4 := by rw [zu_eq, up_at rfl, e4]
  simp only [w4]
  rw [← e4]
  obtain ⟨xD, hD⟩ : ∃ xD, xD = zupd (zupd xC 109 (y * 7 + 4) f4) 109 (y * 7 + 5) (S - f3 - f4) := ⟨_, rfl⟩
  simp only [← hD]
  have D109 : xD 109 = up (up (up (x 109) (y * 7 + 3) f3) (y * 7 + 4) f4) (y * 7 + 5) (S - f3 - f4) := by rw [hD, zu_eq, zu_eq, C109]
  have hDx : ∀ k, zScr k = false → k ≠ 109 → xD k = x k := fun k hk k1 => by
    have k0 : k ≠ 107 := fun e => by subst e; exact absurd hk (by decide)
    rw [hD, zu_ne _ _ _ k1, zu_ne _ _ _ k1, hC1 k k0, zu_ne _ _ _ k1, hB1 k k0, hA1 k hk]
  have fin : ∀ xG : zM, (∀ k, zScr k = false → k ≠ 7 → k ≠ 117 → k ≠ 125 → xG k = xD k) → (∀ i, i ≠ 8 → xG 7 i = x 7 i) → w32 (xG 7 8) = w32 (w32 (w32 (w32 (x 7 8) + f3) + (if zT a 16 = 0 then f4 else 0)) + (if zT c 16 = 0 then S - f3 - f4 else 0)) → (∀ k, 0 ≤ k → k < 16 → xG 117 (y * 16 + k) = gGet f4 a k) → (∀ i, i < y * 16 ∨ y * 16 + 16 ≤ i → xG 117 i = x 117 i) → (∀ k, 0 ≤ k → k < 16 → xG 125 (y * 16 + k) = gGet (S - f3 - f4) c k) → (∀ i, i < y * 16 ∨ y * 16 + 16 ≤ i → xG 125 i = x 125 i) → Q 0 xG m := by
    intro xG G1 G2 G3 G4 G5 G6 G7
    have G109 := G1 109 rfl (by decide) (by decide) (by decide)
    refine h xG (fun k hk k0 k1 k2 k3 => by rw [G1 k hk k0 k2 k3]; exact hDx k hk k1) G2 G3 ⟨?_, ?_, ?_⟩ (fun i i0 => ?_) G4 G5 G6 G7
    · rw [G109, D109, up_ne (by omega), up_ne (by omega), up_at rfl]
    · rw [G109, D109, up_ne (by omega), up_at rfl]
    · rw [G109, D109, up_at rfl]
    · rw [G109, D109, up_ne (by omega), up_ne (by omega), up_ne (by omega)]
  have hFD : ∀ k, 0 ≤ k → k < 16 → xD 133 (y * 16 + k) = a k := fun k k0 k1 => by rw [hDx 133 rfl (by decide)]; exact ha k k0 k1
  have D7 : xD 7 = x 7 := hDx 7 rfl (by decide)
  have d4 : xD 109 (y * 7 + 4) = f4 := by rw [D109, up_ne (by omega), up_at rfl]
  have d5 : xD 109 (y * 7 + 5) = S - f3 - f4 := by rw [D109, up_at rfl]
  have d3 : xD 109 (y * 7 + 3) = f3 := by rw [D109, up_ne (by omega), up_ne (by omega), up_at rfl]
  have aw : ∀ u v : Int, w32 (w64 (u + v)) = w32 (w32 u + v) := fun u v => by rw [w32_w64, w32_wa]
  refine ⟨by unfold zLn; omega, by omega, by omega, by omega, by unfold zLn; omega, by omega, by omega, by omega, ⟨y0, y1⟩, ⟨y0, y1⟩, by omega, ?_⟩
  simp only [d4, d3]
  have C7 : xC 7 = x 7 := by rw [hC1 7 (by decide), zu_ne _ _ _ (by decide), hB1 7 (by decide)]; exact hA1 7 rfl
  refine c16_133 (a := a) (by omega) (by omega) (by omega) (fun k k0 k1 => by rw [zu_ne _ _ _ (by decide)]; exact hFD k k0 k1) hab ?_
  intro xE hE1 hE2 hE3
  have E109 : xE 109 = xD 109 := by rw [hE1 109 (by decide) (by decide), zu_ne _ _ _ (by decide)]
  have e5 : xE 109 (y * 7 + 5) = S - f3 - f4 := by rw [E109]; exact d5
  have e4' : xE 109 (y * 7 + 4) = f4 := by rw [E109]; exact d4
  have E7 : xE 7 = up (x 7) 8 (w64 (x 7 8 + f3)) := by rw [hE1 7 (by decide) (by decide), zu_eq, D7, C7]
  have E141 : ∀ k, 0 ≤ k → k < 16 → xE 141 (y * 16 + k) = c k := fun k k0 k1 => by rw [hE1 141 (by decide) (by decide), zu_ne _ _ _ (by decide), hDx 141 rfl (by decide)]; exact hc k k0 k1
  have E125 : xE 125 = x 125 := by rw [hE1 125 (by decide) (by decide), zu_ne _ _ _ (by decide), hDx 125 rfl (by decide)]
  have E117 : ∀ i, i < y * 16 ∨ y * 16 + 16 ≤ i → xE 117 i = x 117 i := fun i i0 => by rw [hE3 i (by omega), zu_ne _ _ _ (by decide), hDx 117 rfl (by decide)]
  have Ef : ∀ k, zScr k = false → k ≠ 7 → k ≠ 117 → k ≠ 125 → xE k = xD k := fun k hk k0 k1 k2 => by
    have k3 : k ≠ 335 := fun e => by subst e; exact absurd hk (by decide)
    rw [hE1 k k1 k3, zu_ne _ _ _ k0]
  intro _
  simp only [e5, e4']
  -- the second parting, over either memory
  have second : ∀ xM : zM, (∀ k, k ≠ 7 → xM k = xE k) → (∀ i, i ≠ 8 → xM 7 i = x 7 i) → w32 (xM 7 8) = w32 (w32 (w32 (x 7 8) + f3) + (if zT a 16 = 0 then f4 else 0)) → ∀ (QQ : Int → zM → zM → Prop), (∀ xF, QQ 1 xF m ↔ Q 0 xF m) → (∀ xF, xF 109 (y * 7 + 5) = S - f3 - f4 → (QQ 0 xF m ↔ Q 0 (zupd xF 7 8 (w64 (xF 7 8 + (S - f3 - f4)))) m)) → WPc (d - 1) 16 [zr 332, zl (S - f3 - f4), zw 141 y, zw 125 y] 403 [] xM m 403 [] QQ := by
    intro xM M1 M2 M3 QQ q1 q0
    refine c16_141 (a := c) (by omega) (by omega) (by omega) (fun k k0 k1 => by rw [M1 141 (by decide)]; exact E141 k k0 k1) hcb ?_
    intro xF hF1 hF2 hF3
    have F109 : xF 109 (y * 7 + 5) = S - f3 - f4 := by rw [hF1 109 (by decide) (by decide), M1 109 (by decide)]; exact e5
    have F7 : xF 7 = xM 7 := hF1 7 (by decide) (by decide)
    have F117 : xF 117 = xE 117 := by rw [hF1 117 (by decide) (by decide), M1 117 (by decide)]
    have F125 : ∀ i, i < y * 16 ∨ y * 16 + 16 ≤ i → xF 125 i = x 125 i := fun i i0 => by rw [hF3 i (by omega), M1 125 (by decide), E125]
    have Ff : ∀ k, zScr k = false → k ≠ 7 → k ≠ 117 → k ≠ 125 → xF k = xD k := fun k hk k0 k1 k2 => by
      have k3 : k ≠ 335 := fun e => by subst e; exact absurd hk (by decide)
      rw [hF1 k k2 k3, M1 k k0]; exact Ef k hk k0 k1 k2
    by_cases zc : zT c 16 = 0
    · rw [if_pos zc, q0 xF F109]
      refine fin _ (fun k hk k0 k1 k2 => by rw [zu_ne _ _ _ k0]; exact Ff k hk k0 k1 k2) (fun i i0 => by rw [zu_eq, up_ne i0, F7]; exact M2 i i0) ?_ (fun k k0 k1 => by rw [zu_ne _ _ _ (by decide), F117]; exact hE2 k k0 k1) (fun i i0 => by rw [zu_ne _ _ _ (by decide), F117]; exact E117 i i0) (fun k k0 k1 => by rw [zu_ne _ _ _ (by decide)]; exact hF2 k k0 k1) (fun i i0 => by rw [zu_ne _ _ _ (by decide)]; exact F125 i i0)
      rw [zu_eq, up_at rfl, aw, F7, M3, if_pos zc]
    · rw [if_neg zc, q1 xF]
      refine fin _ Ff (fun i i0 => by rw [F7]; exact M2 i i0) ?_ (fun k k0 k1 => by rw [F117]; exact hE2 k k0 k1) (fun i i0 => by rw [F117]; exact E117 i i0) hF2 F125
      rw [F7, M3, if_neg zc, Int.add_zero, w32_w]
  by_cases za : zT a 16 = 0
  · rw [if_pos za]
    refine ⟨fun e => absurd rfl e, fun _ => ⟨by omega, by omega, ⟨y0, y1⟩, ⟨y0, y1⟩, by omega, ?_⟩⟩
    refine second _ (fun k k0 => zu_ne _ _ _ k0) (fun i i0 => by rw [zu_eq, up_ne i0, E7, up_ne i0]) ?_ _ (fun xF => ?_) (fun xF hxF => ?_)
    · rw [zu_eq, up_at rfl, aw, E7, up_at rfl, aw, if_pos za]
    · constructor
      · intro hh; exact (hh (Or.inr rfl)).1 (by decide)
      · intro hh; exact fun _ => ⟨fun _ => hh, fun e => absurd e (by decide)⟩
    · constructor
      · intro hh
        have := (hh (Or.inl rfl)).2 rfl
        rw [hxF] at this
        exact this.2
      · intro hh; exact fun _ => ⟨fun e => absurd rfl e, fun _ => by rw [hxF]; exact ⟨by omega, hh⟩⟩
  · rw [if_neg za]
    refine ⟨fun _ => ⟨by omega, ⟨y0, y1⟩, ⟨y0, y1⟩, by omega, ?_⟩, fun e => absurd e (by decide)⟩
    refine second _ (fun k k0 => rfl) (fun i i0 => by rw [E7, up_ne i0]) ?_ _ (fun xF => ?_) (fun xF hxF => ?_)
    · rw [E7, up_at rfl, aw, if_neg za, Int.add_zero, w32_w]
    · constructor
      · intro hh; exact (hh (Or.inr rfl)).1 (by decide)
      · intro hh; exact fun _ => ⟨fun _ => hh, fun e => absurd e (by decide)⟩
    · constructor
      · intro hh
        have := (hh (Or.inl rfl)).2 rfl
        rw [hxF] at this
        exact this.2
      · intro hh; exact fun _ => ⟨fun e => absurd rfl e, fun _ => by rw [hxF]; exact ⟨by omega, hh⟩⟩

