/-! IMAGE AND UNDO -/
theorem RF_e {x x' : zM} {p w : Int → Int} (e : ∀ k, 1 ≤ k → k ≤ 158 → x' k = x k) (r : RF x p w) : RF x' p w := by
  refine ⟨⟨?_, ?_, ?_, ?_, ?_⟩, ?_, ?_, ?_⟩
  · unfold RMx; simp (disch := omega) only [e]; exact r.1.1
  · unfold RLx; simp (disch := omega) only [e]; exact r.1.2.1
  · unfold RAx; simp (disch := omega) only [e]; exact r.1.2.2.1
  · unfold RNx; simp (disch := omega) only [e]; exact r.1.2.2.2.1
  · unfold RRx; simp (disch := omega) only [e]; exact r.1.2.2.2.2
  · unfold RYx; simp (disch := omega) only [e]; exact r.2.1
  · unfold RTx; simp (disch := omega) only [e]; exact r.2.2.1
  · unfold RPx; simp (disch := omega) only [e]; exact r.2.2.2
theorem RF_q {x : zM} {p q w u : Int → Int} (hI : IX p) (e : ∀ i, 0 ≤ i → i < 6163 → q i = p i) (eu : ∀ i, 0 ≤ i → i < 128 → u i = w i) (r : RF x p w) : RF x q u := by
  obtain ⟨hB, hA, hN, hR⟩ := hI
  have y := RY_f (e 6 (by omega) (by omega)) (e 6160 (by omega) (by omega)) (fun i i0 i1 => e i (by omega) (by omega)) r.2.1
  refine ⟨⟨RM_f hB (e 0 (by omega) (by omega)) (e 1 (by omega) (by omega)) (fun i i0 i1 => e i (by omega) (by omega)) r.1.1, RL_f hB (e 4 (by omega) (by omega)) (fun i i0 i1 => e i (by omega) (by omega)) (e 6161 (by omega) (by omega)) (e 6162 (by omega) (by omega)) r.1.2.1, RA_f hB (e 2 (by omega) (by omega)) (fun i i0 i1 => e i (by omega) (by omega)) r.1.2.2.1, RN_f hB hN (e 3 (by omega) (by omega)) (fun i i0 i1 => e i (by omega) (by omega)) (fun i i0 i1 => e i (by omega) (by omega)) r.1.2.2.2.1, RR_f hB hR (e 5 (by omega) (by omega)) (fun i i0 i1 => e i (by omega) (by omega)) r.1.2.2.2.2⟩, ?_, RT_f hB (e 8 (by omega) (by omega)) (e 7 (by omega) (by omega)) (fun i i0 i1 => e i (by omega) (by omega)) r.2.2.1, RP_f (fun i i0 i1 => e i (by omega) (by omega)) r.2.2.2⟩
  refine ⟨y.1, y.2.1, y.2.2.1, fun v k v0 v1 k0 k1 => ?_, fun k k0 k1 => ?_⟩
  · have a := y.2.2.2.1 v k v0 v1 k0 k1
    refine ⟨a.1, a.2.1, a.2.2.1, ?_⟩
    rw [eu _ (by omega) (by omega)]; exact a.2.2.2
  · rw [eu _ (by omega) (by omega)]; exact y.2.2.2.2 k k0 k1

theorem c105_1_163 {d : Nat} {p w : Int → Int} {x m : zM} {Q : Int → zM → zM → Prop} (hd : 2 ≤ d) (hL : RF (zKp x) p w) (hI : IX p) (h : ∀ x', (∀ k, k < 1 ∨ 158 < k → x' k = x k) → RF x' p w → Q 0 x' m) : WPc d 105 [zr 1, zr 163] 403 [] x m 403 [] Q := by
  obtain ⟨hB, hA, hN, hR⟩ := id hI
  have hb := hB; unfold IB at hb
  have qM : RM (x 163) (x 164) (x 165) (x 166) (x 167) (x 168) p := hL.1.1
  have sM : ∀ y : zM, (∀ k, k < 1 ∨ 158 < k → y k = x k) → RM (y 163) (y 164) (y 165) (y 166) (y 167) (y 168) p := fun y hy => by simp (disch := omega) only [hy]; exact qM
  have qL : RLd (x 169) (x 170) (x 171) (x 172) (x 173) (x 174) p := hL.1.2.1
  have sL : ∀ y : zM, (∀ k, k < 1 ∨ 158 < k → y k = x k) → RLd (y 169) (y 170) (y 171) (y 172) (y 173) (y 174) p := fun y hy => by simp (disch := omega) only [hy]; exact qL
  have qA : RA (x 176) (x 177) (x 178) (x 179) (x 180) (x 181) (x 182) (x 183) (x 184) (x 209) p := hL.1.2.2.1
  have sA : ∀ y : zM, (∀ k, k < 1 ∨ 158 < k → y k = x k) → RA (y 176) (y 177) (y 178) (y 179) (y 180) (y 181) (y 182) (y 183) (y 184) (y 209) p := fun y hy => by simp (disch := omega) only [hy]; exact qA
  have qN : RN (x 234) (x 235) (x 236) (x 237) (x 238) (x 239) (x 240) (x 241) (x 242) (x 243) (x 244) (x 245) (x 246) (x 247) (x 248) (x 249) p := hL.1.2.2.2.1
  have sN : ∀ y : zM, (∀ k, k < 1 ∨ 158 < k → y k = x k) → RN (y 234) (y 235) (y 236) (y 237) (y 238) (y 239) (y 240) (y 241) (y 242) (y 243) (y 244) (y 245) (y 246) (y 247) (y 248) (y 249) p := fun y hy => by simp (disch := omega) only [hy]; exact qN
  have qR : RRd (x 250) (x 251) (x 252) (x 253) (x 254) (x 255) (x 256) p := hL.1.2.2.2.2
  have sR : ∀ y : zM, (∀ k, k < 1 ∨ 158 < k → y k = x k) → RRd (y 250) (y 251) (y 252) (y 253) (y 254) (y 255) (y 256) p := fun y hy => by simp (disch := omega) only [hy]; exact qR
  have qY : RY (x 270) (x 271) (x 279) (x 287) (x 295) (x 303) (x 311) p w := hL.2.1
  have sY : ∀ y : zM, (∀ k, k < 1 ∨ 158 < k → y k = x k) → RY (y 270) (y 271) (y 279) (y 287) (y 295) (y 303) (y 311) p w := fun y hy => by simp (disch := omega) only [hy]; exact qY
  have qT : RT (x 312) (x 313) (x 314) (x 315) (x 316) (x 317) (x 318) p := hL.2.2.1
  have sT : ∀ y : zM, (∀ k, k < 1 ∨ 158 < k → y k = x k) → RT (y 312) (y 313) (y 314) (y 315) (y 316) (y 317) (y 318) p := fun y hy => by simp (disch := omega) only [hy]; exact qT
  have qP : RP (x 319) (x 320) p := hL.2.2.2
  have sP : ∀ y : zM, (∀ k, k < 1 ∨ 158 < k → y k = x k) → RP (y 319) (y 320) p := fun y hy => by simp (disch := omega) only [hy]; exact qP
  have step : ∀ y : zM, (∀ k, k < 1 ∨ 158 < k → y k = x k) → RM (y 1) (y 2) (y 3) (y 4) (y 5) (y 6) p → RLd (y 7) (y 8) (y 9) (y 10) (y 11) (y 12) p → RA (y 14) (y 15) (y 16) (y 17) (y 18) (y 19) (y 20) (y 21) (y 22) (y 47) p → RN (y 72) (y 73) (y 74) (y 75) (y 76) (y 77) (y 78) (y 79) (y 80) (y 81) (y 82) (y 83) (y 84) (y 85) (y 86) (y 87) p → RRd (y 88) (y 89) (y 90) (y 91) (y 92) (y 93) (y 94) p → RY (y 108) (y 109) (y 117) (y 125) (y 133) (y 141) (y 149) p w → RT (y 150) (y 151) (y 152) (y 153) (y 154) (y 155) (y 156) p → (∀ r, 0 ≤ r → r < 4 → y 157 r = p (5142 + r)) → ∀ j, 0 ≤ j → j ≤ 4 → ∀ x', (∀ k, k ≠ 158 → x' k = y k) → (∀ r k, 0 ≤ r → r < j → 0 ≤ k → k < 8 → x' 158 (r * 8 + k) = p (5110 + 8 * r + k)) → WP d 105 173 [(0, zr 1), (1, zr 163), (2, zi j)] [] 403 [] x' m 403 [] Q := by
    intro y fy gM gL gA gN gR gY gT gTo
    refine zdown _ _ ?_
    intro j j0 j1 ih x' M1 M2
    apply r105_1_163_c173
    by_cases c : j < 4
    · have ih' := ih c (zcpy x' 320 (j * 8 + 0) 158 (j * 8 + 0) 8) (fun k k0 => by rw [zcpy_ne _ _ _ _ k0]; exact M1 k k0) (fun r k r0 r1 k0 k1 => by
        by_cases cr : r = j
        · have e := qP.2 r k r0 (by omega) k0 k1
          rw [cr] at e ⊢
          rw [zcpy_row _ k0 k1, M1 320 (by decide), fy 320 (by omega)]
          exact e
        · rw [zcpy_out _ (by omega)]
          exact M2 r k r0 (by omega) k0 k1)
      clear ih h
      repeat' (first | (with_reducible assumption) | (with_reducible rfl) | (with_reducible apply And.intro) | (with_reducible apply zIn_mk) | (with_reducible apply zLn_mk) | ((with_reducible intro _); try (exfalso; omega)) | omega | (with_reducible exact Or.inr trivial) | (with_reducible exact Or.inl trivial) | (with_reducible apply r105_1_163_c197) | ((exact ih')) | fail)
    · have h2 : RF x' p w → Q 0 x' m := fun g => h x' (fun k k0 => by rw [M1 k (by omega)]; exact fy k k0) g
      have g : RF x' p w := by
        refine ⟨⟨?_, ?_, ?_, ?_, ?_⟩, ?_, ?_, ?_⟩
        · show RM (x' 1) (x' 2) (x' 3) (x' 4) (x' 5) (x' 6) p
          simp (disch := omega) only [M1]; exact gM
        · show RLd (x' 7) (x' 8) (x' 9) (x' 10) (x' 11) (x' 12) p
          simp (disch := omega) only [M1]; exact gL
        · show RA (x' 14) (x' 15) (x' 16) (x' 17) (x' 18) (x' 19) (x' 20) (x' 21) (x' 22) (x' 47) p
          simp (disch := omega) only [M1]; exact gA
        · show RN (x' 72) (x' 73) (x' 74) (x' 75) (x' 76) (x' 77) (x' 78) (x' 79) (x' 80) (x' 81) (x' 82) (x' 83) (x' 84) (x' 85) (x' 86) (x' 87) p
          simp (disch := omega) only [M1]; exact gN
        · show RRd (x' 88) (x' 89) (x' 90) (x' 91) (x' 92) (x' 93) (x' 94) p
          simp (disch := omega) only [M1]; exact gR
        · show RY (x' 108) (x' 109) (x' 117) (x' 125) (x' 133) (x' 141) (x' 149) p w
          simp (disch := omega) only [M1]; exact gY
        · show RT (x' 150) (x' 151) (x' 152) (x' 153) (x' 154) (x' 155) (x' 156) p
          simp (disch := omega) only [M1]; exact gT
        · show RP (x' 157) (x' 158) p
          exact ⟨fun r r0 r1 => by rw [M1 157 (by decide)]; exact gTo r r0 r1, fun r k r0 r1 k0 k1 => M2 r k r0 (by omega) k0 k1⟩
      have h3 := h2 g
      clear ih h h2 g
      repeat' (first | (with_reducible assumption) | (with_reducible rfl) | (with_reducible apply And.intro) | (with_reducible apply zIn_mk) | (with_reducible apply zLn_mk) | ((with_reducible intro _); try (exfalso; omega)) | omega | (with_reducible exact Or.inr trivial) | (with_reducible exact Or.inl trivial) | ((exact h3)) | fail)
  obtain ⟨G, hG⟩ : ∃ G : zM → Prop, G = fun y => (∀ k, k < 1 ∨ 158 < k → y k = x k) ∧ RM (y 1) (y 2) (y 3) (y 4) (y 5) (y 6) p := ⟨_, rfl⟩
  have start : ∀ y, G y → WP d 105 91 [(0, zr 1), (1, zr 163)] [] 403 [] y m 403 [] Q := fun y g => by
    rw [hG] at g
    obtain ⟨F0, gM⟩ := g
    apply r105_1_163_c91
    refine ⟨by omega, c30_7_169 (p := p) (by omega) (sL y F0) hB ?_⟩
    intro y1 f1 gL
    have F1 : ∀ k, k < 1 ∨ 158 < k → y1 k = x k := fun k k0 => by rw [f1 k (by omega)]; exact F0 k k0
    have gM : RM (y1 1) (y1 2) (y1 3) (y1 4) (y1 5) (y1 6) p := by simp (disch := omega) only [f1]; exact gM
    refine ⟨by omega, c7_14_176 (p := p) (by omega) (sA y1 F1) hB ?_⟩
    intro y2 f2 gA
    have F2 : ∀ k, k < 1 ∨ 158 < k → y2 k = x k := fun k k0 => by rw [f2 k (by omega)]; exact F1 k k0
    have gM : RM (y2 1) (y2 2) (y2 3) (y2 4) (y2 5) (y2 6) p := by simp (disch := omega) only [f2]; exact gM
    have gL : RLd (y2 7) (y2 8) (y2 9) (y2 10) (y2 11) (y2 12) p := by simp (disch := omega) only [f2]; exact gL
    refine ⟨by omega, c61_72_234 (p := p) (by omega) (sN y2 F2) hB ?_⟩
    intro y3 f3 gN
    have F3 : ∀ k, k < 1 ∨ 158 < k → y3 k = x k := fun k k0 => by rw [f3 k (by omega)]; exact F2 k k0
    have gM : RM (y3 1) (y3 2) (y3 3) (y3 4) (y3 5) (y3 6) p := by simp (disch := omega) only [f3]; exact gM
    have gL : RLd (y3 7) (y3 8) (y3 9) (y3 10) (y3 11) (y3 12) p := by simp (disch := omega) only [f3]; exact gL
    have gA : RA (y3 14) (y3 15) (y3 16) (y3 17) (y3 18) (y3 19) (y3 20) (y3 21) (y3 22) (y3 47) p := by simp (disch := omega) only [f3]; exact gA
    refine ⟨by omega, c100_88_250 (p := p) (by omega) (sR y3 F3) hB hR ?_⟩
    intro y4 f4 gR
    have F4 : ∀ k, k < 1 ∨ 158 < k → y4 k = x k := fun k k0 => by rw [f4 k (by omega)]; exact F3 k k0
    have gM : RM (y4 1) (y4 2) (y4 3) (y4 4) (y4 5) (y4 6) p := by simp (disch := omega) only [f4]; exact gM
    have gL : RLd (y4 7) (y4 8) (y4 9) (y4 10) (y4 11) (y4 12) p := by simp (disch := omega) only [f4]; exact gL
    have gA : RA (y4 14) (y4 15) (y4 16) (y4 17) (y4 18) (y4 19) (y4 20) (y4 21) (y4 22) (y4 47) p := by simp (disch := omega) only [f4]; exact gA
    have gN : RN (y4 72) (y4 73) (y4 74) (y4 75) (y4 76) (y4 77) (y4 78) (y4 79) (y4 80) (y4 81) (y4 82) (y4 83) (y4 84) (y4 85) (y4 86) (y4 87) p := by simp (disch := omega) only [f4]; exact gN
    refine ⟨by omega, c114_108_270 (p := p) (w := w) (by omega) (sY y4 F4)  ?_⟩
    intro y5 f5 gY
    have F5 : ∀ k, k < 1 ∨ 158 < k → y5 k = x k := fun k k0 => by rw [f5 k (by omega)]; exact F4 k k0
    have gM : RM (y5 1) (y5 2) (y5 3) (y5 4) (y5 5) (y5 6) p := by simp (disch := omega) only [f5]; exact gM
    have gL : RLd (y5 7) (y5 8) (y5 9) (y5 10) (y5 11) (y5 12) p := by simp (disch := omega) only [f5]; exact gL
    have gA : RA (y5 14) (y5 15) (y5 16) (y5 17) (y5 18) (y5 19) (y5 20) (y5 21) (y5 22) (y5 47) p := by simp (disch := omega) only [f5]; exact gA
    have gN : RN (y5 72) (y5 73) (y5 74) (y5 75) (y5 76) (y5 77) (y5 78) (y5 79) (y5 80) (y5 81) (y5 82) (y5 83) (y5 84) (y5 85) (y5 86) (y5 87) p := by simp (disch := omega) only [f5]; exact gN
    have gR : RRd (y5 88) (y5 89) (y5 90) (y5 91) (y5 92) (y5 93) (y5 94) p := by simp (disch := omega) only [f5]; exact gR
    refine ⟨by omega, c111_150_312 (p := p) (by omega) (sT y5 F5) hB ?_⟩
    intro y6 f6 gT
    have F6 : ∀ k, k < 1 ∨ 158 < k → y6 k = x k := fun k k0 => by rw [f6 k (by omega)]; exact F5 k k0
    have gM : RM (y6 1) (y6 2) (y6 3) (y6 4) (y6 5) (y6 6) p := by simp (disch := omega) only [f6]; exact gM
    have gL : RLd (y6 7) (y6 8) (y6 9) (y6 10) (y6 11) (y6 12) p := by simp (disch := omega) only [f6]; exact gL
    have gA : RA (y6 14) (y6 15) (y6 16) (y6 17) (y6 18) (y6 19) (y6 20) (y6 21) (y6 22) (y6 47) p := by simp (disch := omega) only [f6]; exact gA
    have gN : RN (y6 72) (y6 73) (y6 74) (y6 75) (y6 76) (y6 77) (y6 78) (y6 79) (y6 80) (y6 81) (y6 82) (y6 83) (y6 84) (y6 85) (y6 86) (y6 87) p := by simp (disch := omega) only [f6]; exact gN
    have gR : RRd (y6 88) (y6 89) (y6 90) (y6 91) (y6 92) (y6 93) (y6 94) p := by simp (disch := omega) only [f6]; exact gR
    have gY : RY (y6 108) (y6 109) (y6 117) (y6 125) (y6 133) (y6 141) (y6 149) p w := by simp (disch := omega) only [f6]; exact gY
    refine ⟨by omega, by omega, ?_⟩
    apply r105_1_163_c171
    refine step (zcpy y6 319 0 157 0 4) (fun k k0 => by rw [zcpy_ne _ _ _ _ (by omega)]; exact F6 k k0) ?_ ?_ ?_ ?_ ?_ ?_ ?_ (fun r r0 r1 => ?_) 0 (by omega) (by omega) _ (fun _ _ => rfl) (fun r k r0 r1 => by omega)
    · simp (disch := omega) only [zcpy_ne]; exact gM
    · simp (disch := omega) only [zcpy_ne]; exact gL
    · simp (disch := omega) only [zcpy_ne]; exact gA
    · simp (disch := omega) only [zcpy_ne]; exact gN
    · simp (disch := omega) only [zcpy_ne]; exact gR
    · simp (disch := omega) only [zcpy_ne]; exact gY
    · simp (disch := omega) only [zcpy_ne]; exact gT
    · have e := qP.1 r r0 r1
      simp (disch := omega) only [zcpy_in, F6, Int.sub_zero, Int.zero_add]
      exact e
  clear step h
  apply r105_1_163
  repeat' (first | (with_reducible assumption) | (with_reducible rfl) | (with_reducible apply And.intro) | (with_reducible apply zIn_mk) | (with_reducible apply zLn_mk) | ((with_reducible intro _); try (exfalso; omega)) | omega | (with_reducible exact Or.inr trivial) | (with_reducible exact Or.inl trivial) | (with_reducible apply r105_1_163_c31) | (with_reducible apply r105_1_163_c46) | (with_reducible apply r105_1_163_c61) | (with_reducible apply r105_1_163_c76) | ((refine start _ ?_)) | fail)
  rw [hG]
  refine ⟨fun k k0 => ?_, ?_, ?_, fun k k0 k1 => ?_⟩
  · simp (disch := omega) only [zcpy_ne, zu_ne]
  · have e := qM.1
    simp (disch := omega) only [zcpy_ne, zu_eq, zu_ne, up_at, up_ne]
    exact e
  · have e := qM.2.1
    simp (disch := omega) only [zcpy_ne, zu_eq, zu_ne, up_at, up_ne]
    exact e
  · have e := qM.2.2 k k0 k1
    simp (disch := omega) only [zcpy_in, zcpy_ne, zu_ne, Int.sub_zero, Int.zero_add]
    exact e

theorem c105_163_1 {d : Nat} {p w : Int → Int} {x m : zM} {Q : Int → zM → zM → Prop} (hd : 2 ≤ d) (hL : RF x p w) (hI : IX p) (h : ∀ x', (∀ k, k < 163 ∨ 320 < k → x' k = x k) → RF (zKp x') p w → Q 0 x' m) : WPc d 105 [zr 163, zr 1] 403 [] x m 403 [] Q := by
  obtain ⟨hB, hA, hN, hR⟩ := id hI
  have hb := hB; unfold IB at hb
  have qM : RM (x 1) (x 2) (x 3) (x 4) (x 5) (x 6) p := hL.1.1
  have sM : ∀ y : zM, (∀ k, k < 163 ∨ 320 < k → y k = x k) → RM (y 1) (y 2) (y 3) (y 4) (y 5) (y 6) p := fun y hy => by simp (disch := omega) only [hy]; exact qM
  have qL : RLd (x 7) (x 8) (x 9) (x 10) (x 11) (x 12) p := hL.1.2.1
  have sL : ∀ y : zM, (∀ k, k < 163 ∨ 320 < k → y k = x k) → RLd (y 7) (y 8) (y 9) (y 10) (y 11) (y 12) p := fun y hy => by simp (disch := omega) only [hy]; exact qL
  have qA : RA (x 14) (x 15) (x 16) (x 17) (x 18) (x 19) (x 20) (x 21) (x 22) (x 47) p := hL.1.2.2.1
  have sA : ∀ y : zM, (∀ k, k < 163 ∨ 320 < k → y k = x k) → RA (y 14) (y 15) (y 16) (y 17) (y 18) (y 19) (y 20) (y 21) (y 22) (y 47) p := fun y hy => by simp (disch := omega) only [hy]; exact qA
  have qN : RN (x 72) (x 73) (x 74) (x 75) (x 76) (x 77) (x 78) (x 79) (x 80) (x 81) (x 82) (x 83) (x 84) (x 85) (x 86) (x 87) p := hL.1.2.2.2.1
  have sN : ∀ y : zM, (∀ k, k < 163 ∨ 320 < k → y k = x k) → RN (y 72) (y 73) (y 74) (y 75) (y 76) (y 77) (y 78) (y 79) (y 80) (y 81) (y 82) (y 83) (y 84) (y 85) (y 86) (y 87) p := fun y hy => by simp (disch := omega) only [hy]; exact qN
  have qR : RRd (x 88) (x 89) (x 90) (x 91) (x 92) (x 93) (x 94) p := hL.1.2.2.2.2
  have sR : ∀ y : zM, (∀ k, k < 163 ∨ 320 < k → y k = x k) → RRd (y 88) (y 89) (y 90) (y 91) (y 92) (y 93) (y 94) p := fun y hy => by simp (disch := omega) only [hy]; exact qR
  have qY : RY (x 108) (x 109) (x 117) (x 125) (x 133) (x 141) (x 149) p w := hL.2.1
  have sY : ∀ y : zM, (∀ k, k < 163 ∨ 320 < k → y k = x k) → RY (y 108) (y 109) (y 117) (y 125) (y 133) (y 141) (y 149) p w := fun y hy => by simp (disch := omega) only [hy]; exact qY
  have qT : RT (x 150) (x 151) (x 152) (x 153) (x 154) (x 155) (x 156) p := hL.2.2.1
  have sT : ∀ y : zM, (∀ k, k < 163 ∨ 320 < k → y k = x k) → RT (y 150) (y 151) (y 152) (y 153) (y 154) (y 155) (y 156) p := fun y hy => by simp (disch := omega) only [hy]; exact qT
  have qP : RP (x 157) (x 158) p := hL.2.2.2
  have sP : ∀ y : zM, (∀ k, k < 163 ∨ 320 < k → y k = x k) → RP (y 157) (y 158) p := fun y hy => by simp (disch := omega) only [hy]; exact qP
  have step : ∀ y : zM, (∀ k, k < 163 ∨ 320 < k → y k = x k) → RM (y 163) (y 164) (y 165) (y 166) (y 167) (y 168) p → RLd (y 169) (y 170) (y 171) (y 172) (y 173) (y 174) p → RA (y 176) (y 177) (y 178) (y 179) (y 180) (y 181) (y 182) (y 183) (y 184) (y 209) p → RN (y 234) (y 235) (y 236) (y 237) (y 238) (y 239) (y 240) (y 241) (y 242) (y 243) (y 244) (y 245) (y 246) (y 247) (y 248) (y 249) p → RRd (y 250) (y 251) (y 252) (y 253) (y 254) (y 255) (y 256) p → RY (y 270) (y 271) (y 279) (y 287) (y 295) (y 303) (y 311) p w → RT (y 312) (y 313) (y 314) (y 315) (y 316) (y 317) (y 318) p → (∀ r, 0 ≤ r → r < 4 → y 319 r = p (5142 + r)) → ∀ j, 0 ≤ j → j ≤ 4 → ∀ x', (∀ k, k ≠ 320 → x' k = y k) → (∀ r k, 0 ≤ r → r < j → 0 ≤ k → k < 8 → x' 320 (r * 8 + k) = p (5110 + 8 * r + k)) → WP d 105 173 [(0, zr 163), (1, zr 1), (2, zi j)] [] 403 [] x' m 403 [] Q := by
    intro y fy gM gL gA gN gR gY gT gTo
    refine zdown _ _ ?_
    intro j j0 j1 ih x' M1 M2
    apply r105_163_1_c173
    by_cases c : j < 4
    · have ih' := ih c (zcpy x' 158 (j * 8 + 0) 320 (j * 8 + 0) 8) (fun k k0 => by rw [zcpy_ne _ _ _ _ k0]; exact M1 k k0) (fun r k r0 r1 k0 k1 => by
        by_cases cr : r = j
        · have e := qP.2 r k r0 (by omega) k0 k1
          rw [cr] at e ⊢
          rw [zcpy_row _ k0 k1, M1 158 (by decide), fy 158 (by omega)]
          exact e
        · rw [zcpy_out _ (by omega)]
          exact M2 r k r0 (by omega) k0 k1)
      clear ih h
      repeat' (first | (with_reducible assumption) | (with_reducible rfl) | (with_reducible apply And.intro) | (with_reducible apply zIn_mk) | (with_reducible apply zLn_mk) | ((with_reducible intro _); try (exfalso; omega)) | omega | (with_reducible exact Or.inr trivial) | (with_reducible exact Or.inl trivial) | (with_reducible apply r105_163_1_c197) | ((exact ih')) | fail)
    · have h2 : RF (zKp x') p w → Q 0 x' m := fun g => h x' (fun k k0 => by rw [M1 k (by omega)]; exact fy k k0) g
      have g : RF (zKp x') p w := by
        refine ⟨⟨?_, ?_, ?_, ?_, ?_⟩, ?_, ?_, ?_⟩
        · show RM (x' 163) (x' 164) (x' 165) (x' 166) (x' 167) (x' 168) p
          simp (disch := omega) only [M1]; exact gM
        · show RLd (x' 169) (x' 170) (x' 171) (x' 172) (x' 173) (x' 174) p
          simp (disch := omega) only [M1]; exact gL
        · show RA (x' 176) (x' 177) (x' 178) (x' 179) (x' 180) (x' 181) (x' 182) (x' 183) (x' 184) (x' 209) p
          simp (disch := omega) only [M1]; exact gA
        · show RN (x' 234) (x' 235) (x' 236) (x' 237) (x' 238) (x' 239) (x' 240) (x' 241) (x' 242) (x' 243) (x' 244) (x' 245) (x' 246) (x' 247) (x' 248) (x' 249) p
          simp (disch := omega) only [M1]; exact gN
        · show RRd (x' 250) (x' 251) (x' 252) (x' 253) (x' 254) (x' 255) (x' 256) p
          simp (disch := omega) only [M1]; exact gR
        · show RY (x' 270) (x' 271) (x' 279) (x' 287) (x' 295) (x' 303) (x' 311) p w
          simp (disch := omega) only [M1]; exact gY
        · show RT (x' 312) (x' 313) (x' 314) (x' 315) (x' 316) (x' 317) (x' 318) p
          simp (disch := omega) only [M1]; exact gT
        · show RP (x' 319) (x' 320) p
          exact ⟨fun r r0 r1 => by rw [M1 319 (by decide)]; exact gTo r r0 r1, fun r k r0 r1 k0 k1 => M2 r k r0 (by omega) k0 k1⟩
      have h3 := h2 g
      clear ih h h2 g
      repeat' (first | (with_reducible assumption) | (with_reducible rfl) | (with_reducible apply And.intro) | (with_reducible apply zIn_mk) | (with_reducible apply zLn_mk) | ((with_reducible intro _); try (exfalso; omega)) | omega | (with_reducible exact Or.inr trivial) | (with_reducible exact Or.inl trivial) | ((exact h3)) | fail)
  obtain ⟨G, hG⟩ : ∃ G : zM → Prop, G = fun y => (∀ k, k < 163 ∨ 320 < k → y k = x k) ∧ RM (y 163) (y 164) (y 165) (y 166) (y 167) (y 168) p := ⟨_, rfl⟩
  have start : ∀ y, G y → WP d 105 91 [(0, zr 163), (1, zr 1)] [] 403 [] y m 403 [] Q := fun y g => by
    rw [hG] at g
    obtain ⟨F0, gM⟩ := g
    apply r105_163_1_c91
    refine ⟨by omega, c30_169_7 (p := p) (by omega) (sL y F0) hB ?_⟩
    intro y1 f1 gL
    have F1 : ∀ k, k < 163 ∨ 320 < k → y1 k = x k := fun k k0 => by rw [f1 k (by omega)]; exact F0 k k0
    have gM : RM (y1 163) (y1 164) (y1 165) (y1 166) (y1 167) (y1 168) p := by simp (disch := omega) only [f1]; exact gM
    refine ⟨by omega, c7_176_14 (p := p) (by omega) (sA y1 F1) hB ?_⟩
    intro y2 f2 gA
    have F2 : ∀ k, k < 163 ∨ 320 < k → y2 k = x k := fun k k0 => by rw [f2 k (by omega)]; exact F1 k k0
    have gM : RM (y2 163) (y2 164) (y2 165) (y2 166) (y2 167) (y2 168) p := by simp (disch := omega) only [f2]; exact gM
    have gL : RLd (y2 169) (y2 170) (y2 171) (y2 172) (y2 173) (y2 174) p := by simp (disch := omega) only [f2]; exact gL
    refine ⟨by omega, c61_234_72 (p := p) (by omega) (sN y2 F2) hB ?_⟩
    intro y3 f3 gN
    have F3 : ∀ k, k < 163 ∨ 320 < k → y3 k = x k := fun k k0 => by rw [f3 k (by omega)]; exact F2 k k0
    have gM : RM (y3 163) (y3 164) (y3 165) (y3 166) (y3 167) (y3 168) p := by simp (disch := omega) only [f3]; exact gM
    have gL : RLd (y3 169) (y3 170) (y3 171) (y3 172) (y3 173) (y3 174) p := by simp (disch := omega) only [f3]; exact gL
    have gA : RA (y3 176) (y3 177) (y3 178) (y3 179) (y3 180) (y3 181) (y3 182) (y3 183) (y3 184) (y3 209) p := by simp (disch := omega) only [f3]; exact gA
    refine ⟨by omega, c100_250_88 (p := p) (by omega) (sR y3 F3) hB hR ?_⟩
    intro y4 f4 gR
    have F4 : ∀ k, k < 163 ∨ 320 < k → y4 k = x k := fun k k0 => by rw [f4 k (by omega)]; exact F3 k k0
    have gM : RM (y4 163) (y4 164) (y4 165) (y4 166) (y4 167) (y4 168) p := by simp (disch := omega) only [f4]; exact gM
    have gL : RLd (y4 169) (y4 170) (y4 171) (y4 172) (y4 173) (y4 174) p := by simp (disch := omega) only [f4]; exact gL
    have gA : RA (y4 176) (y4 177) (y4 178) (y4 179) (y4 180) (y4 181) (y4 182) (y4 183) (y4 184) (y4 209) p := by simp (disch := omega) only [f4]; exact gA
    have gN : RN (y4 234) (y4 235) (y4 236) (y4 237) (y4 238) (y4 239) (y4 240) (y4 241) (y4 242) (y4 243) (y4 244) (y4 245) (y4 246) (y4 247) (y4 248) (y4 249) p := by simp (disch := omega) only [f4]; exact gN
    refine ⟨by omega, c114_270_108 (p := p) (w := w) (by omega) (sY y4 F4)  ?_⟩
    intro y5 f5 gY
    have F5 : ∀ k, k < 163 ∨ 320 < k → y5 k = x k := fun k k0 => by rw [f5 k (by omega)]; exact F4 k k0
    have gM : RM (y5 163) (y5 164) (y5 165) (y5 166) (y5 167) (y5 168) p := by simp (disch := omega) only [f5]; exact gM
    have gL : RLd (y5 169) (y5 170) (y5 171) (y5 172) (y5 173) (y5 174) p := by simp (disch := omega) only [f5]; exact gL
    have gA : RA (y5 176) (y5 177) (y5 178) (y5 179) (y5 180) (y5 181) (y5 182) (y5 183) (y5 184) (y5 209) p := by simp (disch := omega) only [f5]; exact gA
    have gN : RN (y5 234) (y5 235) (y5 236) (y5 237) (y5 238) (y5 239) (y5 240) (y5 241) (y5 242) (y5 243) (y5 244) (y5 245) (y5 246) (y5 247) (y5 248) (y5 249) p := by simp (disch := omega) only [f5]; exact gN
    have gR : RRd (y5 250) (y5 251) (y5 252) (y5 253) (y5 254) (y5 255) (y5 256) p := by simp (disch := omega) only [f5]; exact gR
    refine ⟨by omega, c111_312_150 (p := p) (by omega) (sT y5 F5) hB ?_⟩
    intro y6 f6 gT
    have F6 : ∀ k, k < 163 ∨ 320 < k → y6 k = x k := fun k k0 => by rw [f6 k (by omega)]; exact F5 k k0
    have gM : RM (y6 163) (y6 164) (y6 165) (y6 166) (y6 167) (y6 168) p := by simp (disch := omega) only [f6]; exact gM
    have gL : RLd (y6 169) (y6 170) (y6 171) (y6 172) (y6 173) (y6 174) p := by simp (disch := omega) only [f6]; exact gL
    have gA : RA (y6 176) (y6 177) (y6 178) (y6 179) (y6 180) (y6 181) (y6 182) (y6 183) (y6 184) (y6 209) p := by simp (disch := omega) only [f6]; exact gA
    have gN : RN (y6 234) (y6 235) (y6 236) (y6 237) (y6 238) (y6 239) (y6 240) (y6 241) (y6 242) (y6 243) (y6 244) (y6 245) (y6 246) (y6 247) (y6 248) (y6 249) p := by simp (disch := omega) only [f6]; exact gN
    have gR : RRd (y6 250) (y6 251) (y6 252) (y6 253) (y6 254) (y6 255) (y6 256) p := by simp (disch := omega) only [f6]; exact gR
    have gY : RY (y6 270) (y6 271) (y6 279) (y6 287) (y6 295) (y6 303) (y6 311) p w := by simp (disch := omega) only [f6]; exact gY
    refine ⟨by omega, by omega, ?_⟩
    apply r105_163_1_c171
    refine step (zcpy y6 157 0 319 0 4) (fun k k0 => by rw [zcpy_ne _ _ _ _ (by omega)]; exact F6 k k0) ?_ ?_ ?_ ?_ ?_ ?_ ?_ (fun r r0 r1 => ?_) 0 (by omega) (by omega) _ (fun _ _ => rfl) (fun r k r0 r1 => by omega)
    · simp (disch := omega) only [zcpy_ne]; exact gM
    · simp (disch := omega) only [zcpy_ne]; exact gL
    · simp (disch := omega) only [zcpy_ne]; exact gA
    · simp (disch := omega) only [zcpy_ne]; exact gN
    · simp (disch := omega) only [zcpy_ne]; exact gR
    · simp (disch := omega) only [zcpy_ne]; exact gY
    · simp (disch := omega) only [zcpy_ne]; exact gT
    · have e := qP.1 r r0 r1
      simp (disch := omega) only [zcpy_in, F6, Int.sub_zero, Int.zero_add]
      exact e
  clear step h
  apply r105_163_1
  repeat' (first | (with_reducible assumption) | (with_reducible rfl) | (with_reducible apply And.intro) | (with_reducible apply zIn_mk) | (with_reducible apply zLn_mk) | ((with_reducible intro _); try (exfalso; omega)) | omega | (with_reducible exact Or.inr trivial) | (with_reducible exact Or.inl trivial) | (with_reducible apply r105_163_1_c31) | (with_reducible apply r105_163_1_c46) | (with_reducible apply r105_163_1_c61) | (with_reducible apply r105_163_1_c76) | ((refine start _ ?_)) | fail)
  rw [hG]
  refine ⟨fun k k0 => ?_, ?_, ?_, fun k k0 k1 => ?_⟩
  · simp (disch := omega) only [zcpy_ne, zu_ne]
  · have e := qM.1
    simp (disch := omega) only [zcpy_ne, zu_eq, zu_ne, up_at, up_ne]
    exact e
  · have e := qM.2.1
    simp (disch := omega) only [zcpy_ne, zu_eq, zu_ne, up_at, up_ne]
    exact e
  · have e := qM.2.2 k k0 k1
    simp (disch := omega) only [zcpy_in, zcpy_ne, zu_ne, Int.sub_zero, Int.zero_add]
    exact e

