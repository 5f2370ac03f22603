/-! THE MODEL'S READER: states, and what stands between -/
theorem jTk_v (t : Int → Int) (T b : Int) : (0 ≤ jTk t T b ∧ jTk t T b ≤ 8) ∨ 37 ≤ jTk t T b := by
  unfold jTk
  by_cases c : T ≤ b
  · rw [if_pos c]; omega
  · rw [if_neg c]
    by_cases cd : 48 ≤ t b ∧ t b ≤ 57
    · rw [if_pos cd]; split <;> omega
    · rw [if_neg cd]
      by_cases cl : 97 ≤ t b ∧ t b ≤ 122
      · rw [if_pos cl]; unfold jWk; (repeat' split) <;> omega
      · rw [if_neg cl]
        by_cases cs : jSg (t b)
        · rw [if_pos cs]; unfold jSg at cs; omega
        · rw [if_neg cs]; omega
theorem jMk_i {k : Int} (h : (0 ≤ k ∧ k ≤ 8) ∨ 37 ≤ k) : (jMk k = 7 ↔ k = 8) ∧ (jMk k = 1 ↔ k = 2) ∧ (jMk k = 2 ↔ k = 4) ∧ (jMk k = 5 ↔ k = 6) ∧ (jMk k = 6 ↔ k = 7) ∧ (37 ≤ k → jMk k = k) ∧ (k ≤ 8 → jMk k ≤ 8) ∧ (jMk k = 0 ↔ k = 0) ∧ (jMk k = 3 ↔ k = 3) ∧ (jMk k = 4 ↔ k = 5) := by
  unfold jMk
  (repeat' split) <;> omega
def jM (t : Int → Int) (T A : Int) (m : zM) (op b o : Int) (c : Int → Int) : Prop := jTm m t T ∧ (0 ≤ b ∧ b ≤ T) ∧ (m 386 12 = jTe t T b ∧ m 386 13 = b ∧ m 386 14 = jMk (jTk t T b)) ∧ (2 ≤ jTk t T b → jTk t T b ≤ 4 → m 386 15 = jTv t T b) ∧ (m 386 17 = o ∧ 0 ≤ o ∧ o ≤ 120) ∧ (∀ i, 0 ≤ i → i < o → m 387 (A + i) = c i) ∧ (m 386 16 = op ∧ 0 ≤ op ∧ op ≤ 6) ∧ (m 386 18 = A ∧ 3550 ≤ A ∧ A ≤ 4980) ∧ m 386 19 = 0
def jL (A : Int) (m m' : zM) : Prop := (∀ k, k ≠ 386 → k ≠ 387 → m' k = m k) ∧ (∀ i, i < 12 ∨ 20 ≤ i → m' 386 i = m 386 i) ∧ (∀ i, i < A ∨ A + 130 ≤ i → m' 387 i = m 387 i)
theorem jL.rf (A : Int) (m : zM) : jL A m m := ⟨fun _ _ _ => rfl, fun _ _ => rfl, fun _ _ => rfl⟩
theorem jL.tr {A : Int} {m m' m'' : zM} (h : jL A m m') (h' : jL A m' m'') : jL A m m'' := ⟨fun k a b => by rw [h'.1 k a b, h.1 k a b], fun i a => by rw [h'.2.1 i a, h.2.1 i a], fun i a => by rw [h'.2.2 i a, h.2.2 i a]⟩
theorem jL.u {A : Int} {m m' : zM} (h : jL A m m') {i v : Int} (hi : 12 ≤ i ∧ i < 20) : jL A m (zupd m' 386 i v) := ⟨fun k a b => by rw [zu_ne _ _ _ a]; exact h.1 k a b, fun j a => by rw [zu_eq, up_ne (by omega)]; exact h.2.1 j a, fun j a => by rw [zu_ne _ _ _ (by decide)]; exact h.2.2 j a⟩
theorem jL.g {A : Int} {m m' : zM} (h : jG m m') : jL A m m' := ⟨fun k a _ => h.1 k a, fun i a => h.2 i (by omega) (by omega) (by omega) (by omega), fun i _ => by rw [h.1 387 (by decide)]⟩
/-- reading has failed at b -/
def jFl (A : Int) (m : zM) (op b o : Int) : Prop := m 386 13 = b ∧ m 386 19 = 1 ∧ (op ≤ m 386 16 ∧ m 386 16 ≤ 6) ∧ (0 ≤ m 386 17 ∧ m 386 17 ≤ o) ∧ m 386 18 = A
theorem s221s {d : Nat} {t : Int → Int} {T A op b o : Int} {c : Int → Int} {x m : zM} {Q : Int → zM → zM → Prop} (hd : 4 ≤ d) (hC : jM t T A m op b o c) (h : ∀ m', jL A m m' → jM t T A m' op (jNx t T b) o c → Q 0 x m') : WPc d 221 [zr 386] 403 [] x m 403 [] Q := by
  obtain ⟨hT, ⟨b0, b1⟩, ⟨e2, e3, e4⟩, e5, ⟨e7, o0, o1⟩, hc, ⟨e6, p0, p1⟩, ⟨e8, A0, A1⟩, e9⟩ := hC
  have te := jTe_bd (t := t) b1
  have nx := jNx_bd (t := t) b1
  refine s221 (t := t) (T := T) (a := jTe t T b) hd hT e2 (by omega) te.2.1 rfl ?_
  intro m' g g2 g3 g4 g5
  have u := fun i (h1 : i ≠ 12) (h2 : i ≠ 13) (h3 : i ≠ 14) (h4 : i ≠ 15) => g.2 i h1 h2 h3 h4
  exact h m' (jL.g g) ⟨jTm_f g hT, ⟨by omega, nx.2.1⟩, ⟨g2, g3, g4⟩, g5, ⟨by rw [u 17 (by decide) (by decide) (by decide) (by decide)]; exact e7, o0, o1⟩, by rw [g.1 387 (by decide)]; exact hc, ⟨by rw [u 16 (by decide) (by decide) (by decide) (by decide)]; exact e6, p0, p1⟩, ⟨by rw [u 18 (by decide) (by decide) (by decide) (by decide)]; exact e8, A0, A1⟩, by rw [u 19 (by decide) (by decide) (by decide) (by decide)]; exact e9⟩
theorem s222s {d : Nat} {t : Int → Int} {T A op b o k : Int} {c : Int → Int} {x m : zM} {Q : Int → zM → zM → Prop} (hC : jM t T A m op b o c) (ho : o < 120) (h : ∀ m', jL A m m' → jM t T A m' op b (o + 1) (up c o k) → Q 0 x m') : WPc d 222 [zr 386, zi k] 403 [] x m 403 [] Q := by
  obtain ⟨hT, hb, ⟨e2, e3, e4⟩, e5, ⟨e7, o0, o1⟩, hc, ⟨e6, p0, p1⟩, ⟨e8, A0, A1⟩, e9⟩ := hC
  have u6 : ∀ i, i ≠ 17 → zupd (zupd m 387 (A + o) k) 386 17 (o + 1) 386 i = m 386 i := fun i hi => by rw [zu_eq, up_ne hi, zu_ne _ _ _ (by decide)]
  have uk : ∀ k', k' ≠ 386 → k' ≠ 387 → zupd (zupd m 387 (A + o) k) 386 17 (o + 1) k' = m k' := fun k' h1 h2 => by rw [zu_ne _ _ _ h1, zu_ne _ _ _ h2]
  have u7 : ∀ i, zupd (zupd m 387 (A + o) k) 386 17 (o + 1) 387 i = up (m 387) (A + o) k i := fun i => by rw [zu_ne _ _ _ (by decide), zu_eq]
  have k2 := h (zupd (zupd m 387 (A + o) k) 386 17 (o + 1)) ⟨uk, fun i a => u6 i (by omega), fun i a => by rw [u7, up_ne (by omega)]⟩ ⟨⟨hT.1, by rw [u6 9 (by decide)]; exact hT.2.1, by rw [uk 394 (by decide) (by decide)]; exact hT.2.2.1, by rw [uk 396 (by decide) (by decide)]; exact hT.2.2.2⟩, hb, ⟨by rw [u6 12 (by decide)]; exact e2, by rw [u6 13 (by decide)]; exact e3, by rw [u6 14 (by decide)]; exact e4⟩, fun q q' => by rw [u6 15 (by decide)]; exact e5 q q', ⟨by rw [zu_eq, up_at rfl], by omega, by omega⟩, fun i i0 i1 => by
    rw [u7]
    by_cases ci : i = o
    · rw [up_at (by omega), up_at ci]
    · rw [up_ne (by omega), up_ne ci]; exact hc i i0 (by omega), ⟨by rw [u6 16 (by decide)]; exact e6, p0, p1⟩, ⟨by rw [u6 18 (by decide)]; exact e8, A0, A1⟩, by rw [u6 19 (by decide)]; exact e9⟩
  apply r222
  intro hz
  rw [e7, e8]
  exact ⟨by unfold zIn; omega, by omega, by unfold zIn; omega, k2⟩
theorem s222f {d : Nat} {A op b o k : Int} {x m : zM} {Q : Int → zM → zM → Prop} (hF : jFl A m op b o) (A0 : 3550 ≤ A) (A1 : A ≤ 4980) (ho : o < 120) (h : ∀ m', jL A m m' → jFl A m' op b (o + 1) → Q 0 x m') : WPc d 222 [zr 386, zi k] 403 [] x m 403 [] Q := by
  obtain ⟨e3, e9, ⟨p0, p1⟩, ⟨o0, o1⟩, e8⟩ := hF
  obtain ⟨w, hw⟩ : ∃ w, w = m 386 17 := ⟨_, rfl⟩
  rw [← hw] at o0 o1
  have u6 : ∀ i, i ≠ 17 → zupd (zupd m 387 (A + w) k) 386 17 (w + 1) 386 i = m 386 i := fun i hi => by rw [zu_eq, up_ne hi, zu_ne _ _ _ (by decide)]
  have k2 := h (zupd (zupd m 387 (A + w) k) 386 17 (w + 1)) ⟨fun k' h1 h2 => by rw [zu_ne _ _ _ h1, zu_ne _ _ _ h2], fun i a => u6 i (by omega), fun i a => by rw [zu_ne _ _ _ (by decide), zu_eq, up_ne (by omega)]⟩ ⟨by rw [u6 13 (by decide)]; exact e3, by rw [u6 19 (by decide)]; exact e9, by rw [u6 16 (by decide)]; exact ⟨p0, p1⟩, by rw [zu_eq, up_at rfl]; omega, by rw [u6 18 (by decide)]; exact e8⟩
  apply r222
  intro hz
  rw [← hw, e8]
  exact ⟨by unfold zIn; omega, by omega, by unfold zIn; omega, k2⟩
/-- one that opens -/
theorem s223s {d : Nat} {t : Int → Int} {T A op b o : Int} {c : Int → Int} {x m : zM} {Q : Int → zM → zM → Prop} (hd : 5 ≤ d) (hC : jM t T A m op b o c) (h1 : op < 6 → ∀ m', jL A m m' → jM t T A m' (op + 1) (jNx t T b) o c → Q 1 x m') (h0 : 6 ≤ op → ∀ m', jL A m m' → jFl A m' op b o → Q 0 x m') : WPc d 223 [zr 386] 403 [] x m 403 [] Q := by
  obtain ⟨hT, hb, ⟨e2, e3, e4⟩, e5, ⟨e7, o0, o1⟩, hc, ⟨e6, p0, p1⟩, ⟨e8, A0, A1⟩, e9⟩ := id hC
  apply r223
  rw [e6]
  refine ⟨fun hn => ⟨by unfold zIn; omega, by omega, ?_⟩, fun hy => ⟨Or.inr rfl, Or.inl rfl, ?_⟩⟩
  · have u6 : ∀ i, i ≠ 16 → zupd m 386 16 (op + 1) 386 i = m 386 i := fun i hi => by rw [zu_eq, up_ne hi]
    have uk : ∀ k', k' ≠ 386 → zupd m 386 16 (op + 1) k' = m k' := fun k' q => zu_ne _ _ _ q
    have C2 : jM t T A (zupd m 386 16 (op + 1)) (op + 1) b o c := ⟨⟨hT.1, by rw [u6 9 (by decide)]; exact hT.2.1, by rw [uk 394 (by decide)]; exact hT.2.2.1, by rw [uk 396 (by decide)]; exact hT.2.2.2⟩, hb, ⟨by rw [u6 12 (by decide)]; exact e2, by rw [u6 13 (by decide)]; exact e3, by rw [u6 14 (by decide)]; exact e4⟩, fun q q' => by rw [u6 15 (by decide)]; exact e5 q q', ⟨by rw [u6 17 (by decide)]; exact e7, o0, o1⟩, by rw [uk 387 (by decide)]; exact hc, ⟨by rw [zu_eq, up_at rfl], by omega, by omega⟩, ⟨by rw [u6 18 (by decide)]; exact e8, A0, A1⟩, by rw [u6 19 (by decide)]; exact e9⟩
    refine s221s (by omega) C2 (fun m' g C3 => ⟨Or.inr rfl, ?_⟩)
    exact h1 (by omega) m' (((jL.rf A m).u (by omega)).tr g) C3
  · have u6 : ∀ i, i ≠ 19 → zupd m 386 19 1 386 i = m 386 i := fun i hi => by rw [zu_eq, up_ne hi]
    exact h0 (by omega) _ ((jL.rf A m).u (by omega)) ⟨by rw [u6 13 (by decide)]; exact e3, by rw [zu_eq, up_at rfl], by rw [u6 16 (by decide)]; omega, by rw [u6 17 (by decide)]; omega, by rw [u6 18 (by decide)]; exact e8⟩
theorem jM_f {t : Int → Int} {T A op b o : Int} {c : Int → Int} {m : zM} (hC : jM t T A m op b o c) : jFl A (zupd m 386 19 1) op b o := by
  obtain ⟨hT, hb, ⟨e2, e3, e4⟩, e5, ⟨e7, o0, o1⟩, hc, ⟨e6, p0, p1⟩, ⟨e8, A0, A1⟩, e9⟩ := id hC
  have u6 : ∀ i, i ≠ 19 → zupd m 386 19 1 386 i = m 386 i := fun i hi => by rw [zu_eq, up_ne hi]
  exact ⟨by rw [u6 13 (by decide)]; exact e3, by rw [zu_eq, up_at rfl], by rw [u6 16 (by decide)]; omega, by rw [u6 17 (by decide)]; omega, by rw [u6 18 (by decide)]; exact e8⟩
theorem jM_d {t : Int → Int} {T A op b o : Int} {c : Int → Int} {m : zM} (hC : jM t T A m op b o c) (h : 1 ≤ op) : jM t T A (zupd m 386 16 (op - 1)) (op - 1) b o c := by
  obtain ⟨hT, hb, ⟨e2, e3, e4⟩, e5, ⟨e7, o0, o1⟩, hc, ⟨e6, p0, p1⟩, ⟨e8, A0, A1⟩, e9⟩ := id hC
  have u6 : ∀ i, i ≠ 16 → zupd m 386 16 (op - 1) 386 i = m 386 i := fun i hi => by rw [zu_eq, up_ne hi]
  have uk : ∀ k', k' ≠ 386 → zupd m 386 16 (op - 1) k' = m k' := fun k' q => zu_ne _ _ _ q
  exact ⟨⟨hT.1, by rw [u6 9 (by decide)]; exact hT.2.1, by rw [uk 394 (by decide)]; exact hT.2.2.1, by rw [uk 396 (by decide)]; exact hT.2.2.2⟩, hb, ⟨by rw [u6 12 (by decide)]; exact e2, by rw [u6 13 (by decide)]; exact e3, by rw [u6 14 (by decide)]; exact e4⟩, fun q q' => by rw [u6 15 (by decide)]; exact e5 q q', ⟨by rw [u6 17 (by decide)]; exact e7, o0, o1⟩, by rw [uk 387 (by decide)]; exact hc, ⟨by rw [zu_eq, up_at rfl], by omega, by omega⟩, ⟨by rw [u6 18 (by decide)]; exact e8, A0, A1⟩, by rw [u6 19 (by decide)]; exact e9⟩
theorem jFl_d {A op b o : Int} {m : zM} (hF : jFl A m (op + 1) b o) : jFl A (zupd m 386 16 (m 386 16 - 1)) op b o := by
  obtain ⟨e3, e9, ⟨p0, p1⟩, ⟨o0, o1⟩, e8⟩ := hF
  have u6 : ∀ i, i ≠ 16 → zupd m 386 16 (m 386 16 - 1) 386 i = m 386 i := fun i hi => by rw [zu_eq, up_ne hi]
  exact ⟨by rw [u6 13 (by decide)]; exact e3, by rw [u6 19 (by decide)]; exact e9, by rw [zu_eq, up_at rfl]; omega, by rw [u6 17 (by decide)]; omega, by rw [u6 18 (by decide)]; exact e8⟩
/-- a bracket that closes -/
theorem s230f {d : Nat} {A op b o : Int} {x m : zM} {Q : Int → zM → zM → Prop} (hF : jFl A m op b o) (h : ∀ m', jL A m m' → jFl A m' op b o → Q 0 x m') : WPc d 230 [zr 386] 403 [] x m 403 [] Q := by
  obtain ⟨e3, e9, ⟨p0, p1⟩, ⟨o0, o1⟩, e8⟩ := hF
  have u6 : ∀ i, i ≠ 19 → zupd m 386 19 1 386 i = m 386 i := fun i hi => by rw [zu_eq, up_ne hi]
  have k := h _ ((jL.rf A m).u (i := 19) (v := 1) (by omega)) ⟨by rw [u6 13 (by decide)]; exact e3, by rw [zu_eq, up_at rfl], by rw [u6 16 (by decide)]; omega, by rw [u6 17 (by decide)]; omega, by rw [u6 18 (by decide)]; exact e8⟩
  apply r230
  rw [e9]
  exact ⟨fun _ => ⟨Or.inr rfl, k⟩, fun hh => absurd hh (by decide)⟩
theorem s230s {d : Nat} {t : Int → Int} {T A op b o : Int} {c : Int → Int} {x m : zM} {Q : Int → zM → zM → Prop} (hd : 5 ≤ d) (hp : 1 ≤ op) (hC : jM t T A m op b o c) (h1 : jTk t T b = 41 → ∀ m', jL A m m' → jM t T A m' (op - 1) (jNx t T b) o c → Q 0 x m') (h0 : jTk t T b ≠ 41 → ∀ m', jL A m m' → jFl A m' op b o → Q 0 x m') : WPc d 230 [zr 386] 403 [] x m 403 [] Q := by
  obtain ⟨hT, hb, ⟨e2, e3, e4⟩, e5, ⟨e7, o0, o1⟩, hc, ⟨e6, p0, p1⟩, ⟨e8, A0, A1⟩, e9⟩ := id hC
  have mi := jMk_i (jTk_v t T b)
  have tv := jTk_v t T b
  apply r230
  rw [e9, e4, e6]
  refine ⟨fun hh => absurd rfl hh, fun _ => ⟨fun h41 => ⟨by unfold zIn; omega, by omega, ?_⟩, fun h41 => ⟨Or.inr rfl, h0 (by omega) _ ((jL.rf A m).u (by omega)) (jM_f hC)⟩⟩⟩
  refine s221s (by omega) (jM_d hC hp) (fun m' g C3 => ?_)
  exact h1 (by omega) m' (((jL.rf A m).u (by omega)).tr g) C3

