/-! WRONG BOOKS, SUSPECTS, FEEDING -/
def gWrN (p : Int → Int) : Nat → Int
  | 0 => 0
  | n + 1 => if gSv p (p (5587 + n)) (p (5607 + n)) (p 0) ≠ p (5627 + n) then zor (gWrN p n) (zshl 1 n) else gWrN p n
def gWr (p : Int → Int) (n : Int) : Int := gWrN p n.toNat
theorem gWr_s {p : Int → Int} {i : Int} (h : 0 ≤ i) : gWr p (i + 1) = if gSv p (p (5587 + i)) (p (5607 + i)) (p 0) ≠ p (5627 + i) then zor (gWr p i) (zshl 1 i) else gWr p i := by
  unfold gWr
  have e : (i + 1).toNat = i.toNat + 1 := by omega
  have e2 : (i.toNat : Int) = i := by omega
  rw [e, gWrN, e2]
theorem gWr_in (p : Int → Int) : ∀ i, 0 ≤ i → zIn (gWr p i) := by
  refine zup1 _ (by show zIn 0; unfold zIn; omega) ?_
  intro j j0 ih
  rw [gWr_s j0]
  split
  · exact zor_in _ _
  · exact ih
theorem c151 {d : Nat} {p : Int → Int} {x m : zM} {Q : Int → zM → zM → Prop} (hd : 1 ≤ d) (hX : RX x p) (hB : IB p) (hT : RTx x p) (h : Q (gWr p (p 7)) x m) : WPc d 151 [zr 0] 403 [] x m 403 [] Q := by
  have hb := hB; unfold IB at hb
  have e10 : x 1 0 = p 0 := hX.1.1
  have eT4 : x 150 4 = p 7 := hT.2.1
  apply r151
  have key : ∀ j, 0 ≤ j → j ≤ p 7 → ∀ q, q = gWr p j → WP d 151 4 [(0, zr 0), (1, zi q), (2, zi j)] [] 403 [] x m 403 [] Q := by
    refine zdown _ _ ?_
    intro j h0 h1 ih q hq
    have hs := gWr_s (p := p) h0
    have r := hT.2.2.2.2 j h0
    apply r151_c4
    by_cases c : j < p 7
    · obtain ⟨r1, r2, r3⟩ := r c
      rw [r1, r2, e10]
      repeat' (first | (with_reducible assumption) | (with_reducible rfl) | (with_reducible apply And.intro) | (with_reducible apply zIn_mk) | (with_reducible apply zLn_mk) | ((with_reducible intro _); try (exfalso; omega)) | omega | (with_reducible exact Or.inr trivial) | (with_reducible exact Or.inl trivial) | ((refine c26 hX.2.1 hB ?_)) | ((refine ih (by omega) _ ?_; rw [hs]; (first | rw [if_pos (by omega)] | rw [if_neg (by omega)]); rw [hq])) | ((refine ih (by omega) _ ?_; rw [hs]; rw [if_neg (by omega)]; exact hq)) | fail)
    · repeat' (first | (with_reducible assumption) | (with_reducible rfl) | (with_reducible apply And.intro) | (with_reducible apply zIn_mk) | (with_reducible apply zLn_mk) | ((with_reducible intro _); try (exfalso; omega)) | omega | (with_reducible exact Or.inr trivial) | (with_reducible exact Or.inl trivial) | ((rw [hq, show j = p 7 by omega]; exact h)) | fail)
  exact key 0 (by omega) (by omega) 0 rfl
theorem s271 {d : Nat} {p : Int → Int} {x m : zM} {Q : Int → zM → zM → Prop} (hd : 1 ≤ d) (hp : m 387 = p) (hB : IB p) (h : Q (gWr p (p 7)) x m) : WPc d 271 [zr 386] 403 [] x m 403 [] Q := by
  have hb := hB; unfold IB at hb
  apply r271
  have key : ∀ j, 0 ≤ j → j ≤ p 7 → ∀ q, q = gWr p j → WP d 271 4 [(0, zr 386), (1, zi q), (2, zi j)] [] 403 [] x m 403 [] Q := by
    refine zdown _ _ ?_
    intro j h0 h1 ih q hq
    have hs := gWr_s (p := p) h0
    have hz : zor q 0 = q := zor_0 (by rw [hq]; exact gWr_in p j h0)
    apply r271_c4
    simp only [hp, hz]
    repeat' (first | (with_reducible assumption) | (with_reducible rfl) | (with_reducible apply And.intro) | (with_reducible apply zIn_mk) | (with_reducible apply zLn_mk) | (simp only [hp]) | ((with_reducible intro _); try (exfalso; omega)) | omega | (with_reducible exact Or.inr trivial) | (with_reducible exact Or.inl trivial) | (with_reducible apply s180) | ((refine ih (by omega) _ ?_; rw [hs]; (first | rw [if_pos (by omega)] | rw [if_neg (by omega)]); rw [hq])) | ((refine ih (by omega) _ ?_; rw [hs]; rw [if_neg (by omega)]; exact hq)) | ((rw [hq, show j = p 7 by omega]; exact h)) | fail)
  exact key 0 (by omega) (by omega) 0 rfl
def gDuN (p : Int → Int) (lo : Int) : Nat → Int
  | 0 => 0
  | n + 1 => if p (5146 + (lo + n)) = -1 then gDuN p lo n else zor (gDuN p lo n) (zshl 1 (p (5146 + (lo + n))))
/-- who was on duty in weeks lo .. i - 1 -/
def gDu (p : Int → Int) (lo i : Int) : Int := gDuN p lo (i - lo).toNat
theorem gDu_s {p : Int → Int} {lo i : Int} (h : lo ≤ i) : gDu p lo (i + 1) = if p (5146 + i) = -1 then gDu p lo i else zor (gDu p lo i) (zshl 1 (p (5146 + i))) := by
  unfold gDu
  have e : (i + 1 - lo).toNat = (i - lo).toNat + 1 := by omega
  have e2 : lo + ((i - lo).toNat : Int) = i := by omega
  rw [e, gDuN, e2]
theorem gDu_in (p : Int → Int) (lo i : Int) : zIn (gDu p lo i) := by
  unfold gDu
  induction (i - lo).toNat with
  | zero => show zIn 0; unfold zIn; omega
  | succ n ih =>
    rw [gDuN]; split
    · exact ih
    · exact zor_in _ _
theorem gDu_0 (p : Int → Int) {lo i : Int} (h : i ≤ lo) : gDu p lo i = 0 := by
  unfold gDu
  rw [show (i - lo).toNat = 0 by omega]; rfl
theorem c110 {d : Nat} {lo hi : Int} {p : Int → Int} {x m : zM} {Q : Int → zM → zM → Prop} (hT : RTx x p) (l0 : 0 ≤ lo) (h4 : hi ≤ 400) (h : Q (gDu p lo (hi + 1)) x m) : WPc d 110 [zr 150, zi lo, zi hi] 403 [] x m 403 [] Q := by
  apply r110
  intro _ _
  by_cases c : hi + 1 < lo
  · rw [gDu_0 p (by omega)] at h
    apply r110_c5
    repeat' (first | (with_reducible assumption) | (with_reducible rfl) | (with_reducible apply And.intro) | (with_reducible apply zIn_mk) | (with_reducible apply zLn_mk) | ((with_reducible intro _); try (exfalso; omega)) | omega | (with_reducible exact Or.inr trivial) | (with_reducible exact Or.inl trivial) | fail)
  · have key : ∀ j, lo ≤ j → j ≤ hi + 1 → ∀ q, q = gDu p lo j → WP d 110 5 [(0, zr 150), (2, zi hi), (3, zi q), (4, zi j)] [] 403 [] x m 403 [] Q := by
      refine zdownL lo _ _ ?_
      intro j h0 h1 ih q hq
      have hs := gDu_s (p := p) h0
      have r := hT.2.2.1 j
      apply r110_c5
      by_cases c2 : j ≤ hi
      · rw [r (by omega) (by omega)]
        repeat' (first | (with_reducible assumption) | (with_reducible rfl) | (with_reducible apply And.intro) | (with_reducible apply zIn_mk) | (with_reducible apply zLn_mk) | ((with_reducible intro _); try (exfalso; omega)) | omega | (with_reducible exact Or.inr trivial) | (with_reducible exact Or.inl trivial) | ((refine ih (by omega) _ ?_; rw [hs]; (first | rw [if_pos (by omega)] | rw [if_neg (by omega)]); first | exact hq | rw [hq])) | fail)
      · repeat' (first | (with_reducible assumption) | (with_reducible rfl) | (with_reducible apply And.intro) | (with_reducible apply zIn_mk) | (with_reducible apply zLn_mk) | ((with_reducible intro _); try (exfalso; omega)) | omega | (with_reducible exact Or.inr trivial) | (with_reducible exact Or.inl trivial) | ((rw [hq, show j = hi + 1 by omega]; exact h)) | fail)
    exact key lo (by omega) (by omega) 0 (gDu_0 p (by omega)).symm
/-- the first count that was short, or -1 -/
def gFzN (p : Int → Int) : Nat → Int
  | 0 => -1
  | n + 1 => if gFzN p n ≠ -1 then gFzN p n else if p (5547 + n) ≠ 0 then n else -1
def gFz (p : Int → Int) (n : Int) : Int := gFzN p n.toNat
theorem gFz_s {p : Int → Int} {i : Int} (h : 0 ≤ i) : gFz p (i + 1) = if gFz p i ≠ -1 then gFz p i else if p (5547 + i) ≠ 0 then i else -1 := by
  unfold gFz
  have e : (i + 1).toNat = i.toNat + 1 := by omega
  have e2 : (i.toNat : Int) = i := by omega
  rw [e, gFzN, e2]
theorem gFz_stay {p : Int → Int} {i k : Int} (h0 : 0 ≤ i) (hk : gFz p i = k) (h : k ≠ -1) : ∀ j, 0 ≤ j → gFz p (i + j) = k := by
  refine zup1 _ (by rw [Int.add_zero]; exact hk) ?_
  intro j j0 ih
  rw [← Int.add_assoc, gFz_s (by omega), ih, if_pos h]
def gSus (p : Int → Int) : Int := if gFz p (p 8) = -1 then -1 else gDu p (if gFz p (p 8) = 0 then 0 else p (5567 + (gFz p (p 8) - 1)) + 1) (p (5567 + gFz p (p 8)) + 1)
theorem c109 {d : Nat} {p : Int → Int} {x m : zM} {Q : Int → zM → zM → Prop} (hd : 1 ≤ d) (hB : IB p) (hI : IT p) (hT : RTx x p) (h : Q (gSus p) x m) : WPc d 109 [zr 150] 403 [] x m 403 [] Q := by
  have hb := hB; unfold IB at hb
  have e0 : x 150 1 = p 8 := hT.1
  apply r109
  have key : ∀ j, 0 ≤ j → j ≤ p 8 → gFz p j = -1 → ∀ f, f = (if j = 0 then 0 else p (5567 + (j - 1)) + 1) → WP d 109 4 [(0, zr 150), (1, zi f), (2, zi j)] [] 403 [] x m 403 [] Q := by
    refine zdown _ _ ?_
    intro j h0 h1 ih hz f hf
    have hs := gFz_s (p := p) h0
    rw [hz] at hs
    have r := hT.2.2.2.1 j h0
    have it := hI.2 j h0
    have f0 : 0 ≤ f := by
      rw [hf]; split
      · omega
      · have := hI.2 (j - 1) (by omega) (by omega); omega
    apply r109_c4
    by_cases c : j < p 8
    · obtain ⟨r1, r2⟩ := r c
      rw [r1, r2]
      repeat' (first | (with_reducible assumption) | (with_reducible rfl) | (with_reducible apply And.intro) | (with_reducible apply zIn_mk) | (with_reducible apply zLn_mk) | ((with_reducible intro _); try (exfalso; omega)) | omega | (with_reducible exact Or.inr trivial) | (with_reducible exact Or.inl trivial) | ((refine ih (by omega) (by rw [hs, if_neg (by omega), if_neg (by omega)]) _ ?_; rw [if_neg (by omega), show j + 1 - 1 = j by omega])) | ((refine c110 hT f0 (by omega) ?_; unfold gSus at h; rw [show gFz p (p 8) = j by (have := gFz_stay (p := p) (i := j + 1) (k := j) (by omega) (by rw [hs, if_neg (by omega), if_pos (by omega)]) (by omega) (p 8 - (j + 1)) (by omega); rwa [show j + 1 + (p 8 - (j + 1)) = p 8 by omega] at this), if_neg (by omega), ← hf] at h; exact h)) | fail)
    · repeat' (first | (with_reducible assumption) | (with_reducible rfl) | (with_reducible apply And.intro) | (with_reducible apply zIn_mk) | (with_reducible apply zLn_mk) | ((with_reducible intro _); try (exfalso; omega)) | omega | (with_reducible exact Or.inr trivial) | (with_reducible exact Or.inl trivial) | ((unfold gSus at h; rw [← show j = p 8 by omega, if_pos hz] at h; exact h)) | fail)
  exact key 0 (by omega) (by omega) rfl 0 (by rw [if_pos rfl])
theorem s269 {d : Nat} {p : Int → Int} {x m : zM} {Q : Int → zM → zM → Prop} (hp : m 387 = p) (hB : IB p) (hI : IT p) (h : Q (gSus p) x m) : WPc d 269 [zr 386] 403 [] x m 403 [] Q := by
  have hb := hB; unfold IB at hb
  apply r269
  have duty : ∀ k, 0 ≤ k → k < p 8 → ∀ lo, 0 ≤ lo → (∀ q, q = gDu p lo (p (5567 + k) + 1) → Q q x m) → ∀ j, lo ≤ j → j ≤ (if p (5567 + k) + 1 < lo then lo else p (5567 + k) + 1) → ∀ q, q = gDu p lo j → WP d 269 71 [(0, zr 386), (1, zi k), (2, zi q), (3, zi j)] [] 403 [] x m 403 [] Q := by
    intro k k0 k1 lo lo0 hh
    have it := hI.2 k k0 k1
    refine zdownL lo _ _ ?_
    intro j h0 h1 ih q hq
    have hs := gDu_s (p := p) h0
    have hz : zor q 0 = q := zor_0 (by rw [hq]; exact gDu_in p lo j)
    apply r269_c71
    simp only [hp, hz]
    by_cases c : p (5567 + k) + 1 < lo
    · rw [if_pos c] at h1
      repeat' (first | (with_reducible assumption) | (with_reducible rfl) | (with_reducible apply And.intro) | (with_reducible apply zIn_mk) | (with_reducible apply zLn_mk) | ((with_reducible intro _); try (exfalso; omega)) | omega | (with_reducible exact Or.inr trivial) | (with_reducible exact Or.inl trivial) | ((exact hh _ (by rw [hq, gDu_0 p (by omega), gDu_0 p (by omega)]))) | fail)
    · rw [if_neg c] at h1 ih
      repeat' (first | (with_reducible assumption) | (with_reducible rfl) | (with_reducible apply And.intro) | (with_reducible apply zIn_mk) | (with_reducible apply zLn_mk) | ((with_reducible intro _); try (exfalso; omega)) | omega | (with_reducible exact Or.inr trivial) | (with_reducible exact Or.inl trivial) | ((refine ih (by omega) _ ?_; rw [hs]; (first | rw [if_pos (by omega)] | rw [if_neg (by omega)]); first | exact hq | rw [hq])) | ((exact hh _ (by rw [hq, show j = p (5567 + k) + 1 by omega]))) | fail)
  have key : ∀ j, 0 ≤ j → j ≤ p 8 → gFz p j = -1 → (j ≠ 0 → p (5547 + (j - 1)) = 0) → WP d 269 2 [(0, zr 386), (1, zi j)] [] 403 [] x m 403 [] Q := by
    refine zdown _ _ ?_
    intro j h0 h1 ih hz hprev
    have hs := gFz_s (p := p) h0
    rw [hz] at hs
    have it := hI.2 j h0
    have e1 : 5547 + j - 1 = 5547 + (j - 1) := by omega
    have e2 : 5567 + j - 1 = 5567 + (j - 1) := by omega
    have e3 : j + 1 - 1 = j := by omega
    have it2 : j ≠ 0 → j ≤ p 8 → 0 ≤ p (5567 + (j - 1)) ∧ p (5567 + (j - 1)) ≤ p 0 := fun a b => hI.2 (j - 1) (by omega) (by omega)
    have hit : j < p 8 → p (5547 + j) ≠ 0 → ∀ f, f = (if j = 0 then 0 else p (5567 + (j - 1)) + 1) → 0 ≤ f → WP d 269 71 [(0, zr 386), (1, zi j), (2, zi 0), (3, zi f)] [] 403 [] x m 403 [] Q := by
      intro c1 c2 f hf f0
      refine duty j h0 c1 f f0 ?_ f (by omega) (by split <;> omega) 0 (gDu_0 p (by omega)).symm
      intro q hq
      unfold gSus at h
      rw [show gFz p (p 8) = j by (have := gFz_stay (p := p) (i := j + 1) (k := j) (by omega) (by rw [hs, if_neg (by omega), if_pos (by omega)]) (by omega) (p 8 - (j + 1)) (by omega); rwa [show j + 1 + (p 8 - (j + 1)) = p 8 by omega] at this), if_neg (by omega), ← hf, ← hq] at h
      exact h
    apply r269_c2
    simp only [hp, e1, e2]
    repeat' (first | (with_reducible assumption) | (with_reducible rfl) | (with_reducible apply And.intro) | (with_reducible apply zIn_mk) | (with_reducible apply zLn_mk) | ((with_reducible intro _); try (exfalso; omega)) | omega | (with_reducible exact Or.inr trivial) | (with_reducible exact Or.inl trivial) | ((refine ih (by omega) (by rw [hs, if_neg (by omega), if_neg (by omega)]) (fun _ => by rw [e3]; omega))) | ((refine hit (by omega) (by omega) _ (by rw [if_neg (by omega)]) (by omega))) | ((refine hit (by omega) (by omega) _ (by rw [if_pos (by omega)]) (by omega))) | ((unfold gSus at h; rw [← show j = p 8 by omega, if_pos hz] at h; exact h)) | fail)
  exact key 0 (by omega) (by omega) rfl (fun e => absurd rfl e)
theorem t_wrong {d dM N : Nat} {x m : zM} {Q : Int → zM → zM → Prop} (hd : 40 ≤ d) (hdM : 40 ≤ dM) (hNN : N ≤ 600) (hI : Inv N x m) (K : ∀ q x', MOK N dM 271 [zr 386] q x' m → Q q x' m) : WPc d 151 [zr 0] 403 [] x m 403 [] Q := by
  obtain ⟨hF, hIF, hK, hO⟩ := id hI
  have hX := hF.1
  have hIx := hIF.1
  have hB := hIx.1
  have hA := hIx.2.1
  have hN := hIx.2.2.1
  have hM := hIF.2.1
  have hE := hIF.2.2.1
  have hb := hB; unfold IB at hb
  have hRL := hX.2.1
  have hRA := hX.2.2.1
  have hRN := hX.2.2.2.1
  have e10 : x 1 0 = m 387 0 := hX.1.1
  have e11 : x 1 1 = m 387 1 := hX.1.2.1
  refine c151 (p := m 387) (by omega) hX hB hF.2.2.1 ?_
  repeat' (first | (with_reducible assumption) | (with_reducible rfl) | (with_reducible apply And.intro) | (with_reducible apply zIn_mk) | (with_reducible apply zLn_mk) | ((with_reducible intro _); try (exfalso; omega)) | omega | (with_reducible exact Or.inr trivial) | (with_reducible exact Or.inl trivial) | (with_reducible apply k161) | (with_reducible apply k162) | (with_reducible apply k163) | (with_reducible apply k164) | (with_reducible apply k165) | (with_reducible apply k166) | (with_reducible apply k167) | ((refine K _ _ ?_; intro Q' hQ; refine s271 (p := m 387) (by omega) rfl hB ?_)) | (with_reducible apply s171) | (with_reducible apply s172) | (with_reducible apply s173) | (with_reducible apply s174) | (with_reducible apply s175) | (with_reducible apply s176) | ((refine zQe (hQ _ _ ?_ ?_) ?_)) | ((exact zP_ne _ _ (by decide))) | ((exact zP_eq _ _)) | ((exact Inv_c (by omega) (by omega) hI)) | ((exact Inv_s (zSx.rf _) (zSame.rf _) hI)) | ((exact zu_ne _ _ _ (by decide))) | fail)

theorem t_suspects {d dM N : Nat} {x m : zM} {Q : Int → zM → zM → Prop} (hd : 40 ≤ d) (hdM : 40 ≤ dM) (hNN : N ≤ 600) (hI : Inv N x m) (K : ∀ q x', MOK N dM 269 [zr 386] q x' m → Q q x' m) : WPc d 149 [zr 0] 403 [] x m 403 [] Q := by
  obtain ⟨hF, hIF, hK, hO⟩ := id hI
  have hX := hF.1
  have hIx := hIF.1
  have hB := hIx.1
  have hA := hIx.2.1
  have hN := hIx.2.2.1
  have hM := hIF.2.1
  have hE := hIF.2.2.1
  have hb := hB; unfold IB at hb
  have hRL := hX.2.1
  have hRA := hX.2.2.1
  have hRN := hX.2.2.2.1
  have e10 : x 1 0 = m 387 0 := hX.1.1
  have e11 : x 1 1 = m 387 1 := hX.1.2.1
  apply r149
  repeat' (first | (with_reducible assumption) | (with_reducible rfl) | (with_reducible apply And.intro) | (with_reducible apply zIn_mk) | (with_reducible apply zLn_mk) | ((with_reducible intro _); try (exfalso; omega)) | omega | (with_reducible exact Or.inr trivial) | (with_reducible exact Or.inl trivial) | ((refine c109 (p := m 387) (by omega) hB hIF.2.2.2.2.2.2.1 hF.2.2.1 ?_)) | (with_reducible apply k161) | (with_reducible apply k162) | (with_reducible apply k163) | (with_reducible apply k164) | (with_reducible apply k165) | (with_reducible apply k166) | (with_reducible apply k167) | ((refine K _ _ ?_; intro Q' hQ; refine s269 (p := m 387) rfl hB hIF.2.2.2.2.2.2.1 ?_)) | (with_reducible apply s171) | (with_reducible apply s172) | (with_reducible apply s173) | (with_reducible apply s174) | (with_reducible apply s175) | (with_reducible apply s176) | ((refine zQe (hQ _ _ ?_ ?_) ?_)) | ((exact zP_ne _ _ (by decide))) | ((exact zP_eq _ _)) | ((exact Inv_c (by omega) (by omega) hI)) | ((exact Inv_s (zSx.rf _) (zSame.rf _) hI)) | ((exact zu_ne _ _ _ (by decide))) | fail)

