/-! COUNTS -/
theorem zT_swap {f c : Int → Int} {M : Int} : ∀ n, 0 ≤ n → ((∀ l, 0 ≤ l → l < n → 0 ≤ c l ∧ c l < M) → zT (fun v => zT (fun l => if c l = v then f l else 0) n) M = zT f n) := by
  refine zup1 _ (fun _ => ?_) ?_
  · rw [zT_0 (f := f) (by omega)]; exact zT_zero (fun j _ _ => zT_0 (by omega))
  · intro n n0 ih hc
    have a := ih (fun l l0 l1 => hc l l0 (by omega))
    have b := hc n n0 (by omega)
    rw [zT_s n0, ← a]
    have e : zT (fun v => zT (fun l => if c l = v then f l else 0) (n + 1)) M = zT (fun v => zT (fun l => if c l = v then f l else 0) n + (if c n = v then f n else 0)) M := zT_congr (fun j _ _ => zT_s n0)
    rw [e, zT_add]
    have g := zT_one (f := fun v => if c n = v then f n else 0) (g := fun _ => 0) (n := M) (k := c n) b.1 b.2 (fun j _ _ hj => if_neg (fun h => hj h.symm))
    rw [zT_zero (f := fun _ => (0 : Int)) (fun _ _ _ => rfl), if_pos rfl] at g
    rw [g]; omega
theorem gOw_c (p : Int → Int) (l : Int) (h : p (570 + l) ≠ 0) : gOw p l = 0 := by unfold gOw; rw [if_neg h]
theorem gOwAll_eq {p : Int → Int} (hB : IB p) (hA : IA p) (hN : IN p) : zT (fun v => gOws p v) (p 1) = gOwAll p := by
  have hb := hB; unfold IB at hb
  unfold gOwAll
  rw [← zT_swap (f := fun l => gOw p l) (c := fun l => p (90 + p (450 + l))) (M := p 1) (p 3) (by omega) (fun l l0 l1 => by
    have n := hN.1 l l0 l1; unfold INl at n
    have a := hA.1 (p (450 + l)) (by omega) (by omega); unfold IAa at a
    (try dsimp only); omega)]
  refine zT_congr (fun v _ _ => ?_)
  unfold gOws
  refine zT_congr (fun l _ _ => ?_)
  by_cases c : p (570 + l) = 0
  · by_cases c2 : p (90 + p (450 + l)) = v
    · rw [if_pos ⟨c, c2⟩, if_pos c2]
    · rw [if_neg (fun e => c2 e.2), if_neg c2]
  · rw [if_neg (fun e => c e.1), gOw_c p l c]; split <;> rfl
theorem gSv_out {p : Int → Int} (hE : IE p) {k : Int} (h : p 1 ≤ k) (w as : Int) : gSv p k w as = 0 := by
  unfold gSv
  rw [zT_zero (fun j j0 j1 => ?_)]
  · rfl
  · have := hE.1 j j0 j1
    unfold gE; rw [if_neg (by omega)]
theorem gAll_eq {p : Int → Int} (hB : IB p) (hE : IE p) : w32 (zT (fun k => gSv p k 400 400) (p 1)) = gAll p := by
  have hb := hB; unfold IB at hb
  unfold gAll
  rw [zT_ext (f := fun k => gSv p k 400 400) (n := p 1) (k := 16) (by omega) (by omega) (fun j j0 _ => gSv_out hE j0 _ _)]
theorem s272o {d : Nat} {p : Int → Int} {x m : zM} {Q : Int → zM → zM → Prop} (hp : m 387 = p) (hB : IB p) (h : Q (gOpen p) x m) : WP d 272 135 [(0, zr 386), (2, zi 0), (3, zi 0)] [] 403 [] x m 403 [] Q := by
  have hb := hB; unfold IB at hb
  have key : ∀ j, 0 ≤ j → j ≤ p 3 → ∀ q, q = zT (fun l => if p (570 + l) = 0 then 1 else 0) j → WP d 272 135 [(0, zr 386), (2, zi q), (3, zi j)] [] 403 [] x m 403 [] Q := by
    refine zdown _ _ ?_
    intro j h0 h1 ih q hq
    have hs := zT_s (f := fun l => if p (570 + l) = 0 then 1 else 0) h0
    have bd := zT_bd (f := fun l => if p (570 + l) = 0 then 1 else 0) (lo := 0) (hi := 1) h0 (fun i a b => by (try dsimp only); split <;> omega)
    try dsimp only at hs
    apply r272_c135
    simp only [hp]
    repeat' (first | (with_reducible assumption) | (with_reducible rfl) | (with_reducible apply And.intro) | (with_reducible apply zIn_mk) | (with_reducible apply zLn_mk) | ((with_reducible intro _); try (exfalso; omega)) | omega | (with_reducible exact Or.inr trivial) | (with_reducible exact Or.inl trivial) | ((refine ih (by omega) _ ?_; rw [hs]; (first | rw [if_pos (by omega)] | rw [if_neg (by omega)]); omega)) | fail)
    · rw [hq, show j = p 3 by omega]; exact h
  exact key 0 (by omega) (by omega) 0 (by rw [zT_0 (by omega)])
theorem s272s {d : Nat} {p : Int → Int} {x m : zM} {Q : Int → zM → zM → Prop} (hd : 3 ≤ d) (hp : m 387 = p) (hB : IB p) (hE : IE p) (h : Q (gAll p) x m) : WP d 272 212 [(0, zr 386), (1, zi 14), (2, zi 0), (3, zi 0)] [] 403 [] x m 403 [] Q := by
  have hb := hB; unfold IB at hb
  have key : ∀ j, 0 ≤ j → j ≤ p 1 → ∀ q, q = w32 (zT (fun k => gSv p k 400 400) j) → WP d 272 212 [(0, zr 386), (1, zi 14), (2, zi q), (3, zi j)] [] 403 [] x m 403 [] Q := by
    refine zdown _ _ ?_
    intro j h0 h1 ih q hq
    have hs := zT_s (f := fun k => gSv p k 400 400) h0
    try dsimp only at hs
    apply r272_c212
    repeat' (first | (with_reducible assumption) | (with_reducible rfl) | (with_reducible apply And.intro) | (with_reducible apply zIn_mk) | (with_reducible apply zLn_mk) | (simp only [hp]) | ((with_reducible intro _); try (exfalso; omega)) | omega | (with_reducible exact Or.inr trivial) | (with_reducible exact Or.inl trivial) | (with_reducible apply s181) | ((refine ih (by omega) _ ?_; rw [hs, hq, w32_wa])) | fail)
    · rw [hq, show j = p 1 by omega, gAll_eq hB hE]; exact h
  exact key 0 (by omega) (by omega) 0 (by rw [zT_0 (by omega)]; rfl)
theorem s272w {d : Nat} {p : Int → Int} {x m : zM} {Q : Int → zM → zM → Prop} (hd : 3 ≤ d) (hp : m 387 = p) (hB : IB p) (hA : IA p) (hN : IN p) (h : Q (gOwAll p) x m) : WP d 272 212 [(0, zr 386), (1, zi 15), (2, zi 0), (3, zi 0)] [] 403 [] x m 403 [] Q := by
  have hb := hB; unfold IB at hb
  have key : ∀ j, 0 ≤ j → j ≤ p 1 → ∀ q, q = w32 (zT (fun k => gOws p k) j) → WP d 272 212 [(0, zr 386), (1, zi 15), (2, zi q), (3, zi j)] [] 403 [] x m 403 [] Q := by
    refine zdown _ _ ?_
    intro j h0 h1 ih q hq
    have hs := zT_s (f := fun k => gOws p k) h0
    try dsimp only at hs
    apply r272_c212
    repeat' (first | (with_reducible assumption) | (with_reducible rfl) | (with_reducible apply And.intro) | (with_reducible apply zIn_mk) | (with_reducible apply zLn_mk) | (simp only [hp]) | ((with_reducible intro _); try (exfalso; omega)) | omega | (with_reducible exact Or.inr trivial) | (with_reducible exact Or.inl trivial) | (with_reducible apply s192) | ((refine ih (by omega) _ ?_; rw [hs, hq, w32_wa])) | fail)
    · have bd := zT_bd (f := fun l => gOw p l) (lo := 0) (hi := 219997) (n := p 3) (by omega) (fun i a b => gOw_bd hA hN a b)
      rw [hq, show j = p 1 by omega, gOwAll_eq hB hA hN, w32_i (by unfold gOwAll; omega) (by unfold gOwAll; omega)]; exact h
  exact key 0 (by omega) (by omega) 0 (by rw [zT_0 (by omega)]; rfl)
theorem s272d {d : Nat} {p : Int → Int} {x m : zM} {Q : Int → zM → zM → Prop} (hd : 12 ≤ d) (hp : m 387 = p) (hI : IX p) (hM : IM p) (h : ∀ m', zSame m m' → m' 387 = p → Q (gDos p) x m') : WP d 272 212 [(0, zr 386), (1, zi 13), (2, zi 0), (3, zi 0)] [] 403 [] x m 403 [] Q := by
  have hb := hI.1; unfold IB at hb
  have key : ∀ j, 0 ≤ j → j ≤ p 1 → ∀ q, q = w32 (zT (fun v => if gDo p v then 1 else 0) j) → ∀ m', zSame m m' → m' 387 = p → WP d 272 212 [(0, zr 386), (1, zi 13), (2, zi q), (3, zi j)] [] 403 [] x m' 403 [] Q := by
    refine zdown _ _ ?_
    intro j h0 h1 ih q hq mA hA hpA
    have hs := zT_s (f := fun v => if gDo p v then 1 else 0) h0
    try dsimp only at hs
    apply r272_c212
    simp only [hpA]
    repeat' (first | (with_reducible assumption) | (with_reducible rfl) | (with_reducible apply And.intro) | (with_reducible apply zIn_mk) | (with_reducible apply zLn_mk) | ((with_reducible intro _); try (exfalso; omega)) | omega | (with_reducible exact Or.inr trivial) | (with_reducible exact Or.inl trivial) | ((refine s199' (p := p) (by omega) hpA hI hM h0 (by omega) ?_ ?_ <;> intro cD mB hB2 hpB <;> replace hA := hA.tr hB2)) | ((refine ih (by omega) _ ?_ _ hA hpB; rw [hs, if_pos cD, hq, w32_wa])) | ((refine ih (by omega) _ ?_ _ hA hpB; rw [hs, if_neg cD, hq, w32_wa])) | fail)
    · have bd := zT_bd (f := fun v => if gDo p v then 1 else 0) (lo := 0) (hi := 1) (n := p 1) (by omega) (fun i a b => by (try dsimp only); split <;> omega)
      rw [hq, show j = p 1 by omega, w32_i (by omega) (by omega)]; exact h mA hA hpA
  exact key 0 (by omega) (by omega) 0 (by rw [zT_0 (by omega)]; rfl) m (zSame.rf m) hp
theorem t_count {d dM N : Nat} {a : Int} {x m : zM} {Q : Int → zM → zM → Prop} (hd : 40 ≤ d) (hdM : 40 ≤ dM) (hNN : N ≤ 600) (hI : Inv N x m) (K : ∀ q x', MOK N dM 272 [zr 386, zi a] q x' m → Q q x' m) : WPc d 152 [zr 0, zi a] 403 [] x m 403 [] Q := by
  obtain ⟨hF, hIF, hK, hO⟩ := id hI
  have hX := hF.1
  have hIx := hIF.1
  have hB := hIx.1
  have hA := hIx.2.1
  have hN := hIx.2.2.1
  have hM := hIF.2.1
  have hE := hIF.2.2.1
  have hb := hB; unfold IB at hb
  have hRL := hX.2.1
  have hRA := hX.2.2.1
  have hRN := hX.2.2.2.1
  have e10 : x 1 0 = m 387 0 := hX.1.1
  have e11 : x 1 1 = m 387 1 := hX.1.2.1
  have e70 : x 7 0 = m 387 4 := hRL.1
  have e77 : x 7 7 = m 387 6161 := hRL.2.2.2.1
  have e78 : w32 (x 7 8) = m 387 6162 := hRL.2.2.2.2
  have e140 : x 14 0 = m 387 2 := hRA.1
  have e720 : x 72 0 = m 387 3 := hRN.1
  have e88 : x 88 0 = m 387 5 := hX.2.2.2.2.1
  have e325 : x 325 1 = m 386 9 := hO.2.1.2.2
  have e108 : x 108 0 = m 387 6 := hF.2.1.1
  have e154 : x 150 4 = m 387 7 := hF.2.2.1.2.1
  have e151 : x 150 1 = m 387 8 := hF.2.2.1.1
  rcases (by omega : (a < 0 ∨ 15 < a) ∨ a = 0 ∨ a = 1 ∨ a = 2 ∨ a = 3 ∨ a = 4 ∨ a = 5 ∨ a = 6 ∨ a = 7 ∨ a = 8 ∨ a = 9 ∨ a = 10 ∨ a = 11 ∨ a = 12 ∨ a = 13 ∨ a = 14 ∨ a = 15) with u | u | u | u | u | u | u | u | u | u | u | u | u | u | u | u | u
  all_goals try subst u
  all_goals apply r152
  all_goals repeat' (first | (with_reducible assumption) | (with_reducible rfl) | (with_reducible apply And.intro) | (with_reducible apply zIn_mk) | (with_reducible apply zLn_mk) | (simp only [e70, e77, e78, e140, e720, e88, e325, e108, e154, e151, e10, e11]) | ((with_reducible intro _); try (exfalso; omega)) | omega | (with_reducible exact Or.inr trivial) | (with_reducible exact Or.inl trivial) | (with_reducible apply trivial) | ((refine c58 hRN hB ?_)) | ((refine c45 (by omega) hX hIx hM ?_; intro xB hB2)) | ((refine c27 hRL ?_)) | ((refine c59 (by omega) hRN hB hA hN ?_)) | ((refine s272o (p := m 387) rfl hB ?_)) | ((refine s272s (p := m 387) (by omega) rfl hB hE ?_)) | ((refine s272w (p := m 387) (by omega) rfl hB hA hN ?_)) | ((refine s272d (p := m 387) (by omega) rfl hIx hM ?_; intro mB hT hpB)) | ((exact Inv_s hB2 hT hI)) | ((exact hT.1 2000 (by decide) (by decide) (by decide))) | (with_reducible apply k161) | (with_reducible apply k162) | (with_reducible apply k163) | (with_reducible apply k164) | (with_reducible apply k165) | (with_reducible apply k166) | (with_reducible apply k167) | ((refine K _ _ ?_; intro Q' hQ; apply r272)) | (with_reducible apply s171) | (with_reducible apply s172) | (with_reducible apply s173) | (with_reducible apply s174) | (with_reducible apply s175) | (with_reducible apply s176) | ((refine zQe (hQ _ _ ?_ ?_) ?_)) | ((exact zP_ne _ _ (by decide))) | ((exact zP_eq _ _)) | ((exact Inv_c (by omega) (by omega) hI)) | ((exact Inv_s (zSx.rf _) (zSame.rf _) hI)) | ((exact zu_ne _ _ _ (by decide))) | fail)

