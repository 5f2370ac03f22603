/-! THE MODEL'S READERS -/
theorem s171 {d : Nat} {v lo hi : Int} {x m : zM} {Q : Int → zM → zM → Prop} (h1 : lo ≤ v → v ≤ hi → Q 1 x m) (h0 : (v < lo ∨ hi < v) → Q 0 x m) : WPc d 171 [zi v, zi lo, zi hi] 403 [] x m 403 [] Q := by
  apply r171
  repeat' (first | (with_reducible assumption) | (with_reducible rfl) | (with_reducible apply And.intro) | (with_reducible apply zIn_mk) | (with_reducible apply zLn_mk) | ((with_reducible intro _); try (exfalso; omega)) | omega | (with_reducible exact Or.inr trivial) | (with_reducible exact Or.inl trivial) | ((with_reducible apply h1) <;> omega) | ((with_reducible apply h0) <;> omega) | fail)
def zcM (m : zM) (v : Int) : zM := zupd m 393 (-v) (w32 (m 393 (-v) + 1))
theorem s172 {d : Nat} {v : Int} {x m : zM} {Q : Int → zM → zM → Prop} (hv : -8 ≤ v ∧ v ≤ -2) (h : Q v x (zcM m v)) : WPc d 172 [zr 386, zi v] 403 [] x m 403 [] Q := by
  apply r172
  unfold zcM at h
  repeat' (first | (with_reducible assumption) | (with_reducible rfl) | (with_reducible apply And.intro) | (with_reducible apply zIn_mk) | (with_reducible apply zLn_mk) | ((with_reducible intro _); try (exfalso; omega)) | omega | (with_reducible exact Or.inr trivial) | (with_reducible exact Or.inl trivial) | fail)
theorem s173 {d : Nat} {v : Int} {x m : zM} {Q : Int → zM → zM → Prop} (hd : 1 ≤ d) (hv : -8 ≤ v ∧ v ≤ -2) (h : Q 0 x (zcM m v)) : WPc d 173 [zr 386, zi v] 403 [] x m 403 [] Q := by
  apply r173
  repeat' (first | (with_reducible assumption) | (with_reducible rfl) | (with_reducible apply And.intro) | (with_reducible apply zIn_mk) | (with_reducible apply zLn_mk) | ((with_reducible intro _); try (exfalso; omega)) | omega | (with_reducible exact Or.inr trivial) | (with_reducible exact Or.inl trivial) | (with_reducible apply s172) | fail)
theorem s174 {d : Nat} {v : Int} {p : Int → Int} {x m : zM} {Q : Int → zM → zM → Prop} (hp : m 387 = p) (hd : 1 ≤ d) (hB : IB p) (h1 : 0 ≤ v → v < p 1 → Q 1 x m) (h0 : (v < 0 ∨ p 1 ≤ v) → Q 0 x m) : WPc d 174 [zr 386, zi v] 403 [] x m 403 [] Q := by
  subst hp
  have hb := hB; unfold IB at hb
  apply r174
  repeat' (first | (with_reducible assumption) | (with_reducible rfl) | (with_reducible apply And.intro) | (with_reducible apply zIn_mk) | (with_reducible apply zLn_mk) | ((with_reducible intro _); try (exfalso; omega)) | omega | (with_reducible exact Or.inr trivial) | (with_reducible exact Or.inl trivial) | (with_reducible apply s171) | ((with_reducible apply h1) <;> omega) | ((with_reducible apply h0) <;> omega) | fail)
theorem s175 {d : Nat} {v : Int} {p : Int → Int} {x m : zM} {Q : Int → zM → zM → Prop} (hp : m 387 = p) (hd : 1 ≤ d) (hB : IB p) (h1 : 0 ≤ v → v < p 2 → Q 1 x m) (h0 : (v < 0 ∨ p 2 ≤ v) → Q 0 x m) : WPc d 175 [zr 386, zi v] 403 [] x m 403 [] Q := by
  subst hp
  have hb := hB; unfold IB at hb
  apply r175
  repeat' (first | (with_reducible assumption) | (with_reducible rfl) | (with_reducible apply And.intro) | (with_reducible apply zIn_mk) | (with_reducible apply zLn_mk) | ((with_reducible intro _); try (exfalso; omega)) | omega | (with_reducible exact Or.inr trivial) | (with_reducible exact Or.inl trivial) | (with_reducible apply s171) | ((with_reducible apply h1) <;> omega) | ((with_reducible apply h0) <;> omega) | fail)
theorem s176 {d : Nat} {v : Int} {p : Int → Int} {x m : zM} {Q : Int → zM → zM → Prop} (hp : m 387 = p) (hd : 1 ≤ d) (hB : IB p) (h1 : 0 ≤ v → v < p 3 → Q 1 x m) (h0 : (v < 0 ∨ p 3 ≤ v) → Q 0 x m) : WPc d 176 [zr 386, zi v] 403 [] x m 403 [] Q := by
  subst hp
  have hb := hB; unfold IB at hb
  apply r176
  repeat' (first | (with_reducible assumption) | (with_reducible rfl) | (with_reducible apply And.intro) | (with_reducible apply zIn_mk) | (with_reducible apply zLn_mk) | ((with_reducible intro _); try (exfalso; omega)) | omega | (with_reducible exact Or.inr trivial) | (with_reducible exact Or.inl trivial) | (with_reducible apply s171) | ((with_reducible apply h1) <;> omega) | ((with_reducible apply h0) <;> omega) | fail)
theorem s177 {d : Nat} {a w : Int} {p : Int → Int} {x m : zM} {Q : Int → zM → zM → Prop} (hp : m 387 = p) (hB : IB p) (hE : IE p) (h : Q (gI p a w) x m) : WPc d 177 [zr 386, zi a, zi w] 403 [] x m 403 [] Q := by
  subst hp
  have hb := hB; unfold IB at hb
  apply r177
  intro _ _
  have key : ∀ j, 0 ≤ j → j ≤ m 387 4 → (∀ k, 0 ≤ k → k < j → ¬ gMt (m 387) a w k) → WP d 177 2 [(0, zr 386), (1, zi a), (2, zi w), (3, zi j)] [] 403 [] x m 403 [] Q := by
    refine zdown _ _ ?_
    intro j h0 h1 ih hno
    have ihs : j < m 387 4 → ¬ gMt (m 387) a w j → WP d 177 2 [(0, zr 386), (1, zi a), (2, zi w), (3, zi (j + 1))] [] 403 [] x m 403 [] Q := by
      intro hl hn
      refine ih hl ?_
      intro k k0 k1
      by_cases e : k = j
      · subst e; exact hn
      · exact hno k k0 (by omega)
    apply r177_c2
    repeat' (first | (with_reducible assumption) | (with_reducible rfl) | (with_reducible apply And.intro) | (with_reducible apply zIn_mk) | (with_reducible apply zLn_mk) | ((with_reducible intro _); try (exfalso; omega)) | omega | (with_reducible exact Or.inr trivial) | (with_reducible exact Or.inl trivial) | ((refine ihs (by omega) ?_; unfold gMt; omega)) | fail)
    · rw [← gI_no (p := m 387) (a := a) (w := w) (fun k k0 k1 => hno k k0 (by omega))]; exact h
    · rw [show j = gI (m 387) a w from (gI_is hE h0 (by omega) ⟨by omega, by omega, by omega⟩).symm]; exact h
  exact key 0 (by omega) (by omega) (fun k k0 k1 => by omega)
theorem s179 {d : Nat} {a w : Int} {p : Int → Int} {x m : zM} {Q : Int → zM → zM → Prop} (hp : m 387 = p) (hd : 1 ≤ d) (hB : IB p) (hE : IE p) (h1 : gHas p a w → Q 1 x m) (h0 : ¬ gHas p a w → Q 0 x m) : WPc d 179 [zr 386, zi a, zi w] 403 [] x m 403 [] Q := by
  subst hp
  have hb := hB; unfold IB at hb
  unfold gHas at h1 h0
  apply r179
  repeat' (first | (with_reducible assumption) | (with_reducible rfl) | (with_reducible apply And.intro) | (with_reducible apply zIn_mk) | (with_reducible apply zLn_mk) | ((with_reducible intro _); try (exfalso; omega)) | omega | (with_reducible exact Or.inr trivial) | (with_reducible exact Or.inl trivial) | (with_reducible apply s177) | ((with_reducible apply h1) <;> omega) | ((with_reducible apply h0) <;> omega) | fail)
theorem s180 {d : Nat} {a w as : Int} {p : Int → Int} {x m : zM} {Q : Int → zM → zM → Prop} (hp : m 387 = p) (hB : IB p) (h : Q (gSv p a w as) x m) : WPc d 180 [zr 386, zi a, zi w, zi as] 403 [] x m 403 [] Q := by
  subst hp
  have hb := hB; unfold IB at hb
  apply r180
  intro _ _ _
  have key : ∀ j, 0 ≤ j → j ≤ m 387 4 → ∀ v, v = w32 (zT (gE (m 387) a w as) j) → WP d 180 6 [(0, zr 386), (1, zi a), (2, zi w), (3, zi as), (4, zi v), (5, zi j)] [] 403 [] x m 403 [] Q := by
    refine zdown _ _ ?_
    intro j h0 h1 ih v hv
    have hs := zT_s (f := gE (m 387) a w as) h0
    have hg : gE (m 387) a w as j = if m 387 (690 + j) = a ∧ m 387 (1390 + j) ≤ w ∧ m 387 (2090 + j) ≤ as then m 387 (2790 + j) else 0 := rfl
    apply r180_c6
    repeat' (first | (with_reducible assumption) | (with_reducible rfl) | (with_reducible apply And.intro) | (with_reducible apply zIn_mk) | (with_reducible apply zLn_mk) | ((with_reducible intro _); try (exfalso; omega)) | omega | (with_reducible exact Or.inr trivial) | (with_reducible exact Or.inl trivial) | ((refine ih (by omega) _ ?_; rw [hs, hg]; (first | rw [if_pos (by omega)] | rw [if_neg (by omega)]); subst hv; rw [w32_wa])) | fail)
    · rw [hv, show j = m 387 4 by omega]; exact h
  exact key 0 (by omega) (by omega) 0 (by rw [zT_0 (by omega)]; rfl)
theorem s181 {d : Nat} {a : Int} {p : Int → Int} {x m : zM} {Q : Int → zM → zM → Prop} (hp : m 387 = p) (hd : 1 ≤ d) (hB : IB p) (h : Q (gSv p a 400 400) x m) : WPc d 181 [zr 386, zi a] 403 [] x m 403 [] Q := by
  subst hp
  apply r181
  repeat' (first | (with_reducible assumption) | (with_reducible rfl) | (with_reducible apply And.intro) | (with_reducible apply zIn_mk) | (with_reducible apply zLn_mk) | ((with_reducible intro _); try (exfalso; omega)) | omega | (with_reducible exact Or.inr trivial) | (with_reducible exact Or.inl trivial) | (with_reducible apply s180) | fail)
theorem gOw_bd {p : Int → Int} {l : Int} (hA : IA p) (hN : IN p) (h0 : 0 ≤ l) (h1 : l < p 3) : 0 ≤ gOw p l ∧ gOw p l ≤ 219997 := by
  have a := hN.1 l h0 h1
  unfold INl at a
  have b := hA.1 (p (450 + l)) (by omega) (by omega)
  unfold IAa at b
  unfold gOw
  split <;> omega
theorem s188 {d : Nat} {v : Int} {x m : zM} {Q : Int → zM → zM → Prop} (h1 : (v = 2 ∨ v = 5) → Q 1 x m) (h0 : v ≠ 2 → v ≠ 5 → Q 0 x m) : WPc d 188 [zi v] 403 [] x m 403 [] Q := by
  apply r188
  repeat' (first | (with_reducible assumption) | (with_reducible rfl) | (with_reducible apply And.intro) | (with_reducible apply zIn_mk) | (with_reducible apply zLn_mk) | ((with_reducible intro _); try (exfalso; omega)) | omega | (with_reducible exact Or.inr trivial) | (with_reducible exact Or.inl trivial) | ((with_reducible apply h1) <;> omega) | ((with_reducible apply h0) <;> omega) | fail)
theorem s189 {d : Nat} {v : Int} {x m : zM} {Q : Int → zM → zM → Prop} (h1 : (v = 3 ∨ v = 4) → Q 1 x m) (h0 : v ≠ 3 → v ≠ 4 → Q 0 x m) : WPc d 189 [zi v] 403 [] x m 403 [] Q := by
  apply r189
  repeat' (first | (with_reducible assumption) | (with_reducible rfl) | (with_reducible apply And.intro) | (with_reducible apply zIn_mk) | (with_reducible apply zLn_mk) | ((with_reducible intro _); try (exfalso; omega)) | omega | (with_reducible exact Or.inr trivial) | (with_reducible exact Or.inl trivial) | ((with_reducible apply h1) <;> omega) | ((with_reducible apply h0) <;> omega) | fail)
theorem s190 {d : Nat} {l : Int} {p : Int → Int} {x m : zM} {Q : Int → zM → zM → Prop} (hp : m 387 = p) (hB : IB p) (hA : IA p) (hN : IN p) (l0 : 0 ≤ l) (l1 : l < p 3) (h : Q (gOw p l) x m) : WPc d 190 [zr 386, zi l] 403 [] x m 403 [] Q := by
  subst hp
  have hb := hB; unfold IB at hb
  have a := hN.1 l l0 l1
  unfold INl at a
  have b := hA.1 (m 387 (450 + l)) (by omega) (by omega)
  unfold IAa at b
  unfold gOw at h
  apply r190
  repeat' (first | (with_reducible assumption) | (with_reducible rfl) | (with_reducible apply And.intro) | (with_reducible apply zIn_mk) | (with_reducible apply zLn_mk) | ((with_reducible intro _); try (exfalso; omega)) | omega | (with_reducible exact Or.inr trivial) | (with_reducible exact Or.inl trivial) | ((rw [if_pos (by omega)] at h; exact h)) | ((rw [if_neg (by omega)] at h; exact h)) | fail)
theorem s191 {d : Nat} {l v : Int} {p : Int → Int} {x m : zM} {Q : Int → zM → zM → Prop} (hp : m 387 = p) (hB : IB p) (hN : IN p) (l0 : 0 ≤ l) (l1 : l < p 3) (h1 : p (570 + l) = 0 → p (90 + p (450 + l)) = v → Q 1 x m) (h0 : (p (570 + l) = 0 → p (90 + p (450 + l)) ≠ v) → Q 0 x m) : WPc d 191 [zr 386, zi l, zi v] 403 [] x m 403 [] Q := by
  subst hp
  have hb := hB; unfold IB at hb
  have a := hN.1 l l0 l1
  unfold INl at a
  apply r191
  repeat' (first | (with_reducible assumption) | (with_reducible rfl) | (with_reducible apply And.intro) | (with_reducible apply zIn_mk) | (with_reducible apply zLn_mk) | ((with_reducible intro _); try (exfalso; omega)) | omega | (with_reducible exact Or.inr trivial) | (with_reducible exact Or.inl trivial) | ((with_reducible apply h1) <;> omega) | ((with_reducible apply h0) <;> omega) | fail)
theorem s192 {d : Nat} {v : Int} {p : Int → Int} {x m : zM} {Q : Int → zM → zM → Prop} (hp : m 387 = p) (hd : 1 ≤ d) (hB : IB p) (hA : IA p) (hN : IN p) (h : Q (gOws p v) x m) : WPc d 192 [zr 386, zi v] 403 [] x m 403 [] Q := by
  subst hp
  have hb := hB; unfold IB at hb
  apply r192
  intro _
  have key : ∀ j, 0 ≤ j → j ≤ m 387 3 → ∀ q, q = zT (fun l => if m 387 (570 + l) = 0 ∧ m 387 (90 + m 387 (450 + l)) = v then gOw (m 387) l else 0) j → WP d 192 4 [(0, zr 386), (1, zi v), (2, zi q), (3, zi j)] [] 403 [] x m 403 [] Q := by
    refine zdown _ _ ?_
    intro j h0 h1 ih q hq
    have hs := zT_s (f := fun l => if m 387 (570 + l) = 0 ∧ m 387 (90 + m 387 (450 + l)) = v then gOw (m 387) l else 0) h0
    have bd := zT_bd (f := fun l => if m 387 (570 + l) = 0 ∧ m 387 (90 + m 387 (450 + l)) = v then gOw (m 387) l else 0) (lo := 0) (hi := 219997) h0 (fun i a b => by have := gOw_bd hA hN a (show i < m 387 3 by omega); (try dsimp only); split <;> omega)
    have bj : j < m 387 3 → 0 ≤ gOw (m 387) j ∧ gOw (m 387) j ≤ 219997 := gOw_bd hA hN h0
    try dsimp only at hs
    apply r192_c4
    repeat' (first | (with_reducible assumption) | (with_reducible rfl) | (with_reducible apply And.intro) | (with_reducible apply zIn_mk) | (with_reducible apply zLn_mk) | ((with_reducible intro _); try (exfalso; omega)) | omega | (with_reducible exact Or.inr trivial) | (with_reducible exact Or.inl trivial) | (with_reducible apply s191) | (with_reducible apply s190) | ((refine ih (by omega) _ ?_; rw [hs]; (first | rw [if_pos (by omega)] | rw [if_neg (by omega)]); omega)) | fail)
    · rw [hq, show j = m 387 3 by omega]; exact h
  exact key 0 (by omega) (by omega) 0 (by rw [zT_0 (by omega)])
theorem s193 {d : Nat} {v : Int} {p : Int → Int} {x m : zM} {Q : Int → zM → zM → Prop} (hp : m 387 = p) (hd : 1 ≤ d) (hB : IB p) (hA : IA p) (hN : IN p) (h : Q (gHd p v) x m) : WPc d 193 [zr 386, zi v] 403 [] x m 403 [] Q := by
  subst hp
  have hb := hB; unfold IB at hb
  apply r193
  intro _
  have key : ∀ j, 0 ≤ j → j ≤ m 387 3 → ∀ q, q = zT (fun l => if (m 387 (570 + l) = 0 ∧ m 387 (90 + m 387 (450 + l)) = v) ∧ (m 387 (114 + m 387 (450 + l)) = 2 ∨ m 387 (114 + m 387 (450 + l)) = 5) then gOw (m 387) l else 0) j → WP d 193 4 [(0, zr 386), (1, zi v), (2, zi q), (3, zi j)] [] 403 [] x m 403 [] Q := by
    refine zdown _ _ ?_
    intro j h0 h1 ih q hq
    have hs := zT_s (f := fun l => if (m 387 (570 + l) = 0 ∧ m 387 (90 + m 387 (450 + l)) = v) ∧ (m 387 (114 + m 387 (450 + l)) = 2 ∨ m 387 (114 + m 387 (450 + l)) = 5) then gOw (m 387) l else 0) h0
    have bd := zT_bd (f := fun l => if (m 387 (570 + l) = 0 ∧ m 387 (90 + m 387 (450 + l)) = v) ∧ (m 387 (114 + m 387 (450 + l)) = 2 ∨ m 387 (114 + m 387 (450 + l)) = 5) then gOw (m 387) l else 0) (lo := 0) (hi := 219997) h0 (fun i a b => by have := gOw_bd hA hN a (show i < m 387 3 by omega); (try dsimp only); split <;> omega)
    have bj : j < m 387 3 → 0 ≤ gOw (m 387) j ∧ gOw (m 387) j ≤ 219997 := gOw_bd hA hN h0
    have nj := hN.1 j h0
    unfold INl at nj
    try dsimp only at hs
    apply r193_c4
    repeat' (first | (with_reducible assumption) | (with_reducible rfl) | (with_reducible apply And.intro) | (with_reducible apply zIn_mk) | (with_reducible apply zLn_mk) | ((with_reducible intro _); try (exfalso; omega)) | omega | (with_reducible exact Or.inr trivial) | (with_reducible exact Or.inl trivial) | (with_reducible apply s191) | (with_reducible apply s190) | (with_reducible apply s188) | ((refine ih (by omega) _ ?_; rw [hs]; (first | rw [if_pos (by omega)] | rw [if_neg (by omega)]); omega)) | fail)
    · rw [hq, show j = m 387 3 by omega]; exact h
  exact key 0 (by omega) (by omega) 0 (by rw [zT_0 (by omega)])
theorem s194 {d : Nat} {a i n : Int} {p : Int → Int} {x m : zM} {Q : Int → zM → zM → Prop} (hp : m 387 = p) (hd : 1 ≤ d) (hB : IB p) (hA : IA p) (a0 : 0 ≤ a) (a1 : a < p 2) (i0 : 0 ≤ i) (i1 : i ≤ 119998) (h : Q (gDue p a i n) x m) : WPc d 194 [zr 386, zi a, zi i, zi n] 403 [] x m 403 [] Q := by
  subst hp
  have hb := hB; unfold IB at hb
  have ha := hA.1 a a0 a1
  have ha' := ha
  unfold IAa at ha'
  have e := gEc_part (i := i) (n := m 387 (162 + a) - 1) ha i0 (by omega) (by omega)
  unfold gDue at h
  unfold gEc at h e
  apply r194
  repeat' (first | (with_reducible assumption) | (with_reducible rfl) | (with_reducible apply And.intro) | (with_reducible apply zIn_mk) | (with_reducible apply zLn_mk) | ((with_reducible intro _); try (exfalso; omega)) | omega | (with_reducible exact Or.inr trivial) | (with_reducible exact Or.inl trivial) | (with_reducible apply s171) | ((rw [if_neg (by omega)] at h; exact h)) | ((rw [if_pos (by omega), if_neg (by omega), if_pos (by omega)] at h; exact h)) | ((rw [if_pos (by omega), if_neg (by omega), if_neg (by omega), if_pos (by omega)] at h; exact h)) | ((rw [if_pos (by omega), if_neg (by omega), if_neg (by omega), if_neg (by omega)] at h; exact h)) | ((rw [if_pos (by omega), if_pos (by omega), if_pos (by omega)] at h; exact h)) | ((rw [if_pos (by omega), if_pos (by omega), if_neg (by omega), if_pos (by omega)] at h; exact h)) | ((rw [if_pos (by omega), if_pos (by omega), if_neg (by omega), if_neg (by omega)] at h; exact h)) | ((rw [if_neg (show ¬ m 387 (114 + a) = 4 by omega), if_neg (show ¬ m 387 (114 + a) = 5 by omega)] at e; omega)) | ((rw [if_neg (show ¬ m 387 (114 + a) = 4 by omega), if_pos (show m 387 (114 + a) = 5 by omega)] at e; omega)) | ((rw [if_pos (show m 387 (114 + a) = 4 by omega)] at e; omega)) | fail)
theorem s195 {d : Nat} {l w : Int} {p : Int → Int} {x m : zM} {Q : Int → zM → zM → Prop} (hp : m 387 = p) (hd : 2 ≤ d) (hB : IB p) (hA : IA p) (hN : IN p) (l0 : 0 ≤ l) (l1 : l < p 3) (w0 : -1000 ≤ w) (w1 : w ≤ 1000) (h : Q (gDt p l w - gDt p l (w - 1)) x m) : WPc d 195 [zr 386, zi l, zi w] 403 [] x m 403 [] Q := by
  subst hp
  have hb := hB; unfold IB at hb
  have a := hN.1 l l0 l1
  unfold INl at a
  have e := gDn_s (p := m 387) (i := m 387 (498 + l)) (n := w - m 387 (474 + l)) (hA.1 (m 387 (450 + l)) (by omega) (by omega))
  rw [show w - m 387 (474 + l) - 1 = w - 1 - m 387 (474 + l) by omega] at e
  unfold gDt at h
  apply r195
  repeat' (first | (with_reducible assumption) | (with_reducible rfl) | (with_reducible apply And.intro) | (with_reducible apply zIn_mk) | (with_reducible apply zLn_mk) | ((with_reducible intro _); try (exfalso; omega)) | omega | (with_reducible exact Or.inr trivial) | (with_reducible exact Or.inl trivial) | (with_reducible apply s194) | ((rw [show gDue (m 387) (m 387 (450 + l)) (m 387 (498 + l)) (w - m 387 (474 + l)) = gDn (m 387) (m 387 (450 + l)) (m 387 (498 + l)) (w - m 387 (474 + l)) - gDn (m 387) (m 387 (450 + l)) (m 387 (498 + l)) (w - 1 - m 387 (474 + l)) by omega]; exact h)) | fail)
theorem gDt_bd {p : Int → Int} {l w : Int} (hA : IA p) (hN : IN p) (h0 : 0 ≤ l) (h1 : l < p 3) : 0 ≤ gDt p l w ∧ gDt p l w ≤ 219997 := by
  have a := hN.1 l h0 h1
  unfold INl at a
  have b := hA.1 (p (450 + l)) (by omega) (by omega)
  have c := gDn_bd (n := w - p (474 + l)) b (show 0 ≤ p (498 + l) by omega)
  unfold IAa at b
  unfold gDt
  omega
theorem gDt_0 {p : Int → Int} {l w : Int} (h : w ≤ p (474 + l)) : gDt p l w = 0 := by
  unfold gDt gDn; rw [if_pos (by omega)]
theorem s196 {d : Nat} {l w : Int} {p : Int → Int} {x m : zM} {Q : Int → zM → zM → Prop} (hp : m 387 = p) (hd : 3 ≤ d) (hB : IB p) (hA : IA p) (hN : IN p) (l0 : 0 ≤ l) (l1 : l < p 3) (w0 : -1000 ≤ w) (w1 : w ≤ 1000) (h : Q (gDt p l w) x m) : WPc d 196 [zr 386, zi l, zi w] 403 [] x m 403 [] Q := by
  subst hp
  have hb := hB; unfold IB at hb
  have a := hN.1 l l0 l1
  unfold INl at a
  have key : ∀ j, 0 ≤ j → j ≤ (if w - m 387 (474 + l) < 0 then 0 else w - m 387 (474 + l)) → ∀ q, q = gDt (m 387) l (m 387 (474 + l) + j) → WP d 196 16 [(0, zr 386), (1, zi l), (2, zi w), (3, zi q), (4, zi (m 387 (474 + l) + 1 + j))] [] 403 [] x m 403 [] Q := by
    refine zdown _ _ ?_
    intro j h0 h1 ih q hq
    have b1 := gDt_bd (w := m 387 (474 + l) + j) hA hN l0 l1
    have b2 := gDt_bd (w := m 387 (474 + l) + 1 + j) hA hN l0 l1
    have e0 : m 387 (474 + l) + 1 + j - 1 = m 387 (474 + l) + j := by omega
    have g0 : w ≤ m 387 (474 + l) → gDt (m 387) l w = 0 := gDt_0
    have g1 : j = 0 → gDt (m 387) l (m 387 (474 + l) + j) = 0 := fun e => gDt_0 (by omega)
    apply r196_c16
    repeat' (first | (with_reducible assumption) | (with_reducible rfl) | (with_reducible apply And.intro) | (with_reducible apply zIn_mk) | (with_reducible apply zLn_mk) | ((with_reducible intro _); try (exfalso; omega)) | omega | (with_reducible exact Or.inr trivial) | (with_reducible exact Or.inl trivial) | (with_reducible apply s195) | fail)
    · rename_i hlt
      rw [show q = gDt (m 387) l w from ?_]; exact h
      by_cases c : w - m 387 (474 + l) < 0
      · rw [if_pos c] at h1; omega
      · rw [if_neg c] at h1; rw [hq, show m 387 (474 + l) + j = w by omega]
    · rw [e0]; omega
    · rw [e0]; omega
    · rw [show m 387 (474 + l) + 1 + j + 1 = m 387 (474 + l) + 1 + (j + 1) by omega]
      refine ih (by rw [if_neg (by omega)]; omega) _ ?_
      rw [e0, hq, show m 387 (474 + l) + (j + 1) = m 387 (474 + l) + 1 + j by omega]; omega
  apply r196
  repeat' (first | (with_reducible assumption) | (with_reducible rfl) | (with_reducible apply And.intro) | (with_reducible apply zIn_mk) | (with_reducible apply zLn_mk) | ((with_reducible intro _); try (exfalso; omega)) | omega | (with_reducible exact Or.inr trivial) | (with_reducible exact Or.inl trivial) | ((rw [← Int.add_zero (m 387 (474 + l) + 1)]; exact key 0 (by omega) (by split <;> omega) 0 (gDt_0 (by omega)).symm)) | fail)
theorem s197 {d : Nat} {l w : Int} {p : Int → Int} {x m : zM} {Q : Int → zM → zM → Prop} (hp : m 387 = p) (hd : 4 ≤ d) (hB : IB p) (hA : IA p) (hN : IN p) (l0 : 0 ≤ l) (l1 : l < p 3) (w0 : -1000 ≤ w) (w1 : w ≤ 1000) (h1 : p (570 + l) = 0 → p (522 + l) < gDt p l w → Q 1 x m) (h0 : (p (570 + l) = 0 → gDt p l w ≤ p (522 + l)) → Q 0 x m) : WPc d 197 [zr 386, zi l, zi w] 403 [] x m 403 [] Q := by
  subst hp
  have hb := hB; unfold IB at hb
  apply r197
  repeat' (first | (with_reducible assumption) | (with_reducible rfl) | (with_reducible apply And.intro) | (with_reducible apply zIn_mk) | (with_reducible apply zLn_mk) | ((with_reducible intro _); try (exfalso; omega)) | omega | (with_reducible exact Or.inr trivial) | (with_reducible exact Or.inl trivial) | (with_reducible apply s196) | ((with_reducible apply h1) <;> omega) | ((with_reducible apply h0) <;> omega) | fail)
theorem s198 {d : Nat} {v : Int} {p : Int → Int} {x m : zM} {Q : Int → zM → zM → Prop} (hp : m 387 = p) (hd : 5 ≤ d) (hB : IB p) (hA : IA p) (hN : IN p) (h : Q (gLo p v) x m) : WPc d 198 [zr 386, zi v] 403 [] x m 403 [] Q := by
  subst hp
  have hb := hB; unfold IB at hb
  apply r198
  intro _
  have key : ∀ j, 0 ≤ j → j ≤ m 387 3 → ∀ q, q = zT (fun l => if (m 387 (570 + l) = 0 ∧ m 387 (90 + m 387 (450 + l)) = v) ∧ m 387 (570 + l) = 0 ∧ m 387 (522 + l) < gDt (m 387) l (m 387 0 - 1) then 1 else 0) j → WP d 198 4 [(0, zr 386), (1, zi v), (2, zi q), (3, zi j)] [] 403 [] x m 403 [] Q := by
    refine zdown _ _ ?_
    intro j h0 h1 ih q hq
    have hs := zT_s (f := fun l => if (m 387 (570 + l) = 0 ∧ m 387 (90 + m 387 (450 + l)) = v) ∧ m 387 (570 + l) = 0 ∧ m 387 (522 + l) < gDt (m 387) l (m 387 0 - 1) then 1 else 0) h0
    have bd := zT_bd (f := fun l => if (m 387 (570 + l) = 0 ∧ m 387 (90 + m 387 (450 + l)) = v) ∧ m 387 (570 + l) = 0 ∧ m 387 (522 + l) < gDt (m 387) l (m 387 0 - 1) then 1 else 0) (lo := 0) (hi := 1) h0 (fun i a b => by (try dsimp only); split <;> omega)
    try dsimp only at hs
    apply r198_c4
    repeat' (first | (with_reducible assumption) | (with_reducible rfl) | (with_reducible apply And.intro) | (with_reducible apply zIn_mk) | (with_reducible apply zLn_mk) | ((with_reducible intro _); try (exfalso; omega)) | omega | (with_reducible exact Or.inr trivial) | (with_reducible exact Or.inl trivial) | (with_reducible apply s191) | (with_reducible apply s197) | ((refine ih (by omega) _ ?_; rw [hs]; (first | rw [if_pos (by omega)] | rw [if_neg (by omega)]); omega)) | fail)
    · rw [hq, show j = m 387 3 by omega]; exact h
  exact key 0 (by omega) (by omega) 0 (by rw [zT_0 (by omega)])
