/-! PLANS: which sets last, which are better -/
def gSf (p : Int → Int) (S : Nat) (a : Int) : Int := if gBt S a = true then p (138 + a) else 0
def gSm (p : Int → Int) (S : Nat) : Int := zT (gSf p S) (p 2)
def gFw (p : Int → Int) (S : Nat) (k a : Int) : Int := if gBt S a = true then gBr p a k else 0
def gLw (p : Int → Int) (S : Nat) (k : Int) : Int := zT (gFw p S k) (p 2)
def gLvl (p : Int → Int) (S : Nat) (c r k : Int) : Int := c + zT (fun i => gCom p i + gLw p S i - p (5110 + 8 * r + i)) k
def gLb (p : Int → Int) (S : Nat) (c r : Int) : Int := zT (fun k => if gLvl p S c r (k + 1) < 0 then 1 else 0) 8
def gCash (p : Int → Int) (S : Nat) : Int := p 6161 - gSm p S
def gLn (p : Int → Int) (S : Nat) : Int := zT (fun r => if p (5142 + r) ≠ 0 ∧ 0 < gLb p S (gCash p S) r then 1 else 0) 4
theorem gSf_bd {p : Int → Int} {S : Nat} (hA : IA p) {a : Int} (a0 : 0 ≤ a) (a1 : a < p 2) : 0 ≤ gSf p S a ∧ gSf p S a ≤ 99999 := by
  have := hA.1 a a0 a1
  unfold IAa at this
  unfold gSf; split <;> omega
theorem gSm_bd {p : Int → Int} {S : Nat} (hB : IB p) (hA : IA p) : 0 ≤ gSm p S ∧ gSm p S ≤ 2399976 := by
  unfold IB at hB
  have := zT_bd (f := gSf p S) (lo := 0) (hi := 99999) (n := p 2) (by omega) (fun a a0 a1 => gSf_bd hA a0 a1)
  unfold gSm; omega
theorem gFw_bd {p : Int → Int} {S : Nat} {k : Int} (hA : IA p) {a : Int} (a0 : 0 ≤ a) (a1 : a < p 2) : 0 ≤ gFw p S k a ∧ gFw p S k a ≤ 219997 := by
  have := gBr_bd (k := k) (hA.1 a a0 a1)
  unfold gFw; split <;> omega
theorem gLw_bd {p : Int → Int} {S : Nat} {k : Int} (hB : IB p) (hA : IA p) : 0 ≤ gLw p S k ∧ gLw p S k ≤ 5279928 := by
  unfold IB at hB
  have := zT_bd (f := gFw p S k) (lo := 0) (hi := 219997) (n := p 2) (by omega) (fun a a0 a1 => gFw_bd hA a0 a1)
  unfold gLw; omega
theorem gLvl_s {p : Int → Int} {S : Nat} {c r k : Int} (k0 : 0 ≤ k) : gLvl p S c r (k + 1) = gLvl p S c r k + (gCom p k - p (5110 + 8 * r + k)) + gLw p S k := by
  unfold gLvl
  rw [zT_s k0]; omega
theorem gLvl_up {p : Int → Int} {S : Nat} {c r k : Int} (hB : IB p) (hA : IA p) (hN : IN p) (hP : IP p) (r0 : 0 ≤ r) (r1 : r < 4) (k0 : 0 ≤ k) (k1 : k ≤ 8) : gLvl p S c r k ≤ c + 10559856 * k := by
  have := zT_bd (f := fun i => gCom p i + gLw p S i - p (5110 + 8 * r + i)) (lo := -99999) (hi := 10559856) k0 (fun i i0 i1 => by
    have a := gIn_bd (w := p 0 + i) hB hA hN
    have b := gLw_bd (S := S) (k := i) hB hA
    have d := hP.2 r i r0 r1 i0 (by omega)
    (try dsimp only)
    unfold gCom
    omega)
  unfold gLvl; omega
theorem gLb_p {p : Int → Int} {S : Nat} {c r k : Int} (k0 : 0 ≤ k) (k1 : k < 8) (h : gLvl p S c r (k + 1) < 0) : 0 < gLb p S c r := zT_pos (fun j _ _ => by (try dsimp only); split <;> omega) k0 k1 (by (try dsimp only); rw [if_pos h]; omega)
theorem gLb_z {p : Int → Int} {S : Nat} {c r : Int} (h : ∀ k, 0 ≤ k → k < 8 → 0 ≤ gLvl p S c r (k + 1)) : gLb p S c r = 0 := zT_zero (fun j j0 j1 => by (try dsimp only); rw [if_neg (by have := h j j0 j1; omega)])
theorem c67 {d : Nat} {S : Nat} {p : Int → Int} {x m : zM} {Q : Int → zM → zM → Prop} (hX : RAx x p) (hB : IB p) (hA : IA p) (hS : S < 2 ^ 24) (hz : ∀ j, p 2 ≤ j → gBt S j = false) (h : Q (gSm p S) x m) : WPc d 67 [zr 336, zi S] 403 [] x m 403 [] Q := by
  have hb := hB; unfold IB at hb
  have f0 : ∀ j, p 2 ≤ j → gSf p S j = 0 := fun j j0 => by unfold gSf; rw [hz j j0]; rfl
  have ee : zT (gSf p S) 24 = gSm p S := zT_ext (by omega) (by omega) (fun j j0 _ => f0 j j0)
  have loop : ∀ j, 0 ≤ j → j ≤ 24 → WP d 67 4 [(0, zr 336), (1, zi S), (2, zi (zT (gSf p S) j)), (3, zi j)] [] 403 [] x m 403 [] Q := by
    refine zdown _ _ ?_
    intro j j0 j1 ih
    have bd := zT_bd (f := gSf p S) (lo := 0) (hi := 99999) j0 (fun a a0 a1 => by
      by_cases c : a < p 2
      · exact gSf_bd hA a0 c
      · rw [f0 a (by omega)]; omega)
    have bt := zbit (a := S) (j := j) (by omega) j0 (by omega)
    have hend : j = 24 → Q (zT (gSf p S) j) x m := fun e => by rw [e, ee]; exact h
    rw [zT_s j0] at ih
    apply r67_c4
    simp only [bt]
    by_cases c : j = 24
    · have h2 := hend c
      clear ih hend h bt
      repeat' (first | (with_reducible assumption) | (with_reducible rfl) | (with_reducible apply And.intro) | (with_reducible apply zIn_mk) | (with_reducible apply zLn_mk) | ((with_reducible intro _); try (exfalso; omega)) | omega | (with_reducible exact Or.inr trivial) | (with_reducible exact Or.inl trivial) | ((exact h2)) | fail)
    · have ih' := ih (by omega)
      by_cases cb : gBt S j = true
      · rw [if_pos cb]
        have jp : j < p 2 := by
          by_cases e : j < p 2
          · exact e
          · rw [hz j (by omega)] at cb; cases cb
        have e17 : x 17 j = p (138 + j) := (hX.2.1 j j0 jp).2.2.1
        have sb := gSf_bd (S := S) hA j0 jp
        have sf : gSf p S j = p (138 + j) := if_pos cb
        rw [sf] at ih' sb
        simp only [e17]
        clear ih hend h bt
        repeat' (first | (with_reducible assumption) | (with_reducible rfl) | (with_reducible apply And.intro) | (with_reducible apply zIn_mk) | (with_reducible apply zLn_mk) | ((with_reducible intro _); try (exfalso; omega)) | omega | (with_reducible exact Or.inr trivial) | (with_reducible exact Or.inl trivial) | ((exact absurd rfl (by assumption))) | ((exact ih')) | fail)
      · rw [if_neg cb]
        rw [show gSf p S j = 0 from if_neg cb, Int.add_zero] at ih'
        clear ih hend h bt
        repeat' (first | (with_reducible assumption) | (with_reducible rfl) | (with_reducible apply And.intro) | (with_reducible apply zIn_mk) | (with_reducible apply zLn_mk) | ((with_reducible intro _); try (exfalso; omega)) | omega | (with_reducible exact Or.inr trivial) | (with_reducible exact Or.inl trivial) | ((exact ih')) | ((exact absurd rfl (by assumption))) | fail)
  apply r67
  intro _
  have l0 := loop 0 (by omega) (by omega)
  rw [zT_0 (by omega)] at l0
  exact l0
theorem s261 {d : Nat} {S : Nat} {p : Int → Int} {x m : zM} {Q : Int → zM → zM → Prop} (hp : m 387 = p) (hB : IB p) (hA : IA p) (hS : S < 2 ^ 24) (h : Q (gSm p S) x m) : WPc d 261 [zr 386, zi S] 403 [] x m 403 [] Q := by
  have hb := hB; unfold IB at hb
  have loop : ∀ j, 0 ≤ j → j ≤ p 2 → WP d 261 5 [(0, zr 386), (1, zi S), (2, zl (zT (gSf p S) j)), (4, zi j)] [] 403 [] x m 403 [] Q := by
    refine zdown _ _ ?_
    intro j j0 j1 ih
    have bd := zT_bd (f := gSf p S) (lo := 0) (hi := 99999) j0 (fun a a0 a1 => gSf_bd hA a0 (by omega))
    have bt := zbit (a := S) (j := j) (by omega) j0 (by omega)
    have hend : j = p 2 → Q (zT (gSf p S) j) x m := fun e => by rw [e]; exact h
    rw [zT_s j0] at ih
    apply r261_c5
    simp only [bt, hp]
    by_cases c : j < p 2
    · have ih' := ih c
      by_cases cb : gBt S j = true
      · rw [if_pos cb]
        have sb := gSf_bd (S := S) hA j0 c
        have sf : gSf p S j = p (138 + j) := if_pos cb
        rw [sf] at ih' sb
        clear ih hend h bt
        repeat' (first | (with_reducible assumption) | (with_reducible rfl) | (with_reducible apply And.intro) | (with_reducible apply zIn_mk) | (with_reducible apply zLn_mk) | ((with_reducible intro _); try (exfalso; omega)) | omega | (with_reducible exact Or.inr trivial) | (with_reducible exact Or.inl trivial) | ((exact absurd rfl (by assumption))) | ((exact ih')) | fail)
      · rw [if_neg cb]
        rw [show gSf p S j = 0 from if_neg cb] at ih'
        have nb : (0 : Int) ≠ 1 := by decide
        clear ih hend h bt
        repeat' (first | (with_reducible assumption) | (with_reducible rfl) | (with_reducible apply And.intro) | (with_reducible apply zIn_mk) | (with_reducible apply zLn_mk) | ((with_reducible intro _); try (exfalso; omega)) | omega | (with_reducible exact Or.inr trivial) | (with_reducible exact Or.inl trivial) | ((exact ih')) | ((exact absurd (by assumption) nb)) | fail)
    · have h2 := hend (by omega)
      clear ih hend h bt
      repeat' (first | (with_reducible assumption) | (with_reducible rfl) | (with_reducible apply And.intro) | (with_reducible apply zIn_mk) | (with_reducible apply zLn_mk) | ((with_reducible intro _); try (exfalso; omega)) | omega | (with_reducible exact Or.inr trivial) | (with_reducible exact Or.inl trivial) | ((exact h2)) | fail)
  apply r261
  intro _
  have l0 := loop 0 (by omega) (by omega)
  rw [zT_0 (by omega)] at l0
  exact l0
theorem c71 {d : Nat} {S : Nat} {c r : Int} {p : Int → Int} {x m : zM} {Q : Int → zM → zM → Prop} (hP : RPx x p) (hB : IB p) (hA : IA p) (hN : IN p) (hIP : IP p) (hS : S < 2 ^ 24) (hz : ∀ j, p 2 ≤ j → gBt S j = false) (c0 : 0 ≤ c) (c1 : c ≤ 131998200) (r0 : 0 ≤ r) (r1 : r < 4) (e337 : ∀ k, 0 ≤ k → k < 8 → x 337 k = gCom p k) (e338 : ∀ a, 0 ≤ a → a < p 2 → gBt S a = true → ∀ k, 0 ≤ k → k < 8 → x 338 (a * 8 + k) = gBr p a k) (h1 : gLb p S c r ≤ 0 → Q 1 x m) (h0 : 0 < gLb p S c r → Q 0 x m) : WPc d 71 [zr 336, zi S, zi c, zw 158 r] 403 [] x m 403 [] Q := by
  have hb := hB; unfold IB at hb
  have f0 : ∀ k j, p 2 ≤ j → gFw p S k j = 0 := fun k j j0 => by unfold gFw; rw [hz j j0]; rfl
  have ee : ∀ k, zT (gFw p S k) 24 = gLw p S k := fun k => zT_ext (by omega) (by omega) (fun j j0 _ => f0 k j j0)
  have loop : ∀ k, 0 ≤ k → k ≤ 8 → (∀ i, 0 ≤ i → i < k → 0 ≤ gLvl p S c r (i + 1)) → WP d 71 6 [(0, zr 336), (1, zi S), (3, zw 158 r), (4, zi (gLvl p S c r k)), (5, zi k)] [] 403 [] x m 403 [] Q := by
    refine zdown _ _ ?_
    intro k k0 k1 ih hk
    have up := gLvl_up (S := S) (c := c) hB hA hN hIP r0 r1 k0 k1
    have lo : 0 ≤ gLvl p S c r k := by
      by_cases e : k = 0
      · rw [e]; show 0 ≤ c + 0; omega
      · have := hk (k - 1) (by omega) (by omega)
        rwa [show k - 1 + 1 = k by omega] at this
    apply r71_c6
    by_cases ck : k = 8
    · have h2 := h1 (by rw [gLb_z (fun i i0 i1 => hk i i0 (by omega))]; omega)
      clear ih h1 h0 hk
      repeat' (first | (with_reducible assumption) | (with_reducible rfl) | (with_reducible apply And.intro) | (with_reducible apply zIn_mk) | (with_reducible apply zLn_mk) | ((with_reducible intro _); try (exfalso; omega)) | omega | (with_reducible exact Or.inr trivial) | (with_reducible exact Or.inl trivial) | ((exact h2)) | fail)
    · have eC := e337 k k0 (by omega)
      have eD : x 158 (r * 8 + k) = p (5110 + 8 * r + k) := hP.2 r k r0 r1 k0 (by omega)
      have dB := hIP.2 r k r0 r1 k0 (by omega)
      have cB := gIn_bd (w := p 0 + k) hB hA hN
      have cE : gCom p k = gIn p (p 0 + k) := rfl
      have st := gLvl_s (p := p) (S := S) (c := c) (r := r) k0
      simp only [eC, eD]
      have inner : ∀ a, 0 ≤ a → a ≤ 24 → WP d 71 33 [(0, zr 336), (1, zi S), (3, zw 158 r), (4, zi (gLvl p S c r k + (gCom p k - p (5110 + 8 * r + k)) + zT (gFw p S k) a)), (5, zi k), (6, zi a)] [] 403 [] x m 403 [] Q := by
        refine zdown _ _ ?_
        intro a a0 a1 iha
        have bd := zT_bd (f := gFw p S k) (lo := 0) (hi := 219997) a0 (fun a a0 a1 => by
          by_cases c : a < p 2
          · exact gFw_bd hA a0 c
          · rw [f0 k a (by omega)]; omega)
        have bt := zbit (a := S) (j := a) (by omega) a0 (by omega)
        rw [zT_s a0, ← Int.add_assoc] at iha
        apply r71_c33
        simp only [bt]
        by_cases ca : a = 24
        · subst ca
          rw [ee k, ← st]
          have g1 := fun (hh : 0 ≤ gLvl p S c r (k + 1)) => ih (by omega) (fun i i0 i1 => by
            by_cases e : i = k
            · rw [e]; exact hh
            · exact hk i i0 (by omega))
          have g0 := fun (hh : gLvl p S c r (k + 1) < 0) => h0 (gLb_p k0 (by omega) hh)
          clear ih iha h1 h0 hk bt st
          repeat' (first | (with_reducible assumption) | (with_reducible rfl) | (with_reducible apply And.intro) | (with_reducible apply zIn_mk) | (with_reducible apply zLn_mk) | ((with_reducible intro _); try (exfalso; omega)) | omega | (with_reducible exact Or.inr trivial) | (with_reducible exact Or.inl trivial) | ((exact g1 (by omega))) | ((exact g0 (by omega))) | fail)
        · have iha' := iha (by omega)
          clear ih h1 h0 hk st
          by_cases cb : gBt S a = true
          · rw [if_pos cb]
            have jp : a < p 2 := by
              by_cases e : a < p 2
              · exact e
              · rw [hz a (by omega)] at cb; cases cb
            have e8 := e338 a a0 jp cb k k0 (by omega)
            have sb := gFw_bd (S := S) (k := k) hA a0 jp
            have sf : gFw p S k a = gBr p a k := if_pos cb
            rw [sf] at iha' sb
            simp only [e8]
            clear iha bt
            repeat' (first | (with_reducible assumption) | (with_reducible rfl) | (with_reducible apply And.intro) | (with_reducible apply zIn_mk) | (with_reducible apply zLn_mk) | ((with_reducible intro _); try (exfalso; omega)) | omega | (with_reducible exact Or.inr trivial) | (with_reducible exact Or.inl trivial) | ((exact absurd rfl (by assumption))) | ((exact iha')) | fail)
          · rw [if_neg cb]
            rw [show gFw p S k a = 0 from if_neg cb, Int.add_zero] at iha'
            clear iha bt
            repeat' (first | (with_reducible assumption) | (with_reducible rfl) | (with_reducible apply And.intro) | (with_reducible apply zIn_mk) | (with_reducible apply zLn_mk) | ((with_reducible intro _); try (exfalso; omega)) | omega | (with_reducible exact Or.inr trivial) | (with_reducible exact Or.inl trivial) | ((exact iha')) | ((exact absurd rfl (by assumption))) | fail)
      have i0 := inner 0 (by omega) (by omega)
      rw [zT_0 (by omega), Int.add_zero] at i0
      clear inner ih h1 h0 hk st
      repeat' (first | (with_reducible assumption) | (with_reducible rfl) | (with_reducible apply And.intro) | (with_reducible apply zIn_mk) | (with_reducible apply zLn_mk) | ((with_reducible intro _); try (exfalso; omega)) | omega | (with_reducible exact Or.inr trivial) | (with_reducible exact Or.inl trivial) | ((exact i0)) | fail)
  apply r71
  intro _ _
  have l0 := loop 0 (by omega) (by omega) (fun i i0 i1 => by omega)
  rw [show gLvl p S c r 0 = c from (by unfold gLvl; rw [zT_0 (by omega)]; omega)] at l0
  exact l0
theorem s258 {d : Nat} {S : Nat} {c r : Int} {p : Int → Int} {x m : zM} {Q : Int → zM → zM → Prop} (hp : m 387 = p) (hB : IB p) (hA : IA p) (hN : IN p) (hIP : IP p) (hS : S < 2 ^ 24) (c0 : 0 ≤ c) (c1 : c ≤ 131998200) (r0 : 0 ≤ r) (r1 : r < 4) (e401 : ∀ k, 0 ≤ k → k < 8 → m 401 k = gCom p k) (e402 : ∀ a, 0 ≤ a → a < p 2 → gBt S a = true → ∀ k, 0 ≤ k → k < 8 → m 402 (8 * a + k) = gBr p a k) (h1 : gLb p S c r ≤ 0 → Q 1 x m) (h0 : 0 < gLb p S c r → Q 0 x m) : WPc d 258 [zr 386, zi S, zl c, zi r] 403 [] x m 403 [] Q := by
  have hb := hB; unfold IB at hb
  have loop : ∀ k, 0 ≤ k → k ≤ 8 → (∀ i, 0 ≤ i → i < k → 0 ≤ gLvl p S c r (i + 1)) → WP d 258 6 [(0, zr 386), (1, zi S), (4, zi r), (5, zl (gLvl p S c r k)), (7, zi k)] [] 403 [] x m 403 [] Q := by
    refine zdown _ _ ?_
    intro k k0 k1 ih hk
    have up := gLvl_up (S := S) (c := c) hB hA hN hIP r0 r1 k0 k1
    have lo : 0 ≤ gLvl p S c r k := by
      by_cases e : k = 0
      · rw [e]; show 0 ≤ c + 0; omega
      · have := hk (k - 1) (by omega) (by omega)
        rwa [show k - 1 + 1 = k by omega] at this
    apply r258_c6
    by_cases ck : k = 8
    · have h2 := h1 (by rw [gLb_z (fun i i0 i1 => hk i i0 (by omega))]; omega)
      clear ih h1 h0 hk
      repeat' (first | (with_reducible assumption) | (with_reducible rfl) | (with_reducible apply And.intro) | (with_reducible apply zIn_mk) | (with_reducible apply zLn_mk) | ((with_reducible intro _); try (exfalso; omega)) | omega | (with_reducible exact Or.inr trivial) | (with_reducible exact Or.inl trivial) | ((exact h2)) | fail)
    · have eC := e401 k k0 (by omega)
      have dB := hIP.2 r k r0 r1 k0 (by omega)
      have cB := gIn_bd (w := p 0 + k) hB hA hN
      have cE : gCom p k = gIn p (p 0 + k) := rfl
      have st := gLvl_s (p := p) (S := S) (c := c) (r := r) k0
      simp only [eC]
      have inner : ∀ a, 0 ≤ a → a ≤ p 2 → WP d 258 28 [(0, zr 386), (1, zi S), (4, zi r), (5, zl (gLvl p S c r k + gCom p k + zT (gFw p S k) a)), (7, zi k), (8, zi a)] [] 403 [] x m 403 [] Q := by
        refine zdown _ _ ?_
        intro a a0 a1 iha
        have bd := zT_bd (f := gFw p S k) (lo := 0) (hi := 219997) a0 (fun a a0 a1 => gFw_bd hA a0 (by omega))
        have bt := zbit (a := S) (j := a) (by omega) a0 (by omega)
        rw [zT_s a0, ← Int.add_assoc] at iha
        apply r258_c28
        simp only [bt, hp]
        by_cases ca : a = p 2
        · subst ca
          have lw : zT (gFw p S k) (p 2) = gLw p S k := rfl
          have e2 : gLvl p S c r k + gCom p k + zT (gFw p S k) (p 2) - p (5110 + 8 * r + k) = gLvl p S c r (k + 1) := by rw [st, lw]; omega
          simp only [e2]
          have g1 := fun (hh : 0 ≤ gLvl p S c r (k + 1)) => ih (by omega) (fun i i0 i1 => by
            by_cases e : i = k
            · rw [e]; exact hh
            · exact hk i i0 (by omega))
          have g0 := fun (hh : gLvl p S c r (k + 1) < 0) => h0 (gLb_p k0 (by omega) hh)
          clear ih iha h1 h0 hk bt st
          repeat' (first | (with_reducible assumption) | (with_reducible rfl) | (with_reducible apply And.intro) | (with_reducible apply zIn_mk) | (with_reducible apply zLn_mk) | ((with_reducible intro _); try (exfalso; omega)) | omega | (with_reducible exact Or.inr trivial) | (with_reducible exact Or.inl trivial) | ((exfalso; omega)) | ((exact g1 (by omega))) | ((exact g0 (by omega))) | fail)
        · have iha' := iha (by omega)
          clear ih h1 h0 hk st
          by_cases cb : gBt S a = true
          · rw [if_pos cb]
            have e8 := e402 a a0 (by omega) cb k k0 (by omega)
            have sb := gFw_bd (S := S) (k := k) hA a0 (show a < p 2 by omega)
            have sf : gFw p S k a = gBr p a k := if_pos cb
            rw [sf] at iha' sb
            simp only [e8]
            clear iha bt
            repeat' (first | (with_reducible assumption) | (with_reducible rfl) | (with_reducible apply And.intro) | (with_reducible apply zIn_mk) | (with_reducible apply zLn_mk) | ((with_reducible intro _); try (exfalso; omega)) | omega | (with_reducible exact Or.inr trivial) | (with_reducible exact Or.inl trivial) | ((exact absurd rfl (by assumption))) | ((exact iha')) | fail)
          · rw [if_neg cb]
            rw [show gFw p S k a = 0 from if_neg cb] at iha'
            have nb : (0 : Int) ≠ 1 := by decide
            clear iha bt
            repeat' (first | (with_reducible assumption) | (with_reducible rfl) | (with_reducible apply And.intro) | (with_reducible apply zIn_mk) | (with_reducible apply zLn_mk) | ((with_reducible intro _); try (exfalso; omega)) | omega | (with_reducible exact Or.inr trivial) | (with_reducible exact Or.inl trivial) | ((exact iha')) | ((exact absurd (by assumption) nb)) | fail)
      have i0 := inner 0 (by omega) (by omega)
      rw [zT_0 (by omega), Int.add_zero] at i0
      clear inner ih h1 h0 hk st
      repeat' (first | (with_reducible assumption) | (with_reducible rfl) | (with_reducible apply And.intro) | (with_reducible apply zIn_mk) | (with_reducible apply zLn_mk) | ((with_reducible intro _); try (exfalso; omega)) | omega | (with_reducible exact Or.inr trivial) | (with_reducible exact Or.inl trivial) | ((exact i0)) | fail)
  apply r258
  intro _ _ _
  have l0 := loop 0 (by omega) (by omega) (fun i i0 i1 => by omega)
  rw [show gLvl p S c r 0 = c from (by unfold gLvl; rw [zT_0 (by omega)]; omega)] at l0
  exact l0
/-- without a run nothing is drawn -/
theorem s258n {d : Nat} {S : Nat} {c : Int} {p : Int → Int} {x m : zM} {Q : Int → zM → zM → Prop} (hp : m 387 = p) (hB : IB p) (hA : IA p) (hN : IN p) (hS : S < 2 ^ 24) (c0 : 0 ≤ c) (c1 : c ≤ 131998200) (e401 : ∀ k, 0 ≤ k → k < 8 → m 401 k = gCom p k) (e402 : ∀ a, 0 ≤ a → a < p 2 → gBt S a = true → ∀ k, 0 ≤ k → k < 8 → m 402 (8 * a + k) = gBr p a k) (h1 : Q 1 x m) : WPc d 258 [zr 386, zi S, zl c, zi (-1)] 403 [] x m 403 [] Q := by
  have hb := hB; unfold IB at hb
  have loop : ∀ k, 0 ≤ k → k ≤ 8 → ∀ v, 0 ≤ v → v ≤ 131998200 + 10559856 * k → WP d 258 6 [(0, zr 386), (1, zi S), (4, zi (-1)), (5, zl v), (7, zi k)] [] 403 [] x m 403 [] Q := by
    refine zdown _ _ ?_
    intro k k0 k1 ih v v0 v1
    apply r258_c6
    by_cases ck : k = 8
    · clear ih
      repeat' (first | (with_reducible assumption) | (with_reducible rfl) | (with_reducible apply And.intro) | (with_reducible apply zIn_mk) | (with_reducible apply zLn_mk) | ((with_reducible intro _); try (exfalso; omega)) | omega | (with_reducible exact Or.inr trivial) | (with_reducible exact Or.inl trivial) | ((exact h1)) | fail)
    · have eC := e401 k k0 (by omega)
      have cB := gIn_bd (w := p 0 + k) hB hA hN
      have cE : gCom p k = gIn p (p 0 + k) := rfl
      simp only [eC]
      have inner : ∀ a, 0 ≤ a → a ≤ p 2 → ∀ u, 0 ≤ u → u ≤ v + gCom p k + 219997 * a → WP d 258 28 [(0, zr 386), (1, zi S), (4, zi (-1)), (5, zl u), (7, zi k), (8, zi a)] [] 403 [] x m 403 [] Q := by
        refine zdown _ _ ?_
        intro a a0 a1 iha u u0 u1
        have bt := zbit (a := S) (j := a) (by omega) a0 (by omega)
        apply r258_c28
        simp only [bt, hp]
        by_cases ca : a = p 2
        · have g1 := ih (by omega) (u - 0) (by omega) (by omega)
          clear ih iha bt
          repeat' (first | (with_reducible assumption) | (with_reducible rfl) | (with_reducible apply And.intro) | (with_reducible apply zIn_mk) | (with_reducible apply zLn_mk) | ((with_reducible intro _); try (exfalso; omega)) | omega | (with_reducible exact Or.inr trivial) | (with_reducible exact Or.inl trivial) | ((exfalso; omega)) | ((exact g1)) | fail)
        · clear ih
          by_cases cb : gBt S a = true
          · rw [if_pos cb]
            have e8 := e402 a a0 (by omega) cb k k0 (by omega)
            have sb := gBr_bd (k := k) (hA.1 a a0 (by omega))
            have iha' := iha (by omega) (u + gBr p a k) (by omega) (by omega)
            simp only [e8]
            clear iha bt
            repeat' (first | (with_reducible assumption) | (with_reducible rfl) | (with_reducible apply And.intro) | (with_reducible apply zIn_mk) | (with_reducible apply zLn_mk) | ((with_reducible intro _); try (exfalso; omega)) | omega | (with_reducible exact Or.inr trivial) | (with_reducible exact Or.inl trivial) | ((exact absurd rfl (by assumption))) | ((exact iha')) | fail)
          · rw [if_neg cb]
            have iha' := iha (by omega) (u + 0) (by omega) (by omega)
            have nb : (0 : Int) ≠ 1 := by decide
            clear iha bt
            repeat' (first | (with_reducible assumption) | (with_reducible rfl) | (with_reducible apply And.intro) | (with_reducible apply zIn_mk) | (with_reducible apply zLn_mk) | ((with_reducible intro _); try (exfalso; omega)) | omega | (with_reducible exact Or.inr trivial) | (with_reducible exact Or.inl trivial) | ((exact iha')) | ((exact absurd (by assumption) nb)) | fail)
      have i0 := inner 0 (by omega) (by omega) (v + gCom p k) (by omega) (by omega)
      clear inner ih
      repeat' (first | (with_reducible assumption) | (with_reducible rfl) | (with_reducible apply And.intro) | (with_reducible apply zIn_mk) | (with_reducible apply zLn_mk) | ((with_reducible intro _); try (exfalso; omega)) | omega | (with_reducible exact Or.inr trivial) | (with_reducible exact Or.inl trivial) | ((exact i0)) | fail)
  apply r258
  intro _ _ _
  exact loop 0 (by omega) (by omega) c c0 (by omega)
theorem c70 {d : Nat} {S : Nat} {p : Int → Int} {x m : zM} {Q : Int → zM → zM → Prop} (hd : 2 ≤ d) (hX : RX x p) (hP : RPx x p) (hB : IB p) (hA : IA p) (hN : IN p) (hIP : IP p) (hS : S < 2 ^ 24) (hz : ∀ j, p 2 ≤ j → gBt S j = false) (c0 : 0 ≤ p 6161) (c1 : p 6161 ≤ 131998200) (e337 : ∀ k, 0 ≤ k → k < 8 → x 337 k = gCom p k) (e338 : ∀ a, 0 ≤ a → a < p 2 → gBt S a = true → ∀ k, 0 ≤ k → k < 8 → x 338 (a * 8 + k) = gBr p a k) (h1 : 0 ≤ gCash p S → gLn p S ≤ 0 → Q 1 x m) (h0 : (gCash p S < 0 ∨ 0 < gLn p S) → Q 0 x m) : WPc d 70 [zr 336, zi S] 403 [] x m 403 [] Q := by
  have sb := gSm_bd (S := S) hB hA
  have e77 : x 7 7 = p 6161 := hX.2.1.2.2.2.1
  have eC : p 6161 - gSm p S = gCash p S := rfl
  have loop : 0 ≤ gCash p S → ∀ r, 0 ≤ r → r ≤ 4 → (∀ i, 0 ≤ i → i < r → ¬ (p (5142 + i) ≠ 0 ∧ 0 < gLb p S (gCash p S) i)) → WP d 70 25 [(0, zr 336), (1, zi S), (2, zi (gCash p S)), (3, zi r)] [] 403 [] x m 403 [] Q := by
    intro g0
    refine zdown _ _ ?_
    intro r r0 r1 ih hr
    apply r70_c25
    by_cases cr : r = 4
    · have h2 := h1 g0 (by unfold gLn; rw [zT_zero (fun i i0 i1 => by (try dsimp only); rw [if_neg (hr i i0 (by omega))])]; omega)
      clear ih h1 h0 hr
      repeat' (first | (with_reducible assumption) | (with_reducible rfl) | (with_reducible apply And.intro) | (with_reducible apply zIn_mk) | (with_reducible apply zLn_mk) | ((with_reducible intro _); try (exfalso; omega)) | omega | (with_reducible exact Or.inr trivial) | (with_reducible exact Or.inl trivial) | ((exact h2)) | fail)
    · have e157 : x 157 r = p (5142 + r) := hP.1 r r0 (by omega)
      simp only [e157]
      have gn := fun (hh : ¬ (p (5142 + r) ≠ 0 ∧ 0 < gLb p S (gCash p S) r)) => ih (by omega) (fun i i0 i1 => by
        by_cases e : i = r
        · rw [e]; exact hh
        · exact hr i i0 (by omega))
      have gb := fun (hh : p (5142 + r) ≠ 0 ∧ 0 < gLb p S (gCash p S) r) => h0 (Or.inr (zT_pos (f := fun r => if p (5142 + r) ≠ 0 ∧ 0 < gLb p S (gCash p S) r then 1 else 0) (fun j _ _ => by (try dsimp only); split <;> omega) r0 (show r < 4 by omega) (by (try dsimp only); rw [if_pos hh]; omega)))
      clear ih h1 h0 hr
      repeat' (first | (with_reducible assumption) | (with_reducible rfl) | (with_reducible apply And.intro) | (with_reducible apply zIn_mk) | (with_reducible apply zLn_mk) | ((with_reducible intro _); try (exfalso; omega)) | omega | (with_reducible exact Or.inr trivial) | (with_reducible exact Or.inl trivial) | ((refine c71 (p := p) hP hB hA hN hIP hS hz g0 (by omega) r0 (by omega) e337 e338 ?_ ?_)) | ((exact gn (fun hh => by omega))) | ((exact gb ⟨by omega, by omega⟩)) | fail)
  apply r70
  intro hz1
  refine ⟨by omega, ?_⟩
  refine c67 (p := p) hX.2.2.1 hB hA hS hz ?_
  rw [e77, eC]
  refine ⟨by unfold zIn; omega, fun hc => loop hc 0 (by omega) (by omega) (fun i i0 i1 => by omega), fun hc => ⟨Or.inl rfl, h0 (Or.inl hc)⟩⟩
theorem s259 {d : Nat} {S : Nat} {p : Int → Int} {x m : zM} {Q : Int → zM → zM → Prop} (hd : 2 ≤ d) (hp : m 387 = p) (hB : IB p) (hA : IA p) (hN : IN p) (hIP : IP p) (hS : S < 2 ^ 24) (c0 : 0 ≤ p 6161) (c1 : p 6161 ≤ 131998200) (e401 : ∀ k, 0 ≤ k → k < 8 → m 401 k = gCom p k) (e402 : ∀ a, 0 ≤ a → a < p 2 → gBt S a = true → ∀ k, 0 ≤ k → k < 8 → m 402 (8 * a + k) = gBr p a k) (h1 : 0 ≤ gCash p S → gLn p S ≤ 0 → Q 1 x m) (h0 : (gCash p S < 0 ∨ 0 < gLn p S) → Q 0 x m) : WPc d 259 [zr 386, zi S] 403 [] x m 403 [] Q := by
  have hb := hB; unfold IB at hb
  have sb := gSm_bd (S := S) hB hA
  have eC : p 6161 - gSm p S = gCash p S := rfl
  have loop : 0 ≤ gCash p S → ∀ r, 0 ≤ r → r ≤ 4 → (∀ i, 0 ≤ i → i < r → ¬ (p (5142 + i) ≠ 0 ∧ 0 < gLb p S (gCash p S) i)) → ∀ t, WP d 259 73 [(0, zr 386), (1, zi S), (2, zl (gCash p S)), (4, zi t), (5, zi r)] [] 403 [] x m 403 [] Q := by
    intro g0
    refine zdown _ _ ?_
    intro r r0 r1 ih hr t
    apply r259_c73
    simp only [hp]
    by_cases cr : r = 4
    · have h2 := h1 g0 (by unfold gLn; rw [zT_zero (fun i i0 i1 => by (try dsimp only); rw [if_neg (hr i i0 (by omega))])]; omega)
      clear ih h1 h0 hr
      repeat' (first | (with_reducible assumption) | (with_reducible rfl) | (with_reducible apply And.intro) | (with_reducible apply zIn_mk) | (with_reducible apply zLn_mk) | ((with_reducible intro _); try (exfalso; omega)) | omega | (with_reducible exact Or.inr trivial) | (with_reducible exact Or.inl trivial) | ((refine s258n (p := p) hp hB hA hN hS g0 (by omega) e401 e402 ?_)) | ((exact h2)) | fail)
    · have pb := hIP.1 r r0 (by omega)
      have gn := fun (hh : ¬ (p (5142 + r) ≠ 0 ∧ 0 < gLb p S (gCash p S) r)) => ih (by omega) (fun i i0 i1 => by
        by_cases e : i = r
        · rw [e]; exact hh
        · exact hr i i0 (by omega))
      have gb := fun (hh : p (5142 + r) ≠ 0 ∧ 0 < gLb p S (gCash p S) r) => h0 (Or.inr (zT_pos (f := fun r => if p (5142 + r) ≠ 0 ∧ 0 < gLb p S (gCash p S) r then 1 else 0) (fun j _ _ => by (try dsimp only); split <;> omega) r0 (show r < 4 by omega) (by (try dsimp only); rw [if_pos hh]; omega)))
      clear ih h1 h0 hr
      repeat' (first | (with_reducible assumption) | (with_reducible rfl) | (with_reducible apply And.intro) | (with_reducible apply zIn_mk) | (with_reducible apply zLn_mk) | ((with_reducible intro _); try (exfalso; omega)) | omega | (with_reducible exact Or.inr trivial) | (with_reducible exact Or.inl trivial) | ((refine s258 (p := p) hp hB hA hN hIP hS g0 (by omega) r0 (by omega) e401 e402 ?_ ?_)) | ((exact gn (fun hh => by omega) _)) | ((exact gb ⟨by omega, by omega⟩)) | fail)
  have sums : ∀ j, 0 ≤ j → j ≤ p 2 → WP d 259 13 [(0, zr 386), (1, zi S), (2, zl (p 6161 - zT (gSf p S) j)), (4, zi j)] [] 403 [] x m 403 [] Q := by
    refine zdown _ _ ?_
    intro j j0 j1 ih
    have bd := zT_bd (f := gSf p S) (lo := 0) (hi := 99999) j0 (fun a a0 a1 => gSf_bd hA a0 (by omega))
    have bt := zbit (a := S) (j := j) (by omega) j0 (by omega)
    rw [zT_s j0] at ih
    apply r259_c13
    simp only [bt, hp]
    by_cases c : j < p 2
    · have ih' := ih c
      by_cases cb : gBt S j = true
      · rw [if_pos cb]
        have sb := gSf_bd (S := S) hA j0 c
        have sf : gSf p S j = p (138 + j) := if_pos cb
        rw [sf] at ih' sb
        rw [show p 6161 - (zT (gSf p S) j + p (138 + j)) = p 6161 - zT (gSf p S) j - p (138 + j) by omega] at ih'
        clear ih h1 h0 loop bt
        repeat' (first | (with_reducible assumption) | (with_reducible rfl) | (with_reducible apply And.intro) | (with_reducible apply zIn_mk) | (with_reducible apply zLn_mk) | ((with_reducible intro _); try (exfalso; omega)) | omega | (with_reducible exact Or.inr trivial) | (with_reducible exact Or.inl trivial) | ((exact absurd rfl (by assumption))) | ((exact ih')) | fail)
      · rw [if_neg cb]
        rw [show gSf p S j = 0 from if_neg cb, show p 6161 - (zT (gSf p S) j + 0) = p 6161 - zT (gSf p S) j - 0 by omega] at ih'
        have nb : (0 : Int) ≠ 1 := by decide
        clear ih h1 h0 loop bt
        repeat' (first | (with_reducible assumption) | (with_reducible rfl) | (with_reducible apply And.intro) | (with_reducible apply zIn_mk) | (with_reducible apply zLn_mk) | ((with_reducible intro _); try (exfalso; omega)) | omega | (with_reducible exact Or.inr trivial) | (with_reducible exact Or.inl trivial) | ((exact ih')) | ((exact absurd (by assumption) nb)) | fail)
    · have e : zT (gSf p S) j = gSm p S := by rw [show j = p 2 by omega]; rfl
      rw [e, eC]
      have l0 := fun hc => loop hc 0 (by omega) (by omega) (fun i i0 i1 => by omega) 0
      have hc := fun (hc : gCash p S < 0) => h0 (Or.inl hc)
      clear ih h1 h0 loop bt
      repeat' (first | (with_reducible assumption) | (with_reducible rfl) | (with_reducible apply And.intro) | (with_reducible apply zIn_mk) | (with_reducible apply zLn_mk) | ((with_reducible intro _); try (exfalso; omega)) | omega | (with_reducible exact Or.inr trivial) | (with_reducible exact Or.inl trivial) | ((exact l0 (by omega))) | ((exact hc (by omega))) | fail)
  apply r259
  intro hz1
  rw [hp]
  have s0 := sums 0 (by omega) (by omega)
  rw [zT_0 (by omega), Int.sub_zero] at s0
  exact ⟨by omega, s0⟩
/-! which is better -/
def gCb (S : Nat) (j : Int) : Int := if gBt S j = true then 1 else 0
def gCn (S : Nat) : Int := zT (gCb S) 24
theorem gCn_bd (S : Nat) : 0 ≤ gCn S ∧ gCn S ≤ 24 := by
  have := zT_bd (f := gCb S) (lo := 0) (hi := 1) (n := 24) (by omega) (fun j _ _ => by unfold gCb; split <;> omega)
  unfold gCn; omega
theorem s260 {d : Nat} {S : Nat} {x m : zM} {Q : Int → zM → zM → Prop} (hS : S < 2 ^ 31) (h : Q (gCn S) x m) : WPc d 260 [zi S] 403 [] x m 403 [] Q := by
  have loop : ∀ j, 0 ≤ j → j ≤ 24 → WP d 260 4 [(0, zi S), (1, zi (zT (gCb S) j)), (2, zi j)] [] 403 [] x m 403 [] Q := by
    refine zdown _ _ ?_
    intro j j0 j1 ih
    have bd := zT_bd (f := gCb S) (lo := 0) (hi := 1) j0 (fun a _ _ => by unfold gCb; split <;> omega)
    have hend : j = 24 → Q (zT (gCb S) j) x m := fun e => by rw [e]; exact h
    rw [zT_s j0] at ih
    apply r260_c4
    by_cases c : j = 24
    · have h2 := hend c
      clear ih hend h
      repeat' (first | (with_reducible assumption) | (with_reducible rfl) | (with_reducible apply And.intro) | (with_reducible apply zIn_mk) | (with_reducible apply zLn_mk) | ((with_reducible intro _); try (exfalso; omega)) | omega | (with_reducible exact Or.inr trivial) | (with_reducible exact Or.inl trivial) | ((exact h2)) | fail)
    · have bt : zand (zshr S j) 1 = gCb S j := zbit (a := S) (j := j) hS j0 (by omega)
      have cb : 0 ≤ gCb S j ∧ gCb S j ≤ 1 := by unfold gCb; split <;> omega
      have ih' := ih (by omega)
      simp only [bt]
      clear ih hend h bt
      repeat' (first | (with_reducible assumption) | (with_reducible rfl) | (with_reducible apply And.intro) | (with_reducible apply zIn_mk) | (with_reducible apply zLn_mk) | ((with_reducible intro _); try (exfalso; omega)) | omega | (with_reducible exact Or.inr trivial) | (with_reducible exact Or.inl trivial) | ((exact ih')) | fail)
  apply r260
  intro _
  have l0 := loop 0 (by omega) (by omega)
  rw [zT_0 (by omega)] at l0
  exact l0
abbrev gBet (p : Int → Int) (S T : Nat) : Prop := gCn T < gCn S ∨ (gCn S = gCn T ∧ (gSm p T < gSm p S ∨ (gSm p S = gSm p T ∧ zand (zand S (zxor S T)) (-(zxor S T)) ≠ 0)))
theorem s262 {d : Nat} {S T : Nat} {p : Int → Int} {x m : zM} {Q : Int → zM → zM → Prop} (hd : 2 ≤ d) (hp : m 387 = p) (hB : IB p) (hA : IA p) (hS : S < 2 ^ 24) (hT : T < 2 ^ 24) (h1 : gBet p S T → Q 1 x m) (h0 : ¬ gBet p S T → Q 0 x m) : WPc d 262 [zr 386, zi S, zi T] 403 [] x m 403 [] Q := by
  have a := gCn_bd S
  have b := gCn_bd T
  have c := gSm_bd (S := S) hB hA
  have e := gSm_bd (S := T) hB hA
  have xo : 0 ≤ zxor S T ∧ zxor S T < 2147483648 := by
    rw [zxor_nat (by omega) (by omega)]
    have := Nat.xor_lt_two_pow (show S < 2 ^ 31 by omega) (show T < 2 ^ 31 by omega)
    omega
  obtain ⟨G1, hG1⟩ : ∃ G : Prop, G = (gBet p S T → Q 1 x m) := ⟨_, rfl⟩
  have g1 : G1 := hG1 ▸ h1
  obtain ⟨G0, hG0⟩ : ∃ G : Prop, G = (¬ gBet p S T → Q 0 x m) := ⟨_, rfl⟩
  have g0 : G0 := hG0 ▸ h0
  clear h1 h0
  apply r262
  intro _ _
  repeat' (first | (with_reducible assumption) | (with_reducible rfl) | (with_reducible apply And.intro) | (with_reducible apply zIn_mk) | (with_reducible apply zLn_mk) | ((with_reducible intro _); try (exfalso; omega)) | omega | (with_reducible exact Or.inr trivial) | (with_reducible exact Or.inl trivial) | ((refine s260 (by omega) ?_)) | ((refine s261 (p := p) hp hB hA (by omega) ?_)) | ((subst hG1; exact g1 (by unfold gBet; omega))) | ((subst hG0; exact g0 (by unfold gBet; omega))) | fail)
theorem c66 {d : Nat} {S T : Nat} {p : Int → Int} {x m : zM} {Q : Int → zM → zM → Prop} (hc : ∀ (d : Nat) (U : Nat) (Q : Int → zM → zM → Prop), U < 2 ^ 24 → Q (gCn U) x m → WPc d 282 [zi U] 403 [] x m 403 [] Q) (hd : 2 ≤ d) (hX : RAx x p) (hB : IB p) (hA : IA p) (hS : S < 2 ^ 24) (hT : T < 2 ^ 24) (hzS : ∀ j, p 2 ≤ j → gBt S j = false) (hzT : ∀ j, p 2 ≤ j → gBt T j = false) (h1 : gBet p S T → Q 1 x m) (h0 : ¬ gBet p S T → Q 0 x m) : WPc d 66 [zr 336, zi S, zi T] 403 [] x m 403 [] Q := by
  have a := gCn_bd S
  have b := gCn_bd T
  have c := gSm_bd (S := S) hB hA
  have e := gSm_bd (S := T) hB hA
  have xo : 0 ≤ zxor S T ∧ zxor S T < 2147483648 := by
    rw [zxor_nat (by omega) (by omega)]
    have := Nat.xor_lt_two_pow (show S < 2 ^ 31 by omega) (show T < 2 ^ 31 by omega)
    omega
  obtain ⟨G1, hG1⟩ : ∃ G : Prop, G = (gBet p S T → Q 1 x m) := ⟨_, rfl⟩
  have g1 : G1 := hG1 ▸ h1
  obtain ⟨G0, hG0⟩ : ∃ G : Prop, G = (¬ gBet p S T → Q 0 x m) := ⟨_, rfl⟩
  have g0 : G0 := hG0 ▸ h0
  clear h1 h0
  apply r66
  intro _ _
  repeat' (first | (with_reducible assumption) | (with_reducible rfl) | (with_reducible apply And.intro) | (with_reducible apply zIn_mk) | (with_reducible apply zLn_mk) | ((with_reducible intro _); try (exfalso; omega)) | omega | (with_reducible exact Or.inr trivial) | (with_reducible exact Or.inl trivial) | ((refine hc _ _ _ (by omega) ?_)) | ((refine c67 (p := p) hX hB hA (by omega) (by assumption) ?_)) | ((subst hG1; exact g1 (by unfold gBet; omega))) | ((subst hG0; exact g0 (by unfold gBet; omega))) | fail)
