/-! PLANS: what sets of asks bring -/
theorem zxor_nat {a b : Nat} (ha : a < 2 ^ 31) (hb : b < 2 ^ 31) : zxor a b = ((a ^^^ b : Nat) : Int) := by
  unfold zxor
  rw [zi_nI, zi_nI]
  have h := Nat.xor_lt_two_pow ha hb
  have e : nI a ^^^ nI b = nI (a ^^^ b) := by
    apply Int32.toBitVec_inj.mp
    rw [Int32.toBitVec_xor]
    show BitVec.ofNat 32 a ^^^ BitVec.ofNat 32 b = BitVec.ofNat 32 (a ^^^ b)
    apply BitVec.eq_of_toNat_eq
    rw [BitVec.toNat_xor, BitVec.toNat_ofNat, BitVec.toNat_ofNat, BitVec.toNat_ofNat, Nat.mod_eq_of_lt (by omega), Nat.mod_eq_of_lt (by omega), Nat.mod_eq_of_lt (by omega)]
  rw [e, nI_toInt h]
abbrev gMJ (p : Int → Int) (a : Int) : Prop := p (186 + a) = -1 ∧ (gAns p a = 0 ∨ gAns p a = 5)
theorem c63 {d : Nat} {a : Int} {p : Int → Int} {x m : zM} {Q : Int → zM → zM → Prop} (hd : 8 ≤ d) (hX : RX x p) (hI : IX p) (a0 : 0 ≤ a) (a1 : a < p 2) (h1 : gMJ p a → ∀ x', zSx x x' → Q 1 x' m) (h0 : ¬ gMJ p a → ∀ x', zSx x x' → Q 0 x' m) : WPc d 63 [zr 336, zi a] 403 [] x m 403 [] Q := by
  have hb := hI.1; unfold IB at hb
  have e19 : x 19 a = p (186 + a) := (hX.2.2.1.2.1 a a0 a1).2.2.2.2.1
  apply r63
  intro hz
  rw [e19]
  repeat' (first | (with_reducible assumption) | (with_reducible rfl) | (with_reducible apply And.intro) | (with_reducible apply zIn_mk) | (with_reducible apply zLn_mk) | ((with_reducible intro _); try (exfalso; omega)) | omega | (with_reducible exact Or.inr trivial) | (with_reducible exact Or.inl trivial) | ((refine c41 (p := p) (by omega) hX hI a0 a1 ?_; intro xB hB)) | ((exact h1 ⟨by omega, by omega⟩ _ hB)) | ((exact h0 (fun hh => by omega) _ hB)) | ((exact h0 (fun hh => by omega) _ (zSx.rf x))) | fail)
theorem s256 {d : Nat} {a : Int} {p : Int → Int} {x m : zM} {Q : Int → zM → zM → Prop} (hd : 12 ≤ d) (hp : m 387 = p) (hI : IX p) (h1 : 0 ≤ a → a < p 2 → gMJ p a → ∀ m', zSame m m' → m' 387 = p → Q 1 x m') (h0 : ¬ (0 ≤ a ∧ a < p 2 ∧ gMJ p a) → ∀ m', zSame m m' → m' 387 = p → Q 0 x m') : WPc d 256 [zr 386, zi a] 403 [] x m 403 [] Q := by
  subst hp
  have hb := hI.1; unfold IB at hb
  apply r256
  intro hz
  repeat' (first | (with_reducible assumption) | (with_reducible rfl) | (with_reducible apply And.intro) | (with_reducible apply zIn_mk) | (with_reducible apply zLn_mk) | ((with_reducible intro _); try (exfalso; omega)) | omega | (with_reducible exact Or.inr trivial) | (with_reducible exact Or.inl trivial) | ((refine s175 (p := m 387) rfl (by omega) hI.1 ?_ ?_)) | ((refine s209 (p := m 387) (by omega) rfl hI (by omega) (by omega) ?_; intro mB hT hpB)) | ((exact h1 (by omega) (by omega) ⟨by omega, by omega⟩ _ hT hpB)) | ((exact h0 (fun hh => by omega) _ hT hpB)) | ((exact h0 (fun hh => by omega) _ (zSame.rf m) rfl)) | fail)
def gCom (p : Int → Int) (k : Int) : Int := gIn p (p 0 + k)
def gBr (p : Int → Int) (a k : Int) : Int := gDue p a (gInt p a) k
theorem gIn_bd {p : Int → Int} {w : Int} (hB : IB p) (hA : IA p) (hN : IN p) : 0 ≤ gIn p w ∧ gIn p w ≤ 5279928 := by
  unfold IB at hB
  have := zT_bd (f := fun l => if p (570 + l) = 0 then gDt p l w - gDt p l (w - 1) else 0) (lo := 0) (hi := 219997) (n := p 3) (by omega) (fun l l0 l1 => by have := gDt_in (w := w) hA hN l0 l1; (try dsimp only); split <;> omega)
  unfold gIn; omega
theorem gBr_bd {p : Int → Int} {a k : Int} (h : IAa p a) : 0 ≤ gBr p a k ∧ gBr p a k ≤ 219997 := by
  have i := gInt_bd h
  have d := gDue_bd (n := k) h i.1
  unfold IAa at h
  unfold gBr; omega
theorem c69 {d : Nat} {a i : Int} {p : Int → Int} {x m : zM} {Q : Int → zM → zM → Prop} (hd : 2 ≤ d) (hX : RAx x p) (hB : IB p) (hA : IA p) (a0 : 0 ≤ a) (a1 : a < p 2) (i0 : 0 ≤ i) (i1 : i ≤ 119998) (h : ∀ x', (∀ k, k ≠ 338 → x' k = x k) → (∀ k, 0 ≤ k → k < 8 → x' 338 (a * 8 + k) = gDue p a i k) → (∀ j, j < a * 8 ∨ a * 8 + 8 ≤ j → x' 338 j = x 338 j) → Q 0 x' m) : WPc d 69 [zr 336, zi a, zi i] 403 [] x m 403 [] Q := by
  have hb := hB; unfold IB at hb
  have aa := hA.1 a a0 a1
  have aa' := aa; unfold IAa at aa'
  have ra := hX.2.1 a a0 a1
  have ek : x 16 a = p (114 + a) := ra.2.1
  have es : x 17 a = p (138 + a) := ra.2.2.1
  have ew : x 18 a = p (162 + a) := ra.2.2.2.1
  have eb := gEc_bd aa i0
  have ep := gEc_part (n := p (162 + a) - 1) aa i0 (by omega) (by omega)
  have em : gEc p a i * (p (162 + a) - 1) = (p (162 + a) - 1) * gEc p a i := Int.mul_comm _ _
  have loop : ∀ j, 1 ≤ j → j ≤ 8 → ∀ x', (∀ k, k ≠ 338 → x' k = x k) → (∀ k, 0 ≤ k → k < j → x' 338 (a * 8 + k) = gDue p a i k) → (∀ j, j < a * 8 ∨ a * 8 + 8 ≤ j → x' 338 j = x 338 j) → WP d 69 72 [(0, zr 336), (1, zi a), (3, zi (p (162 + a))), (4, zi (p (138 + a) + i)), (5, zi (gEc p a i)), (6, zi j)] [] 403 [] x' m 403 [] Q := by
    refine zdownL _ _ _ ?_
    intro j j0 j1 ih x' M1 M2 M3
    apply r69_c72
    simp only [em]
    by_cases c : j = 8
    · have h2 := h x' M1 (fun k k0 k1 => M2 k k0 (by omega)) M3
      clear ih h
      repeat' (first | (with_reducible assumption) | (with_reducible rfl) | (with_reducible apply And.intro) | (with_reducible apply zIn_mk) | (with_reducible apply zLn_mk) | ((with_reducible intro _); try (exfalso; omega)) | omega | (with_reducible exact Or.inr trivial) | (with_reducible exact Or.inl trivial) | ((exact h2)) | fail)
    · have ih' := fun v (hv : v = gDue p a i j) => ih (by omega) (zupd x' 338 (a * 8 + j) v) (fun k k0 => by rw [zu_ne _ _ _ k0]; exact M1 k k0) (fun k k0 k1 => by
        rw [zu_eq]
        by_cases ck : k = j
        · rw [up_at (by omega), ck]; exact hv
        · rw [up_ne (by omega)]; exact M2 k k0 (by omega)) (fun k k0 => by rw [zu_eq, up_ne (by omega)]; exact M3 k k0)
      clear ih h
      unfold gDue at ih'
      repeat' (first | (with_reducible assumption) | (with_reducible rfl) | (with_reducible apply And.intro) | (with_reducible apply zIn_mk) | (with_reducible apply zLn_mk) | ((with_reducible intro _); try (exfalso; omega)) | omega | (with_reducible exact Or.inr trivial) | (with_reducible exact Or.inl trivial) | ((refine ih' _ ?_; rw [if_pos (by omega), if_pos (by omega)]; done)) | ((refine ih' _ ?_; rw [if_pos (by omega), if_neg (by omega)]; done)) | ((refine ih' _ ?_; rw [if_neg (by omega)]; done)) | fail)
  apply r69
  intro hz1 hz2
  simp only [ek, es, ew]
  refine ⟨by omega, by omega, by unfold zIn; omega, by omega, by omega, by omega, ?_⟩
  refine c47 (p := p) (a := a) (i := i) aa i0 i1 rfl rfl rfl ?_
  refine ⟨by omega, by omega, ?_⟩
  refine loop 1 (by omega) (by omega) _ (fun k k0 => zu_ne _ _ _ k0) (fun k k0 k1 => ?_) (fun k k0 => by rw [zu_eq, up_ne (by omega)])
  rw [zu_eq, up_at (by omega)]
  unfold gDue
  rw [if_neg (by omega)]
theorem c68 {d : Nat} {S : Nat} {p : Int → Int} {x m : zM} {Q : Int → zM → zM → Prop} (hd : 8 ≤ d) (hX : RX x p) (hI : IX p) (hS : S < 2 ^ 24) (h : ∀ x', zSx x x' → (∀ k, 0 ≤ k → k < 8 → x' 337 k = gCom p k) → (∀ a, 0 ≤ a → a < p 2 → gBt S a = true → ∀ k, 0 ≤ k → k < 8 → x' 338 (a * 8 + k) = gBr p a k) → Q 0 x' m) : WPc d 68 [zr 336, zi S] 403 [] x m 403 [] Q := by
  obtain ⟨hB, hA, hN, hR⟩ := id hI
  have hb := hB; unfold IB at hb
  have loop2 : ∀ j, 0 ≤ j → j ≤ p 2 → ∀ x', zSx x x' → (∀ k, 0 ≤ k → k < 8 → x' 337 k = gCom p k) → (∀ a, 0 ≤ a → a < j → gBt S a = true → ∀ k, 0 ≤ k → k < 8 → x' 338 (a * 8 + k) = gBr p a k) → WP d 68 41 [(0, zr 336), (1, zi S), (2, zi j)] [] 403 [] x' m 403 [] Q := by
    refine zdown _ _ ?_
    intro j j0 j1 ih x' M1 M2 M3
    have e14 : x' 14 0 = p 2 := by rw [M1 14 rfl]; exact hX.2.2.1.1
    have bt := zbit (a := S) (j := j) (by omega) j0 (by omega)
    apply r68_c41
    simp only [e14, bt]
    by_cases c : j < p 2
    · have ib := gInt_bd (hA.1 j j0 c)
      by_cases cb : gBt S j = true
      · rw [if_pos cb]
        have ih' := fun xC (h1 : zSx x xC) (h2 : xC 337 = x' 337) (h3 : ∀ k, 0 ≤ k → k < 8 → xC 338 (j * 8 + k) = gBr p j k) (h4 : ∀ i, i < j * 8 ∨ j * 8 + 8 ≤ i → xC 338 i = x' 338 i) => ih c xC h1 (fun k k0 k1 => by rw [h2]; exact M2 k k0 k1) (fun a a0 a1 ab k k0 k1 => by
          by_cases ca : a = j
          · rw [ca]; exact h3 k k0 k1
          · rw [h4 _ (by omega)]; exact M3 a a0 (by omega) ab k k0 k1)
        clear ih h bt
        repeat' (first | (with_reducible assumption) | (with_reducible rfl) | (with_reducible apply And.intro) | (with_reducible apply zIn_mk) | (with_reducible apply zLn_mk) | ((with_reducible intro _); try (exfalso; omega)) | omega | (with_reducible exact Or.inr trivial) | (with_reducible exact Or.inl trivial) | ((exact absurd rfl (by assumption))) | ((refine c40y (p := p) (by omega) (RX_s M1 hX) hI j0 c ?_; intro xB hB1)) | ((refine c69 (p := p) (by omega) (RAx_s (M1.tr hB1.x) hX.2.2.1) hB hA j0 c ib.1 ib.2 ?_; intro xC g1 g2 g3)) | ((exact ih' xC ((M1.tr hB1.x).o (k0 := 338) rfl g1) (by rw [g1 337 (by decide), hB1 337 rfl]) g2 (fun i i0 => by rw [g3 i i0, hB1 338 rfl]))) | fail)
      · rw [if_neg cb]
        have ih' := ih c x' M1 M2 (fun a a0 a1 ab k k0 k1 => by
          by_cases ca : a = j
          · rw [ca] at ab; exact absurd ab cb
          · exact M3 a a0 (by omega) ab k k0 k1)
        clear ih h bt
        repeat' (first | (with_reducible assumption) | (with_reducible rfl) | (with_reducible apply And.intro) | (with_reducible apply zIn_mk) | (with_reducible apply zLn_mk) | ((with_reducible intro _); try (exfalso; omega)) | omega | (with_reducible exact Or.inr trivial) | (with_reducible exact Or.inl trivial) | ((exact ih')) | ((exact absurd rfl (by assumption))) | fail)
    · have h2 := h x' M1 M2 (fun a a0 a1 => M3 a a0 (by omega))
      clear ih h bt
      repeat' (first | (with_reducible assumption) | (with_reducible rfl) | (with_reducible apply And.intro) | (with_reducible apply zIn_mk) | (with_reducible apply zLn_mk) | ((with_reducible intro _); try (exfalso; omega)) | omega | (with_reducible exact Or.inr trivial) | (with_reducible exact Or.inl trivial) | ((exact h2)) | fail)
  have loop1 : ∀ j, 0 ≤ j → j ≤ 8 → ∀ x', zSx x x' → (∀ k, 0 ≤ k → k < j → x' 337 k = gCom p k) → WP d 68 2 [(0, zr 336), (1, zi S), (2, zi j)] [] 403 [] x' m 403 [] Q := by
    refine zdown _ _ ?_
    intro j j0 j1 ih x' M1 M2
    have e10 : x' 1 0 = p 0 := by rw [M1 1 rfl]; exact hX.1.1
    apply r68_c2
    simp only [e10]
    by_cases c : j = 8
    · have l2 := loop2 0 (by omega) (by omega) x' M1 (fun k k0 k1 => M2 k k0 (by omega)) (fun a a0 a1 => by omega)
      clear ih h loop2
      repeat' (first | (with_reducible assumption) | (with_reducible rfl) | (with_reducible apply And.intro) | (with_reducible apply zIn_mk) | (with_reducible apply zLn_mk) | ((with_reducible intro _); try (exfalso; omega)) | omega | (with_reducible exact Or.inr trivial) | (with_reducible exact Or.inl trivial) | ((exact l2)) | fail)
    · have ih' := ih (by omega) (zupd x' 337 j (gCom p j)) (M1.u rfl _ _) (fun k k0 k1 => by
        rw [zu_eq]
        by_cases ck : k = j
        · rw [up_at ck, ck]
        · rw [up_ne ck]; exact M2 k k0 (by omega))
      clear ih h loop2
      repeat' (first | (with_reducible assumption) | (with_reducible rfl) | (with_reducible apply And.intro) | (with_reducible apply zIn_mk) | (with_reducible apply zLn_mk) | ((with_reducible intro _); try (exfalso; omega)) | omega | (with_reducible exact Or.inr trivial) | (with_reducible exact Or.inl trivial) | ((refine c60 (p := p) (by omega) (RNx_s M1 hX.2.2.2.1) hB hA hN (by omega) (by omega) ?_)) | ((exact ih')) | fail)
  apply r68
  intro hz
  exact loop1 0 (by omega) (by omega) x (zSx.rf x) (fun k k0 k1 => by omega)
theorem s257 {d : Nat} {S : Nat} {p : Int → Int} {x m : zM} {Q : Int → zM → zM → Prop} (hd : 12 ≤ d) (hp : m 387 = p) (hI : IX p) (hS : S < 2 ^ 24) (h : ∀ m', (∀ k, k ≠ 386 → k ≠ 397 → k ≠ 398 → k ≠ 401 → k ≠ 402 → m' k = m k) → (∀ i, i ≠ 23 → m' 386 i = m 386 i) → (∀ k, 0 ≤ k → k < 8 → m' 401 k = gCom p k) → (∀ a, 0 ≤ a → a < p 2 → gBt S a = true → ∀ k, 0 ≤ k → k < 8 → m' 402 (8 * a + k) = gBr p a k) → Q 0 x m') : WPc d 257 [zr 386, zi S] 403 [] x m 403 [] Q := by
  obtain ⟨hB, hA, hN, hR⟩ := id hI
  have hb := hB; unfold IB at hb
  have loop2 : ∀ j, 0 ≤ j → j ≤ p 2 → ∀ m', (∀ k, k ≠ 386 → k ≠ 397 → k ≠ 398 → k ≠ 401 → k ≠ 402 → m' k = m k) → (∀ i, i ≠ 23 → m' 386 i = m 386 i) → (∀ k, 0 ≤ k → k < 8 → m' 401 k = gCom p k) → (∀ a, 0 ≤ a → a < j → gBt S a = true → ∀ k, 0 ≤ k → k < 8 → m' 402 (8 * a + k) = gBr p a k) → WP d 257 81 [(0, zr 386), (1, zi S), (2, zi j)] [] 403 [] x m' 403 [] Q := by
    refine zdown _ _ ?_
    intro j j0 j1 ih m' M1 M2 M3 M4
    have e387 : m' 387 = p := by rw [M1 387 (by decide) (by decide) (by decide) (by decide) (by decide)]; exact hp
    have bt := zbit (a := S) (j := j) (by omega) j0 (by omega)
    apply r257_c81
    simp only [e387, bt]
    by_cases c : j < p 2
    · have ib := gInt_bd (hA.1 j j0 c)
      by_cases cb : gBt S j = true
      · rw [if_pos cb]
        have inner : ∀ mB, zSame m' mB → mB 387 = p → ∀ n, 0 ≤ n → n ≤ 8 → ∀ mC, (∀ k, k ≠ 402 → mC k = mB k) → (∀ k, 0 ≤ k → k < n → mC 402 (8 * j + k) = gBr p j k) → (∀ i, i < 8 * j ∨ 8 * j + 8 ≤ i → mC 402 i = mB 402 i) → WP d 257 113 [(0, zr 386), (1, zi S), (2, zi j), (3, zi (gInt p j)), (4, zi n)] [] 403 [] x mC 403 [] Q := by
          intro mB hT hpB
          refine zdown _ _ ?_
          intro n n0 n1 ihn mC C1 C2 C3
          have eC : mC 387 = p := by rw [C1 387 (by decide)]; exact hpB
          apply r257_c113
          simp only [bt, if_pos cb]
          by_cases cn : n = 8
          · have ih' := ih c mC (fun k k0 k1 k2 k3 k4 => by rw [C1 k k4, hT.1 k k1 k2 k0]; exact M1 k k0 k1 k2 k3 k4) (fun i i0 => by rw [C1 386 (by decide), hT.2 i i0]; exact M2 i i0) (fun k k0 k1 => by rw [C1 401 (by decide), hT.1 401 (by decide) (by decide) (by decide)]; exact M3 k k0 k1) (fun a a0 a1 ab k k0 k1 => by
              by_cases ca : a = j
              · rw [ca]; exact C2 k k0 (by omega)
              · rw [C3 _ (by omega), hT.1 402 (by decide) (by decide) (by decide)]; exact M4 a a0 (by omega) ab k k0 k1)
            clear ih ihn h bt
            repeat' (first | (with_reducible assumption) | (with_reducible rfl) | (with_reducible apply And.intro) | (with_reducible apply zIn_mk) | (with_reducible apply zLn_mk) | ((with_reducible intro _); try (exfalso; omega)) | omega | (with_reducible exact Or.inr trivial) | (with_reducible exact Or.inl trivial) | ((exact ih')) | fail)
          · have ih' := ihn (by omega) (zupd mC 402 (8 * j + n) (gBr p j n)) (fun k k0 => by rw [zu_ne _ _ _ k0]; exact C1 k k0) (fun k k0 k1 => by
              rw [zu_eq]
              by_cases ck : k = n
              · rw [up_at (by omega), ck]
              · rw [up_ne (by omega)]; exact C2 k k0 (by omega)) (fun i i0 => by rw [zu_eq, up_ne (by omega)]; exact C3 i i0)
            clear ih ihn h bt
            repeat' (first | (with_reducible assumption) | (with_reducible rfl) | (with_reducible apply And.intro) | (with_reducible apply zIn_mk) | (with_reducible apply zLn_mk) | ((with_reducible intro _); try (exfalso; omega)) | omega | (with_reducible exact Or.inr trivial) | (with_reducible exact Or.inl trivial) | ((exact absurd rfl (by assumption))) | ((refine s194 (p := p) eC (by omega) hB hA j0 c ib.1 ib.2 ?_)) | ((exact ih')) | fail)
        clear ih h bt
        repeat' (first | (with_reducible assumption) | (with_reducible rfl) | (with_reducible apply And.intro) | (with_reducible apply zIn_mk) | (with_reducible apply zLn_mk) | ((with_reducible intro _); try (exfalso; omega)) | omega | (with_reducible exact Or.inr trivial) | (with_reducible exact Or.inl trivial) | ((exact absurd rfl (by assumption))) | ((refine s206 (p := p) (by omega) e387 hI j0 c ?_; intro mB hT hpB; exact inner mB hT hpB 0 (by omega) (by omega) mB (fun _ _ => rfl) (fun k k0 k1 => by omega) (fun _ _ => rfl))) | fail)
      · rw [if_neg cb]
        have ih' := ih c m' M1 M2 M3 (fun a a0 a1 ab k k0 k1 => by
          by_cases ca : a = j
          · rw [ca] at ab; exact absurd ab cb
          · exact M4 a a0 (by omega) ab k k0 k1)
        have nb : (0 : Int) ≠ 1 := by decide
        have n0 : WP d 257 113 [(0, zr 386), (1, zi S), (2, zi j), (3, zi 0), (4, zi 0)] [] 403 [] x m' 403 [] Q := by
          apply r257_c113
          simp only [bt, if_neg cb]
          clear ih h bt
          repeat' (first | (with_reducible assumption) | (with_reducible rfl) | (with_reducible apply And.intro) | (with_reducible apply zIn_mk) | (with_reducible apply zLn_mk) | ((with_reducible intro _); try (exfalso; omega)) | omega | (with_reducible exact Or.inr trivial) | (with_reducible exact Or.inl trivial) | ((exact ih')) | ((exact absurd (by assumption) nb)) | fail)
        clear ih h bt
        repeat' (first | (with_reducible assumption) | (with_reducible rfl) | (with_reducible apply And.intro) | (with_reducible apply zIn_mk) | (with_reducible apply zLn_mk) | ((with_reducible intro _); try (exfalso; omega)) | omega | (with_reducible exact Or.inr trivial) | (with_reducible exact Or.inl trivial) | ((exact n0)) | ((exact absurd (by assumption) nb)) | fail)
    · have h2 := h m' M1 M2 M3 (fun a a0 a1 => M4 a a0 (by omega))
      clear ih h bt
      repeat' (first | (with_reducible assumption) | (with_reducible rfl) | (with_reducible apply And.intro) | (with_reducible apply zIn_mk) | (with_reducible apply zLn_mk) | ((with_reducible intro _); try (exfalso; omega)) | omega | (with_reducible exact Or.inr trivial) | (with_reducible exact Or.inl trivial) | ((exact h2)) | fail)
  have loop1 : ∀ j, 0 ≤ j → j ≤ 8 → ∀ m', (∀ k, k ≠ 401 → m' k = m k) → (∀ k, 0 ≤ k → k < j → m' 401 k = gCom p k) → WP d 257 2 [(0, zr 386), (1, zi S), (2, zi j)] [] 403 [] x m' 403 [] Q := by
    refine zdown _ _ ?_
    intro j j0 j1 ih m' M1 M2
    apply r257_c2
    by_cases c : j = 8
    · have l2 := loop2 0 (by omega) (by omega) m' (fun k k0 k1 k2 k3 k4 => M1 k k3) (fun i i0 => by rw [M1 386 (by decide)]) (fun k k0 k1 => M2 k k0 (by omega)) (fun a a0 a1 => by omega)
      clear ih h loop2
      repeat' (first | (with_reducible assumption) | (with_reducible rfl) | (with_reducible apply And.intro) | (with_reducible apply zIn_mk) | (with_reducible apply zLn_mk) | ((with_reducible intro _); try (exfalso; omega)) | omega | (with_reducible exact Or.inr trivial) | (with_reducible exact Or.inl trivial) | ((exact l2)) | fail)
    · have inner : ∀ l, 0 ≤ l → l ≤ p 3 → ∀ mC, (∀ k, k ≠ 401 → mC k = m k) → (∀ k, 0 ≤ k → k < j → mC 401 k = gCom p k) → mC 401 j = zT (fun l => if p (570 + l) = 0 then gDt p l (p 0 + j) - gDt p l (p 0 + j - 1) else 0) l → WP d 257 17 [(0, zr 386), (1, zi S), (2, zi j), (3, zi l)] [] 403 [] x mC 403 [] Q := by
        refine zdown _ _ ?_
        intro l l0 l1 ihl mC C1 C2 C3
        have eC : mC 387 = p := by rw [C1 387 (by decide)]; exact hp
        have zb := zT_bd (f := fun l => if p (570 + l) = 0 then gDt p l (p 0 + j) - gDt p l (p 0 + j - 1) else 0) (lo := 0) (hi := 219997) (n := l) l0 (fun l l0 l1 => by have := gDt_in (w := p 0 + j) hA hN l0 (show l < p 3 by omega); (try dsimp only); split <;> omega)
        apply r257_c17
        simp only [eC, C3]
        by_cases cl : l < p 3
        · have di := gDt_in (w := p 0 + j) hA hN l0 cl
          have ih' := fun v (hv : v = zT (fun l => if p (570 + l) = 0 then gDt p l (p 0 + j) - gDt p l (p 0 + j - 1) else 0) (l + 1)) => ihl cl (zupd mC 401 j v) (fun k k0 => by rw [zu_ne _ _ _ k0]; exact C1 k k0) (fun k k0 k1 => by rw [zu_eq, up_ne (by omega)]; exact C2 k k0 k1) (by rw [zu_eq, up_at rfl]; exact hv)
          rw [zT_s l0] at ih'
          clear ihl ih h loop2
          repeat' (first | (with_reducible assumption) | (with_reducible rfl) | (with_reducible apply And.intro) | (with_reducible apply zIn_mk) | (with_reducible apply zLn_mk) | ((with_reducible intro _); try (exfalso; omega)) | omega | (with_reducible exact Or.inr trivial) | (with_reducible exact Or.inl trivial) | ((refine s195 (p := p) eC (by omega) hB hA hN l0 cl (by omega) (by omega) ?_)) | ((refine ih' _ ?_; rw [if_pos (by omega)]; done)) | ((refine ih' _ ?_; rw [if_neg (by omega)]; done)) | fail)
        · have ih' := ih (by omega) mC C1 (fun k k0 k1 => by
            by_cases ck : k = j
            · rw [ck, C3, show l = p 3 by omega]; rfl
            · exact C2 k k0 (by omega))
          clear ihl ih h loop2
          repeat' (first | (with_reducible assumption) | (with_reducible rfl) | (with_reducible apply And.intro) | (with_reducible apply zIn_mk) | (with_reducible apply zLn_mk) | ((with_reducible intro _); try (exfalso; omega)) | omega | (with_reducible exact Or.inr trivial) | (with_reducible exact Or.inl trivial) | ((exact ih')) | fail)
      have i0 := inner 0 (by omega) (by omega) (zupd m' 401 j 0) (fun k k0 => by rw [zu_ne _ _ _ k0]; exact M1 k k0) (fun k k0 k1 => by rw [zu_eq, up_ne (by omega)]; exact M2 k k0 k1) (by rw [zu_eq, up_at rfl, zT_0 (by omega)])
      clear ih h loop2 inner
      repeat' (first | (with_reducible assumption) | (with_reducible rfl) | (with_reducible apply And.intro) | (with_reducible apply zIn_mk) | (with_reducible apply zLn_mk) | ((with_reducible intro _); try (exfalso; omega)) | omega | (with_reducible exact Or.inr trivial) | (with_reducible exact Or.inl trivial) | ((exact i0)) | fail)
  apply r257
  intro hz
  exact loop1 0 (by omega) (by omega) m (fun _ _ => rfl) (fun k k0 k1 => by omega)
