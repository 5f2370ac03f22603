/-! BEST: free sets, their ranks, the best of them -/
def gFrN (p : Int → Int) (V : Nat) : Nat → Nat
  | 0 => 0
  | n + 1 => gFrN p V n ||| (if gBt V n = true ∧ gMJ p n then 2 ^ n else 0)
def gFv (p : Int → Int) (V : Nat) (j : Int) : Nat := gFrN p V j.toNat
theorem gFv_s {p : Int → Int} {V : Nat} {j : Int} (h : 0 ≤ j) : gFv p V (j + 1) = gFv p V j ||| (if gBt V j = true ∧ gMJ p j then 2 ^ j.toNat else 0) := by
  unfold gFv
  have e : (j + 1).toNat = j.toNat + 1 := by omega
  have e2 : (j.toNat : Int) = j := by omega
  rw [e, gFrN, e2]
theorem gFv_bt {p : Int → Int} {V : Nat} {i : Int} (i0 : 0 ≤ i) : ∀ j, 0 ≤ j → gBt (gFv p V j) i = decide (i < j ∧ gBt V i = true ∧ gMJ p i) := by
  refine zup1 _ ?_ ?_
  · rw [show gFv p V 0 = 0 from rfl, gBt_0, decide_eq_false (by omega)]
  · intro j j0 ih
    rw [gFv_s j0, gBt_or, ih]
    by_cases c : gBt V j = true ∧ gMJ p j
    · rw [if_pos c, gBt_1 j0 i0]
      by_cases e : j = i
      · subst e
        rw [decide_eq_true rfl, Bool.or_true, decide_eq_true ⟨by omega, c⟩]
      · rw [decide_eq_false e, Bool.or_false]
        exact decide_eq_decide.mpr ⟨fun h => ⟨by omega, h.2⟩, fun h => ⟨by omega, h.2⟩⟩
    · rw [if_neg c, gBt_0, Bool.or_false]
      refine decide_eq_decide.mpr ⟨fun h => ⟨by omega, h.2⟩, fun h => ⟨?_, h.2⟩⟩
      by_cases e : i = j
      · subst e; exact absurd h.2 c
      · omega
theorem gFv_lt {p : Int → Int} {V : Nat} {j : Int} (j0 : 0 ≤ j) (j1 : j ≤ 24) : gFv p V j < 2 ^ 24 := by
  refine gBt_lo (fun i hi => ?_)
  rw [gFv_bt (by omega) j j0]
  exact decide_eq_false (fun h => by omega)
theorem zS_le {f g : Int → Int} (h : ∀ j, f j ≤ g j) : ∀ n, zS f n ≤ zS g n
  | 0 => Int.le_refl _
  | n + 1 => by
    have a := zS_le h n
    have b := h n
    show zS f n + f n ≤ zS g n + g n
    omega
theorem gCn_le {S T : Nat} (h : ∀ j, gBt S j = true → gBt T j = true) : gCn S ≤ gCn T := by
  unfold gCn zT
  refine zS_le (fun j => ?_) _
  unfold gCb
  by_cases c : gBt S j = true
  · rw [if_pos c, if_pos (h j c)]; exact Int.le_refl _
  · rw [if_neg c]; split <;> omega
theorem gCn_le' {S T : Nat} (h : ∀ j, 0 ≤ j → gBt S j = true → gBt T j = true) : gCn S ≤ gCn T := gCn_le (fun j b => by
  by_cases c : 0 ≤ j
  · exact h j c b
  · unfold gBt at *
    have e : j.toNat = (0 : Int).toNat := by omega
    rw [e] at b ⊢
    exact h 0 (Int.le_refl _) b)
def gBn : Nat → Nat → Nat
  | 0, _ => 0
  | n + 1, F => F % 2 + gBn n (F / 2)
theorem gCb_h (F n : Nat) : gCb F ((n + 1 : Nat) : Int) = gCb (F / 2) n := by
  rw [gCb_n, gCb_n, Nat.pow_succ', Nat.div_div_eq_div_mul]
theorem gCb_z (F : Nat) : gCb F ((0 : Nat) : Int) = ((F % 2 : Nat) : Int) := by
  rw [gCb_n, Nat.pow_zero, Nat.div_one]
theorem zS_bn : ∀ (n F : Nat), zS (gCb F) (n + 1) = ((F % 2 : Nat) : Int) + zS (gCb (F / 2)) n
  | 0, F => by
    rw [zS_s, gCb_z]
    show (0 : Int) + _ = _ + (0 : Int)
    omega
  | n + 1, F => by
    rw [zS_s, zS_bn n F, gCb_h, zS_s (gCb (F / 2)) n]
    omega
theorem gBn_c : ∀ (n F : Nat), zS (gCb F) n = (gBn n F : Int)
  | 0, _ => rfl
  | n + 1, F => by
    rw [zS_bn n F, gBn_c n (F / 2)]
    show _ = ((F % 2 + gBn n (F / 2) : Nat) : Int)
    omega
def gRk : Nat → Nat → Nat → Nat
  | 0, _, _ => 0
  | n + 1, F, S => if F % 2 = 1 then 2 * gRk n (F / 2) (S / 2) + S % 2 else gRk n (F / 2) (S / 2)
theorem gRk_lt : ∀ n F S : Nat, gRk n F S < 2 ^ gBn n F
  | 0, _, _ => by show (0 : Nat) < 2 ^ 0; decide
  | n + 1, F, S => by
    have ih := gRk_lt n (F / 2) (S / 2)
    show (if F % 2 = 1 then 2 * gRk n (F / 2) (S / 2) + S % 2 else gRk n (F / 2) (S / 2)) < 2 ^ (F % 2 + gBn n (F / 2))
    by_cases c : F % 2 = 1
    · rw [if_pos c, c, Nat.pow_add]
      omega
    · rw [if_neg c, show F % 2 = 0 by omega, Nat.zero_add]
      exact ih
theorem sub_half {S F : Nat} (h : S &&& F = S) : (S / 2) &&& (F / 2) = S / 2 := by
  have h2 : (S &&& F) / 2 ^ 1 = (S / 2 ^ 1) &&& (F / 2 ^ 1) := Nat.and_div_two_pow
  rw [h, Nat.pow_one] at h2
  exact h2.symm
theorem sub_low {S F : Nat} (h : S &&& F = S) (c : F % 2 = 0) : S % 2 = 0 := by
  have h2 : (S &&& F) % 2 ^ 1 = (S % 2 ^ 1) &&& (F % 2 ^ 1) := Nat.and_mod_two_pow
  rw [h, Nat.pow_one, c, Nat.and_zero] at h2
  exact h2
theorem gRk_mono : ∀ n F S T : Nat, S &&& F = S → T &&& F = T → S < T → T < 2 ^ n → gRk n F S < gRk n F T
  | 0, _, S, T => fun _ _ h h' => by rw [Nat.pow_zero] at h'; omega
  | n + 1, F, S, T => fun hS hT h h' => by
    have ih := gRk_mono n (F / 2) (S / 2) (T / 2) (sub_half hS) (sub_half hT)
    have hp : T / 2 < 2 ^ n := by rw [Nat.pow_succ] at h'; omega
    show (if F % 2 = 1 then 2 * gRk n (F / 2) (S / 2) + S % 2 else gRk n (F / 2) (S / 2)) < (if F % 2 = 1 then 2 * gRk n (F / 2) (T / 2) + T % 2 else gRk n (F / 2) (T / 2))
    by_cases c : F % 2 = 1
    · rw [if_pos c, if_pos c]
      by_cases e : S / 2 = T / 2
      · rw [e]; omega
      · have := ih (by omega) hp
        omega
    · rw [if_neg c, if_neg c]
      have a := sub_low hS (by omega)
      have b := sub_low hT (by omega)
      exact ih (by omega) hp
def gBzf (p : Int → Int) (F : Nat) : Nat → Nat → Nat → Nat
  | 0, _, B => B
  | n + 1, S, B => if S = 0 then B else gBzf p F n ((S - 1) &&& F) (if gBet p S B ∧ 0 ≤ gCash p S ∧ gLn p S ≤ 0 then S else B)
theorem gBzf_0 {p : Int → Int} {F n B : Nat} : gBzf p F n 0 B = B := by
  cases n with
  | zero => rfl
  | succ n => exact if_pos rfl
theorem gBzf_y {p : Int → Int} {F n S B : Nat} (h : S ≠ 0) (b : gBet p S B) (c : 0 ≤ gCash p S) (l : gLn p S ≤ 0) : gBzf p F (n + 1) S B = gBzf p F n ((S - 1) &&& F) S := by
  rw [gBzf, if_neg h, if_pos ⟨b, c, l⟩]
theorem gBzf_n {p : Int → Int} {F n S B : Nat} (h : S ≠ 0) (b : ¬ gBet p S B) : gBzf p F (n + 1) S B = gBzf p F n ((S - 1) &&& F) B := by
  rw [gBzf, if_neg h, if_neg (fun hh => b hh.1)]
theorem gBzf_f {p : Int → Int} {F n S B : Nat} (h : S ≠ 0) (b : gCash p S < 0 ∨ 0 < gLn p S) : gBzf p F (n + 1) S B = gBzf p F n ((S - 1) &&& F) B := by
  rw [gBzf, if_neg h, if_neg (fun hh => by have := hh.2; omega)]
theorem sub_bt {S F : Nat} {j : Int} (h : S &&& F = S) (b : gBt S j = true) : gBt F j = true := by
  rw [← h, gBt_and] at b
  cases e : gBt F j with
  | true => rfl
  | false => rw [e, Bool.and_false] at b; cases b
theorem sub_no {S F : Nat} {j : Int} (h : S &&& F = S) (b : gBt F j = false) : gBt S j = false := by
  cases e : gBt S j with
  | false => rfl
  | true => rw [sub_bt h e] at b; cases b
theorem c65L {d F : Nat} {p : Int → Int} {x m : zM} {Q : Int → zM → zM → Prop} (hd : 3 ≤ d) (hX : RX x p) (hP : RPx x p) (hI : IX p) (hIP : IP p) (c0 : 0 ≤ p 6161) (c1 : p 6161 ≤ 131998200) (hF : F < 2 ^ 24) (hz : ∀ j, p 2 ≤ j → gBt F j = false) (e337 : ∀ k, 0 ≤ k → k < 8 → x 337 k = gCom p k) (e338 : ∀ a, 0 ≤ a → a < p 2 → gBt F a = true → ∀ k, 0 ≤ k → k < 8 → x 338 (a * 8 + k) = gBr p a k) : ∀ (n S B : Nat) (i : Int), S ≤ n → S &&& F = S → B < 2 ^ 24 → (∀ j, p 2 ≤ j → gBt B j = false) → 0 ≤ i → i + (gRk 24 F S : Int) ≤ 255 → Q (gBzf p F n S B) x m → WP d 65 59 [(0, zr 336), (2, zi F), (3, zi B), (4, zi S), (5, zi i)] [] 403 [] x m 403 [] Q
  | n, S, B, i => fun hn hS hB hzB i0 i1 h => by
    have hSl : S < 2 ^ 24 := by rw [← hS]; exact Nat.lt_of_le_of_lt Nat.and_le_right hF
    have hzS : ∀ j, p 2 ≤ j → gBt S j = false := fun j hj => sub_no hS (hz j hj)
    have eS : ∀ a, 0 ≤ a → a < p 2 → gBt S a = true → ∀ k, 0 ≤ k → k < 8 → x 338 (a * 8 + k) = gBr p a k := fun a a0 a1 b => e338 a a0 a1 (sub_bt hS b)
    by_cases cS : S = 0
    · subst cS
      rw [gBzf_0] at h
      have e0 : ((0 : Nat) : Int) = 0 := rfl
      apply r65_c59
      simp only [e0]
      clear e338 e337 eS
      repeat' (first | (with_reducible assumption) | (with_reducible rfl) | (with_reducible apply And.intro) | (with_reducible apply zIn_mk) | (with_reducible apply zLn_mk) | ((with_reducible intro _); try (exfalso; omega)) | omega | (with_reducible exact Or.inr trivial) | (with_reducible exact Or.inl trivial) | ((exact h)) | fail)
    · match n, hn with
      | 0, hn => exact absurd (by omega : S = 0) cS
      | n + 1, hn =>
        have S1 : ((S : Int)) - 1 = ((S - 1 : Nat) : Int) := by omega
        have ez : zand ((S : Int) - 1) F = (((S - 1) &&& F : Nat) : Int) := by rw [S1]; exact zand_nat (by omega) (by omega)
        have sF : ((S - 1) &&& F) &&& F = (S - 1) &&& F := by rw [Nat.and_assoc, Nat.and_self]
        have sL : (S - 1) &&& F ≤ S - 1 := Nat.and_le_left
        have mo := gRk_mono 24 F ((S - 1) &&& F) S sF hS (by omega) hSl
        have ih := fun B' hB' hz' hh => c65L (d := d) (m := m) (Q := Q) hd hX hP hI hIP c0 c1 hF hz e337 e338 n ((S - 1) &&& F) B' (i + 1) (by omega) sF hB' hz' (by omega) (by omega) hh
        have ihS := fun (b : gBet p S B) (c : 0 ≤ gCash p S) (l : gLn p S ≤ 0) => ih S hSl hzS (by rw [gBzf_y cS b c l] at h; exact h)
        have ihN := fun (b : ¬ gBet p S B) => ih B hB hzB (by rw [gBzf_n cS b] at h; exact h)
        have ihF := fun (b : gCash p S < 0 ∨ 0 < gLn p S) => ih B hB hzB (by rw [gBzf_f cS b] at h; exact h)
        obtain ⟨hIB, hIA, hIN, hIR⟩ := id hI
        have Sn : (S : Int) ≠ 0 := by omega
        have i2 : i < 256 := by omega
        obtain ⟨G, hG⟩ : ∃ G : Prop, G = gBet p S B := ⟨_, rfl⟩
        have g66 : ∀ {R : Int → zM → zM → Prop}, (G → R 1 x m) → (¬ G → R 0 x m) → WPc (d - 1) 66 [zr 336, zi S, zi B] 403 [] x m 403 [] R := fun r1 r0 => c66 (p := p) (fun d U Q hU h => c282 hU h) (by omega) hX.2.2.1 hIB hIA hSl hB hzS hzB (fun b => r1 (hG ▸ b)) (fun b => r0 (hG ▸ b))
        have g70 : ∀ {R : Int → zM → zM → Prop}, (0 ≤ gCash p S → gLn p S ≤ 0 → R 1 x m) → ((gCash p S < 0 ∨ 0 < gLn p S) → R 0 x m) → WPc (d - 1) 70 [zr 336, zi S] 403 [] x m 403 [] R := fun r1 r0 => c70 (p := p) (by omega) hX hP hIB hIA hIN hIP hSl hzS c0 c1 e337 eS r1 r0
        rw [← hG] at ihS ihN
        apply r65_c59
        simp only [ez]
        clear ih h ez hG mo e337 e338 eS hz hzS hzB
        repeat' (first | (with_reducible assumption) | (with_reducible rfl) | (with_reducible apply And.intro) | (with_reducible apply zIn_mk) | (with_reducible apply zLn_mk) | ((with_reducible intro _); try (exfalso; omega)) | omega | (with_reducible exact Or.inr trivial) | (with_reducible exact Or.inl trivial) | ((refine g66 ?_ ?_)) | ((refine g70 ?_ ?_)) | ((exact ihS (by assumption) (by assumption) (by assumption))) | ((exact ihN (by assumption))) | ((exact ihF (by assumption))) | fail)
termination_by n => n
theorem s263L {d F : Nat} {p : Int → Int} {x m : zM} {Q : Int → zM → zM → Prop} (hd : 3 ≤ d) (hp : m 387 = p) (hI : IX p) (hIP : IP p) (c0 : 0 ≤ p 6161) (c1 : p 6161 ≤ 131998200) (hF : F < 2 ^ 24) (hz : ∀ j, p 2 ≤ j → gBt F j = false) (e401 : ∀ k, 0 ≤ k → k < 8 → m 401 k = gCom p k) (e402 : ∀ a, 0 ≤ a → a < p 2 → gBt F a = true → ∀ k, 0 ≤ k → k < 8 → m 402 (8 * a + k) = gBr p a k) : ∀ (n S B : Nat), S ≤ n → S &&& F = S → B < 2 ^ 24 → Q (gBzf p F n S B) x m → WP d 263 89 [(0, zr 386), (2, zi F), (3, zi B), (4, zi S)] [] 403 [] x m 403 [] Q
  | n, S, B => fun hn hS hB h => by
    have hSl : S < 2 ^ 24 := by rw [← hS]; exact Nat.lt_of_le_of_lt Nat.and_le_right hF
    have eS : ∀ a, 0 ≤ a → a < p 2 → gBt S a = true → ∀ k, 0 ≤ k → k < 8 → m 402 (8 * a + k) = gBr p a k := fun a a0 a1 b => e402 a a0 a1 (sub_bt hS b)
    by_cases cS : S = 0
    · subst cS
      rw [gBzf_0] at h
      have e0 : ((0 : Nat) : Int) = 0 := rfl
      apply r263_c89
      simp only [e0]
      clear e402 e401 eS
      repeat' (first | (with_reducible assumption) | (with_reducible rfl) | (with_reducible apply And.intro) | (with_reducible apply zIn_mk) | (with_reducible apply zLn_mk) | ((with_reducible intro _); try (exfalso; omega)) | omega | (with_reducible exact Or.inr trivial) | (with_reducible exact Or.inl trivial) | ((exact h)) | fail)
    · match n, hn with
      | 0, hn => exact absurd (by omega : S = 0) cS
      | n + 1, hn =>
        have S1 : ((S : Int)) - 1 = ((S - 1 : Nat) : Int) := by omega
        have ez : zand ((S : Int) - 1) F = (((S - 1) &&& F : Nat) : Int) := by rw [S1]; exact zand_nat (by omega) (by omega)
        have sF : ((S - 1) &&& F) &&& F = (S - 1) &&& F := by rw [Nat.and_assoc, Nat.and_self]
        have sL : (S - 1) &&& F ≤ S - 1 := Nat.and_le_left
        have ih := fun B' hB' hh => s263L (d := d) (x := x) (m := m) (Q := Q) hd hp hI hIP c0 c1 hF hz e401 e402 n ((S - 1) &&& F) B' (by omega) sF hB' hh
        have ihS := fun (b : gBet p S B) (c : 0 ≤ gCash p S) (l : gLn p S ≤ 0) => ih S hSl (by rw [gBzf_y cS b c l] at h; exact h)
        have ihN := fun (b : ¬ gBet p S B) => ih B hB (by rw [gBzf_n cS b] at h; exact h)
        have ihF := fun (b : gCash p S < 0 ∨ 0 < gLn p S) => ih B hB (by rw [gBzf_f cS b] at h; exact h)
        obtain ⟨hIB, hIA, hIN, hIR⟩ := id hI
        have Sn : 0 < (S : Int) := by omega
        obtain ⟨G, hG⟩ : ∃ G : Prop, G = gBet p S B := ⟨_, rfl⟩
        have g262 : ∀ {R : Int → zM → zM → Prop}, (G → R 1 x m) → (¬ G → R 0 x m) → WPc (d - 1) 262 [zr 386, zi S, zi B] 403 [] x m 403 [] R := fun r1 r0 => s262 (p := p) (by omega) hp hIB hIA hSl hB (fun b => r1 (hG ▸ b)) (fun b => r0 (hG ▸ b))
        have g259 : ∀ {R : Int → zM → zM → Prop}, (0 ≤ gCash p S → gLn p S ≤ 0 → R 1 x m) → ((gCash p S < 0 ∨ 0 < gLn p S) → R 0 x m) → WPc (d - 1) 259 [zr 386, zi S] 403 [] x m 403 [] R := fun r1 r0 => s259 (p := p) (by omega) hp hIB hIA hIN hIP hSl c0 c1 e401 eS r1 r0
        rw [← hG] at ihS ihN
        apply r263_c89
        simp only [ez]
        clear ih h ez hG e401 e402 eS hz
        repeat' (first | (with_reducible assumption) | (with_reducible rfl) | (with_reducible apply And.intro) | (with_reducible apply zIn_mk) | (with_reducible apply zLn_mk) | ((with_reducible intro _); try (exfalso; omega)) | omega | (with_reducible exact Or.inr trivial) | (with_reducible exact Or.inl trivial) | ((refine g262 ?_ ?_)) | ((refine g259 ?_ ?_)) | ((exact ihS (by assumption) (by assumption) (by assumption))) | ((exact ihN (by assumption))) | ((exact ihF (by assumption))) | fail)
termination_by n => n

