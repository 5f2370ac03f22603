/-! FILLS, COPIES, FEEDING, SUSPECTS, WRONG BOOKS -/
theorem zor_0 {a : Int} (h : zIn a) : zor a 0 = a := by
  unfold zor
  have e : Int32.ofInt 0 = 0 := rfl
  rw [e, Int32.or_zero]
  unfold zIn at h
  exact Int32.toInt_ofInt_of_le (by simp [Int32.minValue]; omega) (by simp [Int32.maxValue]; omega)
theorem zor_in (a b : Int) : zIn (zor a b) := by unfold zor zIn; have h1 := Int32.le_toInt (Int32.ofInt a ||| Int32.ofInt b); have h2 := Int32.toInt_lt (Int32.ofInt a ||| Int32.ofInt b); omega
theorem zand_255 (a : Int) : 0 ≤ zand a 255 ∧ zand a 255 ≤ 255 := by
  have h : (Int32.ofInt a &&& Int32.ofInt 255).toBitVec.toNat ≤ 255 := by
    rw [Int32.toBitVec_and, BitVec.toNat_and]
    have e : (Int32.ofInt 255).toBitVec.toNat = 255 := by decide
    rw [e]
    exact Nat.and_le_right
  have h2 : zand a 255 = ((Int32.ofInt a &&& Int32.ofInt 255).toBitVec.toNat : Int) := by
    show (Int32.ofInt a &&& Int32.ofInt 255).toBitVec.toInt = _
    exact BitVec.toInt_eq_toNat_of_lt (by omega)
  omega
def gFi (p : Int → Int) (lo n : Int) : Int → Int := fun i => if lo ≤ i ∧ i < lo + n then 0 else p i
theorem zfil_P (m : zM) (lo n : Int) : zfil m 387 lo n 0 = zP m (gFi (m 387) lo n) := by
  funext k i; unfold zfil zP gFi
  by_cases c : k = 387
  · subst c; by_cases c2 : lo ≤ i ∧ i < lo + n
    · rw [if_pos ⟨rfl, c2⟩, if_pos rfl, if_pos c2]
    · rw [if_neg (fun e => c2 e.2), if_pos rfl, if_neg c2]
  · rw [if_neg (fun e => c e.1), if_neg c]
theorem gFi_in {p : Int → Int} {lo n i : Int} (h : lo ≤ i ∧ i < lo + n) : gFi p lo n i = 0 := if_pos h
theorem gFi_ne {p : Int → Int} {lo n i : Int} (h : i < lo ∨ lo + n ≤ i) : gFi p lo n i = p i := if_neg (by omega)
theorem s255l {d : Nat} {a v : Int} {x m : zM} {Q : Int → zM → zM → Prop} (a0 : 0 ≤ a) (a1 : a < 4) (h : Q v x (zP m (gFi (m 387) (5110 + 8 * a) 8))) : WP d 255 40 [(0, zr 386), (1, zi a), (2, zi v), (3, zi 0)] [] 403 [] x m 403 [] Q := by
  have loop : ∀ j, 0 ≤ j → j ≤ 8 → WP d 255 40 [(0, zr 386), (1, zi a), (2, zi v), (3, zi j)] [] 403 [] x (zfil m 387 (5110 + 8 * a) j 0) 403 [] Q := by
    refine zdown 8 _ ?_
    intro j j0 j1 ih
    apply r255_c40
    repeat' (first | (with_reducible assumption) | (with_reducible rfl) | (with_reducible apply And.intro) | (with_reducible apply zIn_mk) | (with_reducible apply zLn_mk) | ((with_reducible intro _); try (exfalso; omega)) | omega | (with_reducible exact Or.inr trivial) | (with_reducible exact Or.inl trivial) | ((rw [zfil_s _ _ _ _ _ (by omega)]; exact ih (by omega))) | ((rw [show j = 8 by omega, zfil_P]; exact h)) | fail)
  have := loop 0 (by omega) (by omega)
  rwa [zfil_0] at this
theorem s275l {d : Nat} {v : Int} {x m : zM} {Q : Int → zM → zM → Prop} (h : Q v x (zfil m 395 0 12 0)) : WP d 275 31 [(0, zr 386), (1, zi v), (2, zi 0)] [] 403 [] x m 403 [] Q := by
  have loop : ∀ j, 0 ≤ j → j ≤ 12 → WP d 275 31 [(0, zr 386), (1, zi v), (2, zi j)] [] 403 [] x (zfil m 395 0 j 0) 403 [] Q := by
    refine zdown 12 _ ?_
    intro j j0 j1 ih
    have e := zfil_s m 395 0 j 0 j0
    rw [Int.zero_add] at e
    apply r275_c31
    repeat' (first | (with_reducible assumption) | (with_reducible rfl) | (with_reducible apply And.intro) | (with_reducible apply zIn_mk) | (with_reducible apply zLn_mk) | ((with_reducible intro _); try (exfalso; omega)) | omega | (with_reducible exact Or.inr trivial) | (with_reducible exact Or.inl trivial) | ((rw [e]; exact ih (by omega))) | ((rw [show j = 12 by omega]; exact h)) | fail)
  have := loop 0 (by omega) (by omega)
  rwa [zfil_0] at this
theorem zcpy_ne (x : zM) {ks kd k : Nat} (sp dp n : Int) (h : k ≠ kd) : zcpy x ks sp kd dp n k = x k := by funext i; unfold zcpy; rw [if_neg (fun e => h e.1)]
theorem zcpy_0 (x : zM) (k : Nat) (sp dp : Int) : zcpy x k sp k dp 0 = x := by funext k' i; unfold zcpy; rw [if_neg (by omega)]
theorem zcpy_in (x : zM) {ks kd : Nat} {sp dp n i : Int} (h : dp ≤ i ∧ i < dp + n) : zcpy x ks sp kd dp n kd i = x ks (sp + (i - dp)) := by unfold zcpy; rw [if_pos ⟨rfl, h⟩]
theorem zcpy_out (x : zM) {ks kd : Nat} {sp dp n i : Int} (h : i < dp ∨ dp + n ≤ i) : zcpy x ks sp kd dp n kd i = x kd i := by unfold zcpy; rw [if_neg (by omega)]
theorem zcpy_up (x : zM) (k : Nat) (i j t : Int) (h0 : 0 ≤ t) (h : j ≤ i) : zupd (zcpy x k i k j t) k (j + t) (zcpy x k i k j t k (i + t)) = zcpy x k i k j (t + 1) := by
  rw [zcpy_out x (by omega)]
  funext k' z
  unfold zupd
  by_cases c : k' = k
  · subst c
    by_cases c2 : z = j + t
    · rw [if_pos ⟨rfl, c2⟩, zcpy_in x (by omega)]; congr 1; omega
    · rw [if_neg (fun e => c2 e.2)]
      by_cases c3 : j ≤ z ∧ z < j + t
      · rw [zcpy_in x c3, zcpy_in x (by omega)]
      · rw [zcpy_out x (by omega), zcpy_out x (by omega)]
  · rw [if_neg (fun e => c e.1), zcpy_ne x _ _ _ c, zcpy_ne x _ _ _ c]
theorem zcpy_dn (x : zM) (k : Nat) (i j t n : Int) (h0 : 0 ≤ t) (h1 : t < n) (h : i < j) : zupd (zcpy x k (i + (n - t)) k (j + (n - t)) t) k (j + (n - 1 - t)) (zcpy x k (i + (n - t)) k (j + (n - t)) t k (i + (n - 1 - t))) = zcpy x k (i + (n - (t + 1))) k (j + (n - (t + 1))) (t + 1) := by
  rw [zcpy_out x (by omega)]
  funext k' z
  unfold zupd
  by_cases c : k' = k
  · subst c
    by_cases c2 : z = j + (n - 1 - t)
    · rw [if_pos ⟨rfl, c2⟩, zcpy_in x (by omega)]; congr 1; omega
    · rw [if_neg (fun e => c2 e.2)]
      by_cases c3 : j + (n - t) ≤ z ∧ z < j + (n - t) + t
      · rw [zcpy_in x c3, zcpy_in x (by omega)]; congr 1; omega
      · rw [zcpy_out x (by omega), zcpy_out x (by omega)]
  · rw [if_neg (fun e => c e.1), zcpy_ne x _ _ _ c, zcpy_ne x _ _ _ c]
theorem s279l {d : Nat} {i j n : Int} {x m : zM} {Q : Int → zM → zM → Prop} (i0 : 0 ≤ i) (j0 : 0 ≤ j) (n0 : 0 ≤ n) (i1 : i + n ≤ 12) (j1 : j + n ≤ 12) (h : Q n x (zcpy m 395 i 395 j n)) : WP d 279 79 [(0, zr 386), (1, zi i), (2, zi j), (3, zi n), (4, zi 0)] [] 403 [] x m 403 [] Q := by
  by_cases c : j ≤ i
  · have loop : ∀ t, 0 ≤ t → t ≤ n → WP d 279 79 [(0, zr 386), (1, zi i), (2, zi j), (3, zi n), (4, zi t)] [] 403 [] x (zcpy m 395 i 395 j t) 403 [] Q := by
      refine zdown n _ ?_
      intro t t0 t1 ih
      apply r279_c79
      repeat' (first | (with_reducible assumption) | (with_reducible rfl) | (with_reducible apply And.intro) | (with_reducible apply zIn_mk) | (with_reducible apply zLn_mk) | ((with_reducible intro _); try (exfalso; omega)) | omega | (with_reducible exact Or.inr trivial) | (with_reducible exact Or.inl trivial) | ((rw [zcpy_up _ _ _ _ _ (by omega) c]; exact ih (by omega))) | ((rw [show zcpy m 395 i 395 j t = zcpy m 395 i 395 j n by rw [show t = n by omega]]; exact h)) | fail)
    have := loop 0 (by omega) n0
    rwa [zcpy_0] at this
  · have loop : ∀ t, 0 ≤ t → t ≤ n → WP d 279 79 [(0, zr 386), (1, zi i), (2, zi j), (3, zi n), (4, zi t)] [] 403 [] x (zcpy m 395 (i + (n - t)) 395 (j + (n - t)) t) 403 [] Q := by
      refine zdown n _ ?_
      intro t t0 t1 ih
      apply r279_c79
      repeat' (first | (with_reducible assumption) | (with_reducible rfl) | (with_reducible apply And.intro) | (with_reducible apply zIn_mk) | (with_reducible apply zLn_mk) | ((with_reducible intro _); try (exfalso; omega)) | omega | (with_reducible exact Or.inr trivial) | (with_reducible exact Or.inl trivial) | ((rw [zcpy_dn _ _ _ _ _ _ (by omega) (by omega) (by omega)]; exact ih (by omega))) | ((rw [show zcpy m 395 (i + (n - t)) 395 (j + (n - t)) t = zcpy m 395 i 395 j n by rw [show t = n by omega, Int.sub_self, Int.add_zero, Int.add_zero]]; exact h)) | fail)
    have := loop 0 (by omega) n0
    rwa [zcpy_0] at this
theorem t_calm {d dM N : Nat} {a : Int} {x m : zM} {Q : Int → zM → zM → Prop} (hd : 40 ≤ d) (hdM : 40 ≤ dM) (hNN : N ≤ 600) (hI : Inv N x m) (K : ∀ q x', MOK N dM 255 [zr 386, zi a] q x' m → Q q x' m) : WPc d 143 [zr 0, zi a] 403 [] x m 403 [] Q := by
  obtain ⟨hF, hIF, hK, hO⟩ := id hI
  have hX := hF.1
  have hIx := hIF.1
  have hB := hIx.1
  have hA := hIx.2.1
  have hN := hIx.2.2.1
  have hM := hIF.2.1
  have hE := hIF.2.2.1
  have hb := hB; unfold IB at hb
  have hRL := hX.2.1
  have hRA := hX.2.2.1
  have hRN := hX.2.2.2.1
  have e10 : x 1 0 = m 387 0 := hX.1.1
  have e11 : x 1 1 = m 387 1 := hX.1.2.1
  have hT := hF.2.2.1
  have hIT := hIF.2.2.2.2.2.2.1
  have hPr := hF.2.2.2
  have hIP := hIF.2.2.2.2.2.2.2
  have e77 : x 7 7 = m 387 6161 := hRL.2.2.2.1
  have eT1 : x 150 1 = m 387 8 := hT.1
  have eT4 : x 150 4 = m 387 7 := hT.2.1
  have hc0 := hIF.2.2.2.2.2.1.1
  have ed := hPr.1 a
  apply r143
  repeat' (first | (with_reducible assumption) | (with_reducible rfl) | (with_reducible apply And.intro) | (with_reducible apply zIn_mk) | (with_reducible apply zLn_mk) | (simp only [zP_up, zP_eq, zP_zP]) | (simp (disch := omega) only [up_ne, up_at]) | ((with_reducible intro _); try (exfalso; omega)) | omega | (with_reducible exact Or.inr trivial) | (with_reducible exact Or.inl trivial) | ((refine r284 (k := 158) (len := 8) rfl rfl ?_)) | ((refine s255l (by omega) (by omega) ?_)) | (with_reducible apply k161) | (with_reducible apply k162) | (with_reducible apply k163) | (with_reducible apply k164) | (with_reducible apply k165) | (with_reducible apply k166) | (with_reducible apply k167) | ((refine K _ _ ?_; intro Q' hQ; apply r255)) | (with_reducible apply s171) | (with_reducible apply s172) | (with_reducible apply s173) | (with_reducible apply s174) | (with_reducible apply s175) | (with_reducible apply s176) | ((refine zQe (hQ _ _ ?_ ?_) ?_)) | ((exact zP_ne _ _ (by decide))) | ((exact zP_eq _ _)) | ((exact Inv_c (by omega) (by omega) hI)) | ((exact Inv_s (zSx.rf _) (zSame.rf _) hI)) | ((exact zu_ne _ _ _ (by decide))) | fail)
  · have ez : zoff (zw 158 a) 0 = a * 8 := by show a * 8 + 0 = a * 8; omega
    rw [ez]
    refine Inv_w hI (RF_P hB hN hIx.2.2.2 hF ?_ ?_ ?_) (IF_P hIF (by omega) ?_ ?_ ?_) ?_
    · refine ⟨fun k k0 k1 => ?_, fun r k r0 r1 k0 k1 => ?_⟩
      · simp (disch := omega) only [zu_eq, zfil_ne, gFi_ne]
        by_cases c : k = a
        · simp (disch := omega) only [up_at]
        · simp (disch := omega) only [up_ne]; exact hPr.1 k k0 k1
      · by_cases c : r = a
        · rw [zfil_at _ _ _ _ _ _ (by omega), gFi_in (by omega)]
        · rw [gFi_ne (by omega), up_ne (by omega)]
          unfold zfil
          rw [if_neg (by omega), zu_ne _ _ _ (by decide)]
          exact hPr.2 r k r0 r1 k0 k1
    · intro k k0 k1 k2; rw [zfil_ne _ _ _ _ (by omega), zu_ne _ _ _ (by omega)]
    · intro i i0; rw [gFi_ne (by omega), up_ne (by omega)]
    · unfold IB at *; simp (disch := omega) only [gFi_ne, up_ne]; omega
    · refine ⟨fun k k0 k1 => ?_, fun r k r0 r1 k0 k1 => ?_⟩
      · rw [gFi_ne (by omega)]
        by_cases c : k = a
        · rw [up_at (by omega)]; omega
        · rw [up_ne (by omega)]; exact hIP.1 k k0 k1
      · by_cases c : r = a
        · rw [gFi_in (by omega)]; omega
        · rw [gFi_ne (by omega), up_ne (by omega)]; exact hIP.2 r k r0 r1 k0 k1
    · intro i i0; rw [gFi_ne (by omega), up_ne (by omega)]
    · intro k k0 k1; rw [zfil_ne _ _ _ _ (by omega), zu_ne _ _ _ (by omega)]

theorem t_layc {d dM N : Nat} {a : Int} {x m : zM} {Q : Int → zM → zM → Prop} (hd : 40 ≤ d) (hdM : 40 ≤ dM) (hNN : N ≤ 600) (hI : Inv N x m) (K : ∀ q x', MOK N dM 275 [zr 386, zi a] q x' m → Q q x' m) : WPc d 155 [zr 0, zi a] 403 [] x m 403 [] Q := by
  obtain ⟨hF, hIF, hK, hO⟩ := id hI
  have hX := hF.1
  have hIx := hIF.1
  have hB := hIx.1
  have hA := hIx.2.1
  have hN := hIx.2.2.1
  have hM := hIF.2.1
  have hE := hIF.2.2.1
  have hb := hB; unfold IB at hb
  have hRL := hX.2.1
  have hRA := hX.2.2.1
  have hRN := hX.2.2.2.1
  have e10 : x 1 0 = m 387 0 := hX.1.1
  have e11 : x 1 1 = m 387 1 := hX.1.2.1
  have hr := hO.2.2.2.1
  have ht := hO.2.1
  apply r155
  repeat' (first | (with_reducible assumption) | (with_reducible rfl) | (with_reducible apply And.intro) | (with_reducible apply zIn_mk) | (with_reducible apply zLn_mk) | ((with_reducible intro _); try (exfalso; omega)) | omega | (with_reducible exact Or.inr trivial) | (with_reducible exact Or.inl trivial) | ((refine r284 (k := 328) (len := 12) rfl rfl ?_)) | ((refine s275l ?_)) | ((simp (disch := omega) only [zu_ne, zfil_ne]; done)) | (with_reducible apply k161) | (with_reducible apply k162) | (with_reducible apply k163) | (with_reducible apply k164) | (with_reducible apply k165) | (with_reducible apply k166) | (with_reducible apply k167) | ((refine K _ _ ?_; intro Q' hQ; apply r275)) | (with_reducible apply s171) | (with_reducible apply s172) | (with_reducible apply s173) | (with_reducible apply s174) | (with_reducible apply s175) | (with_reducible apply s176) | ((refine zQe (hQ _ _ ?_ ?_) ?_)) | ((exact zP_ne _ _ (by decide))) | ((exact zP_eq _ _)) | ((exact Inv_c (by omega) (by omega) hI)) | ((exact Inv_s (zSx.rf _) (zSame.rf _) hI)) | ((exact zu_ne _ _ _ (by decide))) | fail)
  · refine Inv_o hI (fun k k0 k1 => by simp (disch := omega) only [zu_ne, zfil_ne, zcpy_ne]) ?_ ?_ ?_ ?_ ?_ ?_ ?_
    all_goals first | (simp (disch := omega) only [zu_ne, zu_eq, zfil_ne, zcpy_ne, up_ne, up_at]; done) | skip
    · refine ⟨?_, ?_, ?_, ?_, fun k k0 k1 => ?_, ?_⟩
      · simp (disch := omega) only [zu_ne, zfil_ne]; exact hO.1
      · simp (disch := omega) only [zu_ne, zu_eq, zfil_ne, up_ne]; exact hO.2.1
      · simp (disch := omega) only [zu_ne, zu_eq, zfil_ne, up_ne]; exact hO.2.2.1
      · simp (disch := omega) only [zu_ne, zu_eq, zfil_ne, up_at]; exact Or.inr ⟨by omega, by omega, by first | rfl | trivial⟩
      · simp (disch := omega) only [zu_ne]
        rw [show zoff (zr 328) 0 = 0 from rfl, zfil_at _ _ _ _ _ _ (by omega), zfil_at _ _ _ _ _ _ (by omega)]
      · simp (disch := omega) only [zu_ne, zfil_ne]; exact hO.2.2.2.2.2

theorem t_copy {d dM N : Nat} {a b c : Int} {x m : zM} {Q : Int → zM → zM → Prop} (hd : 40 ≤ d) (hdM : 40 ≤ dM) (hNN : N ≤ 600) (hI : Inv N x m) (K : ∀ q x', MOK N dM 279 [zr 386, zi a, zi b, zi c] q x' m → Q q x' m) : WPc d 159 [zr 0, zi a, zi b, zi c] 403 [] x m 403 [] Q := by
  obtain ⟨hF, hIF, hK, hO⟩ := id hI
  have hX := hF.1
  have hIx := hIF.1
  have hB := hIx.1
  have hA := hIx.2.1
  have hN := hIx.2.2.1
  have hM := hIF.2.1
  have hE := hIF.2.2.1
  have hb := hB; unfold IB at hb
  have hRL := hX.2.1
  have hRA := hX.2.2.1
  have hRN := hX.2.2.2.1
  have e10 : x 1 0 = m 387 0 := hX.1.1
  have e11 : x 1 1 = m 387 1 := hX.1.2.1
  have hr := hO.2.2.2.1
  have ht := hO.2.1
  apply r159
  repeat' (first | (with_reducible assumption) | (with_reducible rfl) | (with_reducible apply And.intro) | (with_reducible apply zIn_mk) | (with_reducible apply zLn_mk) | ((with_reducible intro _); try (exfalso; omega)) | omega | (with_reducible exact Or.inr trivial) | (with_reducible exact Or.inl trivial) | ((unfold zIn at *; omega)) | ((refine s279l (by omega) (by omega) (by omega) (by omega) (by omega) ?_)) | ((simp (disch := omega) only [zcpy_ne]; done)) | (with_reducible apply k161) | (with_reducible apply k162) | (with_reducible apply k163) | (with_reducible apply k164) | (with_reducible apply k165) | (with_reducible apply k166) | (with_reducible apply k167) | ((refine K _ _ ?_; intro Q' hQ; apply r279)) | (with_reducible apply s171) | (with_reducible apply s172) | (with_reducible apply s173) | (with_reducible apply s174) | (with_reducible apply s175) | (with_reducible apply s176) | ((refine zQe (hQ _ _ ?_ ?_) ?_)) | ((exact zP_ne _ _ (by decide))) | ((exact zP_eq _ _)) | ((exact Inv_c (by omega) (by omega) hI)) | ((exact Inv_s (zSx.rf _) (zSame.rf _) hI)) | ((exact zu_ne _ _ _ (by decide))) | fail)
  · refine Inv_o hI (fun k k0 k1 => by simp (disch := omega) only [zu_ne, zfil_ne, zcpy_ne]) ?_ ?_ ?_ ?_ ?_ ?_ ?_
    all_goals first | (simp (disch := omega) only [zu_ne, zu_eq, zfil_ne, zcpy_ne, up_ne, up_at]; done) | skip
    · refine ⟨?_, ?_, ?_, ?_, fun k k0 k1 => ?_, ?_⟩
      · simp (disch := omega) only [zcpy_ne]; exact hO.1
      · simp (disch := omega) only [zcpy_ne]; exact hO.2.1
      · simp (disch := omega) only [zcpy_ne]; exact hO.2.2.1
      · simp (disch := omega) only [zcpy_ne]; exact hO.2.2.2.1
      · show zcpy x 328 a 328 b c 328 k = _
        by_cases u : b ≤ k ∧ k < b + c
        · rw [zcpy_in _ u, zcpy_in _ u]; exact hO.2.2.2.2.1 _ (by omega) (by omega)
        · rw [zcpy_out _ (by omega), zcpy_out _ (by omega)]; exact hO.2.2.2.2.1 k k0 k1
      · simp (disch := omega) only [zcpy_ne]; exact hO.2.2.2.2.2

