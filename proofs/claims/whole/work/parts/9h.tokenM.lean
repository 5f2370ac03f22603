/-! THE MODEL READS A TOKEN -/
theorem zl_bv {n : Nat} (h : n < 2 ^ 63) : (Int64.ofInt (n : Int)).toBitVec.toNat = n := by
  show (BitVec.ofInt 64 (n : Int)).toNat = n
  rw [BitVec.toNat_ofInt]
  omega
theorem zl_int {a : Int64} {n : Nat} (h : n < 2 ^ 63) (e : a.toBitVec.toNat = n) : a.toInt = n := by
  show a.toBitVec.toInt = n
  rw [BitVec.toInt_eq_toNat_of_lt (by omega), e]
theorem zlshl_8 {w : Nat} (h : w < 2 ^ 48) : zlshl w 8 = ((w * 256 : Nat) : Int) := by
  unfold zlshl
  have e : (Int32.ofInt 8).toInt64 &&& 63 = (8 : Int64) := by decide
  rw [e]
  refine zl_int (by omega) ?_
  rw [Int64.toBitVec_shiftLeft]
  have e2 : ((8 : Int64).toBitVec.smod 64).toNat = 8 := by decide
  show ((Int64.ofInt (w : Int)).toBitVec <<< ((8 : Int64).toBitVec.smod 64).toNat).toNat = _
  rw [e2, BitVec.toNat_shiftLeft, zl_bv (by omega), Nat.shiftLeft_eq]
  omega
theorem zlor_nat {a b : Nat} (ha : a < 2 ^ 63) (hb : b < 2 ^ 63) : zlor a b = ((a ||| b : Nat) : Int) := by
  unfold zlor
  refine zl_int (Nat.or_lt_two_pow ha hb) ?_
  rw [Int64.toBitVec_or, BitVec.toNat_or, zl_bv ha, zl_bv hb]
theorem zlor_b {w c : Int} (w0 : 0 ≤ w) (w1 : w < 281474976710656) (c0 : 0 ≤ c) (c1 : c < 256) : zlor (zlshl w 8) c = w * 256 + c := by
  obtain ⟨a, rfl⟩ := Int.eq_ofNat_of_zero_le w0
  obtain ⟨b, rfl⟩ := Int.eq_ofNat_of_zero_le c0
  rw [zlshl_8 (by omega), zlor_nat (by omega) (by omega)]
  have e : a * 256 ||| b = a * 256 + b := by
    have := Nat.shiftLeft_add_eq_or_of_lt (show b < 2 ^ 8 by omega) a
    rw [Nat.shiftLeft_eq] at this
    exact this.symm
  rw [e]
  omega
def pkN (t : Int → Int) (b : Int) : Nat → Int
  | 0 => 0
  | n + 1 => pkN t b n * 256 + t (b + n)
def pkI (t : Int → Int) (b n : Int) : Int := pkN t b n.toNat
theorem pkI_s {t : Int → Int} {b n : Int} (h : 0 ≤ n) : pkI t b (n + 1) = pkI t b n * 256 + t (b + n) := by
  unfold pkI
  have e : (n + 1).toNat = n.toNat + 1 := by omega
  have e2 : (n.toNat : Int) = n := by omega
  rw [e, pkN, e2]
theorem pkN_0 {t : Int → Int} {b : Int} : ∀ n : Nat, (∀ i : Nat, i < n → 97 ≤ t (b + i) ∧ t (b + i) ≤ 122) → 0 ≤ pkN t b n
  | 0 => fun _ => Int.le_refl _
  | n + 1 => fun h => by
    have a := pkN_0 (t := t) (b := b) n (fun i hi => h i (by omega))
    have c := h n (by omega)
    rw [pkN]; omega
theorem pk_i {t : Int → Int} {b o : Int} : ∀ n L : Nat, (∀ i : Nat, i < n → 97 ≤ t (b + i) ∧ t (b + i) ≤ 122) → (∀ i : Nat, i < L → 97 ≤ zChr (o + i) ∧ zChr (o + i) ≤ 122) → pkN t b n = pkN zChr o L → n = L ∧ gAl t b o n = true
  | 0, 0 => fun _ _ _ => ⟨rfl, rfl⟩
  | 0, L + 1 => fun _ h2 e => by
    have a := pkN_0 (t := zChr) (b := o) L (fun i hi => h2 i (by omega))
    have c := h2 L (by omega)
    rw [pkN, pkN] at e; omega
  | n + 1, 0 => fun h1 _ e => by
    have a := pkN_0 (t := t) (b := b) n (fun i hi => h1 i (by omega))
    have c := h1 n (by omega)
    rw [pkN, pkN] at e; omega
  | n + 1, L + 1 => fun h1 h2 e => by
    have a := h1 n (by omega)
    have c := h2 L (by omega)
    rw [pkN, pkN] at e
    obtain ⟨g1, g2⟩ := pk_i n L (fun i hi => h1 i (by omega)) (fun i hi => h2 i (by omega)) (by omega)
    subst g1
    refine ⟨rfl, ?_⟩
    rw [gAl, g2, decide_eq_true (by omega)]; rfl
theorem pk_e {t : Int → Int} {b o : Int} : ∀ n : Nat, gAl t b o n = true → pkN t b n = pkN zChr o n
  | 0 => fun _ => rfl
  | n + 1 => fun h => by
    rw [gAl] at h
    have h1 : gAl t b o n = true := by
      cases e : gAl t b o n with
      | true => rfl
      | false => rw [e, Bool.false_and] at h; cases h
    rw [h1, Bool.true_and] at h
    rw [pkN, pkN, pk_e n h1, of_decide_eq_true h]
theorem gWd_n : ∀ k : Nat, k < 20 → gWd k = pkN zChr (gWo k) (gWl k).toNat := by decide +kernel
theorem gWd_m {t : Int → Int} {b e k : Int} (k0 : 0 ≤ k) (k1 : k < 20) (hb : b ≤ e) (hl : ∀ i, b ≤ i → i < e → 97 ≤ t i ∧ t i ≤ 122) : gWd k = pkI t b (e - b) ↔ jMt t b e k = true := by
  obtain ⟨⟨l0, l1⟩, ⟨o0, o1⟩, cs, on, cl⟩ := jW_f k0 k1
  have ek : gWd k = pkN zChr (gWo k) (gWl k).toNat := by
    obtain ⟨n, rfl⟩ := Int.eq_ofNat_of_zero_le k0
    exact gWd_n n (by omega)
  have h1 : ∀ i : Nat, i < (e - b).toNat → 97 ≤ t (b + i) ∧ t (b + i) ≤ 122 := fun i hi => hl _ (by omega) (by omega)
  have h2 : ∀ i : Nat, i < (gWl k).toNat → 97 ≤ zChr (gWo k + i) ∧ zChr (gWo k + i) ≤ 122 := fun i hi => cl i (by omega) (by omega)
  unfold jMt pkI
  rw [ek]
  constructor
  · intro h
    obtain ⟨g1, g2⟩ := pk_i _ _ h1 h2 h.symm
    rw [decide_eq_true (by omega), Bool.true_and]
    unfold gAi
    rw [← g1]; exact g2
  · intro h
    by_cases c : e - b = gWl k
    · rw [decide_eq_true c, Bool.true_and] at h
      unfold gAi at h
      rw [c, pk_e _ h]
    · rw [decide_eq_false c, Bool.false_and] at h; cases h
def jMk (k : Int) : Int := if k = 0 then 0 else if k = 1 then -1 else if k = 2 then 1 else if k = 3 then 3 else if k = 4 then 2 else if 5 ≤ k ∧ k ≤ 8 then k - 1 else k
theorem jmw_n : ∀ n : Nat, n < 21 → jMk (jWk ((n : Int) - 1)) = (if (n : Int) - 1 = -1 then -1 else if (n : Int) - 1 < 6 then 3 else if (n : Int) - 1 < 16 then 2 else (n : Int) - 1 - 12) := by decide +kernel
theorem jmw {w : Int} (h0 : -1 ≤ w) (h1 : w < 20) : jMk (jWk w) = (if w = -1 then -1 else if w < 6 then 3 else if w < 16 then 2 else w - 12) := by
  have := jmw_n (w + 1).toNat (by omega)
  rwa [show ((w + 1).toNat : Int) - 1 = w by omega] at this
/-- the model's tape and words -/
def jTm (m : zM) (t : Int → Int) (T : Int) : Prop := (0 ≤ T ∧ T ≤ 120) ∧ m 386 9 = T ∧ (∀ i, 0 ≤ i → i < T → m 394 i = t i ∧ 0 ≤ t i ∧ t i ≤ 255) ∧ (∀ k, 0 ≤ k → k < 20 → m 396 k = gWd k)
def jG (m m' : zM) : Prop := (∀ k, k ≠ 386 → m' k = m k) ∧ (∀ i, i ≠ 12 → i ≠ 13 → i ≠ 14 → i ≠ 15 → m' 386 i = m 386 i)
theorem jG.rf (m : zM) : jG m m := ⟨fun _ _ => rfl, fun _ _ _ _ _ => rfl⟩
theorem jG.tr {x x' x'' : zM} (h : jG x x') (h' : jG x' x'') : jG x x'' := ⟨fun k a => by rw [h'.1 k a, h.1 k a], fun i a b c d => by rw [h'.2 i a b c d, h.2 i a b c d]⟩
theorem jG.u {x x' : zM} (h : jG x x') {i v : Int} (hi : i = 12 ∨ i = 13 ∨ i = 14 ∨ i = 15) : jG x (zupd x' 386 i v) := ⟨fun k a => by rw [zu_ne _ _ _ a]; exact h.1 k a, fun j a b c d => by rw [zu_eq, up_ne (by omega)]; exact h.2 j a b c d⟩
theorem jTm_f {m m' : zM} {t : Int → Int} {T : Int} (h : jG m m') (r : jTm m t T) : jTm m' t T := ⟨r.1, by rw [h.2 9 (by decide) (by decide) (by decide) (by decide)]; exact r.2.1, by rw [h.1 394 (by decide)]; exact r.2.2.1, by rw [h.1 396 (by decide)]; exact r.2.2.2⟩
def jPb (w n : Int) : Prop := 0 ≤ w ∧ (n ≤ 0 → w < 1) ∧ (n ≤ 1 → w < 256) ∧ (n ≤ 2 → w < 65536) ∧ (n ≤ 3 → w < 16777216) ∧ (n ≤ 4 → w < 4294967296) ∧ (n ≤ 5 → w < 1099511627776) ∧ (n ≤ 6 → w < 281474976710656) ∧ w < 72057594037927936
theorem s220 {d : Nat} {t : Int → Int} {T b e : Int} {x m : zM} {Q : Int → zM → zM → Prop} (hd : 2 ≤ d) (hT : jTm m t T) (ea : m 386 12 = b) (b0 : 0 ≤ b) (b1 : b ≤ T) (he : gSn t T 97 122 b = e) (h : ∀ m', jG m m' → m' 386 12 = e → m' 386 13 = m 386 13 → m' 386 14 = jMk (jWk (gWn t b e)) → (2 ≤ jWk (gWn t b e) → jWk (gWn t b e) ≤ 4 → m' 386 15 = jWv (gWn t b e)) → Q 0 x m') : WPc d 220 [zr 386] 403 [] x m 403 [] Q := by
  have find : ∀ y, jG m y → y 386 12 = e → y 386 13 = m 386 13 → b ≤ e → (∀ i, b ≤ i → i < e → 97 ≤ t i ∧ t i ≤ 122) → ∀ v, (e - b ≤ 7 → v = pkI t b (e - b)) → ∀ k, 0 ≤ k → k ≤ 20 → gWj t b e k = gWn t b e → WP d 220 79 [(0, zr 386), (1, zl v), (3, zi (e - b)), (4, zi k)] [] 403 [] x y 403 [] Q := by
    intro y M1 y12 y13 be hl v hv
    obtain ⟨⟨T0, T1⟩, eT, ht, hw⟩ := jTm_f M1 hT
    have eT' : e - b ≤ 120 := by have := (gSn_bd (t := t) (lo := 97) (hi := 122) b1).2; omega
    obtain ⟨w, hw0⟩ : ∃ w, w = gWn t b e := ⟨_, rfl⟩
    rw [← hw0] at h ⊢
    have fin := fun tk vv (hk : tk = jMk (jWk w)) (hvv : 2 ≤ jWk w → jWk w ≤ 4 → vv = jWv w) => h (zupd (zupd y 386 14 tk) 386 15 vv) ((M1.u (by omega)).u (by omega)) (by rw [zu_eq, up_ne (by omega), zu_eq, up_ne (by omega)]; exact y12) (by rw [zu_eq, up_ne (by omega), zu_eq, up_ne (by omega)]; exact y13) (by rw [zu_eq, up_ne (by omega), zu_eq, up_at rfl]; exact hk) (fun q q' => by rw [zu_eq, up_at rfl]; exact hvv q q')
    clear h
    refine zdown 20 _ ?_
    intro k k0 k1 ih hk
    apply r220_c79
    by_cases c : k = 20
    · subst c
      rw [gWj_e] at hk
      subst hk
      clear ih hl hv ht hw hw0
      repeat' (first | (with_reducible assumption) | (with_reducible rfl) | (with_reducible apply And.intro) | (with_reducible apply zIn_mk) | (with_reducible apply zLn_mk) | ((with_reducible intro _); try (exfalso; omega)) | omega | (with_reducible exact Or.inr trivial) | (with_reducible exact Or.inl trivial) | ((exact fin _ _ (by decide) (fun q => absurd q (by decide)))) | fail)
    · have ek := hw k k0 (by omega)
      have gm := gWd_m k0 (show k < 20 by omega) be hl
      have lk := jW_f k0 (show k < 20 by omega)
      simp only [ek]
      by_cases cm : jMt t b e k = true
      · rw [gWj_y (by omega) cm] at hk
        have e7 : e - b ≤ 7 := by
          unfold jMt at cm
          by_cases q : e - b = gWl k
          · omega
          · rw [decide_eq_false q, Bool.false_and] at cm; cases cm
        have ev : gWd k = v := by rw [hv e7]; exact gm.mpr cm
        subst hk
        clear ih hl hv ht hw gm cm hw0
        repeat' (first | (with_reducible assumption) | (with_reducible rfl) | (with_reducible apply And.intro) | (with_reducible apply zIn_mk) | (with_reducible apply zLn_mk) | ((with_reducible intro _); try (exfalso; omega)) | omega | (with_reducible exact Or.inr trivial) | (with_reducible exact Or.inl trivial) | ((refine fin _ _ (by rw [jmw (by omega) (by omega)]; (repeat' split) <;> omega) (fun _ _ => by unfold jWv; split <;> omega))) | fail)
      · have nv : e - b ≤ 7 → gWd k ≠ v := fun e7 hh => cm (gm.mp (by rw [hh, hv e7]))
        rw [gWj_n (by omega) cm] at hk
        have i1 := ih (by omega) hk
        clear ih hl hv ht hw gm cm hw0 fin
        repeat' (first | (with_reducible assumption) | (with_reducible rfl) | (with_reducible apply And.intro) | (with_reducible apply zIn_mk) | (with_reducible apply zLn_mk) | ((with_reducible intro _); try (exfalso; omega)) | omega | (with_reducible exact Or.inr trivial) | (with_reducible exact Or.inl trivial) | ((exact i1)) | ((exfalso; exact nv (by omega) (by assumption))) | fail)
  have loop : ∀ j, b ≤ j → j ≤ T → ∀ y, jG m y → y 386 12 = j → y 386 13 = m 386 13 → (∀ i, b ≤ i → i < j → 97 ≤ t i ∧ t i ≤ 122) → gSn t T 97 122 j = e → ∀ v, (j - b ≤ 7 → v = pkI t b (j - b)) → jPb v (j - b) → WP d 220 4 [(0, zr 386), (1, zl v), (3, zi (j - b))] [] 403 [] x y 403 [] Q := by
    refine zdownL b T _ ?_
    intro j j0 j1 ih y M1 y12 y13 hl hs v hv hp
    obtain ⟨⟨T0, T1⟩, eT, ht, hw⟩ := jTm_f M1 hT
    by_cases c : j < T ∧ 97 ≤ t j ∧ t j ≤ 122
    · obtain ⟨et, t0, t1⟩ := ht j (by omega) c.1
      rw [gSn_y c.1 c.2.1 c.2.2] at hs
      have hl' : ∀ i, b ≤ i → i < j + 1 → 97 ≤ t i ∧ t i ≤ 122 := fun i i0 i1 => by
        by_cases q : i = j
        · rw [q]; exact c.2
        · exact hl i i0 (by omega)
      have i1 := fun v' => ih c.1 (zupd y 386 12 (j + 1)) (M1.u (by omega)) (by rw [zu_eq, up_at rfl]) (by rw [zu_eq, up_ne (by omega)]; exact y13) hl' hs v'
      rw [show j + 1 - b = j - b + 1 by omega] at i1
      have iA := fun (hh : 7 ≤ j - b) => i1 v (by omega) (by unfold jPb at *; omega)
      have iB := fun (hh : j - b < 7) => i1 (v * 256 + t j) (fun _ => by rw [pkI_s (by omega), ← hv (by omega), show b + (j - b) = j by omega]) (by unfold jPb at *; omega)
      have lo : j - b < 7 → zlor (zlshl v 8) (t j) = v * 256 + t j := fun hh => zlor_b hp.1 (by unfold jPb at hp; omega) (by omega) (by omega)
      have iB' : j - b < 7 → WP d 220 4 [(0, zr 386), (1, zl (zlor (zlshl v 8) (t j))), (3, zi (j - b + 1))] [] 403 [] x (zupd y 386 12 (j + 1)) 403 [] Q := fun hh => by rw [lo hh]; exact iB hh
      apply r220_c4
      simp only [y12, eT, et]
      clear ih h find i1 hs ht hw hl hl' hv hp iB lo
      refine ⟨fun hh => absurd hh (by omega), fun _ => ⟨by omega, by omega, s171 (fun _ _ => ?_) (fun hh => absurd hh (by omega))⟩⟩
      intro _
      refine ⟨fun hh => absurd hh (by decide), fun _ => ⟨fun hh => ?_, fun hh => ?_⟩⟩
      · rw [y12]; exact ⟨by unfold zIn; omega, by unfold zIn; omega, iA hh⟩
      · rw [y12, et]; exact ⟨by omega, by unfold zIn; omega, by unfold zIn; omega, iB' hh⟩
    · have ej : j = e := by rw [← hs]; exact (gSn_n (by omega)).symm
      subst ej
      have f := find y M1 y12 y13 j0 hl v hv 0 (by omega) (by omega) rfl
      clear ih h find hs hw hl hv hp
      by_cases c1 : j < T
      · obtain ⟨et, t0, t1⟩ := ht j (by omega) c1
        apply r220_c4
        simp only [y12, eT, et]
        clear ht
        refine ⟨fun hh => absurd hh (by omega), fun _ => ⟨by omega, by omega, s171 (fun h1 h2 => absurd (And.intro c1 (And.intro h1 h2)) c) (fun _ => ?_)⟩⟩
        intro _
        exact ⟨fun _ => f, fun hh => absurd rfl hh⟩
      · apply r220_c4
        simp only [y12, eT]
        clear ht
        repeat' (first | (with_reducible assumption) | (with_reducible rfl) | (with_reducible apply And.intro) | (with_reducible apply zIn_mk) | (with_reducible apply zLn_mk) | ((with_reducible intro _); try (exfalso; omega)) | omega | (with_reducible exact Or.inr trivial) | (with_reducible exact Or.inl trivial) | ((exact f)) | fail)
  apply r220
  have l0 := loop b (by omega) b1 m (jG.rf m) ea rfl (fun i i0 i1 => by omega) he 0 (fun _ => by rw [Int.sub_self]; rfl) (by unfold jPb; omega)
  rw [Int.sub_self] at l0
  exact l0

