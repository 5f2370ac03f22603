/-! FALL: rows that members fall on -/
def gFc (q : Int → Int) : Int := zT (fun l => if q (570 + l) = 2 then 1 else 0) (q 3)
def gTr (p q : Int → Int) : Prop := IB q ∧ IA q ∧ IN q ∧ IE q ∧ (q 4 ≤ gCap q ∧ gCap q ≤ 644) ∧ (∀ i, i ≠ 4 → i ≠ 6160 → (i < 570 ∨ (666 ≤ i ∧ i < 690) ∨ 3490 ≤ i) → q i = p i) ∧ (p 6160 ≤ q 6160 ∧ q 6160 ≤ p 6160 + 219997 * (gFc q - gFc p))
theorem gFc_bd {q : Int → Int} (hB : IB q) : 0 ≤ gFc q ∧ gFc q ≤ 24 := by
  unfold IB at hB
  have := zT_bd (f := fun l => if q (570 + l) = 2 then 1 else 0) (lo := 0) (hi := 1) (n := q 3) (by omega) (fun j _ _ => by (try dsimp only); split <;> omega)
  unfold gFc; omega
theorem gTr_0 {p w : Int → Int} (hB : IB p) (hA : IA p) (hN : IN p) (hE : IE p) (h4 : p 4 ≤ gCap p) (hY : IY p w) : gTr p p := ⟨hB, hA, hN, hE, ⟨h4, (gCap_bd hB hY).2⟩, fun i _ _ _ => rfl, ⟨Int.le_refl _, by omega⟩⟩
theorem gTr_f {p w q : Int → Int} {l : Int} (hY : IY p w) (h : gTr p q) (l0 : 0 ≤ l) (l1 : l < q 3) (hs : q (570 + l) = 0) : gTr p (gFp q l) ∧ gFp q l 6160 = q 6160 + gFlost q l ∧ 0 ≤ gFlost q l := by
  obtain ⟨hB, hA, hN, hE, ⟨h4, h4'⟩, hf, h6⟩ := h
  have hb := hB; unfold IB at hb
  have h644 : q 4 ≤ 644 := by omega
  obtain ⟨F1, F2, F3, F4, F5, F6⟩ := gFp_I hB hA hN hE h644 l0 l1 hs
  have fo := fun i => gFp_o (i := i) hB hA hN hE h644 l0 l1
  obtain ⟨v1, v2, v3, v4, v5⟩ := gFp_v (p := q) l0 (show l < 24 by omega)
  obtain ⟨b1, b2, b3⟩ := gFp_bd hB hA hN hE h644 l0 l1
  have o : ∀ i, i ≠ 4 → i ≠ 6160 → (i < 570 ∨ (666 ≤ i ∧ i < 690) ∨ 3490 ≤ i) → gFp q l i = q i := fun i i4 i6 hi => fo i i4 (by omega) (by omega) (by omega) (by omega) (by omega) i6
  have hYr : IY (gFp q l) w := by
    refine IY_f ?_ ?_ (fun i i0 i1 => ?_) hY
    · rw [o 0 (by omega) (by omega) (by omega), hf 0 (by omega) (by omega) (by omega)]; omega
    · rw [o 6 (by omega) (by omega) (by omega), hf 6 (by omega) (by omega) (by omega)]
    · rw [o i (by omega) (by omega) (by omega), hf i (by omega) (by omega) (by omega)]
  have cb := gCap_bd F1 hYr
  have fc : gFc (gFp q l) = gFc q + 1 := by
    unfold gFc
    rw [o 3 (by omega) (by omega) (by omega)]
    have c1 := zT_one (f := fun j => if gFp q l (570 + j) = 2 then 1 else 0) (g := fun j => if q (570 + j) = 2 then 1 else 0) (n := q 3) l0 l1 (fun j j0 j1 jn => by (try dsimp only); rw [fo (570 + j) (by omega) (by omega) (by omega) (by omega) (by omega) (by omega) (by omega)])
    have f1 : (if gFp q l (570 + l) = 2 then (1 : Int) else 0) = 1 := by rw [v1, if_pos rfl]
    have f2 : (if q (570 + l) = 2 then (1 : Int) else 0) = 0 := by rw [if_neg (by omega)]
    try dsimp only at c1
    rw [f1, f2] at c1
    rw [c1]; omega
  exact ⟨⟨F1, F2, F3, F4, ⟨by omega, cb.2⟩, fun i i4 i6 hi => by rw [o i i4 i6 hi, hf i i4 i6 hi], by rw [fc]; omega⟩, v5, b3.1⟩
theorem gTr_6 {p q : Int → Int} (hp : p 6160 ≤ 2111971200) (hB : IB p) (h : gTr p q) : q 6160 ≤ 2117251128 := by
  have a := gFc_bd hB
  have b := gFc_bd h.1
  have := h.2.2.2.2.2.2
  omega
def gFm1 (v : Int) (q : Int → Int) (l : Int) : Int → Int := if q (570 + l) = 0 ∧ q (90 + q (450 + l)) = v then gFp q l else q
def gFmN (v : Int) (q : Int → Int) : Nat → (Int → Int)
  | 0 => q
  | n + 1 => gFm1 v (gFmN v q n) n
def gFm (v : Int) (q : Int → Int) (l : Int) : Int → Int := gFmN v q l.toNat
theorem gFm_s {v : Int} {q : Int → Int} {l : Int} (h : 0 ≤ l) : gFm v q (l + 1) = gFm1 v (gFm v q l) l := by
  unfold gFm
  have e : (l + 1).toNat = l.toNat + 1 := by omega
  have e2 : (l.toNat : Int) = l := by omega
  rw [e, gFmN, e2]
theorem gFm_J {p w q : Int → Int} {v : Int} (hY : IY p w) (h : gTr p q) : ∀ l, 0 ≤ l → (l ≤ q 3 → gTr p (gFm v q l) ∧ q 6160 ≤ gFm v q l 6160) := by
  refine zup1 _ (fun _ => ⟨h, Int.le_refl _⟩) ?_
  intro l l0 ih l1
  obtain ⟨J, J6⟩ := ih (by omega)
  rw [gFm_s l0]
  have e3 : gFm v q l 3 = q 3 := by rw [J.2.2.2.2.2.1 3 (by omega) (by omega) (by omega), h.2.2.2.2.2.1 3 (by omega) (by omega) (by omega)]
  unfold gFm1
  by_cases c : gFm v q l (570 + l) = 0 ∧ gFm v q l (90 + gFm v q l (450 + l)) = v
  · rw [if_pos c]
    obtain ⟨g1, g2, g3⟩ := gTr_f hY J l0 (by omega) c.1
    exact ⟨g1, by omega⟩
  · rw [if_neg c]; exact ⟨J, J6⟩
def gFaN (f : Nat) (q : Int → Int) : Nat → (Int → Int)
  | 0 => q
  | n + 1 => if gBt f n = true then gFm n (gFaN f q n) (q 3) else gFaN f q n
def gFa (f : Nat) (q : Int → Int) (j : Int) : Int → Int := gFaN f q j.toNat
theorem gFa_s {f : Nat} {q : Int → Int} {j : Int} (h : 0 ≤ j) : gFa f q (j + 1) = if gBt f j = true then gFm j (gFa f q j) (q 3) else gFa f q j := by
  unfold gFa
  have e : (j + 1).toNat = j.toNat + 1 := by omega
  have e2 : (j.toNat : Int) = j := by omega
  rw [e, gFaN, e2]
theorem gFa_J {p w q : Int → Int} {f : Nat} (hY : IY p w) (h : gTr p q) : ∀ j, 0 ≤ j → gTr p (gFa f q j) ∧ q 6160 ≤ gFa f q j 6160 := by
  have q0 := h.1; unfold IB at q0
  refine zup1 _ ⟨h, Int.le_refl _⟩ ?_
  intro j j0 ih
  rw [gFa_s j0]
  by_cases c : gBt f j = true
  · rw [if_pos c]
    have e3 : gFa f q j 3 = q 3 := by rw [ih.1.2.2.2.2.2.1 3 (by omega) (by omega) (by omega), h.2.2.2.2.2.1 3 (by omega) (by omega) (by omega)]
    have := gFm_J (v := j) hY ih.1 (q 3) (by omega) (by omega)
    exact ⟨this.1, by omega⟩
  · rw [if_neg c]; exact ih
theorem gFa_e {f : Nat} {q : Int → Int} {n : Int} (n0 : 0 ≤ n) (hf : ∀ j, n ≤ j → gBt f j = false) : ∀ j, 0 ≤ j → gFa f q (n + j) = gFa f q n := by
  refine zup1 _ (by rw [Int.add_zero]) ?_
  intro j j0 ih
  rw [← Int.add_assoc, gFa_s (by omega), hf (n + j) (by omega), if_neg (by decide)]
  exact ih
/-! the sets -/
def gNxN (q : Int → Int) (a : Nat) : Nat → Nat
  | 0 => 0
  | n + 1 => gNxN q a n ||| (if gBt a n = false ∧ gSv q n 400 400 < gHd q n then 2 ^ n else 0)
def gNx (q : Int → Int) (a : Nat) (j : Int) : Nat := gNxN q a j.toNat
theorem gNx_s {q : Int → Int} {a : Nat} {j : Int} (h : 0 ≤ j) : gNx q a (j + 1) = gNx q a j ||| (if gBt a j = false ∧ gSv q j 400 400 < gHd q j then 2 ^ j.toNat else 0) := by
  unfold gNx
  have e : (j + 1).toNat = j.toNat + 1 := by omega
  have e2 : (j.toNat : Int) = j := by omega
  rw [e, gNxN, e2]
theorem gNx_bt {q : Int → Int} {a : Nat} {i : Int} (i0 : 0 ≤ i) : ∀ j, 0 ≤ j → gBt (gNx q a j) i = decide (i < j ∧ gBt a i = false ∧ gSv q i 400 400 < gHd q i) := by
  refine zup1 _ ?_ ?_
  · rw [show gNx q a 0 = 0 from rfl, gBt_0, decide_eq_false (by omega)]
  · intro j j0 ih
    rw [gNx_s j0, gBt_or, ih]
    by_cases c : gBt a j = false ∧ gSv q j 400 400 < gHd q j
    · rw [if_pos c, gBt_1 j0 i0]
      by_cases e : j = i
      · subst e
        rw [decide_eq_true rfl, Bool.or_true, decide_eq_true ⟨by omega, c⟩]
      · rw [decide_eq_false e, Bool.or_false]
        exact decide_eq_decide.mpr ⟨fun h => ⟨by omega, h.2⟩, fun h => ⟨by omega, h.2⟩⟩
    · rw [if_neg c, gBt_0, Bool.or_false]
      refine decide_eq_decide.mpr ⟨fun h => ⟨by omega, h.2⟩, fun h => ⟨?_, h.2⟩⟩
      by_cases e : i = j
      · subst e; exact absurd h.2 c
      · omega
theorem gNx_lt {q : Int → Int} {a : Nat} {j : Int} (j0 : 0 ≤ j) (j1 : j ≤ 24) : gNx q a j < 2 ^ 24 := by
  refine gBt_lo (fun i hi => ?_)
  rw [gNx_bt (by omega) j j0]
  exact decide_eq_false (fun h => by omega)
def gWt (q : Int → Int) (j : Int) : Nat := gNx q 0 j
theorem gWt_s {q : Int → Int} {j : Int} (h : 0 ≤ j) : gWt q (j + 1) = gWt q j ||| (if gSv q j 400 400 < gHd q j then 2 ^ j.toNat else 0) := by
  unfold gWt
  rw [gNx_s h]
  by_cases c : gSv q j 400 400 < gHd q j
  · rw [if_pos ⟨gBt_0 j, c⟩, if_pos c]
  · rw [if_neg (fun h => c h.2), if_neg c]
theorem gAn_wt {q : Int → Int} {a : Nat} {j : Int} (j0 : 0 ≤ j) (j1 : j ≤ 24) : gAn (gWt q j) a = gNx q a j := by
  have hw : gWt q j < 2 ^ 24 := gNx_lt j0 j1
  refine gBt_ext (fun i i0 => ?_)
  by_cases c : i < 32
  · rw [gAn_bt i0 c]
    unfold gWt
    rw [gNx_bt i0 j j0, gNx_bt i0 j j0, gBt_0]
    cases gBt a i <;> simp
  · rw [gBt_lt (gNx_lt j0 j1) (by omega)]
    exact gBt_lt (gAn_le (by omega)) (by omega)
def gSq (p : Int → Int) (v : Int) : Nat → (Int → Int) × Nat × Nat
  | 0 => (p, 0, 2 ^ v.toNat)
  | n + 1 => (gFa (gSq p v n).2.2 (gSq p v n).1 (p 1), (gSq p v n).2.1 ||| (gSq p v n).2.2, gNx (gFa (gSq p v n).2.2 (gSq p v n).1 (p 1)) ((gSq p v n).2.1 ||| (gSq p v n).2.2) (p 1))
def gS (p : Int → Int) (v i : Int) : (Int → Int) × Nat × Nat := gSq p v i.toNat
theorem gS_s {p : Int → Int} {v i : Int} (h : 0 ≤ i) : gS p v (i + 1) = (gFa (gS p v i).2.2 (gS p v i).1 (p 1), (gS p v i).2.1 ||| (gS p v i).2.2, gNx (gFa (gS p v i).2.2 (gS p v i).1 (p 1)) ((gS p v i).2.1 ||| (gS p v i).2.2) (p 1)) := by
  unfold gS
  have e : (i + 1).toNat = i.toNat + 1 := by omega
  rw [e, gSq]
def gCt (a : Nat) : Int := zT (fun j => if gBt a j = true then 1 else 0) 16
theorem gCt_or {a f : Nat} {j : Int} (j0 : 0 ≤ j) (j1 : j < 16) (ha : gBt a j = false) (hf : gBt f j = true) : gCt a + 1 ≤ gCt (a ||| f) := by
  have e : gCt (a ||| f) = gCt a + zT (fun k => (if gBt (a ||| f) k = true then 1 else 0) - (if gBt a k = true then 1 else 0)) 16 := by
    unfold gCt
    rw [← zT_add]
    exact zT_congr (fun k _ _ => by (try dsimp only); omega)
  have p := zT_part (f := fun k => (if gBt (a ||| f) k = true then (1 : Int) else 0) - (if gBt a k = true then 1 else 0)) (n := 16) (k := j) (fun k _ _ => by
    (try dsimp only)
    rw [gBt_or]
    cases gBt a k <;> cases gBt f k <;> decide) j0 j1
  (try dsimp only at p)
  rw [gBt_or, ha, hf] at p
  have : (if (false || true) = true then (1 : Int) else 0) - (if false = true then 1 else 0) = 1 := by decide
  rw [this] at p
  omega
theorem gCt_all {a : Nat} (h : 16 ≤ gCt a) {j : Int} (j0 : 0 ≤ j) (j1 : j < 16) : gBt a j = true := by
  cases e : gBt a j with
  | true => rfl
  | false =>
    have o := zT_one (f := fun k => if k = j then 0 else 1) (g := fun _ => 1) (n := 16) j0 j1 (fun k _ _ hk => if_neg hk)
    rw [if_pos rfl] at o
    have b := zT_bd (f := fun _ => (1 : Int)) (lo := 1) (hi := 1) (n := 16) (by omega) (fun _ _ _ => ⟨by omega, by omega⟩)
    have c := zT_le (f := fun k => if gBt a k = true then 1 else 0) (g := fun k => if k = j then 0 else 1) (n := 16) (by omega) (fun k k0 k1 => by
      (try dsimp only)
      by_cases ek : k = j
      · rw [ek, e]; simp
      · rw [if_neg ek]; split <;> omega)
    unfold gCt at h
    omega
theorem gS_J {p w : Int → Int} {v : Int} (hY : IY p w) (h : gTr p p) (v0 : 0 ≤ v) (v1 : v < p 1) : ∀ i, 0 ≤ i → gTr p (gS p v i).1 ∧ (∀ j, p 1 ≤ j → gBt (gS p v i).2.1 j = false ∧ gBt (gS p v i).2.2 j = false) ∧ (∀ j, gBt (gS p v i).2.2 j = true → gBt (gS p v i).2.1 j = false) ∧ ((∀ k, 0 ≤ k → k < i → (gS p v k).2.2 ≠ 0) → i ≤ gCt (gS p v i).2.1) := by
  have hb := h.1; unfold IB at hb
  refine zup1 _ ?_ ?_
  · rw [show gS p v 0 = (p, 0, 2 ^ v.toNat) from rfl]
    refine ⟨h, fun j j0 => ⟨gBt_0 j, ?_⟩, fun j _ => gBt_0 j, fun _ => ?_⟩
    · show gBt (2 ^ v.toNat) j = false
      rw [gBt_1 v0 (by omega), decide_eq_false (by omega)]
    · show 0 ≤ gCt 0
      have := zT_bd (f := fun j => if gBt 0 j = true then 1 else 0) (lo := 0) (hi := 1) (n := 16) (by omega) (fun j _ _ => by (try dsimp only); split <;> omega)
      unfold gCt; omega
  · intro i i0 ih
    obtain ⟨J1, J2, J3, J4⟩ := ih
    rw [gS_s i0]
    obtain ⟨q, hq⟩ : ∃ q, q = (gS p v i).1 := ⟨_, rfl⟩
    obtain ⟨a, ha⟩ : ∃ a, a = (gS p v i).2.1 := ⟨_, rfl⟩
    obtain ⟨f, hf⟩ : ∃ f, f = (gS p v i).2.2 := ⟨_, rfl⟩
    rw [← hq] at J1
    rw [← ha] at J2 J3 J4
    rw [← hf] at J2 J3
    rw [← hq, ← ha, ← hf]
    refine ⟨(gFa_J hY J1 (p 1) (by omega)).1, fun j j0 => ⟨?_, ?_⟩, fun j hj => ?_, fun hall => ?_⟩
    · show gBt (a ||| f) j = false
      rw [gBt_or, (J2 j j0).1, (J2 j j0).2]; rfl
    · show gBt (gNx _ _ _) j = false
      rw [gNx_bt (by omega) (p 1) (by omega)]
      exact decide_eq_false (fun h => by omega)
    · show gBt (a ||| f) j = false
      replace hj : gBt (gNx (gFa f q (p 1)) (a ||| f) (p 1)) j = true := hj
      by_cases c : 0 ≤ j
      · rw [gNx_bt c (p 1) (by omega)] at hj
        exact (of_decide_eq_true hj).2.1
      · have e : j.toNat = (0 : Int).toNat := by omega
        have e2 : ∀ b : Nat, gBt b j = gBt b 0 := fun b => by unfold gBt; rw [e]
        rw [e2] at hj ⊢
        rw [gNx_bt (Int.le_refl 0) (p 1) (by omega)] at hj
        exact (of_decide_eq_true hj).2.1
    · show i + 1 ≤ gCt (a ||| f)
      have c := J4 (fun k k0 k1 => hall k k0 (by omega))
      have fn : f ≠ 0 := by rw [hf]; exact hall i i0 (by omega)
      have ex : ∃ j : Int, 0 ≤ j ∧ gBt f j = true := by
        by_cases e : ∃ j : Int, 0 ≤ j ∧ gBt f j = true
        · exact e
        · exfalso
          apply fn
          refine gBt_ext (fun j j0 => ?_)
          rw [gBt_0]
          cases h' : gBt f j with
          | false => rfl
          | true => exact absurd ⟨j, j0, h'⟩ e
      obtain ⟨j, j0, hj⟩ := ex
      have j1 : j < 16 := by
        by_cases c2 : j < 16
        · exact c2
        · have := (J2 j (by omega)).2
          rw [hj] at this; cases this
      have := gCt_or j0 j1 (J3 j hj) hj
      omega
theorem gS_16 {p w : Int → Int} {v : Int} (hY : IY p w) (h : gTr p p) (v0 : 0 ≤ v) (v1 : v < p 1) (hall : ∀ k, 0 ≤ k → k < 16 → (gS p v k).2.2 ≠ 0) : (gS p v 16).2.2 = 0 := by
  have hb := h.1; unfold IB at hb
  obtain ⟨J1, J2, J3, J4⟩ := gS_J hY h v0 v1 16 (by omega)
  have c := J4 hall
  refine gBt_ext (fun j j0 => ?_)
  rw [gBt_0]
  cases h' : gBt (gS p v 16).2.2 j with
  | false => rfl
  | true =>
    have a := J3 j h'
    by_cases c2 : j < 16
    · rw [gCt_all c j0 c2] at a; cases a
    · have := (J2 j (by omega)).2
      rw [h'] at this; cases this
theorem gS_lt {p w : Int → Int} {v : Int} (hY : IY p w) (h : gTr p p) (v0 : 0 ≤ v) (v1 : v < p 1) {i : Int} (i0 : 0 ≤ i) : (gS p v i).2.1 < 2 ^ 16 ∧ (gS p v i).2.2 < 2 ^ 16 := by
  have hb := h.1; unfold IB at hb
  obtain ⟨J1, J2, J3, J4⟩ := gS_J hY h v0 v1 i i0
  exact ⟨gBt_lo (fun j hj => (J2 j (by omega)).1), gBt_lo (fun j hj => (J2 j (by omega)).2)⟩
