/-! THE LOANS OF A WEEK THAT CLOSES -/
def gLv (p : Int → Int) (l : Int) : Int := if p (522 + l) < gDt p l (p 0) then p (546 + l) + 1 else 0
def gPst (s : (Int → Int) × Int) (l : Int) : (Int → Int) × Int := if s.1 (570 + l) ≠ 0 then s else if gLv s.1 l = 13 then (gFp (up s.1 (546 + l) 13) l, s.2 + 1) else (up s.1 (546 + l) (gLv s.1 l), s.2)
def gPsN (p : Int → Int) : Nat → (Int → Int) × Int
  | 0 => (p, 0)
  | n + 1 => gPst (gPsN p n) n
def gPs (p : Int → Int) (l : Int) : (Int → Int) × Int := gPsN p l.toNat
theorem gPs_s {p : Int → Int} {l : Int} (h : 0 ≤ l) : gPs p (l + 1) = gPst (gPs p l) l := by
  unfold gPs
  have e : (l + 1).toNat = l.toNat + 1 := by omega
  have e2 : (l.toNat : Int) = l := by omega
  rw [e, gPsN, e2]
theorem gPst_n {q : Int → Int} {c l : Int} (h : q (570 + l) ≠ 0) : gPst (q, c) l = (q, c) := if_pos h
theorem gPst_0 {q : Int → Int} {c l : Int} (h : q (570 + l) = 0) (h2 : gDt q l (q 0) ≤ q (522 + l)) : gPst (q, c) l = (up q (546 + l) 0, c) := by
  have e : gLv q l = 0 := if_neg (by omega)
  unfold gPst
  dsimp only
  rw [if_neg (by omega), e, if_neg (by omega)]
theorem gPst_l {q : Int → Int} {c l : Int} (h : q (570 + l) = 0) (h2 : q (522 + l) < gDt q l (q 0)) (h3 : q (546 + l) + 1 ≠ 13) : gPst (q, c) l = (up q (546 + l) (q (546 + l) + 1), c) := by
  have e : gLv q l = q (546 + l) + 1 := if_pos h2
  unfold gPst
  dsimp only
  rw [if_neg (by omega), e, if_neg h3]
theorem gPst_f {q : Int → Int} {c l : Int} (h : q (570 + l) = 0) (h2 : q (522 + l) < gDt q l (q 0)) (h3 : q (546 + l) + 1 = 13) : gPst (q, c) l = (gFp (up q (546 + l) (q (546 + l) + 1)) l, c + 1) := by
  have e : gLv q l = q (546 + l) + 1 := if_pos h2
  unfold gPst
  dsimp only
  rw [if_neg (by omega), e, if_pos h3, h3]
theorem IL_late {q : Int → Int} {l v : Int} (hB : IB q) (hA : IA q) (hN : IN q) (hE : IE q) (l0 : 0 ≤ l) (l1 : l < q 3) (v0 : 0 ≤ v) (v1 : v ≤ 13) : IB (up q (546 + l) v) ∧ IA (up q (546 + l) v) ∧ IN (up q (546 + l) v) ∧ IE (up q (546 + l) v) ∧ gCap (up q (546 + l) v) = gCap q := by
  have hb := hB; unfold IB at hb
  have o : ∀ i, i < 546 ∨ 570 ≤ i → up q (546 + l) v i = q i := fun i hi => up_ne (by omega)
  refine ⟨?_, IA_f hB (by rw [o 1 (by omega)]; omega) (o 2 (by omega)) (fun i i0 i1 => o i (by omega)) hA, ⟨fun k k0 k1 => ?_, fun k k0 k1 => ?_⟩, IE_f hB (by rw [o 0 (by omega)]; omega) (by rw [o 1 (by omega)]; omega) (o 4 (by omega)) (fun i i0 i1 => o i (by omega)) hE, gCap_f hB (o 3 (by omega)) (o 6 (by omega)) (fun i i0 i1 => o i (by omega)) (fun i i0 i1 => o i (by omega))⟩
  · unfold IB
    rw [o 0 (by omega), o 1 (by omega), o 2 (by omega), o 3 (by omega), o 4 (by omega), o 5 (by omega), o 6 (by omega), o 7 (by omega), o 8 (by omega)]
    exact hb
  · rw [o 3 (by omega)] at k1
    have n := hN.1 k k0 k1
    unfold INl at *
    rw [o (450 + k) (by omega), o (474 + k) (by omega), o (498 + k) (by omega), o (522 + k) (by omega), o (138 + q (450 + k)) (by omega), o 0 (by omega), o 2 (by omega), o (570 + k) (by omega), o (594 + k) (by omega), o (618 + k) (by omega), o (642 + k) (by omega)]
    by_cases c : k = l
    · subst c; rw [up_at rfl]; omega
    · rw [up_ne (by omega)]; exact n
  · rw [o 3 (by omega)] at k1
    have n := hN.1 k k0 k1
    have ne := hN.2 k k0 k1
    unfold INl at n
    unfold INe at *
    rw [o (450 + k) (by omega), o (498 + k) (by omega), o (522 + k) (by omega), o (138 + q (450 + k)) (by omega), o (666 + k) (by omega)]
    exact ne
theorem gPs_J {p w : Int → Int} (hB : IB p) (hA : IA p) (hN : IN p) (hE : IE p) (hQ : IQ p) (h4 : p 4 ≤ gCap p) (hY : IY p w) (hl0 : 0 ≤ p 6160) : ∀ j, 0 ≤ j → (j ≤ p 3 → IB (gPs p j).1 ∧ IA (gPs p j).1 ∧ IN (gPs p j).1 ∧ IE (gPs p j).1 ∧ ((gPs p j).1 4 ≤ gCap (gPs p j).1 ∧ gCap (gPs p j).1 ≤ 644) ∧ (∀ i, i ≠ 4 → i ≠ 6160 → (i < 546 ∨ (666 ≤ i ∧ i < 690) ∨ 3490 ≤ i) → (gPs p j).1 i = p i) ∧ (∀ k, j ≤ k → k < 24 → (gPs p j).1 (570 + k) = p (570 + k) ∧ (gPs p j).1 (546 + k) = p (546 + k)) ∧ (∀ k, 0 ≤ k → k < j → (gPs p j).1 (570 + k) = 0 → (gPs p j).1 (546 + k) ≤ 12) ∧ (0 ≤ (gPs p j).1 6160 ∧ (gPs p j).1 6160 ≤ p 6160 + 219997 * j) ∧ (0 ≤ (gPs p j).2 ∧ (gPs p j).2 ≤ j)) := by
  have hb := hB; unfold IB at hb
  refine zup1 _ (fun _ => ?_) ?_
  · have e : gPs p 0 = (p, 0) := rfl
    rw [e]
    exact ⟨hB, hA, hN, hE, ⟨h4, (gCap_bd hB hY).2⟩, fun i _ _ _ => rfl, fun k _ _ => ⟨rfl, rfl⟩, fun k k0 k1 => by omega, by dsimp only; omega, by dsimp only; omega⟩
  · intro j j0 ih j1
    obtain ⟨J1, J2, J3, J4, ⟨J5, J5'⟩, J6, J7, J8, J9, J10⟩ := ih (by omega)
    rw [gPs_s j0]
    obtain ⟨q, hq⟩ : ∃ q, q = (gPs p j).1 := ⟨_, rfl⟩
    obtain ⟨c, hc⟩ : ∃ c, c = (gPs p j).2 := ⟨_, rfl⟩
    have es : gPs p j = (q, c) := by rw [hq, hc]
    rw [es]
    rw [← hq] at J1 J2 J3 J4 J5 J5' J6 J7 J8 J9
    rw [← hc] at J10
    clear hq hc es ih
    have jb := J1; unfold IB at jb
    have q3 := J6 3 (by omega) (by omega) (by omega)
    have s7 := J7 j (by omega) (by omega)
    have n := J3.1 j j0 (by omega)
    unfold INl at n
    have qj := hQ j j0 (by omega)
    by_cases c1 : q (570 + j) = 0
    · by_cases c2 : q (522 + j) < gDt q j (q 0)
      · by_cases c3 : q (546 + j) + 1 = 13
        · rw [gPst_f c1 c2 c3, c3]
          obtain ⟨I1, I2, I3, I4, I5⟩ := IL_late J1 J2 J3 J4 j0 (show j < q 3 by omega) (show (0 : Int) ≤ 13 by omega) (show (13 : Int) ≤ 13 by omega)
          have o : ∀ i, i < 546 ∨ 570 ≤ i → up q (546 + j) 13 i = q i := fun i hi => up_ne (by omega)
          have o4 := o 4 (by omega)
          have o3 := o 3 (by omega)
          have o570 := o (570 + j) (by omega)
          obtain ⟨F1, F2, F3, F4, F5, F6⟩ := gFp_I I1 I2 I3 I4 (show up q (546 + j) 13 4 ≤ 644 by omega) j0 (show j < up q (546 + j) 13 3 by omega) (by omega)
          have fo := fun i => gFp_o (i := i) I1 I2 I3 I4 (show up q (546 + j) 13 4 ≤ 644 by omega) j0 (show j < up q (546 + j) 13 3 by omega)
          obtain ⟨v1, v2, v3, v4, v5⟩ := gFp_v (p := up q (546 + j) 13) j0 (show j < 24 by omega)
          obtain ⟨b1, b2, b3⟩ := gFp_bd I1 I2 I3 I4 (show up q (546 + j) 13 4 ≤ 644 by omega) j0 (show j < up q (546 + j) 13 3 by omega)
          have o6160 := o 6160 (by omega)
          have hYr : IY (gFp (up q (546 + j) 13) j) w := by
            refine IY_f ?_ ?_ (fun i i0 i1 => ?_) hY
            · rw [fo 0 (by omega) (by omega) (by omega) (by omega) (by omega) (by omega) (by omega), o 0 (by omega), J6 0 (by omega) (by omega) (by omega)]; omega
            · rw [fo 6 (by omega) (by omega) (by omega) (by omega) (by omega) (by omega) (by omega), o 6 (by omega), J6 6 (by omega) (by omega) (by omega)]
            · rw [fo i (by omega) (by omega) (by omega) (by omega) (by omega) (by omega) (by omega), o i (by omega), J6 i (by omega) (by omega) (by omega)]
          have cb := gCap_bd F1 hYr
          refine ⟨F1, F2, F3, F4, ⟨?_, cb.2⟩, fun i i4 i6 i0 => ?_, fun k k0 k1 => ?_, fun k k0 k1 hk => ?_, ?_, ?_⟩
          · show gFp _ _ 4 ≤ gCap (gFp _ _)
            omega
          · show gFp _ _ i = p i
            rw [fo i i4 (by omega) (by omega) (by omega) (by omega) (by omega) i6, o i (by omega), J6 i i4 i6 i0]
          · show gFp _ _ (570 + k) = p (570 + k) ∧ gFp _ _ (546 + k) = p (546 + k)
            have := J7 k (by omega) k1
            rw [fo (570 + k) (by omega) (by omega) (by omega) (by omega) (by omega) (by omega) (by omega), fo (546 + k) (by omega) (by omega) (by omega) (by omega) (by omega) (by omega) (by omega), o (570 + k) (by omega), up_ne (by omega)]
            exact this
          · replace hk : gFp (up q (546 + j) 13) j (570 + k) = 0 := hk
            show gFp (up q (546 + j) 13) j (546 + k) ≤ 12
            by_cases ck : k = j
            · subst ck; omega
            · rw [fo (570 + k) (by omega) (by omega) (by omega) (by omega) (by omega) (by omega) (by omega), o (570 + k) (by omega)] at hk
              rw [fo (546 + k) (by omega) (by omega) (by omega) (by omega) (by omega) (by omega) (by omega), up_ne (by omega)]
              exact J8 k k0 (by omega) hk
          · show 0 ≤ gFp (up q (546 + j) 13) j 6160 ∧ gFp (up q (546 + j) 13) j 6160 ≤ p 6160 + 219997 * (j + 1)
            omega
          · show 0 ≤ c + 1 ∧ c + 1 ≤ j + 1
            omega
        · rw [gPst_l c1 c2 c3]
          obtain ⟨I1, I2, I3, I4, I5⟩ := IL_late J1 J2 J3 J4 j0 (show j < q 3 by omega) (show 0 ≤ q (546 + j) + 1 by omega) (show q (546 + j) + 1 ≤ 13 by omega)
          have o : ∀ i, i < 546 ∨ 570 ≤ i → up q (546 + j) (q (546 + j) + 1) i = q i := fun i hi => up_ne (by omega)
          refine ⟨I1, I2, I3, I4, ⟨?_, ?_⟩, fun i i4 i6 i0 => ?_, fun k k0 k1 => ?_, fun k k0 k1 hk => ?_, ?_, ?_⟩
          · show up _ _ _ 4 ≤ gCap (up _ _ _)
            rw [I5, o 4 (by omega)]; exact J5
          · show gCap (up _ _ _) ≤ 644
            rw [I5]; exact J5'
          · show up _ _ _ i = p i
            rw [o i (by omega), J6 i i4 i6 i0]
          · show up _ _ _ (570 + k) = p (570 + k) ∧ up _ _ _ (546 + k) = p (546 + k)
            rw [o (570 + k) (by omega), up_ne (by omega)]
            exact J7 k (by omega) k1
          · replace hk : up q (546 + j) (q (546 + j) + 1) (570 + k) = 0 := hk
            show up q (546 + j) (q (546 + j) + 1) (546 + k) ≤ 12
            by_cases ck : k = j
            · subst ck; rw [up_at rfl]; omega
            · rw [o (570 + k) (by omega)] at hk
              rw [up_ne (by omega)]
              exact J8 k k0 (by omega) hk
          · show 0 ≤ up _ _ _ 6160 ∧ up _ _ _ 6160 ≤ p 6160 + 219997 * (j + 1)
            rw [o 6160 (by omega)]; omega
          · show 0 ≤ c ∧ c ≤ j + 1
            omega
      · rw [gPst_0 c1 (by omega)]
        obtain ⟨I1, I2, I3, I4, I5⟩ := IL_late J1 J2 J3 J4 j0 (show j < q 3 by omega) (show (0 : Int) ≤ 0 by omega) (show (0 : Int) ≤ 13 by omega)
        have o : ∀ i, i < 546 ∨ 570 ≤ i → up q (546 + j) 0 i = q i := fun i hi => up_ne (by omega)
        refine ⟨I1, I2, I3, I4, ⟨?_, ?_⟩, fun i i4 i6 i0 => ?_, fun k k0 k1 => ?_, fun k k0 k1 hk => ?_, ?_, ?_⟩
        · show up _ _ _ 4 ≤ gCap (up _ _ _)
          rw [I5, o 4 (by omega)]; exact J5
        · show gCap (up _ _ _) ≤ 644
          rw [I5]; exact J5'
        · show up _ _ _ i = p i
          rw [o i (by omega), J6 i i4 i6 i0]
        · show up _ _ _ (570 + k) = p (570 + k) ∧ up _ _ _ (546 + k) = p (546 + k)
          rw [o (570 + k) (by omega), up_ne (by omega)]
          exact J7 k (by omega) k1
        · replace hk : up q (546 + j) 0 (570 + k) = 0 := hk
          show up q (546 + j) 0 (546 + k) ≤ 12
          by_cases ck : k = j
          · subst ck; rw [up_at rfl]; omega
          · rw [o (570 + k) (by omega)] at hk
            rw [up_ne (by omega)]
            exact J8 k k0 (by omega) hk
        · show 0 ≤ up _ _ _ 6160 ∧ up _ _ _ 6160 ≤ p 6160 + 219997 * (j + 1)
          rw [o 6160 (by omega)]; omega
        · show 0 ≤ c ∧ c ≤ j + 1
          omega
    · rw [gPst_n c1]
      refine ⟨J1, J2, J3, J4, ⟨J5, J5'⟩, J6, fun k k0 k1 => J7 k (by omega) k1, fun k k0 k1 hk => ?_, ?_, ?_⟩
      · by_cases ck : k = j
        · subst ck; exact absurd hk c1
        · exact J8 k k0 (by omega) hk
      · show 0 ≤ q 6160 ∧ q 6160 ≤ p 6160 + 219997 * (j + 1)
        omega
      · show 0 ≤ c ∧ c ≤ j + 1
        omega
theorem s241 {d : Nat} {p w : Int → Int} {x m : zM} {Q : Int → zM → zM → Prop} (hp : m 387 = p) (hd : 7 ≤ d) (hB : IB p) (hA : IA p) (hN : IN p) (hE : IE p) (hQ : IQ p) (h4 : p 4 ≤ gCap p) (hY : IY p w) (hl0 : 0 ≤ p 6160) (hl1 : p 6160 ≤ 2111971200) (h : Q (gPs p (p 3)).2 x (zP m (gPs p (p 3)).1)) : WPc d 241 [zr 386] 403 [] x m 403 [] Q := by
  subst hp
  have hb := hB; unfold IB at hb
  have loop : ∀ j, 0 ≤ j → j ≤ m 387 3 → WP d 241 4 [(0, zr 386), (1, zi (gPs (m 387) j).2), (2, zi j)] [] 403 [] x (zP m (gPs (m 387) j).1) 403 [] Q := by
    refine zdown _ _ ?_
    intro j j0 j1 ih
    obtain ⟨J1, J2, J3, J4, ⟨J5, J5'⟩, J6, J7, J8, J9, J10⟩ := gPs_J hB hA hN hE hQ h4 hY hl0 j j0 j1
    rw [gPs_s j0] at ih
    have h' : j = m 387 3 → Q (gPs (m 387) j).2 x (zP m (gPs (m 387) j).1) := fun e => by rw [e]; exact h
    obtain ⟨q, hq⟩ : ∃ q, q = (gPs (m 387) j).1 := ⟨_, rfl⟩
    obtain ⟨c, hc⟩ : ∃ c, c = (gPs (m 387) j).2 := ⟨_, rfl⟩
    have es : gPs (m 387) j = (q, c) := by rw [hq, hc]
    rw [es] at ih h'
    rw [← hq, ← hc]
    rw [← hq] at J1 J2 J3 J4 J5 J5' J6 J7 J8 J9
    rw [← hc] at J10
    clear hq hc es h
    have jb := J1; unfold IB at jb
    have q3 := J6 3 (by omega) (by omega) (by omega)
    have q0 := J6 0 (by omega) (by omega) (by omega)
    apply r241_c4
    simp only [zP_eq]
    by_cases cj : j < m 387 3
    · have s7 := J7 j (by omega) (by omega)
      have n := J3.1 j j0 (by omega)
      unfold INl at n
      obtain ⟨I1, I2, I3, I4, I5⟩ := IL_late (v := 13) J1 J2 J3 J4 j0 (show j < q 3 by omega) (by omega) (by omega)
      have o4 : up q (546 + j) 13 4 = q 4 := up_ne (by omega)
      have o3 : up q (546 + j) 13 3 = q 3 := up_ne (by omega)
      have o6160 : up q (546 + j) 13 6160 = q 6160 := up_ne (by omega)
      have qj := hQ j j0 (by omega)
      clear h'
      replace ih := ih cj
      repeat' (first | (with_reducible assumption) | (with_reducible rfl) | (with_reducible apply And.intro) | (with_reducible apply zIn_mk) | (with_reducible apply zLn_mk) | (simp only [zP_up, zP_eq, zP_zP]) | (simp (disch := omega) only [up_ne, up_at]) | ((with_reducible intro _); try (exfalso; omega)) | omega | (with_reducible exact Or.inr trivial) | (with_reducible exact Or.inl trivial) | ((refine s197 (p := q) (zP_eq _ _) (by omega) J1 J2 J3 j0 (by omega) (by omega) (by omega) ?_ ?_)) | ((rw [gPst_n (by omega)] at ih; exact ih)) | ((rw [gPst_0 (by omega) (by omega)] at ih; exact ih)) | ((rw [gPst_l (by omega) (by omega) (by omega)] at ih; exact ih)) | ((rw [show q (546 + j) + 1 = 13 by omega]; refine s240 (p := up q (546 + j) 13) (zP_eq _ _) (by omega) I1 I2 I3 I4 (by omega) j0 (by omega) (by omega) (by omega) ?_)) | ((rw [gPst_f (by omega) (by omega) (by omega), show q (546 + j) + 1 = 13 by omega] at ih; exact ih)) | fail)
    · have h2 := h' (by omega)
      clear h' ih
      repeat' (first | (with_reducible assumption) | (with_reducible rfl) | (with_reducible apply And.intro) | (with_reducible apply zIn_mk) | (with_reducible apply zLn_mk) | ((with_reducible intro _); try (exfalso; omega)) | omega | (with_reducible exact Or.inr trivial) | (with_reducible exact Or.inl trivial) | ((exact h2)) | fail)
  apply r241
  have h0 := loop 0 (by omega) (by omega)
  rw [show gPs (m 387) 0 = (m 387, 0) from rfl, zP_self] at h0
  exact h0
theorem RX_o {x x' : zM} {p : Int → Int} (h : ∀ k, k ≤ 94 → k ≠ 13 → x' k = x k) (r : RX x p) : RX x' p := by
  refine ⟨?_, ?_, ?_, ?_, ?_⟩
  · unfold RMx; rw [h 1 (by omega) (by omega), h 2 (by omega) (by omega), h 3 (by omega) (by omega), h 4 (by omega) (by omega), h 5 (by omega) (by omega), h 6 (by omega) (by omega)]; exact r.1
  · unfold RLx; rw [h 7 (by omega) (by omega), h 8 (by omega) (by omega), h 9 (by omega) (by omega), h 10 (by omega) (by omega), h 11 (by omega) (by omega), h 12 (by omega) (by omega)]; exact r.2.1
  · unfold RAx; rw [h 14 (by omega) (by omega), h 15 (by omega) (by omega), h 16 (by omega) (by omega), h 17 (by omega) (by omega), h 18 (by omega) (by omega), h 19 (by omega) (by omega), h 20 (by omega) (by omega), h 21 (by omega) (by omega), h 22 (by omega) (by omega), h 47 (by omega) (by omega)]; exact r.2.2.1
  · unfold RNx; rw [h 72 (by omega) (by omega), h 73 (by omega) (by omega), h 74 (by omega) (by omega), h 75 (by omega) (by omega), h 76 (by omega) (by omega), h 77 (by omega) (by omega), h 78 (by omega) (by omega), h 79 (by omega) (by omega), h 80 (by omega) (by omega), h 81 (by omega) (by omega), h 82 (by omega) (by omega), h 83 (by omega) (by omega), h 84 (by omega) (by omega), h 85 (by omega) (by omega), h 86 (by omega) (by omega), h 87 (by omega) (by omega)]; exact r.2.2.2.1
  · unfold RRx; rw [h 88 (by omega) (by omega), h 89 (by omega) (by omega), h 90 (by omega) (by omega), h 91 (by omega) (by omega), h 92 (by omega) (by omega), h 93 (by omega) (by omega), h 94 (by omega) (by omega)]; exact r.2.2.2.2
theorem RX_late {x : zM} {q : Int → Int} {l v : Int} (hX : RX x q) (hB : IB q) (hN : IN q) (hR : IR q) (l0 : 0 ≤ l) (l1 : l < q 3) : RX (zupd x 82 l v) (up q (546 + l) v) := by
  have hb := hB; unfold IB at hb
  have o : ∀ i, i < 546 ∨ 570 ≤ i → up q (546 + l) v i = q i := fun i hi => up_ne (by omega)
  refine ⟨?_, ?_, ?_, ?_, ?_⟩
  · unfold RMx; simp (disch := omega) only [zu_ne]; exact RM_f hB (o 0 (by omega)) (o 1 (by omega)) (fun i i0 i1 => o i (by omega)) hX.1
  · unfold RLx; simp (disch := omega) only [zu_ne]; exact RL_f hB (o 4 (by omega)) (fun i i0 i1 => o i (by omega)) (o 6161 (by omega)) (o 6162 (by omega)) hX.2.1
  · unfold RAx; simp (disch := omega) only [zu_ne]; exact RA_f hB (o 2 (by omega)) (fun i i0 i1 => o i (by omega)) hX.2.2.1
  · have r := hX.2.2.2.1
    refine ⟨by simp (disch := omega) only [zu_ne]; rw [o 3 (by omega)]; exact r.1, fun k k0 k1 => ?_⟩
    rw [o 3 (by omega)] at k1
    have rk := r.2 k k0 k1
    have n := hN.1 k k0 k1
    unfold INl at n
    have ge : gEc (up q (546 + l) v) (q (450 + k)) (q (498 + k)) = gEc q (q (450 + k)) (q (498 + k)) := gEc_f (by omega) (by omega) (fun j j0 j1 => o j (by omega))
    simp (disch := omega) only [zu_ne, zu_eq]
    rw [o (450 + k) (by omega), o (90 + q (450 + k)) (by omega), o (114 + q (450 + k)) (by omega), o (138 + q (450 + k)) (by omega), o (162 + q (450 + k)) (by omega), o (474 + k) (by omega), o (498 + k) (by omega), ge, o (522 + k) (by omega), o (570 + k) (by omega), o (594 + k) (by omega), o (618 + k) (by omega), o (642 + k) (by omega), o (666 + k) (by omega)]
    refine ⟨rk.1, rk.2.1, rk.2.2.1, rk.2.2.2.1, rk.2.2.2.2.1, rk.2.2.2.2.2.1, rk.2.2.2.2.2.2.1, rk.2.2.2.2.2.2.2.1, rk.2.2.2.2.2.2.2.2.1, ?_, rk.2.2.2.2.2.2.2.2.2.2⟩
    by_cases c : k = l
    · subst c; rw [up_at rfl, up_at rfl]
    · rw [up_ne c, up_ne (by omega)]; exact rk.2.2.2.2.2.2.2.2.2.1
  · unfold RRx; simp (disch := omega) only [zu_ne]; exact RR_f hB hR (o 5 (by omega)) (fun i i0 i1 => o i (by omega)) hX.2.2.2.2
theorem RX_fail {x x' : zM} {q : Int → Int} {l : Int} (hX : RX x q) (hB : IB q) (hA : IA q) (hN : IN q) (hR : IR q) (hE : IE q) (h6 : q 4 ≤ 644) (l0 : 0 ≤ l) (l1 : l < q 3) (hL : RLx x' (gFj q l (q (234 + q (450 + l)))).1) (hx : ∀ k, k < 7 ∨ 12 < k → k ≠ 83 → k ≠ 84 → k ≠ 85 → k ≠ 86 → x' k = x k) (e83 : x' 83 = up (x 83) l 2) (e84 : x' 84 = up (x 84) l (gFown q l)) (e85 : x' 85 = up (x 85) l (gFback q l)) (e86 : x' 86 = up (x 86) l (gFlost q l)) : RX x' (gFp q l) := by
  have hb := hB; unfold IB at hb
  have nl := hN.1 l l0 l1
  unfold INl at nl
  have aa := hA.1 (q (450 + l)) (by omega) (by omega)
  unfold IAa at aa
  obtain ⟨J1, J2, J3, J4, J5, J6, J7⟩ := gFj_J hB hA hN hE h6 l0 l1 (q (234 + q (450 + l))) (by omega) (by omega)
  have o : ∀ i, i ≠ 4 → i < 570 ∨ (3490 ≤ i ∧ i ≠ 6160) → gFp q l i = q i := fun i i4 hi => gFp_o hB hA hN hE h6 l0 l1 i4 (by omega) (by omega) (by omega) (by omega) (by omega) (by omega)
  have e := fun i => gFp_e (p := q) (l := l) (i := i) l0 (by omega)
  refine ⟨?_, ?_, ?_, ?_, ?_⟩
  · unfold RMx; rw [hx 1 (by omega) (by omega) (by omega) (by omega) (by omega), hx 2 (by omega) (by omega) (by omega) (by omega) (by omega), hx 3 (by omega) (by omega) (by omega) (by omega) (by omega), hx 4 (by omega) (by omega) (by omega) (by omega) (by omega), hx 5 (by omega) (by omega) (by omega) (by omega) (by omega), hx 6 (by omega) (by omega) (by omega) (by omega) (by omega)]
    exact RM_f hB (o 0 (by omega) (by omega)) (o 1 (by omega) (by omega)) (fun i i0 i1 => o i (by omega) (by omega)) hX.1
  · refine RL_f J1 (e 4 (by omega)) (fun i i0 i1 => e i (by omega)) ?_ ?_ hL
    · rw [o 6161 (by omega) (by omega), J4 6161 (by omega) (by omega)]
    · rw [o 6162 (by omega) (by omega), J4 6162 (by omega) (by omega)]
  · unfold RAx; rw [hx 14 (by omega) (by omega) (by omega) (by omega) (by omega), hx 15 (by omega) (by omega) (by omega) (by omega) (by omega), hx 16 (by omega) (by omega) (by omega) (by omega) (by omega), hx 17 (by omega) (by omega) (by omega) (by omega) (by omega), hx 18 (by omega) (by omega) (by omega) (by omega) (by omega), hx 19 (by omega) (by omega) (by omega) (by omega) (by omega), hx 20 (by omega) (by omega) (by omega) (by omega) (by omega), hx 21 (by omega) (by omega) (by omega) (by omega) (by omega), hx 22 (by omega) (by omega) (by omega) (by omega) (by omega), hx 47 (by omega) (by omega) (by omega) (by omega) (by omega)]
    exact RA_f hB (o 2 (by omega) (by omega)) (fun i i0 i1 => o i (by omega) (by omega)) hX.2.2.1
  · unfold RNx
    rw [hx 72 (by omega) (by omega) (by omega) (by omega) (by omega), hx 73 (by omega) (by omega) (by omega) (by omega) (by omega), hx 74 (by omega) (by omega) (by omega) (by omega) (by omega), hx 75 (by omega) (by omega) (by omega) (by omega) (by omega), hx 76 (by omega) (by omega) (by omega) (by omega) (by omega), hx 77 (by omega) (by omega) (by omega) (by omega) (by omega), hx 78 (by omega) (by omega) (by omega) (by omega) (by omega), hx 79 (by omega) (by omega) (by omega) (by omega) (by omega), hx 80 (by omega) (by omega) (by omega) (by omega) (by omega), hx 81 (by omega) (by omega) (by omega) (by omega) (by omega), hx 82 (by omega) (by omega) (by omega) (by omega) (by omega), e83, e84, e85, e86, hx 87 (by omega) (by omega) (by omega) (by omega) (by omega)]
    exact RN_fail hB hA hN hE h6 l0 l1 hX.2.2.2.1
  · unfold RRx; rw [hx 88 (by omega) (by omega) (by omega) (by omega) (by omega), hx 89 (by omega) (by omega) (by omega) (by omega) (by omega), hx 90 (by omega) (by omega) (by omega) (by omega) (by omega), hx 91 (by omega) (by omega) (by omega) (by omega) (by omega), hx 92 (by omega) (by omega) (by omega) (by omega) (by omega), hx 93 (by omega) (by omega) (by omega) (by omega) (by omega), hx 94 (by omega) (by omega) (by omega) (by omega) (by omega)]
    exact RR_f hB hR (o 5 (by omega) (by omega)) (fun i i0 i1 => o i (by omega) (by omega)) hX.2.2.2.2
theorem c12 {d : Nat} {p w : Int → Int} {x m : zM} {Q : Int → zM → zM → Prop} (hd : 7 ≤ d) (hX : RX x p) (hB : IB p) (hA : IA p) (hN : IN p) (hR : IR p) (hE : IE p) (hQ : IQ p) (h4 : p 4 ≤ gCap p) (hY : IY p w) (e108 : x 108 7 = p 6160) (hl0 : 0 ≤ p 6160) (hl1 : p 6160 ≤ 2111971200) (h : ∀ x', RX x' (gPs p (p 3)).1 → (∀ k, k < 7 ∨ 12 < k → k < 82 ∨ 86 < k → k ≠ 108 → x' k = x k) → x' 108 7 = (gPs p (p 3)).1 6160 → (∀ i, i ≠ 7 → x' 108 i = x 108 i) → Q (gPs p (p 3)).2 x' m) : WPc d 12 [zr 332] 403 [] x m 403 [] Q := by
  have hb := hB; unfold IB at hb
  have loop : ∀ j, 0 ≤ j → j ≤ p 3 → ∀ x', RX x' (gPs p j).1 → (∀ k, k < 7 ∨ 12 < k → k < 82 ∨ 86 < k → k ≠ 108 → x' k = x k) → x' 108 7 = (gPs p j).1 6160 → (∀ i, i ≠ 7 → x' 108 i = x 108 i) → WP d 12 12 [(0, zr 332), (1, zr 72), (2, zi (gPs p j).2), (3, zi j)] [] 403 [] x' m 403 [] Q := by
    refine zdown _ _ ?_
    intro j j0 j1 ih x' hX' hx' e7 ei
    obtain ⟨J1, J2, J3, J4, ⟨J5, J5'⟩, J6, J7, J8, J9, J10⟩ := gPs_J hB hA hN hE hQ h4 hY hl0 j j0 j1
    rw [gPs_s j0] at ih
    have h' : j = p 3 → Q (gPs p j).2 x' m := fun e => by rw [e]; rw [e] at hX' e7; exact h x' hX' hx' e7 ei
    obtain ⟨q, hq⟩ : ∃ q, q = (gPs p j).1 := ⟨_, rfl⟩
    obtain ⟨c, hc⟩ : ∃ c, c = (gPs p j).2 := ⟨_, rfl⟩
    have es : gPs p j = (q, c) := by rw [hq, hc]
    rw [es] at ih
    rw [← hc] at h' ⊢
    rw [← hq] at J1 J2 J3 J4 J5 J5' J6 J7 J8 J9 hX' e7
    rw [← hc] at J10
    clear hq hc es h
    have jb := J1; unfold IB at jb
    have q3 := J6 3 (by omega) (by omega) (by omega)
    have q0 := J6 0 (by omega) (by omega) (by omega)
    have hR' : IR q := IR_f hB (J6 5 (by omega) (by omega) (by omega)) (fun i i0 i1 => J6 i (by omega) (by omega) (by omega)) hR
    have e10 : x' 1 0 = q 0 := hX'.1.1
    have e72 : x' 72 0 = q 3 := hX'.2.2.2.1.1
    apply r12_c12
    simp only [e10, e72]
    by_cases cj : j < p 3
    · have s7 := J7 j (by omega) (by omega)
      have n := J3.1 j j0 (by omega)
      unfold INl at n
      obtain ⟨I1, I2, I3, I4, I5⟩ := IL_late (v := 13) J1 J2 J3 J4 j0 (show j < q 3 by omega) (by omega) (by omega)
      have o4 : up q (546 + j) 13 4 = q 4 := up_ne (by omega)
      have o3 : up q (546 + j) 13 3 = q 3 := up_ne (by omega)
      have o0 : up q (546 + j) 13 0 = q 0 := up_ne (by omega)
      have o570 : up q (546 + j) 13 (570 + j) = q (570 + j) := up_ne (by omega)
      have o6160 : up q (546 + j) 13 6160 = q 6160 := up_ne (by omega)
      have hR13 : IR (up q (546 + j) 13) := IR_f J1 (up_ne (by omega)) (fun i i0 i1 => up_ne (by omega)) hR'
      obtain ⟨b1, b2, b3⟩ := gFp_bd I1 I2 I3 I4 (show up q (546 + j) 13 4 ≤ 644 by omega) j0 (show j < up q (546 + j) 13 3 by omega)
      have v5 := (gFp_v (p := up q (546 + j) 13) j0 (show j < 24 by omega)).2.2.2.2
      have qj := hQ j j0 (by omega)
      have rk := hX'.2.2.2.1.2 j j0 (by omega)
      have e83 : x' 83 j = q (570 + j) := rk.2.2.2.2.2.2.2.2.2.2.1
      have e82 : x' 82 j = q (546 + j) := rk.2.2.2.2.2.2.2.2.2.1
      have hX13 : RX (zupd x' 82 j 13) (up q (546 + j) 13) := RX_late hX' J1 J3 hR' j0 (by omega)
      have g1 : (zupd x' 82 j 13) 1 0 = q 0 := by rw [zu_ne _ _ _ (by omega)]; exact e10
      clear h' rk
      replace ih := ih cj
      simp only [e83]
      repeat' (first | (with_reducible assumption) | (with_reducible rfl) | (with_reducible apply And.intro) | (with_reducible apply zIn_mk) | (with_reducible apply zLn_mk) | (simp only [zu_eq, e82]) | (simp (disch := omega) only [up_ne, up_at]) | ((with_reducible intro _); try (exfalso; omega)) | omega | (with_reducible exact Or.inr trivial) | (with_reducible exact Or.inl trivial) | ((refine c53 (p := q) (by omega) hX'.2.2.2.1 J1 J2 J3 j0 (by omega) (by omega) (by omega) ?_ ?_)) | ((rw [gPst_n (by omega)] at ih; exact ih x' hX' hx' e7 ei)) | ((rw [gPst_0 (by omega) (by omega)] at ih; dsimp only at ih; exact ih _ (RX_late hX' J1 J3 hR' j0 (by omega)) (fun k k0 k1 k2 => by rw [zu_ne _ _ _ (by omega)]; exact hx' k k0 k1 k2) (by rw [zu_ne _ _ _ (by omega), up_ne (by omega)]; exact e7) (fun i i0 => by rw [zu_ne _ _ _ (by omega)]; exact ei i i0))) | ((rw [gPst_l (by omega) (by omega) (by omega)] at ih; dsimp only at ih; exact ih _ (RX_late hX' J1 J3 hR' j0 (by omega)) (fun k k0 k1 k2 => by rw [zu_ne _ _ _ (by omega)]; exact hx' k k0 k1 k2) (by rw [zu_ne _ _ _ (by omega), up_ne (by omega)]; exact e7) (fun i i0 => by rw [zu_ne _ _ _ (by omega)]; exact ei i i0))) | ((rw [gPst_f (by omega) (by omega) (by omega), show q (546 + j) + 1 = 13 by omega] at ih; dsimp only at ih; rw [show q (546 + j) + 1 = 13 by omega]; refine c9_14_72_7 (p := up q (546 + j) 13) (by omega) hX13.2.1 hX13.2.2.2.1 hX13.2.2.1 I1 I2 I3 I4 (by omega) j0 (by omega) (by omega) (by omega) ?_; intro x5 f1 f2 f3 f4 f5 f6; have hX5 := RX_fail hX13 I1 I2 I3 hR13 I4 (by omega) j0 (by omega) f1 f2 f3 f4 f5 f6)) | ((rw [e7]; refine ih _ (RX_o (fun k k0 _ => zu_ne _ _ _ (by omega)) hX5) (fun k k0 k1 k2 => ?_) ?_ (fun i i0 => ?_))) | fail)
      · rw [zu_ne _ _ _ k2, f2 k k0 (by omega) (by omega) (by omega) (by omega), zu_ne _ _ _ (by omega)]; exact hx' k k0 k1 k2
      · rw [f2 108 (by omega) (by omega) (by omega) (by omega) (by omega), zu_ne _ _ _ (by omega)]; exact ei i i0
    · have h2 := h' (by omega)
      clear h' ih
      repeat' (first | (with_reducible assumption) | (with_reducible rfl) | (with_reducible apply And.intro) | (with_reducible apply zIn_mk) | (with_reducible apply zLn_mk) | ((with_reducible intro _); try (exfalso; omega)) | omega | (with_reducible exact Or.inr trivial) | (with_reducible exact Or.inl trivial) | ((exact h2)) | fail)
  apply r12
  exact loop 0 (by omega) (by omega) x hX (fun _ _ _ _ => rfl) e108 (fun _ _ => rfl)
