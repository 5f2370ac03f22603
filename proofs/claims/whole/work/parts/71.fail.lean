/-! A LOAN FAILS -/
def gFk (a : Int) (s : (Int → Int) × Int × Int) : Nat → (Int → Int) × Int × Int
  | 0 => s
  | k + 1 => (gTp (gFk a s k).1 ((gFk a s k).1 (258 + 4 * a + k)) (if (gFk a s k).1 (354 + 4 * a + k) < (gFk a s k).2.1 then (gFk a s k).1 (354 + 4 * a + k) else (gFk a s k).2.1), (gFk a s k).2.1 - gTk (gFk a s k).1 ((gFk a s k).1 (258 + 4 * a + k)) (if (gFk a s k).1 (354 + 4 * a + k) < (gFk a s k).2.1 then (gFk a s k).1 (354 + 4 * a + k) else (gFk a s k).2.1), (gFk a s k).2.2 + gTk (gFk a s k).1 ((gFk a s k).1 (258 + 4 * a + k)) (if (gFk a s k).1 (354 + 4 * a + k) < (gFk a s k).2.1 then (gFk a s k).1 (354 + 4 * a + k) else (gFk a s k).2.1))
def gF0 (p : Int → Int) (l : Int) : (Int → Int) × Int × Int := (gTp p (p (90 + p (450 + l))) (gOw p l), gOw p l - gTk p (p (90 + p (450 + l))) (gOw p l), 0)
/-- the state behind j backers -/
def gFj (p : Int → Int) (l j : Int) : (Int → Int) × Int × Int := gFk (p (450 + l)) (gF0 p l) j.toNat
theorem gFj_s {p : Int → Int} {l j : Int} (h : 0 ≤ j) : gFj p l (j + 1) = (gTp (gFj p l j).1 ((gFj p l j).1 (258 + 4 * p (450 + l) + j)) (if (gFj p l j).1 (354 + 4 * p (450 + l) + j) < (gFj p l j).2.1 then (gFj p l j).1 (354 + 4 * p (450 + l) + j) else (gFj p l j).2.1), (gFj p l j).2.1 - gTk (gFj p l j).1 ((gFj p l j).1 (258 + 4 * p (450 + l) + j)) (if (gFj p l j).1 (354 + 4 * p (450 + l) + j) < (gFj p l j).2.1 then (gFj p l j).1 (354 + 4 * p (450 + l) + j) else (gFj p l j).2.1), (gFj p l j).2.2 + gTk (gFj p l j).1 ((gFj p l j).1 (258 + 4 * p (450 + l) + j)) (if (gFj p l j).1 (354 + 4 * p (450 + l) + j) < (gFj p l j).2.1 then (gFj p l j).1 (354 + 4 * p (450 + l) + j) else (gFj p l j).2.1)) := by
  unfold gFj
  have e : (j + 1).toNat = j.toNat + 1 := by omega
  have e2 : (j.toNat : Int) = j := by omega
  rw [e, gFk, e2]
def gFown (p : Int → Int) (l : Int) : Int := gTk p (p (90 + p (450 + l))) (gOw p l)
def gFlost (p : Int → Int) (l : Int) : Int := (gFj p l (p (234 + p (450 + l)))).2.1
def gFback (p : Int → Int) (l : Int) : Int := (gFj p l (p (234 + p (450 + l)))).2.2
def gFp (p : Int → Int) (l : Int) : Int → Int := up (up (up (up (up (gFj p l (p (234 + p (450 + l)))).1 (570 + l) 2) (594 + l) (gFown p l)) (618 + l) (gFback p l)) (642 + l) (gFlost p l)) 6160 (p 6160 + gFlost p l)
theorem gFj_J {p : Int → Int} {l : Int} (hB : IB p) (hA : IA p) (hN : IN p) (hE : IE p) (h6 : p 4 ≤ 644) (l0 : 0 ≤ l) (l1 : l < p 3) : ∀ j, 0 ≤ j → (j ≤ p (234 + p (450 + l)) → IB (gFj p l j).1 ∧ IE (gFj p l j).1 ∧ (gFj p l j).1 4 ≤ p 4 + 1 + j ∧ (∀ i, i ≠ 4 → i < 690 ∨ 3490 ≤ i → (gFj p l j).1 i = p i) ∧ 0 ≤ (gFj p l j).2.1 ∧ 0 ≤ (gFj p l j).2.2 ∧ (gFj p l j).2.1 + (gFj p l j).2.2 + gFown p l = gOw p l) := by
  have hb := hB; unfold IB at hb
  have nl := hN.1 l l0 l1
  unfold INl at nl
  have aa := hA.1 (p (450 + l)) (by omega) (by omega)
  unfold IAa at aa
  have ow := gOw_bd hA hN l0 l1
  refine zup1 _ (fun _ => ?_) ?_
  · have J := gTp_J (most := gOw p l) hB hE (show 0 ≤ p (90 + p (450 + l)) by omega) (by omega) (by omega)
    have b := gTk_bd p (p (90 + p (450 + l))) (gOw p l)
    show IB (gTp _ _ _) ∧ IE (gTp _ _ _) ∧ gTp _ _ _ 4 ≤ p 4 + 1 + 0 ∧ (∀ i, i ≠ 4 → i < 690 ∨ 3490 ≤ i → gTp _ _ _ i = p i) ∧ 0 ≤ gOw p l - gTk _ _ _ ∧ (0 : Int) ≤ 0 ∧ gOw p l - gTk _ _ _ + 0 + gTk _ _ _ = gOw p l
    exact ⟨J.1, J.2.1, by omega, J.2.2.2, by omega, by omega, by omega⟩
  · intro j j0 ih j1
    obtain ⟨J1, J2, J3, J4, J5, J6, J7⟩ := ih (by omega)
    have bk := hA.2 (p (450 + l)) j (by omega) (by omega) j0 (by omega)
    unfold IAb at bk
    rw [gFj_s j0]
    have e1 := J4 (258 + 4 * p (450 + l) + j) (by omega) (by omega)
    have e2 := J4 1 (by omega) (by omega)
    have J := gTp_J (most := (if (gFj p l j).1 (354 + 4 * p (450 + l) + j) < (gFj p l j).2.1 then (gFj p l j).1 (354 + 4 * p (450 + l) + j) else (gFj p l j).2.1)) J1 J2 (show 0 ≤ (gFj p l j).1 (258 + 4 * p (450 + l) + j) by omega) (by omega) (by omega)
    have b := gTk_bd (gFj p l j).1 ((gFj p l j).1 (258 + 4 * p (450 + l) + j)) (if (gFj p l j).1 (354 + 4 * p (450 + l) + j) < (gFj p l j).2.1 then (gFj p l j).1 (354 + 4 * p (450 + l) + j) else (gFj p l j).2.1)
    have mm : (if (gFj p l j).1 (354 + 4 * p (450 + l) + j) < (gFj p l j).2.1 then (gFj p l j).1 (354 + 4 * p (450 + l) + j) else (gFj p l j).2.1) ≤ (gFj p l j).2.1 := by split <;> omega
    refine ⟨J.1, J.2.1, ?_, fun i a b => ?_, ?_, ?_, ?_⟩
    · have h := J.2.2.1
      show gTp _ _ _ 4 ≤ p 4 + 1 + (j + 1)
      omega
    · exact (J.2.2.2 i a b).trans (J4 i a b)
    · show 0 ≤ (gFj p l j).2.1 - gTk _ _ _; omega
    · show 0 ≤ (gFj p l j).2.2 + gTk _ _ _; omega
    · show (gFj p l j).2.1 - gTk _ _ _ + ((gFj p l j).2.2 + gTk _ _ _) + gFown p l = gOw p l; omega
theorem s240 {d : Nat} {l : Int} {p : Int → Int} {x m : zM} {Q : Int → zM → zM → Prop} (hp : m 387 = p) (hd : 5 ≤ d) (hB : IB p) (hA : IA p) (hN : IN p) (hE : IE p) (h6 : p 4 ≤ 644) (l0 : 0 ≤ l) (l1 : l < p 3) (hl0 : 0 ≤ p 6160) (hl1 : p 6160 ≤ 2117251128) (h : Q (gFlost p l) x (zP m (gFp p l))) : WPc d 240 [zr 386, zi l] 403 [] x m 403 [] Q := by
  subst hp
  have hb := hB; unfold IB at hb
  have nl := hN.1 l l0 l1
  unfold INl at nl
  have aa := hA.1 (m 387 (450 + l)) (by omega) (by omega)
  unfold IAa at aa
  have ow := gOw_bd hA hN l0 l1
  have loop : ∀ j, 0 ≤ j → j ≤ m 387 (234 + m 387 (450 + l)) → ∀ la bk, la = (gFj (m 387) l j).2.1 → bk = (gFj (m 387) l j).2.2 → WP d 240 44 [(0, zr 386), (1, zi l), (2, zi (m 387 (450 + l))), (3, zi la), (4, zi (gFown (m 387) l)), (5, zi bk), (6, zi j)] [] 403 [] x (zP m (gFj (m 387) l j).1) 403 [] Q := by
    refine zdown _ _ ?_
    intro j j0 j1 ih la bk hla hbk
    obtain ⟨J1, J2, J3, J4, J5, J6, J7⟩ := gFj_J hB hA hN hE h6 l0 l1 j j0 j1
    have ow' : 0 ≤ gFown (m 387) l := (gTk_bd _ _ _).1
    have e234 := J4 (234 + m 387 (450 + l)) (by omega) (by omega)
    have e6160 := J4 6160 (by omega) (by omega)
    have hs := gFj_s (p := m 387) (l := l) j0
    apply r240_c44
    simp only [zP_eq]
    by_cases c : j < m 387 (234 + m 387 (450 + l))
    · have bb := hA.2 (m 387 (450 + l)) j (by omega) (by omega) j0 c
      unfold IAb at bb
      have eb := J4 (258 + 4 * m 387 (450 + l) + j) (by omega) (by omega)
      have ep := J4 (354 + 4 * m 387 (450 + l) + j) (by omega) (by omega)
      have b1 := gTk_bd (gFj (m 387) l j).1 ((gFj (m 387) l j).1 (258 + 4 * m 387 (450 + l) + j)) ((gFj (m 387) l j).1 (354 + 4 * m 387 (450 + l) + j))
      have b2 := gTk_bd (gFj (m 387) l j).1 ((gFj (m 387) l j).1 (258 + 4 * m 387 (450 + l) + j)) la
      repeat' (first | (with_reducible assumption) | (with_reducible rfl) | (with_reducible apply And.intro) | (with_reducible apply zIn_mk) | (with_reducible apply zLn_mk) | ((with_reducible intro _); try (exfalso; omega)) | omega | (with_reducible exact Or.inr trivial) | (with_reducible exact Or.inl trivial) | ((refine s239 (p := (gFj (m 387) l j).1) (zP_eq _ _) (by omega) J1 J2 (by omega) ?_)) | ((rw [zP_zP]; have ih' := ih c _ _ rfl rfl; rw [hs, if_pos (by omega)] at ih'; rw [hla, hbk]; exact ih')) | ((rw [zP_zP]; have ih' := ih c _ _ rfl rfl; rw [hs, if_neg (by omega), ← hla, ← hbk] at ih'; exact ih')) | fail)
    · have ej : j = m 387 (234 + m 387 (450 + l)) := by omega
      have h' := h
      unfold gFp gFlost gFback at h'
      rw [← ej, ← hla, ← hbk] at h'
      repeat' (first | (with_reducible assumption) | (with_reducible rfl) | (with_reducible apply And.intro) | (with_reducible apply zIn_mk) | (with_reducible apply zLn_mk) | (simp only [zP_up, zP_eq, zP_zP]) | (simp (disch := omega) only [up_ne]) | ((with_reducible intro _); try (exfalso; omega)) | omega | (with_reducible exact Or.inr trivial) | (with_reducible exact Or.inl trivial) | ((rw [e6160]; exact h')) | fail)
  have b0 := gTk_bd (m 387) (m 387 (90 + m 387 (450 + l))) (gOw (m 387) l)
  apply r240
  repeat' (first | (with_reducible assumption) | (with_reducible rfl) | (with_reducible apply And.intro) | (with_reducible apply zIn_mk) | (with_reducible apply zLn_mk) | ((with_reducible intro _); try (exfalso; omega)) | omega | (with_reducible exact Or.inr trivial) | (with_reducible exact Or.inl trivial) | (with_reducible apply s190) | ((refine s239 (p := m 387) rfl (by omega) hB hE (by omega) ?_)) | ((exact loop 0 (by omega) (by omega) _ _ rfl rfl)) | fail)
