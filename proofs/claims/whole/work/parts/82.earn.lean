/-! WHAT LOANS EARNED -/
def gSo (p : Int → Int) (l : Int) : Int := p (522 + l) * p (498 + l) / (p (138 + p (450 + l)) + p (498 + l))
def gErS (y : Int) (s : (Int → Int) × Int) (l : Int) : (Int → Int) × Int := (up (up s.1 (6032 + 16 * y + s.1 (90 + s.1 (450 + l))) (s.1 (6032 + 16 * y + s.1 (90 + s.1 (450 + l))) + (gSo s.1 l - s.1 (666 + l)))) (666 + l) (gSo s.1 l), s.2 + (gSo s.1 l - s.1 (666 + l)))
def gErN (p : Int → Int) (y : Int) : Nat → (Int → Int) × Int
  | 0 => (p, 0)
  | n + 1 => gErS y (gErN p y n) n
def gEr (p : Int → Int) (y l : Int) : (Int → Int) × Int := gErN p y l.toNat
theorem gEr_s {p : Int → Int} {y l : Int} (h : 0 ≤ l) : gEr p y (l + 1) = gErS y (gEr p y l) l := by
  unfold gEr
  have e : (l + 1).toNat = l.toNat + 1 := by omega
  have e2 : (l.toNat : Int) = l := by omega
  rw [e, gErN, e2]
theorem gSo_bd {p : Int → Int} {l : Int} (hA : IA p) (hN : IN p) (l0 : 0 ≤ l) (l1 : l < p 3) : (0 < p (138 + p (450 + l)) + p (498 + l) ∧ p (138 + p (450 + l)) + p (498 + l) ≤ 219997) ∧ (0 ≤ p (522 + l) * p (498 + l) ∧ p (522 + l) * p (498 + l) ≤ 219997 * 119998) ∧ 0 ≤ p (666 + l) ∧ p (666 + l) ≤ gSo p l ∧ gSo p l ≤ 119998 ∧ gSo p l * (p (138 + p (450 + l)) + p (498 + l)) ≤ p (522 + l) * p (498 + l) := by
  have n := hN.1 l l0 l1
  have e := hN.2 l l0 l1
  unfold INl at n
  unfold INe at e
  have a := hA.1 (p (450 + l)) (by omega) (by omega)
  unfold IAa at a
  have m := mulbd (a := p (522 + l)) (b := p (498 + l)) (A := 219997) (B := 119998) (by omega) (by omega) (by omega) (by omega)
  have t : 0 < p (138 + p (450 + l)) + p (498 + l) := by omega
  refine ⟨⟨t, by omega⟩, m, e.1, Int.le_ediv_of_mul_le t e.2, ?_, Int.ediv_mul_le _ (by omega)⟩
  have u := Int.mul_le_mul_of_nonneg_right (show p (522 + l) ≤ p (138 + p (450 + l)) + p (498 + l) by omega) (show 0 ≤ p (498 + l) by omega)
  rw [Int.mul_comm (p (138 + p (450 + l)) + p (498 + l)) (p (498 + l))] at u
  have := Int.ediv_le_of_le_mul t u
  unfold gSo
  omega
theorem gEr_J {p : Int → Int} {y : Int} (hB : IB p) (hA : IA p) (hN : IN p) (y0 : 0 ≤ y) (y1 : y < 7) (hz : ∀ k, 0 ≤ k → k < 16 → p (6032 + 16 * y + k) = 0) : ∀ j, 0 ≤ j → (j ≤ p 3 → IN (gEr p y j).1 ∧ (∀ i, i < 666 ∨ 690 ≤ i → i < 6032 + 16 * y ∨ 6032 + 16 * y + 16 ≤ i → (gEr p y j).1 i = p i) ∧ (∀ k, j ≤ k → k < 24 → (gEr p y j).1 (666 + k) = p (666 + k)) ∧ (∀ k, 0 ≤ k → k < 16 → 0 ≤ (gEr p y j).1 (6032 + 16 * y + k) ∧ (gEr p y j).1 (6032 + 16 * y + k) ≤ (gEr p y j).2) ∧ (0 ≤ (gEr p y j).2 ∧ (gEr p y j).2 ≤ 119998 * j)) := by
  have hb := hB; unfold IB at hb
  refine zup1 _ (fun _ => ?_) ?_
  · have e : gEr p y 0 = (p, 0) := rfl
    rw [e]
    exact ⟨hN, fun i _ _ => rfl, fun k _ _ => rfl, fun k k0 k1 => by have := hz k k0 k1; dsimp only; omega, by dsimp only; omega⟩
  · intro j j0 ih j1
    obtain ⟨J1, J2, J3, J4, J5⟩ := ih (by omega)
    rw [gEr_s j0]
    obtain ⟨q, hq⟩ : ∃ q, q = (gEr p y j).1 := ⟨_, rfl⟩
    obtain ⟨c, hc⟩ : ∃ c, c = (gEr p y j).2 := ⟨_, rfl⟩
    have es : gEr p y j = (q, c) := by rw [hq, hc]
    rw [es]
    rw [← hq] at J1 J2 J3 J4
    rw [← hc] at J4 J5
    clear hq hc es ih
    have q3 := J2 3 (by omega) (by omega)
    have q2 := J2 2 (by omega) (by omega)
    have q1 := J2 1 (by omega) (by omega)
    have hB' : IB q := by unfold IB; rw [J2 0 (by omega) (by omega), q1, q2, q3, J2 4 (by omega) (by omega), J2 5 (by omega) (by omega), J2 6 (by omega) (by omega), J2 7 (by omega) (by omega), J2 8 (by omega) (by omega)]; exact hb
    have hA' : IA q := IA_f hB (by omega) q2 (fun i i0 i1 => J2 i (by omega) (by omega)) hA
    have n := J1.1 j j0 (by omega)
    unfold INl at n
    have a := hA'.1 (q (450 + j)) (by omega) (by omega)
    unfold IAa at a
    obtain ⟨⟨S1, S1'⟩, S2, S3, S4, S5, S6⟩ := gSo_bd hA' J1 j0 (by omega)
    unfold gErS
    dsimp only
    obtain ⟨b, hb'⟩ : ∃ b, b = q (90 + q (450 + j)) := ⟨_, rfl⟩
    rw [← hb'] at a ⊢
    obtain ⟨so, hso⟩ : ∃ so, so = gSo q j := ⟨_, rfl⟩
    rw [← hso] at S4 S5 S6 ⊢
    have o : ∀ i, i < 666 ∨ 690 ≤ i → i < 6032 + 16 * y ∨ 6032 + 16 * y + 16 ≤ i → up (up q (6032 + 16 * y + b) (q (6032 + 16 * y + b) + (so - q (666 + j)))) (666 + j) so i = q i := fun i h1 h2 => by rw [up_ne (by omega), up_ne (by omega)]
    have o2 : ∀ i, i < 666 → up (up q (6032 + 16 * y + b) (q (6032 + 16 * y + b) + (so - q (666 + j)))) (666 + j) so i = q i := fun i h1 => o i (by omega) (by omega)
    refine ⟨⟨fun k k0 k1 => ?_, fun k k0 k1 => ?_⟩, fun i h1 h2 => by rw [o i h1 h2, J2 i h1 h2], fun k k0 k1 => by rw [up_ne (by omega), up_ne (by omega)]; exact J3 k (by omega) k1, fun k k0 k1 => ?_, by omega⟩
    · rw [o2 3 (by omega)] at k1
      have nk := J1.1 k k0 k1
      unfold INl at *
      rw [o2 (450 + k) (by omega), o2 (474 + k) (by omega), o2 (498 + k) (by omega), o2 (522 + k) (by omega), o2 (546 + k) (by omega), o2 (570 + k) (by omega), o2 (594 + k) (by omega), o2 (618 + k) (by omega), o2 (642 + k) (by omega), o2 (138 + q (450 + k)) (by omega), o2 0 (by omega), o2 2 (by omega)]
      exact nk
    · rw [o2 3 (by omega)] at k1
      have nk := J1.1 k k0 k1
      have ek := J1.2 k k0 k1
      unfold INl at nk
      unfold INe at *
      rw [o2 (450 + k) (by omega), o2 (498 + k) (by omega), o2 (522 + k) (by omega), o2 (138 + q (450 + k)) (by omega)]
      by_cases ck : k = j
      · subst ck; rw [up_at rfl]; exact ⟨by omega, S6⟩
      · rw [up_ne (by omega), up_ne (by omega)]; exact ek
    · have jk := J4 k k0 k1
      rw [up_ne (by omega)]
      by_cases ck : k = b
      · subst ck; rw [up_at rfl]; omega
      · rw [up_ne (by omega)]; omega
theorem c14 {d : Nat} {y : Int} {p : Int → Int} {x m : zM} {Q : Int → zM → zM → Prop} (hR : RNx x p) (hB : IB p) (hA : IA p) (hN : IN p) (y0 : 0 ≤ y) (y1 : y < 7) (hz : ∀ k, 0 ≤ k → k < 16 → p (6032 + 16 * y + k) = 0) (e141 : ∀ k, 0 ≤ k → k < 16 → x 141 (y * 16 + k) = p (6032 + 16 * y + k)) (h : ∀ x', (∀ k, k ≠ 87 → k ≠ 141 → x' k = x k) → (∀ l, 0 ≤ l → l < p 3 → x' 87 l = (gEr p y (p 3)).1 (666 + l)) → (∀ k, 0 ≤ k → k < 16 → x' 141 (y * 16 + k) = (gEr p y (p 3)).1 (6032 + 16 * y + k)) → (∀ i, i < y * 16 ∨ y * 16 + 16 ≤ i → x' 141 i = x 141 i) → Q (gEr p y (p 3)).2 x' m) : WPc d 14 [zr 332, zw 141 y] 403 [] x m 403 [] Q := by
  have hb := hB; unfold IB at hb
  have loop : ∀ j, 0 ≤ j → j ≤ p 3 → ∀ x', (∀ k, k ≠ 87 → k ≠ 141 → x' k = x k) → (∀ l, 0 ≤ l → l < p 3 → x' 87 l = (gEr p y j).1 (666 + l)) → (∀ k, 0 ≤ k → k < 16 → x' 141 (y * 16 + k) = (gEr p y j).1 (6032 + 16 * y + k)) → (∀ i, i < y * 16 ∨ y * 16 + 16 ≤ i → x' 141 i = x 141 i) → WP d 14 13 [(1, zw 141 y), (2, zr 72), (3, zl (gEr p y j).2), (5, zi j)] [] 403 [] x' m 403 [] Q := by
    refine zdown _ _ ?_
    intro j j0 j1 ih x' hx h87 h141 hi
    obtain ⟨J1, J2, J3, J4, J5⟩ := gEr_J hB hA hN y0 y1 hz j j0 j1
    have h' : j = p 3 → Q (gEr p y j).2 x' m := fun e => by rw [e]; rw [e] at h87 h141; exact h x' hx h87 h141 hi
    rw [gEr_s j0] at ih
    obtain ⟨q, hq⟩ : ∃ q, q = (gEr p y j).1 := ⟨_, rfl⟩
    obtain ⟨c, hc⟩ : ∃ c, c = (gEr p y j).2 := ⟨_, rfl⟩
    have es : gEr p y j = (q, c) := by rw [hq, hc]
    rw [es] at ih
    rw [← hc] at h' ⊢
    rw [← hq] at J1 J2 J3 J4 h87 h141
    rw [← hc] at J4 J5
    clear hq hc es h
    have q3 := J2 3 (by omega) (by omega)
    have q2 := J2 2 (by omega) (by omega)
    have q1 := J2 1 (by omega) (by omega)
    have hA' : IA q := IA_f hB (by omega) q2 (fun i i0 i1 => J2 i (by omega) (by omega)) hA
    have e72 : x' 72 0 = p 3 := by rw [hx 72 (by decide) (by decide)]; exact hR.1
    apply r14_c13
    simp only [e72]
    by_cases cj : j < p 3
    · have n := J1.1 j j0 (by omega)
      unfold INl at n
      have a := hA'.1 (q (450 + j)) (by omega) (by omega)
      unfold IAa at a
      have rk := hR.2 j j0 (by omega)
      have f450 := J2 (450 + j) (by omega) (by omega)
      have e74 : x' 74 j = q (90 + q (450 + j)) := by rw [hx 74 (by decide) (by decide), J2 (90 + q (450 + j)) (by omega) (by omega), f450]; exact rk.2.1
      have e76 : x' 76 j = q (138 + q (450 + j)) := by rw [hx 76 (by decide) (by decide), J2 (138 + q (450 + j)) (by omega) (by omega), f450]; exact rk.2.2.2.1
      have e79 : x' 79 j = q (498 + j) := by rw [hx 79 (by decide) (by decide), J2 (498 + j) (by omega) (by omega)]; exact rk.2.2.2.2.2.2.1
      have e81 : x' 81 j = q (522 + j) := by rw [hx 81 (by decide) (by decide), J2 (522 + j) (by omega) (by omega)]; exact rk.2.2.2.2.2.2.2.2.1
      have e87 : x' 87 j = q (666 + j) := h87 j j0 cj
      obtain ⟨⟨S1, S1'⟩, S2, S3, S4, S5, S6⟩ := gSo_bd hA' J1 j0 (by omega)
      have ih' := ih (by omega)
      unfold gErS at ih'
      dsimp only at ih'
      have eso : q (522 + j) * q (498 + j) / (q (138 + q (450 + j)) + q (498 + j)) = gSo q j := rfl
      simp only [e74, e76, e79, e81, e87, eso]
      obtain ⟨b, hb'⟩ : ∃ b, b = q (90 + q (450 + j)) := ⟨_, rfl⟩
      rw [← hb'] at a ih'
      simp only [← hb']
      obtain ⟨so, hso⟩ : ∃ so, so = gSo q j := ⟨_, rfl⟩
      rw [← hso] at S4 S5 S6 ih'
      simp only [← hso]
      have e141b : x' 141 (y * 16 + b) = q (6032 + 16 * y + b) := h141 b (by omega) (by omega)
      simp only [e141b]
      have jb := J4 b (by omega) (by omega)
      have ih2 := ih' (zupd (zupd x' 87 j (q (666 + j) + (so - q (666 + j)))) 141 (y * 16 + b) (q (6032 + 16 * y + b) + (so - q (666 + j)))) (fun k k0 k1 => by rw [zu_ne _ _ _ k1, zu_ne _ _ _ k0]; exact hx k k0 k1) (fun l l0 l1 => by
        rw [zu_ne _ _ _ (by decide), zu_eq]
        by_cases cl : l = j
        · subst cl; rw [up_at rfl, up_at rfl]; omega
        · rw [up_ne cl, up_ne (by omega), up_ne (by omega)]; exact h87 l l0 l1) (fun k k0 k1 => by
        rw [zu_eq, up_ne (show 6032 + 16 * y + k ≠ 666 + j by omega), zu_ne _ _ _ (by decide)]
        by_cases ck : k = b
        · subst ck; rw [up_at rfl, up_at rfl]
        · rw [up_ne (by omega), up_ne (by omega)]; exact h141 k k0 k1) (fun i i0 => by rw [zu_eq, up_ne (by omega), zu_ne _ _ _ (by decide)]; exact hi i i0)
      clear ih ih' h' h87 h141 hi hx rk eso
      repeat' (first | (with_reducible assumption) | (with_reducible rfl) | (with_reducible apply And.intro) | (with_reducible apply zIn_mk) | (with_reducible apply zLn_mk) | ((with_reducible intro _); try (exfalso; omega)) | omega | (with_reducible exact Or.inr trivial) | (with_reducible exact Or.inl trivial) | ((exact ih2)) | fail)
    · have h2 := h' (by omega)
      clear h' ih
      repeat' (first | (with_reducible assumption) | (with_reducible rfl) | (with_reducible apply And.intro) | (with_reducible apply zIn_mk) | (with_reducible apply zLn_mk) | ((with_reducible intro _); try (exfalso; omega)) | omega | (with_reducible exact Or.inr trivial) | (with_reducible exact Or.inl trivial) | ((exact h2)) | fail)
  apply r14
  exact loop 0 (by omega) (by omega) x (fun _ _ _ => rfl) (fun l l0 l1 => (hR.2 l l0 l1).2.2.2.2.2.2.2.2.2.2.2.2.2.2) e141 (fun _ _ => rfl)
theorem s244l {d : Nat} {y : Int} {p : Int → Int} {x m : zM} {Q : Int → zM → zM → Prop} (hp : m 387 = p) (hB : IB p) (hA : IA p) (hN : IN p) (y0 : 0 ≤ y) (y1 : y < 7) (hz : ∀ k, 0 ≤ k → k < 16 → p (6032 + 16 * y + k) = 0) (hl0 : 0 ≤ p 6160) (hl1 : p 6160 ≤ 2117251128) (h : WP d 244 212 [(0, zr 386), (1, zi y), (3, zi ((gEr p y (p 3)).2 - p 6160)), (4, zi 0)] [] 403 [] x (zP m (up (up (up (gEr p y (p 3)).1 (5647 + y) (gEr p y (p 3)).2) (5654 + y) (p 6160)) (5661 + y) ((gEr p y (p 3)).2 - p 6160))) 403 [] Q) : WP d 244 12 [(0, zr 386), (1, zi y), (2, zi 0), (3, zi 0)] [] 403 [] x m 403 [] Q := by
  subst hp
  have hb := hB; unfold IB at hb
  have loop : ∀ j, 0 ≤ j → j ≤ m 387 3 → WP d 244 12 [(0, zr 386), (1, zi y), (2, zi (gEr (m 387) y j).2), (3, zi j)] [] 403 [] x (zP m (gEr (m 387) y j).1) 403 [] Q := by
    refine zdown _ _ ?_
    intro j j0 j1 ih
    obtain ⟨J1, J2, J3, J4, J5⟩ := gEr_J hB hA hN y0 y1 hz j j0 j1
    have h' : j = m 387 3 → WP d 244 212 [(0, zr 386), (1, zi y), (3, zi ((gEr (m 387) y j).2 - m 387 6160)), (4, zi 0)] [] 403 [] x (zP m (up (up (up (gEr (m 387) y j).1 (5647 + y) (gEr (m 387) y j).2) (5654 + y) (m 387 6160)) (5661 + y) ((gEr (m 387) y j).2 - m 387 6160))) 403 [] Q := fun e => by rw [e]; exact h
    rw [gEr_s j0] at ih
    obtain ⟨q, hq⟩ : ∃ q, q = (gEr (m 387) y j).1 := ⟨_, rfl⟩
    obtain ⟨c, hc⟩ : ∃ c, c = (gEr (m 387) y j).2 := ⟨_, rfl⟩
    have es : gEr (m 387) y j = (q, c) := by rw [hq, hc]
    rw [es] at ih
    rw [← hq, ← hc] at h' ⊢
    rw [← hq] at J1 J2 J3 J4
    rw [← hc] at J4 J5
    clear hq hc es h
    have q3 := J2 3 (by omega) (by omega)
    have q2 := J2 2 (by omega) (by omega)
    have q1 := J2 1 (by omega) (by omega)
    have q6160 := J2 6160 (by omega) (by omega)
    have hA' : IA q := IA_f hB (by omega) q2 (fun i i0 i1 => J2 i (by omega) (by omega)) hA
    apply r244_c12
    simp only [zP_eq]
    by_cases cj : j < m 387 3
    · have n := J1.1 j j0 (by omega)
      unfold INl at n
      have a := hA'.1 (q (450 + j)) (by omega) (by omega)
      unfold IAa at a
      obtain ⟨⟨S1, S1'⟩, S2, S3, S4, S5, S6⟩ := gSo_bd hA' J1 j0 (by omega)
      have ih' := ih (by omega)
      unfold gErS at ih'
      dsimp only at ih'
      have eso : q (522 + j) * q (498 + j) / (q (138 + q (450 + j)) + q (498 + j)) = gSo q j := rfl
      simp only [eso, zP_up, zP_eq, zP_zP]
      obtain ⟨b, hb'⟩ : ∃ b, b = q (90 + q (450 + j)) := ⟨_, rfl⟩
      rw [← hb'] at a ih'
      simp only [← hb']
      obtain ⟨so, hso⟩ : ∃ so, so = gSo q j := ⟨_, rfl⟩
      rw [← hso] at S4 S5 S6 ih'
      simp only [← hso]
      have e666 : up q (6032 + 16 * y + b) (q (6032 + 16 * y + b) + (so - q (666 + j))) (666 + j) = q (666 + j) := up_ne (by omega)
      simp only [e666]
      have jb := J4 b (by omega) (by omega)
      clear ih h' eso e666
      repeat' (first | (with_reducible assumption) | (with_reducible rfl) | (with_reducible apply And.intro) | (with_reducible apply zIn_mk) | (with_reducible apply zLn_mk) | ((with_reducible intro _); try (exfalso; omega)) | omega | (with_reducible exact Or.inr trivial) | (with_reducible exact Or.inl trivial) | ((exact ih')) | fail)
    · have h2 := h' (by omega)
      clear h' ih
      simp only [zP_up, zP_eq, zP_zP]
      have e1 : up q (5647 + y) c 6160 = q 6160 := up_ne (by omega)
      simp only [e1, q6160]
      repeat' (first | (with_reducible assumption) | (with_reducible rfl) | (with_reducible apply And.intro) | (with_reducible apply zIn_mk) | (with_reducible apply zLn_mk) | ((with_reducible intro _); try (exfalso; omega)) | omega | (with_reducible exact Or.inr trivial) | (with_reducible exact Or.inl trivial) | ((exact h2)) | fail)
  have h0 := loop 0 (by omega) (by omega)
  rw [show gEr (m 387) y 0 = (m 387, 0) from rfl, zP_self] at h0
  exact h0
