/-! VOIDED -/
def gGb (p : Int → Int) (y k : Int) : Int := p (5696 + 16 * y + k) + p (5808 + 16 * y + k)
def gVb (p : Int → Int) (y : Int) : Int := zT (fun k => if gSv p k 400 400 < gGb p y k then 1 else 0) (p 1)
theorem gVb_z {p : Int → Int} {y n : Int} (h : ∀ k, 0 ≤ k → k < n → gGb p y k ≤ gSv p k 400 400) : zT (fun k => if gSv p k 400 400 < gGb p y k then 1 else 0) n = 0 := zT_zero (fun j j0 j1 => by (try dsimp only); rw [if_neg (by have := h j j0 j1; omega)])
theorem gVb_p {p : Int → Int} {y n k : Int} (k0 : 0 ≤ k) (k1 : k < n) (h : gSv p k 400 400 < gGb p y k) : 0 < zT (fun k => if gSv p k 400 400 < gGb p y k then 1 else 0) n := zT_pos (fun j _ _ => by (try dsimp only); split <;> omega) k0 k1 (by (try dsimp only); rw [if_pos h]; omega)
theorem gGb_bd {p w : Int → Int} (hY : IY p w) {y k : Int} (y0 : 0 ≤ y) (y1 : y < 7) (k0 : 0 ≤ k) (k1 : k < 16) : 0 ≤ gGb p y k ∧ gGb p y k ≤ 5759904 := by
  have := hY.1 y k y0 y1 k0 k1
  unfold gGb; omega
def gVoS (y : Int) (q : Int → Int) (j : Int) : Int → Int := if 0 < gGb q y j then gEn q j (q 0) (-(gGb q y j)) else q
def gVoN (y : Int) (p : Int → Int) : Nat → (Int → Int)
  | 0 => p
  | n + 1 => gVoS y (gVoN y p n) n
def gVo (y : Int) (p : Int → Int) (j : Int) : Int → Int := gVoN y p j.toNat
theorem gVo_s {y : Int} {p : Int → Int} {j : Int} (h : 0 ≤ j) : gVo y p (j + 1) = gVoS y (gVo y p j) j := by
  unfold gVo
  have e : (j + 1).toNat = j.toNat + 1 := by omega
  have e2 : (j.toNat : Int) = j := by omega
  rw [e, gVoN, e2]
theorem gVo_J {y : Int} {p : Int → Int} (hB : IB p) (hE : IE p) (y0 : 0 ≤ y) (y1 : y < 7) (h4 : p 4 ≤ 644) : ∀ j, 0 ≤ j → (j ≤ p 1 → IB (gVo y p j) ∧ IE (gVo y p j) ∧ gVo y p j 4 ≤ p 4 + j ∧ (∀ i, i ≠ 4 → i < 690 ∨ 3490 ≤ i → gVo y p j i = p i)) := by
  have hb := hB; unfold IB at hb
  refine zup1 _ (fun _ => ?_) ?_
  · rw [show gVo y p 0 = p from rfl]
    exact ⟨hB, hE, by omega, fun i _ _ => rfl⟩
  · intro j j0 ih j1
    obtain ⟨J1, J2, J3, J4⟩ := ih (by omega)
    rw [gVo_s j0]
    obtain ⟨q, hq⟩ : ∃ q, q = gVo y p j := ⟨_, rfl⟩
    rw [← hq] at J1 J2 J3 J4 ⊢
    unfold gVoS
    by_cases c : 0 < gGb q y j
    · rw [if_pos c]
      have qb := J1; unfold IB at qb
      have q1 := J4 1 (by omega) (by omega)
      have h7 : gI q j (q 0) = -1 → q 4 < 700 := fun _ => by omega
      have e4 := gEn_4 (a := j) (w := q 0) (n := -(gGb q y j)) J1
      refine ⟨IB_en J1 h7, IE_en J1 J2 j0 (by omega) (by omega) (Int.le_refl _) h7, ?_, fun i a b => by rw [gEn_o J1 h7 a b, J4 i a b]⟩
      split at e4 <;> omega
    · rw [if_neg c]
      exact ⟨J1, J2, by omega, J4⟩
theorem gGb_f {p q : Int → Int} {y k : Int} (y0 : 0 ≤ y) (k0 : 0 ≤ k) (h : ∀ i, i ≠ 4 → i < 690 ∨ 3490 ≤ i → q i = p i) : gGb q y k = gGb p y k := by
  unfold gGb
  rw [h _ (by omega) (by omega), h _ (by omega) (by omega)]
def gVs (p : Int → Int) (y : Int) : Int := zT (fun k => gGb p y k) (p 1)
def gVq (p : Int → Int) (y : Int) : Int → Int := up (up (gVo y p (p 1)) (5689 + y) 1) 6162 (w32 (p 6162 + gVs p y))
theorem s253 {d N : Nat} {p w : Int → Int} {x m : zM} {Q : Int → zM → zM → Prop} (hd : 4 ≤ d) (hp : m 387 = p) (hIF : IF N p w) (h0 : (p 6 ≤ 0 ∨ p (5689 + (p 6 - 1)) ≠ 0 ∨ 0 < gVb p (p 6 - 1)) → Q (-7) x (zcM m (-7))) (h1 : 0 < p 6 → p (5689 + (p 6 - 1)) = 0 → gVb p (p 6 - 1) ≤ 0 → Q (gVs p (p 6 - 1)) x (zP m (gVq p (p 6 - 1)))) : WPc d 253 [zr 386] 403 [] x m 403 [] Q := by
  subst hp
  have hB := hIF.1.1
  have hb := hB; unfold IB at hb
  have hE := hIF.2.2.1
  have h4 := IEc_4 hIF
  obtain ⟨y, hy⟩ : ∃ y, y = m 387 6 - 1 := ⟨_, rfl⟩
  rw [← hy] at h0 h1
  have sb : 0 ≤ y → ∀ j, 0 ≤ j → j ≤ m 387 1 → 0 ≤ zT (fun k => gGb (m 387) y k) j ∧ zT (fun k => gGb (m 387) y k) j ≤ 5759904 * j := fun y0 j j0 j1 => by
    have := zT_bd (f := fun k => gGb (m 387) y k) (lo := 0) (hi := 5759904) j0 (fun k k0 k1 => gGb_bd hIF.2.2.2.2.1 y0 (by omega) k0 (by omega))
    omega
  have bad : ∀ v j : Int, (Q (-7) x (zcM m (-7))) → WP d 253 43 [(0, zr 386), (1, zi v), (2, zi 0), (3, zi j)] [] 403 [] x m 403 [] Q := by
    intro v j hQ
    apply r253_c43
    clear h0 h1 sb
    repeat' (first | (with_reducible assumption) | (with_reducible rfl) | (with_reducible apply And.intro) | (with_reducible apply zIn_mk) | (with_reducible apply zLn_mk) | ((with_reducible intro _); try (exfalso; omega)) | omega | (with_reducible exact Or.inr trivial) | (with_reducible exact Or.inl trivial) | (with_reducible apply s172) | ((exact hQ)) | fail)
  have loop2 : 0 < m 387 6 → m 387 (5689 + y) = 0 → gVb (m 387) y ≤ 0 → ∀ j, 0 ≤ j → j ≤ m 387 1 → WP d 253 124 [(0, zr 386), (1, zi y), (3, zi (zT (fun k => gGb (m 387) y k) j)), (4, zi j)] [] 403 [] x (zP m (gVo y (m 387) j)) 403 [] Q := by
    intro g1 g2 g3
    refine zdown _ _ ?_
    intro j j0 j1 ih
    obtain ⟨J1, J2, J3, J4⟩ := gVo_J hB hE (show 0 ≤ y by omega) (by omega) (by omega) j j0 j1
    have b := sb (by omega) j j0 j1
    have hend : j = m 387 1 → Q (zT (fun k => gGb (m 387) y k) j) x (zP m (up (up (gVo y (m 387) j) (5689 + y) 1) 6162 (w32 (m 387 6162 + zT (fun k => gGb (m 387) y k) j)))) := fun e => by rw [e]; exact h1 g1 g2 g3
    rw [gVo_s j0, zT_s j0] at ih
    obtain ⟨q, hq⟩ : ∃ q, q = gVo y (m 387) j := ⟨_, rfl⟩
    rw [← hq] at J1 J2 J3 J4 ih hend ⊢
    clear hq
    have q1 := J4 1 (by omega) (by omega)
    have jb := J1; unfold IB at jb
    have q6162 := J4 6162 (by omega) (by omega)
    have u6162 : up q (5689 + y) 1 6162 = m 387 6162 := by rw [up_ne (by omega)]; exact q6162
    apply r253_c124
    simp only [zP_eq, q1]
    clear h0 h1 bad sb
    by_cases c : j < m 387 1
    · have gb := gGb_bd hIF.2.2.2.2.1 (show 0 ≤ y by omega) (by omega) j0 (show j < 16 by omega)
      have ge : gGb q y j = gGb (m 387) y j := gGb_f (by omega) j0 J4
      have gg : q (5696 + 16 * y + j) + q (5808 + 16 * y + j) = gGb (m 387) y j := by rw [← ge]; rfl
      have ih' := ih c
      unfold gVoS at ih'
      rw [ge] at ih'
      simp only [gg]
      clear ih hend
      obtain ⟨n, hn⟩ : ∃ n, n = gGb (m 387) y j := ⟨_, rfl⟩
      rw [← hn] at gb ih'
      simp only [← hn]
      have h7 : gI q j (q 0) = -1 → q 4 < 700 := fun _ => by omega
      repeat' (first | (with_reducible assumption) | (with_reducible rfl) | (with_reducible apply And.intro) | (with_reducible apply zIn_mk) | (with_reducible apply zLn_mk) | ((with_reducible intro _); try (exfalso; omega)) | omega | (with_reducible exact Or.inr trivial) | (with_reducible exact Or.inl trivial) | ((rw [if_neg (by omega)] at ih'; exact ih')) | ((refine s178 (p := q) (by omega) (zP_eq _ _) J1 J2 h7 (by unfold zIn; omega) ?_; rw [zP_zP]; rw [if_pos (by omega)] at ih')) | ((exact ih')) | fail)
    · have h2 := hend (by omega)
      clear ih hend
      repeat' (first | (with_reducible assumption) | (with_reducible rfl) | (with_reducible apply And.intro) | (with_reducible apply zIn_mk) | (with_reducible apply zLn_mk) | (simp only [zP_up, zP_eq, zP_zP, u6162]) | ((with_reducible intro _); try (exfalso; omega)) | omega | (with_reducible exact Or.inr trivial) | (with_reducible exact Or.inl trivial) | ((exact h2)) | fail)
  have loop1 : 0 < m 387 6 → m 387 (5689 + y) = 0 → ∀ j, 0 ≤ j → j ≤ m 387 1 → (∀ k, 0 ≤ k → k < j → gGb (m 387) y k ≤ gSv (m 387) k 400 400) → WP d 253 43 [(0, zr 386), (1, zi y), (2, zi 1), (3, zi j)] [] 403 [] x m 403 [] Q := by
    intro g1 g2
    refine zdown _ _ ?_
    intro j j0 j1 ih hk
    apply r253_c43
    by_cases c : j < m 387 1
    · have gb := gGb_bd hIF.2.2.2.2.1 (show 0 ≤ y by omega) (by omega) j0 (show j < 16 by omega)
      have gg : m 387 (5696 + 16 * y + j) + m 387 (5808 + 16 * y + j) = gGb (m 387) y j := rfl
      have ihG := fun (hn : gGb (m 387) y j ≤ gSv (m 387) j 400 400) => ih c (fun k k0 k1 => by
        by_cases ck : k = j
        · rw [ck]; exact hn
        · exact hk k k0 (by omega))
      have ihB := fun (hn : gSv (m 387) j 400 400 < gGb (m 387) y j) => bad y (j + 1) (h0 (Or.inr (Or.inr (gVb_p j0 c hn))))
      clear ih h0 h1 bad loop2 sb hk
      repeat' (first | (with_reducible assumption) | (with_reducible rfl) | (with_reducible apply And.intro) | (with_reducible apply zIn_mk) | (with_reducible apply zLn_mk) | ((with_reducible intro _); try (exfalso; omega)) | omega | (with_reducible exact Or.inr trivial) | (with_reducible exact Or.inl trivial) | ((refine s181 (p := m 387) rfl (by omega) hB ?_; simp only [gg])) | ((exact ihB (by omega))) | ((exact ihG (by omega))) | fail)
    · have l2 := loop2 g1 g2 (by unfold gVb; rw [gVb_z (fun k k0 k1 => hk k k0 (by omega))]; omega) 0 (by omega) (by omega)
      rw [zT_0 (by omega), show gVo y (m 387) 0 = m 387 from rfl, zP_self] at l2
      clear ih h0 h1 bad loop2 sb hk
      repeat' (first | (with_reducible assumption) | (with_reducible rfl) | (with_reducible apply And.intro) | (with_reducible apply zIn_mk) | (with_reducible apply zLn_mk) | ((with_reducible intro _); try (exfalso; omega)) | omega | (with_reducible exact Or.inr trivial) | (with_reducible exact Or.inl trivial) | ((exact l2)) | fail)
  apply r253
  simp only [← hy]
  have l1 := fun g1 g2 => loop1 g1 g2 0 (by omega) (by omega) (fun k k0 k1 => by omega)
  obtain ⟨G1, hG1⟩ : ∃ G : Prop, G = (0 < m 387 6 → m 387 (5689 + y) = 0 → WP d 253 43 [(0, zr 386), (1, zi y), (2, zi 1), (3, zi 0)] [] 403 [] x m 403 [] Q) := ⟨_, rfl⟩
  have gg1 : G1 := hG1 ▸ l1
  obtain ⟨G0, hG0⟩ : ∃ G : Prop, G = ((m 387 6 ≤ 0 ∨ m 387 (5689 + y) ≠ 0 ∨ 0 < gVb (m 387) y) → WP d 253 43 [(0, zr 386), (1, zi y), (2, zi 0), (3, zi 0)] [] 403 [] x m 403 [] Q) := ⟨_, rfl⟩
  have gg0 : G0 := hG0 ▸ (fun c => bad y 0 (h0 c))
  clear l1 loop1 loop2 bad h0 h1 sb
  repeat' (first | (with_reducible assumption) | (with_reducible rfl) | (with_reducible apply And.intro) | (with_reducible apply zIn_mk) | (with_reducible apply zLn_mk) | ((with_reducible intro _); try (exfalso; omega)) | omega | (with_reducible exact Or.inr trivial) | (with_reducible exact Or.inl trivial) | ((subst hG1; exact gg1 (by omega) (by omega))) | ((subst hG0; exact gg0 (by omega))) | fail)
theorem c20 {d : Nat} {y : Int} {p w : Int → Int} {x m : zM} {Q : Int → zM → zM → Prop} (hd : 2 ≤ d) (hF : RF x p w) (hB : IB p) (hY : IY p w) (y0 : 0 ≤ y) (y1 : y < 7) (h1 : p (5689 + y) = 0 → gVb p y ≤ 0 → Q 1 x m) (h0 : (p (5689 + y) ≠ 0 ∨ 0 < gVb p y) → Q 0 x m) : WPc d 20 [zr 332, zi y] 403 [] x m 403 [] Q := by
  have hb := hB; unfold IB at hb
  have e109 : x 109 (y * 7 + 6) = p (5689 + y) := by rw [hF.2.1.2.2.1 y 6 y0 y1 (by omega) (by omega), show 5647 + 7 * 6 + y = 5689 + y by omega]
  have e11 : x 1 1 = p 1 := hF.1.1.2.1
  have loop : p (5689 + y) = 0 → ∀ j, 0 ≤ j → j ≤ p 1 → (∀ k, 0 ≤ k → k < j → gGb p y k ≤ gSv p k 400 400) → WP d 20 24 [(0, zr 332), (1, zi y), (2, zi j)] [] 403 [] x m 403 [] Q := by
    intro g2
    refine zdown _ _ ?_
    intro j j0 j1 ih hk
    apply r20_c24
    simp only [e11]
    by_cases c : j < p 1
    · have gb := gGb_bd hY y0 y1 j0 (show j < 16 by omega)
      have ry := hF.2.1.2.2.2.1 y j y0 y1 j0 (by omega)
      have gg : x 117 (y * 16 + j) + x 125 (y * 16 + j) = gGb p y j := by rw [ry.1, ry.2.1]; rfl
      have e12 : x 12 j = gSv p j 400 400 := hF.1.2.1.2.2.1 j j0 (by omega)
      have ihG := fun (hn : gGb p y j ≤ gSv p j 400 400) => ih c (fun k k0 k1 => by
        by_cases ck : k = j
        · rw [ck]; exact hn
        · exact hk k k0 (by omega))
      have ihB := fun (hn : gSv p j 400 400 < gGb p y j) => h0 (Or.inr (gVb_p j0 c hn))
      clear ih h0 h1 hk ry
      repeat' (first | (with_reducible assumption) | (with_reducible rfl) | (with_reducible apply And.intro) | (with_reducible apply zIn_mk) | (with_reducible apply zLn_mk) | ((with_reducible intro _); try (exfalso; omega)) | omega | (with_reducible exact Or.inr trivial) | (with_reducible exact Or.inl trivial) | ((apply r113; intro hz1 hz2; simp only [gg, e12])) | ((exact ihB (by omega))) | ((exact ihG (by omega))) | fail)
    · have l2 := h1 g2 (by unfold gVb; rw [gVb_z (fun k k0 k1 => hk k k0 (by omega))]; omega)
      clear ih h0 h1 hk
      repeat' (first | (with_reducible assumption) | (with_reducible rfl) | (with_reducible apply And.intro) | (with_reducible apply zIn_mk) | (with_reducible apply zLn_mk) | ((with_reducible intro _); try (exfalso; omega)) | omega | (with_reducible exact Or.inr trivial) | (with_reducible exact Or.inl trivial) | ((exact l2)) | fail)
  apply r20
  intro hz
  simp only [e109]
  have l1 := fun g2 => loop g2 0 (by omega) (by omega) (fun k k0 k1 => by omega)
  obtain ⟨G1, hG1⟩ : ∃ G : Prop, G = (p (5689 + y) = 0 → WP d 20 24 [(0, zr 332), (1, zi y), (2, zi 0)] [] 403 [] x m 403 [] Q) := ⟨_, rfl⟩
  have gg1 : G1 := hG1 ▸ l1
  obtain ⟨G0, hG0⟩ : ∃ G : Prop, G = ((p (5689 + y) ≠ 0 ∨ 0 < gVb p y) → Q 0 x m) := ⟨_, rfl⟩
  have gg0 : G0 := hG0 ▸ h0
  clear l1 loop h0 h1
  repeat' (first | (with_reducible assumption) | (with_reducible rfl) | (with_reducible apply And.intro) | (with_reducible apply zIn_mk) | (with_reducible apply zLn_mk) | ((with_reducible intro _); try (exfalso; omega)) | omega | (with_reducible exact Or.inr trivial) | (with_reducible exact Or.inl trivial) | ((subst hG1; exact gg1 (by omega))) | ((subst hG0; exact gg0 (by omega))) | fail)
theorem IF_v {N : Nat} {p w : Int → Int} {y r : Int} (hIF : IF N p w) (y0 : 0 ≤ y) (y1 : y < p 6) (hv : p (5689 + y) = 0) : IF N (up (up (gVo y p (p 1)) (5689 + y) 1) 6162 r) w := by
  obtain ⟨⟨hB, hA, hN, hR⟩, hM, hE, hEc, hY, hC, hT, hP⟩ := id hIF
  have hb := hB; unfold IB at hb
  have h4 := IEc_4 hIF
  obtain ⟨J1, J2, J3, J4⟩ := gVo_J hB hE y0 (by omega) (by omega) (p 1) (by omega) (Int.le_refl _)
  have jb := J1; unfold IB at jb
  have o : ∀ i, i ≠ 5689 + y → i ≠ 6162 → up (up (gVo y p (p 1)) (5689 + y) 1) 6162 r i = gVo y p (p 1) i := fun i i0 i1 => by rw [up_ne i1, up_ne i0]
  have u : ∀ i, i ≠ 4 → i < 690 ∨ 3490 ≤ i → i ≠ 5689 + y → i ≠ 6162 → up (up (gVo y p (p 1)) (5689 + y) 1) 6162 r i = p i := fun i i4 hi i0 i1 => by rw [o i i0 i1, J4 i i4 hi]
  have uv : up (up (gVo y p (p 1)) (5689 + y) 1) 6162 r (5689 + y) = 1 := by rw [up_ne (by omega), up_at rfl]
  have e4 := o 4 (by omega) (by omega)
  have cap : gCap (up (up (gVo y p (p 1)) (5689 + y) 1) 6162 r) = gCap p + 16 := by
    unfold gCap
    rw [u 3 (by omega) (by omega) (by omega) (by omega), u 6 (by omega) (by omega) (by omega) (by omega)]
    have c1 : zT (fun l => if up (up (gVo y p (p 1)) (5689 + y) 1) 6162 r (570 + l) = 2 then 1 else 0) (p 3) = zT (fun l => if p (570 + l) = 2 then 1 else 0) (p 3) := zT_congr (fun l l0 l1 => by (try dsimp only); rw [u (570 + l) (by omega) (by omega) (by omega) (by omega)])
    have c2 := zT_one (f := fun k => up (up (gVo y p (p 1)) (5689 + y) 1) 6162 r (5689 + k)) (g := fun k => p (5689 + k)) (n := p 6) y0 y1 (fun k k0 k1 kn => u (5689 + k) (by omega) (by omega) (by omega) (by omega))
    (try dsimp only at c2)
    rw [uv, hv] at c2
    rw [c1, c2]; omega
  refine ⟨⟨?_, IA_f hB (by rw [u 1 (by omega) (by omega) (by omega) (by omega)]; omega) (u 2 (by omega) (by omega) (by omega) (by omega)) (fun i i0 i1 => u i (by omega) (by omega) (by omega) (by omega)) hA, IN_f hB (by rw [u 0 (by omega) (by omega) (by omega) (by omega)]; omega) (u 2 (by omega) (by omega) (by omega) (by omega)) (u 3 (by omega) (by omega) (by omega) (by omega)) (fun i i0 i1 => u i (by omega) (by omega) (by omega) (by omega)) (fun i i0 i1 => u i (by omega) (by omega) (by omega) (by omega)) hN, IR_f hB (u 5 (by omega) (by omega) (by omega) (by omega)) (fun i i0 i1 => u i (by omega) (by omega) (by omega) (by omega)) hR⟩, IM_f hB (by rw [u 0 (by omega) (by omega) (by omega) (by omega)]; omega) (u 1 (by omega) (by omega) (by omega) (by omega)) (fun i i0 i1 => u i (by omega) (by omega) (by omega) (by omega)) hM, IE_f J1 (by rw [o 0 (by omega) (by omega)]; omega) (by rw [o 1 (by omega) (by omega)]; omega) e4 (fun i i0 i1 => o i (by omega) (by omega)) J2, ⟨?_, IK_f hB (u 2 (by omega) (by omega) (by omega) (by omega)) (u 3 (by omega) (by omega) (by omega) (by omega)) (fun i i0 i1 => u i (by omega) (by omega) (by omega) (by omega)) (fun i i0 i1 => u i (by omega) (by omega) (by omega) (by omega)) hEc.2⟩, ⟨fun y' k a b c e => ?_, hY.2.1, fun k a b => ?_, fun y' a b => ?_⟩, ⟨?_, ?_⟩, IT_f hB (by rw [u 0 (by omega) (by omega) (by omega) (by omega)]; omega) (u 8 (by omega) (by omega) (by omega) (by omega)) (fun i i0 i1 => u i (by omega) (by omega) (by omega) (by omega)) hT, IP_f (fun i i0 i1 => u i (by omega) (by omega) (by omega) (by omega)) hP⟩
  · unfold IB
    rw [o 0 (by omega) (by omega), o 1 (by omega) (by omega), o 2 (by omega) (by omega), o 3 (by omega) (by omega), o 4 (by omega) (by omega), o 5 (by omega) (by omega), o 6 (by omega) (by omega), o 7 (by omega) (by omega), o 8 (by omega) (by omega)]
    exact jb
  · show _ ≤ gCap _
    rw [cap, e4]; omega
  · rw [u _ (by omega) (by omega) (by omega) (by omega), u _ (by omega) (by omega) (by omega) (by omega), u _ (by omega) (by omega) (by omega) (by omega), u 6 (by omega) (by omega) (by omega) (by omega)]
    exact hY.1 y' k a b c e
  · rw [u 0 (by omega) (by omega) (by omega) (by omega)]; exact hY.2.2.1 k a b
  · have old := hY.2.2.2 y' a b
    rw [u (5675 + y') (by omega) (by omega) (by omega) (by omega)]
    by_cases e : y' = y
    · rw [e, uv]; rw [e] at old; exact ⟨by omega, old.2⟩
    · rw [u (5689 + y') (by omega) (by omega) (by omega) (by omega)]; exact old
  · rw [u 6161 (by omega) (by omega) (by omega) (by omega)]; exact hC.1
  · rw [u 6160 (by omega) (by omega) (by omega) (by omega), u 0 (by omega) (by omega) (by omega) (by omega)]; exact hC.2
theorem c21 {d N : Nat} {y : Int} {p w : Int → Int} {x m : zM} {Q : Int → zM → zM → Prop} (hd : 3 ≤ d) (hF : RF x p w) (hIF : IF N p w) (y0 : 0 ≤ y) (y1 : y < 7) (h : ∀ x', RF x' (gVq p y) w → (∀ k, k < 7 ∨ 12 < k → k ≠ 109 → x' k = x k) → Q (gVs p y) x' m) : WPc d 21 [zr 332, zi y] 403 [] x m 403 [] Q := by
  have hB := hIF.1.1
  have hb := hB; unfold IB at hb
  have hE := hIF.2.2.1
  have h4 := IEc_4 hIF
  have hY := hF.2.1
  have sb : ∀ j, 0 ≤ j → j ≤ p 1 → 0 ≤ zT (fun k => gGb p y k) j ∧ zT (fun k => gGb p y k) j ≤ 5759904 * j := fun j j0 j1 => by
    have := zT_bd (f := fun k => gGb p y k) (lo := 0) (hi := 5759904) j0 (fun k k0 k1 => gGb_bd hIF.2.2.2.2.1 y0 (by omega) k0 (by omega))
    omega
  have loop : ∀ j, 0 ≤ j → j ≤ p 1 → ∀ x', RLx x' (gVo y p j) → (∀ k, k < 7 ∨ 12 < k → x' k = x k) → WP d 21 4 [(0, zr 332), (1, zi y), (2, zi (zT (fun k => gGb p y k) j)), (3, zi j)] [] 403 [] x' m 403 [] Q := by
    refine zdown _ _ ?_
    intro j j0 j1 ih x' hL hx
    obtain ⟨J1, J2, J3, J4⟩ := gVo_J hB hE y0 y1 (by omega) j j0 j1
    have b := sb j j0 j1
    have hend : j = p 1 → Q (zT (fun k => gGb p y k) j) (zupd (zupd x' 7 8 (w64 (x' 7 8 + zT (fun k => gGb p y k) j))) 109 (y * 7 + 6) 1) m := fun e => by
      rw [e]
      rw [e] at hL J1 J2 J3 J4
      have u : ∀ i, i ≠ 4 → i < 690 ∨ 3490 ≤ i → i ≠ 5689 + y → i ≠ 6162 → gVq p y i = p i := fun i i4 hi i0 i1 => by unfold gVq; rw [up_ne i1, up_ne i0, J4 i i4 hi]
      have f : ∀ k, k < 7 ∨ 12 < k → k ≠ 109 → zupd (zupd x' 7 8 (w64 (x' 7 8 + zT (fun k => gGb p y k) (p 1)))) 109 (y * 7 + 6) 1 k = x k := fun k k0 k1 => by rw [zu_ne _ _ _ k1, zu_ne _ _ _ (by omega)]; exact hx k k0
      refine h _ ⟨⟨?_, ?_, ?_, ?_, ?_⟩, ?_, ?_, ?_⟩ f
      · unfold RMx; rw [f 1 (by omega) (by omega), f 2 (by omega) (by omega), f 3 (by omega) (by omega), f 4 (by omega) (by omega), f 5 (by omega) (by omega), f 6 (by omega) (by omega)]; exact RM_f hB (u 0 (by omega) (by omega) (by omega) (by omega)) (u 1 (by omega) (by omega) (by omega) (by omega)) (fun i i0 i1 => u i (by omega) (by omega) (by omega) (by omega)) hF.1.1
      · unfold RLx
        simp (disch := omega) only [zu_ne, zu_eq]
        have jb := J1; unfold IB at jb
        have hB1 : IB (up (gVo y p (p 1)) (5689 + y) 1) := by unfold IB; rw [up_ne (by omega), up_ne (by omega), up_ne (by omega), up_ne (by omega), up_ne (by omega), up_ne (by omega), up_ne (by omega), up_ne (by omega), up_ne (by omega)]; exact jb
        refine RL_res hB1 ?_ (RL_f J1 (up_ne (by omega)) (fun i i0 i1 => up_ne (by omega)) (up_ne (by omega)) (up_ne (by omega)) hL)
        have r8 : w32 (x' 7 8) = p 6162 := by rw [hL.2.2.2.2]; exact J4 6162 (by omega) (by omega)
        rw [w32_w64, ← w32_wa, r8]; rfl
      · unfold RAx; rw [f 14 (by omega) (by omega), f 15 (by omega) (by omega), f 16 (by omega) (by omega), f 17 (by omega) (by omega), f 18 (by omega) (by omega), f 19 (by omega) (by omega), f 20 (by omega) (by omega), f 21 (by omega) (by omega), f 22 (by omega) (by omega), f 47 (by omega) (by omega)]; exact RA_f hB (u 2 (by omega) (by omega) (by omega) (by omega)) (fun i i0 i1 => u i (by omega) (by omega) (by omega) (by omega)) hF.1.2.2.1
      · unfold RNx; rw [f 72 (by omega) (by omega), f 73 (by omega) (by omega), f 74 (by omega) (by omega), f 75 (by omega) (by omega), f 76 (by omega) (by omega), f 77 (by omega) (by omega), f 78 (by omega) (by omega), f 79 (by omega) (by omega), f 80 (by omega) (by omega), f 81 (by omega) (by omega), f 82 (by omega) (by omega), f 83 (by omega) (by omega), f 84 (by omega) (by omega), f 85 (by omega) (by omega), f 86 (by omega) (by omega), f 87 (by omega) (by omega)]; exact RN_f hB hIF.1.2.2.1 (u 3 (by omega) (by omega) (by omega) (by omega)) (fun i i0 i1 => u i (by omega) (by omega) (by omega) (by omega)) (fun i i0 i1 => u i (by omega) (by omega) (by omega) (by omega)) hF.1.2.2.2.1
      · unfold RRx; rw [f 88 (by omega) (by omega), f 89 (by omega) (by omega), f 90 (by omega) (by omega), f 91 (by omega) (by omega), f 92 (by omega) (by omega), f 93 (by omega) (by omega), f 94 (by omega) (by omega)]; exact RR_f hB hIF.1.2.2.2 (u 5 (by omega) (by omega) (by omega) (by omega)) (fun i i0 i1 => u i (by omega) (by omega) (by omega) (by omega)) hF.1.2.2.2.2
      · refine ⟨by rw [f 108 (by omega) (by omega), u 6 (by omega) (by omega) (by omega) (by omega)]; exact hY.1, by rw [f 108 (by omega) (by omega), u 6160 (by omega) (by omega) (by omega) (by omega)]; exact hY.2.1, fun y' k a b c e => ?_, fun y' k a b c e => ?_, fun k a b => ?_⟩
        · rw [zu_eq, zu_ne _ _ _ (by decide), hx 109 (by omega)]
          by_cases e1 : y' = y ∧ k = 6
          · rw [e1.1, e1.2, up_at rfl]; unfold gVq; rw [up_ne (by omega), up_at (by omega)]
          · rw [up_ne (by omega), u _ (by omega) (by omega) (by omega) (by omega)]; exact hY.2.2.1 y' k a b c e
        · rw [f 117 (by omega) (by omega), f 125 (by omega) (by omega), f 133 (by omega) (by omega), f 141 (by omega) (by omega), u _ (by omega) (by omega) (by omega) (by omega), u _ (by omega) (by omega) (by omega) (by omega), u _ (by omega) (by omega) (by omega) (by omega)]
          exact hY.2.2.2.1 y' k a b c e
        · rw [f 149 (by omega) (by omega)]; exact hY.2.2.2.2 k a b
      · unfold RTx; rw [f 150 (by omega) (by omega), f 151 (by omega) (by omega), f 152 (by omega) (by omega), f 153 (by omega) (by omega), f 154 (by omega) (by omega), f 155 (by omega) (by omega), f 156 (by omega) (by omega)]; exact RT_f hB (u 8 (by omega) (by omega) (by omega) (by omega)) (u 7 (by omega) (by omega) (by omega) (by omega)) (fun i i0 i1 => u i (by omega) (by omega) (by omega) (by omega)) hF.2.2.1
      · unfold RPx; rw [f 157 (by omega) (by omega), f 158 (by omega) (by omega)]; exact RP_f (fun i i0 i1 => u i (by omega) (by omega) (by omega) (by omega)) hF.2.2.2
    rw [gVo_s j0, zT_s j0] at ih
    obtain ⟨q, hq⟩ : ∃ q, q = gVo y p j := ⟨_, rfl⟩
    rw [← hq] at J1 J2 J3 J4 ih hL
    clear hq
    have q1 := J4 1 (by omega) (by omega)
    have jb := J1; unfold IB at jb
    have e11 : x' 1 1 = p 1 := by rw [hx 1 (by omega)]; exact hF.1.1.2.1
    have e10 : x' 1 0 = q 0 := by rw [hx 1 (by omega), J4 0 (by omega) (by omega)]; exact hF.1.1.1
    apply r21_c4
    simp only [e11, e10]
    clear sb
    by_cases c : j < p 1
    · have gb := gGb_bd hIF.2.2.2.2.1 y0 y1 j0 (show j < 16 by omega)
      have ry := hF.2.1.2.2.2.1 y j y0 y1 j0 (by omega)
      have gg : x' 117 (y * 16 + j) + x' 125 (y * 16 + j) = gGb p y j := by rw [hx 117 (by omega), hx 125 (by omega), ry.1, ry.2.1]; rfl
      have ge : gGb q y j = gGb p y j := gGb_f y0 j0 J4
      have ih' := ih c
      unfold gVoS at ih'
      rw [ge] at ih'
      clear ih hend ry h
      have h7 : gI q j (q 0) = -1 → q 4 < 700 := fun _ => by omega
      obtain ⟨n, hn⟩ : ∃ n, n = gGb p y j := ⟨_, rfl⟩
      rw [← hn] at gb ih' gg
      repeat' (first | (with_reducible assumption) | (with_reducible rfl) | (with_reducible apply And.intro) | (with_reducible apply zIn_mk) | (with_reducible apply zLn_mk) | ((with_reducible intro _); try (exfalso; omega)) | omega | (with_reducible exact Or.inr trivial) | (with_reducible exact Or.inl trivial) | ((apply r113; intro hz1 hz2; simp only [gg])) | ((have n0 : n = 0 := (by omega); rw [if_neg (by omega), n0, Int.add_zero] at ih'; exact ih' x' hL hx)) | ((rw [if_pos (by omega)] at ih'; simp only [e10]; refine c25_7 (p := q) (by omega) hL J1 J2 rfl j0 (by omega) (by omega) (Int.le_refl _) h7 ?_; intro xB hB1 hB2)) | ((exact ih' xB hB2 (fun k k0 => by rw [hB1 k k0]; exact hx k k0))) | fail)
    · have h2 := hend (by omega)
      clear ih hend h
      repeat' (first | (with_reducible assumption) | (with_reducible rfl) | (with_reducible apply And.intro) | (with_reducible apply zIn_mk) | (with_reducible apply zLn_mk) | ((with_reducible intro _); try (exfalso; omega)) | omega | (with_reducible exact Or.inr trivial) | (with_reducible exact Or.inl trivial) | ((exact h2)) | fail)
  apply r21
  intro hz
  have l1 := loop 0 (by omega) (by omega) x hF.1.2.1 (fun _ _ => rfl)
  rw [zT_0 (by omega)] at l1
  exact l1
theorem t_voided {d dM N : Nat} {x m : zM} {Q : Int → zM → zM → Prop} (hd : 40 ≤ d) (hdM : 40 ≤ dM) (hNN : N ≤ 600) (hI : Inv N x m) (K : ∀ q x', MOK N dM 253 [zr 386] q x' m → Q q x' m) : WPc d 141 [zr 0] 403 [] x m 403 [] Q := by
  obtain ⟨hF, hIF, hK, hO⟩ := id hI
  have hX := hF.1
  have hIx := hIF.1
  have hB := hIx.1
  have hA := hIx.2.1
  have hN := hIx.2.2.1
  have hM := hIF.2.1
  have hE := hIF.2.2.1
  have hb := hB; unfold IB at hb
  have hRL := hX.2.1
  have hRA := hX.2.2.1
  have hRN := hX.2.2.2.1
  have e10 : x 1 0 = m 387 0 := hX.1.1
  have e11 : x 1 1 = m 387 1 := hX.1.2.1
  have e108 : x 108 0 = m 387 6 := hF.2.1.1
  apply r141
  repeat' (first | (with_reducible assumption) | (with_reducible rfl) | (with_reducible apply And.intro) | (with_reducible apply zIn_mk) | (with_reducible apply zLn_mk) | ((with_reducible intro _); try (exfalso; omega)) | omega | (with_reducible exact Or.inr trivial) | (with_reducible exact Or.inl trivial) | ((simp only [e108])) | ((refine c20 (p := m 387) (w := m 390) (by omega) hF hB hIF.2.2.2.2.1 (by omega) (by omega) ?_ ?_)) | ((refine c21 (p := m 387) (w := m 390) (by omega) hF hIF (by omega) (by omega) ?_; intro xB g1 g2; refine K _ _ ?_; intro Q' hQ; refine s253 (by omega) rfl hIF ?_ ?_)) | ((refine K _ _ ?_; intro Q' hQ; refine s253 (by omega) rfl hIF ?_ ?_)) | ((exact hQ _ _ (Inv_w hI g1 (IF_m (by omega) (IF_v hIF (by omega) (by omega) (by assumption))) (fun k k0 k1 => g2 k (by omega) (by omega))) (zP_ne _ _ (by decide)))) | ((refine hQ _ _ ?_ ?_)) | (with_reducible apply k161) | (with_reducible apply k162) | (with_reducible apply k163) | (with_reducible apply k164) | (with_reducible apply k165) | (with_reducible apply k166) | (with_reducible apply k167) | ((refine K _ _ ?_; intro Q' hQ; apply r253)) | (with_reducible apply s171) | (with_reducible apply s172) | (with_reducible apply s173) | (with_reducible apply s174) | (with_reducible apply s175) | (with_reducible apply s176) | ((refine zQe (hQ _ _ ?_ ?_) ?_)) | ((exact zP_ne _ _ (by decide))) | ((exact zP_eq _ _)) | ((exact Inv_c (by omega) (by omega) hI)) | ((exact Inv_s (zSx.rf _) (zSame.rf _) hI)) | ((exact zu_ne _ _ _ (by decide))) | fail)

