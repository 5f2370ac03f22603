/-! SHARE-WEEKS AS KNOWN NOW; GOT -/
theorem zmx0 (a : Int) : 0 ≤ zmx 0 a := by unfold zmx; split <;> omega
theorem zmx_lt {a i : Int} (h : 0 ≤ i) : zmx 0 a < i + 1 ↔ a ≤ i := by unfold zmx; split <;> omega
def gCr (p : Int → Int) (a f j u : Int) : Int := zT (fun k => if p (690 + k) = a ∧ zmx 0 (p (1390 + k) - f) = u then p (2790 + k) else 0) j
def gCs (p : Int → Int) (a f i : Int) : Int := zT (fun k => if p (690 + k) = a ∧ zmx 0 (p (1390 + k) - f) < i then p (2790 + k) else 0) (p 4)
theorem gCs_s (p : Int → Int) (a f i : Int) : gCs p a f (i + 1) = gCs p a f i + gCr p a f (p 4) i := by
  unfold gCs gCr
  rw [← zT_add]
  refine zT_congr (fun k _ _ => ?_)
  try dsimp only
  by_cases c : p (690 + k) = a
  · by_cases c2 : zmx 0 (p (1390 + k) - f) = i
    · rw [if_pos ⟨c, by omega⟩, if_neg (fun h => by omega), if_pos ⟨c, c2⟩]; omega
    · by_cases c3 : zmx 0 (p (1390 + k) - f) < i
      · rw [if_pos ⟨c, by omega⟩, if_pos ⟨c, c3⟩, if_neg (fun h => c2 h.2)]; omega
      · rw [if_neg (fun h => by omega), if_neg (fun h => c3 h.2), if_neg (fun h => c2 h.2)]; rfl
  · rw [if_neg (fun h => c h.1), if_neg (fun h => c h.1), if_neg (fun h => c h.1)]; rfl
theorem gCs_0 (p : Int → Int) (a f : Int) : gCs p a f 0 = 0 := zT_zero (fun k _ _ => by (try dsimp only); rw [if_neg (fun h => by have := zmx0 (p (1390 + k) - f); omega)])
theorem gCs_sv {p : Int → Int} {a f i : Int} (hB : IB p) (hE : IE p) (i0 : 0 ≤ i) : w32 (gCs p a f (i + 1)) = gSv p a (f + i) 400 := by
  unfold IB at hB
  unfold gCs gSv
  congr 1
  refine zT_congr (fun k k0 k1 => ?_)
  have e := hE.1 k k0 k1
  unfold gE
  try dsimp only
  by_cases c : p (690 + k) = a ∧ zmx 0 (p (1390 + k) - f) < i + 1
  · rw [if_pos c, if_pos ⟨c.1, by have := (zmx_lt i0).mp c.2; omega, by omega⟩]
  · rw [if_neg c, if_neg (fun h => c ⟨h.1, (zmx_lt i0).mpr (by omega)⟩)]
def gShf (p : Int → Int) (a f : Int) : Int := zT (fun i => zmx 0 (gSv p a (f + i) 400)) 52
theorem gShf_j (p : Int → Int) (a f : Int) {j : Int} (j0 : 0 ≤ j) : 0 ≤ zT (fun i => zmx 0 (gSv p a (f + i) 400)) j ∧ zT (fun i => zmx 0 (gSv p a (f + i) 400)) j ≤ 2147483648 * j := by
  have := zT_bd (f := fun i => zmx 0 (gSv p a (f + i) 400)) (lo := 0) (hi := 2147483648) j0 (fun i _ _ => by have := gSv_pos p a (f + i) 400; (try dsimp only); omega)
  omega
theorem gShf_bd (p : Int → Int) (a f : Int) : 0 ≤ gShf p a f ∧ gShf p a f ≤ 858993459200 := by
  have := gShf_j p a f (j := 52) (by omega)
  unfold gShf; omega
theorem gShf_out {p : Int → Int} (hE : IE p) {a : Int} (f : Int) (h : p 1 ≤ a) : gShf p a f = 0 := zT_zero (fun i _ _ => by (try dsimp only); rw [gSv_out hE h]; rfl)
theorem s251 {d : Nat} {y a : Int} {p : Int → Int} {x m : zM} {Q : Int → zM → zM → Prop} (hd : 1 ≤ d) (hp : m 387 = p) (hB : IB p) (y0 : 0 ≤ y) (y1 : y < 7) (h : Q (gShf p a (52 * y)) x m) : WPc d 251 [zr 386, zi y, zi a] 403 [] x m 403 [] Q := by
  have loop : ∀ j, 0 ≤ j → j ≤ 52 → WP d 251 8 [(0, zr 386), (1, zi y), (2, zi a), (3, zl (zT (fun i => zmx 0 (gSv p a (52 * y + i) 400)) j)), (5, zi (52 * y + j))] [] 403 [] x m 403 [] Q := by
    refine zdown _ _ ?_
    intro j j0 j1 ih
    have b := gShf_j p a (52 * y) j0
    have lo := gSv_lo p a (52 * y + j) 400
    have hi := gSv_hi p a (52 * y + j) 400
    rw [zT_s j0, ← Int.add_assoc] at ih
    have hend : j = 52 → Q (zT (fun i => zmx 0 (gSv p a (52 * y + i) 400)) j) x m := fun e => by rw [e]; exact h
    apply r251_c8
    by_cases c : j = 52
    · have h2 := hend c
      clear hend ih
      repeat' (first | (with_reducible assumption) | (with_reducible rfl) | (with_reducible apply And.intro) | (with_reducible apply zIn_mk) | (with_reducible apply zLn_mk) | ((with_reducible intro _); try (exfalso; omega)) | omega | (with_reducible exact Or.inr trivial) | (with_reducible exact Or.inl trivial) | ((exact h2)) | fail)
    · have ih' := ih (by omega)
      clear hend ih
      unfold zmx at ih'
      repeat' (first | (with_reducible assumption) | (with_reducible rfl) | (with_reducible apply And.intro) | (with_reducible apply zIn_mk) | (with_reducible apply zLn_mk) | ((with_reducible intro _); try (exfalso; omega)) | omega | (with_reducible exact Or.inr trivial) | (with_reducible exact Or.inl trivial) | ((refine s180 (p := p) hp hB ?_)) | ((rw [if_pos (by omega)] at ih'; exact ih')) | ((rw [if_neg (by omega)] at ih'; exact ih')) | fail)
  apply r251
  intro hz1 hz2
  have l0 := loop 0 (by omega) (by omega)
  rw [Int.add_zero, zT_0 (by omega)] at l0
  clear loop
  repeat' (first | (with_reducible assumption) | (with_reducible rfl) | (with_reducible apply And.intro) | (with_reducible apply zIn_mk) | (with_reducible apply zLn_mk) | ((with_reducible intro _); try (exfalso; omega)) | omega | (with_reducible exact Or.inr trivial) | (with_reducible exact Or.inl trivial) | ((exact l0)) | fail)
theorem c29 {d : Nat} {a f : Int} {p : Int → Int} {x m : zM} {Q : Int → zM → zM → Prop} (hd : 1 ≤ d) (hL : RLx x p) (hB : IB p) (hE : IE p) (f0 : 0 ≤ f) (f1 : f ≤ 400) (h : ∀ x', (∀ k, k ≠ 13 → x' k = x k) → Q (gShf p a f) x' m) : WPc d 29 [zr 7, zi a, zi f] 403 [] x m 403 [] Q := by
  have hb := hB; unfold IB at hb
  have loop2 : ∀ x' : zM, (∀ k, k ≠ 13 → x' k = x k) → (∀ u, 0 ≤ u → u < 52 → x' 13 u = w32 (gCr p a f (p 4) u)) → ∀ i, 0 ≤ i → i ≤ 52 → WP d 29 79 [(0, zr 7), (3, zl (zT (fun i => zmx 0 (gSv p a (f + i) 400)) i)), (5, zi (w32 (gCs p a f i))), (6, zi i)] [] 403 [] x' m 403 [] Q := by
    intro x' M1 M2
    refine zdown _ _ ?_
    intro i i0 i1 ih
    have b := gShf_j p a f i0
    have hend : i = 52 → Q (zT (fun i => zmx 0 (gSv p a (f + i) 400)) i) x' m := fun e => by rw [e]; exact h x' M1
    apply r29_c79
    by_cases c : i = 52
    · have h2 := hend c
      clear hend ih
      repeat' (first | (with_reducible assumption) | (with_reducible rfl) | (with_reducible apply And.intro) | (with_reducible apply zIn_mk) | (with_reducible apply zLn_mk) | ((with_reducible intro _); try (exfalso; omega)) | omega | (with_reducible exact Or.inr trivial) | (with_reducible exact Or.inl trivial) | ((exact h2)) | fail)
    · have e : w32 (w32 (gCs p a f i) + x' 13 i) = gSv p a (f + i) 400 := by
        rw [M2 i i0 (by omega), w32_aw, w32_wa, ← gCs_s, gCs_sv hB hE i0]
      have sp := gSv_pos p a (f + i) 400
      have ih' := ih (by omega)
      rw [zT_s i0, gCs_sv hB hE i0] at ih'
      simp only [e]
      clear hend ih e
      repeat' (first | (with_reducible assumption) | (with_reducible rfl) | (with_reducible apply And.intro) | (with_reducible apply zIn_mk) | (with_reducible apply zLn_mk) | ((with_reducible intro _); try (exfalso; omega)) | omega | (with_reducible exact Or.inr trivial) | (with_reducible exact Or.inl trivial) | ((exact ih')) | fail)
  have loop1 : ∀ j, 0 ≤ j → j ≤ p 4 → ∀ x', (∀ k, k ≠ 13 → x' k = x k) → (∀ u, 0 ≤ u → u < 52 → x' 13 u = w32 (gCr p a f j u)) → WP d 29 10 [(0, zr 7), (1, zi a), (2, zi f), (3, zi j)] [] 403 [] x' m 403 [] Q := by
    refine zdown _ _ ?_
    intro j j0 j1 ih x' M1 M2
    have e70 : x' 7 0 = p 4 := by rw [M1 7 (by decide)]; exact hL.1
    apply r29_c10
    simp only [e70]
    by_cases c : j < p 4
    · have r := hL.2.1 j j0 c
      have e := hE.1 j j0 c
      have e8 : x' 8 j = p (690 + j) := by rw [M1 8 (by decide)]; exact r.1
      have e9 : x' 9 j = p (1390 + j) := by rw [M1 9 (by decide)]; exact r.2.1
      have e11 : x' 11 j = p (2790 + j) := by rw [M1 11 (by decide)]; exact r.2.2.2
      simp only [e8, e9, e11]
      have z0 := zmx0 (p (1390 + j) - f)
      have st : ∀ u, gCr p a f (j + 1) u = gCr p a f j u + if p (690 + j) = a ∧ zmx 0 (p (1390 + j) - f) = u then p (2790 + j) else 0 := fun u => by unfold gCr; rw [zT_s j0]
      obtain ⟨z, ez⟩ : ∃ z, z = zmx 0 (p (1390 + j) - f) := ⟨_, rfl⟩
      simp only [← ez] at st ⊢
      rw [← ez] at z0
      have ih0 := fun (hn : ¬ (p (690 + j) = a ∧ z < 52)) => ih c x' M1 (fun u u0 u1 => by rw [st u, if_neg (fun hh => hn ⟨hh.1, by omega⟩), Int.add_zero]; exact M2 u u0 u1)
      have ih1 := fun (hn : p (690 + j) = a ∧ z < 52) => ih c (zupd x' 13 z (w32 (x' 13 z + p (2790 + j)))) (fun k k0 => by rw [zu_ne _ _ _ k0]; exact M1 k k0) (fun u u0 u1 => by
        rw [zu_eq, st u]
        by_cases cu : u = z
        · rw [up_at cu, if_pos ⟨hn.1, cu.symm⟩, ← cu, M2 u u0 u1, w32_wa]
        · rw [up_ne cu, if_neg (fun hh => cu hh.2.symm), Int.add_zero]; exact M2 u u0 u1)
      obtain ⟨G0, hG0⟩ : ∃ G : Prop, G = (¬ (p (690 + j) = a ∧ z < 52) → WP d 29 10 [(0, zr 7), (1, zi a), (2, zi f), (3, zi (j + 1))] [] 403 [] x' m 403 [] Q) := ⟨_, rfl⟩
      obtain ⟨G1, hG1⟩ : ∃ G : Prop, G = ((p (690 + j) = a ∧ z < 52) → WP d 29 10 [(0, zr 7), (1, zi a), (2, zi f), (3, zi (j + 1))] [] 403 [] (zupd x' 13 z (w32 (x' 13 z + p (2790 + j)))) m 403 [] Q) := ⟨_, rfl⟩
      have g0 : G0 := hG0 ▸ ih0
      have g1 : G1 := hG1 ▸ ih1
      clear ih ih0 ih1 st
      repeat' (first | (with_reducible assumption) | (with_reducible rfl) | (with_reducible apply And.intro) | (with_reducible apply zIn_mk) | (with_reducible apply zLn_mk) | ((with_reducible intro _); try (exfalso; omega)) | omega | (with_reducible exact Or.inr trivial) | (with_reducible exact Or.inl trivial) | ((subst hG0; exact g0 (by omega))) | ((subst hG1; exact g1 (by omega))) | fail)
    · have h2 := loop2 x' M1 (by rw [show p 4 = j by omega]; exact M2) 0 (by omega) (by omega)
      rw [zT_0 (by omega), gCs_0, w32_0] at h2
      clear ih
      repeat' (first | (with_reducible assumption) | (with_reducible rfl) | (with_reducible apply And.intro) | (with_reducible apply zIn_mk) | (with_reducible apply zLn_mk) | ((with_reducible intro _); try (exfalso; omega)) | omega | (with_reducible exact Or.inr trivial) | (with_reducible exact Or.inl trivial) | ((exact h2)) | fail)
  have l1 := loop1 0 (by omega) (by omega) (zfil x 13 0 52 0) (fun k k0 => zfil_ne x _ _ _ k0) (fun u u0 u1 => by rw [zfil_at x _ _ _ _ _ (by omega)]; unfold gCr; rw [zT_0 (by omega)]; rfl)
  apply r29
  intro hz1 hz2
  clear loop1 loop2
  repeat' (first | (with_reducible assumption) | (with_reducible rfl) | (with_reducible apply And.intro) | (with_reducible apply zIn_mk) | (with_reducible apply zLn_mk) | ((with_reducible intro _); try (exfalso; omega)) | omega | (with_reducible exact Or.inr trivial) | (with_reducible exact Or.inl trivial) | ((refine r284 (k := 13) (len := 52) rfl rfl ?_; exact l1)) | fail)
theorem c29' {d : Nat} {a f : Int} {p : Int → Int} {x m : zM} {Q : Int → zM → zM → Prop} (hd : 1 ≤ d) (hL : RLx x p) (hB : IB p) (hE : IE p) (f0 : 0 ≤ f) (f1 : f ≤ 400) (h : ∀ x', zSx x x' → Q (gShf p a f) x' m) : WPc d 29 [zr 7, zi a, zi f] 403 [] x m 403 [] Q :=
  c29 hd hL hB hE f0 f1 (fun x' hx => h x' (fun k hk => hx k (fun e => by subst e; exact absurd hk (by decide))))
def gRw (p : Int → Int) (y : Int) : Int → Int := fun k => gShf p k (52 * y)
theorem c19 {d : Nat} {y b : Int} {p w : Int → Int} {x m : zM} {Q : Int → zM → zM → Prop} (hd : 3 ≤ d) (hF : RF x p w) (hB : IB p) (hE : IE p) (hY : IY p w) (y0 : 0 ≤ y) (y1 : y < 7) (b0 : 0 ≤ b) (b1 : b < 16) (h : ∀ x', zSx x x' → Q (gGet (p (5675 + y)) (gRw p y) b) x' m) : WPc d 19 [zr 332, zi y, zi b] 403 [] x m 403 [] Q := by
  have yb := (hY.2.2.2 y y0 y1).2
  have loop : ∀ j, 0 ≤ j → j ≤ 16 → ∀ x', zSx x x' → (∀ k, 0 ≤ k → k < j → x' 333 k = gRw p y k) → WP d 19 2 [(0, zr 332), (1, zi y), (2, zi b), (3, zi j)] [] 403 [] x' m 403 [] Q := by
    refine zdown _ _ ?_
    intro j j0 j1 ih x' M1 M2
    apply r19_c2
    have e109 : x' 109 (y * 7 + 4) = p (5675 + y) := by rw [M1 109 rfl, hF.2.1.2.2.1 y 4 y0 y1 (by omega) (by omega), show 5647 + 7 * 4 + y = 5675 + y by omega]
    simp only [e109]
    by_cases c : j = 16
    · subst c
      clear ih
      repeat' (first | (with_reducible assumption) | (with_reducible rfl) | (with_reducible apply And.intro) | (with_reducible apply zIn_mk) | (with_reducible apply zLn_mk) | ((with_reducible intro _); try (exfalso; omega)) | omega | (with_reducible exact Or.inr trivial) | (with_reducible exact Or.inl trivial) | ((refine c16_333 (a := gRw p y) (by omega) yb.1 yb.2 M2 (fun k _ _ => gShf_bd p k (52 * y)) ?_; intro xB g1 g2 g3)) | ((rw [g2 b b0 b1]; exact h xB (fun k hk => by rw [g1 k (fun e => by subst e; exact absurd hk (by decide)) (fun e => by subst e; exact absurd hk (by decide))]; exact M1 k hk))) | fail)
    · have ih' := fun xB (hB1 : zSx x' xB) (e333 : xB 333 = x' 333) => ih (by omega) (zupd xB 333 j (gRw p y j)) ((M1.tr hB1).u rfl _ _) (fun k k0 k1 => by
        rw [zu_eq]
        by_cases ck : k = j
        · rw [up_at ck, ck]
        · rw [up_ne ck, e333]; exact M2 k k0 (by omega))
      clear ih
      repeat' (first | (with_reducible assumption) | (with_reducible rfl) | (with_reducible apply And.intro) | (with_reducible apply zIn_mk) | (with_reducible apply zLn_mk) | ((with_reducible intro _); try (exfalso; omega)) | omega | (with_reducible exact Or.inr trivial) | (with_reducible exact Or.inl trivial) | ((refine c29 (p := p) (by omega) (RLx_s M1 hF.1.2.1) hB hE (by omega) (by omega) ?_; intro xB g1; rw [show gShf p j (y * 52) = gRw p y j by unfold gRw; rw [Int.mul_comm]])) | ((exact ih' xB (fun k hk => g1 k (fun e => by subst e; exact absurd hk (by decide))) (g1 333 (by decide)))) | fail)
  apply r19
  intro hz1 hz2
  exact loop 0 (by omega) (by omega) x (zSx.rf x) (fun k k0 k1 => by omega)
theorem s252l {d : Nat} {y b : Int} {p w : Int → Int} {x m : zM} {Q : Int → zM → zM → Prop} (hd : 3 ≤ d) (hp : m 387 = p) (hB : IB p) (hE : IE p) (hY : IY p w) (y0 : 0 ≤ y) (y1 : y < 7) (b0 : 0 ≤ b) (b1 : b < 16) (h : ∀ m', (∀ k, k ≠ 399 → k ≠ 400 → m' k = m k) → Q (gGet (p (5675 + y)) (gRw p y) b) x m') : WP d 252 100 [(0, zr 386), (1, zi y), (2, zi b), (4, zi 0)] [] 403 [] x m 403 [] Q := by
  have yb := (hY.2.2.2 y y0 y1).2
  have loop : ∀ j, 0 ≤ j → j ≤ 16 → ∀ m', (∀ k, k ≠ 399 → m' k = m k) → (∀ k, 0 ≤ k → k < j → m' 399 k = gRw p y k) → WP d 252 100 [(0, zr 386), (1, zi y), (2, zi b), (4, zi j)] [] 403 [] x m' 403 [] Q := by
    refine zdown _ _ ?_
    intro j j0 j1 ih m' M1 M2
    have e387 : m' 387 = p := by rw [M1 387 (by decide)]; exact hp
    apply r252_c100
    simp only [e387]
    by_cases c : j = 16
    · subst c
      clear ih
      repeat' (first | (with_reducible assumption) | (with_reducible rfl) | (with_reducible apply And.intro) | (with_reducible apply zIn_mk) | (with_reducible apply zLn_mk) | ((with_reducible intro _); try (exfalso; omega)) | omega | (with_reducible exact Or.inr trivial) | (with_reducible exact Or.inl trivial) | ((refine s242 (a := gRw p y) yb.1 yb.2 M2 (fun k _ _ => gShf_bd p k (52 * y)) ?_; intro mB g1 g2)) | ((rw [g2 b b0 b1]; exact h mB (fun k k0 k1 => by rw [g1 k k1]; exact M1 k k0))) | fail)
    · have ih' := ih (by omega) (zupd m' 399 j (gRw p y j)) (fun k k0 => by rw [zu_ne _ _ _ k0]; exact M1 k k0) (fun k k0 k1 => by
        rw [zu_eq]
        by_cases ck : k = j
        · rw [up_at ck, ck]
        · rw [up_ne ck]; exact M2 k k0 (by omega))
      clear ih
      repeat' (first | (with_reducible assumption) | (with_reducible rfl) | (with_reducible apply And.intro) | (with_reducible apply zIn_mk) | (with_reducible apply zLn_mk) | ((with_reducible intro _); try (exfalso; omega)) | omega | (with_reducible exact Or.inr trivial) | (with_reducible exact Or.inl trivial) | ((rw [show gRw p y j = 0 from gShf_out hE _ (by omega)] at ih'; exact ih')) | ((refine s251 (p := p) (by omega) e387 hB y0 y1 ?_)) | ((exact ih')) | fail)
  exact loop 0 (by omega) (by omega) m (fun _ _ => rfl) (fun k k0 k1 => by omega)
theorem t_got {d dM N : Nat} {a b c : Int} {x m : zM} {Q : Int → zM → zM → Prop} (hd : 40 ≤ d) (hdM : 40 ≤ dM) (hNN : N ≤ 600) (hI : Inv N x m) (K : ∀ q x', MOK N dM 252 [zr 386, zi a, zi b, zi c] q x' m → Q q x' m) : WPc d 140 [zr 0, zi a, zi b, zi c] 403 [] x m 403 [] Q := by
  obtain ⟨hF, hIF, hK, hO⟩ := id hI
  have hX := hF.1
  have hIx := hIF.1
  have hB := hIx.1
  have hA := hIx.2.1
  have hN := hIx.2.2.1
  have hM := hIF.2.1
  have hE := hIF.2.2.1
  have hb := hB; unfold IB at hb
  have hRL := hX.2.1
  have hRA := hX.2.2.1
  have hRN := hX.2.2.2.1
  have e10 : x 1 0 = m 387 0 := hX.1.1
  have e11 : x 1 1 = m 387 1 := hX.1.2.1
  have e108 : x 108 0 = m 387 6 := hF.2.1.1
  apply r140
  by_cases u : 0 ≤ a ∧ a < m 387 6 ∧ 0 ≤ b ∧ b < m 387 1
  · have ry := hF.2.1.2.2.2.1 a b (by omega) (by omega) (by omega) (by omega)
    repeat' (first | (with_reducible assumption) | (with_reducible rfl) | (with_reducible apply And.intro) | (with_reducible apply zIn_mk) | (with_reducible apply zLn_mk) | ((with_reducible intro _); try (exfalso; omega)) | omega | (with_reducible exact Or.inr trivial) | (with_reducible exact Or.inl trivial) | ((simp only [e108])) | ((refine c29' (p := m 387) (by omega) hX.2.1 hB hE (by omega) (by omega) ?_; intro xB hB1)) | ((refine c19 (p := m 387) (w := m 390) (by omega) hF hB hE hIF.2.2.2.2.1 (by omega) (by omega) (by omega) (by omega) ?_; intro xB hB1)) | ((refine s251 (p := m 387) (by omega) rfl hB (by omega) (by omega) ?_)) | ((refine s252l (p := m 387) (w := m 390) (by omega) rfl hB hE hIF.2.2.2.2.1 (by omega) (by omega) (by omega) (by omega) ?_; intro mB q1; exact hQ _ _ (Inv_z hI (RF_s hB1 hF) hIF (by rw [q1 387 (by decide) (by decide)]) (by rw [q1 390 (by decide) (by decide)]) (fun k hk _ => hB1 k hk) (fun k hk => q1 k (by omega) (by omega)) (fun i _ => by rw [q1 386 (by decide) (by decide)])) (q1 2000 (by decide) (by decide)))) | ((with_reducible apply r249)) | ((exact Inv_s hB1 (zSame.rf _) hI)) | ((rw [show a * 52 = 52 * a by omega]; done)) | ((rw [ry.1, show 5696 + 112 * c + 16 * a + b = 5696 + 16 * a + b by omega]; done)) | ((rw [ry.2.1, show 5696 + 112 * c + 16 * a + b = 5808 + 16 * a + b by omega]; done)) | ((rw [ry.2.2.1, show 5696 + 112 * c + 16 * a + b = 6032 + 16 * a + b by omega]; done)) | (with_reducible apply k161) | (with_reducible apply k162) | (with_reducible apply k163) | (with_reducible apply k164) | (with_reducible apply k165) | (with_reducible apply k166) | (with_reducible apply k167) | ((refine K _ _ ?_; intro Q' hQ; apply r252)) | (with_reducible apply s171) | (with_reducible apply s172) | (with_reducible apply s173) | (with_reducible apply s174) | (with_reducible apply s175) | (with_reducible apply s176) | ((refine zQe (hQ _ _ ?_ ?_) ?_)) | ((exact zP_ne _ _ (by decide))) | ((exact zP_eq _ _)) | ((exact Inv_c (by omega) (by omega) hI)) | ((exact Inv_s (zSx.rf _) (zSame.rf _) hI)) | ((exact zu_ne _ _ _ (by decide))) | fail)
  · repeat' (first | (with_reducible assumption) | (with_reducible rfl) | (with_reducible apply And.intro) | (with_reducible apply zIn_mk) | (with_reducible apply zLn_mk) | ((with_reducible intro _); try (exfalso; omega)) | omega | (with_reducible exact Or.inr trivial) | (with_reducible exact Or.inl trivial) | ((simp only [e108])) | ((refine c29' (p := m 387) (by omega) hX.2.1 hB hE (by omega) (by omega) ?_; intro xB hB1)) | ((refine c19 (p := m 387) (w := m 390) (by omega) hF hB hE hIF.2.2.2.2.1 (by omega) (by omega) (by omega) (by omega) ?_; intro xB hB1)) | ((refine s251 (p := m 387) (by omega) rfl hB (by omega) (by omega) ?_)) | ((refine s252l (p := m 387) (w := m 390) (by omega) rfl hB hE hIF.2.2.2.2.1 (by omega) (by omega) (by omega) (by omega) ?_; intro mB q1; exact hQ _ _ (Inv_z hI (RF_s hB1 hF) hIF (by rw [q1 387 (by decide) (by decide)]) (by rw [q1 390 (by decide) (by decide)]) (fun k hk _ => hB1 k hk) (fun k hk => q1 k (by omega) (by omega)) (fun i _ => by rw [q1 386 (by decide) (by decide)])) (q1 2000 (by decide) (by decide)))) | ((with_reducible apply r249)) | ((exact Inv_s hB1 (zSame.rf _) hI)) | ((rw [show a * 52 = 52 * a by omega]; done)) | ((rw [ry.1, show 5696 + 112 * c + 16 * a + b = 5696 + 16 * a + b by omega]; done)) | ((rw [ry.2.1, show 5696 + 112 * c + 16 * a + b = 5808 + 16 * a + b by omega]; done)) | ((rw [ry.2.2.1, show 5696 + 112 * c + 16 * a + b = 6032 + 16 * a + b by omega]; done)) | (with_reducible apply k161) | (with_reducible apply k162) | (with_reducible apply k163) | (with_reducible apply k164) | (with_reducible apply k165) | (with_reducible apply k166) | (with_reducible apply k167) | ((refine K _ _ ?_; intro Q' hQ; apply r252)) | (with_reducible apply s171) | (with_reducible apply s172) | (with_reducible apply s173) | (with_reducible apply s174) | (with_reducible apply s175) | (with_reducible apply s176) | ((refine zQe (hQ _ _ ?_ ?_) ?_)) | ((exact zP_ne _ _ (by decide))) | ((exact zP_eq _ _)) | ((exact Inv_c (by omega) (by omega) hI)) | ((exact Inv_s (zSx.rf _) (zSame.rf _) hI)) | ((exact zu_ne _ _ _ (by decide))) | fail)

