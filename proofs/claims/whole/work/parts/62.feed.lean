/-! FEEDING -/
def gFe (f : Int → Int) (sz b n t : Int) : Int → Int := fun i => if sz ≤ i ∧ i < sz + t then zand (zshr b (8 * (n - 1 - (i - sz)))) 255 else f i
theorem gFe_0 (f : Int → Int) (sz b n : Int) : gFe f sz b n 0 = f := by funext i; unfold gFe; rw [if_neg (by omega)]
theorem gFe_s (f : Int → Int) (sz b n t : Int) (h : 0 ≤ t) : up (gFe f sz b n t) (sz + t) (zand (zshr b (8 * (n - 1 - t))) 255) = gFe f sz b n (t + 1) := by
  funext i
  by_cases c : i = sz + t
  · rw [up_at c]; unfold gFe; rw [if_pos (by omega), c, show sz + t - sz = t by omega]
  · rw [up_ne c]; unfold gFe
    by_cases c2 : sz ≤ i ∧ i < sz + t
    · rw [if_pos c2, if_pos (by omega)]
    · rw [if_neg c2, if_neg (by omega)]
theorem c76 {d : Nat} {b n sz : Int} {x m : zM} {Q : Int → zM → zM → Prop} (n0 : 0 ≤ n) (n4 : n ≤ 4) (hs : x 325 1 = sz) (s0 : 0 ≤ sz) (s1 : sz + n ≤ 120) (h : ∀ x', x' 326 = gFe (x 326) sz b n n → x' 325 1 = sz + n → (∀ k, k ≠ 325 → k ≠ 326 → x' k = x k) → Q (sz + n) x' m) : WPc d 76 [zr 325, zi b, zi n] 403 [] x m 403 [] Q := by
  have loop : ∀ t, 0 ≤ t → t ≤ n → ∀ x', x' 326 = gFe (x 326) sz b n t → x' 325 1 = sz + t → (∀ k, k ≠ 325 → k ≠ 326 → x' k = x k) → WP d 76 4 [(0, zr 325), (1, zi b), (3, zi (n - 1 - t))] [] 403 [] x' m 403 [] Q := by
    refine zdown n _ ?_
    intro t t0 t1 ih x' h1 h2 h3
    have e : n - 1 - t + -1 = n - 1 - (t + 1) := by omega
    apply r76_c4
    rw [h2, e]
    repeat' (first | (with_reducible assumption) | (with_reducible rfl) | (with_reducible apply And.intro) | (with_reducible apply zIn_mk) | (with_reducible apply zLn_mk) | ((with_reducible intro _); try (exfalso; omega)) | omega | (with_reducible exact Or.inr trivial) | (with_reducible exact Or.inl trivial) | ((refine ih (by omega) _ (by rw [zu_ne _ _ _ (by decide), zu_eq, h1, gFe_s _ _ _ _ _ t0]) (by rw [zu_eq, up_eq]; omega) (fun k k0 k1 => by rw [zu_ne _ _ _ k0, zu_ne _ _ _ k1]; exact h3 k k0 k1))) | ((rw [show sz + t = sz + n by omega]; rw [show t = n by omega] at h1 h2; exact h x' h1 h2 h3)) | fail)
  apply r76
  repeat' (first | (with_reducible assumption) | (with_reducible rfl) | (with_reducible apply And.intro) | (with_reducible apply zIn_mk) | (with_reducible apply zLn_mk) | ((with_reducible intro _); try (exfalso; omega)) | omega | (with_reducible exact Or.inr trivial) | (with_reducible exact Or.inl trivial) | ((rw [show n - 1 = n - 1 - 0 by omega]; exact loop 0 (by omega) (by omega) x (gFe_0 _ _ _ _).symm (by omega) (fun k _ _ => rfl))) | fail)
theorem s218l {d : Nat} {b n sz : Int} {x m : zM} {Q : Int → zM → zM → Prop} (n0 : 0 ≤ n) (n4 : n ≤ 4) (hs : m 386 9 = sz) (s0 : 0 ≤ sz) (s1 : sz + n ≤ 120) (h : ∀ m', m' 394 = gFe (m 394) sz b n n → m' 386 9 = sz + n → (∀ i, i ≠ 9 → m' 386 i = m 386 i) → (∀ k, k ≠ 386 → k ≠ 394 → m' k = m k) → Q (sz + n) x m') : WP d 218 45 [(0, zr 386), (1, zi b), (3, zi (n - 1))] [] 403 [] x m 403 [] Q := by
  have loop : ∀ t, 0 ≤ t → t ≤ n → ∀ m', m' 394 = gFe (m 394) sz b n t → m' 386 9 = sz + t → (∀ i, i ≠ 9 → m' 386 i = m 386 i) → (∀ k, k ≠ 386 → k ≠ 394 → m' k = m k) → WP d 218 45 [(0, zr 386), (1, zi b), (3, zi (n - 1 - t))] [] 403 [] x m' 403 [] Q := by
    refine zdown n _ ?_
    intro t t0 t1 ih x' h1 h2 h4 h3
    have e : n - 1 - t + -1 = n - 1 - (t + 1) := by omega
    apply r218_c45
    rw [h2, e]
    repeat' (first | (with_reducible assumption) | (with_reducible rfl) | (with_reducible apply And.intro) | (with_reducible apply zIn_mk) | (with_reducible apply zLn_mk) | ((with_reducible intro _); try (exfalso; omega)) | omega | (with_reducible exact Or.inr trivial) | (with_reducible exact Or.inl trivial) | ((refine ih (by omega) _ (by rw [zu_ne _ _ _ (by decide), zu_eq, h1, gFe_s _ _ _ _ _ t0]) (by rw [zu_eq, up_eq]; omega) (fun i hi => by rw [zu_eq, up_ne hi, zu_ne _ _ _ (by decide)]; exact h4 i hi) (fun k k0 k1 => by rw [zu_ne _ _ _ k0, zu_ne _ _ _ k1]; exact h3 k k0 k1))) | ((rw [show sz + t = sz + n by omega]; rw [show t = n by omega] at h1 h2; exact h x' h1 h2 h4 h3)) | fail)
  have := loop 0 (by omega) (by omega) m (gFe_0 _ _ _ _).symm (by omega) (fun i _ => rfl) (fun k _ _ => rfl)
  rwa [show n - 1 - 0 = n - 1 by omega] at this
theorem t_feed {d dM N : Nat} {a b : Int} {x m : zM} {Q : Int → zM → zM → Prop} (hd : 40 ≤ d) (hdM : 40 ≤ dM) (hNN : N ≤ 600) (hI : Inv N x m) (K : ∀ q x', MOK N dM 218 [zr 386, zi a, zi b] q x' m → Q q x' m) : WPc d 132 [zr 0, zi a, zi b] 403 [] x m 403 [] Q := by
  obtain ⟨hF, hIF, hK, hO⟩ := id hI
  have hX := hF.1
  have hIx := hIF.1
  have hB := hIx.1
  have hA := hIx.2.1
  have hN := hIx.2.2.1
  have hM := hIF.2.1
  have hE := hIF.2.2.1
  have hb := hB; unfold IB at hb
  have hRL := hX.2.1
  have hRA := hX.2.2.1
  have hRN := hX.2.2.2.1
  have e10 : x 1 0 = m 387 0 := hX.1.1
  have e11 : x 1 1 = m 387 1 := hX.1.2.1
  have hr := hO.2.2.2.1
  have ht := hO.2.1
  apply r132
  repeat' (first | (with_reducible assumption) | (with_reducible rfl) | (with_reducible apply And.intro) | (with_reducible apply zIn_mk) | (with_reducible apply zLn_mk) | ((with_reducible intro _); try (exfalso; omega)) | omega | (with_reducible exact Or.inr trivial) | (with_reducible exact Or.inl trivial) | ((unfold zIn at *; omega)) | ((refine c76 (sz := m 386 9) (by omega) (by omega) (by omega) (by omega) (by omega) ?_; intro xB f1 f2 f3)) | ((refine s218l (sz := m 386 9) (by omega) (by omega) rfl (by omega) (by omega) ?_; intro mB g1 g2 g3 g4)) | ((exact g4 2000 (by decide) (by decide))) | (with_reducible apply k161) | (with_reducible apply k162) | (with_reducible apply k163) | (with_reducible apply k164) | (with_reducible apply k165) | (with_reducible apply k166) | (with_reducible apply k167) | ((refine K _ _ ?_; intro Q' hQ; apply r218)) | (with_reducible apply s171) | (with_reducible apply s172) | (with_reducible apply s173) | (with_reducible apply s174) | (with_reducible apply s175) | (with_reducible apply s176) | ((refine zQe (hQ _ _ ?_ ?_) ?_)) | ((exact zP_ne _ _ (by decide))) | ((exact zP_eq _ _)) | ((exact Inv_c (by omega) (by omega) hI)) | ((exact Inv_s (zSx.rf _) (zSame.rf _) hI)) | ((exact zu_ne _ _ _ (by decide))) | fail)
  · refine Inv_o hI (fun k k0 k1 => f3 k (by omega) (by omega)) (by rw [f3 0 (by decide) (by decide)]) (g4 _ (by decide) (by decide)) (g4 _ (by decide) (by decide)) (g4 _ (by decide) (by decide)) (g4 _ (by decide) (by decide)) (g3 6 (by decide)) ?_
    refine ⟨?_, ?_, fun k k0 k1 => ?_, ?_, ?_, ?_⟩
    · rw [f3 329 (by decide) (by decide), g4 393 (by decide) (by decide)]; exact hO.1
    · omega
    · rw [g2] at k1
      rw [f1, g1]
      unfold gFe
      by_cases c : m 386 9 ≤ k ∧ k < m 386 9 + b
      · rw [if_pos c, if_pos c]; exact ⟨rfl, zand_255 _⟩
      · rw [if_neg c, if_neg c]; exact hO.2.2.1 k k0 (by omega)
    · rw [f3 0 (by decide) (by decide), g3 10 (by decide)]; exact hO.2.2.2.1
    · rw [f3 328 (by decide) (by decide), g4 395 (by decide) (by decide)]; exact hO.2.2.2.2.1
    · rw [g4 396 (by decide) (by decide)]; exact hO.2.2.2.2.2

