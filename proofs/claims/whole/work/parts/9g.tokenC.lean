/-! THE CLASS READS A TOKEN -/
def jF (x x' : zM) : Prop := (∀ k, k ≠ 325 → x' k = x k) ∧ (∀ i, i ≠ 2 → i ≠ 3 → i ≠ 4 → i ≠ 5 → x' 325 i = x 325 i)
theorem jF.rf (x : zM) : jF x x := ⟨fun _ _ => rfl, fun _ _ _ _ _ => rfl⟩
theorem jF.tr {x x' x'' : zM} (h : jF x x') (h' : jF x' x'') : jF x x'' := ⟨fun k a => by rw [h'.1 k a, h.1 k a], fun i a b c d => by rw [h'.2 i a b c d, h.2 i a b c d]⟩
theorem jF.u {x x' : zM} (h : jF x x') {i v : Int} (hi : i = 2 ∨ i = 3 ∨ i = 4 ∨ i = 5) : jF x (zupd x' 325 i v) := ⟨fun k a => by rw [zu_ne _ _ _ a]; exact h.1 k a, fun j a b c d => by rw [zu_eq, up_ne (by omega)]; exact h.2 j a b c d⟩
theorem jTp_f {x x' : zM} {t : Int → Int} {T : Int} (h : jF x x') (r : jTp x t T) : jTp x' t T := ⟨r.1, by rw [h.2 1 (by decide) (by decide) (by decide) (by decide)]; exact r.2.1, by rw [h.1 326 (by decide)]; exact r.2.2⟩
theorem c91 {d : Nat} {v : Int} {x m : zM} {Q : Int → zM → zM → Prop} (h1 : 48 ≤ v → v ≤ 57 → Q 1 x m) (h0 : (v < 48 ∨ 57 < v) → Q 0 x m) : WPc d 91 [zi v] 403 [] x m 403 [] Q := by
  apply r91
  intro _
  repeat' (first | (with_reducible assumption) | (with_reducible rfl) | (with_reducible apply And.intro) | (with_reducible apply zIn_mk) | (with_reducible apply zLn_mk) | ((with_reducible intro _); try (exfalso; omega)) | omega | (with_reducible exact Or.inr trivial) | (with_reducible exact Or.inl trivial) | ((exact h1 (by omega) (by omega))) | ((exact h0 (by omega))) | fail)
theorem c92 {d : Nat} {v : Int} {x m : zM} {Q : Int → zM → zM → Prop} (h1 : 97 ≤ v → v ≤ 122 → Q 1 x m) (h0 : (v < 97 ∨ 122 < v) → Q 0 x m) : WPc d 92 [zi v] 403 [] x m 403 [] Q := by
  apply r92
  intro _
  repeat' (first | (with_reducible assumption) | (with_reducible rfl) | (with_reducible apply And.intro) | (with_reducible apply zIn_mk) | (with_reducible apply zLn_mk) | ((with_reducible intro _); try (exfalso; omega)) | omega | (with_reducible exact Or.inr trivial) | (with_reducible exact Or.inl trivial) | ((exact h1 (by omega) (by omega))) | ((exact h0 (by omega))) | fail)
abbrev jSg (c : Int) : Prop := c = 40 ∨ c = 41 ∨ c = 43 ∨ c = 45 ∨ c = 42 ∨ c = 47 ∨ c = 37 ∨ c = 61 ∨ c = 60 ∨ c = 62
theorem c93 {d : Nat} {v : Int} {x m : zM} {Q : Int → zM → zM → Prop} (h1 : jSg v → Q 1 x m) (h0 : ¬ jSg v → Q 0 x m) : WPc d 93 [zi v] 403 [] x m 403 [] Q := by
  unfold jSg at h1 h0
  apply r93
  intro _
  repeat' (first | (with_reducible assumption) | (with_reducible rfl) | (with_reducible apply And.intro) | (with_reducible apply zIn_mk) | (with_reducible apply zLn_mk) | ((with_reducible intro _); try (exfalso; omega)) | omega | (with_reducible exact Or.inr trivial) | (with_reducible exact Or.inl trivial) | ((exact h1 (by omega))) | ((exact h0 (by omega))) | ((exact True.intro)) | fail)
def jVb (t : Int → Int) (b v n : Int) : Prop := (n ≤ 5 → v = gNv t b n) ∧ (0 ≤ v ∧ v ≤ 99999) ∧ (n ≤ 0 → v ≤ 0) ∧ (n ≤ 1 → v ≤ 9) ∧ (n ≤ 2 → v ≤ 99) ∧ (n ≤ 3 → v ≤ 999) ∧ (n ≤ 4 → v ≤ 9999)
theorem jVb_s {t : Int → Int} {b v n c : Int} (n0 : 0 ≤ n) (n1 : n < 5) (e : t (b + n) = c) (c0 : 48 ≤ c) (c1 : c ≤ 57) (h : jVb t b v n) : jVb t b (v * 10 + c - 48) (n + 1) := by
  unfold jVb at *
  obtain ⟨a, b2, c2, d2, e2, f2, g2⟩ := h
  have a' := a (by omega)
  refine ⟨fun _ => ?_, ?_⟩
  · rw [gNv_s n0, e, ← a']
  · omega
theorem c88 {d : Nat} {t : Int → Int} {T b e : Int} {x m : zM} {Q : Int → zM → zM → Prop} (hd : 2 ≤ d) (hT : jTp x t T) (eb : x 325 4 = b) (ee : x 325 2 = b) (b0 : 0 ≤ b) (b1 : b ≤ T) (he : gSn t T 48 57 b = e) (h : ∀ x', jF x x' → x' 325 2 = e → x' 325 4 = b → x' 325 3 = (if e - b ≤ 5 then 2 else 1) → (e - b ≤ 5 → x' 325 5 = gNv t b (e - b)) → Q 0 x' m) : WPc d 88 [zr 325] 403 [] x m 403 [] Q := by
  have loop : ∀ j, b ≤ j → j ≤ T → ∀ x', jF x x' → x' 325 2 = j → x' 325 4 = b → jVb t b (x' 325 5) (j - b) → gSn t T 48 57 j = e → WP d 88 5 [(0, zr 325)] [] 403 [] x' m 403 [] Q := by
    refine zdownL b T _ ?_
    intro j j0 j1 ih x' M1 e2 e4 e5 hs
    obtain ⟨⟨T0, T1⟩, eT, ht⟩ := jTp_f M1 hT
    by_cases c : j < T ∧ 48 ≤ t j ∧ t j ≤ 57
    · obtain ⟨et, t0, t1⟩ := ht j (by omega) c.1
      rw [gSn_y c.1 c.2.1 c.2.2] at hs
      have i1 := ih c.1 (zupd x' 325 2 (j + 1)) (M1.u (by omega)) (by rw [zu_eq, up_at rfl]) (by rw [zu_eq, up_ne (by omega)]; exact e4)
      rw [show zupd x' 325 2 (j + 1) 325 5 = x' 325 5 from by rw [zu_eq, up_ne (by omega)]] at i1
      have i2 := fun hh => ih c.1 (zupd (zupd x' 325 5 (x' 325 5 * 10 + t j - 48)) 325 2 (j + 1)) ((M1.u (by omega)).u (by omega)) (by rw [zu_eq, up_at rfl]) (by rw [zu_eq, up_ne (by omega), zu_eq, up_ne (by omega)]; exact e4) hh hs
      rw [show zupd (zupd x' 325 5 (x' 325 5 * 10 + t j - 48)) 325 2 (j + 1) 325 5 = x' 325 5 * 10 + t j - 48 from by rw [zu_eq, up_ne (by omega), zu_eq, up_at rfl], show j + 1 - b = j - b + 1 by omega] at i2
      have i1' := fun (hh : 5 ≤ j - b) => i1 (by unfold jVb at *; omega) hs
      have i2' := fun (hh : j - b < 5) => i2 (jVb_s (by omega) hh (by rw [show b + (j - b) = j by omega]) c.2.1 c.2.2 e5)
      have vb : (0 ≤ x' 325 5 ∧ x' 325 5 ≤ 99999) := e5.2.1
      apply r88_c5
      simp only [e2, e4, eT, et]
      clear ih h i1 i2 hs ht
      repeat' (first | (with_reducible assumption) | (with_reducible rfl) | (with_reducible apply And.intro) | (with_reducible apply zIn_mk) | (with_reducible apply zLn_mk) | (simp only [e2, e4, eT, et]) | ((with_reducible intro _); try (exfalso; omega)) | omega | (with_reducible exact Or.inr trivial) | (with_reducible exact Or.inl trivial) | ((refine c91 ?_ ?_)) | ((have hh : 5 ≤ j - b := (by omega); exact i1' hh)) | ((have hh : j - b < 5 := (by omega); exact i2' hh)) | fail)
    · have ej : j = e := by rw [← hs]; exact (gSn_n (by omega)).symm
      have k2 := fun (hh : j - b ≤ 5) => h (zupd x' 325 3 2) (M1.u (by omega)) (by rw [zu_eq, up_ne (by omega), e2]; exact ej) (by rw [zu_eq, up_ne (by omega)]; exact e4) (by rw [zu_eq, up_at rfl, if_pos (by omega)]) (fun _ => by rw [zu_eq, up_ne (by omega), ← ej]; exact e5.1 hh)
      have k1 := fun (hh : 5 < j - b) => h (zupd x' 325 3 1) (M1.u (by omega)) (by rw [zu_eq, up_ne (by omega), e2]; exact ej) (by rw [zu_eq, up_ne (by omega)]; exact e4) (by rw [zu_eq, up_at rfl, if_neg (by omega)]) (fun hh' => by omega)
      clear ih h hs e5
      by_cases c1 : j < T
      · obtain ⟨et, t0, t1⟩ := ht j (by omega) c1
        apply r88_c5
        simp only [e2, e4, eT, et]
        clear ht
        repeat' (first | (with_reducible assumption) | (with_reducible rfl) | (with_reducible apply And.intro) | (with_reducible apply zIn_mk) | (with_reducible apply zLn_mk) | (simp only [e2, e4, eT, et]) | ((with_reducible intro _); try (exfalso; omega)) | omega | (with_reducible exact Or.inr trivial) | (with_reducible exact Or.inl trivial) | ((refine c91 ?_ ?_)) | ((have hh : j - b ≤ 5 := (by omega); exact k2 hh)) | ((have hh : 5 < j - b := (by omega); exact k1 hh)) | fail)
      · apply r88_c5
        simp only [e2, e4, eT]
        clear ht
        repeat' (first | (with_reducible assumption) | (with_reducible rfl) | (with_reducible apply And.intro) | (with_reducible apply zIn_mk) | (with_reducible apply zLn_mk) | (simp only [e2, e4, eT]) | ((with_reducible intro _); try (exfalso; omega)) | omega | (with_reducible exact Or.inr trivial) | (with_reducible exact Or.inl trivial) | ((have hh : j - b ≤ 5 := (by omega); exact k2 hh)) | ((have hh : 5 < j - b := (by omega); exact k1 hh)) | fail)
  apply r88
  refine loop b (by omega) b1 _ ((jF.rf x).u (by omega)) (by rw [zu_eq, up_ne (by omega)]; exact ee) (by rw [zu_eq, up_ne (by omega)]; exact eb) ?_ he
  rw [zu_eq, up_at rfl, Int.sub_self]
  unfold jVb
  exact ⟨fun _ => rfl, by omega, by omega, by omega, by omega, by omega, by omega⟩
def jWk (w : Int) : Int := if w = -1 then 1 else if w = 16 then 5 else if w = 17 then 6 else if w = 18 then 7 else if w = 19 then 8 else if 6 ≤ w then 4 else 3
def jWv (w : Int) : Int := if 6 ≤ w then w - 6 else w
theorem c89 {d : Nat} {t : Int → Int} {T b e : Int} {x m : zM} {Q : Int → zM → zM → Prop} (hd : 9 ≤ d) (hT : jTp x t T) (eb : x 325 4 = b) (ee : x 325 2 = b) (b0 : 0 ≤ b) (b1 : b ≤ T) (he : gSn t T 97 122 b = e) (h : ∀ x', jF x x' → x' 325 2 = e → x' 325 4 = b → x' 325 3 = jWk (gWn t b e) → x' 325 5 = jWv (gWn t b e) → Q 0 x' m) : WPc d 89 [zr 325] 403 [] x m 403 [] Q := by
  have loop : ∀ j, b ≤ j → j ≤ T → ∀ x', jF x x' → x' 325 2 = j → x' 325 4 = b → gSn t T 97 122 j = e → WP d 89 0 [(0, zr 325)] [] 403 [] x' m 403 [] Q := by
    refine zdownL b T _ ?_
    intro j j0 j1 ih x' M1 e2 e4 hs
    have hT' := jTp_f M1 hT
    obtain ⟨⟨T0, T1⟩, eT, ht⟩ := id hT'
    by_cases c : j < T ∧ 97 ≤ t j ∧ t j ≤ 122
    · obtain ⟨et, t0, t1⟩ := ht j (by omega) c.1
      rw [gSn_y c.1 c.2.1 c.2.2] at hs
      have i1 := ih c.1 (zupd x' 325 2 (j + 1)) (M1.u (by omega)) (by rw [zu_eq, up_at rfl]) (by rw [zu_eq, up_ne (by omega)]; exact e4) hs
      apply r89_c0
      simp only [e2, e4, eT, et]
      clear ih h hs ht
      repeat' (first | (with_reducible assumption) | (with_reducible rfl) | (with_reducible apply And.intro) | (with_reducible apply zIn_mk) | (with_reducible apply zLn_mk) | (simp only [e2, e4, eT, et]) | ((with_reducible intro _); try (exfalso; omega)) | omega | (with_reducible exact Or.inr trivial) | (with_reducible exact Or.inl trivial) | ((refine c92 ?_ ?_)) | ((exact i1)) | fail)
    · have ej : j = e := by rw [← hs]; exact (gSn_n (by omega)).symm
      obtain ⟨w, hw⟩ : ∃ w, w = gWn t b e := ⟨_, rfl⟩
      have wb := gWn_bd t b e
      have c90' : ∀ {R : Int → zM → zM → Prop}, R w x' m → WPc (d - 1) 90 [zr 325] 403 [] x' m 403 [] R := fun r => c90 (by omega) hT' e4 (e2.trans ej) b0 (by omega) (by omega) (by rw [← hw]; exact r)
      rw [← hw] at h wb
      have fin := fun k v (hk : k = jWk w) (hv : v = jWv w) => h (zupd (zupd x' 325 5 v) 325 3 k) ((M1.u (by omega)).u (by omega)) (by rw [zu_eq, up_ne (by omega), zu_eq, up_ne (by omega), e2]; exact ej) (by rw [zu_eq, up_ne (by omega), zu_eq, up_ne (by omega)]; exact e4) (by rw [zu_eq, up_at rfl]; exact hk) (by rw [zu_eq, up_ne (by omega), zu_eq, up_at rfl]; exact hv)
      clear ih h hs hw
      by_cases c1 : j < T
      · obtain ⟨et, t0, t1⟩ := ht j (by omega) c1
        apply r89_c0
        simp only [e2, e4, eT, et]
        clear ht
        repeat' (first | (with_reducible assumption) | (with_reducible rfl) | (with_reducible apply And.intro) | (with_reducible apply zIn_mk) | (with_reducible apply zLn_mk) | (simp only [e2, e4, eT, et]) | ((with_reducible intro _); try (exfalso; omega)) | omega | (with_reducible exact Or.inr trivial) | (with_reducible exact Or.inl trivial) | ((refine c92 ?_ ?_)) | ((refine c90' ?_)) | ((exact fin _ _ (by unfold jWk; (repeat' split) <;> omega) (by unfold jWv; (repeat' split) <;> omega))) | fail)
      · apply r89_c0
        simp only [e2, e4, eT]
        clear ht
        repeat' (first | (with_reducible assumption) | (with_reducible rfl) | (with_reducible apply And.intro) | (with_reducible apply zIn_mk) | (with_reducible apply zLn_mk) | (simp only [e2, e4, eT]) | ((with_reducible intro _); try (exfalso; omega)) | omega | (with_reducible exact Or.inr trivial) | (with_reducible exact Or.inl trivial) | ((refine c90' ?_)) | ((exact fin _ _ (by unfold jWk; (repeat' split) <;> omega) (by unfold jWv; (repeat' split) <;> omega))) | fail)
  apply r89
  exact loop b (by omega) b1 x (jF.rf x) ee eb he
/-- a token: where it ends, what it is, what it is worth -/
def jTe (t : Int → Int) (T b : Int) : Int := if T ≤ b then b else if 48 ≤ t b ∧ t b ≤ 57 then gSn t T 48 57 b else if 97 ≤ t b ∧ t b ≤ 122 then gSn t T 97 122 b else b + 1
def jTk (t : Int → Int) (T b : Int) : Int := if T ≤ b then 0 else if 48 ≤ t b ∧ t b ≤ 57 then (if gSn t T 48 57 b - b ≤ 5 then 2 else 1) else if 97 ≤ t b ∧ t b ≤ 122 then jWk (gWn t b (gSn t T 97 122 b)) else if jSg (t b) then t b else 1
def jTv (t : Int → Int) (T b : Int) : Int := if 48 ≤ t b ∧ t b ≤ 57 then gNv t b (gSn t T 48 57 b - b) else jWv (gWn t b (gSn t T 97 122 b))
theorem c87 {d : Nat} {t : Int → Int} {T a b : Int} {x m : zM} {Q : Int → zM → zM → Prop} (hd : 10 ≤ d) (hT : jTp x t T) (ea : x 325 2 = a) (a0 : 0 ≤ a) (a1 : a ≤ T) (hb : gSn t T 32 32 a = b) (h : ∀ x', jF x x' → x' 325 2 = jTe t T b → x' 325 4 = b → x' 325 3 = jTk t T b → (2 ≤ jTk t T b → jTk t T b ≤ 4 → x' 325 5 = jTv t T b) → Q 0 x' m) : WPc d 87 [zr 325] 403 [] x m 403 [] Q := by
  have loop : ∀ j, a ≤ j → j ≤ T → ∀ x', jF x x' → x' 325 2 = j → gSn t T 32 32 j = b → WP d 87 0 [(0, zr 325)] [] 403 [] x' m 403 [] Q := by
    refine zdownL a T _ ?_
    intro j j0 j1 ih x' M1 e2 hs
    have hT' := jTp_f M1 hT
    obtain ⟨⟨T0, T1⟩, eT, ht⟩ := id hT'
    by_cases c : j < T
    · obtain ⟨et, t0, t1⟩ := ht j (by omega) c
      by_cases c32 : t j = 32
      · rw [gSn_y c (by omega) (by omega)] at hs
        have i1 := ih c (zupd x' 325 2 (j + 1)) (M1.u (by omega)) (by rw [zu_eq, up_at rfl]) hs
        apply r87_c0
        simp only [e2, eT, et]
        clear ih h hs ht
        repeat' (first | (with_reducible assumption) | (with_reducible rfl) | (with_reducible apply And.intro) | (with_reducible apply zIn_mk) | (with_reducible apply zLn_mk) | ((with_reducible intro _); try (exfalso; omega)) | omega | (with_reducible exact Or.inr trivial) | (with_reducible exact Or.inl trivial) | ((exact i1)) | fail)
      · have ej : j = b := by rw [← hs]; exact (gSn_n (by omega)).symm
        subst ej
        have M2 : jF x (zupd x' 325 4 j) := M1.u (by omega)
        have hT2 := jTp_f M2 hT
        have f2 : zupd x' 325 4 j 325 2 = j := by rw [zu_eq, up_ne (by omega)]; exact e2
        have f4 : zupd x' 325 4 j 325 4 = j := by rw [zu_eq, up_at rfl]
        have ft : zupd x' 325 4 j 326 j = t j := by rw [zu_ne _ _ _ (by decide)]; exact et
        clear ih hs
        obtain ⟨y, hy⟩ : ∃ y, y = zupd x' 325 4 j := ⟨_, rfl⟩
        rw [← hy] at M2 hT2 f2 f4 ft
        by_cases cd : 48 ≤ t j ∧ t j ≤ 57
        · have kD := fun x'' (g : jF y x'') (g2 : x'' 325 2 = gSn t T 48 57 j) (g4 : x'' 325 4 = j) (g3 : x'' 325 3 = if gSn t T 48 57 j - j ≤ 5 then 2 else 1) (g5 : gSn t T 48 57 j - j ≤ 5 → x'' 325 5 = gNv t j (gSn t T 48 57 j - j)) => h x'' (M2.tr g) (by unfold jTe; rw [if_neg (by omega), if_pos cd]; exact g2) g4 (by unfold jTk; rw [if_neg (by omega), if_pos cd]; exact g3) (fun q q' => by
            unfold jTv; rw [if_pos cd]
            unfold jTk at q; rw [if_neg (by omega), if_pos cd] at q
            refine g5 ?_
            by_cases q5 : gSn t T 48 57 j - j ≤ 5
            · exact q5
            · rw [if_neg q5] at q; omega)
          have k88 : WPc (d - 1) 88 [zr 325] 403 [] y m 403 [] (fun _ x14 m15 => Q 0 x14 m15) := c88 (t := t) (T := T) (b := j) (by omega) hT2 f4 f2 (by omega) j1 rfl (fun x'' a1 a2 a3 a4 a5 => kD x'' a1 a2 a3 a4 a5)
          apply r87_c0
          simp only [e2, eT, et, ← hy]
          clear h ht kD hy
          repeat' (first | (with_reducible assumption) | (with_reducible rfl) | (with_reducible apply And.intro) | (with_reducible apply zIn_mk) | (with_reducible apply zLn_mk) | ((with_reducible intro _); try (exfalso; omega)) | omega | (with_reducible exact Or.inr trivial) | (with_reducible exact Or.inl trivial) | ((refine c91 ?_ ?_)) | ((exact k88)) | fail)
        · by_cases cl : 97 ≤ t j ∧ t j ≤ 122
          · have kD := fun x'' (g : jF y x'') (g2 : x'' 325 2 = gSn t T 97 122 j) (g4 : x'' 325 4 = j) (g3 : x'' 325 3 = jWk (gWn t j (gSn t T 97 122 j))) (g5 : x'' 325 5 = jWv (gWn t j (gSn t T 97 122 j))) => h x'' (M2.tr g) (by unfold jTe; rw [if_neg (by omega), if_neg cd, if_pos cl]; exact g2) g4 (by unfold jTk; rw [if_neg (by omega), if_neg cd, if_pos cl]; exact g3) (fun q q' => by
              unfold jTv; rw [if_neg cd]; exact g5)
            have k89 : WPc (d - 1) 89 [zr 325] 403 [] y m 403 [] (fun _ x14 m15 => Q 0 x14 m15) := c89 (t := t) (T := T) (b := j) (by omega) hT2 f4 f2 (by omega) j1 rfl (fun x'' a1 a2 a3 a4 a5 => kD x'' a1 a2 a3 a4 a5)
            apply r87_c0
            simp only [e2, eT, et, ← hy]
            clear h ht kD hy
            repeat' (first | (with_reducible assumption) | (with_reducible rfl) | (with_reducible apply And.intro) | (with_reducible apply zIn_mk) | (with_reducible apply zLn_mk) | (simp only [f2, ft]) | ((with_reducible intro _); try (exfalso; omega)) | omega | (with_reducible exact Or.inr trivial) | (with_reducible exact Or.inl trivial) | ((refine c91 ?_ ?_)) | ((refine c92 ?_ ?_)) | ((exact k89)) | fail)
          · have kS := fun k (hk : k = if jSg (t j) then t j else 1) (z : zM) (hz : z = zupd (zupd y 325 3 k) 325 2 (j + 1)) => h z (by rw [hz]; exact (M2.u (by omega)).u (by omega)) (by rw [hz]; unfold jTe; rw [zu_eq, up_at rfl, if_neg (by omega), if_neg cd, if_neg cl]) (by rw [hz, zu_eq, up_ne (by omega), zu_eq, up_ne (by omega)]; exact f4) (by rw [hz]; unfold jTk; rw [zu_eq, up_ne (by omega), zu_eq, up_at rfl, if_neg (by omega), if_neg cd, if_neg cl]; exact hk) (fun q q' => by
              unfold jTk at q q'; rw [if_neg (by omega), if_neg cd, if_neg cl] at q q'
              exfalso
              by_cases cs : jSg (t j)
              · rw [if_pos cs] at q q'; unfold jSg at cs; omega
              · rw [if_neg cs] at q q'; omega)
            have k1 := fun (cs : jSg (t j)) => kS (t j) (by rw [if_pos cs]) _ rfl
            have k0 := fun (cs : ¬ jSg (t j)) => kS 1 (by rw [if_neg cs]) _ rfl
            apply r87_c0
            simp only [e2, eT, et, ← hy]
            clear h ht kS hy
            repeat' (first | (with_reducible assumption) | (with_reducible rfl) | (with_reducible apply And.intro) | (with_reducible apply zIn_mk) | (with_reducible apply zLn_mk) | (simp only [f2, ft]) | ((with_reducible intro _); try (exfalso; omega)) | omega | (with_reducible exact Or.inr trivial) | (with_reducible exact Or.inl trivial) | ((refine c91 ?_ ?_)) | ((refine c92 ?_ ?_)) | ((refine c93 ?_ ?_)) | ((exact k1 (by assumption))) | ((exact k0 (by assumption))) | fail)
    · have ej : j = b := by rw [← hs]; exact (gSn_n (by omega)).symm
      subst ej
      have k := h (zupd (zupd x' 325 4 j) 325 3 0) ((M1.u (by omega)).u (by omega)) (by unfold jTe; rw [zu_eq, up_ne (by omega), zu_eq, up_ne (by omega), if_pos (by omega)]; exact e2) (by rw [zu_eq, up_ne (by omega), zu_eq, up_at rfl]) (by unfold jTk; rw [zu_eq, up_at rfl, if_pos (by omega)]) (fun q => by unfold jTk at q; rw [if_pos (by omega)] at q; omega)
      apply r87_c0
      simp only [e2, eT]
      clear ih h hs ht
      repeat' (first | (with_reducible assumption) | (with_reducible rfl) | (with_reducible apply And.intro) | (with_reducible apply zIn_mk) | (with_reducible apply zLn_mk) | ((with_reducible intro _); try (exfalso; omega)) | omega | (with_reducible exact Or.inr trivial) | (with_reducible exact Or.inl trivial) | ((exact k)) | fail)
  apply r87
  exact loop a (by omega) a1 x (jF.rf x) ea hb

