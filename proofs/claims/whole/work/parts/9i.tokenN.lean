/-! THE MODEL READS A TOKEN: numbers, signs, all -/
theorem s221d {d : Nat} {t : Int → Int} {T b e : Int} {x m : zM} {Q : Int → zM → zM → Prop} (hd : 2 ≤ d) (hT : jTm m t T) (ea : m 386 12 = b) (ev : m 386 15 = 0) (b0 : 0 ≤ b) (b1 : b ≤ T) (he : gSn t T 48 57 b = e) (h : ∀ m', jG m m' → m' 386 12 = e → m' 386 13 = m 386 13 → m' 386 14 = (if e - b ≤ 5 then 1 else -1) → (e - b ≤ 5 → m' 386 15 = gNv t b (e - b)) → Q 0 x m') : WP d 221 109 [(0, zr 386), (2, zi 0)] [] 403 [] x m 403 [] Q := by
  have loop : ∀ j, b ≤ j → j ≤ T → ∀ y, jG m y → y 386 12 = j → y 386 13 = m 386 13 → jVb t b (y 386 15) (j - b) → gSn t T 48 57 j = e → WP d 221 109 [(0, zr 386), (2, zi (j - b))] [] 403 [] x y 403 [] Q := by
    refine zdownL b T _ ?_
    intro j j0 j1 ih y M1 y12 y13 yv hs
    obtain ⟨⟨T0, T1⟩, eT, ht, hw⟩ := jTm_f M1 hT
    have vb : (0 ≤ y 386 15 ∧ y 386 15 ≤ 99999) := yv.2.1
    apply r221_c109
    rw [y12, eT]
    by_cases c : j < T ∧ 48 ≤ t j ∧ t j ≤ 57
    · obtain ⟨et, t0, t1⟩ := ht j (by omega) c.1
      rw [gSn_y c.1 c.2.1 c.2.2] at hs
      have iA := fun (hh : 5 ≤ j - b) => ih c.1 (zupd (zupd y 386 15 0) 386 12 (j + 1)) ((M1.u (by omega)).u (by omega)) (by rw [zu_eq, up_at rfl]) (by rw [zu_eq, up_ne (by omega), zu_eq, up_ne (by omega)]; exact y13) (by rw [zu_eq, up_ne (by omega), zu_eq, up_at rfl]; unfold jVb; omega) hs
      have iB := fun (hh : j - b < 5) => ih c.1 (zupd (zupd y 386 15 (10 * y 386 15 + t j - 48)) 386 12 (j + 1)) ((M1.u (by omega)).u (by omega)) (by rw [zu_eq, up_at rfl]) (by rw [zu_eq, up_ne (by omega), zu_eq, up_ne (by omega)]; exact y13) (by
        rw [zu_eq, up_ne (by omega), zu_eq, up_at rfl, show j + 1 - b = j - b + 1 by omega, Int.mul_comm]
        exact jVb_s (by omega) hh (by rw [show b + (j - b) = j by omega]) c.2.1 c.2.2 yv) hs
      rw [show j + 1 - b = j - b + 1 by omega] at iA iB
      rw [et]
      refine ⟨fun hh => absurd hh (by omega), fun _ => ⟨by omega, by omega, s171 (fun _ _ => ?_) (fun hh => absurd hh (by omega))⟩⟩
      intro _
      refine ⟨fun hh => absurd hh (by decide), fun _ => ⟨fun hh => ?_, fun hh => ?_⟩⟩
      · rw [y12]; exact ⟨by unfold zIn; omega, by unfold zIn; omega, iA hh⟩
      · rw [y12, et]; exact ⟨by unfold zIn; omega, by omega, by unfold zIn; omega, by unfold zIn; omega, by unfold zIn; omega, by unfold zIn; omega, iB hh⟩
    · have ej : j = e := by rw [← hs]; exact (gSn_n (by omega)).symm
      have k1 := fun (hh : j - b ≤ 5) => h (zupd y 386 14 1) (M1.u (by omega)) (by rw [zu_eq, up_ne (by omega), y12]; exact ej) (by rw [zu_eq, up_ne (by omega)]; exact y13) (by rw [zu_eq, up_at rfl, if_pos (by omega)]) (fun _ => by rw [zu_eq, up_ne (by omega), ← ej]; exact yv.1 hh)
      have k0 := fun (hh : 5 < j - b) => h (zupd y 386 14 (-1)) (M1.u (by omega)) (by rw [zu_eq, up_ne (by omega), y12]; exact ej) (by rw [zu_eq, up_ne (by omega)]; exact y13) (by rw [zu_eq, up_at rfl, if_neg (by omega)]) (fun hh' => by omega)
      by_cases c1 : j < T
      · obtain ⟨et, t0, t1⟩ := ht j (by omega) c1
        rw [et]
        refine ⟨fun hh => absurd hh (by omega), fun _ => ⟨by omega, by omega, s171 (fun h1 h2 => absurd (And.intro c1 (And.intro h1 h2)) c) (fun _ => ?_)⟩⟩
        intro _
        exact ⟨fun _ => ⟨k1, k0⟩, fun hh => absurd rfl hh⟩
      · exact ⟨fun _ => ⟨k1, k0⟩, fun hh => absurd hh c1⟩
  have l0 := loop b (by omega) b1 m (jG.rf m) ea rfl (by rw [ev, Int.sub_self]; unfold jVb; exact ⟨fun _ => rfl, by omega, by omega, by omega, by omega, by omega, by omega⟩) he
  rw [Int.sub_self] at l0
  exact l0
theorem jMk_s {c : Int} (h : jSg c) : jMk c = c := by
  unfold jSg at h
  unfold jMk
  rw [if_neg (by omega), if_neg (by omega), if_neg (by omega), if_neg (by omega), if_neg (by omega), if_neg (by omega)]
theorem s221 {d : Nat} {t : Int → Int} {T a b : Int} {x m : zM} {Q : Int → zM → zM → Prop} (hd : 4 ≤ d) (hT : jTm m t T) (ea : m 386 12 = a) (a0 : 0 ≤ a) (a1 : a ≤ T) (hb : gSn t T 32 32 a = b) (h : ∀ m', jG m m' → m' 386 12 = jTe t T b → m' 386 13 = b → m' 386 14 = jMk (jTk t T b) → (2 ≤ jTk t T b → jTk t T b ≤ 4 → m' 386 15 = jTv t T b) → Q 0 x m') : WPc d 221 [zr 386] 403 [] x m 403 [] Q := by
  have loop : ∀ j, a ≤ j → j ≤ T → ∀ y, jG m y → y 386 12 = j → gSn t T 32 32 j = b → WP d 221 0 [(0, zr 386)] [] 403 [] x y 403 [] Q := by
    refine zdownL a T _ ?_
    intro j j0 j1 ih y' M1 y12' hs
    obtain ⟨⟨T0, T1⟩, eT, ht, hw⟩ := jTm_f M1 hT
    obtain ⟨y, hy⟩ : ∃ y, y = zupd (zupd (zupd y' 386 13 j) 386 14 0) 386 15 0 := ⟨_, rfl⟩
    have M2 : jG m y := by rw [hy]; exact ((M1.u (by omega)).u (by omega)).u (by omega)
    have y12 : y 386 12 = j := by rw [hy, zu_eq, up_ne (by omega), zu_eq, up_ne (by omega), zu_eq, up_ne (by omega)]; exact y12'
    have y13 : y 386 13 = j := by rw [hy, zu_eq, up_ne (by omega), zu_eq, up_ne (by omega), zu_eq, up_at rfl]
    have y14 : y 386 14 = 0 := by rw [hy, zu_eq, up_ne (by omega), zu_eq, up_at rfl]
    have y15 : y 386 15 = 0 := by rw [hy, zu_eq, up_at rfl]
    have hT2 := jTm_f M2 hT
    by_cases c : j < T
    · obtain ⟨et, t0, t1⟩ := ht j (by omega) c
      by_cases c32 : t j = 32
      · rw [gSn_y c (by omega) (by omega)] at hs
        have i1 := ih c (zupd y' 386 12 (j + 1)) (M1.u (by omega)) (by rw [zu_eq, up_at rfl]) hs
        apply r221_c0
        rw [y12', eT, et]
        refine ⟨fun hh => absurd hh (by omega), fun _ => ⟨by omega, fun hh => absurd c32 hh, fun _ => ⟨by unfold zIn; omega, i1⟩⟩⟩
      · have ej : j = b := by rw [← hs]; exact (gSn_n (by omega)).symm
        subst ej
        have k1 : jSg (t j) → Q 0 x (zupd (zupd y 386 14 (t j)) 386 12 (j + 1)) := fun cs => by
          by_cases n1 : 97 ≤ t j ∧ t j ≤ 122
          · unfold jSg at cs; omega
          · by_cases n2 : 48 ≤ t j ∧ t j ≤ 57
            · unfold jSg at cs; omega
            · refine h _ ((M2.u (by omega)).u (by omega)) ?_ ?_ ?_ (fun q q' => ?_)
              · rw [zu_eq, up_at rfl]; unfold jTe; rw [if_neg (by omega), if_neg (by omega), if_neg (by omega)]
              · rw [zu_eq, up_ne (by omega), zu_eq, up_ne (by omega)]; exact y13
              · rw [zu_eq, up_ne (by omega), zu_eq, up_at rfl]; unfold jTk; rw [if_neg (by omega), if_neg (by omega), if_neg (by omega), if_pos cs]; exact (jMk_s cs).symm
              · unfold jTk at q q'; rw [if_neg (by omega), if_neg (by omega), if_neg (by omega), if_pos cs] at q q'
                unfold jSg at cs; omega
        have k0 : ¬ (97 ≤ t j ∧ t j ≤ 122) → ¬ (48 ≤ t j ∧ t j ≤ 57) → ¬ jSg (t j) → Q 0 x (zupd (zupd y 386 14 (-1)) 386 12 (j + 1)) := fun n1 n2 cs => by
          refine h _ ((M2.u (by omega)).u (by omega)) ?_ ?_ ?_ (fun q q' => ?_)
          · rw [zu_eq, up_at rfl]; unfold jTe; rw [if_neg (by omega), if_neg (by omega), if_neg (by omega)]
          · rw [zu_eq, up_ne (by omega), zu_eq, up_ne (by omega)]; exact y13
          · rw [zu_eq, up_ne (by omega), zu_eq, up_at rfl]; unfold jTk; rw [if_neg (by omega), if_neg (by omega), if_neg (by omega), if_neg cs]; rfl
          · unfold jTk at q q'; rw [if_neg (by omega), if_neg (by omega), if_neg (by omega), if_neg cs] at q q'
            omega
        apply r221_c0
        simp only [y12', eT, et, ← hy]
        refine ⟨fun hh => absurd hh (by omega), fun _ => ⟨by omega, fun _ => ⟨fun _ => ⟨by omega, by omega, ?_⟩, fun hh => absurd hh (by omega)⟩, fun hh => absurd hh c32⟩⟩
        refine s171 (fun h1 h2 => ?_) (fun hn => ?_)
        · intro _
          refine ⟨fun hh => absurd hh (by decide), fun _ => ⟨by omega, ?_⟩⟩
          refine s220 (t := t) (T := T) (b := j) (by omega) hT2 y12 (by omega) j1 rfl ?_
          intro m' g g12 g13 g14 g15
          refine h m' (M2.tr g) ?_ (g13.trans y13) ?_ (fun q q' => ?_)
          · unfold jTe; rw [if_neg (by omega), if_neg (by omega), if_pos (by omega)]; exact g12
          · unfold jTk; rw [if_neg (by omega), if_neg (by omega), if_pos (by omega)]; exact g14
          · unfold jTk at q q'; rw [if_neg (by omega), if_neg (by omega), if_pos (by omega)] at q q'
            unfold jTv; rw [if_neg (by omega)]; exact g15 q q'
        · intro _
          refine ⟨fun _ => ⟨by omega, ?_⟩, fun hh => absurd rfl hh⟩
          refine s171 (fun h1 h2 => ?_) (fun hn2 => ?_)
          · intro _
            refine ⟨fun hh => absurd hh (by decide), fun _ => ?_⟩
            refine s221d (t := t) (T := T) (b := j) (by omega) hT2 y12 y15 (by omega) j1 rfl ?_
            intro m' g g12 g13 g14 g15
            refine h m' (M2.tr g) ?_ (g13.trans y13) ?_ (fun q q' => ?_)
            · unfold jTe; rw [if_neg (by omega), if_pos (by omega)]; exact g12
            · unfold jTk; rw [if_neg (by omega), if_pos (by omega)]
              by_cases q5 : gSn t T 48 57 j - j ≤ 5
              · rw [if_pos q5] at g14 ⊢; exact g14
              · rw [if_neg q5] at g14 ⊢; exact g14
            · unfold jTk at q; rw [if_neg (by omega), if_pos (by omega)] at q
              unfold jTv; rw [if_pos (by omega)]
              refine g15 ?_
              by_cases q5 : gSn t T 48 57 j - j ≤ 5
              · exact q5
              · rw [if_neg q5] at q; omega
          · intro _
            refine ⟨fun _ => ?_, fun hh => absurd rfl hh⟩
            have k0' := k0 (by omega) (by omega)
            simp only [y12]
            have zi1 : zIn (j + 1) := by unfold zIn; omega
            unfold jSg at k1 k0'
            obtain ⟨Y, hY⟩ : ∃ Y : Prop, Y = Q 0 x (zupd (zupd y 386 14 (t j)) 386 12 (j + 1)) := ⟨_, rfl⟩
            obtain ⟨Z, hZ⟩ : ∃ Z : Prop, Z = Q 0 x (zupd (zupd y 386 14 (-1)) 386 12 (j + 1)) := ⟨_, rfl⟩
            rw [← hY] at k1
            rw [← hZ] at k0'
            simp only [← hY, ← hZ]
            clear hY hZ k0 h ih hs ht hw M1 M2 hT hT2 hy y12' y12 y13 y14 y15 et eT
            repeat' (first | (with_reducible assumption) | (with_reducible rfl) | (with_reducible apply And.intro) | (with_reducible apply zIn_mk) | (with_reducible apply zLn_mk) | ((with_reducible intro _); try (exfalso; omega)) | omega | (with_reducible exact Or.inr trivial) | (with_reducible exact Or.inl trivial) | ((exact k1 (by omega))) | ((exact k0' (by omega))) | fail)
    · have ej : j = b := by rw [← hs]; exact (gSn_n (by omega)).symm
      have eTj : j = T := by omega
      have k : Q 0 x y := h y M2 (by unfold jTe; rw [if_pos (by omega), y12]; exact ej) (y13.trans ej) (by unfold jTk; rw [if_pos (by omega)]; exact y14) (fun q => by unfold jTk at q; rw [if_pos (by omega)] at q; omega)
      apply r221_c0
      simp only [y12', eT, ← hy]
      exact ⟨fun _ => ⟨fun hh => absurd eTj hh, fun _ => k⟩, fun hh => absurd hh c⟩
  apply r221
  exact loop a (by omega) a1 m (jG.rf m) ea hb

