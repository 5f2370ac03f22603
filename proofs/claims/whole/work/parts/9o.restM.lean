/-! THE MODEL READS THE REST -/
theorem jFl_o {A op op' b o o' : Int} {m : zM} (h : o ≤ o') (h' : op' ≤ op) (hF : jFl A m op b o) : jFl A m op' b o' := ⟨hF.1, hF.2.1, ⟨Int.le_trans h' hF.2.2.1.1, hF.2.2.1.2⟩, ⟨hF.2.2.2.1.1, Int.le_trans hF.2.2.2.1.2 h⟩, hF.2.2.2.2⟩
theorem jm_n0 {ok : Int} {t : Int → Int} {T A op b o b1 o1 b2 o2 : Int} {c c1 c2 : Int → Int} (h0 : jTk t T b ≠ 8) (g0 : jB t T A 3 op b o c ok b1 o1 c1) : jMo t T A 2 op b o c ok b1 o1 c1 := fun m x Q d hd hC ob _ K => g0.2 m x Q d (by omega) hC ob (fun _ => h0) K
theorem jm_n1 {t : Int → Int} {T A op b o b1 o1 b2 o2 : Int} {c c1 c2 : Int → Int} (h0 : jTk t T b = 8) (h6 : 6 ≤ op) : jMo t T A 2 op b o c 0 b o c := by
  intro m x Q d hd hC ob _ K
  obtain ⟨hT, ⟨b0, b1'⟩, ⟨e2, e3, e4⟩, e5, ⟨e7, o0, o1'⟩, hc, ⟨e6, p0, p1⟩, ⟨e8, A0, A1⟩, e9⟩ := id hC
  have T1 := hT.1
  have nx := jNx_bd (t := t) b1'
  have mi := jMk_i (jTk_v t T b)
  have tv := jTk_v t T b
  show WPc d 226 [zr 386] 403 [] x m 403 [] Q
  apply r226
  rw [e9, e4]
  refine ⟨fun _ => ⟨fun hh => absurd (mi.1.mpr h0) hh, fun _ => ⟨by omega, ?_⟩⟩, fun hh => absurd rfl hh⟩
  refine s223s (by omega) hC (fun hh => absurd hh (by omega)) (fun _ m1 l1 F => ?_)
  intro _
  exact ⟨fun _ => K m1 l1 (fun e => absurd e (by decide)) (fun _ => jFl_w (by omega) F), fun hh => absurd rfl hh⟩
theorem jm_n2 {t : Int → Int} {T A op b o b1 o1 b2 o2 : Int} {c c1 c2 : Int → Int} (h0 : jTk t T b = 8) (h6 : op < 6) (g0 : jB t T A 2 (op + 1) (jNx t T b) o c 1 b1 o1 c1) : jMo t T A 2 op b o c 1 b1 (o1 + 1) (up c1 o1 22) := by
  intro m x Q d hd hC ob _ K
  obtain ⟨hT, ⟨b0, b1'⟩, ⟨e2, e3, e4⟩, e5, ⟨e7, o0, o1'⟩, hc, ⟨e6, p0, p1⟩, ⟨e8, A0, A1⟩, e9⟩ := id hC
  have T1 := hT.1
  have nx := jNx_bd (t := t) b1'
  have mi := jMk_i (jTk_v t T b)
  have tv := jTk_v t T b
  have bT : b < T := jTk_e (t := t) (by omega)
  have rb := jR_bd g0.1 nx.2.1
  show WPc d 226 [zr 386] 403 [] x m 403 [] Q
  apply r226
  rw [e9, e4]
  refine ⟨fun _ => ⟨fun hh => absurd (mi.1.mpr h0) hh, fun _ => ⟨by omega, ?_⟩⟩, fun hh => absurd rfl hh⟩
  refine s223s (by omega) hC (fun _ m1 l1 C1 => ?_) (fun hh => absurd hh (by omega))
  intro _
  refine ⟨fun hh => absurd hh (by decide), fun _ => ⟨by omega, ?_⟩⟩
  refine g0.2 m1 x _ (d - 1) (by omega) C1 (by omega) (by omega) ?_
  intro m2 l2 k1 k0
  refine ⟨by omega, ?_⟩
  refine s222s (k := 22) (k1 rfl) (by omega) (fun m3 l3 C3 => ?_)
  have q16 : m3 386 16 = op + 1 := C3.2.2.2.2.2.2.1.1
  rw [q16]
  exact ⟨by unfold zIn; omega, K _ ((l1.tr (l2.tr l3)).u (by omega)) (fun _ => by have := jM_d C3 (by omega); rwa [show op + 1 - 1 = op by omega] at this ⊢) (fun e => absurd e (by decide))⟩
theorem jm_n3 {t : Int → Int} {T A op b o b1 o1 b2 o2 : Int} {c c1 c2 : Int → Int} (h0 : jTk t T b = 8) (h6 : op < 6) (g0 : jB t T A 2 (op + 1) (jNx t T b) o c 0 b1 o1 c1) : jMo t T A 2 op b o c 0 b1 o1 c1 := by
  intro m x Q d hd hC ob _ K
  obtain ⟨hT, ⟨b0, b1'⟩, ⟨e2, e3, e4⟩, e5, ⟨e7, o0, o1'⟩, hc, ⟨e6, p0, p1⟩, ⟨e8, A0, A1⟩, e9⟩ := id hC
  have T1 := hT.1
  have nx := jNx_bd (t := t) b1'
  have mi := jMk_i (jTk_v t T b)
  have tv := jTk_v t T b
  have bT : b < T := jTk_e (t := t) (by omega)
  have rb := jR_bd g0.1 nx.2.1
  show WPc d 226 [zr 386] 403 [] x m 403 [] Q
  apply r226
  rw [e9, e4]
  refine ⟨fun _ => ⟨fun hh => absurd (mi.1.mpr h0) hh, fun _ => ⟨by omega, ?_⟩⟩, fun hh => absurd rfl hh⟩
  refine s223s (by omega) hC (fun _ m1 l1 C1 => ?_) (fun hh => absurd hh (by omega))
  intro _
  refine ⟨fun hh => absurd hh (by decide), fun _ => ⟨by omega, ?_⟩⟩
  refine g0.2 m1 x _ (d - 1) (by omega) C1 (by omega) (by omega) ?_
  intro m2 l2 k1 k0
  refine ⟨by omega, ?_⟩
  refine s222f (k := 22) (k0 rfl) A0 A1 (by omega) (fun m3 l3 F3 => ?_)
  have q16 := F3.2.2.1
  exact ⟨by unfold zIn; omega, K _ ((l1.tr (l2.tr l3)).u (by omega)) (fun e => absurd e (by decide)) (fun _ => jFl_w (by omega) (jFl_d F3))⟩
theorem jm_e0 {t : Int → Int} {T A op b o b1 o1 b2 o2 : Int} {c c1 c2 : Int → Int} (g0 : jB t T A 4 op b o c 0 b1 o1 c1) : jMo t T A 3 op b o c 0 b1 o1 c1 := by
  intro m x Q d hd hC ob h8 K
  obtain ⟨hT, ⟨b0, b1'⟩, ⟨e2, e3, e4⟩, e5, ⟨e7, o0, o1'⟩, hc, ⟨e6, p0, p1⟩, ⟨e8, A0, A1⟩, e9⟩ := id hC
  have T1 := hT.1
  have nx := jNx_bd (t := t) b1'
  have mi := jMk_i (jTk_v t T b)
  have tv := jTk_v t T b
  have n7 : jMk (jTk t T b) ≠ 7 := fun hh => h8 rfl (mi.1.mp hh)
  show WPc d 226 [zr 386] 403 [] x m 403 [] Q
  apply r226
  rw [e9, e4]
  refine ⟨fun _ => ⟨fun _ => ⟨by omega, ?_⟩, fun hh => absurd hh n7⟩, fun hh => absurd rfl hh⟩
  refine g0.2 m x _ (d - 1) (by omega) hC ob (by omega) ?_
  intro m1 l1 k1 k0
  have F := k0 rfl
  have f19 := F.2.1
  rw [f19]
  exact ⟨fun _ => K m1 l1 (fun e => absurd e (by decide)) (fun _ => F), fun hh => absurd hh (by decide)⟩
theorem jm_e1 {t : Int → Int} {T A op b o b1 o1 b2 o2 : Int} {c c1 c2 : Int → Int} (h1 : jOp 3 (jTk t T b1) = 0) (g0 : jB t T A 4 op b o c 1 b1 o1 c1) : jMo t T A 3 op b o c 1 b1 o1 c1 := by
  intro m x Q d hd hC ob h8 K
  obtain ⟨hT, ⟨b0, b1'⟩, ⟨e2, e3, e4⟩, e5, ⟨e7, o0, o1'⟩, hc, ⟨e6, p0, p1⟩, ⟨e8, A0, A1⟩, e9⟩ := id hC
  have T1 := hT.1
  have nx := jNx_bd (t := t) b1'
  have mi := jMk_i (jTk_v t T b)
  have tv := jTk_v t T b
  have n7 : jMk (jTk t T b) ≠ 7 := fun hh => h8 rfl (mi.1.mp hh)
  have rb := jR_bd g0.1 b1'
  show WPc d 226 [zr 386] 403 [] x m 403 [] Q
  apply r226
  rw [e9, e4]
  refine ⟨fun _ => ⟨fun _ => ⟨by omega, ?_⟩, fun hh => absurd hh n7⟩, fun hh => absurd rfl hh⟩
  refine g0.2 m x _ (d - 1) (by omega) hC ob (by omega) ?_
  intro m1 l1 k1 _
  have C1 := k1 rfl
  obtain ⟨_, ⟨d0, d1⟩, ⟨_, f3, f4⟩, _, ⟨_, q0, q1⟩, _, _, _, f9⟩ := id C1
  have mi1 := jMk_i (jTk_v t T b1)
  have tv1 := jTk_v t T b1
  have nx1 := jNx_bd (t := t) d1
  have q := K m1 l1 (fun _ => C1) (fun e => absurd e (by decide))
  have n61 : jTk t T b1 ≠ 61 := fun hh => by rw [hh] at h1; exact absurd h1 (by decide)
  have n60 : jTk t T b1 ≠ 60 := fun hh => by rw [hh] at h1; exact absurd h1 (by decide)
  have n62 : jTk t T b1 ≠ 62 := fun hh => by rw [hh] at h1; exact absurd h1 (by decide)
  simp only [f9, f4]
  generalize jTk t T b1 = kk at *
  generalize jMk kk = mk at *
  clear K hC hT hc e5 C1 k1 g0
  repeat' (first | (with_reducible assumption) | (with_reducible rfl) | (with_reducible apply And.intro) | (with_reducible apply zIn_mk) | (with_reducible apply zLn_mk) | ((with_reducible intro _); try (exfalso; omega)) | omega | (with_reducible exact Or.inr trivial) | (with_reducible exact Or.inl trivial) | ((exact q)) | fail)
theorem jm_e2 {t : Int → Int} {T A op b o b1 o1 b2 o2 : Int} {c c1 c2 : Int → Int} (h1 : jOp 3 (jTk t T b1) ≠ 0) (g0 : jB t T A 4 op b o c 1 b1 o1 c1) (g1 : jB t T A 4 op (jNx t T b1) o1 c1 1 b2 o2 c2) : jMo t T A 3 op b o c 1 b2 (o2 + 1) (up c2 o2 (jOp 3 (jTk t T b1))) := by
  intro m x Q d hd hC ob h8 K
  obtain ⟨hT, ⟨b0, b1'⟩, ⟨e2, e3, e4⟩, e5, ⟨e7, o0, o1'⟩, hc, ⟨e6, p0, p1⟩, ⟨e8, A0, A1⟩, e9⟩ := id hC
  have T1 := hT.1
  have nx := jNx_bd (t := t) b1'
  have mi := jMk_i (jTk_v t T b)
  have tv := jTk_v t T b
  have n7 : jMk (jTk t T b) ≠ 7 := fun hh => h8 rfl (mi.1.mp hh)
  have rb := jR_bd g0.1 b1'
  show WPc d 226 [zr 386] 403 [] x m 403 [] Q
  apply r226
  rw [e9, e4]
  refine ⟨fun _ => ⟨fun _ => ⟨by omega, ?_⟩, fun hh => absurd hh n7⟩, fun hh => absurd rfl hh⟩
  refine g0.2 m x _ (d - 1) (by omega) hC ob (by omega) ?_
  intro m1 l1 k1 _
  have C1 := k1 rfl
  obtain ⟨_, ⟨d0, d1⟩, ⟨_, f3, f4⟩, _, ⟨_, q0, q1⟩, _, _, _, f9⟩ := id C1
  have mi1 := jMk_i (jTk_v t T b1)
  have tv1 := jTk_v t T b1
  have nx1 := jNx_bd (t := t) d1
  have bT : b1 < T := jTk_e (by
    rcases jOp_bd 3 (jTk t T b1) with e | e
    · exact absurd e h1
    · exact e.2)
  have rb1 := jR_bd g1.1 nx1.2.1
  have g221 : ∀ {R : Int → zM → zM → Prop}, (∀ m', jL A m m' → jM t T A m' op (jNx t T b1) o1 c1 → R 0 x m') → WPc (d - 1) 221 [zr 386] 403 [] x m1 403 [] R := fun h => s221s (t := t) (T := T) (A := A) (op := op) (b := b1) (o := o1) (c := c1) (by omega) C1 (fun m' l' C' => h m' (l1.tr l') C')
  have gs : ∀ m1, jL A m m1 → jM t T A m1 op (jNx t T b1) o1 c1 → ∀ {R : Int → zM → zM → Prop}, (∀ m2, jL A m m2 → jM t T A m2 op b2 o2 c2 → R 0 x m2) → WPc (d - 1) 227 [zr 386] 403 [] x m1 403 [] R := fun m1 l1 C1 {R} h => g1.2 m1 x R (d - 1) (by omega) C1 (by omega) (by omega) (fun m2 l2 k1 _ => h m2 (l1.tr l2) (k1 rfl))
  have gp : ∀ k m2, jL A m m2 → jM t T A m2 op b2 o2 c2 → ∀ {R : Int → zM → zM → Prop}, (∀ m3, jL A m m3 → jM t T A m3 op b2 (o2 + 1) (up c2 o2 k) → R 0 x m3) → WPc (d - 1) 222 [zr 386, zi k] 403 [] x m2 403 [] R := fun k m2 l2 C2 {R} h => s222s (k := k) C2 (by omega) (fun m3 l3 C3 => h m3 (l2.tr l3) C3)
  have gl : ∀ m3, jL A m m3 → jM t T A m3 op b2 (o2 + 1) (up c2 o2 (jOp 3 (jTk t T b1))) → Q 0 x m3 := fun m3 l3 C3 => K m3 l3 (fun _ => C3) (fun e => absurd e (by decide))
  simp only [f9, f4]
  obtain ⟨kk, hkk⟩ : ∃ kk, kk = jTk t T b1 := ⟨_, rfl⟩
  rw [← hkk] at mi1 tv1 h1 ⊢
  rw [← hkk] at gl
  obtain ⟨mk, hmk⟩ : ∃ mk, mk = jMk kk := ⟨_, rfl⟩
  rw [← hmk] at mi1 ⊢
  clear K hC hT hc e5 g0 g1 C1 k1 l1
  by_cases k61 : kk = 61
  · have ho : jOp 3 kk = 23 := by rw [k61]; rfl
    rw [ho] at gl
    have g2 := @gp 23
    clear gp hkk hmk e4 f4 ho h1 mi n7
    repeat' (first | (with_reducible assumption) | (with_reducible rfl) | (with_reducible apply And.intro) | (with_reducible apply zIn_mk) | (with_reducible apply zLn_mk) | ((with_reducible intro _); try (exfalso; omega)) | omega | (with_reducible exact Or.inr trivial) | (with_reducible exact Or.inl trivial) | ((refine g221 ?_)) | ((refine gs _ (by assumption) (by assumption) ?_)) | ((refine g2 _ (by assumption) (by assumption) ?_)) | ((exact gl _ (by assumption) (by assumption))) | fail)
  · skip
    by_cases k60 : kk = 60
    · have ho : jOp 3 kk = 24 := by rw [k60]; rfl
      rw [ho] at gl
      have g2 := @gp 24
      clear gp hkk hmk e4 f4 ho h1 mi n7
      repeat' (first | (with_reducible assumption) | (with_reducible rfl) | (with_reducible apply And.intro) | (with_reducible apply zIn_mk) | (with_reducible apply zLn_mk) | ((with_reducible intro _); try (exfalso; omega)) | omega | (with_reducible exact Or.inr trivial) | (with_reducible exact Or.inl trivial) | ((refine g221 ?_)) | ((refine gs _ (by assumption) (by assumption) ?_)) | ((refine g2 _ (by assumption) (by assumption) ?_)) | ((exact gl _ (by assumption) (by assumption))) | fail)
    · skip
      by_cases k62 : kk = 62
      · have ho : jOp 3 kk = 25 := by rw [k62]; rfl
        rw [ho] at gl
        have g2 := @gp 25
        clear gp hkk hmk e4 f4 ho h1 mi n7
        repeat' (first | (with_reducible assumption) | (with_reducible rfl) | (with_reducible apply And.intro) | (with_reducible apply zIn_mk) | (with_reducible apply zLn_mk) | ((with_reducible intro _); try (exfalso; omega)) | omega | (with_reducible exact Or.inr trivial) | (with_reducible exact Or.inl trivial) | ((refine g221 ?_)) | ((refine gs _ (by assumption) (by assumption) ?_)) | ((refine g2 _ (by assumption) (by assumption) ?_)) | ((exact gl _ (by assumption) (by assumption))) | fail)
      · skip
        exfalso
        apply h1
        unfold jOp
        (repeat' split) <;> omega
theorem jm_e3 {t : Int → Int} {T A op b o b1 o1 b2 o2 : Int} {c c1 c2 : Int → Int} (h1 : jOp 3 (jTk t T b1) ≠ 0) (g0 : jB t T A 4 op b o c 1 b1 o1 c1) (g1 : jB t T A 4 op (jNx t T b1) o1 c1 0 b2 o2 c2) : jMo t T A 3 op b o c 0 b2 o2 c2 := by
  intro m x Q d hd hC ob h8 K
  obtain ⟨hT, ⟨b0, b1'⟩, ⟨e2, e3, e4⟩, e5, ⟨e7, o0, o1'⟩, hc, ⟨e6, p0, p1⟩, ⟨e8, A0, A1⟩, e9⟩ := id hC
  have T1 := hT.1
  have nx := jNx_bd (t := t) b1'
  have mi := jMk_i (jTk_v t T b)
  have tv := jTk_v t T b
  have n7 : jMk (jTk t T b) ≠ 7 := fun hh => h8 rfl (mi.1.mp hh)
  have rb := jR_bd g0.1 b1'
  show WPc d 226 [zr 386] 403 [] x m 403 [] Q
  apply r226
  rw [e9, e4]
  refine ⟨fun _ => ⟨fun _ => ⟨by omega, ?_⟩, fun hh => absurd hh n7⟩, fun hh => absurd rfl hh⟩
  refine g0.2 m x _ (d - 1) (by omega) hC ob (by omega) ?_
  intro m1 l1 k1 _
  have C1 := k1 rfl
  obtain ⟨_, ⟨d0, d1⟩, ⟨_, f3, f4⟩, _, ⟨_, q0, q1⟩, _, _, _, f9⟩ := id C1
  have mi1 := jMk_i (jTk_v t T b1)
  have tv1 := jTk_v t T b1
  have nx1 := jNx_bd (t := t) d1
  have bT : b1 < T := jTk_e (by
    rcases jOp_bd 3 (jTk t T b1) with e | e
    · exact absurd e h1
    · exact e.2)
  have rb1 := jR_bd g1.1 nx1.2.1
  have g221 : ∀ {R : Int → zM → zM → Prop}, (∀ m', jL A m m' → jM t T A m' op (jNx t T b1) o1 c1 → R 0 x m') → WPc (d - 1) 221 [zr 386] 403 [] x m1 403 [] R := fun h => s221s (t := t) (T := T) (A := A) (op := op) (b := b1) (o := o1) (c := c1) (by omega) C1 (fun m' l' C' => h m' (l1.tr l') C')
  have gs : ∀ m1, jL A m m1 → jM t T A m1 op (jNx t T b1) o1 c1 → ∀ {R : Int → zM → zM → Prop}, (∀ m2, jL A m m2 → jFl A m2 op b2 (o1 + (b2 - jNx t T b1)) → R 0 x m2) → WPc (d - 1) 227 [zr 386] 403 [] x m1 403 [] R := fun m1 l1 C1 {R} h => g1.2 m1 x R (d - 1) (by omega) C1 (by omega) (by omega) (fun m2 l2 _ k0 => h m2 (l1.tr l2) (k0 rfl))
  have gp : ∀ k m2, jL A m m2 → jFl A m2 op b2 (o1 + (b2 - jNx t T b1)) → ∀ {R : Int → zM → zM → Prop}, (∀ m3, jL A m m3 → jFl A m3 op b2 (o1 + (b2 - jNx t T b1) + 1) → R 0 x m3) → WPc (d - 1) 222 [zr 386, zi k] 403 [] x m2 403 [] R := fun k m2 l2 C2 {R} h => s222f (k := k) C2 A0 A1 (by omega) (fun m3 l3 C3 => h m3 (l2.tr l3) C3)
  have gl : ∀ m3, jL A m m3 → jFl A m3 op b2 (o1 + (b2 - jNx t T b1) + 1) → Q 0 x m3 := fun m3 l3 F3 => K m3 l3 (fun e => absurd e (by decide)) (fun _ => jFl_w (by omega) F3)
  simp only [f9, f4]
  obtain ⟨kk, hkk⟩ : ∃ kk, kk = jTk t T b1 := ⟨_, rfl⟩
  rw [← hkk] at mi1 tv1 h1 ⊢
  obtain ⟨mk, hmk⟩ : ∃ mk, mk = jMk kk := ⟨_, rfl⟩
  rw [← hmk] at mi1 ⊢
  clear K hC hT hc e5 g0 g1 C1 k1 l1
  by_cases k61 : kk = 61
  · have ho : jOp 3 kk = 23 := by rw [k61]; rfl
    have g2 := @gp 23
    clear gp hkk hmk e4 f4 ho h1 mi n7
    repeat' (first | (with_reducible assumption) | (with_reducible rfl) | (with_reducible apply And.intro) | (with_reducible apply zIn_mk) | (with_reducible apply zLn_mk) | ((with_reducible intro _); try (exfalso; omega)) | omega | (with_reducible exact Or.inr trivial) | (with_reducible exact Or.inl trivial) | ((refine g221 ?_)) | ((refine gs _ (by assumption) (by assumption) ?_)) | ((refine g2 _ (by assumption) (by assumption) ?_)) | ((exact gl _ (by assumption) (by assumption))) | fail)
  · skip
    by_cases k60 : kk = 60
    · have ho : jOp 3 kk = 24 := by rw [k60]; rfl
      have g2 := @gp 24
      clear gp hkk hmk e4 f4 ho h1 mi n7
      repeat' (first | (with_reducible assumption) | (with_reducible rfl) | (with_reducible apply And.intro) | (with_reducible apply zIn_mk) | (with_reducible apply zLn_mk) | ((with_reducible intro _); try (exfalso; omega)) | omega | (with_reducible exact Or.inr trivial) | (with_reducible exact Or.inl trivial) | ((refine g221 ?_)) | ((refine gs _ (by assumption) (by assumption) ?_)) | ((refine g2 _ (by assumption) (by assumption) ?_)) | ((exact gl _ (by assumption) (by assumption))) | fail)
    · skip
      by_cases k62 : kk = 62
      · have ho : jOp 3 kk = 25 := by rw [k62]; rfl
        have g2 := @gp 25
        clear gp hkk hmk e4 f4 ho h1 mi n7
        repeat' (first | (with_reducible assumption) | (with_reducible rfl) | (with_reducible apply And.intro) | (with_reducible apply zIn_mk) | (with_reducible apply zLn_mk) | ((with_reducible intro _); try (exfalso; omega)) | omega | (with_reducible exact Or.inr trivial) | (with_reducible exact Or.inl trivial) | ((refine g221 ?_)) | ((refine gs _ (by assumption) (by assumption) ?_)) | ((refine g2 _ (by assumption) (by assumption) ?_)) | ((exact gl _ (by assumption) (by assumption))) | fail)
      · skip
        exfalso
        apply h1
        unfold jOp
        (repeat' split) <;> omega
theorem jm_s1 {t : Int → Int} {T A op b o b1 o1 b2 o2 : Int} {c c1 c2 : Int → Int} (h0 : jTk t T b = 2) : jMo t T A 6 op b o c 1 (jNx t T b) (o + 1) (up c o (100 + jTv t T b)) := by
  intro m x Q d hd hC ob _ K
  obtain ⟨hT, ⟨b0, b1'⟩, ⟨e2, e3, e4⟩, e5, ⟨e7, o0, o1'⟩, hc, ⟨e6, p0, p1⟩, ⟨e8, A0, A1⟩, e9⟩ := id hC
  have T1 := hT.1
  have nx := jNx_bd (t := t) b1'
  have mi := jMk_i (jTk_v t T b)
  have tv := jTk_v t T b
  have bT : b < T := jTk_e (t := t) (by omega)
  have v5 := e5 (by omega) (by omega)
  have vb := jTv_2 b1' h0
  have main : 1 ≤ d ∧ WPc (d - 1) 222 [zr 386, zi (100 + jTv t T b)] 403 [] x m 403 [] (fun _ x2 m3 => 1 ≤ d ∧ WPc (d - 1) 221 [zr 386] 403 [] x2 m3 403 [] (fun _ x5 m6 => Q 0 x5 m6)) := by
    refine ⟨by omega, ?_⟩
    refine s222s (k := (100 + jTv t T b)) hC (by omega) (fun m3 l3 C3 => ⟨by omega, ?_⟩)
    refine s221s (by omega) C3 (fun m4 l4 C4 => ?_)
    exact K m4 (l3.tr l4) (fun _ => C4) (fun e => absurd e (by decide))
  have z1 : zIn (100 + jTv t T b) := by unfold zIn; omega
  have hm : jMk (jTk t T b) = 1 := by rw [h0]; rfl
  show WPc d 229 [zr 386] 403 [] x m 403 [] Q
  apply r229
  rw [e9, e4, v5, hm]
  clear K hC hT hc e5
  repeat' (first | (with_reducible assumption) | (with_reducible rfl) | (with_reducible apply And.intro) | (with_reducible apply zIn_mk) | (with_reducible apply zLn_mk) | ((with_reducible intro _); try (exfalso; omega)) | omega | (with_reducible exact Or.inr trivial) | (with_reducible exact Or.inl trivial) | ((exact main.2)) | fail)
theorem jm_s2 {t : Int → Int} {T A op b o b1 o1 b2 o2 : Int} {c c1 c2 : Int → Int} (h0 : jTk t T b = 4) : jMo t T A 6 op b o c 1 (jNx t T b) (o + 1) (up c o (jTv t T b)) := by
  intro m x Q d hd hC ob _ K
  obtain ⟨hT, ⟨b0, b1'⟩, ⟨e2, e3, e4⟩, e5, ⟨e7, o0, o1'⟩, hc, ⟨e6, p0, p1⟩, ⟨e8, A0, A1⟩, e9⟩ := id hC
  have T1 := hT.1
  have nx := jNx_bd (t := t) b1'
  have mi := jMk_i (jTk_v t T b)
  have tv := jTk_v t T b
  have bT : b < T := jTk_e (t := t) (by omega)
  have v5 := e5 (by omega) (by omega)
  have vb := jTv_4 h0
  have main : 1 ≤ d ∧ WPc (d - 1) 222 [zr 386, zi (jTv t T b)] 403 [] x m 403 [] (fun _ x2 m3 => 1 ≤ d ∧ WPc (d - 1) 221 [zr 386] 403 [] x2 m3 403 [] (fun _ x5 m6 => Q 0 x5 m6)) := by
    refine ⟨by omega, ?_⟩
    refine s222s (k := (jTv t T b)) hC (by omega) (fun m3 l3 C3 => ⟨by omega, ?_⟩)
    refine s221s (by omega) C3 (fun m4 l4 C4 => ?_)
    exact K m4 (l3.tr l4) (fun _ => C4) (fun e => absurd e (by decide))
  have z1 : zIn (100 + jTv t T b) := by unfold zIn; omega
  have hm : jMk (jTk t T b) = 2 := by rw [h0]; rfl
  show WPc d 229 [zr 386] 403 [] x m 403 [] Q
  apply r229
  rw [e9, e4, v5, hm]
  clear K hC hT hc e5
  repeat' (first | (with_reducible assumption) | (with_reducible rfl) | (with_reducible apply And.intro) | (with_reducible apply zIn_mk) | (with_reducible apply zLn_mk) | ((with_reducible intro _); try (exfalso; omega)) | omega | (with_reducible exact Or.inr trivial) | (with_reducible exact Or.inl trivial) | ((exact main.2)) | fail)
theorem jm_s3 {t : Int → Int} {T A op b o b1 o1 b2 o2 : Int} {c c1 c2 : Int → Int} (h0 : jTk t T b = 45) (h6 : op < 6) (g0 : jB t T A 6 (op + 1) (jNx t T b) o c 1 b1 o1 c1) : jMo t T A 6 op b o c 1 b1 (o1 + 1) (up c1 o1 31) := by
  intro m x Q d hd hC ob _ K
  obtain ⟨hT, ⟨b0, b1'⟩, ⟨e2, e3, e4⟩, e5, ⟨e7, o0, o1'⟩, hc, ⟨e6, p0, p1⟩, ⟨e8, A0, A1⟩, e9⟩ := id hC
  have T1 := hT.1
  have nx := jNx_bd (t := t) b1'
  have mi := jMk_i (jTk_v t T b)
  have tv := jTk_v t T b
  have bT : b < T := jTk_e (t := t) (by omega)
  have rb := jR_bd g0.1 nx.2.1
  have hm : jMk (jTk t T b) = 45 := by rw [h0]; rfl
  show WPc d 229 [zr 386] 403 [] x m 403 [] Q
  apply r229
  rw [e9, e4, hm]
  refine ⟨fun _ => ⟨fun hh => absurd hh (by decide), fun _ => ⟨fun _ => ⟨fun hh => absurd rfl hh, fun _ => ⟨by omega, ?_⟩⟩, fun hh => absurd hh (by decide)⟩⟩, fun hh => absurd rfl hh⟩
  refine s223s (by omega) hC (fun _ m1 l1 C1 => ?_) (fun hh => absurd hh (by omega))
  intro _
  refine ⟨fun hh => absurd hh (by decide), fun _ => ⟨by omega, ?_⟩⟩
  refine g0.2 m1 x _ (d - 1) (by omega) C1 (by omega) (by omega) ?_
  intro m2 l2 k1 k0
  refine ⟨by omega, ?_⟩
  refine s222s (k := 31) (k1 rfl) (by omega) (fun m3 l3 C3 => ?_)
  have q16 : m3 386 16 = op + 1 := C3.2.2.2.2.2.2.1.1
  rw [q16]
  exact ⟨by unfold zIn; omega, K _ ((l1.tr (l2.tr l3)).u (by omega)) (fun _ => by have := jM_d C3 (by omega); rwa [show op + 1 - 1 = op by omega] at this ⊢) (fun e => absurd e (by decide))⟩
theorem jm_s4 {t : Int → Int} {T A op b o b1 o1 b2 o2 : Int} {c c1 c2 : Int → Int} (h0 : jTk t T b = 45) (h6 : op < 6) (g0 : jB t T A 6 (op + 1) (jNx t T b) o c 0 b1 o1 c1) : jMo t T A 6 op b o c 0 b1 o1 c1 := by
  intro m x Q d hd hC ob _ K
  obtain ⟨hT, ⟨b0, b1'⟩, ⟨e2, e3, e4⟩, e5, ⟨e7, o0, o1'⟩, hc, ⟨e6, p0, p1⟩, ⟨e8, A0, A1⟩, e9⟩ := id hC
  have T1 := hT.1
  have nx := jNx_bd (t := t) b1'
  have mi := jMk_i (jTk_v t T b)
  have tv := jTk_v t T b
  have bT : b < T := jTk_e (t := t) (by omega)
  have rb := jR_bd g0.1 nx.2.1
  have hm : jMk (jTk t T b) = 45 := by rw [h0]; rfl
  show WPc d 229 [zr 386] 403 [] x m 403 [] Q
  apply r229
  rw [e9, e4, hm]
  refine ⟨fun _ => ⟨fun hh => absurd hh (by decide), fun _ => ⟨fun _ => ⟨fun hh => absurd rfl hh, fun _ => ⟨by omega, ?_⟩⟩, fun hh => absurd hh (by decide)⟩⟩, fun hh => absurd rfl hh⟩
  refine s223s (by omega) hC (fun _ m1 l1 C1 => ?_) (fun hh => absurd hh (by omega))
  intro _
  refine ⟨fun hh => absurd hh (by decide), fun _ => ⟨by omega, ?_⟩⟩
  refine g0.2 m1 x _ (d - 1) (by omega) C1 (by omega) (by omega) ?_
  intro m2 l2 k1 k0
  refine ⟨by omega, ?_⟩
  refine s222f (k := 31) (k0 rfl) A0 A1 (by omega) (fun m3 l3 F3 => ?_)
  have q16 := F3.2.2.1
  exact ⟨by unfold zIn; omega, K _ ((l1.tr (l2.tr l3)).u (by omega)) (fun e => absurd e (by decide)) (fun _ => jFl_w (by omega) (jFl_d F3))⟩
theorem jm_s5 {t : Int → Int} {T A op b o b1 o1 b2 o2 : Int} {c c1 c2 : Int → Int} (h0 : jTk t T b = 40) (h6 : op < 6) (h4 : jTk t T b1 = 41) (g0 : jB t T A 0 (op + 1) (jNx t T b) o c 1 b1 o1 c1) : jMo t T A 6 op b o c 1 (jNx t T b1) o1 c1 := by
  intro m x Q d hd hC ob _ K
  obtain ⟨hT, ⟨b0, b1'⟩, ⟨e2, e3, e4⟩, e5, ⟨e7, o0, o1'⟩, hc, ⟨e6, p0, p1⟩, ⟨e8, A0, A1⟩, e9⟩ := id hC
  have T1 := hT.1
  have nx := jNx_bd (t := t) b1'
  have mi := jMk_i (jTk_v t T b)
  have tv := jTk_v t T b
  have bT : b < T := jTk_e (t := t) (by omega)
  have rb := jR_bd g0.1 nx.2.1
  have hm : jMk (jTk t T b) = 40 := by rw [h0]; rfl
  show WPc d 229 [zr 386] 403 [] x m 403 [] Q
  apply r229
  rw [e9, e4, hm]
  refine ⟨fun _ => ⟨fun hh => absurd hh (by decide), fun _ => ⟨fun _ => ⟨fun _ => ⟨fun hh => absurd rfl hh, fun _ => ⟨by omega, ?_⟩⟩, fun hh => absurd hh (by decide)⟩, fun hh => absurd hh (by decide)⟩⟩, fun hh => absurd rfl hh⟩
  refine s223s (by omega) hC (fun _ m1 l1 C1 => ?_) (fun hh => absurd hh (by omega))
  intro _
  refine ⟨fun hh => absurd hh (by decide), fun _ => ⟨by omega, ?_⟩⟩
  refine g0.2 m1 x _ (d - 1) (by omega) C1 (by omega) (by omega) ?_
  intro m2 l2 k1 k0
  refine ⟨by omega, ?_⟩
  refine s230s (by omega) (by omega) (k1 rfl) (fun _ m3 l3 C3 => ?_) (fun hh => absurd h4 hh)
  rw [show op + 1 - 1 = op by omega] at C3
  exact K m3 (l1.tr (l2.tr l3)) (fun _ => C3) (fun e => absurd e (by decide))
theorem jm_s6 {t : Int → Int} {T A op b o b1 o1 b2 o2 : Int} {c c1 c2 : Int → Int} (h0 : jTk t T b = 40) (h6 : op < 6) (h4 : jTk t T b1 ≠ 41) (g0 : jB t T A 0 (op + 1) (jNx t T b) o c 1 b1 o1 c1) : jMo t T A 6 op b o c 0 b1 o1 c1 := by
  intro m x Q d hd hC ob _ K
  obtain ⟨hT, ⟨b0, b1'⟩, ⟨e2, e3, e4⟩, e5, ⟨e7, o0, o1'⟩, hc, ⟨e6, p0, p1⟩, ⟨e8, A0, A1⟩, e9⟩ := id hC
  have T1 := hT.1
  have nx := jNx_bd (t := t) b1'
  have mi := jMk_i (jTk_v t T b)
  have tv := jTk_v t T b
  have bT : b < T := jTk_e (t := t) (by omega)
  have rb := jR_bd g0.1 nx.2.1
  have hm : jMk (jTk t T b) = 40 := by rw [h0]; rfl
  show WPc d 229 [zr 386] 403 [] x m 403 [] Q
  apply r229
  rw [e9, e4, hm]
  refine ⟨fun _ => ⟨fun hh => absurd hh (by decide), fun _ => ⟨fun _ => ⟨fun _ => ⟨fun hh => absurd rfl hh, fun _ => ⟨by omega, ?_⟩⟩, fun hh => absurd hh (by decide)⟩, fun hh => absurd hh (by decide)⟩⟩, fun hh => absurd rfl hh⟩
  refine s223s (by omega) hC (fun _ m1 l1 C1 => ?_) (fun hh => absurd hh (by omega))
  intro _
  refine ⟨fun hh => absurd hh (by decide), fun _ => ⟨by omega, ?_⟩⟩
  refine g0.2 m1 x _ (d - 1) (by omega) C1 (by omega) (by omega) ?_
  intro m2 l2 k1 k0
  refine ⟨by omega, ?_⟩
  refine s230s (by omega) (by omega) (k1 rfl) (fun hh => absurd hh h4) (fun _ m3 l3 F3 => ?_)
  exact K m3 (l1.tr (l2.tr l3)) (fun e => absurd e (by decide)) (fun _ => jFl_o (by omega) (by omega) F3)
theorem jm_s7 {t : Int → Int} {T A op b o b1 o1 b2 o2 : Int} {c c1 c2 : Int → Int} (h0 : jTk t T b = 40) (h6 : op < 6) (g0 : jB t T A 0 (op + 1) (jNx t T b) o c 0 b1 o1 c1) : jMo t T A 6 op b o c 0 b1 o1 c1 := by
  intro m x Q d hd hC ob _ K
  obtain ⟨hT, ⟨b0, b1'⟩, ⟨e2, e3, e4⟩, e5, ⟨e7, o0, o1'⟩, hc, ⟨e6, p0, p1⟩, ⟨e8, A0, A1⟩, e9⟩ := id hC
  have T1 := hT.1
  have nx := jNx_bd (t := t) b1'
  have mi := jMk_i (jTk_v t T b)
  have tv := jTk_v t T b
  have bT : b < T := jTk_e (t := t) (by omega)
  have rb := jR_bd g0.1 nx.2.1
  have hm : jMk (jTk t T b) = 40 := by rw [h0]; rfl
  show WPc d 229 [zr 386] 403 [] x m 403 [] Q
  apply r229
  rw [e9, e4, hm]
  refine ⟨fun _ => ⟨fun hh => absurd hh (by decide), fun _ => ⟨fun _ => ⟨fun _ => ⟨fun hh => absurd rfl hh, fun _ => ⟨by omega, ?_⟩⟩, fun hh => absurd hh (by decide)⟩, fun hh => absurd hh (by decide)⟩⟩, fun hh => absurd rfl hh⟩
  refine s223s (by omega) hC (fun _ m1 l1 C1 => ?_) (fun hh => absurd hh (by omega))
  intro _
  refine ⟨fun hh => absurd hh (by decide), fun _ => ⟨by omega, ?_⟩⟩
  refine g0.2 m1 x _ (d - 1) (by omega) C1 (by omega) (by omega) ?_
  intro m2 l2 k1 k0
  refine ⟨by omega, ?_⟩
  refine s230f (k0 rfl) (fun m3 l3 F3 => ?_)
  exact K m3 (l1.tr (l2.tr l3)) (fun e => absurd e (by decide)) (fun _ => jFl_o (by omega) (by omega) F3)
theorem jm_s8 {t : Int → Int} {T A op b o b1 o1 b2 o2 : Int} {c c1 c2 : Int → Int} (h2 : jTk t T b ≠ 2) (h4 : jTk t T b ≠ 4) (h : (jTk t T b ≠ 45 ∧ jTk t T b ≠ 40) ∨ 6 ≤ op) : jMo t T A 6 op b o c 0 b o c := by
  intro m x Q d hd hC ob _ K
  obtain ⟨hT, ⟨b0, b1'⟩, ⟨e2, e3, e4⟩, e5, ⟨e7, o0, o1'⟩, hc, ⟨e6, p0, p1⟩, ⟨e8, A0, A1⟩, e9⟩ := id hC
  have T1 := hT.1
  have nx := jNx_bd (t := t) b1'
  have mi := jMk_i (jTk_v t T b)
  have tv := jTk_v t T b
  have q : Q 0 x (zupd m 386 19 1) := K _ ((jL.rf A m).u (by omega)) (fun e => absurd e (by decide)) (fun _ => jFl_w (by omega) (jM_f hC))
  have s6 : 6 ≤ op → WPc (d - 1) 223 [zr 386] 403 [] x m 403 [] (fun q13 x14 m15 => (q13 = 0 ∨ q13 = 1) → (q13 = 0 → Q 0 x14 m15) ∧ (q13 ≠ 0 → False)) := fun h6 => by
    refine s223s (by omega) hC (fun hh => absurd hh (by omega)) (fun _ m1 l1 F => ?_)
    intro _
    exact ⟨fun _ => K m1 l1 (fun e => absurd e (by decide)) (fun _ => jFl_w (by omega) F), fun hh => absurd rfl hh⟩
  have s6' : 6 ≤ op → ∀ {R : Int → zM → zM → Prop}, (∀ m1, Q 0 x m1 → R 0 x m1) → WPc (d - 1) 223 [zr 386] 403 [] x m 403 [] R := fun h6 {R} hr => by
    refine s223s (by omega) hC (fun hh => absurd hh (by omega)) (fun _ m1 l1 F => ?_)
    exact hr m1 (K m1 l1 (fun e => absurd e (by decide)) (fun _ => jFl_w (by omega) F))
  show WPc d 229 [zr 386] 403 [] x m 403 [] Q
  apply r229
  rw [e9, e4]
  generalize jTk t T b = kk at *
  generalize jMk kk = mk at *
  clear K hC hT hc e5 s6
  repeat' (first | (with_reducible assumption) | (with_reducible rfl) | (with_reducible apply And.intro) | (with_reducible apply zIn_mk) | (with_reducible apply zLn_mk) | ((with_reducible intro _); try (exfalso; omega)) | omega | (with_reducible exact Or.inr trivial) | (with_reducible exact Or.inl trivial) | ((exact q)) | ((refine s6' (by omega) (fun m1 qq => ?_))) | ((exact qq)) | fail)
theorem jB_all {t : Int → Int} {T A : Int} : jRules t T (jB t T A) := by
  refine ⟨?_, ?_, ?_, ?_, ?_, ?_, ?_, ?_, ?_, ?_, ?_, ?_, ?_, ?_, ?_, ?_, ?_, ?_, ?_, ?_, ?_⟩
  · intro l s op b o c b1 o1 c1 ok b2 o2 c2 hs g0 g1
    refine ⟨jR_c1 hs g0.1 g1.1, ?_⟩
    rcases hs with ⟨rfl, rfl⟩ | ⟨rfl, rfl⟩ | ⟨rfl, rfl⟩ | ⟨rfl, rfl⟩
    · exact jm_c1_0 g0 g1
    · exact jm_c1_1 g0 g1
    · exact jm_c1_4 g0 g1
    · exact jm_c1_5 g0 g1
  · intro l s op b o c b1 o1 c1 hs g0
    refine ⟨jR_c2 hs g0.1, ?_⟩
    rcases hs with ⟨rfl, rfl⟩ | ⟨rfl, rfl⟩ | ⟨rfl, rfl⟩ | ⟨rfl, rfl⟩
    · exact jm_c2_0 (b2 := 0) (o2 := 0) (ok := 0) (c2 := c) g0
    · exact jm_c2_1 (b2 := 0) (o2 := 0) (ok := 0) (c2 := c) g0
    · exact jm_c2_4 (b2 := 0) (o2 := 0) (ok := 0) (c2 := c) g0
    · exact jm_c2_5 (b2 := 0) (o2 := 0) (ok := 0) (c2 := c) g0
  · intro l s op b o c hs h1
    refine ⟨jR_l0 hs h1, ?_⟩
    rcases hs with ⟨rfl, rfl⟩ | ⟨rfl, rfl⟩ | ⟨rfl, rfl⟩ | ⟨rfl, rfl⟩
    · exact jm_l0_0 (b1 := 0) (o1 := 0) (b2 := 0) (o2 := 0) (ok := 0) (c1 := c) (c2 := c) h1
    · exact jm_l0_1 (b1 := 0) (o1 := 0) (b2 := 0) (o2 := 0) (ok := 0) (c1 := c) (c2 := c) h1
    · exact jm_l0_4 (b1 := 0) (o1 := 0) (b2 := 0) (o2 := 0) (ok := 0) (c1 := c) (c2 := c) h1
    · exact jm_l0_5 (b1 := 0) (o1 := 0) (b2 := 0) (o2 := 0) (ok := 0) (c1 := c) (c2 := c) h1
  · intro l s op b o c b1 o1 c1 ok b2 o2 c2 hs h1 g0 g1
    refine ⟨jR_l1 hs h1 g0.1 g1.1, ?_⟩
    rcases hs with ⟨rfl, rfl⟩ | ⟨rfl, rfl⟩ | ⟨rfl, rfl⟩ | ⟨rfl, rfl⟩
    · exact jm_l1_0 h1 g0 g1
    · exact jm_l1_1 h1 g0 g1
    · exact jm_l1_4 h1 g0 g1
    · exact jm_l1_5 h1 g0 g1
  · intro l s op b o c b1 o1 c1 hs h1 g0
    refine ⟨jR_l2 hs h1 g0.1, ?_⟩
    rcases hs with ⟨rfl, rfl⟩ | ⟨rfl, rfl⟩ | ⟨rfl, rfl⟩ | ⟨rfl, rfl⟩
    · exact jm_l2_0 (b2 := 0) (o2 := 0) (ok := 0) (c2 := c) h1 g0
    · exact jm_l2_1 (b2 := 0) (o2 := 0) (ok := 0) (c2 := c) h1 g0
    · exact jm_l2_4 (b2 := 0) (o2 := 0) (ok := 0) (c2 := c) h1 g0
    · exact jm_l2_5 (b2 := 0) (o2 := 0) (ok := 0) (c2 := c) h1 g0
  · intro op b o c ok b1 o1 c1 h0 g0
    exact ⟨jR_n0 h0 g0.1, jm_n0 (b2 := 0) (o2 := 0) (c2 := c) h0 g0⟩
  · intro op b o c h0 h6
    exact ⟨jR_n1 h0 h6, jm_n1 (b1 := 0) (o1 := 0) (b2 := 0) (o2 := 0) (c1 := c) (c2 := c) h0 h6⟩
  · intro op b o c b1 o1 c1 h0 h6 g0
    exact ⟨jR_n2 h0 h6 g0.1, jm_n2 (b2 := 0) (o2 := 0) (c2 := c) h0 h6 g0⟩
  · intro op b o c b1 o1 c1 h0 h6 g0
    exact ⟨jR_n3 h0 h6 g0.1, jm_n3 (b2 := 0) (o2 := 0) (c2 := c) h0 h6 g0⟩
  · intro op b o c b1 o1 c1 g0
    exact ⟨jR_e0 g0.1, jm_e0 (b2 := 0) (o2 := 0) (c2 := c) g0⟩
  · intro op b o c b1 o1 c1 h1 g0
    exact ⟨jR_e1 h1 g0.1, jm_e1 (b2 := 0) (o2 := 0) (c2 := c) h1 g0⟩
  · intro op b o c b1 o1 c1 b2 o2 c2 h1 g0 g1
    exact ⟨jR_e2 h1 g0.1 g1.1, jm_e2 h1 g0 g1⟩
  · intro op b o c b1 o1 c1 b2 o2 c2 h1 g0 g1
    exact ⟨jR_e3 h1 g0.1 g1.1, jm_e3 h1 g0 g1⟩
  · intro op b o c h0
    exact ⟨jR_s1 h0, jm_s1 (b1 := 0) (o1 := 0) (b2 := 0) (o2 := 0) (c1 := c) (c2 := c) h0⟩
  · intro op b o c h0
    exact ⟨jR_s2 h0, jm_s2 (b1 := 0) (o1 := 0) (b2 := 0) (o2 := 0) (c1 := c) (c2 := c) h0⟩
  · intro op b o c b1 o1 c1 h0 h6 g0
    exact ⟨jR_s3 h0 h6 g0.1, jm_s3 (b2 := 0) (o2 := 0) (c2 := c) h0 h6 g0⟩
  · intro op b o c b1 o1 c1 h0 h6 g0
    exact ⟨jR_s4 h0 h6 g0.1, jm_s4 (b2 := 0) (o2 := 0) (c2 := c) h0 h6 g0⟩
  · intro op b o c b1 o1 c1 h0 h6 h4 g0
    exact ⟨jR_s5 h0 h6 h4 g0.1, jm_s5 (b2 := 0) (o2 := 0) (c2 := c) h0 h6 h4 g0⟩
  · intro op b o c b1 o1 c1 h0 h6 h4 g0
    exact ⟨jR_s6 h0 h6 h4 g0.1, jm_s6 (b2 := 0) (o2 := 0) (c2 := c) h0 h6 h4 g0⟩
  · intro op b o c b1 o1 c1 h0 h6 g0
    exact ⟨jR_s7 h0 h6 g0.1, jm_s7 (b2 := 0) (o2 := 0) (c2 := c) h0 h6 g0⟩
  · intro op b o c h2 h4 h
    exact ⟨jR_s8 h2 h4 h, jm_s8 (b1 := 0) (o1 := 0) (b2 := 0) (o2 := 0) (c1 := c) (c2 := c) h2 h4 h⟩
theorem jm_all {t : Int → Int} {T A : Int} {l : Nat} {op b o ok b2 o2 : Int} {c c2 : Int → Int} (h : jR t T l op b o c ok b2 o2 c2) : jMo t T A l op b o c ok b2 o2 c2 := (h _ jB_all).2
