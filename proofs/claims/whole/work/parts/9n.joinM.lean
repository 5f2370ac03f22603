/-! THE MODEL READS WHAT IS JOINED BY SIGNS -/
theorem jFl_w {A op b o o' : Int} {m : zM} (h : o ≤ o') (hF : jFl A m op b o) : jFl A m op b o' := ⟨hF.1, hF.2.1, hF.2.2.1, ⟨hF.2.2.2.1.1, Int.le_trans hF.2.2.2.1.2 h⟩, hF.2.2.2.2⟩
def jWm (l d : Nat) (x m : zM) (Q : Int → zM → zM → Prop) : Prop := match l with
  | 0 => WPc d 224 [zr 386] 403 [] x m 403 [] Q
  | 1 => WPc d 225 [zr 386] 403 [] x m 403 [] Q
  | 2 => WPc d 226 [zr 386] 403 [] x m 403 [] Q
  | 3 => WPc d 226 [zr 386] 403 [] x m 403 [] Q
  | 4 => WPc d 227 [zr 386] 403 [] x m 403 [] Q
  | 5 => WPc d 228 [zr 386] 403 [] x m 403 [] Q
  | 6 => WPc d 229 [zr 386] 403 [] x m 403 [] Q
  | 10 => WP d 224 4 [(0, zr 386)] [] 403 [] x m 403 [] Q
  | 11 => WP d 225 4 [(0, zr 386)] [] 403 [] x m 403 [] Q
  | 14 => WP d 227 4 [(0, zr 386)] [] 403 [] x m 403 [] Q
  | 15 => WP d 228 4 [(0, zr 386)] [] 403 [] x m 403 [] Q
  | _ => True
def jMo (t : Int → Int) (T A : Int) (l : Nat) (op b o : Int) (c : Int → Int) (ok b2 o2 : Int) (c2 : Int → Int) : Prop := ∀ (m x : zM) (Q : Int → zM → zM → Prop) (d : Nat), 59 - ((l % 10 : Nat) : Int) - 7 * op ≤ d → jM t T A m op b o c → o ≤ b → (l = 3 → jTk t T b ≠ 8) → (∀ m', jL A m m' → (ok = 1 → jM t T A m' op b2 o2 c2) → (ok = 0 → jFl A m' op b2 (o + (b2 - b))) → Q 0 x m') → jWm l d x m Q
def jB (t : Int → Int) (T A : Int) (l : Nat) (op b o : Int) (c : Int → Int) (ok b2 o2 : Int) (c2 : Int → Int) : Prop := jR t T l op b o c ok b2 o2 c2 ∧ jMo t T A l op b o c ok b2 o2 c2

theorem jm_c1_0 {t : Int → Int} {T A op b o b1 o1 ok b2 o2 : Int} {c c1 c2 : Int → Int} (g0 : jB t T A 1 op b o c 1 b1 o1 c1) (g1 : jB t T A 10 op b1 o1 c1 ok b2 o2 c2) : jMo t T A 0 op b o c ok b2 o2 c2 := by
  intro m x Q d hd hC ob _ K
  obtain ⟨hT, ⟨b0, b1'⟩, ⟨e2, e3, e4⟩, e5, ⟨e7, o0, o1'⟩, hc, ⟨e6, p0, p1⟩, ⟨e8, A0, A1⟩, e9⟩ := id hC
  have T1 := hT.1
  have nx := jNx_bd (t := t) b1'
  have mi := jMk_i (jTk_v t T b)
  have tv := jTk_v t T b
  have rb := jR_bd g0.1 b1'
  show WPc d 224 [zr 386] 403 [] x m 403 [] Q
  apply r224
  refine ⟨by omega, ?_⟩
  refine g0.2 m x _ (d - 1) (by omega) hC ob (by omega) ?_
  intro m1 l1 k1 k0
  refine g1.2 m1 x Q d (by omega) (k1 rfl) (by omega) (by omega) ?_
  intro m' l' q1 q0
  exact K m' (l1.tr l') q1 (fun e => jFl_w (by omega) (q0 e))
theorem jm_c2_0 {t : Int → Int} {T A op b o b1 o1 ok b2 o2 : Int} {c c1 c2 : Int → Int} (g0 : jB t T A 1 op b o c 0 b1 o1 c1) : jMo t T A 0 op b o c 0 b1 o1 c1 := by
  intro m x Q d hd hC ob _ K
  obtain ⟨hT, ⟨b0, b1'⟩, ⟨e2, e3, e4⟩, e5, ⟨e7, o0, o1'⟩, hc, ⟨e6, p0, p1⟩, ⟨e8, A0, A1⟩, e9⟩ := id hC
  have T1 := hT.1
  have nx := jNx_bd (t := t) b1'
  have mi := jMk_i (jTk_v t T b)
  have tv := jTk_v t T b
  show WPc d 224 [zr 386] 403 [] x m 403 [] Q
  apply r224
  refine ⟨by omega, ?_⟩
  refine g0.2 m x _ (d - 1) (by omega) hC ob (by omega) ?_
  intro m1 l1 k1 k0
  have F := k0 rfl
  have f19 := F.2.1
  have q := K m1 l1 (fun e => absurd e (by decide)) (fun _ => F)
  apply r224_c4
  rw [f19]
  exact ⟨fun _ => q, fun hh => absurd hh (by decide)⟩
theorem jm_l0_0 {t : Int → Int} {T A op b o b1 o1 ok b2 o2 : Int} {c c1 c2 : Int → Int} (h1 : jOp 0 (jTk t T b) = 0) : jMo t T A 10 op b o c 1 b o c := by
  intro m x Q d hd hC ob _ K
  obtain ⟨hT, ⟨b0, b1'⟩, ⟨e2, e3, e4⟩, e5, ⟨e7, o0, o1'⟩, hc, ⟨e6, p0, p1⟩, ⟨e8, A0, A1⟩, e9⟩ := id hC
  have T1 := hT.1
  have nx := jNx_bd (t := t) b1'
  have mi := jMk_i (jTk_v t T b)
  have tv := jTk_v t T b
  have q := K m (jL.rf A m) (fun _ => hC) (fun e => absurd e (by decide))
  have n6 : jTk t T b ≠ 6 := fun hh => by rw [hh] at h1; exact absurd h1 (by decide)
  show WP d 224 4 [(0, zr 386)] [] 403 [] x m 403 [] Q
  apply r224_c4
  simp only [e9, e4]
  generalize jTk t T b = kk at *
  generalize jMk kk = mk at *
  clear K hC hT hc e5
  repeat' (first | (with_reducible assumption) | (with_reducible rfl) | (with_reducible apply And.intro) | (with_reducible apply zIn_mk) | (with_reducible apply zLn_mk) | ((with_reducible intro _); try (exfalso; omega)) | omega | (with_reducible exact Or.inr trivial) | (with_reducible exact Or.inl trivial) | ((exact q)) | fail)
theorem jm_l1_0 {t : Int → Int} {T A op b o b1 o1 ok b2 o2 : Int} {c c1 c2 : Int → Int} (h1 : jOp 0 (jTk t T b) ≠ 0) (g0 : jB t T A 1 op (jNx t T b) o c 1 b1 o1 c1) (g1 : jB t T A 10 op b1 (o1 + 1) (up c1 o1 (jOp 0 (jTk t T b))) ok b2 o2 c2) : jMo t T A 10 op b o c ok b2 o2 c2 := by
  intro m x Q d hd hC ob _ K
  obtain ⟨hT, ⟨b0, b1'⟩, ⟨e2, e3, e4⟩, e5, ⟨e7, o0, o1'⟩, hc, ⟨e6, p0, p1⟩, ⟨e8, A0, A1⟩, e9⟩ := id hC
  have T1 := hT.1
  have nx := jNx_bd (t := t) b1'
  have mi := jMk_i (jTk_v t T b)
  have tv := jTk_v t T b
  have bT : b < T := jTk_e (by
    rcases jOp_bd 0 (jTk t T b) with e | e
    · exact absurd e h1
    · exact e.2)
  have rb := jR_bd g0.1 nx.2.1
  have g221 : ∀ {R : Int → zM → zM → Prop}, (∀ m', jL A m m' → jM t T A m' op (jNx t T b) o c → R 0 x m') → WPc (d - 1) 221 [zr 386] 403 [] x m 403 [] R := fun h => s221s (t := t) (T := T) (A := A) (op := op) (b := b) (o := o) (c := c) (by omega) hC h
  have gs : ∀ m1, jL A m m1 → jM t T A m1 op (jNx t T b) o c → ∀ {R : Int → zM → zM → Prop}, (∀ m2, jL A m m2 → jM t T A m2 op b1 o1 c1 → R 0 x m2) → WPc (d - 1) 225 [zr 386] 403 [] x m1 403 [] R := fun m1 l1 C1 {R} h => g0.2 m1 x R (d - 1) (by omega) C1 (by omega) (by omega) (fun m2 l2 k1 _ => h m2 (l1.tr l2) (k1 rfl))
  have gp : ∀ k m2, jL A m m2 → jM t T A m2 op b1 o1 c1 → ∀ {R : Int → zM → zM → Prop}, (∀ m3, jL A m m3 → jM t T A m3 op b1 (o1 + 1) (up c1 o1 k) → R 0 x m3) → WPc (d - 1) 222 [zr 386, zi k] 403 [] x m2 403 [] R := fun k m2 l2 C2 {R} h => s222s (k := k) C2 (by omega) (fun m3 l3 C3 => h m3 (l2.tr l3) C3)
  have gl : ∀ m3, jL A m m3 → jM t T A m3 op b1 (o1 + 1) (up c1 o1 (jOp 0 (jTk t T b))) → WP d 224 4 [(0, zr 386)] [] 403 [] x m3 403 [] Q := fun m3 l3 C3 => g1.2 m3 x Q d (by omega) C3 (by omega) (by omega) (fun m' l' q1 q0 => K m' (l3.tr l') q1 (fun e => jFl_w (by omega) (q0 e)))
  show WP d 224 4 [(0, zr 386)] [] 403 [] x m 403 [] Q
  apply r224_c4
  simp only [e9, e4]
  obtain ⟨kk, hkk⟩ : ∃ kk, kk = jTk t T b := ⟨_, rfl⟩
  rw [← hkk] at mi tv h1 ⊢
  rw [← hkk] at gl
  obtain ⟨mk, hmk⟩ : ∃ mk, mk = jMk kk := ⟨_, rfl⟩
  rw [← hmk] at mi ⊢
  clear K hC hT hc e5 g0 g1
  by_cases k6 : kk = 6
  · have ho : jOp 0 kk = 20 := by rw [k6]; rfl
    rw [ho] at gl
    have g2 := @gp 20
    clear gp hkk hmk e4 ho h1
    repeat' (first | (with_reducible assumption) | (with_reducible rfl) | (with_reducible apply And.intro) | (with_reducible apply zIn_mk) | (with_reducible apply zLn_mk) | ((with_reducible intro _); try (exfalso; omega)) | omega | (with_reducible exact Or.inr trivial) | (with_reducible exact Or.inl trivial) | ((refine g221 ?_)) | ((refine gs _ (by assumption) (by assumption) ?_)) | ((refine g2 _ (by assumption) (by assumption) ?_)) | ((exact gl _ (by assumption) (by assumption))) | fail)
  · skip
    exfalso
    apply h1
    unfold jOp
    (repeat' split) <;> omega
theorem jm_l2_0 {t : Int → Int} {T A op b o b1 o1 ok b2 o2 : Int} {c c1 c2 : Int → Int} (h1 : jOp 0 (jTk t T b) ≠ 0) (g0 : jB t T A 1 op (jNx t T b) o c 0 b1 o1 c1) : jMo t T A 10 op b o c 0 b1 o1 c1 := by
  intro m x Q d hd hC ob _ K
  obtain ⟨hT, ⟨b0, b1'⟩, ⟨e2, e3, e4⟩, e5, ⟨e7, o0, o1'⟩, hc, ⟨e6, p0, p1⟩, ⟨e8, A0, A1⟩, e9⟩ := id hC
  have T1 := hT.1
  have nx := jNx_bd (t := t) b1'
  have mi := jMk_i (jTk_v t T b)
  have tv := jTk_v t T b
  have bT : b < T := jTk_e (by
    rcases jOp_bd 0 (jTk t T b) with e | e
    · exact absurd e h1
    · exact e.2)
  have rb := jR_bd g0.1 nx.2.1
  have g221 : ∀ {R : Int → zM → zM → Prop}, (∀ m', jL A m m' → jM t T A m' op (jNx t T b) o c → R 0 x m') → WPc (d - 1) 221 [zr 386] 403 [] x m 403 [] R := fun h => s221s (t := t) (T := T) (A := A) (op := op) (b := b) (o := o) (c := c) (by omega) hC h
  have gs : ∀ m1, jL A m m1 → jM t T A m1 op (jNx t T b) o c → ∀ {R : Int → zM → zM → Prop}, (∀ m2, jL A m m2 → jFl A m2 op b1 (o + (b1 - jNx t T b)) → R 0 x m2) → WPc (d - 1) 225 [zr 386] 403 [] x m1 403 [] R := fun m1 l1 C1 {R} h => g0.2 m1 x R (d - 1) (by omega) C1 (by omega) (by omega) (fun m2 l2 _ k0 => h m2 (l1.tr l2) (k0 rfl))
  have gp : ∀ k m2, jL A m m2 → jFl A m2 op b1 (o + (b1 - jNx t T b)) → ∀ {R : Int → zM → zM → Prop}, (∀ m3, jL A m m3 → jFl A m3 op b1 (o + (b1 - jNx t T b) + 1) → R 0 x m3) → WPc (d - 1) 222 [zr 386, zi k] 403 [] x m2 403 [] R := fun k m2 l2 C2 {R} h => s222f (k := k) C2 A0 A1 (by omega) (fun m3 l3 C3 => h m3 (l2.tr l3) C3)
  have gl : ∀ m3, jL A m m3 → jFl A m3 op b1 (o + (b1 - jNx t T b) + 1) → WP d 224 4 [(0, zr 386)] [] 403 [] x m3 403 [] Q := fun m3 l3 F3 => by
    have q := K m3 l3 (fun e => absurd e (by decide)) (fun _ => jFl_w (by omega) F3)
    have f19 := F3.2.1
    apply r224_c4
    rw [f19]
    exact ⟨fun _ => q, fun hh => absurd hh (by decide)⟩
  show WP d 224 4 [(0, zr 386)] [] 403 [] x m 403 [] Q
  apply r224_c4
  simp only [e9, e4]
  obtain ⟨kk, hkk⟩ : ∃ kk, kk = jTk t T b := ⟨_, rfl⟩
  rw [← hkk] at mi tv h1 ⊢
  obtain ⟨mk, hmk⟩ : ∃ mk, mk = jMk kk := ⟨_, rfl⟩
  rw [← hmk] at mi ⊢
  clear K hC hT hc e5 g0 
  by_cases k6 : kk = 6
  · have ho : jOp 0 kk = 20 := by rw [k6]; rfl
    have g2 := @gp 20
    clear gp hkk hmk e4 ho h1
    repeat' (first | (with_reducible assumption) | (with_reducible rfl) | (with_reducible apply And.intro) | (with_reducible apply zIn_mk) | (with_reducible apply zLn_mk) | ((with_reducible intro _); try (exfalso; omega)) | omega | (with_reducible exact Or.inr trivial) | (with_reducible exact Or.inl trivial) | ((refine g221 ?_)) | ((refine gs _ (by assumption) (by assumption) ?_)) | ((refine g2 _ (by assumption) (by assumption) ?_)) | ((exact gl _ (by assumption) (by assumption))) | fail)
  · skip
    exfalso
    apply h1
    unfold jOp
    (repeat' split) <;> omega
theorem jm_c1_1 {t : Int → Int} {T A op b o b1 o1 ok b2 o2 : Int} {c c1 c2 : Int → Int} (g0 : jB t T A 2 op b o c 1 b1 o1 c1) (g1 : jB t T A 11 op b1 o1 c1 ok b2 o2 c2) : jMo t T A 1 op b o c ok b2 o2 c2 := by
  intro m x Q d hd hC ob _ K
  obtain ⟨hT, ⟨b0, b1'⟩, ⟨e2, e3, e4⟩, e5, ⟨e7, o0, o1'⟩, hc, ⟨e6, p0, p1⟩, ⟨e8, A0, A1⟩, e9⟩ := id hC
  have T1 := hT.1
  have nx := jNx_bd (t := t) b1'
  have mi := jMk_i (jTk_v t T b)
  have tv := jTk_v t T b
  have rb := jR_bd g0.1 b1'
  show WPc d 225 [zr 386] 403 [] x m 403 [] Q
  apply r225
  refine ⟨by omega, ?_⟩
  refine g0.2 m x _ (d - 1) (by omega) hC ob (by omega) ?_
  intro m1 l1 k1 k0
  refine g1.2 m1 x Q d (by omega) (k1 rfl) (by omega) (by omega) ?_
  intro m' l' q1 q0
  exact K m' (l1.tr l') q1 (fun e => jFl_w (by omega) (q0 e))
theorem jm_c2_1 {t : Int → Int} {T A op b o b1 o1 ok b2 o2 : Int} {c c1 c2 : Int → Int} (g0 : jB t T A 2 op b o c 0 b1 o1 c1) : jMo t T A 1 op b o c 0 b1 o1 c1 := by
  intro m x Q d hd hC ob _ K
  obtain ⟨hT, ⟨b0, b1'⟩, ⟨e2, e3, e4⟩, e5, ⟨e7, o0, o1'⟩, hc, ⟨e6, p0, p1⟩, ⟨e8, A0, A1⟩, e9⟩ := id hC
  have T1 := hT.1
  have nx := jNx_bd (t := t) b1'
  have mi := jMk_i (jTk_v t T b)
  have tv := jTk_v t T b
  show WPc d 225 [zr 386] 403 [] x m 403 [] Q
  apply r225
  refine ⟨by omega, ?_⟩
  refine g0.2 m x _ (d - 1) (by omega) hC ob (by omega) ?_
  intro m1 l1 k1 k0
  have F := k0 rfl
  have f19 := F.2.1
  have q := K m1 l1 (fun e => absurd e (by decide)) (fun _ => F)
  apply r225_c4
  rw [f19]
  exact ⟨fun _ => q, fun hh => absurd hh (by decide)⟩
theorem jm_l0_1 {t : Int → Int} {T A op b o b1 o1 ok b2 o2 : Int} {c c1 c2 : Int → Int} (h1 : jOp 1 (jTk t T b) = 0) : jMo t T A 11 op b o c 1 b o c := by
  intro m x Q d hd hC ob _ K
  obtain ⟨hT, ⟨b0, b1'⟩, ⟨e2, e3, e4⟩, e5, ⟨e7, o0, o1'⟩, hc, ⟨e6, p0, p1⟩, ⟨e8, A0, A1⟩, e9⟩ := id hC
  have T1 := hT.1
  have nx := jNx_bd (t := t) b1'
  have mi := jMk_i (jTk_v t T b)
  have tv := jTk_v t T b
  have q := K m (jL.rf A m) (fun _ => hC) (fun e => absurd e (by decide))
  have n7 : jTk t T b ≠ 7 := fun hh => by rw [hh] at h1; exact absurd h1 (by decide)
  show WP d 225 4 [(0, zr 386)] [] 403 [] x m 403 [] Q
  apply r225_c4
  simp only [e9, e4]
  generalize jTk t T b = kk at *
  generalize jMk kk = mk at *
  clear K hC hT hc e5
  repeat' (first | (with_reducible assumption) | (with_reducible rfl) | (with_reducible apply And.intro) | (with_reducible apply zIn_mk) | (with_reducible apply zLn_mk) | ((with_reducible intro _); try (exfalso; omega)) | omega | (with_reducible exact Or.inr trivial) | (with_reducible exact Or.inl trivial) | ((exact q)) | fail)
theorem jm_l1_1 {t : Int → Int} {T A op b o b1 o1 ok b2 o2 : Int} {c c1 c2 : Int → Int} (h1 : jOp 1 (jTk t T b) ≠ 0) (g0 : jB t T A 2 op (jNx t T b) o c 1 b1 o1 c1) (g1 : jB t T A 11 op b1 (o1 + 1) (up c1 o1 (jOp 1 (jTk t T b))) ok b2 o2 c2) : jMo t T A 11 op b o c ok b2 o2 c2 := by
  intro m x Q d hd hC ob _ K
  obtain ⟨hT, ⟨b0, b1'⟩, ⟨e2, e3, e4⟩, e5, ⟨e7, o0, o1'⟩, hc, ⟨e6, p0, p1⟩, ⟨e8, A0, A1⟩, e9⟩ := id hC
  have T1 := hT.1
  have nx := jNx_bd (t := t) b1'
  have mi := jMk_i (jTk_v t T b)
  have tv := jTk_v t T b
  have bT : b < T := jTk_e (by
    rcases jOp_bd 1 (jTk t T b) with e | e
    · exact absurd e h1
    · exact e.2)
  have rb := jR_bd g0.1 nx.2.1
  have g221 : ∀ {R : Int → zM → zM → Prop}, (∀ m', jL A m m' → jM t T A m' op (jNx t T b) o c → R 0 x m') → WPc (d - 1) 221 [zr 386] 403 [] x m 403 [] R := fun h => s221s (t := t) (T := T) (A := A) (op := op) (b := b) (o := o) (c := c) (by omega) hC h
  have gs : ∀ m1, jL A m m1 → jM t T A m1 op (jNx t T b) o c → ∀ {R : Int → zM → zM → Prop}, (∀ m2, jL A m m2 → jM t T A m2 op b1 o1 c1 → R 0 x m2) → WPc (d - 1) 226 [zr 386] 403 [] x m1 403 [] R := fun m1 l1 C1 {R} h => g0.2 m1 x R (d - 1) (by omega) C1 (by omega) (by omega) (fun m2 l2 k1 _ => h m2 (l1.tr l2) (k1 rfl))
  have gp : ∀ k m2, jL A m m2 → jM t T A m2 op b1 o1 c1 → ∀ {R : Int → zM → zM → Prop}, (∀ m3, jL A m m3 → jM t T A m3 op b1 (o1 + 1) (up c1 o1 k) → R 0 x m3) → WPc (d - 1) 222 [zr 386, zi k] 403 [] x m2 403 [] R := fun k m2 l2 C2 {R} h => s222s (k := k) C2 (by omega) (fun m3 l3 C3 => h m3 (l2.tr l3) C3)
  have gl : ∀ m3, jL A m m3 → jM t T A m3 op b1 (o1 + 1) (up c1 o1 (jOp 1 (jTk t T b))) → WP d 225 4 [(0, zr 386)] [] 403 [] x m3 403 [] Q := fun m3 l3 C3 => g1.2 m3 x Q d (by omega) C3 (by omega) (by omega) (fun m' l' q1 q0 => K m' (l3.tr l') q1 (fun e => jFl_w (by omega) (q0 e)))
  show WP d 225 4 [(0, zr 386)] [] 403 [] x m 403 [] Q
  apply r225_c4
  simp only [e9, e4]
  obtain ⟨kk, hkk⟩ : ∃ kk, kk = jTk t T b := ⟨_, rfl⟩
  rw [← hkk] at mi tv h1 ⊢
  rw [← hkk] at gl
  obtain ⟨mk, hmk⟩ : ∃ mk, mk = jMk kk := ⟨_, rfl⟩
  rw [← hmk] at mi ⊢
  clear K hC hT hc e5 g0 g1
  by_cases k7 : kk = 7
  · have ho : jOp 1 kk = 21 := by rw [k7]; rfl
    rw [ho] at gl
    have g2 := @gp 21
    clear gp hkk hmk e4 ho h1
    repeat' (first | (with_reducible assumption) | (with_reducible rfl) | (with_reducible apply And.intro) | (with_reducible apply zIn_mk) | (with_reducible apply zLn_mk) | ((with_reducible intro _); try (exfalso; omega)) | omega | (with_reducible exact Or.inr trivial) | (with_reducible exact Or.inl trivial) | ((refine g221 ?_)) | ((refine gs _ (by assumption) (by assumption) ?_)) | ((refine g2 _ (by assumption) (by assumption) ?_)) | ((exact gl _ (by assumption) (by assumption))) | fail)
  · skip
    exfalso
    apply h1
    unfold jOp
    (repeat' split) <;> omega
theorem jm_l2_1 {t : Int → Int} {T A op b o b1 o1 ok b2 o2 : Int} {c c1 c2 : Int → Int} (h1 : jOp 1 (jTk t T b) ≠ 0) (g0 : jB t T A 2 op (jNx t T b) o c 0 b1 o1 c1) : jMo t T A 11 op b o c 0 b1 o1 c1 := by
  intro m x Q d hd hC ob _ K
  obtain ⟨hT, ⟨b0, b1'⟩, ⟨e2, e3, e4⟩, e5, ⟨e7, o0, o1'⟩, hc, ⟨e6, p0, p1⟩, ⟨e8, A0, A1⟩, e9⟩ := id hC
  have T1 := hT.1
  have nx := jNx_bd (t := t) b1'
  have mi := jMk_i (jTk_v t T b)
  have tv := jTk_v t T b
  have bT : b < T := jTk_e (by
    rcases jOp_bd 1 (jTk t T b) with e | e
    · exact absurd e h1
    · exact e.2)
  have rb := jR_bd g0.1 nx.2.1
  have g221 : ∀ {R : Int → zM → zM → Prop}, (∀ m', jL A m m' → jM t T A m' op (jNx t T b) o c → R 0 x m') → WPc (d - 1) 221 [zr 386] 403 [] x m 403 [] R := fun h => s221s (t := t) (T := T) (A := A) (op := op) (b := b) (o := o) (c := c) (by omega) hC h
  have gs : ∀ m1, jL A m m1 → jM t T A m1 op (jNx t T b) o c → ∀ {R : Int → zM → zM → Prop}, (∀ m2, jL A m m2 → jFl A m2 op b1 (o + (b1 - jNx t T b)) → R 0 x m2) → WPc (d - 1) 226 [zr 386] 403 [] x m1 403 [] R := fun m1 l1 C1 {R} h => g0.2 m1 x R (d - 1) (by omega) C1 (by omega) (by omega) (fun m2 l2 _ k0 => h m2 (l1.tr l2) (k0 rfl))
  have gp : ∀ k m2, jL A m m2 → jFl A m2 op b1 (o + (b1 - jNx t T b)) → ∀ {R : Int → zM → zM → Prop}, (∀ m3, jL A m m3 → jFl A m3 op b1 (o + (b1 - jNx t T b) + 1) → R 0 x m3) → WPc (d - 1) 222 [zr 386, zi k] 403 [] x m2 403 [] R := fun k m2 l2 C2 {R} h => s222f (k := k) C2 A0 A1 (by omega) (fun m3 l3 C3 => h m3 (l2.tr l3) C3)
  have gl : ∀ m3, jL A m m3 → jFl A m3 op b1 (o + (b1 - jNx t T b) + 1) → WP d 225 4 [(0, zr 386)] [] 403 [] x m3 403 [] Q := fun m3 l3 F3 => by
    have q := K m3 l3 (fun e => absurd e (by decide)) (fun _ => jFl_w (by omega) F3)
    have f19 := F3.2.1
    apply r225_c4
    rw [f19]
    exact ⟨fun _ => q, fun hh => absurd hh (by decide)⟩
  show WP d 225 4 [(0, zr 386)] [] 403 [] x m 403 [] Q
  apply r225_c4
  simp only [e9, e4]
  obtain ⟨kk, hkk⟩ : ∃ kk, kk = jTk t T b := ⟨_, rfl⟩
  rw [← hkk] at mi tv h1 ⊢
  obtain ⟨mk, hmk⟩ : ∃ mk, mk = jMk kk := ⟨_, rfl⟩
  rw [← hmk] at mi ⊢
  clear K hC hT hc e5 g0 
  by_cases k7 : kk = 7
  · have ho : jOp 1 kk = 21 := by rw [k7]; rfl
    have g2 := @gp 21
    clear gp hkk hmk e4 ho h1
    repeat' (first | (with_reducible assumption) | (with_reducible rfl) | (with_reducible apply And.intro) | (with_reducible apply zIn_mk) | (with_reducible apply zLn_mk) | ((with_reducible intro _); try (exfalso; omega)) | omega | (with_reducible exact Or.inr trivial) | (with_reducible exact Or.inl trivial) | ((refine g221 ?_)) | ((refine gs _ (by assumption) (by assumption) ?_)) | ((refine g2 _ (by assumption) (by assumption) ?_)) | ((exact gl _ (by assumption) (by assumption))) | fail)
  · skip
    exfalso
    apply h1
    unfold jOp
    (repeat' split) <;> omega
theorem jm_c1_4 {t : Int → Int} {T A op b o b1 o1 ok b2 o2 : Int} {c c1 c2 : Int → Int} (g0 : jB t T A 5 op b o c 1 b1 o1 c1) (g1 : jB t T A 14 op b1 o1 c1 ok b2 o2 c2) : jMo t T A 4 op b o c ok b2 o2 c2 := by
  intro m x Q d hd hC ob _ K
  obtain ⟨hT, ⟨b0, b1'⟩, ⟨e2, e3, e4⟩, e5, ⟨e7, o0, o1'⟩, hc, ⟨e6, p0, p1⟩, ⟨e8, A0, A1⟩, e9⟩ := id hC
  have T1 := hT.1
  have nx := jNx_bd (t := t) b1'
  have mi := jMk_i (jTk_v t T b)
  have tv := jTk_v t T b
  have rb := jR_bd g0.1 b1'
  show WPc d 227 [zr 386] 403 [] x m 403 [] Q
  apply r227
  refine ⟨by omega, ?_⟩
  refine g0.2 m x _ (d - 1) (by omega) hC ob (by omega) ?_
  intro m1 l1 k1 k0
  refine g1.2 m1 x Q d (by omega) (k1 rfl) (by omega) (by omega) ?_
  intro m' l' q1 q0
  exact K m' (l1.tr l') q1 (fun e => jFl_w (by omega) (q0 e))
theorem jm_c2_4 {t : Int → Int} {T A op b o b1 o1 ok b2 o2 : Int} {c c1 c2 : Int → Int} (g0 : jB t T A 5 op b o c 0 b1 o1 c1) : jMo t T A 4 op b o c 0 b1 o1 c1 := by
  intro m x Q d hd hC ob _ K
  obtain ⟨hT, ⟨b0, b1'⟩, ⟨e2, e3, e4⟩, e5, ⟨e7, o0, o1'⟩, hc, ⟨e6, p0, p1⟩, ⟨e8, A0, A1⟩, e9⟩ := id hC
  have T1 := hT.1
  have nx := jNx_bd (t := t) b1'
  have mi := jMk_i (jTk_v t T b)
  have tv := jTk_v t T b
  show WPc d 227 [zr 386] 403 [] x m 403 [] Q
  apply r227
  refine ⟨by omega, ?_⟩
  refine g0.2 m x _ (d - 1) (by omega) hC ob (by omega) ?_
  intro m1 l1 k1 k0
  have F := k0 rfl
  have f19 := F.2.1
  have q := K m1 l1 (fun e => absurd e (by decide)) (fun _ => F)
  apply r227_c4
  rw [f19]
  exact ⟨fun _ => q, fun hh => absurd hh (by decide)⟩
theorem jm_l0_4 {t : Int → Int} {T A op b o b1 o1 ok b2 o2 : Int} {c c1 c2 : Int → Int} (h1 : jOp 4 (jTk t T b) = 0) : jMo t T A 14 op b o c 1 b o c := by
  intro m x Q d hd hC ob _ K
  obtain ⟨hT, ⟨b0, b1'⟩, ⟨e2, e3, e4⟩, e5, ⟨e7, o0, o1'⟩, hc, ⟨e6, p0, p1⟩, ⟨e8, A0, A1⟩, e9⟩ := id hC
  have T1 := hT.1
  have nx := jNx_bd (t := t) b1'
  have mi := jMk_i (jTk_v t T b)
  have tv := jTk_v t T b
  have q := K m (jL.rf A m) (fun _ => hC) (fun e => absurd e (by decide))
  have n43 : jTk t T b ≠ 43 := fun hh => by rw [hh] at h1; exact absurd h1 (by decide)
  have n45 : jTk t T b ≠ 45 := fun hh => by rw [hh] at h1; exact absurd h1 (by decide)
  show WP d 227 4 [(0, zr 386)] [] 403 [] x m 403 [] Q
  apply r227_c4
  simp only [e9, e4]
  generalize jTk t T b = kk at *
  generalize jMk kk = mk at *
  clear K hC hT hc e5
  repeat' (first | (with_reducible assumption) | (with_reducible rfl) | (with_reducible apply And.intro) | (with_reducible apply zIn_mk) | (with_reducible apply zLn_mk) | ((with_reducible intro _); try (exfalso; omega)) | omega | (with_reducible exact Or.inr trivial) | (with_reducible exact Or.inl trivial) | ((exact q)) | fail)
theorem jm_l1_4 {t : Int → Int} {T A op b o b1 o1 ok b2 o2 : Int} {c c1 c2 : Int → Int} (h1 : jOp 4 (jTk t T b) ≠ 0) (g0 : jB t T A 5 op (jNx t T b) o c 1 b1 o1 c1) (g1 : jB t T A 14 op b1 (o1 + 1) (up c1 o1 (jOp 4 (jTk t T b))) ok b2 o2 c2) : jMo t T A 14 op b o c ok b2 o2 c2 := by
  intro m x Q d hd hC ob _ K
  obtain ⟨hT, ⟨b0, b1'⟩, ⟨e2, e3, e4⟩, e5, ⟨e7, o0, o1'⟩, hc, ⟨e6, p0, p1⟩, ⟨e8, A0, A1⟩, e9⟩ := id hC
  have T1 := hT.1
  have nx := jNx_bd (t := t) b1'
  have mi := jMk_i (jTk_v t T b)
  have tv := jTk_v t T b
  have bT : b < T := jTk_e (by
    rcases jOp_bd 4 (jTk t T b) with e | e
    · exact absurd e h1
    · exact e.2)
  have rb := jR_bd g0.1 nx.2.1
  have g221 : ∀ {R : Int → zM → zM → Prop}, (∀ m', jL A m m' → jM t T A m' op (jNx t T b) o c → R 0 x m') → WPc (d - 1) 221 [zr 386] 403 [] x m 403 [] R := fun h => s221s (t := t) (T := T) (A := A) (op := op) (b := b) (o := o) (c := c) (by omega) hC h
  have gs : ∀ m1, jL A m m1 → jM t T A m1 op (jNx t T b) o c → ∀ {R : Int → zM → zM → Prop}, (∀ m2, jL A m m2 → jM t T A m2 op b1 o1 c1 → R 0 x m2) → WPc (d - 1) 228 [zr 386] 403 [] x m1 403 [] R := fun m1 l1 C1 {R} h => g0.2 m1 x R (d - 1) (by omega) C1 (by omega) (by omega) (fun m2 l2 k1 _ => h m2 (l1.tr l2) (k1 rfl))
  have gp : ∀ k m2, jL A m m2 → jM t T A m2 op b1 o1 c1 → ∀ {R : Int → zM → zM → Prop}, (∀ m3, jL A m m3 → jM t T A m3 op b1 (o1 + 1) (up c1 o1 k) → R 0 x m3) → WPc (d - 1) 222 [zr 386, zi k] 403 [] x m2 403 [] R := fun k m2 l2 C2 {R} h => s222s (k := k) C2 (by omega) (fun m3 l3 C3 => h m3 (l2.tr l3) C3)
  have gl : ∀ m3, jL A m m3 → jM t T A m3 op b1 (o1 + 1) (up c1 o1 (jOp 4 (jTk t T b))) → WP d 227 4 [(0, zr 386)] [] 403 [] x m3 403 [] Q := fun m3 l3 C3 => g1.2 m3 x Q d (by omega) C3 (by omega) (by omega) (fun m' l' q1 q0 => K m' (l3.tr l') q1 (fun e => jFl_w (by omega) (q0 e)))
  show WP d 227 4 [(0, zr 386)] [] 403 [] x m 403 [] Q
  apply r227_c4
  simp only [e9, e4]
  obtain ⟨kk, hkk⟩ : ∃ kk, kk = jTk t T b := ⟨_, rfl⟩
  rw [← hkk] at mi tv h1 ⊢
  rw [← hkk] at gl
  obtain ⟨mk, hmk⟩ : ∃ mk, mk = jMk kk := ⟨_, rfl⟩
  rw [← hmk] at mi ⊢
  clear K hC hT hc e5 g0 g1
  by_cases k43 : kk = 43
  · have ho : jOp 4 kk = 26 := by rw [k43]; rfl
    rw [ho] at gl
    have g2 := @gp 26
    clear gp hkk hmk e4 ho h1
    repeat' (first | (with_reducible assumption) | (with_reducible rfl) | (with_reducible apply And.intro) | (with_reducible apply zIn_mk) | (with_reducible apply zLn_mk) | ((with_reducible intro _); try (exfalso; omega)) | omega | (with_reducible exact Or.inr trivial) | (with_reducible exact Or.inl trivial) | ((refine g221 ?_)) | ((refine gs _ (by assumption) (by assumption) ?_)) | ((refine g2 _ (by assumption) (by assumption) ?_)) | ((exact gl _ (by assumption) (by assumption))) | fail)
  · skip
    by_cases k45 : kk = 45
    · have ho : jOp 4 kk = 27 := by rw [k45]; rfl
      rw [ho] at gl
      have g2 := @gp 27
      clear gp hkk hmk e4 ho h1
      repeat' (first | (with_reducible assumption) | (with_reducible rfl) | (with_reducible apply And.intro) | (with_reducible apply zIn_mk) | (with_reducible apply zLn_mk) | ((with_reducible intro _); try (exfalso; omega)) | omega | (with_reducible exact Or.inr trivial) | (with_reducible exact Or.inl trivial) | ((refine g221 ?_)) | ((refine gs _ (by assumption) (by assumption) ?_)) | ((refine g2 _ (by assumption) (by assumption) ?_)) | ((exact gl _ (by assumption) (by assumption))) | fail)
    · skip
      exfalso
      apply h1
      unfold jOp
      (repeat' split) <;> omega
theorem jm_l2_4 {t : Int → Int} {T A op b o b1 o1 ok b2 o2 : Int} {c c1 c2 : Int → Int} (h1 : jOp 4 (jTk t T b) ≠ 0) (g0 : jB t T A 5 op (jNx t T b) o c 0 b1 o1 c1) : jMo t T A 14 op b o c 0 b1 o1 c1 := by
  intro m x Q d hd hC ob _ K
  obtain ⟨hT, ⟨b0, b1'⟩, ⟨e2, e3, e4⟩, e5, ⟨e7, o0, o1'⟩, hc, ⟨e6, p0, p1⟩, ⟨e8, A0, A1⟩, e9⟩ := id hC
  have T1 := hT.1
  have nx := jNx_bd (t := t) b1'
  have mi := jMk_i (jTk_v t T b)
  have tv := jTk_v t T b
  have bT : b < T := jTk_e (by
    rcases jOp_bd 4 (jTk t T b) with e | e
    · exact absurd e h1
    · exact e.2)
  have rb := jR_bd g0.1 nx.2.1
  have g221 : ∀ {R : Int → zM → zM → Prop}, (∀ m', jL A m m' → jM t T A m' op (jNx t T b) o c → R 0 x m') → WPc (d - 1) 221 [zr 386] 403 [] x m 403 [] R := fun h => s221s (t := t) (T := T) (A := A) (op := op) (b := b) (o := o) (c := c) (by omega) hC h
  have gs : ∀ m1, jL A m m1 → jM t T A m1 op (jNx t T b) o c → ∀ {R : Int → zM → zM → Prop}, (∀ m2, jL A m m2 → jFl A m2 op b1 (o + (b1 - jNx t T b)) → R 0 x m2) → WPc (d - 1) 228 [zr 386] 403 [] x m1 403 [] R := fun m1 l1 C1 {R} h => g0.2 m1 x R (d - 1) (by omega) C1 (by omega) (by omega) (fun m2 l2 _ k0 => h m2 (l1.tr l2) (k0 rfl))
  have gp : ∀ k m2, jL A m m2 → jFl A m2 op b1 (o + (b1 - jNx t T b)) → ∀ {R : Int → zM → zM → Prop}, (∀ m3, jL A m m3 → jFl A m3 op b1 (o + (b1 - jNx t T b) + 1) → R 0 x m3) → WPc (d - 1) 222 [zr 386, zi k] 403 [] x m2 403 [] R := fun k m2 l2 C2 {R} h => s222f (k := k) C2 A0 A1 (by omega) (fun m3 l3 C3 => h m3 (l2.tr l3) C3)
  have gl : ∀ m3, jL A m m3 → jFl A m3 op b1 (o + (b1 - jNx t T b) + 1) → WP d 227 4 [(0, zr 386)] [] 403 [] x m3 403 [] Q := fun m3 l3 F3 => by
    have q := K m3 l3 (fun e => absurd e (by decide)) (fun _ => jFl_w (by omega) F3)
    have f19 := F3.2.1
    apply r227_c4
    rw [f19]
    exact ⟨fun _ => q, fun hh => absurd hh (by decide)⟩
  show WP d 227 4 [(0, zr 386)] [] 403 [] x m 403 [] Q
  apply r227_c4
  simp only [e9, e4]
  obtain ⟨kk, hkk⟩ : ∃ kk, kk = jTk t T b := ⟨_, rfl⟩
  rw [← hkk] at mi tv h1 ⊢
  obtain ⟨mk, hmk⟩ : ∃ mk, mk = jMk kk := ⟨_, rfl⟩
  rw [← hmk] at mi ⊢
  clear K hC hT hc e5 g0 
  by_cases k43 : kk = 43
  · have ho : jOp 4 kk = 26 := by rw [k43]; rfl
    have g2 := @gp 26
    clear gp hkk hmk e4 ho h1
    repeat' (first | (with_reducible assumption) | (with_reducible rfl) | (with_reducible apply And.intro) | (with_reducible apply zIn_mk) | (with_reducible apply zLn_mk) | ((with_reducible intro _); try (exfalso; omega)) | omega | (with_reducible exact Or.inr trivial) | (with_reducible exact Or.inl trivial) | ((refine g221 ?_)) | ((refine gs _ (by assumption) (by assumption) ?_)) | ((refine g2 _ (by assumption) (by assumption) ?_)) | ((exact gl _ (by assumption) (by assumption))) | fail)
  · skip
    by_cases k45 : kk = 45
    · have ho : jOp 4 kk = 27 := by rw [k45]; rfl
      have g2 := @gp 27
      clear gp hkk hmk e4 ho h1
      repeat' (first | (with_reducible assumption) | (with_reducible rfl) | (with_reducible apply And.intro) | (with_reducible apply zIn_mk) | (with_reducible apply zLn_mk) | ((with_reducible intro _); try (exfalso; omega)) | omega | (with_reducible exact Or.inr trivial) | (with_reducible exact Or.inl trivial) | ((refine g221 ?_)) | ((refine gs _ (by assumption) (by assumption) ?_)) | ((refine g2 _ (by assumption) (by assumption) ?_)) | ((exact gl _ (by assumption) (by assumption))) | fail)
    · skip
      exfalso
      apply h1
      unfold jOp
      (repeat' split) <;> omega
theorem jm_c1_5 {t : Int → Int} {T A op b o b1 o1 ok b2 o2 : Int} {c c1 c2 : Int → Int} (g0 : jB t T A 6 op b o c 1 b1 o1 c1) (g1 : jB t T A 15 op b1 o1 c1 ok b2 o2 c2) : jMo t T A 5 op b o c ok b2 o2 c2 := by
  intro m x Q d hd hC ob _ K
  obtain ⟨hT, ⟨b0, b1'⟩, ⟨e2, e3, e4⟩, e5, ⟨e7, o0, o1'⟩, hc, ⟨e6, p0, p1⟩, ⟨e8, A0, A1⟩, e9⟩ := id hC
  have T1 := hT.1
  have nx := jNx_bd (t := t) b1'
  have mi := jMk_i (jTk_v t T b)
  have tv := jTk_v t T b
  have rb := jR_bd g0.1 b1'
  show WPc d 228 [zr 386] 403 [] x m 403 [] Q
  apply r228
  refine ⟨by omega, ?_⟩
  refine g0.2 m x _ (d - 1) (by omega) hC ob (by omega) ?_
  intro m1 l1 k1 k0
  refine g1.2 m1 x Q d (by omega) (k1 rfl) (by omega) (by omega) ?_
  intro m' l' q1 q0
  exact K m' (l1.tr l') q1 (fun e => jFl_w (by omega) (q0 e))
theorem jm_c2_5 {t : Int → Int} {T A op b o b1 o1 ok b2 o2 : Int} {c c1 c2 : Int → Int} (g0 : jB t T A 6 op b o c 0 b1 o1 c1) : jMo t T A 5 op b o c 0 b1 o1 c1 := by
  intro m x Q d hd hC ob _ K
  obtain ⟨hT, ⟨b0, b1'⟩, ⟨e2, e3, e4⟩, e5, ⟨e7, o0, o1'⟩, hc, ⟨e6, p0, p1⟩, ⟨e8, A0, A1⟩, e9⟩ := id hC
  have T1 := hT.1
  have nx := jNx_bd (t := t) b1'
  have mi := jMk_i (jTk_v t T b)
  have tv := jTk_v t T b
  show WPc d 228 [zr 386] 403 [] x m 403 [] Q
  apply r228
  refine ⟨by omega, ?_⟩
  refine g0.2 m x _ (d - 1) (by omega) hC ob (by omega) ?_
  intro m1 l1 k1 k0
  have F := k0 rfl
  have f19 := F.2.1
  have q := K m1 l1 (fun e => absurd e (by decide)) (fun _ => F)
  apply r228_c4
  rw [f19]
  exact ⟨fun _ => q, fun hh => absurd hh (by decide)⟩
theorem jm_l0_5 {t : Int → Int} {T A op b o b1 o1 ok b2 o2 : Int} {c c1 c2 : Int → Int} (h1 : jOp 5 (jTk t T b) = 0) : jMo t T A 15 op b o c 1 b o c := by
  intro m x Q d hd hC ob _ K
  obtain ⟨hT, ⟨b0, b1'⟩, ⟨e2, e3, e4⟩, e5, ⟨e7, o0, o1'⟩, hc, ⟨e6, p0, p1⟩, ⟨e8, A0, A1⟩, e9⟩ := id hC
  have T1 := hT.1
  have nx := jNx_bd (t := t) b1'
  have mi := jMk_i (jTk_v t T b)
  have tv := jTk_v t T b
  have q := K m (jL.rf A m) (fun _ => hC) (fun e => absurd e (by decide))
  have n42 : jTk t T b ≠ 42 := fun hh => by rw [hh] at h1; exact absurd h1 (by decide)
  have n47 : jTk t T b ≠ 47 := fun hh => by rw [hh] at h1; exact absurd h1 (by decide)
  have n37 : jTk t T b ≠ 37 := fun hh => by rw [hh] at h1; exact absurd h1 (by decide)
  show WP d 228 4 [(0, zr 386)] [] 403 [] x m 403 [] Q
  apply r228_c4
  simp only [e9, e4]
  generalize jTk t T b = kk at *
  generalize jMk kk = mk at *
  clear K hC hT hc e5
  repeat' (first | (with_reducible assumption) | (with_reducible rfl) | (with_reducible apply And.intro) | (with_reducible apply zIn_mk) | (with_reducible apply zLn_mk) | ((with_reducible intro _); try (exfalso; omega)) | omega | (with_reducible exact Or.inr trivial) | (with_reducible exact Or.inl trivial) | ((exact q)) | fail)
theorem jm_l1_5 {t : Int → Int} {T A op b o b1 o1 ok b2 o2 : Int} {c c1 c2 : Int → Int} (h1 : jOp 5 (jTk t T b) ≠ 0) (g0 : jB t T A 6 op (jNx t T b) o c 1 b1 o1 c1) (g1 : jB t T A 15 op b1 (o1 + 1) (up c1 o1 (jOp 5 (jTk t T b))) ok b2 o2 c2) : jMo t T A 15 op b o c ok b2 o2 c2 := by
  intro m x Q d hd hC ob _ K
  obtain ⟨hT, ⟨b0, b1'⟩, ⟨e2, e3, e4⟩, e5, ⟨e7, o0, o1'⟩, hc, ⟨e6, p0, p1⟩, ⟨e8, A0, A1⟩, e9⟩ := id hC
  have T1 := hT.1
  have nx := jNx_bd (t := t) b1'
  have mi := jMk_i (jTk_v t T b)
  have tv := jTk_v t T b
  have bT : b < T := jTk_e (by
    rcases jOp_bd 5 (jTk t T b) with e | e
    · exact absurd e h1
    · exact e.2)
  have rb := jR_bd g0.1 nx.2.1
  have g221 : ∀ {R : Int → zM → zM → Prop}, (∀ m', jL A m m' → jM t T A m' op (jNx t T b) o c → R 0 x m') → WPc (d - 1) 221 [zr 386] 403 [] x m 403 [] R := fun h => s221s (t := t) (T := T) (A := A) (op := op) (b := b) (o := o) (c := c) (by omega) hC h
  have gs : ∀ m1, jL A m m1 → jM t T A m1 op (jNx t T b) o c → ∀ {R : Int → zM → zM → Prop}, (∀ m2, jL A m m2 → jM t T A m2 op b1 o1 c1 → R 0 x m2) → WPc (d - 1) 229 [zr 386] 403 [] x m1 403 [] R := fun m1 l1 C1 {R} h => g0.2 m1 x R (d - 1) (by omega) C1 (by omega) (by omega) (fun m2 l2 k1 _ => h m2 (l1.tr l2) (k1 rfl))
  have gp : ∀ k m2, jL A m m2 → jM t T A m2 op b1 o1 c1 → ∀ {R : Int → zM → zM → Prop}, (∀ m3, jL A m m3 → jM t T A m3 op b1 (o1 + 1) (up c1 o1 k) → R 0 x m3) → WPc (d - 1) 222 [zr 386, zi k] 403 [] x m2 403 [] R := fun k m2 l2 C2 {R} h => s222s (k := k) C2 (by omega) (fun m3 l3 C3 => h m3 (l2.tr l3) C3)
  have gl : ∀ m3, jL A m m3 → jM t T A m3 op b1 (o1 + 1) (up c1 o1 (jOp 5 (jTk t T b))) → WP d 228 4 [(0, zr 386)] [] 403 [] x m3 403 [] Q := fun m3 l3 C3 => g1.2 m3 x Q d (by omega) C3 (by omega) (by omega) (fun m' l' q1 q0 => K m' (l3.tr l') q1 (fun e => jFl_w (by omega) (q0 e)))
  show WP d 228 4 [(0, zr 386)] [] 403 [] x m 403 [] Q
  apply r228_c4
  simp only [e9, e4]
  obtain ⟨kk, hkk⟩ : ∃ kk, kk = jTk t T b := ⟨_, rfl⟩
  rw [← hkk] at mi tv h1 ⊢
  rw [← hkk] at gl
  obtain ⟨mk, hmk⟩ : ∃ mk, mk = jMk kk := ⟨_, rfl⟩
  rw [← hmk] at mi ⊢
  clear K hC hT hc e5 g0 g1
  by_cases k42 : kk = 42
  · have ho : jOp 5 kk = 28 := by rw [k42]; rfl
    rw [ho] at gl
    have g2 := @gp 28
    clear gp hkk hmk e4 ho h1
    repeat' (first | (with_reducible assumption) | (with_reducible rfl) | (with_reducible apply And.intro) | (with_reducible apply zIn_mk) | (with_reducible apply zLn_mk) | ((with_reducible intro _); try (exfalso; omega)) | omega | (with_reducible exact Or.inr trivial) | (with_reducible exact Or.inl trivial) | ((refine g221 ?_)) | ((refine gs _ (by assumption) (by assumption) ?_)) | ((refine g2 _ (by assumption) (by assumption) ?_)) | ((exact gl _ (by assumption) (by assumption))) | fail)
  · skip
    by_cases k47 : kk = 47
    · have ho : jOp 5 kk = 29 := by rw [k47]; rfl
      rw [ho] at gl
      have g2 := @gp 29
      clear gp hkk hmk e4 ho h1
      repeat' (first | (with_reducible assumption) | (with_reducible rfl) | (with_reducible apply And.intro) | (with_reducible apply zIn_mk) | (with_reducible apply zLn_mk) | ((with_reducible intro _); try (exfalso; omega)) | omega | (with_reducible exact Or.inr trivial) | (with_reducible exact Or.inl trivial) | ((refine g221 ?_)) | ((refine gs _ (by assumption) (by assumption) ?_)) | ((refine g2 _ (by assumption) (by assumption) ?_)) | ((exact gl _ (by assumption) (by assumption))) | fail)
    · skip
      by_cases k37 : kk = 37
      · have ho : jOp 5 kk = 30 := by rw [k37]; rfl
        rw [ho] at gl
        have g2 := @gp 30
        clear gp hkk hmk e4 ho h1
        repeat' (first | (with_reducible assumption) | (with_reducible rfl) | (with_reducible apply And.intro) | (with_reducible apply zIn_mk) | (with_reducible apply zLn_mk) | ((with_reducible intro _); try (exfalso; omega)) | omega | (with_reducible exact Or.inr trivial) | (with_reducible exact Or.inl trivial) | ((refine g221 ?_)) | ((refine gs _ (by assumption) (by assumption) ?_)) | ((refine g2 _ (by assumption) (by assumption) ?_)) | ((exact gl _ (by assumption) (by assumption))) | fail)
      · skip
        exfalso
        apply h1
        unfold jOp
        (repeat' split) <;> omega
theorem jm_l2_5 {t : Int → Int} {T A op b o b1 o1 ok b2 o2 : Int} {c c1 c2 : Int → Int} (h1 : jOp 5 (jTk t T b) ≠ 0) (g0 : jB t T A 6 op (jNx t T b) o c 0 b1 o1 c1) : jMo t T A 15 op b o c 0 b1 o1 c1 := by
  intro m x Q d hd hC ob _ K
  obtain ⟨hT, ⟨b0, b1'⟩, ⟨e2, e3, e4⟩, e5, ⟨e7, o0, o1'⟩, hc, ⟨e6, p0, p1⟩, ⟨e8, A0, A1⟩, e9⟩ := id hC
  have T1 := hT.1
  have nx := jNx_bd (t := t) b1'
  have mi := jMk_i (jTk_v t T b)
  have tv := jTk_v t T b
  have bT : b < T := jTk_e (by
    rcases jOp_bd 5 (jTk t T b) with e | e
    · exact absurd e h1
    · exact e.2)
  have rb := jR_bd g0.1 nx.2.1
  have g221 : ∀ {R : Int → zM → zM → Prop}, (∀ m', jL A m m' → jM t T A m' op (jNx t T b) o c → R 0 x m') → WPc (d - 1) 221 [zr 386] 403 [] x m 403 [] R := fun h => s221s (t := t) (T := T) (A := A) (op := op) (b := b) (o := o) (c := c) (by omega) hC h
  have gs : ∀ m1, jL A m m1 → jM t T A m1 op (jNx t T b) o c → ∀ {R : Int → zM → zM → Prop}, (∀ m2, jL A m m2 → jFl A m2 op b1 (o + (b1 - jNx t T b)) → R 0 x m2) → WPc (d - 1) 229 [zr 386] 403 [] x m1 403 [] R := fun m1 l1 C1 {R} h => g0.2 m1 x R (d - 1) (by omega) C1 (by omega) (by omega) (fun m2 l2 _ k0 => h m2 (l1.tr l2) (k0 rfl))
  have gp : ∀ k m2, jL A m m2 → jFl A m2 op b1 (o + (b1 - jNx t T b)) → ∀ {R : Int → zM → zM → Prop}, (∀ m3, jL A m m3 → jFl A m3 op b1 (o + (b1 - jNx t T b) + 1) → R 0 x m3) → WPc (d - 1) 222 [zr 386, zi k] 403 [] x m2 403 [] R := fun k m2 l2 C2 {R} h => s222f (k := k) C2 A0 A1 (by omega) (fun m3 l3 C3 => h m3 (l2.tr l3) C3)
  have gl : ∀ m3, jL A m m3 → jFl A m3 op b1 (o + (b1 - jNx t T b) + 1) → WP d 228 4 [(0, zr 386)] [] 403 [] x m3 403 [] Q := fun m3 l3 F3 => by
    have q := K m3 l3 (fun e => absurd e (by decide)) (fun _ => jFl_w (by omega) F3)
    have f19 := F3.2.1
    apply r228_c4
    rw [f19]
    exact ⟨fun _ => q, fun hh => absurd hh (by decide)⟩
  show WP d 228 4 [(0, zr 386)] [] 403 [] x m 403 [] Q
  apply r228_c4
  simp only [e9, e4]
  obtain ⟨kk, hkk⟩ : ∃ kk, kk = jTk t T b := ⟨_, rfl⟩
  rw [← hkk] at mi tv h1 ⊢
  obtain ⟨mk, hmk⟩ : ∃ mk, mk = jMk kk := ⟨_, rfl⟩
  rw [← hmk] at mi ⊢
  clear K hC hT hc e5 g0 
  by_cases k42 : kk = 42
  · have ho : jOp 5 kk = 28 := by rw [k42]; rfl
    have g2 := @gp 28
    clear gp hkk hmk e4 ho h1
    repeat' (first | (with_reducible assumption) | (with_reducible rfl) | (with_reducible apply And.intro) | (with_reducible apply zIn_mk) | (with_reducible apply zLn_mk) | ((with_reducible intro _); try (exfalso; omega)) | omega | (with_reducible exact Or.inr trivial) | (with_reducible exact Or.inl trivial) | ((refine g221 ?_)) | ((refine gs _ (by assumption) (by assumption) ?_)) | ((refine g2 _ (by assumption) (by assumption) ?_)) | ((exact gl _ (by assumption) (by assumption))) | fail)
  · skip
    by_cases k47 : kk = 47
    · have ho : jOp 5 kk = 29 := by rw [k47]; rfl
      have g2 := @gp 29
      clear gp hkk hmk e4 ho h1
      repeat' (first | (with_reducible assumption) | (with_reducible rfl) | (with_reducible apply And.intro) | (with_reducible apply zIn_mk) | (with_reducible apply zLn_mk) | ((with_reducible intro _); try (exfalso; omega)) | omega | (with_reducible exact Or.inr trivial) | (with_reducible exact Or.inl trivial) | ((refine g221 ?_)) | ((refine gs _ (by assumption) (by assumption) ?_)) | ((refine g2 _ (by assumption) (by assumption) ?_)) | ((exact gl _ (by assumption) (by assumption))) | fail)
    · skip
      by_cases k37 : kk = 37
      · have ho : jOp 5 kk = 30 := by rw [k37]; rfl
        have g2 := @gp 30
        clear gp hkk hmk e4 ho h1
        repeat' (first | (with_reducible assumption) | (with_reducible rfl) | (with_reducible apply And.intro) | (with_reducible apply zIn_mk) | (with_reducible apply zLn_mk) | ((with_reducible intro _); try (exfalso; omega)) | omega | (with_reducible exact Or.inr trivial) | (with_reducible exact Or.inl trivial) | ((refine g221 ?_)) | ((refine gs _ (by assumption) (by assumption) ?_)) | ((refine g2 _ (by assumption) (by assumption) ?_)) | ((exact gl _ (by assumption) (by assumption))) | fail)
      · skip
        exfalso
        apply h1
        unfold jOp
        (repeat' split) <;> omega
