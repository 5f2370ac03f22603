/-! THE CLASS READS WHAT IS JOINED BY SIGNS -/
def jC (t : Int → Int) (T : Int) (x : zM) (b o : Int) (c : Int → Int) : Prop := jTp x t T ∧ (0 ≤ b ∧ b ≤ T) ∧ (x 325 2 = jTe t T b ∧ x 325 3 = jTk t T b ∧ x 325 4 = b) ∧ (2 ≤ jTk t T b → jTk t T b ≤ 4 → x 325 5 = jTv t T b) ∧ (x 325 7 = o ∧ 0 ≤ o ∧ o ≤ 120) ∧ (∀ i, 0 ≤ i → i < o → x 327 i = gCc (c i))
def jH (x x' : zM) : Prop := (∀ k, k ≠ 325 → k ≠ 327 → x' k = x k) ∧ (∀ i, i = 1 ∨ i = 8 ∨ i = 9 → x' 325 i = x 325 i)
theorem jH.rf (x : zM) : jH x x := ⟨fun _ _ _ => rfl, fun _ _ => rfl⟩
theorem jH.tr {x x' x'' : zM} (h : jH x x') (h' : jH x' x'') : jH x x'' := ⟨fun k a b => by rw [h'.1 k a b, h.1 k a b], fun i a => by rw [h'.2 i a, h.2 i a]⟩
theorem jH.f {x x' : zM} (h : jF x x') : jH x x' := ⟨fun k a _ => h.1 k a, fun i a => h.2 i (by omega) (by omega) (by omega) (by omega)⟩
theorem c87s {d : Nat} {t : Int → Int} {T b o : Int} {c : Int → Int} {x m : zM} {Q : Int → zM → zM → Prop} (hd : 10 ≤ d) (hC : jC t T x b o c) (h : ∀ x', jH x x' → jC t T x' (jNx t T b) o c → Q 0 x' m) : WPc d 87 [zr 325] 403 [] x m 403 [] Q := by
  obtain ⟨hT, ⟨b0, b1⟩, ⟨e2, e3, e4⟩, e5, ⟨e7, o0, o1⟩, hc⟩ := hC
  have te := jTe_bd (t := t) b1
  have nx := jNx_bd (t := t) b1
  refine c87 (t := t) (T := T) (a := jTe t T b) hd hT e2 (by omega) te.2.1 rfl ?_
  intro x' g g2 g4 g3 g5
  exact h x' (jH.f g) ⟨jTp_f g hT, ⟨by omega, nx.2.1⟩, ⟨g2, g3, g4⟩, g5, ⟨by rw [g.2 7 (by decide) (by decide) (by decide) (by decide)]; exact e7, o0, o1⟩, by rw [g.1 327 (by decide)]; exact hc⟩
theorem c85s {d : Nat} {t : Int → Int} {T b o k v : Int} {c : Int → Int} {x m : zM} {Q : Int → zM → zM → Prop} (hC : jC t T x b o c) (ho : o < 120) (hv : v = gCc k) (h : ∀ x', jH x x' → jC t T x' b (o + 1) (up c o k) → Q 1 x' m) : WPc d 85 [zr 325, zi v] 403 [] x m 403 [] Q := by
  obtain ⟨hT, hb, ⟨e2, e3, e4⟩, e5, ⟨e7, o0, o1⟩, hc⟩ := hC
  have k2 := h (zupd (zupd x 327 o v) 325 7 (o + 1)) ⟨fun k a b => by rw [zu_ne _ _ _ a, zu_ne _ _ _ b], fun i a => by rw [zu_eq, up_ne (by omega), zu_ne _ _ _ (by decide)]⟩ ⟨⟨hT.1, by rw [zu_eq, up_ne (by omega), zu_ne _ _ _ (by decide)]; exact hT.2.1, by rw [zu_ne _ _ _ (by decide), zu_ne _ _ _ (by decide)]; exact hT.2.2⟩, hb, ⟨by rw [zu_eq, up_ne (by omega), zu_ne _ _ _ (by decide)]; exact e2, by rw [zu_eq, up_ne (by omega), zu_ne _ _ _ (by decide)]; exact e3, by rw [zu_eq, up_ne (by omega), zu_ne _ _ _ (by decide)]; exact e4⟩, fun q q' => by rw [zu_eq, up_ne (by omega), zu_ne _ _ _ (by decide)]; exact e5 q q', ⟨by rw [zu_eq, up_at rfl], by omega, by omega⟩, fun i i0 i1 => by
    rw [zu_ne _ _ _ (by decide), zu_eq]
    by_cases ci : i = o
    · rw [up_at ci, up_at ci]; exact hv
    · rw [up_ne ci, up_ne ci]; exact hc i i0 (by omega)⟩
  apply r85
  intro hz
  rw [e7]
  exact ⟨fun hh => absurd hh (by omega), fun _ => ⟨by omega, by unfold zIn; omega, Or.inr rfl, k2⟩⟩
def jK (t : Int → Int) (T : Int) (x m : zM) (Q : Int → zM → zM → Prop) (l : Nat) (op b o : Int) (c : Int → Int) : Prop := ∀ ok b2 o2 c2 x', jR t T l op b o c ok b2 o2 c2 → jH x x' → (ok = 1 → jC t T x' b2 o2 c2) → (ok = 0 → x' 325 10 = b2) → Q ok x' m
/-- what is known of all that is less -/
def jIC (t : Int → Int) (T : Int) (m : zM) (N : Int) : Prop := ∀ (l : Nat) (op b o : Int) (c : Int → Int) (x : zM) (Q : Int → zM → zM → Prop) (d : Nat), l ≤ 6 → (T - b) * 8 + 7 - l < N → 0 ≤ op → op ≤ 6 → 59 - l - 7 * op ≤ d → jC t T x b o c → o ≤ b → jK t T x m Q l op b o c → WPc d (78 + l) [zr 325, zi op] 403 [] x m 403 [] Q

theorem jc_w0 {d : Nat} {t : Int → Int} {T op N : Int} {m : zM} {Q : Int → zM → zM → Prop} (hd : 59 - 0 - 7 * op ≤ (d : Int)) (op0 : 0 ≤ op) (op1 : op ≤ 6) (IH : jIC t T m N) : ∀ (n : Nat) (b o i : Int) (c : Int → Int) (x : zM), T - b < n → (T - b) * 8 ≤ N → jC t T x b o c → o ≤ b → 0 ≤ i → i ≤ b → jK t T x m Q 10 op b o c → WP d 78 8 [(0, zr 325), (1, zi op), (2, zi 1), (3, zi i)] [] 403 [] x m 403 [] Q
  | 0, b, o, i, c, x => fun hn _ hC => by
    have := hC.2.1
    omega
  | n + 1, b, o, i, c, x => fun hn hN hC ob i0 i1 K => by
    obtain ⟨hT, ⟨b0, b1⟩, ⟨e2, e3, e4⟩, e5, ⟨e7, o0, o1⟩, hc⟩ := id hC
    have T1 := hT.1
    have nx := jNx_bd (t := t) b1
    have f0 : ∀ y : zM, ∀ v, Q 0 y m → WP d 78 8 [(0, zr 325), (1, zi op), (2, zi 0), (3, zi v)] [] 403 [] y m 403 [] Q := fun y v hq => by
      apply r78_c8
      exact ⟨fun _ => ⟨Or.inl rfl, hq⟩, fun _ => ⟨fun _ => ⟨Or.inl rfl, hq⟩, fun hh => absurd rfl hh⟩⟩
    obtain ⟨kk, hkk⟩ : ∃ kk, kk = jTk t T b := ⟨_, rfl⟩
    have bT : kk ≠ 0 → b < T := fun hh => jTk_e (by rw [← hkk]; exact hh)
    have sub : kk ≠ 0 → ∀ {R0 R1 : zM → zM → Prop}, (∀ b2 o2 c2 x2, jR t T 1 op (jNx t T b) o c 0 b2 o2 c2 → jH x x2 → x2 325 10 = b2 → R0 x2 m) → (∀ b2 o2 c2 x2, jR t T 1 op (jNx t T b) o c 1 b2 o2 c2 → jH x x2 → jC t T x2 b2 o2 c2 → R1 x2 m) → WPc (d - 1) 87 [zr 325] 403 [] x m 403 [] (fun _ x2 m3 => 1 ≤ d ∧ WPc (d - 1) 79 [zr 325, zi op] 403 [] x2 m3 403 [] (fun q4 x5 m6 => (q4 = 0 ∨ q4 = 1) → (q4 = 0 → R0 x5 m6) ∧ (q4 ≠ 0 → R1 x5 m6))) := fun hk {R0 R1} r0 r1 => by
      have hb := bT hk
      refine c87s (t := t) (T := T) (b := b) (o := o) (c := c) (by omega) hC (fun x1 h1 C1 => ⟨by omega, ?_⟩)
      refine IH 1 op (jNx t T b) o c x1 _ (d - 1) (by omega) (by omega) op0 op1 (by omega) C1 (by omega) ?_
      intro ok b2 o2 c2 x2 r h2 k1 k0 hq
      refine ⟨fun e => ?_, fun e => ?_⟩
      · subst e
        exact r0 b2 o2 c2 x2 r (h1.tr h2) (k0 rfl)
      · have e1 : ok = 1 := by omega
        subst e1
        exact r1 b2 o2 c2 x2 r (h1.tr h2) (k1 rfl)
    have fin0 : jOp 0 kk ≠ 0 → ∀ b2 o2 c2 x2, jR t T 1 op (jNx t T b) o c 0 b2 o2 c2 → jH x x2 → x2 325 10 = b2 → WP d 78 8 [(0, zr 325), (1, zi op), (2, zi 0), (3, zi (i + 1))] [] 403 [] x2 m 403 [] Q := fun ho b2 o2 c2 x2 r h2 k => f0 x2 _ (K 0 b2 o2 c2 x2 (jR_l2 (l := 0) (by unfold jSub; omega) (by rw [← hkk]; exact ho) r) h2 (fun e => absurd e (by decide)) (fun _ => k))
    have fin1 : kk ≠ 0 → jOp 0 kk ≠ 0 → ∀ v, v = gCc (jOp 0 kk) → ∀ b2 o2 c2 x2, jR t T 1 op (jNx t T b) o c 1 b2 o2 c2 → jH x x2 → jC t T x2 b2 o2 c2 → WPc (d - 1) 85 [zr 325, zi v] 403 [] x2 m 403 [] (fun q7 x8 m9 => (q7 = 0 ∨ q7 = 1) → (q7 = 0 → zIn (i + 1) ∧ WP d 78 8 [(0, zr 325), (1, zi op), (2, zi 0), (3, zi (i + 1))] [] 403 [] x8 m9 403 [] Q) ∧ (q7 ≠ 0 → zIn (i + 1) ∧ WP d 78 8 [(0, zr 325), (1, zi op), (2, zi 1), (3, zi (i + 1))] [] 403 [] x8 m9 403 [] Q)) := fun hk ho v hv b2 o2 c2 x2 r h2 C2 => by
      have hb := bT hk
      have rb := jR_bd r nx.2.1
      refine c85s (k := jOp 0 kk) C2 (by omega) hv (fun x3 h3 C3 => ?_)
      intro _
      refine ⟨fun e => absurd e (by decide), fun _ => ⟨by unfold zIn; omega, ?_⟩⟩
      refine jc_w0 hd op0 op1 IH n b2 (o2 + 1) (i + 1) _ x3 (by omega) (by omega) C3 (by omega) (by omega) (by omega) ?_
      intro ok b3 o3 c3 x4 r3 h4 k1 k0
      refine K ok b3 o3 c3 x4 (jR_l1 (l := 0) (by unfold jSub; omega) (by rw [← hkk]; exact ho) r ?_) ((h2.tr h3).tr h4) k1 k0
      rw [← hkk]; exact r3
    have done : jOp 0 kk = 0 → Q 1 x m := fun ho => K 1 b o c x (jR_l0 (l := 0) (s := 1) (by unfold jSub; omega) (by rw [← hkk]; exact ho)) (jH.rf x) (fun _ => hC) (fun e => absurd e (by decide))
    rw [← hkk] at e3
    apply r78_c8
    rw [e3]
    clear K IH
    by_cases k6 : kk = 6
    · have ho : jOp 0 kk = 20 := by rw [k6]; rfl
      have hn0 : jOp 0 kk ≠ 0 := by rw [ho]; decide
      have hk0 : kk ≠ 0 := by omega
      have hb := bT hk0
      have s1 := @sub hk0
      have g0 := fin0 hn0
      have g1 := fin1 hk0 hn0 (-11) (by rw [ho]; rfl)
      clear sub fin0 fin1 done f0 hC hc hT e5 hkk ho hn0
      repeat' (first | (with_reducible assumption) | (with_reducible rfl) | (with_reducible apply And.intro) | (with_reducible apply zIn_mk) | (with_reducible apply zLn_mk) | ((with_reducible intro _); try (exfalso; omega)) | omega | (with_reducible exact Or.inr trivial) | (with_reducible exact Or.inl trivial) | ((refine s1 ?_ ?_)) | ((exact g0 _ _ _ _ (by assumption) (by assumption) (by assumption))) | ((exact g1 _ _ _ _ (by assumption) (by assumption) (by assumption))) | fail)
    · skip
      have dn := done (by unfold jOp; (repeat' split) <;> omega)
      clear sub fin0 fin1 done f0 hC hc hT e5 hkk
      repeat' (first | (with_reducible assumption) | (with_reducible rfl) | (with_reducible apply And.intro) | (with_reducible apply zIn_mk) | (with_reducible apply zLn_mk) | ((with_reducible intro _); try (exfalso; omega)) | omega | (with_reducible exact Or.inr trivial) | (with_reducible exact Or.inl trivial) | ((exact dn)) | fail)

theorem jc_0 {d : Nat} {t : Int → Int} {T op N b o : Int} {c : Int → Int} {x m : zM} {Q : Int → zM → zM → Prop} (hd : 59 - 0 - 7 * op ≤ (d : Int)) (op0 : 0 ≤ op) (op1 : op ≤ 6) (hN : N = (T - b) * 8 + 7 - 0) (IH : jIC t T m N) (hC : jC t T x b o c) (ob : o ≤ b) (K : jK t T x m Q 0 op b o c) : WPc d 78 [zr 325, zi op] 403 [] x m 403 [] Q := by
  obtain ⟨hT, ⟨b0, b1⟩, ⟨e2, e3, e4⟩, e5, ⟨e7, o0, o1⟩, hc⟩ := id hC
  have f0 : ∀ y : zM, ∀ v, Q 0 y m → WP d 78 8 [(0, zr 325), (1, zi op), (2, zi 0), (3, zi v)] [] 403 [] y m 403 [] Q := fun y v hq => by
    apply r78_c8
    exact ⟨fun _ => ⟨Or.inl rfl, hq⟩, fun _ => ⟨fun _ => ⟨Or.inl rfl, hq⟩, fun hh => absurd rfl hh⟩⟩
  apply r78
  intro _
  refine ⟨by omega, ?_⟩
  refine IH 1 op b o c x _ (d - 1) (by omega) (by omega) op0 op1 (by omega) hC ob ?_
  intro ok b2 o2 c2 x2 r h2 k1 k0 hq
  have rb := jR_bd r b1
  rcases hq with e | e
  · subst e
    exact f0 x2 0 (K 0 b2 o2 c2 x2 (jR_c2 (l := 0) (by unfold jSub; omega) r) h2 (fun e => absurd e (by decide)) k0)
  · subst e
    have C2 := k1 rfl
    refine jc_w0 (N := N) hd op0 op1 IH ((T - b2).toNat + 1) b2 o2 0 c2 x2 (by omega) (by omega) C2 (by omega) (by omega) (by omega) ?_
    intro ok b3 o3 c3 x4 r3 h4 q1 q0
    exact K ok b3 o3 c3 x4 (jR_c1 (l := 0) (by unfold jSub; omega) r r3) (h2.tr h4) q1 q0

theorem jc_w1 {d : Nat} {t : Int → Int} {T op N : Int} {m : zM} {Q : Int → zM → zM → Prop} (hd : 59 - 1 - 7 * op ≤ (d : Int)) (op0 : 0 ≤ op) (op1 : op ≤ 6) (IH : jIC t T m N) : ∀ (n : Nat) (b o i : Int) (c : Int → Int) (x : zM), T - b < n → (T - b) * 8 ≤ N → jC t T x b o c → o ≤ b → 0 ≤ i → i ≤ b → jK t T x m Q 11 op b o c → WP d 79 8 [(0, zr 325), (1, zi op), (2, zi 1), (3, zi i)] [] 403 [] x m 403 [] Q
  | 0, b, o, i, c, x => fun hn _ hC => by
    have := hC.2.1
    omega
  | n + 1, b, o, i, c, x => fun hn hN hC ob i0 i1 K => by
    obtain ⟨hT, ⟨b0, b1⟩, ⟨e2, e3, e4⟩, e5, ⟨e7, o0, o1⟩, hc⟩ := id hC
    have T1 := hT.1
    have nx := jNx_bd (t := t) b1
    have f0 : ∀ y : zM, ∀ v, Q 0 y m → WP d 79 8 [(0, zr 325), (1, zi op), (2, zi 0), (3, zi v)] [] 403 [] y m 403 [] Q := fun y v hq => by
      apply r79_c8
      exact ⟨fun _ => ⟨Or.inl rfl, hq⟩, fun _ => ⟨fun _ => ⟨Or.inl rfl, hq⟩, fun hh => absurd rfl hh⟩⟩
    obtain ⟨kk, hkk⟩ : ∃ kk, kk = jTk t T b := ⟨_, rfl⟩
    have bT : kk ≠ 0 → b < T := fun hh => jTk_e (by rw [← hkk]; exact hh)
    have sub : kk ≠ 0 → ∀ {R0 R1 : zM → zM → Prop}, (∀ b2 o2 c2 x2, jR t T 2 op (jNx t T b) o c 0 b2 o2 c2 → jH x x2 → x2 325 10 = b2 → R0 x2 m) → (∀ b2 o2 c2 x2, jR t T 2 op (jNx t T b) o c 1 b2 o2 c2 → jH x x2 → jC t T x2 b2 o2 c2 → R1 x2 m) → WPc (d - 1) 87 [zr 325] 403 [] x m 403 [] (fun _ x2 m3 => 1 ≤ d ∧ WPc (d - 1) 80 [zr 325, zi op] 403 [] x2 m3 403 [] (fun q4 x5 m6 => (q4 = 0 ∨ q4 = 1) → (q4 = 0 → R0 x5 m6) ∧ (q4 ≠ 0 → R1 x5 m6))) := fun hk {R0 R1} r0 r1 => by
      have hb := bT hk
      refine c87s (t := t) (T := T) (b := b) (o := o) (c := c) (by omega) hC (fun x1 h1 C1 => ⟨by omega, ?_⟩)
      refine IH 2 op (jNx t T b) o c x1 _ (d - 1) (by omega) (by omega) op0 op1 (by omega) C1 (by omega) ?_
      intro ok b2 o2 c2 x2 r h2 k1 k0 hq
      refine ⟨fun e => ?_, fun e => ?_⟩
      · subst e
        exact r0 b2 o2 c2 x2 r (h1.tr h2) (k0 rfl)
      · have e1 : ok = 1 := by omega
        subst e1
        exact r1 b2 o2 c2 x2 r (h1.tr h2) (k1 rfl)
    have fin0 : jOp 1 kk ≠ 0 → ∀ b2 o2 c2 x2, jR t T 2 op (jNx t T b) o c 0 b2 o2 c2 → jH x x2 → x2 325 10 = b2 → WP d 79 8 [(0, zr 325), (1, zi op), (2, zi 0), (3, zi (i + 1))] [] 403 [] x2 m 403 [] Q := fun ho b2 o2 c2 x2 r h2 k => f0 x2 _ (K 0 b2 o2 c2 x2 (jR_l2 (l := 1) (by unfold jSub; omega) (by rw [← hkk]; exact ho) r) h2 (fun e => absurd e (by decide)) (fun _ => k))
    have fin1 : kk ≠ 0 → jOp 1 kk ≠ 0 → ∀ v, v = gCc (jOp 1 kk) → ∀ b2 o2 c2 x2, jR t T 2 op (jNx t T b) o c 1 b2 o2 c2 → jH x x2 → jC t T x2 b2 o2 c2 → WPc (d - 1) 85 [zr 325, zi v] 403 [] x2 m 403 [] (fun q7 x8 m9 => (q7 = 0 ∨ q7 = 1) → (q7 = 0 → zIn (i + 1) ∧ WP d 79 8 [(0, zr 325), (1, zi op), (2, zi 0), (3, zi (i + 1))] [] 403 [] x8 m9 403 [] Q) ∧ (q7 ≠ 0 → zIn (i + 1) ∧ WP d 79 8 [(0, zr 325), (1, zi op), (2, zi 1), (3, zi (i + 1))] [] 403 [] x8 m9 403 [] Q)) := fun hk ho v hv b2 o2 c2 x2 r h2 C2 => by
      have hb := bT hk
      have rb := jR_bd r nx.2.1
      refine c85s (k := jOp 1 kk) C2 (by omega) hv (fun x3 h3 C3 => ?_)
      intro _
      refine ⟨fun e => absurd e (by decide), fun _ => ⟨by unfold zIn; omega, ?_⟩⟩
      refine jc_w1 hd op0 op1 IH n b2 (o2 + 1) (i + 1) _ x3 (by omega) (by omega) C3 (by omega) (by omega) (by omega) ?_
      intro ok b3 o3 c3 x4 r3 h4 k1 k0
      refine K ok b3 o3 c3 x4 (jR_l1 (l := 1) (by unfold jSub; omega) (by rw [← hkk]; exact ho) r ?_) ((h2.tr h3).tr h4) k1 k0
      rw [← hkk]; exact r3
    have done : jOp 1 kk = 0 → Q 1 x m := fun ho => K 1 b o c x (jR_l0 (l := 1) (s := 2) (by unfold jSub; omega) (by rw [← hkk]; exact ho)) (jH.rf x) (fun _ => hC) (fun e => absurd e (by decide))
    rw [← hkk] at e3
    apply r79_c8
    rw [e3]
    clear K IH
    by_cases k7 : kk = 7
    · have ho : jOp 1 kk = 21 := by rw [k7]; rfl
      have hn0 : jOp 1 kk ≠ 0 := by rw [ho]; decide
      have hk0 : kk ≠ 0 := by omega
      have hb := bT hk0
      have s1 := @sub hk0
      have g0 := fin0 hn0
      have g1 := fin1 hk0 hn0 (-12) (by rw [ho]; rfl)
      clear sub fin0 fin1 done f0 hC hc hT e5 hkk ho hn0
      repeat' (first | (with_reducible assumption) | (with_reducible rfl) | (with_reducible apply And.intro) | (with_reducible apply zIn_mk) | (with_reducible apply zLn_mk) | ((with_reducible intro _); try (exfalso; omega)) | omega | (with_reducible exact Or.inr trivial) | (with_reducible exact Or.inl trivial) | ((refine s1 ?_ ?_)) | ((exact g0 _ _ _ _ (by assumption) (by assumption) (by assumption))) | ((exact g1 _ _ _ _ (by assumption) (by assumption) (by assumption))) | fail)
    · skip
      have dn := done (by unfold jOp; (repeat' split) <;> omega)
      clear sub fin0 fin1 done f0 hC hc hT e5 hkk
      repeat' (first | (with_reducible assumption) | (with_reducible rfl) | (with_reducible apply And.intro) | (with_reducible apply zIn_mk) | (with_reducible apply zLn_mk) | ((with_reducible intro _); try (exfalso; omega)) | omega | (with_reducible exact Or.inr trivial) | (with_reducible exact Or.inl trivial) | ((exact dn)) | fail)

theorem jc_1 {d : Nat} {t : Int → Int} {T op N b o : Int} {c : Int → Int} {x m : zM} {Q : Int → zM → zM → Prop} (hd : 59 - 1 - 7 * op ≤ (d : Int)) (op0 : 0 ≤ op) (op1 : op ≤ 6) (hN : N = (T - b) * 8 + 7 - 1) (IH : jIC t T m N) (hC : jC t T x b o c) (ob : o ≤ b) (K : jK t T x m Q 1 op b o c) : WPc d 79 [zr 325, zi op] 403 [] x m 403 [] Q := by
  obtain ⟨hT, ⟨b0, b1⟩, ⟨e2, e3, e4⟩, e5, ⟨e7, o0, o1⟩, hc⟩ := id hC
  have f0 : ∀ y : zM, ∀ v, Q 0 y m → WP d 79 8 [(0, zr 325), (1, zi op), (2, zi 0), (3, zi v)] [] 403 [] y m 403 [] Q := fun y v hq => by
    apply r79_c8
    exact ⟨fun _ => ⟨Or.inl rfl, hq⟩, fun _ => ⟨fun _ => ⟨Or.inl rfl, hq⟩, fun hh => absurd rfl hh⟩⟩
  apply r79
  intro _
  refine ⟨by omega, ?_⟩
  refine IH 2 op b o c x _ (d - 1) (by omega) (by omega) op0 op1 (by omega) hC ob ?_
  intro ok b2 o2 c2 x2 r h2 k1 k0 hq
  have rb := jR_bd r b1
  rcases hq with e | e
  · subst e
    exact f0 x2 0 (K 0 b2 o2 c2 x2 (jR_c2 (l := 1) (by unfold jSub; omega) r) h2 (fun e => absurd e (by decide)) k0)
  · subst e
    have C2 := k1 rfl
    refine jc_w1 (N := N) hd op0 op1 IH ((T - b2).toNat + 1) b2 o2 0 c2 x2 (by omega) (by omega) C2 (by omega) (by omega) (by omega) ?_
    intro ok b3 o3 c3 x4 r3 h4 q1 q0
    exact K ok b3 o3 c3 x4 (jR_c1 (l := 1) (by unfold jSub; omega) r r3) (h2.tr h4) q1 q0

theorem jc_w4 {d : Nat} {t : Int → Int} {T op N : Int} {m : zM} {Q : Int → zM → zM → Prop} (hd : 59 - 4 - 7 * op ≤ (d : Int)) (op0 : 0 ≤ op) (op1 : op ≤ 6) (IH : jIC t T m N) : ∀ (n : Nat) (b o i : Int) (c : Int → Int) (x : zM), T - b < n → (T - b) * 8 ≤ N → jC t T x b o c → o ≤ b → 0 ≤ i → i ≤ b → jK t T x m Q 14 op b o c → WP d 82 8 [(0, zr 325), (1, zi op), (2, zi 1), (3, zi i)] [] 403 [] x m 403 [] Q
  | 0, b, o, i, c, x => fun hn _ hC => by
    have := hC.2.1
    omega
  | n + 1, b, o, i, c, x => fun hn hN hC ob i0 i1 K => by
    obtain ⟨hT, ⟨b0, b1⟩, ⟨e2, e3, e4⟩, e5, ⟨e7, o0, o1⟩, hc⟩ := id hC
    have T1 := hT.1
    have nx := jNx_bd (t := t) b1
    have f0 : ∀ y : zM, ∀ v, Q 0 y m → WP d 82 8 [(0, zr 325), (1, zi op), (2, zi 0), (3, zi v)] [] 403 [] y m 403 [] Q := fun y v hq => by
      apply r82_c8
      exact ⟨fun _ => ⟨Or.inl rfl, hq⟩, fun _ => ⟨fun _ => ⟨Or.inl rfl, hq⟩, fun hh => absurd rfl hh⟩⟩
    obtain ⟨kk, hkk⟩ : ∃ kk, kk = jTk t T b := ⟨_, rfl⟩
    have bT : kk ≠ 0 → b < T := fun hh => jTk_e (by rw [← hkk]; exact hh)
    have sub : kk ≠ 0 → ∀ {R0 R1 : zM → zM → Prop}, (∀ b2 o2 c2 x2, jR t T 5 op (jNx t T b) o c 0 b2 o2 c2 → jH x x2 → x2 325 10 = b2 → R0 x2 m) → (∀ b2 o2 c2 x2, jR t T 5 op (jNx t T b) o c 1 b2 o2 c2 → jH x x2 → jC t T x2 b2 o2 c2 → R1 x2 m) → WPc (d - 1) 87 [zr 325] 403 [] x m 403 [] (fun _ x2 m3 => 1 ≤ d ∧ WPc (d - 1) 83 [zr 325, zi op] 403 [] x2 m3 403 [] (fun q4 x5 m6 => (q4 = 0 ∨ q4 = 1) → (q4 = 0 → R0 x5 m6) ∧ (q4 ≠ 0 → R1 x5 m6))) := fun hk {R0 R1} r0 r1 => by
      have hb := bT hk
      refine c87s (t := t) (T := T) (b := b) (o := o) (c := c) (by omega) hC (fun x1 h1 C1 => ⟨by omega, ?_⟩)
      refine IH 5 op (jNx t T b) o c x1 _ (d - 1) (by omega) (by omega) op0 op1 (by omega) C1 (by omega) ?_
      intro ok b2 o2 c2 x2 r h2 k1 k0 hq
      refine ⟨fun e => ?_, fun e => ?_⟩
      · subst e
        exact r0 b2 o2 c2 x2 r (h1.tr h2) (k0 rfl)
      · have e1 : ok = 1 := by omega
        subst e1
        exact r1 b2 o2 c2 x2 r (h1.tr h2) (k1 rfl)
    have fin0 : jOp 4 kk ≠ 0 → ∀ b2 o2 c2 x2, jR t T 5 op (jNx t T b) o c 0 b2 o2 c2 → jH x x2 → x2 325 10 = b2 → WP d 82 8 [(0, zr 325), (1, zi op), (2, zi 0), (3, zi (i + 1))] [] 403 [] x2 m 403 [] Q := fun ho b2 o2 c2 x2 r h2 k => f0 x2 _ (K 0 b2 o2 c2 x2 (jR_l2 (l := 4) (by unfold jSub; omega) (by rw [← hkk]; exact ho) r) h2 (fun e => absurd e (by decide)) (fun _ => k))
    have fin1 : kk ≠ 0 → jOp 4 kk ≠ 0 → ∀ v, v = gCc (jOp 4 kk) → ∀ b2 o2 c2 x2, jR t T 5 op (jNx t T b) o c 1 b2 o2 c2 → jH x x2 → jC t T x2 b2 o2 c2 → WPc (d - 1) 85 [zr 325, zi v] 403 [] x2 m 403 [] (fun q7 x8 m9 => (q7 = 0 ∨ q7 = 1) → (q7 = 0 → zIn (i + 1) ∧ WP d 82 8 [(0, zr 325), (1, zi op), (2, zi 0), (3, zi (i + 1))] [] 403 [] x8 m9 403 [] Q) ∧ (q7 ≠ 0 → zIn (i + 1) ∧ WP d 82 8 [(0, zr 325), (1, zi op), (2, zi 1), (3, zi (i + 1))] [] 403 [] x8 m9 403 [] Q)) := fun hk ho v hv b2 o2 c2 x2 r h2 C2 => by
      have hb := bT hk
      have rb := jR_bd r nx.2.1
      refine c85s (k := jOp 4 kk) C2 (by omega) hv (fun x3 h3 C3 => ?_)
      intro _
      refine ⟨fun e => absurd e (by decide), fun _ => ⟨by unfold zIn; omega, ?_⟩⟩
      refine jc_w4 hd op0 op1 IH n b2 (o2 + 1) (i + 1) _ x3 (by omega) (by omega) C3 (by omega) (by omega) (by omega) ?_
      intro ok b3 o3 c3 x4 r3 h4 k1 k0
      refine K ok b3 o3 c3 x4 (jR_l1 (l := 4) (by unfold jSub; omega) (by rw [← hkk]; exact ho) r ?_) ((h2.tr h3).tr h4) k1 k0
      rw [← hkk]; exact r3
    have done : jOp 4 kk = 0 → Q 1 x m := fun ho => K 1 b o c x (jR_l0 (l := 4) (s := 5) (by unfold jSub; omega) (by rw [← hkk]; exact ho)) (jH.rf x) (fun _ => hC) (fun e => absurd e (by decide))
    rw [← hkk] at e3
    apply r82_c8
    rw [e3]
    clear K IH
    by_cases k43 : kk = 43
    · have ho : jOp 4 kk = 26 := by rw [k43]; rfl
      have hn0 : jOp 4 kk ≠ 0 := by rw [ho]; decide
      have hk0 : kk ≠ 0 := by omega
      have hb := bT hk0
      have s1 := @sub hk0
      have g0 := fin0 hn0
      have g1 := fin1 hk0 hn0 (-17) (by rw [ho]; rfl)
      clear sub fin0 fin1 done f0 hC hc hT e5 hkk ho hn0
      repeat' (first | (with_reducible assumption) | (with_reducible rfl) | (with_reducible apply And.intro) | (with_reducible apply zIn_mk) | (with_reducible apply zLn_mk) | ((with_reducible intro _); try (exfalso; omega)) | omega | (with_reducible exact Or.inr trivial) | (with_reducible exact Or.inl trivial) | ((refine s1 ?_ ?_)) | ((exact g0 _ _ _ _ (by assumption) (by assumption) (by assumption))) | ((exact g1 _ _ _ _ (by assumption) (by assumption) (by assumption))) | fail)
    · skip
      by_cases k45 : kk = 45
      · have ho : jOp 4 kk = 27 := by rw [k45]; rfl
        have hn0 : jOp 4 kk ≠ 0 := by rw [ho]; decide
        have hk0 : kk ≠ 0 := by omega
        have hb := bT hk0
        have s1 := @sub hk0
        have g0 := fin0 hn0
        have g1 := fin1 hk0 hn0 (-18) (by rw [ho]; rfl)
        clear sub fin0 fin1 done f0 hC hc hT e5 hkk ho hn0
        repeat' (first | (with_reducible assumption) | (with_reducible rfl) | (with_reducible apply And.intro) | (with_reducible apply zIn_mk) | (with_reducible apply zLn_mk) | ((with_reducible intro _); try (exfalso; omega)) | omega | (with_reducible exact Or.inr trivial) | (with_reducible exact Or.inl trivial) | ((refine s1 ?_ ?_)) | ((exact g0 _ _ _ _ (by assumption) (by assumption) (by assumption))) | ((exact g1 _ _ _ _ (by assumption) (by assumption) (by assumption))) | fail)
      · skip
        have dn := done (by unfold jOp; (repeat' split) <;> omega)
        clear sub fin0 fin1 done f0 hC hc hT e5 hkk
        repeat' (first | (with_reducible assumption) | (with_reducible rfl) | (with_reducible apply And.intro) | (with_reducible apply zIn_mk) | (with_reducible apply zLn_mk) | ((with_reducible intro _); try (exfalso; omega)) | omega | (with_reducible exact Or.inr trivial) | (with_reducible exact Or.inl trivial) | ((exact dn)) | fail)

theorem jc_4 {d : Nat} {t : Int → Int} {T op N b o : Int} {c : Int → Int} {x m : zM} {Q : Int → zM → zM → Prop} (hd : 59 - 4 - 7 * op ≤ (d : Int)) (op0 : 0 ≤ op) (op1 : op ≤ 6) (hN : N = (T - b) * 8 + 7 - 4) (IH : jIC t T m N) (hC : jC t T x b o c) (ob : o ≤ b) (K : jK t T x m Q 4 op b o c) : WPc d 82 [zr 325, zi op] 403 [] x m 403 [] Q := by
  obtain ⟨hT, ⟨b0, b1⟩, ⟨e2, e3, e4⟩, e5, ⟨e7, o0, o1⟩, hc⟩ := id hC
  have f0 : ∀ y : zM, ∀ v, Q 0 y m → WP d 82 8 [(0, zr 325), (1, zi op), (2, zi 0), (3, zi v)] [] 403 [] y m 403 [] Q := fun y v hq => by
    apply r82_c8
    exact ⟨fun _ => ⟨Or.inl rfl, hq⟩, fun _ => ⟨fun _ => ⟨Or.inl rfl, hq⟩, fun hh => absurd rfl hh⟩⟩
  apply r82
  intro _
  refine ⟨by omega, ?_⟩
  refine IH 5 op b o c x _ (d - 1) (by omega) (by omega) op0 op1 (by omega) hC ob ?_
  intro ok b2 o2 c2 x2 r h2 k1 k0 hq
  have rb := jR_bd r b1
  rcases hq with e | e
  · subst e
    exact f0 x2 0 (K 0 b2 o2 c2 x2 (jR_c2 (l := 4) (by unfold jSub; omega) r) h2 (fun e => absurd e (by decide)) k0)
  · subst e
    have C2 := k1 rfl
    refine jc_w4 (N := N) hd op0 op1 IH ((T - b2).toNat + 1) b2 o2 0 c2 x2 (by omega) (by omega) C2 (by omega) (by omega) (by omega) ?_
    intro ok b3 o3 c3 x4 r3 h4 q1 q0
    exact K ok b3 o3 c3 x4 (jR_c1 (l := 4) (by unfold jSub; omega) r r3) (h2.tr h4) q1 q0

theorem jc_w5 {d : Nat} {t : Int → Int} {T op N : Int} {m : zM} {Q : Int → zM → zM → Prop} (hd : 59 - 5 - 7 * op ≤ (d : Int)) (op0 : 0 ≤ op) (op1 : op ≤ 6) (IH : jIC t T m N) : ∀ (n : Nat) (b o i : Int) (c : Int → Int) (x : zM), T - b < n → (T - b) * 8 ≤ N → jC t T x b o c → o ≤ b → 0 ≤ i → i ≤ b → jK t T x m Q 15 op b o c → WP d 83 8 [(0, zr 325), (1, zi op), (2, zi 1), (3, zi i)] [] 403 [] x m 403 [] Q
  | 0, b, o, i, c, x => fun hn _ hC => by
    have := hC.2.1
    omega
  | n + 1, b, o, i, c, x => fun hn hN hC ob i0 i1 K => by
    obtain ⟨hT, ⟨b0, b1⟩, ⟨e2, e3, e4⟩, e5, ⟨e7, o0, o1⟩, hc⟩ := id hC
    have T1 := hT.1
    have nx := jNx_bd (t := t) b1
    have f0 : ∀ y : zM, ∀ v, Q 0 y m → WP d 83 8 [(0, zr 325), (1, zi op), (2, zi 0), (3, zi v)] [] 403 [] y m 403 [] Q := fun y v hq => by
      apply r83_c8
      exact ⟨fun _ => ⟨Or.inl rfl, hq⟩, fun _ => ⟨fun _ => ⟨Or.inl rfl, hq⟩, fun hh => absurd rfl hh⟩⟩
    obtain ⟨kk, hkk⟩ : ∃ kk, kk = jTk t T b := ⟨_, rfl⟩
    have bT : kk ≠ 0 → b < T := fun hh => jTk_e (by rw [← hkk]; exact hh)
    have sub : kk ≠ 0 → ∀ {R0 R1 : zM → zM → Prop}, (∀ b2 o2 c2 x2, jR t T 6 op (jNx t T b) o c 0 b2 o2 c2 → jH x x2 → x2 325 10 = b2 → R0 x2 m) → (∀ b2 o2 c2 x2, jR t T 6 op (jNx t T b) o c 1 b2 o2 c2 → jH x x2 → jC t T x2 b2 o2 c2 → R1 x2 m) → WPc (d - 1) 87 [zr 325] 403 [] x m 403 [] (fun _ x2 m3 => 1 ≤ d ∧ WPc (d - 1) 84 [zr 325, zi op] 403 [] x2 m3 403 [] (fun q4 x5 m6 => (q4 = 0 ∨ q4 = 1) → (q4 = 0 → R0 x5 m6) ∧ (q4 ≠ 0 → R1 x5 m6))) := fun hk {R0 R1} r0 r1 => by
      have hb := bT hk
      refine c87s (t := t) (T := T) (b := b) (o := o) (c := c) (by omega) hC (fun x1 h1 C1 => ⟨by omega, ?_⟩)
      refine IH 6 op (jNx t T b) o c x1 _ (d - 1) (by omega) (by omega) op0 op1 (by omega) C1 (by omega) ?_
      intro ok b2 o2 c2 x2 r h2 k1 k0 hq
      refine ⟨fun e => ?_, fun e => ?_⟩
      · subst e
        exact r0 b2 o2 c2 x2 r (h1.tr h2) (k0 rfl)
      · have e1 : ok = 1 := by omega
        subst e1
        exact r1 b2 o2 c2 x2 r (h1.tr h2) (k1 rfl)
    have fin0 : jOp 5 kk ≠ 0 → ∀ b2 o2 c2 x2, jR t T 6 op (jNx t T b) o c 0 b2 o2 c2 → jH x x2 → x2 325 10 = b2 → WP d 83 8 [(0, zr 325), (1, zi op), (2, zi 0), (3, zi (i + 1))] [] 403 [] x2 m 403 [] Q := fun ho b2 o2 c2 x2 r h2 k => f0 x2 _ (K 0 b2 o2 c2 x2 (jR_l2 (l := 5) (by unfold jSub; omega) (by rw [← hkk]; exact ho) r) h2 (fun e => absurd e (by decide)) (fun _ => k))
    have fin1 : kk ≠ 0 → jOp 5 kk ≠ 0 → ∀ v, v = gCc (jOp 5 kk) → ∀ b2 o2 c2 x2, jR t T 6 op (jNx t T b) o c 1 b2 o2 c2 → jH x x2 → jC t T x2 b2 o2 c2 → WPc (d - 1) 85 [zr 325, zi v] 403 [] x2 m 403 [] (fun q7 x8 m9 => (q7 = 0 ∨ q7 = 1) → (q7 = 0 → zIn (i + 1) ∧ WP d 83 8 [(0, zr 325), (1, zi op), (2, zi 0), (3, zi (i + 1))] [] 403 [] x8 m9 403 [] Q) ∧ (q7 ≠ 0 → zIn (i + 1) ∧ WP d 83 8 [(0, zr 325), (1, zi op), (2, zi 1), (3, zi (i + 1))] [] 403 [] x8 m9 403 [] Q)) := fun hk ho v hv b2 o2 c2 x2 r h2 C2 => by
      have hb := bT hk
      have rb := jR_bd r nx.2.1
      refine c85s (k := jOp 5 kk) C2 (by omega) hv (fun x3 h3 C3 => ?_)
      intro _
      refine ⟨fun e => absurd e (by decide), fun _ => ⟨by unfold zIn; omega, ?_⟩⟩
      refine jc_w5 hd op0 op1 IH n b2 (o2 + 1) (i + 1) _ x3 (by omega) (by omega) C3 (by omega) (by omega) (by omega) ?_
      intro ok b3 o3 c3 x4 r3 h4 k1 k0
      refine K ok b3 o3 c3 x4 (jR_l1 (l := 5) (by unfold jSub; omega) (by rw [← hkk]; exact ho) r ?_) ((h2.tr h3).tr h4) k1 k0
      rw [← hkk]; exact r3
    have done : jOp 5 kk = 0 → Q 1 x m := fun ho => K 1 b o c x (jR_l0 (l := 5) (s := 6) (by unfold jSub; omega) (by rw [← hkk]; exact ho)) (jH.rf x) (fun _ => hC) (fun e => absurd e (by decide))
    rw [← hkk] at e3
    apply r83_c8
    rw [e3]
    clear K IH
    by_cases k42 : kk = 42
    · have ho : jOp 5 kk = 28 := by rw [k42]; rfl
      have hn0 : jOp 5 kk ≠ 0 := by rw [ho]; decide
      have hk0 : kk ≠ 0 := by omega
      have hb := bT hk0
      have s1 := @sub hk0
      have g0 := fin0 hn0
      have g1 := fin1 hk0 hn0 (-19) (by rw [ho]; rfl)
      clear sub fin0 fin1 done f0 hC hc hT e5 hkk ho hn0
      repeat' (first | (with_reducible assumption) | (with_reducible rfl) | (with_reducible apply And.intro) | (with_reducible apply zIn_mk) | (with_reducible apply zLn_mk) | ((with_reducible intro _); try (exfalso; omega)) | omega | (with_reducible exact Or.inr trivial) | (with_reducible exact Or.inl trivial) | ((refine s1 ?_ ?_)) | ((exact g0 _ _ _ _ (by assumption) (by assumption) (by assumption))) | ((exact g1 _ _ _ _ (by assumption) (by assumption) (by assumption))) | fail)
    · skip
      by_cases k47 : kk = 47
      · have ho : jOp 5 kk = 29 := by rw [k47]; rfl
        have hn0 : jOp 5 kk ≠ 0 := by rw [ho]; decide
        have hk0 : kk ≠ 0 := by omega
        have hb := bT hk0
        have s1 := @sub hk0
        have g0 := fin0 hn0
        have g1 := fin1 hk0 hn0 (-20) (by rw [ho]; rfl)
        clear sub fin0 fin1 done f0 hC hc hT e5 hkk ho hn0
        repeat' (first | (with_reducible assumption) | (with_reducible rfl) | (with_reducible apply And.intro) | (with_reducible apply zIn_mk) | (with_reducible apply zLn_mk) | ((with_reducible intro _); try (exfalso; omega)) | omega | (with_reducible exact Or.inr trivial) | (with_reducible exact Or.inl trivial) | ((refine s1 ?_ ?_)) | ((exact g0 _ _ _ _ (by assumption) (by assumption) (by assumption))) | ((exact g1 _ _ _ _ (by assumption) (by assumption) (by assumption))) | fail)
      · skip
        by_cases k37 : kk = 37
        · have ho : jOp 5 kk = 30 := by rw [k37]; rfl
          have hn0 : jOp 5 kk ≠ 0 := by rw [ho]; decide
          have hk0 : kk ≠ 0 := by omega
          have hb := bT hk0
          have s1 := @sub hk0
          have g0 := fin0 hn0
          have g1 := fin1 hk0 hn0 (-21) (by rw [ho]; rfl)
          clear sub fin0 fin1 done f0 hC hc hT e5 hkk ho hn0
          repeat' (first | (with_reducible assumption) | (with_reducible rfl) | (with_reducible apply And.intro) | (with_reducible apply zIn_mk) | (with_reducible apply zLn_mk) | ((with_reducible intro _); try (exfalso; omega)) | omega | (with_reducible exact Or.inr trivial) | (with_reducible exact Or.inl trivial) | ((refine s1 ?_ ?_)) | ((exact g0 _ _ _ _ (by assumption) (by assumption) (by assumption))) | ((exact g1 _ _ _ _ (by assumption) (by assumption) (by assumption))) | fail)
        · skip
          have dn := done (by unfold jOp; (repeat' split) <;> omega)
          clear sub fin0 fin1 done f0 hC hc hT e5 hkk
          repeat' (first | (with_reducible assumption) | (with_reducible rfl) | (with_reducible apply And.intro) | (with_reducible apply zIn_mk) | (with_reducible apply zLn_mk) | ((with_reducible intro _); try (exfalso; omega)) | omega | (with_reducible exact Or.inr trivial) | (with_reducible exact Or.inl trivial) | ((exact dn)) | fail)

theorem jc_5 {d : Nat} {t : Int → Int} {T op N b o : Int} {c : Int → Int} {x m : zM} {Q : Int → zM → zM → Prop} (hd : 59 - 5 - 7 * op ≤ (d : Int)) (op0 : 0 ≤ op) (op1 : op ≤ 6) (hN : N = (T - b) * 8 + 7 - 5) (IH : jIC t T m N) (hC : jC t T x b o c) (ob : o ≤ b) (K : jK t T x m Q 5 op b o c) : WPc d 83 [zr 325, zi op] 403 [] x m 403 [] Q := by
  obtain ⟨hT, ⟨b0, b1⟩, ⟨e2, e3, e4⟩, e5, ⟨e7, o0, o1⟩, hc⟩ := id hC
  have f0 : ∀ y : zM, ∀ v, Q 0 y m → WP d 83 8 [(0, zr 325), (1, zi op), (2, zi 0), (3, zi v)] [] 403 [] y m 403 [] Q := fun y v hq => by
    apply r83_c8
    exact ⟨fun _ => ⟨Or.inl rfl, hq⟩, fun _ => ⟨fun _ => ⟨Or.inl rfl, hq⟩, fun hh => absurd rfl hh⟩⟩
  apply r83
  intro _
  refine ⟨by omega, ?_⟩
  refine IH 6 op b o c x _ (d - 1) (by omega) (by omega) op0 op1 (by omega) hC ob ?_
  intro ok b2 o2 c2 x2 r h2 k1 k0 hq
  have rb := jR_bd r b1
  rcases hq with e | e
  · subst e
    exact f0 x2 0 (K 0 b2 o2 c2 x2 (jR_c2 (l := 5) (by unfold jSub; omega) r) h2 (fun e => absurd e (by decide)) k0)
  · subst e
    have C2 := k1 rfl
    refine jc_w5 (N := N) hd op0 op1 IH ((T - b2).toNat + 1) b2 o2 0 c2 x2 (by omega) (by omega) C2 (by omega) (by omega) (by omega) ?_
    intro ok b3 o3 c3 x4 r3 h4 q1 q0
    exact K ok b3 o3 c3 x4 (jR_c1 (l := 5) (by unfold jSub; omega) r r3) (h2.tr h4) q1 q0

