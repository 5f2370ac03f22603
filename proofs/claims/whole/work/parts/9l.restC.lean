/-! THE CLASS READS THE REST -/
theorem gSc_all {t : Int → Int} {T lo hi : Int} : ∀ (n : Nat) (a i : Int), a ≤ i → i < gSc t T lo hi n a → lo ≤ t i ∧ t i ≤ hi
  | 0, a, i => fun h h' => by rw [gSc] at h'; omega
  | n + 1, a, i => fun h h' => by
    rw [gSc] at h'
    by_cases c : a < T ∧ lo ≤ t a ∧ t a ≤ hi
    · rw [if_pos c] at h'
      by_cases e : i = a
      · rw [e]; exact c.2
      · exact gSc_all n (a + 1) i (by omega) h'
    · rw [if_neg c] at h'; omega
theorem gNv_b {t : Int → Int} {b : Int} : ∀ n : Nat, n ≤ 5 → (∀ i, b ≤ i → i < b + n → 48 ≤ t i ∧ t i ≤ 57) → jVb t b (gNv t b n) n
  | 0 => fun _ _ => by
    show jVb t b 0 0
    unfold jVb; exact ⟨fun _ => rfl, by omega, by omega, by omega, by omega, by omega, by omega⟩
  | n + 1 => fun h h' => by
    have a := gNv_b n (by omega) (fun i i0 i1 => h' i i0 (by omega))
    have e := gNv_s (t := t) (b := b) (n := n) (by omega)
    have c := h' (b + n) (by omega) (by omega)
    have k := jVb_s (t := t) (b := b) (n := n) (c := t (b + n)) (by omega) (by omega) rfl c.1 c.2 a
    rw [← e] at k
    exact k
theorem jTv_2 {t : Int → Int} {T b : Int} (hb : b ≤ T) (h : jTk t T b = 2) : 0 ≤ jTv t T b ∧ jTv t T b ≤ 99999 := by
  have bT := jTk_e (t := t) (T := T) (b := b) (by omega)
  unfold jTk at h
  rw [if_neg (by omega)] at h
  unfold jTv
  by_cases cd : 48 ≤ t b ∧ t b ≤ 57
  · rw [if_pos cd] at h ⊢
    by_cases q : gSn t T 48 57 b - b ≤ 5
    · have bd := gSn_bd (t := t) (lo := 48) (hi := 57) hb
      have k := gNv_b (t := t) (b := b) (gSn t T 48 57 b - b).toNat (by omega) (fun i i0 i1 => gSc_all _ _ _ i0 (show i < gSn t T 48 57 b by omega))
      rw [show (((gSn t T 48 57 b - b).toNat : Nat) : Int) = gSn t T 48 57 b - b by omega] at k
      exact k.2.1
    · rw [if_neg q] at h; omega
  · rw [if_neg cd] at h
    by_cases cl : 97 ≤ t b ∧ t b ≤ 122
    · rw [if_pos cl] at h
      have bd := gWn_bd t b (gSn t T 97 122 b)
      unfold jWk at h
      exfalso
      revert h
      (repeat' split) <;> omega
    · rw [if_neg cl] at h
      by_cases cs : jSg (t b)
      · rw [if_pos cs] at h; unfold jSg at cs; omega
      · rw [if_neg cs] at h; omega
theorem jTv_4 {t : Int → Int} {T b : Int} (h : jTk t T b = 4) : 0 ≤ jTv t T b ∧ jTv t T b < 10 := by
  have bT := jTk_e (t := t) (T := T) (b := b) (by omega)
  unfold jTk at h
  rw [if_neg (by omega)] at h
  unfold jTv
  by_cases cd : 48 ≤ t b ∧ t b ≤ 57
  · rw [if_pos cd] at h
    exfalso; revert h; split <;> omega
  · rw [if_neg cd] at h ⊢
    by_cases cl : 97 ≤ t b ∧ t b ≤ 122
    · rw [if_pos cl] at h
      have bd := gWn_bd t b (gSn t T 97 122 b)
      generalize gWn t b (gSn t T 97 122 b) = w at h bd ⊢
      have hw : 6 ≤ w ∧ w < 16 := by
        unfold jWk at h
        revert h
        (repeat' split) <;> omega
      unfold jWv
      rw [if_pos hw.1]; omega
    · rw [if_neg cl] at h
      by_cases cs : jSg (t b)
      · rw [if_pos cs] at h; unfold jSg at cs; omega
      · rw [if_neg cs] at h; omega
theorem c86s {d : Nat} {b : Int} {x m : zM} {Q : Int → zM → zM → Prop} (e4 : x 325 4 = b) (h : ∀ x', jH x x' → x' 325 10 = b → Q 0 x' m) : WPc d 86 [zr 325] 403 [] x m 403 [] Q := by
  apply r86
  rw [e4]
  exact ⟨Or.inl rfl, h _ ⟨fun k a _ => zu_ne _ _ _ a, fun i a => by rw [zu_eq, up_ne (by omega)]⟩ (by rw [zu_eq, up_at rfl])⟩
theorem jc_2 {d : Nat} {t : Int → Int} {T op N b o : Int} {c : Int → Int} {x m : zM} {Q : Int → zM → zM → Prop} (hd : 59 - 2 - 7 * op ≤ (d : Int)) (op0 : 0 ≤ op) (op1 : op ≤ 6) (hN : N = (T - b) * 8 + 7 - 2) (IH : jIC t T m N) (hC : jC t T x b o c) (ob : o ≤ b) (K : jK t T x m Q 2 op b o c) : WPc d 80 [zr 325, zi op] 403 [] x m 403 [] Q := by
  obtain ⟨hT, ⟨b0, b1⟩, ⟨e2, e3, e4⟩, e5, ⟨e7, o0, o1⟩, hc⟩ := id hC
  have T1 := hT.1
  have nx := jNx_bd (t := t) b1
  apply r80
  intro _
  rw [e3]
  refine ⟨fun k8 => ⟨fun h6 => ⟨by omega, ?_⟩, fun h6 => ⟨by omega, ?_⟩⟩, fun k8 => ⟨by omega, ?_⟩⟩
  · have bT := jTk_e (t := t) (T := T) (b := b) (by omega)
    refine c87s (t := t) (T := T) (b := b) (o := o) (c := c) (by omega) hC (fun x1 h1 C1 => ⟨by unfold zIn; omega, by omega, ?_⟩)
    refine IH 2 (op + 1) (jNx t T b) o c x1 _ (d - 1) (by omega) (by omega) (by omega) (by omega) (by omega) C1 (by omega) ?_
    intro ok b2 o2 c2 x2 r h2 k1 k0 hq
    have rb := jR_bd r nx.2.1
    refine ⟨fun e => ⟨Or.inl rfl, ?_⟩, fun e => ⟨by omega, ?_⟩⟩
    · subst e
      exact K 0 b2 o2 c2 x2 (jR_n3 k8 h6 r) (h1.tr h2) (fun e => absurd e (by decide)) (fun _ => k0 rfl)
    · have e1 : ok = 1 := by omega
      subst e1
      refine c85s (k := 22) (k1 rfl) (by omega) rfl (fun x3 h3 C3 => ?_)
      intro _
      exact ⟨fun e => absurd e (by decide), fun _ => ⟨Or.inr rfl, K 1 b2 (o2 + 1) _ x3 (jR_n2 k8 h6 r) ((h1.tr h2).tr h3) (fun _ => C3) (fun e => absurd e (by decide))⟩⟩
  · refine c86s e4 (fun x1 h1 q1 => ?_)
    intro _
    exact ⟨Or.inl rfl, K 0 b o c x1 (jR_n1 k8 h6) h1 (fun e => absurd e (by decide)) (fun _ => q1)⟩
  · refine IH 3 op b o c x _ (d - 1) (by omega) (by omega) op0 op1 (by omega) hC ob ?_
    intro ok b2 o2 c2 x2 r h2 k1 k0 hq
    exact ⟨hq, K ok b2 o2 c2 x2 (jR_n0 k8 r) h2 k1 k0⟩
theorem jc_3 {d : Nat} {t : Int → Int} {T op N b o : Int} {c : Int → Int} {x m : zM} {Q : Int → zM → zM → Prop} (hd : 59 - 3 - 7 * op ≤ (d : Int)) (op0 : 0 ≤ op) (op1 : op ≤ 6) (hN : N = (T - b) * 8 + 7 - 3) (IH : jIC t T m N) (hC : jC t T x b o c) (ob : o ≤ b) (K : jK t T x m Q 3 op b o c) : WPc d 81 [zr 325, zi op] 403 [] x m 403 [] Q := by
  obtain ⟨hT, ⟨b0, b1⟩, ⟨e2, e3, e4⟩, e5, ⟨e7, o0, o1⟩, hc⟩ := id hC
  have T1 := hT.1
  apply r81
  intro _
  refine ⟨by omega, ?_⟩
  refine IH 4 op b o c x _ (d - 1) (by omega) (by omega) op0 op1 (by omega) hC ob ?_
  intro ok b2 o2 c2 x2 r h2 k1 k0 hq
  have rb := jR_bd r b1
  rcases hq with e | e
  · subst e
    have f := K 0 b2 o2 c2 x2 (jR_e0 r) h2 (fun e => absurd e (by decide)) k0
    exact ⟨fun hh => absurd rfl hh, fun _ => ⟨Or.inl rfl, f⟩⟩
  · subst e
    have C2 := k1 rfl
    obtain ⟨_, ⟨d0, d1⟩, ⟨f2, f3, f4⟩, _, ⟨_, p0, p1⟩, _⟩ := id C2
    have nx := jNx_bd (t := t) d1
    obtain ⟨kk, hkk⟩ : ∃ kk, kk = jTk t T b2 := ⟨_, rfl⟩
    rw [← hkk] at f3
    have sub : jOp 3 kk ≠ 0 → ∀ {R0 R1 : zM → zM → Prop}, (∀ b3 o3 c3 x3, jR t T 4 op (jNx t T b2) o2 c2 0 b3 o3 c3 → jH x x3 → x3 325 10 = b3 → R0 x3 m) → (∀ b3 o3 c3 x3, jR t T 4 op (jNx t T b2) o2 c2 1 b3 o3 c3 → jH x x3 → jC t T x3 b3 o3 c3 → R1 x3 m) → WPc (d - 1) 87 [zr 325] 403 [] x2 m 403 [] (fun _ x2 m3 => 1 ≤ d ∧ WPc (d - 1) 82 [zr 325, zi op] 403 [] x2 m3 403 [] (fun q4 x5 m6 => (q4 = 0 ∨ q4 = 1) → (q4 = 0 → R0 x5 m6) ∧ (q4 ≠ 0 → R1 x5 m6))) := fun ho {R0 R1} r0 r1 => by
      have kz : kk ≠ 0 := by
        rcases jOp_bd 3 kk with e | e
        · exact absurd e ho
        · exact e.2
      have bT := jTk_e (t := t) (T := T) (b := b2) (by rw [← hkk]; exact kz)
      refine c87s (t := t) (T := T) (b := b2) (o := o2) (c := c2) (by omega) C2 (fun x3 h3 C3 => ⟨by omega, ?_⟩)
      refine IH 4 op (jNx t T b2) o2 c2 x3 _ (d - 1) (by omega) (by omega) op0 op1 (by omega) C3 (by omega) ?_
      intro ok b4 o4 c4 x4 r4 h4 k1 k0 hq
      refine ⟨fun e => ?_, fun e => ?_⟩
      · subst e
        exact r0 b4 o4 c4 x4 r4 ((h2.tr h3).tr h4) (k0 rfl)
      · have e1 : ok = 1 := by omega
        subst e1
        exact r1 b4 o4 c4 x4 r4 ((h2.tr h3).tr h4) (k1 rfl)
    have fin0 : jOp 3 kk ≠ 0 → ∀ b3 o3 c3 x3, jR t T 4 op (jNx t T b2) o2 c2 0 b3 o3 c3 → jH x x3 → x3 325 10 = b3 → Q 0 x3 m := fun ho b3 o3 c3 x3 r3 h3 q => K 0 b3 o3 c3 x3 (jR_e3 (by rw [← hkk]; exact ho) r r3) h3 (fun e => absurd e (by decide)) (fun _ => q)
    have fin1 : jOp 3 kk ≠ 0 → ∀ v, v = gCc (jOp 3 kk) → ∀ b3 o3 c3 x3, jR t T 4 op (jNx t T b2) o2 c2 1 b3 o3 c3 → jH x x3 → jC t T x3 b3 o3 c3 → WPc (d - 1) 85 [zr 325, zi v] 403 [] x3 m 403 [] (fun q7 x8 m9 => (q7 = 0 ∨ q7 = 1) → (q7 = 0 → (True ∨ (0 : Int) = 1) ∧ Q 0 x8 m9) ∧ (q7 ≠ 0 → ((1 : Int) = 0 ∨ True) ∧ Q 1 x8 m9)) := fun ho v hv b3 o3 c3 x3 r3 h3 C3 => by
      have kz : kk ≠ 0 := by
        rcases jOp_bd 3 kk with e | e
        · exact absurd e ho
        · exact e.2
      have bT := jTk_e (t := t) (T := T) (b := b2) (by rw [← hkk]; exact kz)
      have rb3 := jR_bd r3 nx.2.1
      refine c85s (k := jOp 3 kk) C3 (by omega) hv (fun x4 h4 C4 => ?_)
      intro _
      refine ⟨fun e => absurd e (by decide), fun _ => ⟨Or.inr trivial, ?_⟩⟩
      refine K 1 b3 (o3 + 1) (up c3 o3 (jOp 3 kk)) x4 ?_ (h3.tr h4) (fun _ => C4) (fun e => absurd e (by decide))
      rw [hkk]
      exact jR_e2 (by rw [← hkk]; exact ho) r r3
    have done : jOp 3 kk = 0 → Q 1 x2 m := fun ho => K 1 b2 o2 c2 x2 (jR_e1 (by rw [← hkk]; exact ho) r) h2 (fun _ => C2) (fun e => absurd e (by decide))
    simp only [f3]
    clear K IH k1 k0 hC hc hT e5 hkk C2
    by_cases k61 : kk = 61
    · have ho : jOp 3 kk = 23 := by rw [k61]; rfl
      have hn0 : jOp 3 kk ≠ 0 := by rw [ho]; decide
      have s1 := @sub hn0
      have g0 := fin0 hn0
      have g1 := fin1 hn0 (-14) (by rw [ho]; rfl)
      clear sub fin0 fin1 done ho hn0 r
      repeat' (first | (with_reducible assumption) | (with_reducible rfl) | (with_reducible apply And.intro) | (with_reducible apply zIn_mk) | (with_reducible apply zLn_mk) | ((with_reducible intro _); try (exfalso; omega)) | omega | (with_reducible exact Or.inr trivial) | (with_reducible exact Or.inl trivial) | ((refine s1 ?_ ?_)) | ((exact g0 _ _ _ _ (by assumption) (by assumption) (by assumption))) | ((exact g1 _ _ _ _ (by assumption) (by assumption) (by assumption))) | fail)
    · by_cases k60 : kk = 60
      · have ho : jOp 3 kk = 24 := by rw [k60]; rfl
        have hn0 : jOp 3 kk ≠ 0 := by rw [ho]; decide
        have s1 := @sub hn0
        have g0 := fin0 hn0
        have g1 := fin1 hn0 (-15) (by rw [ho]; rfl)
        clear sub fin0 fin1 done ho hn0 r
        repeat' (first | (with_reducible assumption) | (with_reducible rfl) | (with_reducible apply And.intro) | (with_reducible apply zIn_mk) | (with_reducible apply zLn_mk) | ((with_reducible intro _); try (exfalso; omega)) | omega | (with_reducible exact Or.inr trivial) | (with_reducible exact Or.inl trivial) | ((refine s1 ?_ ?_)) | ((exact g0 _ _ _ _ (by assumption) (by assumption) (by assumption))) | ((exact g1 _ _ _ _ (by assumption) (by assumption) (by assumption))) | fail)
      · by_cases k62 : kk = 62
        · have ho : jOp 3 kk = 25 := by rw [k62]; rfl
          have hn0 : jOp 3 kk ≠ 0 := by rw [ho]; decide
          have s1 := @sub hn0
          have g0 := fin0 hn0
          have g1 := fin1 hn0 (-16) (by rw [ho]; rfl)
          clear sub fin0 fin1 done ho hn0 r
          repeat' (first | (with_reducible assumption) | (with_reducible rfl) | (with_reducible apply And.intro) | (with_reducible apply zIn_mk) | (with_reducible apply zLn_mk) | ((with_reducible intro _); try (exfalso; omega)) | omega | (with_reducible exact Or.inr trivial) | (with_reducible exact Or.inl trivial) | ((refine s1 ?_ ?_)) | ((exact g0 _ _ _ _ (by assumption) (by assumption) (by assumption))) | ((exact g1 _ _ _ _ (by assumption) (by assumption) (by assumption))) | fail)
        · have dn := done (by unfold jOp; (repeat' split) <;> omega)
          clear sub fin0 fin1 done r
          repeat' (first | (with_reducible assumption) | (with_reducible rfl) | (with_reducible apply And.intro) | (with_reducible apply zIn_mk) | (with_reducible apply zLn_mk) | ((with_reducible intro _); try (exfalso; omega)) | omega | (with_reducible exact Or.inr trivial) | (with_reducible exact Or.inl trivial) | ((exact dn)) | fail)
theorem jc_6 {d : Nat} {t : Int → Int} {T op N b o : Int} {c : Int → Int} {x m : zM} {Q : Int → zM → zM → Prop} (hd : 59 - 6 - 7 * op ≤ (d : Int)) (op0 : 0 ≤ op) (op1 : op ≤ 6) (hN : N = (T - b) * 8 + 7 - 6) (IH : jIC t T m N) (hC : jC t T x b o c) (ob : o ≤ b) (K : jK t T x m Q 6 op b o c) : WPc d 84 [zr 325, zi op] 403 [] x m 403 [] Q := by
  obtain ⟨hT, ⟨b0, b1⟩, ⟨e2, e3, e4⟩, e5, ⟨e7, o0, o1⟩, hc⟩ := id hC
  have T1 := hT.1
  have nx := jNx_bd (t := t) b1
  have bT : jTk t T b ≠ 0 → b < T := fun hh => jTk_e hh
  have g86 : ((jTk t T b ≠ 2 ∧ jTk t T b ≠ 4) ∧ ((jTk t T b ≠ 45 ∧ jTk t T b ≠ 40) ∨ 6 ≤ op)) → WPc (d - 1) 86 [zr 325] 403 [] x m 403 [] (fun q x m => (q = 0 ∨ q = 1) → (q = 0 ∨ q = 1) ∧ Q q x m) := fun hh => by
    refine c86s e4 (fun x1 h1 q1 => ?_)
    intro _
    exact ⟨Or.inl rfl, K 0 b o c x1 (jR_s8 hh.1.1 hh.1.2 hh.2) h1 (fun e => absurd e (by decide)) (fun _ => q1)⟩
  have emit : ∀ k v, v = gCc k → b < T → jR t T 6 op b o c 1 (jNx t T b) (o + 1) (up c o k) → WPc (d - 1) 85 [zr 325, zi v] 403 [] x m 403 [] (fun q7 x8 m9 => (q7 = 0 ∨ q7 = 1) → 1 ≤ d ∧ WPc (d - 1) 87 [zr 325] 403 [] x8 m9 403 [] (fun _ x11 m12 => ((1 : Int) = 0 ∨ True) ∧ Q 1 x11 m12)) := fun k v hv hb r => by
    refine c85s (k := k) hC (by omega) hv (fun x1 h1 C1 => ?_)
    intro _
    refine ⟨by omega, ?_⟩
    refine c87s (t := t) (T := T) (by omega) C1 (fun x2 h2 C2 => ⟨Or.inr trivial, ?_⟩)
    exact K 1 _ _ _ x2 r (h1.tr h2) (fun _ => C2) (fun e => absurd e (by decide))
  have g87 : ∀ {R : Int → zM → zM → Prop}, (∀ x1, jH x x1 → jC t T x1 (jNx t T b) o c → R 0 x1 m) → WPc (d - 1) 87 [zr 325] 403 [] x m 403 [] R := fun h => c87s (t := t) (T := T) (b := b) (o := o) (c := c) (by omega) hC h
  have sN : op < 6 → b < T → ∀ x1, jH x x1 → jC t T x1 (jNx t T b) o c → ∀ {R : Int → zM → zM → Prop}, (∀ b2 o2 c2 x2, jR t T 6 (op + 1) (jNx t T b) o c 0 b2 o2 c2 → jH x x2 → x2 325 10 = b2 → R 0 x2 m) → (∀ b2 o2 c2 x2, jR t T 6 (op + 1) (jNx t T b) o c 1 b2 o2 c2 → jH x x2 → jC t T x2 b2 o2 c2 → R 1 x2 m) → WPc (d - 1) 84 [zr 325, zi (op + 1)] 403 [] x1 m 403 [] R := fun h6 hb x1 h1 C1 {R} r0 r1 => by
    refine IH 6 (op + 1) (jNx t T b) o c x1 _ (d - 1) (by omega) (by omega) (by omega) (by omega) (by omega) C1 (by omega) ?_
    intro ok b2 o2 c2 x2 r h2 k1 k0
    have rb := jR_bd r nx.2.1
    rcases rb.1 with e | e
    · subst e; exact r0 b2 o2 c2 x2 r (h1.tr h2) (k0 rfl)
    · subst e; exact r1 b2 o2 c2 x2 r (h1.tr h2) (k1 rfl)
  have sP : op < 6 → b < T → ∀ x1, jH x x1 → jC t T x1 (jNx t T b) o c → ∀ {R : Int → zM → zM → Prop}, (∀ b2 o2 c2 x2, jR t T 0 (op + 1) (jNx t T b) o c 0 b2 o2 c2 → jH x x2 → x2 325 10 = b2 → R 0 x2 m) → (∀ b2 o2 c2 x2, jR t T 0 (op + 1) (jNx t T b) o c 1 b2 o2 c2 → jH x x2 → jC t T x2 b2 o2 c2 → R 1 x2 m) → WPc (d - 1) 78 [zr 325, zi (op + 1)] 403 [] x1 m 403 [] R := fun h6 hb x1 h1 C1 {R} r0 r1 => by
    refine IH 0 (op + 1) (jNx t T b) o c x1 _ (d - 1) (by omega) (by omega) (by omega) (by omega) (by omega) C1 (by omega) ?_
    intro ok b2 o2 c2 x2 r h2 k1 k0
    have rb := jR_bd r nx.2.1
    rcases rb.1 with e | e
    · subst e; exact r0 b2 o2 c2 x2 r (h1.tr h2) (k0 rfl)
    · subst e; exact r1 b2 o2 c2 x2 r (h1.tr h2) (k1 rfl)
  have fN0 : jTk t T b = 45 → op < 6 → ∀ b2 o2 c2 x2, jR t T 6 (op + 1) (jNx t T b) o c 0 b2 o2 c2 → jH x x2 → x2 325 10 = b2 → Q 0 x2 m := fun hk h6 b2 o2 c2 x2 r h2 q => K 0 b2 o2 c2 x2 (jR_s4 hk h6 r) h2 (fun e => absurd e (by decide)) (fun _ => q)
  have fN1 : jTk t T b = 45 → op < 6 → ∀ b2 o2 c2 x2, jR t T 6 (op + 1) (jNx t T b) o c 1 b2 o2 c2 → jH x x2 → jC t T x2 b2 o2 c2 → WPc (d - 1) 85 [zr 325, zi (-22)] 403 [] x2 m 403 [] (fun q7 x8 m9 => (q7 = 0 ∨ q7 = 1) → (q7 = 0 → (True ∨ (0 : Int) = 1) ∧ Q 0 x8 m9) ∧ (q7 ≠ 0 → ((1 : Int) = 0 ∨ True) ∧ Q 1 x8 m9)) := fun hk h6 b2 o2 c2 x2 r h2 C2 => by
    have hb := bT (by omega)
    have rb := jR_bd r nx.2.1
    refine c85s (k := 31) C2 (by omega) rfl (fun x3 h3 C3 => ?_)
    intro _
    exact ⟨fun e => absurd e (by decide), fun _ => ⟨Or.inr trivial, K 1 b2 (o2 + 1) _ x3 (jR_s3 hk h6 r) (h2.tr h3) (fun _ => C3) (fun e => absurd e (by decide))⟩⟩
  have fP0 : jTk t T b = 40 → op < 6 → ∀ b2 o2 c2 x2, jR t T 0 (op + 1) (jNx t T b) o c 0 b2 o2 c2 → jH x x2 → x2 325 10 = b2 → Q 0 x2 m := fun hk h6 b2 o2 c2 x2 r h2 q => K 0 b2 o2 c2 x2 (jR_s7 hk h6 r) h2 (fun e => absurd e (by decide)) (fun _ => q)
  have fP1 : jTk t T b = 40 → op < 6 → ∀ b2 o2 c2 x2, jR t T 0 (op + 1) (jNx t T b) o c 1 b2 o2 c2 → jH x x2 → jC t T x2 b2 o2 c2 → x2 325 3 = 41 → WPc (d - 1) 87 [zr 325] 403 [] x2 m 403 [] (fun _ x8 m9 => ((1 : Int) = 0 ∨ True) ∧ Q 1 x8 m9) := fun hk h6 b2 o2 c2 x2 r h2 C2 q => by
    have q' := C2.2.2.1.2.1
    refine c87s (t := t) (T := T) (by omega) C2 (fun x3 h3 C3 => ⟨Or.inr trivial, ?_⟩)
    exact K 1 _ o2 c2 x3 (jR_s5 hk h6 (by omega) r) (h2.tr h3) (fun _ => C3) (fun e => absurd e (by decide))
  have fP2 : jTk t T b = 40 → op < 6 → ∀ b2 o2 c2 x2, jR t T 0 (op + 1) (jNx t T b) o c 1 b2 o2 c2 → jH x x2 → jC t T x2 b2 o2 c2 → x2 325 3 ≠ 41 → WPc (d - 1) 86 [zr 325] 403 [] x2 m 403 [] (fun q x m => (q = 0 ∨ q = 1) → (q = 0 ∨ q = 1) ∧ Q q x m) := fun hk h6 b2 o2 c2 x2 r h2 C2 q => by
    have q' := C2.2.2.1.2.1
    refine c86s C2.2.2.1.2.2 (fun x1 h1 q1 => ?_)
    intro _
    exact ⟨Or.inl rfl, K 0 b2 o2 c2 x1 (jR_s6 hk h6 (by omega) r) (h2.tr h1) (fun e => absurd e (by decide)) (fun _ => q1)⟩
  obtain ⟨kk, hkk⟩ : ∃ kk, kk = jTk t T b := ⟨_, rfl⟩
  have em2 : kk = 2 → WPc (d - 1) 85 [zr 325, zi (x 325 5)] 403 [] x m 403 [] (fun q7 x8 m9 => (q7 = 0 ∨ q7 = 1) → 1 ≤ d ∧ WPc (d - 1) 87 [zr 325] 403 [] x8 m9 403 [] (fun _ x11 m12 => ((1 : Int) = 0 ∨ True) ∧ Q 1 x11 m12)) := fun hk => by
    have v5 := e5 (by omega) (by omega)
    have vb := jTv_2 b1 (show jTk t T b = 2 by omega)
    exact emit (100 + jTv t T b) _ (by rw [v5]; unfold gCc; rw [if_pos (by omega)]; omega) (bT (by omega)) (jR_s1 (by omega))
  have em4 : kk = 4 → zIn (-1 - x 325 5) ∧ WPc (d - 1) 85 [zr 325, zi (-1 - x 325 5)] 403 [] x m 403 [] (fun q7 x8 m9 => (q7 = 0 ∨ q7 = 1) → 1 ≤ d ∧ WPc (d - 1) 87 [zr 325] 403 [] x8 m9 403 [] (fun _ x11 m12 => ((1 : Int) = 0 ∨ True) ∧ Q 1 x11 m12)) := fun hk => by
    have v5 := e5 (by omega) (by omega)
    have vb := jTv_4 (show jTk t T b = 4 by omega)
    exact ⟨by unfold zIn; omega, emit (jTv t T b) _ (by rw [v5]; unfold gCc; rw [if_neg (by omega), if_pos (by omega)]) (bT (by omega)) (jR_s2 (by omega))⟩
  rw [← hkk] at g86 bT fN0 fN1 fP0 fP1 fP2 e3
  apply r84
  simp only [e3]
  clear K IH emit hC hc hT e5 hkk
  by_cases k2 : kk = 2
  · have e := em2 k2
    clear g86 g87 sN sP fN0 fN1 fP0 fP1 fP2 em2 em4
    repeat' (first | (with_reducible assumption) | (with_reducible rfl) | (with_reducible apply And.intro) | (with_reducible apply zIn_mk) | (with_reducible apply zLn_mk) | ((with_reducible intro _); try (exfalso; omega)) | omega | (with_reducible exact Or.inr trivial) | (with_reducible exact Or.inl trivial) | ((exact e)) | fail)
  · by_cases k4 : kk = 4
    · obtain ⟨e0, e⟩ := em4 k4
      clear g86 g87 sN sP fN0 fN1 fP0 fP1 fP2 em2 em4
      repeat' (first | (with_reducible assumption) | (with_reducible rfl) | (with_reducible apply And.intro) | (with_reducible apply zIn_mk) | (with_reducible apply zLn_mk) | ((with_reducible intro _); try (exfalso; omega)) | omega | (with_reducible exact Or.inr trivial) | (with_reducible exact Or.inl trivial) | ((exact e0)) | ((exact e)) | fail)
    · by_cases k45 : kk = 45
      · by_cases h6 : op < 6
        · have hb := bT (by omega)
          have s1 := sN h6 hb
          have g0 := fN0 k45 h6
          have g1 := fN1 k45 h6
          clear g86 sN sP fN0 fN1 fP0 fP1 fP2 em2 em4
          repeat' (first | (with_reducible assumption) | (with_reducible rfl) | (with_reducible apply And.intro) | (with_reducible apply zIn_mk) | (with_reducible apply zLn_mk) | ((with_reducible intro _); try (exfalso; omega)) | omega | (with_reducible exact Or.inr trivial) | (with_reducible exact Or.inl trivial) | ((refine g87 ?_)) | ((refine s1 _ (by assumption) (by assumption) ?_ ?_)) | ((exact g0 _ _ _ _ (by assumption) (by assumption) (by assumption))) | ((exact g1 _ _ _ _ (by assumption) (by assumption) (by assumption))) | fail)
        · have e := g86 (by omega)
          clear g86 g87 sN sP fN0 fN1 fP0 fP1 fP2 em2 em4
          repeat' (first | (with_reducible assumption) | (with_reducible rfl) | (with_reducible apply And.intro) | (with_reducible apply zIn_mk) | (with_reducible apply zLn_mk) | ((with_reducible intro _); try (exfalso; omega)) | omega | (with_reducible exact Or.inr trivial) | (with_reducible exact Or.inl trivial) | ((exact e)) | fail)
      · by_cases k40 : kk = 40
        · by_cases h6 : op < 6
          · have hb := bT (by omega)
            have s1 := sP h6 hb
            have g0 := fP0 k40 h6
            have g1 := fP1 k40 h6
            have g2 := fP2 k40 h6
            clear g86 sN sP fN0 fN1 fP0 fP1 fP2 em2 em4
            repeat' (first | (with_reducible assumption) | (with_reducible rfl) | (with_reducible apply And.intro) | (with_reducible apply zIn_mk) | (with_reducible apply zLn_mk) | ((with_reducible intro _); try (exfalso; omega)) | omega | (with_reducible exact Or.inr trivial) | (with_reducible exact Or.inl trivial) | ((refine g87 ?_)) | ((refine s1 _ (by assumption) (by assumption) ?_ ?_)) | ((exact g0 _ _ _ _ (by assumption) (by assumption) (by assumption))) | ((exact g1 _ _ _ _ (by assumption) (by assumption) (by assumption) (by assumption))) | ((exact g2 _ _ _ _ (by assumption) (by assumption) (by assumption) (by assumption))) | fail)
          · have e := g86 (by omega)
            clear g86 g87 sN sP fN0 fN1 fP0 fP1 fP2 em2 em4
            repeat' (first | (with_reducible assumption) | (with_reducible rfl) | (with_reducible apply And.intro) | (with_reducible apply zIn_mk) | (with_reducible apply zLn_mk) | ((with_reducible intro _); try (exfalso; omega)) | omega | (with_reducible exact Or.inr trivial) | (with_reducible exact Or.inl trivial) | ((exact e)) | fail)
        · have e := g86 (by omega)
          clear g86 g87 sN sP fN0 fN1 fP0 fP1 fP2 em2 em4
          repeat' (first | (with_reducible assumption) | (with_reducible rfl) | (with_reducible apply And.intro) | (with_reducible apply zIn_mk) | (with_reducible apply zLn_mk) | ((with_reducible intro _); try (exfalso; omega)) | omega | (with_reducible exact Or.inr trivial) | (with_reducible exact Or.inl trivial) | ((exact e)) | fail)
theorem jc_all {t : Int → Int} {T : Int} {m : zM} : ∀ n : Nat, jIC t T m n
  | 0 => fun l op b o c x Q d hl hN _ _ _ hC _ _ => by
    have := hC.2.1
    omega
  | n + 1 => fun l op b o c x Q d hl hN op0 op1 hd hC ob K => by
    have IH : jIC t T m ((T - b) * 8 + 7 - l) := fun l' op' b' o' c' x' Q' d' hl' hN' => jc_all n l' op' b' o' c' x' Q' d' hl' (by omega)
    match l, hl, hd, hN, K, IH with
    | 0, _, hd, hN, K, IH => exact jc_0 hd op0 op1 rfl IH hC ob K
    | 1, _, hd, hN, K, IH => exact jc_1 hd op0 op1 rfl IH hC ob K
    | 2, _, hd, hN, K, IH => exact jc_2 hd op0 op1 rfl IH hC ob K
    | 3, _, hd, hN, K, IH => exact jc_3 hd op0 op1 rfl IH hC ob K
    | 4, _, hd, hN, K, IH => exact jc_4 hd op0 op1 rfl IH hC ob K
    | 5, _, hd, hN, K, IH => exact jc_5 hd op0 op1 rfl IH hC ob K
    | 6, _, hd, hN, K, IH => exact jc_6 hd op0 op1 rfl IH hC ob K
    | l + 7, hl, _, _, _, _ => exact absurd hl (by omega)

