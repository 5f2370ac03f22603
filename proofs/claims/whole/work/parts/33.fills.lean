/-! filling an array (java.util.Arrays.fill) -/
theorem wp_plen {d y pc n n' : Nat} {ls : List (Nat × zV)} {st : List zV} {u u' : List (Nat × Nat)} {x m : zM} {Q : Int → zM → zM → Prop} {v : zV} {q0 kp len : Nat} {off : Int} {lg : Bool} (hd : decode (zCb y) pc = .ok (.arraylength, 1)) (hA : zAr v q0 kp off len lg) (hq : q0 < n) (hl : len < 2147483648) (k : WP d y (pc + 1) ls (zi (len : Int) :: st) n u x m n' u' Q) : WP d y pc ls (v :: st) n u x m n' u' Q := by
  obtain ⟨h1, h2, h3, h4, h5, h6, h7⟩ := hA
  refine wp_hp (fun {p l e R s mi args below meth cc H locs cells slots QQ D A ad ca tys lsl} hx hb how ht w1 w2 w4 s9 g => ?_) (fun _ h s9 => zOk_cons (v := zi _) ⟨by omega, by omega⟩ (zOk_tl s9)) k
  obtain ⟨t0, ht0⟩ := w4 q0 hq h3
  show W _ _ _ _ _ _ _ _ _ _ _ _ _ _ _ (F0 mi pc lsl (zc ad v :: st.map (zc ad)))
  rw [h1 ad]
  exact va_alen hx hb w1 w2 q0 t0 (by rw [zws_get hq, h6]) ht0 (v := Int32.ofInt (len : Int)) (z32_nat hl).symm hd g
theorem zfil_0 (x : zM) (k : Nat) (off w : Int) : zfil x k off 0 w = x := by
  funext a b
  unfold zfil
  rw [if_neg (by omega)]
theorem zfil_s (x : zM) (k : Nat) (off i w : Int) (h : 0 ≤ i) : zupd (zfil x k off i w) k (off + i) w = zfil x k off (i + 1) w := by
  funext a b
  unfold zupd zfil
  by_cases h1 : a = k ∧ b = off + i
  · rw [if_pos h1, if_pos ⟨h1.1, by omega, by omega⟩]
  · rw [if_neg h1]
    by_cases h2 : a = k ∧ off ≤ b ∧ b < off + i
    · rw [if_pos h2, if_pos ⟨h2.1, by omega, by omega⟩]
    · rw [if_neg h2, if_neg (fun q => h2 ⟨q.1, q.2.1, by
        have : b ≠ off + i := fun e => h1 ⟨q.1, e⟩
        omega⟩)]
theorem zSh_len : ∀ k, k < 403 → (zSh k).2.1 < 100000 ∧ (zSh k).2.2.2 < 100000 := by decide +kernel
theorem zap_ref {v : zV} {k len : Nat} {lg : Bool} (hz : zap v = some (k, len, lg)) : (∃ r, v = .inr (.inr r)) ∧ len < 100000 := by
  rcases v with a | a | a | ⟨o, i⟩
  · cases hz
  · cases hz
  · refine ⟨⟨_, rfl⟩, ?_⟩
    have ha : a < 403 := by
      rcases Nat.lt_or_ge a 403 with h9 | h9
      · exact h9
      · exfalso
        dsimp only [zap] at hz
        have : zSh a = (9, 0, 0, 0) := by
          unfold zSh
          rw [show Nat.ble 403 a = true from Nat.ble_eq_true_of_le h9]
          rfl
        rw [this] at hz
        cases hz
    have hl := zSh_len a ha
    dsimp only [zap] at hz
    generalize zSh a = s at hz hl
    obtain ⟨s1, s2, s3, s4⟩ := s
    match s1, hz with
    | 0, h => cases h
    | 1, h => cases h; exact hl.1
    | 2, h => cases h; exact hl.1
    | s1 + 3, h => cases h
  · refine ⟨⟨_, rfl⟩, ?_⟩
    have ho : o < 403 := by
      rcases Nat.lt_or_ge o 403 with h9 | h9
      · exact h9
      · exfalso
        dsimp only [zap] at hz
        have : zSh o = (9, 0, 0, 0) := by
          unfold zSh
          rw [show Nat.ble 403 o = true from Nat.ble_eq_true_of_le h9]
          rfl
        rw [this] at hz
        cases hz
    have hl := zSh_len o ho
    dsimp only [zap] at hz
    generalize zSh o = s at hz hl
    obtain ⟨s1, s2, s3, s4⟩ := s
    match s1, hz with
    | 0, h => cases h
    | 1, h => cases h
    | 2, h => cases h
    | 3, h => cases h; exact hl.2
    | 4, h => cases h; exact hl.2
    | s1 + 5, h => cases h
theorem zfd284_0 : decode (zCb 284) 0 = .ok (.iconst 0, 1) := by decide +kernel
theorem zfd284_1 : decode (zCb 284) 1 = .ok (.istore_n 2, 1) := by decide +kernel
theorem zfd284_2 : decode (zCb 284) 2 = .ok (.aload_n 0, 1) := by decide +kernel
theorem zfd284_3 : decode (zCb 284) 3 = .ok (.arraylength, 1) := by decide +kernel
theorem zfd284_4 : decode (zCb 284) 4 = .ok (.istore_n 3, 1) := by decide +kernel
theorem zfd284_5 : decode (zCb 284) 5 = .ok (.iload_n 2, 1) := by decide +kernel
theorem zfd284_6 : decode (zCb 284) 6 = .ok (.iload_n 3, 1) := by decide +kernel
theorem zfd284_7 : decode (zCb 284) 7 = .ok (.if_icmp .ge 13, 3) := by decide +kernel
theorem zfd284_10 : decode (zCb 284) 10 = .ok (.aload_n 0, 1) := by decide +kernel
theorem zfd284_11 : decode (zCb 284) 11 = .ok (.iload_n 2, 1) := by decide +kernel
theorem zfd284_12 : decode (zCb 284) 12 = .ok (.iload_n 1, 1) := by decide +kernel
theorem zfd284_13 : decode (zCb 284) 13 = .ok (.iastore, 1) := by decide +kernel
theorem zfd284_14 : decode (zCb 284) 14 = .ok (.iinc 2 1, 3) := by decide +kernel
theorem zfd284_17 : decode (zCb 284) 17 = .ok (.goto (-12), 3) := by decide +kernel
theorem zfd284_20 : decode (zCb 284) 20 = .ok (.return_, 1) := by decide +kernel
theorem r284_loop {d n : Nat} {u : List (Nat × Nat)} {r : Nat ⊕ (Nat × Int)} {w off : Int} {q0 k len : Nat} {x m : zM} {Q : Int → zM → zM → Prop} (hl : len < 100000) (hA : zAr (.inr (.inr r)) q0 k off len false) (hq : q0 < n) (hn : n ≤ 403) (hk : Nat.ble k 385 = true) (h : Q 0 (zfil x k off len w) m) :
    ∀ (nn : Nat) (i : Int), 0 ≤ i → i ≤ len → (len : Int) - i ≤ nn → WP d 284 5 [(3, zi (len : Int)), (2, zi i), (0, .inr (.inr r)), (1, zi w)] [] n u (zfil x k off i w) m n u Q := by
  intro nn
  induction nn with
  | zero =>
    intro i h0 h1 h2
    have e : i = len := by omega
    subst e
    refine wp_iload_n zfd284_5 (j := 1) rfl ?_
    refine wp_iload_n zfd284_6 (j := 0) rfl ?_
    refine wp_icmp (tgt := 20) zfd284_7 (by decide) (fun _ => ?_) (fun q => ?_)
    · exact wp_ret (r := 0) zfd284_20 (fun ad => rfl) (fun _ => rfl) rfl rfl h
    · exact absurd q (by unfold zcmn; omega)
  | succ nn ih =>
    intro i h0 h1 h2
    refine wp_iload_n zfd284_5 (j := 1) rfl ?_
    refine wp_iload_n zfd284_6 (j := 0) rfl ?_
    refine wp_icmp (tgt := 20) zfd284_7 (by decide) (fun q => ?_) (fun q => ?_)
    · have e : i = len := by unfold zcmp at q; omega
      subst e
      exact wp_ret (r := 0) zfd284_20 (fun ad => rfl) (fun _ => rfl) rfl rfl h
    · have hi : i < len := by unfold zcmn at q; omega
      refine wp_aload_n zfd284_10 (j := 2) rfl ?_
      refine wp_iload_n zfd284_11 (j := 1) rfl ?_
      refine wp_iload_n zfd284_12 (j := 3) rfl ?_
      refine wp_iast zfd284_13 hA hq hn ⟨h0, hi⟩ (Or.inl ⟨hk, rfl, rfl⟩) ?_
      rw [zfil_s x k off i w h0]
      refine wp_iinc (v := i + 1) zfd284_14 (by decide) (j := 1) rfl (by rw [z32_add]) (fun _ => ⟨by omega, by omega⟩) ?_
      refine wp_goto (tgt := 5) zfd284_17 (by decide) ?_
      exact wp_drop (fun q hq => by
        have e : q = (3, zi (len : Int)) ∨ q = (2, zi (i + 1)) ∨ q = (0, .inr (.inr r)) ∨ q = (1, zi w) := by simpa using hq
        rcases e with rfl | rfl | rfl | rfl
        · exact List.mem_cons_of_mem _ List.mem_cons_self
        · exact List.mem_cons_self
        · exact List.mem_cons_of_mem _ (List.mem_cons_of_mem _ List.mem_cons_self)
        · exact List.mem_cons_of_mem _ (List.mem_cons_of_mem _ (List.mem_cons_of_mem _ List.mem_cons_self))) (ih (i + 1) (by omega) (by omega) (by omega))
theorem r284g {d n : Nat} {u : List (Nat × Nat)} {v : zV} {w : Int} {k len : Nat} {x m : zM} {Q : Int → zM → zM → Prop} (hz : zap v = some (k, len, false)) (hk : Nat.ble k 385 = true) (hn : n ≤ 403) (h : Q 0 (zfil x k (zoff v 0) len w) m) : WPc d 284 [v, zi w] n u x m n u Q := by
  obtain ⟨⟨r, rfl⟩, hl⟩ := zap_ref hz
  refine ze0 rfl rfl (fun ok => ?_)
  obtain ⟨q0, off, hA, hq, ho⟩ := zap_ok (ok _ List.mem_cons_self) hn hz
  rw [← ho 0, Int.add_zero] at h
  show WP d 284 0 [(0, .inr (.inr r)), (1, zi w)] [] n u x m n u Q
  refine wp_iconst zfd284_0 ⟨by decide, by decide⟩ ?_
  refine wp_istore_n zfd284_1 (by decide) ?_
  show WP d 284 2 [(2, zi 0), (0, .inr (.inr r)), (1, zi w)] [] n u x m n u Q
  refine wp_aload_n zfd284_2 (j := 1) rfl ?_
  refine wp_plen zfd284_3 hA hq (by omega) ?_
  refine wp_istore_n zfd284_4 (by decide) ?_
  show WP d 284 5 [(3, zi (len : Int)), (2, zi 0), (0, .inr (.inr r)), (1, zi w)] [] n u x m n u Q
  have := r284_loop (d := d) (n := n) (u := u) hl hA hq hn hk h len 0 (by omega) (by omega) (by omega)
  rw [zfil_0] at this
  exact this
theorem r284 {d : Nat} {v : zV} {w : Int} {k len : Nat} {x m : zM} {Q : Int → zM → zM → Prop} (hz : zap v = some (k, len, false)) (hk : Nat.ble k 385 = true) (h : Q 0 (zfil x k (zoff v 0) len w) m) : WPc d 284 [v, zi w] 403 [] x m 403 [] Q := r284g hz hk (Nat.le_refl _) h
theorem zfd283_0 : decode (zCb 283) 0 = .ok (.iconst 0, 1) := by decide +kernel
theorem zfd283_1 : decode (zCb 283) 1 = .ok (.istore_n 3, 1) := by decide +kernel
theorem zfd283_2 : decode (zCb 283) 2 = .ok (.aload_n 0, 1) := by decide +kernel
theorem zfd283_3 : decode (zCb 283) 3 = .ok (.arraylength, 1) := by decide +kernel
theorem zfd283_4 : decode (zCb 283) 4 = .ok (.istore 4, 2) := by decide +kernel
theorem zfd283_6 : decode (zCb 283) 6 = .ok (.iload_n 3, 1) := by decide +kernel
theorem zfd283_7 : decode (zCb 283) 7 = .ok (.iload 4, 2) := by decide +kernel
theorem zfd283_9 : decode (zCb 283) 9 = .ok (.if_icmp .ge 13, 3) := by decide +kernel
theorem zfd283_12 : decode (zCb 283) 12 = .ok (.aload_n 0, 1) := by decide +kernel
theorem zfd283_13 : decode (zCb 283) 13 = .ok (.iload_n 3, 1) := by decide +kernel
theorem zfd283_14 : decode (zCb 283) 14 = .ok (.lload_n 1, 1) := by decide +kernel
theorem zfd283_15 : decode (zCb 283) 15 = .ok (.lastore, 1) := by decide +kernel
theorem zfd283_16 : decode (zCb 283) 16 = .ok (.iinc 3 1, 3) := by decide +kernel
theorem zfd283_19 : decode (zCb 283) 19 = .ok (.goto (-13), 3) := by decide +kernel
theorem zfd283_22 : decode (zCb 283) 22 = .ok (.return_, 1) := by decide +kernel
theorem r283_loop {d n : Nat} {u : List (Nat × Nat)} {r : Nat ⊕ (Nat × Int)} {w off : Int} {q0 k len : Nat} {x m : zM} {Q : Int → zM → zM → Prop} (hl : len < 100000) (hA : zAr (.inr (.inr r)) q0 k off len true) (hq : q0 < n) (hn : n ≤ 403) (hk : Nat.ble k 385 = true) (h : Q 0 (zfil x k off len w) m) :
    ∀ (nn : Nat) (i : Int), 0 ≤ i → i ≤ len → (len : Int) - i ≤ nn → WP d 283 6 [(4, zi (len : Int)), (3, zi i), (0, .inr (.inr r)), (1, zl w)] [] n u (zfil x k off i w) m n u Q := by
  intro nn
  induction nn with
  | zero =>
    intro i h0 h1 h2
    have e : i = len := by omega
    subst e
    refine wp_iload_n zfd283_6 (j := 1) rfl ?_
    refine wp_iload zfd283_7 (j := 0) rfl ?_
    refine wp_icmp (tgt := 22) zfd283_9 (by decide) (fun _ => ?_) (fun q => ?_)
    · exact wp_ret (r := 0) zfd283_22 (fun ad => rfl) (fun _ => rfl) rfl rfl h
    · exact absurd q (by unfold zcmn; omega)
  | succ nn ih =>
    intro i h0 h1 h2
    refine wp_iload_n zfd283_6 (j := 1) rfl ?_
    refine wp_iload zfd283_7 (j := 0) rfl ?_
    refine wp_icmp (tgt := 22) zfd283_9 (by decide) (fun q => ?_) (fun q => ?_)
    · have e : i = len := by unfold zcmp at q; omega
      subst e
      exact wp_ret (r := 0) zfd283_22 (fun ad => rfl) (fun _ => rfl) rfl rfl h
    · have hi : i < len := by unfold zcmn at q; omega
      refine wp_aload_n zfd283_12 (j := 2) rfl ?_
      refine wp_iload_n zfd283_13 (j := 1) rfl ?_
      refine wp_lload_n zfd283_14 (j := 3) rfl ?_
      refine wp_last zfd283_15 hA hq hn ⟨h0, hi⟩ (Or.inl ⟨hk, rfl, rfl⟩) ?_
      rw [zfil_s x k off i w h0]
      refine wp_iinc (v := i + 1) zfd283_16 (by decide) (j := 1) rfl (by rw [z32_add]) (fun _ => ⟨by omega, by omega⟩) ?_
      refine wp_goto (tgt := 6) zfd283_19 (by decide) ?_
      exact wp_drop (fun q hq => by
        have e : q = (4, zi (len : Int)) ∨ q = (3, zi (i + 1)) ∨ q = (0, .inr (.inr r)) ∨ q = (1, zl w) := by simpa using hq
        rcases e with rfl | rfl | rfl | rfl
        · exact List.mem_cons_of_mem _ List.mem_cons_self
        · exact List.mem_cons_self
        · exact List.mem_cons_of_mem _ (List.mem_cons_of_mem _ List.mem_cons_self)
        · exact List.mem_cons_of_mem _ (List.mem_cons_of_mem _ (List.mem_cons_of_mem _ List.mem_cons_self))) (ih (i + 1) (by omega) (by omega) (by omega))
theorem r283g {d n : Nat} {u : List (Nat × Nat)} {v : zV} {w : Int} {k len : Nat} {x m : zM} {Q : Int → zM → zM → Prop} (hz : zap v = some (k, len, true)) (hk : Nat.ble k 385 = true) (hn : n ≤ 403) (h : Q 0 (zfil x k (zoff v 0) len w) m) : WPc d 283 [v, zl w] n u x m n u Q := by
  obtain ⟨⟨r, rfl⟩, hl⟩ := zap_ref hz
  refine ze0 rfl rfl (fun ok => ?_)
  obtain ⟨q0, off, hA, hq, ho⟩ := zap_ok (ok _ List.mem_cons_self) hn hz
  rw [← ho 0, Int.add_zero] at h
  show WP d 283 0 [(0, .inr (.inr r)), (1, zl w)] [] n u x m n u Q
  refine wp_iconst zfd283_0 ⟨by decide, by decide⟩ ?_
  refine wp_istore_n zfd283_1 (by decide) ?_
  show WP d 283 2 [(3, zi 0), (0, .inr (.inr r)), (1, zl w)] [] n u x m n u Q
  refine wp_aload_n zfd283_2 (j := 1) rfl ?_
  refine wp_plen zfd283_3 hA hq (by omega) ?_
  refine wp_istore zfd283_4 (by decide) ?_
  show WP d 283 6 [(4, zi (len : Int)), (3, zi 0), (0, .inr (.inr r)), (1, zl w)] [] n u x m n u Q
  have := r283_loop (d := d) (n := n) (u := u) hl hA hq hn hk h len 0 (by omega) (by omega) (by omega)
  rw [zfil_0] at this
  exact this
theorem r283 {d : Nat} {v : zV} {w : Int} {k len : Nat} {x m : zM} {Q : Int → zM → zM → Prop} (hz : zap v = some (k, len, true)) (hk : Nat.ble k 385 = true) (h : Q 0 (zfil x k (zoff v 0) len w) m) : WPc d 283 [v, zl w] 403 [] x m 403 [] Q := r283g hz hk (Nat.le_refl _) h
