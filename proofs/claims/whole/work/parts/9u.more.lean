/-! ONE RULE MORE -/
theorem jTv_3 {t : Int → Int} {T b : Int} (h : jTk t T b = 3) : 0 ≤ jTv t T b ∧ jTv t T b ≤ 5 := by
  have bT := jTk_e (t := t) (T := T) (b := b) (by omega)
  unfold jTk at h
  rw [if_neg (by omega)] at h
  unfold jTv
  by_cases cd : 48 ≤ t b ∧ t b ≤ 57
  · rw [if_pos cd] at h
    exfalso; revert h; split <;> omega
  · rw [if_neg cd] at h ⊢
    by_cases cl : 97 ≤ t b ∧ t b ≤ 122
    · rw [if_pos cl] at h
      have bd := gWn_bd t b (gSn t T 97 122 b)
      generalize gWn t b (gSn t T 97 122 b) = w at h bd ⊢
      have hw : 0 ≤ w ∧ w < 6 := by
        unfold jWk at h
        revert h
        (repeat' split) <;> omega
      unfold jWv
      rw [if_neg (by omega)]; omega
    · rw [if_neg cl] at h
      by_cases cs : jSg (t b)
      · rw [if_pos cs] at h; unfold jSg at cs; omega
      · rw [if_neg cs] at h; omega
theorem IR_a {p q : Int → Int} {r : Int} (hR : IR p) (hr : p 5 = r) (r0 : 0 ≤ r) (r1 : r < 12) (h5 : q 5 = r + 1) (e : ∀ i, 3490 ≤ i → i < 3550 + 130 * r → i ≠ 3490 + r → i ≠ 3502 + r → i ≠ 3514 + r → i ≠ 3526 + r → i ≠ 3538 + r → q i = p i) (n : IRr q r) (w1 : gWf (gCo q r) 0 (q (3526 + r))) (w2 : q (3526 + r) < q (3538 + r) → gWf (gCo q r) (q (3526 + r)) (q (3538 + r))) : IR q := by
  refine ⟨fun j j0 j1 => ?_, fun j j0 j1 => ?_, fun j j0 j1 h => ?_⟩
  · by_cases c : j = r
    · rw [c]; exact n
    · have a := hR.1 j j0 (by omega)
      unfold IRr at *
      rw [e (3490 + j) (by omega) (by omega) (by omega) (by omega) (by omega) (by omega) (by omega), e (3502 + j) (by omega) (by omega) (by omega) (by omega) (by omega) (by omega) (by omega), e (3514 + j) (by omega) (by omega) (by omega) (by omega) (by omega) (by omega) (by omega), e (3526 + j) (by omega) (by omega) (by omega) (by omega) (by omega) (by omega) (by omega), e (3538 + j) (by omega) (by omega) (by omega) (by omega) (by omega) (by omega) (by omega)]
      exact a
  · by_cases c : j = r
    · rw [c]; exact w1
    · have a := hR.1 j j0 (by omega)
      unfold IRr at a
      rw [e (3526 + j) (by omega) (by omega) (by omega) (by omega) (by omega) (by omega) (by omega)]
      exact gWf_f (fun i i0 i1 => e _ (by omega) (by omega) (by omega) (by omega) (by omega) (by omega) (by omega)) (hR.2.1 j j0 (by omega))
  · by_cases c : j = r
    · rw [c] at h ⊢; exact w2 h
    · have a := hR.1 j j0 (by omega)
      unfold IRr at a
      rw [e (3526 + j) (by omega) (by omega) (by omega) (by omega) (by omega) (by omega) (by omega), e (3538 + j) (by omega) (by omega) (by omega) (by omega) (by omega) (by omega) (by omega)] at h ⊢
      exact gWf_f (fun i i0 i1 => e _ (by omega) (by omega) (by omega) (by omega) (by omega) (by omega) (by omega)) (hR.2.2 j j0 (by omega) h)

theorem jO_ok {t : Int → Int} {T fb key half e : Int} {c : Int → Int} (T0 : 0 ≤ T) (T1 : T ≤ 120) (h : jO t T 1 fb key half e c) : (0 ≤ key ∧ key ≤ 5) ∧ 1 ≤ half ∧ half ≤ e ∧ e ≤ 120 ∧ gWf c 0 half ∧ (half < e → gWf c half e) := by
  have bb := gSn_bd (t := t) (lo := 32) (hi := 32) T0
  have eb : jB0 t T = gSn t T 32 32 0 := rfl
  rw [← eb] at bb
  unfold jO at h
  generalize jB0 t T = b at *
  have nx := jNx_bd (t := t) bb.2
  rcases h with ⟨_, k, _⟩ | ⟨k3, kv, k1, b2, o2, c2, d1, rest⟩
  · exact absurd k (by decide)
  · have vb := jTv_3 k3
    have rb := jR_bd d1 nx.2.1
    rcases rest with ⟨_, k, _⟩ | ⟨k1o, hh2, rest⟩
    · exact absurd k (by decide)
    · subst k1o
      have w := jR_wf d1 nx.2.1
      have nx2 := jNx_bd (t := t) rb.2.2.1
      have o1 : 1 ≤ o2 := by
        by_cases q : 1 ≤ o2
        · exact q
        · have z : o2 = 0 := by omega
          have g := w.2.2
          rw [z, gDp_0] at g
          omega
      rcases rest with ⟨k5, k3', b3, o3, c3, d3, rest⟩ | ⟨k0, _, ee, ce⟩ | ⟨_, _, k, _⟩
      · rcases rest with ⟨_, k, _⟩ | ⟨ko, k0, _, ee, ce⟩ | ⟨_, _, k, _⟩
        · exact absurd k (by decide)
        · subst ko
          have rb3 := jR_bd d3 nx2.2.1
          have w3 := jR_wf d3 nx2.2.1
          rw [hh2, ee, ce]
          exact ⟨by omega, o1, by omega, by omega, gWf_f (fun i _ i1 => w3.1 i i1) w.2, fun _ => w3.2⟩
        · exact absurd k (by decide)
      · rw [hh2, ee, ce]
        exact ⟨by omega, o1, by omega, by omega, w.2, fun q => absurd q (by omega)⟩
      · exact absurd k (by decide)

