/-! ANSWER -/
theorem zT_le {f g : Int → Int} {n : Int} (hn : 0 ≤ n) (h : ∀ j, 0 ≤ j → j < n → f j ≤ g j) : zT f n ≤ zT g n := by
  have key : ∀ j, 0 ≤ j → (j ≤ n → zT f j ≤ zT g j) := by
    refine zup1 _ (fun _ => by rw [zT_0 (by omega), zT_0 (by omega)]; omega) ?_
    intro j j0 ih j1
    rw [zT_s j0, zT_s j0]
    have := ih (by omega)
    have := h j j0 (by omega)
    omega
  exact key n hn (by omega)
theorem IK_room {p : Int → Int} {a : Int} (hB : IB p) (hK : IK p) (a0 : 0 ≤ a) (a1 : a < p 2) (h : p (186 + a) ≠ 0) : p 3 ≤ p 2 - 1 := by
  unfold IB at hB
  replace hK := hK.1
  unfold IK0 at hK
  have e := zT_one (f := fun j => if j = a then 0 else 1) (g := fun _ => 1) (n := p 2) a0 a1 (fun j _ _ hj => if_neg hj)
  rw [if_pos rfl] at e
  have b := zT_bd (f := fun _ => (1 : Int)) (lo := 1) (hi := 1) (n := p 2) (by omega) (fun _ _ _ => ⟨by omega, by omega⟩)
  have c := zT_le (f := fun j => if p (186 + j) = 0 then 1 else 0) (g := fun j => if j = a then 0 else 1) (n := p 2) (by omega) (fun j j0 j1 => by
    by_cases e : j = a
    · subst e; simp only [if_neg h, if_pos]; omega
    · simp only [if_neg e]; split <;> omega)
  omega
theorem gAns_0 {p : Int → Int} {a : Int} (h : gAns p a = 0) : p (138 + a) ≤ p 6161 := by
  unfold gAns at h
  split at h
  · omega
  · split at h
    · omega
    · split at h
      · omega
      · split at h
        · omega
        · split at h <;> omega
theorem Inv_s0 {N : Nat} {x x' m m' : zM} (hx : zSx x x') (hm : zSame m m') (h : Inv N x m) : Inv N x' m' := by
  obtain ⟨a, b, c, d⟩ := h
  have e387 := hm.p
  have e390 : m' 390 = m 390 := hm.1 390 (by decide) (by decide) (by decide)
  refine ⟨?_, ?_, ?_, ?_⟩
  · rw [e387, e390]; exact RF_s hx a
  · rw [e387, e390]; exact b
  · refine RK_m (by omega) (by rw [hx 0 rfl]) (hm.2 6 (by decide)) (fun k k0 k1 => hx k (zScr_k k0 k1)) (hm.1 388 (by decide) (by decide) (by decide)) (hm.1 391 (by decide) (by decide) (by decide)) c
  · unfold RO; rw [hx 329 rfl, hx 325 rfl, hx 326 rfl, hx 0 rfl, hx 328 rfl, hm.1 393 (by decide) (by decide) (by decide), hm.1 394 (by decide) (by decide) (by decide), hm.1 395 (by decide) (by decide) (by decide), hm.1 396 (by decide) (by decide) (by decide), hm.2 9 (by decide), hm.2 10 (by decide)]; exact d
def xAdd (x : zM) (L a me ki su we wk i us : Int) : zM := zupd (zupd (zupd (zupd (zupd (zupd (zupd (zupd (zupd (zupd (zupd (zupd (zupd (zupd (zupd (zupd x 73 L a) 74 L me) 75 L ki) 76 L su) 77 L we) 78 L wk) 79 L i) 80 L us) 81 L 0) 82 L 0) 83 L 0) 84 L 0) 85 L 0) 86 L 0) 87 L 0) 72 0 (L + 1)
theorem c48 {d : Nat} {a wk i L me ki su we : Int} {p : Int → Int} {x m : zM} {Q : Int → zM → zM → Prop} (hd : 1 ≤ d) (eL : x 72 0 = L) (L0 : 0 ≤ L) (L1 : L < 24) (a0 : 0 ≤ a) (a1 : a < 24) (hA : IAa p a) (i0 : 0 ≤ i) (i1 : i ≤ 119998) (e1 : x 15 a = me) (e2 : x 16 a = ki) (e3 : x 17 a = su) (e4 : x 18 a = we) (f2 : ki = p (114 + a)) (f3 : su = p (138 + a)) (f4 : we = p (162 + a)) (h : Q L (xAdd x L a me ki su we wk i (gEc p a i)) m) : WPc d 48 [zr 72, zr 14, zi a, zi wk, zi i] 403 [] x m 403 [] Q := by
  unfold xAdd at h
  apply r48
  simp only [eL, e1, e2, e3, e4]
  repeat' (first | (with_reducible assumption) | (with_reducible rfl) | (with_reducible apply And.intro) | (with_reducible apply zIn_mk) | (with_reducible apply zLn_mk) | (simp (disch := omega) only [zu_ne, zu_eq, up_eq, eL]) | ((with_reducible intro _); try (exfalso; omega)) | omega | (with_reducible exact Or.inr trivial) | (with_reducible exact Or.inl trivial) | ((refine c47 (p := p) hA i0 i1 ?_ ?_ ?_ ?_)) | ((exact h)) | fail)
theorem IN_f2 {p q : Int → Int} (hB : IB p) (h0 : p 0 ≤ q 0) (h2 : q 2 = p 2) (h3 : q 3 = p 3) (h : ∀ i, 138 ≤ i → i < 186 → q i = p i) (h' : ∀ i, 450 ≤ i → i < 690 → q i = p i) (r : IN p) : IN q := by
  unfold IB at hB
  refine ⟨?_, ?_⟩
  · intro l l0 l1
    rw [h3] at l1
    have := r.1 l l0 l1
    unfold INl at *
    simp (disch := omega) only [h, h', h2]
    omega
  · intro l l0 l1
    rw [h3] at l1
    have a := r.1 l l0 l1
    have := r.2 l l0 l1
    unfold INl at a
    unfold INe at *
    simp (disch := omega) only [h, h']
    exact this
theorem IX_g {p : Int → Int} {a v : Int} (hI : IX p) (a0 : 0 ≤ a) (a1 : a < p 2) (v0 : 0 ≤ v) (v1 : v ≤ 5) : IX (up p (186 + a) v) := by
  have hB := hI.1
  have hb := hB; unfold IB at hb
  refine ⟨?_, ?_, IN_f2 hB (by simp (disch := omega) only [up_ne]; omega) (by simp (disch := omega) only [up_ne]) (by simp (disch := omega) only [up_ne]) (fun i i0 i1 => by simp (disch := omega) only [up_ne]) (fun i i0 i1 => by simp (disch := omega) only [up_ne]) hI.2.2.1, IR_f hB (by simp (disch := omega) only [up_ne]) (fun i i0 i1 => by simp (disch := omega) only [up_ne]) hI.2.2.2⟩
  · unfold IB at *; simp (disch := omega) only [up_ne]; omega
  · refine ⟨fun k k0 k1 => ?_, fun k j k0 k1 j0 j1 => ?_⟩
    · simp (disch := omega) only [up_ne] at k1
      have q := hI.2.1.1 k k0 k1
      unfold IAa at *
      by_cases c : k = a
      · subst c
        simp (disch := omega) only [up_at, up_ne]; omega
      · simp (disch := omega) only [up_ne]
        exact q
    · simp (disch := omega) only [up_ne] at k1
      have qa := hI.2.1.1 k k0 k1
      unfold IAa at qa
      simp (disch := omega) only [up_ne] at j1
      have q := hI.2.1.2 k j k0 k1 j0 j1
      unfold IAb at *
      simp (disch := omega) only [up_ne]
      exact q
theorem RX_g {x : zM} {p : Int → Int} {a v : Int} (hX : RX x p) (hI : IX p) (a0 : 0 ≤ a) (a1 : a < p 2) : RX (zupd x 19 a v) (up p (186 + a) v) := by
  have hB := hI.1
  have hb := hB; unfold IB at hb
  obtain ⟨gM, gL, gA, gN, gR⟩ := hX
  refine ⟨?_, ?_, ?_, ?_, ?_⟩
  · unfold RMx; simp (disch := omega) only [zu_ne]
    exact RM_f hB (by simp (disch := omega) only [up_ne]) (by simp (disch := omega) only [up_ne]) (fun i i0 i1 => by simp (disch := omega) only [up_ne]) gM
  · unfold RLx; simp (disch := omega) only [zu_ne]
    exact RL_f hB (by simp (disch := omega) only [up_ne]) (fun i i0 i1 => by simp (disch := omega) only [up_ne]) (by simp (disch := omega) only [up_ne]) (by simp (disch := omega) only [up_ne]) gL
  · refine ⟨by simp (disch := omega) only [zu_ne, up_ne]; exact gA.1, fun k k0 k1 => ?_, fun k j k0 k1 j0 j1 j2 => ?_⟩
    · simp (disch := omega) only [up_ne] at k1
      have q := gA.2.1 k k0 k1
      simp (disch := omega) only [zu_ne, zu_eq]
      by_cases c : k = a
      · subst c
        simp (disch := omega) only [up_at, up_ne]
        exact ⟨q.1, q.2.1, q.2.2.1, q.2.2.2.1, trivial, q.2.2.2.2.2.1, q.2.2.2.2.2.2⟩
      · simp (disch := omega) only [up_ne]
        exact q
    · simp (disch := omega) only [up_ne] at k1
      have qa := hI.2.1.1 k k0 k1
      unfold IAa at qa
      simp (disch := omega) only [up_ne] at j2
      simp (disch := omega) only [zu_ne, up_ne]
      exact gA.2.2 k j k0 k1 j0 j1 j2
  · unfold RNx; simp (disch := omega) only [zu_ne]
    exact RN_f hB hI.2.2.1 (by simp (disch := omega) only [up_ne]) (fun i i0 i1 => by simp (disch := omega) only [up_ne]) (fun i i0 i1 => by simp (disch := omega) only [up_ne]) gN
  · unfold RRx; simp (disch := omega) only [zu_ne]
    exact RR_f hB hI.2.2.2 (by simp (disch := omega) only [up_ne]) (fun i i0 i1 => by simp (disch := omega) only [up_ne]) gR
