/-! WHAT STAYS WHEN A PART CHANGES -/
theorem IA_f {p q : Int → Int} (hB : IB p) (h1 : p 1 ≤ q 1) (h2 : q 2 = p 2) (h : ∀ i, 90 ≤ i → i < 450 → q i = p i) (r : IA p) : IA q := by
  unfold IB at hB
  refine ⟨?_, ?_⟩
  · intro a a0 a1
    rw [h2] at a1
    have := r.1 a a0 a1
    unfold IAa at *
    simp (disch := omega) only [h]
    omega
  · intro a k a0 a1 k0 k1
    rw [h2] at a1
    have ha := r.1 a a0 a1
    unfold IAa at ha
    simp (disch := omega) only [h] at k1
    have := r.2 a k a0 a1 k0 k1
    unfold IAb at *
    simp (disch := omega) only [h]
    omega
theorem IN_f {p q : Int → Int} (hB : IB p) (h0 : p 0 ≤ q 0) (h2 : q 2 = p 2) (h3 : q 3 = p 3) (h : ∀ i, 138 ≤ i → i < 210 → q i = p i) (h' : ∀ i, 450 ≤ i → i < 690 → q i = p i) (r : IN p) : IN q := by
  unfold IB at hB
  refine ⟨?_, ?_⟩
  · intro l l0 l1
    rw [h3] at l1
    have := r.1 l l0 l1
    unfold INl at *
    simp (disch := omega) only [h, h', h2]
    omega
  · intro l l0 l1
    rw [h3] at l1
    have a := r.1 l l0 l1
    have := r.2 l l0 l1
    unfold INl at a
    unfold INe at *
    simp (disch := omega) only [h, h']
    exact this
theorem IK0_f {p q : Int → Int} (hB : IB p) (h2 : q 2 = p 2) (h3 : q 3 = p 3) (h : ∀ i, 186 ≤ i → i < 210 → q i = p i) (r : IK0 p) : IK0 q := by
  unfold IB at hB
  unfold IK0 at *
  rw [h2, h3, ← r]
  exact zT_congr (fun j j0 j1 => by rw [h _ (by omega) (by omega)])
theorem IK_f {p q : Int → Int} (hB : IB p) (h2 : q 2 = p 2) (h3 : q 3 = p 3) (h : ∀ i, 186 ≤ i → i < 210 → q i = p i) (h' : ∀ i, 546 ≤ i → i < 594 → q i = p i) (r : IK p) : IK q := by
  refine ⟨IK0_f hB h2 h3 h r.1, fun l l0 l1 => ?_⟩
  unfold IB at hB
  rw [h3] at l1
  rw [h' (570 + l) (by omega) (by omega), h' (546 + l) (by omega) (by omega)]
  exact r.2 l l0 l1
theorem gWf_f {c c' : Int → Int} {lo hi : Int} (h : ∀ i, lo ≤ i → i < hi → c' i = c i) (r : gWf c lo hi) : gWf c' lo hi := by
  have dp : ∀ i, lo ≤ i → i ≤ hi → gDp c' lo i = gDp c lo i := by
    intro i i0 i1
    unfold gDp
    exact zT_congr (fun j j0 j1 => by simp (disch := omega) only [h])
  by_cases e : lo ≤ hi
  · refine ⟨fun i i0 i1 => ?_, by rw [dp _ e (by omega)]; exact r.2⟩
    have := r.1 i i0 i1
    unfold gOkc at *
    rw [h i i0 i1, dp i i0 (by omega)]
    exact this
  · refine ⟨fun i i0 i1 => by omega, ?_⟩
    have := r.2
    unfold gDp at *
    rw [zT_0 (by omega)] at *
    exact this
theorem IR_f {p q : Int → Int} (hB : IB p) (h5 : q 5 = p 5) (h : ∀ i, 3490 ≤ i → i < 5110 → q i = p i) (r : IR p) : IR q := by
  unfold IB at hB
  have e : ∀ r', 0 ≤ r' → r' < p 5 → IRr p r' := r.1
  refine ⟨?_, ?_, ?_⟩
  · intro a a0 a1
    rw [h5] at a1
    have := r.1 a a0 a1
    unfold IRr at *
    simp (disch := omega) only [h]
    omega
  · intro a a0 a1
    rw [h5] at a1
    have := r.1 a a0 a1
    unfold IRr at this
    simp (disch := omega) only [h]
    exact gWf_f (fun i i0 i1 => h _ (by omega) (by omega)) (r.2.1 a a0 a1)
  · intro a a0 a1
    rw [h5] at a1
    have := r.1 a a0 a1
    unfold IRr at this
    simp (disch := omega) only [h]
    intro a2
    exact gWf_f (fun i i0 i1 => h _ (by omega) (by omega)) (r.2.2 a a0 a1 a2)
theorem IM_f {p q : Int → Int} (hB : IB p) (h0 : p 0 ≤ q 0) (h1 : q 1 = p 1) (h : ∀ i, 10 ≤ i → i < 90 → q i = p i) (r : IM p) : IM q := by
  unfold IB at hB
  refine ⟨?_, ?_⟩
  · intro k k0 k1
    rw [h1] at k1
    have := r.1 k k0 k1
    simp (disch := omega) only [h]
    omega
  · intro k k0 k1
    rw [h1] at k0
    simp (disch := omega) only [h]
    exact r.2 k k0 k1
theorem IE_f {p q : Int → Int} (hB : IB p) (h0 : p 0 ≤ q 0) (h1 : p 1 ≤ q 1) (h4 : q 4 = p 4) (h : ∀ i, 690 ≤ i → i < 2790 → q i = p i) (r : IE p) : IE q := by
  unfold IB at hB
  refine ⟨?_, ?_⟩
  · intro k k0 k1
    rw [h4] at k1
    have := r.1 k k0 k1
    simp (disch := omega) only [h]
    omega
  · intro j k j0 jk k1
    rw [h4] at k1
    have := r.2 j k j0 jk k1
    rw [h (690 + j) (by omega) (by omega), h (690 + k) (by omega) (by omega), h (1390 + j) (by omega) (by omega), h (1390 + k) (by omega) (by omega), h (2090 + j) (by omega) (by omega), h (2090 + k) (by omega) (by omega)]
    exact this
def gCap (p : Int → Int) : Int := 300 + 5 * zT (fun l => if p (570 + l) = 2 then 1 else 0) (p 3) + 16 * p 6 + 16 * zT (fun y => p (5689 + y)) (p 6)
theorem gCap_f {p q : Int → Int} (hB : IB p) (h3 : q 3 = p 3) (h6 : q 6 = p 6) (h : ∀ i, 570 ≤ i → i < 594 → q i = p i) (h' : ∀ i, 5689 ≤ i → i < 5696 → q i = p i) : gCap q = gCap p := by
  unfold IB at hB
  unfold gCap
  have e1 : zT (fun l => if q (570 + l) = 2 then 1 else 0) (p 3) = zT (fun l => if p (570 + l) = 2 then 1 else 0) (p 3) := zT_congr (fun j j0 j1 => by (try dsimp only); rw [h (570 + j) (by omega) (by omega)])
  have e2 : zT (fun y => q (5689 + y)) (p 6) = zT (fun y => p (5689 + y)) (p 6) := zT_congr (fun j j0 j1 => by (try dsimp only); rw [h' (5689 + j) (by omega) (by omega)])
  rw [h3, h6, e1, e2]
theorem gCap_bd {p w : Int → Int} (hB : IB p) (hY : IY p w) : 300 ≤ gCap p ∧ gCap p ≤ 644 := by
  unfold IB at hB
  have a := zT_bd (f := fun l => if p (570 + l) = 2 then 1 else 0) (lo := 0) (hi := 1) (n := p 3) (by omega) (fun j _ _ => by (try dsimp only); split <;> omega)
  have b := zT_bd (f := fun y => p (5689 + y)) (lo := 0) (hi := 1) (n := p 6) (by omega) (fun j j0 j1 => (hY.2.2.2 j j0 (by omega)).1)
  unfold gCap
  omega
theorem IY_f {p q w : Int → Int} (h0 : p 0 ≤ q 0) (h6 : q 6 = p 6) (h : ∀ i, 5675 ≤ i → i < 6144 → q i = p i) (r : IY p w) : IY q w := by
  refine ⟨?_, r.2.1, ?_, ?_⟩
  · intro y k y0 y1 k0 k1
    simp (disch := omega) only [h]; rw [h6]
    exact r.1 y k y0 y1 k0 k1
  · intro k k0 k1
    have := r.2.2.1 k k0 k1
    omega
  · intro y y0 y1
    simp (disch := omega) only [h]
    exact r.2.2.2 y y0 y1
theorem IT_f {p q : Int → Int} (hB : IB p) (h0 : p 0 ≤ q 0) (h8 : q 8 = p 8) (h : ∀ i, 5146 ≤ i → i < 5647 → q i = p i) (r : IT p) : IT q := by
  unfold IB at hB
  refine ⟨?_, ?_⟩
  · intro k k0 k1
    simp (disch := omega) only [h]; exact r.1 k k0 k1
  · intro k k0 k1
    rw [h8] at k1
    have := r.2 k k0 k1
    simp (disch := omega) only [h]
    omega
theorem IP_f {p q : Int → Int} (h : ∀ i, 5110 ≤ i → i < 5146 → q i = p i) (r : IP p) : IP q := by
  refine ⟨?_, ?_⟩
  · intro k k0 k1
    simp (disch := omega) only [h]; exact r.1 k k0 k1
  · intro y k y0 y1 k0 k1
    simp (disch := omega) only [h]; exact r.2 y k y0 y1 k0 k1
theorem gSv_f {p q : Int → Int} (hB : IB p) (h4 : q 4 = p 4) (h : ∀ i, 690 ≤ i → i < 3490 → q i = p i) (a w as : Int) : gSv q a w as = gSv p a w as := by
  unfold IB at hB
  unfold gSv
  rw [h4]
  congr 1
  exact zT_congr (fun j j0 j1 => by unfold gE; simp (disch := omega) only [h])
theorem RM_f {s wo st jo de ac : Int → Int} {p q : Int → Int} (hB : IB p) (h0 : q 0 = p 0) (h1 : q 1 = p 1) (h : ∀ i, 10 ≤ i → i < 90 → q i = p i) (r : RM s wo st jo de ac p) : RM s wo st jo de ac q := by
  unfold IB at hB
  refine ⟨by rw [h0]; exact r.1, by rw [h1]; exact r.2.1, ?_⟩
  intro k k0 k1
  rw [h1] at k1
  simp (disch := omega) only [h]
  exact r.2.2 k k0 k1
theorem RL_f {s ow fo tl mu to : Int → Int} {p q : Int → Int} (hB : IB p) (h4 : q 4 = p 4) (h : ∀ i, 690 ≤ i → i < 3490 → q i = p i) (hc : q 6161 = p 6161) (hr : q 6162 = p 6162) (r : RLd s ow fo tl mu to p) : RLd s ow fo tl mu to q := by
  have hb := hB
  unfold IB at hb
  refine ⟨by rw [h4]; exact r.1, ?_, ?_, by rw [hc]; exact r.2.2.2.1, by rw [hr]; exact r.2.2.2.2⟩
  · intro k k0 k1
    rw [h4] at k1
    simp (disch := omega) only [h]
    exact r.2.1 k k0 k1
  · intro k k0 k1
    rw [gSv_f hB h4 h]; exact r.2.2.1 k k0 k1
theorem RA_f {s me ki su we gi lo bs ba pl : Int → Int} {p q : Int → Int} (hB : IB p) (h2 : q 2 = p 2) (h : ∀ i, 90 ≤ i → i < 450 → q i = p i) (r : RA s me ki su we gi lo bs ba pl p) : RA s me ki su we gi lo bs ba pl q := by
  unfold IB at hB
  refine ⟨by rw [h2]; exact r.1, ?_, ?_⟩
  · intro k k0 k1
    rw [h2] at k1
    simp (disch := omega) only [h]
    exact r.2.1 k k0 k1
  · intro k j k0 k1 j0 j1 j2
    rw [h2] at k1
    simp (disch := omega) only [h] at j2
    simp (disch := omega) only [h]
    exact r.2.2 k j k0 k1 j0 j1 j2
theorem gEc_f {p q : Int → Int} {a i : Int} (a0 : 0 ≤ a) (a1 : a < 24) (h : ∀ i, 114 ≤ i → i < 186 → q i = p i) : gEc q a i = gEc p a i := by
  unfold gEc; simp (disch := omega) only [h]
theorem RN_f {s ask me ki su we le ig us pa la sta fm fb lo ea : Int → Int} {p q : Int → Int} (hB : IB p) (hN : IN p) (h3 : q 3 = p 3) (h : ∀ i, 90 ≤ i → i < 186 → q i = p i) (h' : ∀ i, 450 ≤ i → i < 690 → q i = p i) (r : RN s ask me ki su we le ig us pa la sta fm fb lo ea p) : RN s ask me ki su we le ig us pa la sta fm fb lo ea q := by
  unfold IB at hB
  refine ⟨by rw [h3]; exact r.1, ?_⟩
  intro k k0 k1
  rw [h3] at k1
  have n := hN.1 k k0 k1
  unfold INl at n
  rw [h' (450 + k) (by omega) (by omega), h (90 + p (450 + k)) (by omega) (by omega), h (114 + p (450 + k)) (by omega) (by omega), h (138 + p (450 + k)) (by omega) (by omega), h (162 + p (450 + k)) (by omega) (by omega), h' (474 + k) (by omega) (by omega), h' (498 + k) (by omega) (by omega), gEc_f (p := p) (q := q) (by omega) (by omega) (fun i a b => h i (by omega) (by omega)), h' (522 + k) (by omega) (by omega), h' (546 + k) (by omega) (by omega), h' (570 + k) (by omega) (by omega), h' (594 + k) (by omega) (by omega), h' (618 + k) (by omega) (by omega), h' (642 + k) (by omega) (by omega), h' (666 + k) (by omega) (by omega)]
  exact r.2 k k0 k1
theorem RR_f {s ke fr to ia en co : Int → Int} {p q : Int → Int} (hB : IB p) (hR : IR p) (h5 : q 5 = p 5) (h : ∀ i, 3490 ≤ i → i < 5110 → q i = p i) (r : RRd s ke fr to ia en co p) : RRd s ke fr to ia en co q := by
  unfold IB at hB
  refine ⟨by rw [h5]; exact r.1, ?_, ?_⟩
  · intro k k0 k1
    rw [h5] at k1
    simp (disch := omega) only [h]
    exact r.2.1 k k0 k1
  · intro a k a0 a1 k0 k1
    rw [h5] at a1
    have n := hR.1 a a0 a1
    unfold IRr at n
    simp (disch := omega) only [h] at k1
    simp (disch := omega) only [h]
    exact r.2.2 a k a0 a1 k0 k1
theorem RY_f {s su di re sh ea rs : Int → Int} {p q w : Int → Int} (h6 : q 6 = p 6) (hl : q 6160 = p 6160) (h : ∀ i, 5647 ≤ i → i < 6144 → q i = p i) (r : RY s su di re sh ea rs p w) : RY s su di re sh ea rs q w := by
  refine ⟨by rw [h6]; exact r.1, by rw [hl]; exact r.2.1, ?_, ?_, r.2.2.2.2⟩
  · intro y k y0 y1 k0 k1
    simp (disch := omega) only [h]; exact r.2.2.1 y k y0 y1 k0 k1
  · intro y k y0 y1 k0 k1
    simp (disch := omega) only [h]; exact r.2.2.2.1 y k y0 y1 k0 k1
theorem RT_f {s du cw sb bm bw bu : Int → Int} {p q : Int → Int} (hB : IB p) (h8 : q 8 = p 8) (h7 : q 7 = p 7) (h : ∀ i, 5146 ≤ i → i < 5647 → q i = p i) (r : RT s du cw sb bm bw bu p) : RT s du cw sb bm bw bu q := by
  unfold IB at hB
  refine ⟨by rw [h8]; exact r.1, by rw [h7]; exact r.2.1, ?_, ?_, ?_⟩
  · intro k k0 k1
    simp (disch := omega) only [h]; exact r.2.2.1 k k0 k1
  · intro k k0 k1
    rw [h8] at k1
    simp (disch := omega) only [h]; exact r.2.2.2.1 k k0 k1
  · intro k k0 k1
    rw [h7] at k1
    simp (disch := omega) only [h]; exact r.2.2.2.2 k k0 k1
theorem RP_f {to dr : Int → Int} {p q : Int → Int} (h : ∀ i, 5110 ≤ i → i < 5146 → q i = p i) (r : RP to dr p) : RP to dr q := by
  refine ⟨?_, ?_⟩
  · intro k k0 k1
    simp (disch := omega) only [h]; exact r.1 k k0 k1
  · intro y k y0 y1 k0 k1
    simp (disch := omega) only [h]; exact r.2 y k y0 y1 k0 k1
