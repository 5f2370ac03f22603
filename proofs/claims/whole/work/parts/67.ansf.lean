/-! WHAT IS SAID DOESN'T LOOK AT WHAT WAS ANSWERED -/
theorem gSkN_c {c c' nm : Int → Int} {lo : Int} : ∀ n : Nat, (∀ j : Int, 0 ≤ j → j < n → c (lo + j) = c' (lo + j)) → gSkN c nm lo n = gSkN c' nm lo n := by
  intro n
  induction n with
  | zero => intro _; rfl
  | succ n ih =>
    intro h
    have e1 := ih (fun j j0 j1 => h j j0 (by omega))
    have e2 : gDp c lo (lo + n) = gDp c' lo (lo + n) := by
      unfold gDp
      exact zT_congr (fun j j0 j1 => by rw [h j j0 (by omega)])
    simp only [gSkN]
    rw [e1, e2, h n (by omega) (by omega)]
theorem gW_f {p q : Int → Int} {r lo hi : Int} {nm : Int → Int} (hq : ∀ i, 3550 ≤ i → i < 5110 → q i = p i) (r0 : 0 ≤ r) (r1 : r ≤ 11) (l0 : 0 ≤ lo) (h1 : hi ≤ 130) : gW q r lo hi nm = gW p r lo hi nm := by
  unfold gW gSk
  rw [gSkN_c (c := gCo q r) (c' := gCo p r) _ (fun j j0 j1 => hq _ (by omega) (by omega))]
theorem gBst_f {p q : Int → Int} {key : Int} {nm : Int → Int} (hB : IB p) (hR : IR p) (h0 : q 0 = p 0) (hq : ∀ i, 3490 ≤ i → i < 5110 → q i = p i) : ∀ i, 0 ≤ i → (i ≤ p 5 → gBst q key nm i = gBst p key nm i) := by
  unfold IB at hB
  refine zup1 _ (fun _ => rfl) ?_
  intro i i0 ih i1
  have hr := hR.1 i i0 (by omega)
  unfold IRr at hr
  rw [gBst_s i0, gBst_s i0, ih (by omega)]
  have e : gAp q key nm i = gAp p key nm i := by
    unfold gAp
    rw [h0, hq (3490 + i) (by omega) (by omega), hq (3502 + i) (by omega) (by omega), hq (3514 + i) (by omega) (by omega), hq (3526 + i) (by omega) (by omega), hq (3538 + i) (by omega) (by omega), gW_f (fun j a b => hq j (by omega) (by omega)) i0 (by omega) (by omega) (by omega)]
  by_cases c : gAp p key nm i
  · rw [if_pos c, if_pos (by rw [e]; exact c)]
  · rw [if_neg c, if_neg (by rw [e]; exact c)]
theorem gTn_f {p q : Int → Int} {key : Int} {nm : Int → Int} (hB : IB p) (hR : IR p) (h0 : q 0 = p 0) (h5 : q 5 = p 5) (hq : ∀ i, 3490 ≤ i → i < 5110 → q i = p i) : gTn q key nm = gTn p key nm := by
  have hb := hB; unfold IB at hb
  have hin := gBst_in (p := p) (key := key) (nm := nm) (p 5) (by omega)
  unfold gTn gTlr
  rw [h5, gBst_f hB hR h0 hq (p 5) (by omega) (by omega)]
  by_cases c : gBst p key nm (p 5) = -1
  · rw [if_pos c, if_pos c]
  · rw [if_neg c, if_neg c]
    have hr := hR.1 (gBst p key nm (p 5)) (by omega) (by omega)
    unfold IRr at hr
    rw [hq (3526 + gBst p key nm (p 5)) (by omega) (by omega), gW_f (fun j a b => hq j (by omega) (by omega)) (by omega) (by omega) (by omega) (by omega)]
theorem gOw_f {p q : Int → Int} {l : Int} (hB : IB p) (hN : IN p) (l0 : 0 ≤ l) (l1 : l < p 3) (hq : ∀ i, 90 ≤ i → i < 186 → q i = p i) (hq' : ∀ i, 450 ≤ i → i < 690 → q i = p i) : gOw q l = gOw p l := by
  unfold IB at hB
  have n := hN.1 l l0 l1
  unfold INl at n
  unfold gOw
  simp (disch := omega) only [hq, hq']
theorem gOws_f {p q : Int → Int} {v : Int} (hB : IB p) (hN : IN p) (h3 : q 3 = p 3) (hq : ∀ i, 90 ≤ i → i < 186 → q i = p i) (hq' : ∀ i, 450 ≤ i → i < 690 → q i = p i) : gOws q v = gOws p v := by
  have hb := hB; unfold IB at hb
  unfold gOws
  rw [h3]
  refine zT_congr (fun l l0 l1 => ?_)
  have n := hN.1 l l0 l1
  unfold INl at n
  rw [gOw_f hB hN l0 l1 hq hq']
  simp (disch := omega) only [hq, hq']
theorem gDt_f {p q : Int → Int} {l w : Int} (hB : IB p) (hN : IN p) (l0 : 0 ≤ l) (l1 : l < p 3) (hq : ∀ i, 90 ≤ i → i < 186 → q i = p i) (hq' : ∀ i, 450 ≤ i → i < 690 → q i = p i) : gDt q l w = gDt p l w := by
  unfold IB at hB
  have n := hN.1 l l0 l1
  unfold INl at n
  unfold gDt gDn
  simp (disch := omega) only [hq, hq']
  rw [gEc_f (p := p) (q := q) (by omega) (by omega) (fun i a b => hq i (by omega) (by omega))]
theorem gLo_f {p q : Int → Int} {v : Int} (hB : IB p) (hN : IN p) (h0 : q 0 = p 0) (h3 : q 3 = p 3) (hq : ∀ i, 90 ≤ i → i < 186 → q i = p i) (hq' : ∀ i, 450 ≤ i → i < 690 → q i = p i) : gLo q v = gLo p v := by
  have hb := hB; unfold IB at hb
  unfold gLo
  rw [h3, h0]
  refine zT_congr (fun l l0 l1 => ?_)
  have n := hN.1 l l0 l1
  unfold INl at n
  rw [gDt_f hB hN l0 l1 hq hq']
  simp (disch := omega) only [hq, hq']
theorem gNm_f {p q : Int → Int} {who k : Int} (hI : IX p) (hw : gWho p who) (hq : ∀ i, i < 186 ∨ 210 ≤ i → q i = p i) : gNm q who k = gNm p who k := by
  have hB := hI.1
  have hb := hB; unfold IB at hb
  unfold gWho at hw
  have ha : 100 ≤ who → IAa p (who - 100) := fun c => hI.2.1.1 _ (by omega) (by omega)
  unfold IAa at ha
  have e1 : ∀ v, gOws q v = gOws p v := fun v => gOws_f hB hI.2.2.1 (hq _ (by omega)) (fun i a b => hq i (by omega)) (fun i a b => hq i (by omega))
  have e2 : ∀ v, gLo q v = gLo p v := fun v => gLo_f hB hI.2.2.1 (hq _ (by omega)) (hq _ (by omega)) (fun i a b => hq i (by omega)) (fun i a b => hq i (by omega))
  have e3 : ∀ v w as, gSv q v w as = gSv p v w as := gSv_f hB (hq _ (by omega)) (fun i a b => hq i (by omega))
  unfold gNm
  by_cases c0 : who = -1
  · simp (disch := omega) only [hq, if_pos c0]
  · by_cases c1 : who < 100
    · simp (disch := omega) only [hq, if_neg c0, if_pos c1, e1, e2, e3]
    · simp (disch := omega) only [hq, if_neg c0, if_neg c1, e1, e2, e3]
theorem gTell_f {p q : Int → Int} {key who : Int} (hI : IX p) (hw : gWho p who) (hq : ∀ i, i < 186 ∨ 210 ≤ i → q i = p i) : gTell q key who = gTell p key who := by
  have e : gNm q who = gNm p who := by funext k; exact gNm_f hI hw hq
  unfold gTell
  rw [e]
  exact gTn_f hI.1 hI.2.2.2 (hq _ (by omega)) (hq _ (by omega)) (fun i a b => hq i (by omega))
theorem gInt_f {p q : Int → Int} {a : Int} (hI : IX p) (a0 : 0 ≤ a) (a1 : a < p 2) (hq : ∀ i, i < 186 ∨ 210 ≤ i → q i = p i) : gInt q a = gInt p a := by
  have hb := hI.1; unfold IB at hb
  unfold gInt gPn
  rw [gTell_f hI (by unfold gWho; omega) hq]
  simp (disch := omega) only [hq]
