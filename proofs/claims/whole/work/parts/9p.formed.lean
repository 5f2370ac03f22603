/-! WHAT A RULE'S READING PUTS OUT IS WELL FORMED -/
theorem jD_f {c c' : Int → Int} {lo : Int} : ∀ n : Nat, (∀ i, lo ≤ i → i < lo + n → c' i = c i) → zS (fun j => gDl (c' (lo + j))) n = zS (fun j => gDl (c (lo + j))) n
  | 0 => fun _ => rfl
  | n + 1 => fun h => by
    have a := jD_f n (fun i i0 i1 => h i i0 (by omega))
    show zS (fun j => gDl (c' (lo + j))) n + gDl (c' (lo + n)) = zS (fun j => gDl (c (lo + j))) n + gDl (c (lo + n))
    rw [a, h (lo + n) (by omega) (by omega)]
theorem jDp_f {c c' : Int → Int} {lo hi : Int} (h : ∀ i, lo ≤ i → i < hi → c' i = c i) : gDp c' lo hi = gDp c lo hi := by
  unfold gDp zT
  exact jD_f _ (fun i i0 i1 => h i i0 (by omega))
theorem jOk_f {c c' : Int → Int} {lo i : Int} (hi : lo ≤ i) (h : ∀ j, lo ≤ j → j ≤ i → c' j = c j) (r : gOkc c lo i) : gOkc c' lo i := by
  unfold gOkc at *
  rw [h i hi (Int.le_refl _), jDp_f (fun j j0 j1 => h j j0 (by omega))]
  exact r
def jZ (l : Nat) : Int := if 10 ≤ l then 1 else 0
def jW (l : Nat) (o : Int) (c : Int → Int) (ok o2 : Int) (c2 : Int → Int) : Prop := ok = 1 → ∀ lo, lo ≤ o → jZ l ≤ gDp c lo o → (∀ i, i < o → c2 i = c i) ∧ (∀ i, o ≤ i → i < o2 → gOkc c2 lo i) ∧ gDp c2 lo o2 = gDp c lo o + 1 - jZ l
/-- one code more -/
theorem jW_e {c : Int → Int} {lo o k : Int} (h : lo ≤ o) : gDp (up c o k) lo (o + 1) = gDp c lo o + gDl k ∧ gDp (up c o k) lo o = gDp c lo o := by
  have e : gDp (up c o k) lo o = gDp c lo o := jDp_f (fun i _ i1 => up_ne (by omega))
  rw [gDp_s h, e, up_at rfl]
  exact ⟨rfl, rfl⟩
/-- one after another -/
theorem jW_t {c c1 c2 : Int → Int} {lo o o1 o2 : Int} (hlo : lo ≤ o) (h01 : o ≤ o1) (a : ∀ i, i < o → c1 i = c i) (a' : ∀ i, i < o1 → c2 i = c1 i) (k : ∀ i, o ≤ i → i < o1 → gOkc c1 lo i) (k' : ∀ i, o1 ≤ i → i < o2 → gOkc c2 lo i) : (∀ i, i < o → c2 i = c i) ∧ (∀ i, o ≤ i → i < o2 → gOkc c2 lo i) := by
  refine ⟨fun i hi => by rw [a' i (by omega), a i hi], fun i i0 i1 => ?_⟩
  by_cases ci : i < o1
  · exact jOk_f (by omega) (fun j _ j1 => a' j (by omega)) (k i i0 ci)
  · exact k' i (by omega) i1
theorem jW_k {c c1 : Int → Int} {lo o o1 k : Int} (hlo : lo ≤ o) (h01 : o ≤ o1) (a : ∀ i, i < o → c1 i = c i) (r : ∀ i, o ≤ i → i < o1 → gOkc c1 lo i) (hk : ((0 ≤ k ∧ k < 10) ∨ (20 ≤ k ∧ k ≤ 31) ∨ (100 ≤ k ∧ k ≤ 100099)) ∧ (k = 22 ∨ k = 31 → 1 ≤ gDp c1 lo o1) ∧ (20 ≤ k → k ≤ 30 → k ≠ 22 → 2 ≤ gDp c1 lo o1)) : (∀ i, i < o → up c1 o1 k i = c i) ∧ (∀ i, o ≤ i → i < o1 + 1 → gOkc (up c1 o1 k) lo i) ∧ gDp (up c1 o1 k) lo (o1 + 1) = gDp c1 lo o1 + gDl k := by
  have e := jW_e (c := c1) (k := k) (show lo ≤ o1 by omega)
  have t := jW_t (c := c) (c1 := c1) (c2 := up c1 o1 k) (o2 := o1 + 1) hlo h01 a (fun i hi => up_ne (by omega)) r (fun i i0 i1 => by
    have ei : i = o1 := by omega
    subst ei
    unfold gOkc
    rw [up_at rfl, e.2]
    exact hk)
  exact ⟨t.1, t.2, e.1⟩
theorem jW_all {t : Int → Int} {T : Int} : jRules t T (fun l op b o c ok b2 o2 c2 => jR t T l op b o c ok b2 o2 c2 ∧ (b ≤ T → jW l o c ok o2 c2)) := by
  refine ⟨?_, ?_, ?_, ?_, ?_, ?_, ?_, ?_, ?_, ?_, ?_, ?_, ?_, ?_, ?_, ?_, ?_, ?_, ?_, ?_, ?_⟩
  · intro l s op b o c b1 o1 c1 ok b2 o2 c2 hs g0 g1
    refine ⟨jR_c1 hs g0.1 g1.1, fun hb hok lo hlo hD => ?_⟩
    have zl : jZ l = 0 ∧ jZ s = 0 ∧ jZ (l + 10) = 1 := by rcases hs with ⟨rfl, rfl⟩ | ⟨rfl, rfl⟩ | ⟨rfl, rfl⟩ | ⟨rfl, rfl⟩ <;> exact ⟨rfl, rfl, rfl⟩
    have rb := jR_bd g0.1 hb
    have rb' := jR_bd g1.1 rb.2.2.1
    obtain ⟨u1, u2, u3⟩ := g0.2 hb rfl lo hlo (by omega)
    obtain ⟨w1, w2, w3⟩ := g1.2 rb.2.2.1 hok lo (by omega) (by omega)
    have q := jW_t hlo (by omega) u1 w1 u2 w2
    exact ⟨q.1, q.2, by omega⟩
  · intro l s op b o c b1 o1 c1 hs g0
    exact ⟨jR_c2 hs g0.1, fun _ hok => absurd hok (by decide)⟩
  · intro l s op b o c hs h1
    have zl : jZ (l + 10) = 1 := by rcases hs with ⟨rfl, rfl⟩ | ⟨rfl, rfl⟩ | ⟨rfl, rfl⟩ | ⟨rfl, rfl⟩ <;> rfl
    exact ⟨jR_l0 hs h1, fun _ _ lo hlo hD => ⟨fun _ _ => rfl, fun i i0 i1 => by omega, by omega⟩⟩
  · intro l s op b o c b1 o1 c1 ok b2 o2 c2 hs h1 g0 g1
    refine ⟨jR_l1 hs h1 g0.1 g1.1, fun hb hok lo hlo hD => ?_⟩
    have zl : jZ s = 0 ∧ jZ (l + 10) = 1 := by rcases hs with ⟨rfl, rfl⟩ | ⟨rfl, rfl⟩ | ⟨rfl, rfl⟩ | ⟨rfl, rfl⟩ <;> exact ⟨rfl, rfl⟩
    have nx := jNx_bd (t := t) hb
    have rb := jR_bd g0.1 nx.2.1
    have ob := jOp_bd l (jTk t T b)
    obtain ⟨u1, u2, u3⟩ := g0.2 nx.2.1 rfl lo hlo (by omega)
    generalize jOp l (jTk t T b) = k at *
    have v := jW_k (k := k) hlo (by omega) u1 u2 ⟨by omega, by omega, by omega⟩
    have dk : gDl k = -1 := by unfold gDl; rw [if_neg (by omega), if_neg (by omega)]
    obtain ⟨w1, w2, w3⟩ := g1.2 rb.2.2.1 hok lo (by omega) (by omega)
    have q := jW_t hlo (by omega) v.1 w1 v.2.1 w2
    exact ⟨q.1, q.2, by omega⟩
  · intro l s op b o c b1 o1 c1 hs h1 g0
    exact ⟨jR_l2 hs h1 g0.1, fun _ hok => absurd hok (by decide)⟩
  · intro op b o c ok b1 o1 c1 h0 g0
    exact ⟨jR_n0 h0 g0.1, g0.2⟩
  · intro op b o c h0 h6
    exact ⟨jR_n1 h0 h6, fun _ hok => absurd hok (by decide)⟩
  · intro op b o c b1 o1 c1 h0 h6 g0
    refine ⟨jR_n2 h0 h6 g0.1, fun hb hok lo hlo hD => ?_⟩
    have z2 : jZ 2 = 0 := rfl
    have nx := jNx_bd (t := t) hb
    have rb := jR_bd g0.1 nx.2.1
    obtain ⟨u1, u2, u3⟩ := g0.2 nx.2.1 rfl lo hlo (by omega)
    have v := jW_k (k := 22) hlo (by omega) u1 u2 ⟨by omega, by omega, by omega⟩
    have dk : gDl 22 = 0 := rfl
    exact ⟨v.1, v.2.1, by omega⟩
  · intro op b o c b1 o1 c1 h0 h6 g0
    exact ⟨jR_n3 h0 h6 g0.1, fun _ hok => absurd hok (by decide)⟩
  · intro op b o c b1 o1 c1 g0
    exact ⟨jR_e0 g0.1, fun _ hok => absurd hok (by decide)⟩
  · intro op b o c b1 o1 c1 h1 g0
    exact ⟨jR_e1 h1 g0.1, g0.2⟩
  · intro op b o c b1 o1 c1 b2 o2 c2 h1 g0 g1
    refine ⟨jR_e2 h1 g0.1 g1.1, fun hb hok lo hlo hD => ?_⟩
    have z3 : jZ 3 = 0 := rfl
    have z4 : jZ 4 = 0 := rfl
    have rb := jR_bd g0.1 hb
    have nx := jNx_bd (t := t) rb.2.2.1
    have rb' := jR_bd g1.1 nx.2.1
    have ob := jOp_bd 3 (jTk t T b1)
    obtain ⟨u1, u2, u3⟩ := g0.2 hb rfl lo hlo (by omega)
    obtain ⟨w1, w2, w3⟩ := g1.2 nx.2.1 rfl lo (by omega) (by omega)
    have q := jW_t hlo (by omega) u1 w1 u2 w2
    generalize jOp 3 (jTk t T b1) = k at *
    have v := jW_k (k := k) hlo (by omega) q.1 q.2 ⟨by omega, by omega, by omega⟩
    have dk : gDl k = -1 := by unfold gDl; rw [if_neg (by omega), if_neg (by omega)]
    exact ⟨v.1, v.2.1, by omega⟩
  · intro op b o c b1 o1 c1 b2 o2 c2 h1 g0 g1
    exact ⟨jR_e3 h1 g0.1 g1.1, fun _ hok => absurd hok (by decide)⟩
  · intro op b o c h0
    refine ⟨jR_s1 h0, fun hb hok lo hlo hD => ?_⟩
    have z6 : jZ 6 = 0 := rfl
    have vb := jTv_2 hb h0
    have v := jW_k (c := c) (k := 100 + jTv t T b) hlo (Int.le_refl _) (fun _ _ => rfl) (fun i i0 i1 => by omega) ⟨by omega, by omega, by omega⟩
    have dk : gDl (100 + jTv t T b) = 1 := by unfold gDl; rw [if_pos (by omega)]
    exact ⟨v.1, v.2.1, by omega⟩
  · intro op b o c h0
    refine ⟨jR_s2 h0, fun hb hok lo hlo hD => ?_⟩
    have z6 : jZ 6 = 0 := rfl
    have vb := jTv_4 h0
    have v := jW_k (c := c) (k := jTv t T b) hlo (Int.le_refl _) (fun _ _ => rfl) (fun i i0 i1 => by omega) ⟨by omega, by omega, by omega⟩
    have dk : gDl (jTv t T b) = 1 := by unfold gDl; rw [if_pos (by omega)]
    exact ⟨v.1, v.2.1, by omega⟩
  · intro op b o c b1 o1 c1 h0 h6 g0
    refine ⟨jR_s3 h0 h6 g0.1, fun hb hok lo hlo hD => ?_⟩
    have z6 : jZ 6 = 0 := rfl
    have nx := jNx_bd (t := t) hb
    have rb := jR_bd g0.1 nx.2.1
    obtain ⟨u1, u2, u3⟩ := g0.2 nx.2.1 rfl lo hlo (by omega)
    have v := jW_k (k := 31) hlo (by omega) u1 u2 ⟨by omega, by omega, by omega⟩
    have dk : gDl 31 = 0 := rfl
    exact ⟨v.1, v.2.1, by omega⟩
  · intro op b o c b1 o1 c1 h0 h6 g0
    exact ⟨jR_s4 h0 h6 g0.1, fun _ hok => absurd hok (by decide)⟩
  · intro op b o c b1 o1 c1 h0 h6 h4 g0
    refine ⟨jR_s5 h0 h6 h4 g0.1, fun hb hok lo hlo hD => ?_⟩
    have z6 : jZ 6 = 0 := rfl
    have z0 : jZ 0 = 0 := rfl
    have nx := jNx_bd (t := t) hb
    obtain ⟨u1, u2, u3⟩ := g0.2 nx.2.1 rfl lo hlo (by omega)
    exact ⟨u1, u2, by omega⟩
  · intro op b o c b1 o1 c1 h0 h6 h4 g0
    exact ⟨jR_s6 h0 h6 h4 g0.1, fun _ hok => absurd hok (by decide)⟩
  · intro op b o c b1 o1 c1 h0 h6 g0
    exact ⟨jR_s7 h0 h6 g0.1, fun _ hok => absurd hok (by decide)⟩
  · intro op b o c h2 h4 h
    exact ⟨jR_s8 h2 h4 h, fun _ hok => absurd hok (by decide)⟩
theorem jR_wf {t : Int → Int} {T op b o b2 o2 : Int} {c c2 : Int → Int} (h : jR t T 0 op b o c 1 b2 o2 c2) (hb : b ≤ T) : (∀ i, i < o → c2 i = c i) ∧ gWf c2 o o2 := by
  have w := (h _ jW_all).2 hb rfl o (Int.le_refl _) (by rw [gDp_0]; exact Int.le_refl _)
  have z0 : jZ 0 = 0 := rfl
  rw [gDp_0, z0] at w
  exact ⟨w.1, w.2.1, w.2.2⟩

