/-! HOW A RULE IS READ: the grammar, as what holds of all that is closed under it -/
theorem jTe_bd {t : Int → Int} {T b : Int} (h : b ≤ T) : b ≤ jTe t T b ∧ jTe t T b ≤ T ∧ (b < T → b + 1 ≤ jTe t T b) := by
  unfold jTe
  by_cases c : T ≤ b
  · rw [if_pos c]; omega
  · rw [if_neg c]
    by_cases cd : 48 ≤ t b ∧ t b ≤ 57
    · rw [if_pos cd]
      have a := gSn_bd (t := t) (lo := 48) (hi := 57) h
      have e := gSn_gt (t := t) (T := T) (lo := 48) (hi := 57) (a := b) (by omega) cd.1 cd.2
      omega
    · rw [if_neg cd]
      by_cases cl : 97 ≤ t b ∧ t b ≤ 122
      · rw [if_pos cl]
        have a := gSn_bd (t := t) (lo := 97) (hi := 122) h
        have e := gSn_gt (t := t) (T := T) (lo := 97) (hi := 122) (a := b) (by omega) cl.1 cl.2
        omega
      · rw [if_neg cl]; omega
def jNx (t : Int → Int) (T b : Int) : Int := gSn t T 32 32 (jTe t T b)
theorem jNx_bd {t : Int → Int} {T b : Int} (h : b ≤ T) : b ≤ jNx t T b ∧ jNx t T b ≤ T ∧ (b < T → b + 1 ≤ jNx t T b) := by
  have a := jTe_bd (t := t) h
  have e := gSn_bd (t := t) (lo := 32) (hi := 32) a.2.1
  unfold jNx
  omega
theorem jTk_e {t : Int → Int} {T b : Int} (h : jTk t T b ≠ 0) : b < T := by
  unfold jTk at h
  by_cases c : T ≤ b
  · rw [if_pos c] at h; exact absurd rfl h
  · omega
/-- what a sign between two does, at each level -/
def jOp (l : Nat) (k : Int) : Int := if l = 0 then (if k = 6 then 20 else 0) else if l = 1 then (if k = 7 then 21 else 0) else if l = 3 then (if k = 61 then 23 else if k = 60 then 24 else if k = 62 then 25 else 0) else if l = 4 then (if k = 43 then 26 else if k = 45 then 27 else 0) else if l = 5 then (if k = 42 then 28 else if k = 47 then 29 else if k = 37 then 30 else 0) else 0
def jSub (l s : Nat) : Prop := (l = 0 ∧ s = 1) ∨ (l = 1 ∧ s = 2) ∨ (l = 4 ∧ s = 5) ∨ (l = 5 ∧ s = 6)
theorem jOp_bd (l : Nat) (k : Int) : jOp l k = 0 ∨ ((20 ≤ jOp l k ∧ jOp l k ≤ 30 ∧ jOp l k ≠ 22) ∧ k ≠ 0) := by
  unfold jOp
  by_cases l0 : l = 0
  · rw [if_pos l0]; split <;> omega
  · rw [if_neg l0]
    by_cases l1 : l = 1
    · rw [if_pos l1]; split <;> omega
    · rw [if_neg l1]
      by_cases l3 : l = 3
      · rw [if_pos l3]; (repeat' split) <;> omega
      · rw [if_neg l3]
        by_cases l4 : l = 4
        · rw [if_pos l4]; (repeat' split) <;> omega
        · rw [if_neg l4]
          by_cases l5 : l = 5
          · rw [if_pos l5]; (repeat' split) <;> omega
          · rw [if_neg l5]; omega

def jRules (t : Int → Int) (T : Int) (P : Nat → Int → Int → Int → (Int → Int) → Int → Int → Int → (Int → Int) → Prop) : Prop := (∀ (l : Nat) (s : Nat) (op : Int) (b : Int) (out : Int) (c : (Int → Int)) (b1 : Int) (o1 : Int) (c1 : (Int → Int)) (ok : Int) (b2 : Int) (o2 : Int) (c2 : (Int → Int)), jSub l s → P s op b out c 1 b1 o1 c1 → P (l + 10) op b1 o1 c1 ok b2 o2 c2 → P l op b out c ok b2 o2 c2) ∧ (∀ (l : Nat) (s : Nat) (op : Int) (b : Int) (out : Int) (c : (Int → Int)) (b1 : Int) (o1 : Int) (c1 : (Int → Int)), jSub l s → P s op b out c 0 b1 o1 c1 → P l op b out c 0 b1 o1 c1) ∧ (∀ (l : Nat) (s : Nat) (op : Int) (b : Int) (out : Int) (c : (Int → Int)), jSub l s → jOp l (jTk t T b) = 0 → P (l + 10) op b out c 1 b out c) ∧ (∀ (l : Nat) (s : Nat) (op : Int) (b : Int) (out : Int) (c : (Int → Int)) (b1 : Int) (o1 : Int) (c1 : (Int → Int)) (ok : Int) (b2 : Int) (o2 : Int) (c2 : (Int → Int)), jSub l s → jOp l (jTk t T b) ≠ 0 → P s op (jNx t T b) out c 1 b1 o1 c1 → P (l + 10) op b1 (o1 + 1) (up c1 o1 (jOp l (jTk t T b))) ok b2 o2 c2 → P (l + 10) op b out c ok b2 o2 c2) ∧ (∀ (l : Nat) (s : Nat) (op : Int) (b : Int) (out : Int) (c : (Int → Int)) (b1 : Int) (o1 : Int) (c1 : (Int → Int)), jSub l s → jOp l (jTk t T b) ≠ 0 → P s op (jNx t T b) out c 0 b1 o1 c1 → P (l + 10) op b out c 0 b1 o1 c1) ∧ (∀ (op : Int) (b : Int) (out : Int) (c : (Int → Int)) (ok : Int) (b1 : Int) (o1 : Int) (c1 : (Int → Int)), jTk t T b ≠ 8 → P 3 op b out c ok b1 o1 c1 → P 2 op b out c ok b1 o1 c1) ∧ (∀ (op : Int) (b : Int) (out : Int) (c : (Int → Int)), jTk t T b = 8 → 6 ≤ op → P 2 op b out c 0 b out c) ∧ (∀ (op : Int) (b : Int) (out : Int) (c : (Int → Int)) (b1 : Int) (o1 : Int) (c1 : (Int → Int)), jTk t T b = 8 → op < 6 → P 2 (op + 1) (jNx t T b) out c 1 b1 o1 c1 → P 2 op b out c 1 b1 (o1 + 1) (up c1 o1 22)) ∧ (∀ (op : Int) (b : Int) (out : Int) (c : (Int → Int)) (b1 : Int) (o1 : Int) (c1 : (Int → Int)), jTk t T b = 8 → op < 6 → P 2 (op + 1) (jNx t T b) out c 0 b1 o1 c1 → P 2 op b out c 0 b1 o1 c1) ∧ (∀ (op : Int) (b : Int) (out : Int) (c : (Int → Int)) (b1 : Int) (o1 : Int) (c1 : (Int → Int)), P 4 op b out c 0 b1 o1 c1 → P 3 op b out c 0 b1 o1 c1) ∧ (∀ (op : Int) (b : Int) (out : Int) (c : (Int → Int)) (b1 : Int) (o1 : Int) (c1 : (Int → Int)), jOp 3 (jTk t T b1) = 0 → P 4 op b out c 1 b1 o1 c1 → P 3 op b out c 1 b1 o1 c1) ∧ (∀ (op : Int) (b : Int) (out : Int) (c : (Int → Int)) (b1 : Int) (o1 : Int) (c1 : (Int → Int)) (b2 : Int) (o2 : Int) (c2 : (Int → Int)), jOp 3 (jTk t T b1) ≠ 0 → P 4 op b out c 1 b1 o1 c1 → P 4 op (jNx t T b1) o1 c1 1 b2 o2 c2 → P 3 op b out c 1 b2 (o2 + 1) (up c2 o2 (jOp 3 (jTk t T b1)))) ∧ (∀ (op : Int) (b : Int) (out : Int) (c : (Int → Int)) (b1 : Int) (o1 : Int) (c1 : (Int → Int)) (b2 : Int) (o2 : Int) (c2 : (Int → Int)), jOp 3 (jTk t T b1) ≠ 0 → P 4 op b out c 1 b1 o1 c1 → P 4 op (jNx t T b1) o1 c1 0 b2 o2 c2 → P 3 op b out c 0 b2 o2 c2) ∧ (∀ (op : Int) (b : Int) (out : Int) (c : (Int → Int)), jTk t T b = 2 → P 6 op b out c 1 (jNx t T b) (out + 1) (up c out (100 + jTv t T b))) ∧ (∀ (op : Int) (b : Int) (out : Int) (c : (Int → Int)), jTk t T b = 4 → P 6 op b out c 1 (jNx t T b) (out + 1) (up c out (jTv t T b))) ∧ (∀ (op : Int) (b : Int) (out : Int) (c : (Int → Int)) (b1 : Int) (o1 : Int) (c1 : (Int → Int)), jTk t T b = 45 → op < 6 → P 6 (op + 1) (jNx t T b) out c 1 b1 o1 c1 → P 6 op b out c 1 b1 (o1 + 1) (up c1 o1 31)) ∧ (∀ (op : Int) (b : Int) (out : Int) (c : (Int → Int)) (b1 : Int) (o1 : Int) (c1 : (Int → Int)), jTk t T b = 45 → op < 6 → P 6 (op + 1) (jNx t T b) out c 0 b1 o1 c1 → P 6 op b out c 0 b1 o1 c1) ∧ (∀ (op : Int) (b : Int) (out : Int) (c : (Int → Int)) (b1 : Int) (o1 : Int) (c1 : (Int → Int)), jTk t T b = 40 → op < 6 → jTk t T b1 = 41 → P 0 (op + 1) (jNx t T b) out c 1 b1 o1 c1 → P 6 op b out c 1 (jNx t T b1) o1 c1) ∧ (∀ (op : Int) (b : Int) (out : Int) (c : (Int → Int)) (b1 : Int) (o1 : Int) (c1 : (Int → Int)), jTk t T b = 40 → op < 6 → jTk t T b1 ≠ 41 → P 0 (op + 1) (jNx t T b) out c 1 b1 o1 c1 → P 6 op b out c 0 b1 o1 c1) ∧ (∀ (op : Int) (b : Int) (out : Int) (c : (Int → Int)) (b1 : Int) (o1 : Int) (c1 : (Int → Int)), jTk t T b = 40 → op < 6 → P 0 (op + 1) (jNx t T b) out c 0 b1 o1 c1 → P 6 op b out c 0 b1 o1 c1) ∧ (∀ (op : Int) (b : Int) (out : Int) (c : (Int → Int)), jTk t T b ≠ 2 → jTk t T b ≠ 4 → (jTk t T b ≠ 45 ∧ jTk t T b ≠ 40) ∨ 6 ≤ op → P 6 op b out c 0 b out c)
def jR (t : Int → Int) (T : Int) (l : Nat) (op b out : Int) (c : Int → Int) (ok b2 o2 : Int) (c2 : Int → Int) : Prop := ∀ P, jRules t T P → P l op b out c ok b2 o2 c2
theorem jR_c1 {t : Int → Int} {T : Int} {l : Nat} {s : Nat} {op : Int} {b : Int} {out : Int} {c : Int → Int} {b1 : Int} {o1 : Int} {c1 : Int → Int} {ok : Int} {b2 : Int} {o2 : Int} {c2 : Int → Int} (h0 : jSub l s) (g0 : jR t T s op b out c 1 b1 o1 c1) (g1 : jR t T (l + 10) op b1 o1 c1 ok b2 o2 c2) : jR t T l op b out c ok b2 o2 c2 := fun P hP => hP.1 _ _ _ _ _ _ _ _ _ _ _ _ _ h0 (g0 P hP) (g1 P hP)
theorem jR_c2 {t : Int → Int} {T : Int} {l : Nat} {s : Nat} {op : Int} {b : Int} {out : Int} {c : Int → Int} {b1 : Int} {o1 : Int} {c1 : Int → Int} (h0 : jSub l s) (g0 : jR t T s op b out c 0 b1 o1 c1) : jR t T l op b out c 0 b1 o1 c1 := fun P hP => hP.2.1 _ _ _ _ _ _ _ _ _ h0 (g0 P hP)
theorem jR_l0 {t : Int → Int} {T : Int} {l : Nat} {s : Nat} {op : Int} {b : Int} {out : Int} {c : Int → Int} (h0 : jSub l s) (h1 : jOp l (jTk t T b) = 0) : jR t T (l + 10) op b out c 1 b out c := fun P hP => hP.2.2.1 _ _ _ _ _ _ h0 h1 
theorem jR_l1 {t : Int → Int} {T : Int} {l : Nat} {s : Nat} {op : Int} {b : Int} {out : Int} {c : Int → Int} {b1 : Int} {o1 : Int} {c1 : Int → Int} {ok : Int} {b2 : Int} {o2 : Int} {c2 : Int → Int} (h0 : jSub l s) (h1 : jOp l (jTk t T b) ≠ 0) (g0 : jR t T s op (jNx t T b) out c 1 b1 o1 c1) (g1 : jR t T (l + 10) op b1 (o1 + 1) (up c1 o1 (jOp l (jTk t T b))) ok b2 o2 c2) : jR t T (l + 10) op b out c ok b2 o2 c2 := fun P hP => hP.2.2.2.1 _ _ _ _ _ _ _ _ _ _ _ _ _ h0 h1 (g0 P hP) (g1 P hP)
theorem jR_l2 {t : Int → Int} {T : Int} {l : Nat} {s : Nat} {op : Int} {b : Int} {out : Int} {c : Int → Int} {b1 : Int} {o1 : Int} {c1 : Int → Int} (h0 : jSub l s) (h1 : jOp l (jTk t T b) ≠ 0) (g0 : jR t T s op (jNx t T b) out c 0 b1 o1 c1) : jR t T (l + 10) op b out c 0 b1 o1 c1 := fun P hP => hP.2.2.2.2.1 _ _ _ _ _ _ _ _ _ h0 h1 (g0 P hP)
theorem jR_n0 {t : Int → Int} {T : Int} {op : Int} {b : Int} {out : Int} {c : Int → Int} {ok : Int} {b1 : Int} {o1 : Int} {c1 : Int → Int} (h0 : jTk t T b ≠ 8) (g0 : jR t T 3 op b out c ok b1 o1 c1) : jR t T 2 op b out c ok b1 o1 c1 := fun P hP => hP.2.2.2.2.2.1 _ _ _ _ _ _ _ _ h0 (g0 P hP)
theorem jR_n1 {t : Int → Int} {T : Int} {op : Int} {b : Int} {out : Int} {c : Int → Int} (h0 : jTk t T b = 8) (h1 : 6 ≤ op) : jR t T 2 op b out c 0 b out c := fun P hP => hP.2.2.2.2.2.2.1 _ _ _ _ h0 h1 
theorem jR_n2 {t : Int → Int} {T : Int} {op : Int} {b : Int} {out : Int} {c : Int → Int} {b1 : Int} {o1 : Int} {c1 : Int → Int} (h0 : jTk t T b = 8) (h1 : op < 6) (g0 : jR t T 2 (op + 1) (jNx t T b) out c 1 b1 o1 c1) : jR t T 2 op b out c 1 b1 (o1 + 1) (up c1 o1 22) := fun P hP => hP.2.2.2.2.2.2.2.1 _ _ _ _ _ _ _ h0 h1 (g0 P hP)
theorem jR_n3 {t : Int → Int} {T : Int} {op : Int} {b : Int} {out : Int} {c : Int → Int} {b1 : Int} {o1 : Int} {c1 : Int → Int} (h0 : jTk t T b = 8) (h1 : op < 6) (g0 : jR t T 2 (op + 1) (jNx t T b) out c 0 b1 o1 c1) : jR t T 2 op b out c 0 b1 o1 c1 := fun P hP => hP.2.2.2.2.2.2.2.2.1 _ _ _ _ _ _ _ h0 h1 (g0 P hP)
theorem jR_e0 {t : Int → Int} {T : Int} {op : Int} {b : Int} {out : Int} {c : Int → Int} {b1 : Int} {o1 : Int} {c1 : Int → Int} (g0 : jR t T 4 op b out c 0 b1 o1 c1) : jR t T 3 op b out c 0 b1 o1 c1 := fun P hP => hP.2.2.2.2.2.2.2.2.2.1 _ _ _ _ _ _ _  (g0 P hP)
theorem jR_e1 {t : Int → Int} {T : Int} {op : Int} {b : Int} {out : Int} {c : Int → Int} {b1 : Int} {o1 : Int} {c1 : Int → Int} (h0 : jOp 3 (jTk t T b1) = 0) (g0 : jR t T 4 op b out c 1 b1 o1 c1) : jR t T 3 op b out c 1 b1 o1 c1 := fun P hP => hP.2.2.2.2.2.2.2.2.2.2.1 _ _ _ _ _ _ _ h0 (g0 P hP)
theorem jR_e2 {t : Int → Int} {T : Int} {op : Int} {b : Int} {out : Int} {c : Int → Int} {b1 : Int} {o1 : Int} {c1 : Int → Int} {b2 : Int} {o2 : Int} {c2 : Int → Int} (h0 : jOp 3 (jTk t T b1) ≠ 0) (g0 : jR t T 4 op b out c 1 b1 o1 c1) (g1 : jR t T 4 op (jNx t T b1) o1 c1 1 b2 o2 c2) : jR t T 3 op b out c 1 b2 (o2 + 1) (up c2 o2 (jOp 3 (jTk t T b1))) := fun P hP => hP.2.2.2.2.2.2.2.2.2.2.2.1 _ _ _ _ _ _ _ _ _ _ h0 (g0 P hP) (g1 P hP)
theorem jR_e3 {t : Int → Int} {T : Int} {op : Int} {b : Int} {out : Int} {c : Int → Int} {b1 : Int} {o1 : Int} {c1 : Int → Int} {b2 : Int} {o2 : Int} {c2 : Int → Int} (h0 : jOp 3 (jTk t T b1) ≠ 0) (g0 : jR t T 4 op b out c 1 b1 o1 c1) (g1 : jR t T 4 op (jNx t T b1) o1 c1 0 b2 o2 c2) : jR t T 3 op b out c 0 b2 o2 c2 := fun P hP => hP.2.2.2.2.2.2.2.2.2.2.2.2.1 _ _ _ _ _ _ _ _ _ _ h0 (g0 P hP) (g1 P hP)
theorem jR_s1 {t : Int → Int} {T : Int} {op : Int} {b : Int} {out : Int} {c : Int → Int} (h0 : jTk t T b = 2) : jR t T 6 op b out c 1 (jNx t T b) (out + 1) (up c out (100 + jTv t T b)) := fun P hP => hP.2.2.2.2.2.2.2.2.2.2.2.2.2.1 _ _ _ _ h0 
theorem jR_s2 {t : Int → Int} {T : Int} {op : Int} {b : Int} {out : Int} {c : Int → Int} (h0 : jTk t T b = 4) : jR t T 6 op b out c 1 (jNx t T b) (out + 1) (up c out (jTv t T b)) := fun P hP => hP.2.2.2.2.2.2.2.2.2.2.2.2.2.2.1 _ _ _ _ h0 
theorem jR_s3 {t : Int → Int} {T : Int} {op : Int} {b : Int} {out : Int} {c : Int → Int} {b1 : Int} {o1 : Int} {c1 : Int → Int} (h0 : jTk t T b = 45) (h1 : op < 6) (g0 : jR t T 6 (op + 1) (jNx t T b) out c 1 b1 o1 c1) : jR t T 6 op b out c 1 b1 (o1 + 1) (up c1 o1 31) := fun P hP => hP.2.2.2.2.2.2.2.2.2.2.2.2.2.2.2.1 _ _ _ _ _ _ _ h0 h1 (g0 P hP)
theorem jR_s4 {t : Int → Int} {T : Int} {op : Int} {b : Int} {out : Int} {c : Int → Int} {b1 : Int} {o1 : Int} {c1 : Int → Int} (h0 : jTk t T b = 45) (h1 : op < 6) (g0 : jR t T 6 (op + 1) (jNx t T b) out c 0 b1 o1 c1) : jR t T 6 op b out c 0 b1 o1 c1 := fun P hP => hP.2.2.2.2.2.2.2.2.2.2.2.2.2.2.2.2.1 _ _ _ _ _ _ _ h0 h1 (g0 P hP)
theorem jR_s5 {t : Int → Int} {T : Int} {op : Int} {b : Int} {out : Int} {c : Int → Int} {b1 : Int} {o1 : Int} {c1 : Int → Int} (h0 : jTk t T b = 40) (h1 : op < 6) (h2 : jTk t T b1 = 41) (g0 : jR t T 0 (op + 1) (jNx t T b) out c 1 b1 o1 c1) : jR t T 6 op b out c 1 (jNx t T b1) o1 c1 := fun P hP => hP.2.2.2.2.2.2.2.2.2.2.2.2.2.2.2.2.2.1 _ _ _ _ _ _ _ h0 h1 h2 (g0 P hP)
theorem jR_s6 {t : Int → Int} {T : Int} {op : Int} {b : Int} {out : Int} {c : Int → Int} {b1 : Int} {o1 : Int} {c1 : Int → Int} (h0 : jTk t T b = 40) (h1 : op < 6) (h2 : jTk t T b1 ≠ 41) (g0 : jR t T 0 (op + 1) (jNx t T b) out c 1 b1 o1 c1) : jR t T 6 op b out c 0 b1 o1 c1 := fun P hP => hP.2.2.2.2.2.2.2.2.2.2.2.2.2.2.2.2.2.2.1 _ _ _ _ _ _ _ h0 h1 h2 (g0 P hP)
theorem jR_s7 {t : Int → Int} {T : Int} {op : Int} {b : Int} {out : Int} {c : Int → Int} {b1 : Int} {o1 : Int} {c1 : Int → Int} (h0 : jTk t T b = 40) (h1 : op < 6) (g0 : jR t T 0 (op + 1) (jNx t T b) out c 0 b1 o1 c1) : jR t T 6 op b out c 0 b1 o1 c1 := fun P hP => hP.2.2.2.2.2.2.2.2.2.2.2.2.2.2.2.2.2.2.2.1 _ _ _ _ _ _ _ h0 h1 (g0 P hP)
theorem jR_s8 {t : Int → Int} {T : Int} {op : Int} {b : Int} {out : Int} {c : Int → Int} (h0 : jTk t T b ≠ 2) (h1 : jTk t T b ≠ 4) (h2 : (jTk t T b ≠ 45 ∧ jTk t T b ≠ 40) ∨ 6 ≤ op) : jR t T 6 op b out c 0 b out c := fun P hP => hP.2.2.2.2.2.2.2.2.2.2.2.2.2.2.2.2.2.2.2.2 _ _ _ _ h0 h1 h2 
/-- where reading stands after it, and how much is put out -/
theorem jR_bd {t : Int → Int} {T : Int} {l : Nat} {op b out : Int} {c : Int → Int} {ok b2 o2 : Int} {c2 : Int → Int} (h : jR t T l op b out c ok b2 o2 c2) : b ≤ T → (ok = 0 ∨ ok = 1) ∧ b ≤ b2 ∧ b2 ≤ T ∧ (ok = 1 → out ≤ o2 ∧ o2 - out ≤ b2 - b) := by
  refine h (fun l op b out c ok b2 o2 c2 => b ≤ T → (ok = 0 ∨ ok = 1) ∧ b ≤ b2 ∧ b2 ≤ T ∧ (ok = 1 → out ≤ o2 ∧ o2 - out ≤ b2 - b)) ?_
  have nx := fun b (h : b ≤ T) => jNx_bd (t := t) h
  have tk := fun b (h : jTk t T b ≠ 0) => jTk_e h
  have oz := fun l b (h : jOp l (jTk t T b) ≠ 0) => tk b (by rcases jOp_bd l (jTk t T b) with e | e; exact absurd e h; exact e.2)
  refine ⟨?_, ?_, ?_, ?_, ?_, ?_, ?_, ?_, ?_, ?_, ?_, ?_, ?_, ?_, ?_, ?_, ?_, ?_, ?_, ?_, ?_⟩
  · intro l s op b out c b1 o1 c1 ok b2 o2 c2 _ g0 g1 hb
    have a := g0 hb
    have a' := g1 (by omega)
    omega
  · intro l s op b out c b1 o1 c1 _ g0 hb
    have a := g0 hb
    omega
  · intro l s op b out c _ _ hb
    omega
  · intro l s op b out c b1 o1 c1 ok b2 o2 c2 _ h1 g0 g1 hb
    have n := nx b hb
    have o := oz l b h1
    have a := g0 (by omega)
    have a' := g1 (by omega)
    omega
  · intro l s op b out c b1 o1 c1 _ h1 g0 hb
    have n := nx b hb
    have a := g0 (by omega)
    omega
  · intro op b out c ok b1 o1 c1 _ g0 hb
    exact g0 hb
  · intro op b out c _ _ hb
    omega
  · intro op b out c b1 o1 c1 h0 _ g0 hb
    have n := nx b hb
    have o := tk b (by omega)
    have a := g0 (by omega)
    omega
  · intro op b out c b1 o1 c1 _ _ g0 hb
    have n := nx b hb
    have a := g0 (by omega)
    omega
  · intro op b out c b1 o1 c1 g0 hb
    exact g0 hb
  · intro op b out c b1 o1 c1 _ g0 hb
    exact g0 hb
  · intro op b out c b1 o1 c1 b2 o2 c2 h0 g0 g1 hb
    have a := g0 hb
    have n := nx b1 (by omega)
    have o := oz 3 b1 h0
    have a' := g1 (by omega)
    omega
  · intro op b out c b1 o1 c1 b2 o2 c2 h0 g0 g1 hb
    have a := g0 hb
    have n := nx b1 (by omega)
    have a' := g1 (by omega)
    omega
  · intro op b out c h0 hb
    have n := nx b hb
    have o := tk b (by omega)
    omega
  · intro op b out c h0 hb
    have n := nx b hb
    have o := tk b (by omega)
    omega
  · intro op b out c b1 o1 c1 h0 _ g0 hb
    have n := nx b hb
    have o := tk b (by omega)
    have a := g0 (by omega)
    omega
  · intro op b out c b1 o1 c1 _ _ g0 hb
    have n := nx b hb
    have a := g0 (by omega)
    omega
  · intro op b out c b1 o1 c1 h0 _ h2 g0 hb
    have n := nx b hb
    have a := g0 (by omega)
    have n1 := nx b1 (by omega)
    omega
  · intro op b out c b1 o1 c1 _ _ _ g0 hb
    have n := nx b hb
    have a := g0 (by omega)
    omega
  · intro op b out c b1 o1 c1 _ _ g0 hb
    have n := nx b hb
    have a := g0 (by omega)
    omega
  · intro op b out c _ _ _ hb
    omega

