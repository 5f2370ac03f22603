/-! THE WHOLE RELATION -/
def RY (s su di re sh ea rs : Int → Int) (p w : Int → Int) : Prop := s 0 = p 6 ∧ s 7 = p 6160 ∧ (∀ y k, 0 ≤ y → y < 7 → 0 ≤ k → k < 7 → su (y * 7 + k) = p (5647 + 7 * k + y)) ∧ (∀ y k, 0 ≤ y → y < 7 → 0 ≤ k → k < 16 → di (y * 16 + k) = p (5696 + 16 * y + k) ∧ re (y * 16 + k) = p (5808 + 16 * y + k) ∧ ea (y * 16 + k) = p (6032 + 16 * y + k) ∧ sh (y * 16 + k) = w (16 * y + k)) ∧ (∀ k, 0 ≤ k → k < 16 → rs k = w (112 + k))
abbrev RYx (x : zM) (p w : Int → Int) : Prop := RY (x 108) (x 109) (x 117) (x 125) (x 133) (x 141) (x 149) p w
def RT (s du cw sb bm bw bu : Int → Int) (p : Int → Int) : Prop := s 1 = p 8 ∧ s 4 = p 7 ∧ (∀ k, 0 ≤ k → k ≤ 400 → du k = p (5146 + k)) ∧ (∀ k, 0 ≤ k → k < p 8 → cw k = p (5567 + k) ∧ sb k = p (5547 + k)) ∧ (∀ k, 0 ≤ k → k < p 7 → bm k = p (5587 + k) ∧ bw k = p (5607 + k) ∧ bu k = p (5627 + k))
abbrev RTx (x : zM) (p : Int → Int) : Prop := RT (x 150) (x 151) (x 152) (x 153) (x 154) (x 155) (x 156) p
def RP (to dr : Int → Int) (p : Int → Int) : Prop := (∀ r, 0 ≤ r → r < 4 → to r = p (5142 + r)) ∧ (∀ r k, 0 ≤ r → r < 4 → 0 ≤ k → k < 8 → dr (r * 8 + k) = p (5110 + 8 * r + k))
abbrev RPx (x : zM) (p : Int → Int) : Prop := RP (x 157) (x 158) p
def RF (x : zM) (p w : Int → Int) : Prop := RX x p ∧ RYx x p w ∧ RTx x p ∧ RPx x p
def zKp (x : zM) : zM := fun k => x (k + 162)
def IEc (p : Int → Int) : Prop := p 4 ≤ 300 + 5 * zT (fun l => if p (570 + l) = 2 then 1 else 0) (p 3) + 16 * p 6 + 16 * zT (fun y => p (5689 + y)) (p 6) ∧ IK p
def IY (p w : Int → Int) : Prop := (∀ y k, 0 ≤ y → y < 7 → 0 ≤ k → k < 16 → (0 ≤ p (5696 + 16 * y + k) ∧ p (5696 + 16 * y + k) ≤ 2879952) ∧ (0 ≤ p (5808 + 16 * y + k) ∧ p (5808 + 16 * y + k) ≤ 2879952) ∧ (0 ≤ p (6032 + 16 * y + k) ∧ p (6032 + 16 * y + k) ≤ 2879952) ∧ (p 6 ≤ y → p (6032 + 16 * y + k) = 0)) ∧ (∀ k, 0 ≤ k → k < 112 → 0 ≤ w k ∧ w k ≤ 400 * 2147483648) ∧ (∀ k, 112 ≤ k → k < 128 → 0 ≤ w k ∧ w k ≤ p 0 * 2147483648) ∧ (∀ y, 0 ≤ y → y < 7 → (0 ≤ p (5689 + y) ∧ p (5689 + y) ≤ 1) ∧ (0 ≤ p (5675 + y) ∧ p (5675 + y) ≤ 2879952))
def IC (N : Nat) (p : Int → Int) : Prop := (0 ≤ p 6161 ∧ p 6161 ≤ 219997 * (N : Int)) ∧ (0 ≤ p 6160 ∧ p 6160 ≤ 5279928 * p 0)
def IT (p : Int → Int) : Prop := (∀ k, 0 ≤ k → k ≤ 400 → -1 ≤ p (5146 + k) ∧ p (5146 + k) ≤ 15) ∧ (∀ k, 0 ≤ k → k < p 8 → 0 ≤ p (5567 + k) ∧ p (5567 + k) ≤ p 0)
def IP (p : Int → Int) : Prop := (∀ r, 0 ≤ r → r < 4 → 0 ≤ p (5142 + r) ∧ p (5142 + r) ≤ 1) ∧ (∀ r k, 0 ≤ r → r < 4 → 0 ≤ k → k < 8 → 0 ≤ p (5110 + 8 * r + k) ∧ p (5110 + 8 * r + k) ≤ 99999)
def IF (N : Nat) (p w : Int → Int) : Prop := IX p ∧ IM p ∧ IE p ∧ IEc p ∧ IY p w ∧ IC N p ∧ IT p ∧ IP p
def gWd (k : Int) : Int := (([1651469924, 465625246068, 1918989413, 32199693642659429, 6580598, 28270034923122292, 2003792491, 126943972648308, 495556388196, 1870095716, 117026742756708, 1818326117, 1802071652, 7566701, 2003133803, 1667330920, 26982, 28530, 6385252, 7237492] : List Int).getD k.toNat 0)
/-- the cells that no image keeps -/
def RO (x m : zM) : Prop := (∀ k, 2 ≤ k → k ≤ 8 → x 329 k = m 393 k) ∧ (0 ≤ m 386 9 ∧ m 386 9 ≤ 120 ∧ x 325 1 = m 386 9) ∧ (∀ k, 0 ≤ k → k < m 386 9 → x 326 k = m 394 k ∧ 0 ≤ m 394 k ∧ m 394 k ≤ 255) ∧ ((x 0 8 < 0 ∧ m 386 10 < 0) ∨ (0 ≤ m 386 10 ∧ m 386 10 ≤ 12 ∧ x 0 8 = m 386 10)) ∧ (∀ k, 0 ≤ k → k < 12 → x 328 k = m 395 k) ∧ (∀ k, 0 ≤ k → k < 20 → m 396 k = gWd k)
def RK (N : Nat) (x m : zM) : Prop := (x 0 2 = 0 ∧ m 386 6 = 0) ∨ (x 0 2 = 1 ∧ m 386 6 = 1 ∧ RF (zKp x) (m 388) (m 391) ∧ IF N (m 388) (m 391))
def Inv (N : Nat) (x m : zM) : Prop := RF x (m 387) (m 390) ∧ IF N (m 387) (m 390) ∧ RK N x m ∧ RO x m
theorem RF_s {x x' : zM} {p w : Int → Int} (h : zSx x x') (r : RF x p w) : RF x' p w := by
  refine ⟨RX_s h r.1, ?_, ?_, ?_⟩
  · unfold RYx; rw [h 108 rfl, h 109 rfl, h 117 rfl, h 125 rfl, h 133 rfl, h 141 rfl, h 149 rfl]; exact r.2.1
  · unfold RTx; rw [h 150 rfl, h 151 rfl, h 152 rfl, h 153 rfl, h 154 rfl, h 155 rfl, h 156 rfl]; exact r.2.2.1
  · unfold RPx; rw [h 157 rfl, h 158 rfl]; exact r.2.2.2
/-- the kept cells are the same -/
theorem RFk_s {x x' : zM} {p w : Int → Int} (h : ∀ k, 163 ≤ k → k ≤ 324 → x' k = x k) (r : RF (zKp x) p w) : RF (zKp x') p w := by
  have e : ∀ k, 1 ≤ k → k ≤ 162 → zKp x' k = zKp x k := fun k a b => h (k + 162) (by omega) (by omega)
  refine ⟨⟨?_, ?_, ?_, ?_, ?_⟩, ?_, ?_, ?_⟩
  · unfold RMx; rw [e 1 (by decide) (by decide), e 2 (by decide) (by decide), e 3 (by decide) (by decide), e 4 (by decide) (by decide), e 5 (by decide) (by decide), e 6 (by decide) (by decide)]; exact r.1.1
  · unfold RLx; rw [e 7 (by decide) (by decide), e 8 (by decide) (by decide), e 9 (by decide) (by decide), e 10 (by decide) (by decide), e 11 (by decide) (by decide), e 12 (by decide) (by decide)]; exact r.1.2.1
  · unfold RAx; rw [e 14 (by decide) (by decide), e 15 (by decide) (by decide), e 16 (by decide) (by decide), e 17 (by decide) (by decide), e 18 (by decide) (by decide), e 19 (by decide) (by decide), e 20 (by decide) (by decide), e 21 (by decide) (by decide), e 22 (by decide) (by decide), e 47 (by decide) (by decide)]; exact r.1.2.2.1
  · unfold RNx; rw [e 72 (by decide) (by decide), e 73 (by decide) (by decide), e 74 (by decide) (by decide), e 75 (by decide) (by decide), e 76 (by decide) (by decide), e 77 (by decide) (by decide), e 78 (by decide) (by decide), e 79 (by decide) (by decide), e 80 (by decide) (by decide), e 81 (by decide) (by decide), e 82 (by decide) (by decide), e 83 (by decide) (by decide), e 84 (by decide) (by decide), e 85 (by decide) (by decide), e 86 (by decide) (by decide), e 87 (by decide) (by decide)]; exact r.1.2.2.2.1
  · unfold RRx; rw [e 88 (by decide) (by decide), e 89 (by decide) (by decide), e 90 (by decide) (by decide), e 91 (by decide) (by decide), e 92 (by decide) (by decide), e 93 (by decide) (by decide), e 94 (by decide) (by decide)]; exact r.1.2.2.2.2
  · unfold RYx; rw [e 108 (by decide) (by decide), e 109 (by decide) (by decide), e 117 (by decide) (by decide), e 125 (by decide) (by decide), e 133 (by decide) (by decide), e 141 (by decide) (by decide), e 149 (by decide) (by decide)]; exact r.2.1
  · unfold RTx; rw [e 150 (by decide) (by decide), e 151 (by decide) (by decide), e 152 (by decide) (by decide), e 153 (by decide) (by decide), e 154 (by decide) (by decide), e 155 (by decide) (by decide), e 156 (by decide) (by decide)]; exact r.2.2.1
  · unfold RPx; rw [e 157 (by decide) (by decide), e 158 (by decide) (by decide)]; exact r.2.2.2
theorem IC_m {N N' : Nat} {p : Int → Int} (h : N ≤ N') (r : IC N p) : IC N' p := by unfold IC at *; omega
theorem IF_m {N N' : Nat} {p w : Int → Int} (h : N ≤ N') (r : IF N p w) : IF N' p w := ⟨r.1, r.2.1, r.2.2.1, r.2.2.2.1, r.2.2.2.2.1, IC_m h r.2.2.2.2.2.1, r.2.2.2.2.2.2.1, r.2.2.2.2.2.2.2⟩
theorem RK_m {N N' : Nat} {x x' m m' : zM} (h : N ≤ N') (e0 : x' 0 2 = x 0 2) (e6 : m' 386 6 = m 386 6) (hk : ∀ k, 163 ≤ k → k ≤ 324 → x' k = x k) (e1 : m' 388 = m 388) (e2 : m' 391 = m 391) (r : RK N x m) : RK N' x' m' := by
  unfold RK at *
  rw [e0, e6, e1, e2]
  rcases r with r | ⟨a, b, c, d⟩
  · exact Or.inl r
  · exact Or.inr ⟨a, b, RFk_s hk c, IF_m h d⟩
theorem zScr_k {k : Nat} (h0 : 163 ≤ k) (h1 : k ≤ 324) : zScr k = false := by
  have nb : ∀ b : Nat, k ≠ b → Nat.beq k b = false := fun b h => by
    cases e : Nat.beq k b
    · rfl
    · exact absurd (Nat.eq_of_beq_eq_true e) h
  have nl : Nat.ble 333 k = false := by
    cases e : Nat.ble 333 k
    · rfl
    · exact absurd (Nat.le_of_ble_eq_true e) (by omega)
  unfold zScr
  rw [nb 13 (by omega), nb 107 (by omega), nb 331 (by omega), nl]
  rfl
theorem Inv_s {N : Nat} {x x' m m' : zM} (hx : zSx x x') (hm : zSame m m') (h : Inv N x m) : Inv (N + 1) x' m' := by
  obtain ⟨a, b, c, d⟩ := h
  have e387 := hm.p
  have e390 : m' 390 = m 390 := hm.1 390 (by decide) (by decide) (by decide)
  refine ⟨?_, ?_, ?_, ?_⟩
  · rw [e387, e390]; exact RF_s hx a
  · rw [e387, e390]; exact IF_m (by omega) b
  · refine RK_m (by omega) (by rw [hx 0 rfl]) (hm.2 6 (by decide)) (fun k k0 k1 => hx k (zScr_k k0 k1)) (hm.1 388 (by decide) (by decide) (by decide)) (hm.1 391 (by decide) (by decide) (by decide)) c
  · unfold RO; rw [hx 329 rfl, hx 325 rfl, hx 326 rfl, hx 0 rfl, hx 328 rfl, hm.1 393 (by decide) (by decide) (by decide), hm.1 394 (by decide) (by decide) (by decide), hm.1 395 (by decide) (by decide) (by decide), hm.1 396 (by decide) (by decide) (by decide), hm.2 9 (by decide), hm.2 10 (by decide)]; exact d
def zcX (x : zM) (v : Int) : zM := zupd x 329 (-v) (w32 (x 329 (-v) + 1))
theorem Inv_c {N : Nat} {x m : zM} {v : Int} (v0 : -8 ≤ v) (v1 : v ≤ -2) (h : Inv N x m) : Inv (N + 1) (zcX x v) (zcM m v) := by
  obtain ⟨a, b, c, d⟩ := h
  have hx : ∀ k, k ≠ 329 → zcX x v k = x k := fun k hk => zu_ne _ _ _ hk
  have hm : ∀ k, k ≠ 393 → zcM m v k = m k := fun k hk => zu_ne _ _ _ hk
  refine ⟨?_, ?_, ?_, ?_⟩
  · rw [hm 387 (by decide), hm 390 (by decide)]
    exact a
  · rw [hm 387 (by decide), hm 390 (by decide)]; exact IF_m (by omega) b
  · exact RK_m (by omega) (by rw [hx 0 (by decide)]) (by rw [hm 386 (by decide)]) (fun k k0 k1 => hx k (by omega)) (hm 388 (by decide)) (hm 391 (by decide)) c
  · refine ⟨?_, ?_, ?_, ?_, ?_, ?_⟩
    · intro k k0 k1
      unfold zcX zcM
      rw [zu_eq, zu_eq]
      by_cases e : k = -v
      · rw [up_at e, up_at e, d.1 (-v) (by omega) (by omega)]
      · rw [up_ne e, up_ne e]; exact d.1 k k0 k1
    · rw [hm 386 (by decide), hx 325 (by decide)]; exact d.2.1
    · rw [hm 386 (by decide), hx 326 (by decide), hm 394 (by decide)]; exact d.2.2.1
    · rw [hm 386 (by decide), hx 0 (by decide)]; exact d.2.2.2.1
    · rw [hx 328 (by decide), hm 395 (by decide)]; exact d.2.2.2.2.1
    · rw [hm 396 (by decide)]; exact d.2.2.2.2.2
