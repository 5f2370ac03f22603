/-! WHAT THE RULES SAY: both sides -/
theorem zfil_at (x : zM) (k : Nat) (lo n v j : Int) (h : lo ≤ j ∧ j < lo + n) : zfil x k lo n v k j = v := by unfold zfil; rw [if_pos ⟨rfl, h⟩]
theorem zfil_ne (x : zM) {k k' : Nat} (lo n v : Int) (h : k' ≠ k) : zfil x k lo n v k' = x k' := by funext j; unfold zfil; rw [if_neg (fun c => h c.1)]
abbrev gAp (p : Int → Int) (key : Int) (nm : Int → Int) (r : Int) : Prop := p (3490 + r) = key ∧ p (3502 + r) ≤ p 0 ∧ p 0 < p (3514 + r) ∧ (p (3526 + r) = p (3538 + r) ∨ gW p r (p (3526 + r)) (p (3538 + r)) nm ≠ 0)
def gBs (p : Int → Int) (key : Int) (nm : Int → Int) : Nat → Int
  | 0 => -1
  | n + 1 => if gAp p key nm n then n else gBs p key nm n
def gBst (p : Int → Int) (key : Int) (nm : Int → Int) (n : Int) : Int := gBs p key nm n.toNat
theorem gBst_s {p : Int → Int} {key : Int} {nm : Int → Int} {i : Int} (h : 0 ≤ i) : gBst p key nm (i + 1) = if gAp p key nm i then i else gBst p key nm i := by
  unfold gBst
  have e : (i + 1).toNat = i.toNat + 1 := by omega
  have e2 : (i.toNat : Int) = i := by omega
  rw [e, gBs, e2]
theorem gBst_0 (p : Int → Int) (key : Int) (nm : Int → Int) : gBst p key nm 0 = -1 := rfl
theorem gBst_in {p : Int → Int} {key : Int} {nm : Int → Int} : ∀ i, 0 ≤ i → gBst p key nm i = -1 ∨ (0 ≤ gBst p key nm i ∧ gBst p key nm i < i) := by
  refine zup1 _ (Or.inl rfl) ?_
  intro j j0 ih
  rw [gBst_s j0]
  split <;> omega
theorem gBst_nm {p : Int → Int} {key : Int} {nm nm' : Int → Int} (h : nm = nm') : gBst p key nm = gBst p key nm' := by rw [h]
def gOt (key : Int) : Int := if key = 0 then 1 else if key = 1 then 5000 else if key = 2 then 10 else if key = 3 then 20 else if key = 4 then 50 else 0
def gTlr (p : Int → Int) (key : Int) (nm : Int → Int) (r : Int) : Int := if r = -1 then gOt key else gW p r 0 (p (3526 + r)) nm
def gTn (p : Int → Int) (key : Int) (nm : Int → Int) : Int := gTlr p key nm (gBst p key nm (p 5))
def gTell (p : Int → Int) (key who : Int) : Int := gTn p key (gNm p who)
def gWhy (p : Int → Int) (key who : Int) : Int := gBst p key (gNm p who) (p 5)
theorem s235 {d : Nat} {key who : Int} {p : Int → Int} {x m : zM} {Q : Int → zM → zM → Prop} (hd : 8 ≤ d) (hp : m 387 = p) (hB : IB p) (hA : IA p) (hN : IN p) (hR : IR p) (hw : gWho p who) (h : ∀ m', zSame m m' → m' 387 = p → m' 386 23 = gTell p key who → Q (gWhy p key who) x m') : WPc d 235 [zr 386, zi key, zi who] 403 [] x m 403 [] Q := by
  have hb := hB; unfold IB at hb
  have loop : ∀ i, 0 ≤ i → i ≤ p 5 → ∀ b, b = gBst p key (gNm p who) i → ∀ m', zSame m m' → m' 387 = p → (∀ k, 0 ≤ k → k < 10 → m' 397 k = gNm p who k) → m' 386 23 = gTlr p key (gNm p who) b → WP d 235 64 [(0, zr 386), (1, zi key), (3, zi b), (4, zi i)] [] 403 [] x m' 403 [] Q := by
    refine zdown (p 5) _ ?_
    intro i i0 i1 ih b hb' mA hfA hpA hnA hsA
    have hbs := gBst_s (p := p) (key := key) (nm := gNm p who) i0
    have hr := hR.1 i i0
    unfold IRr at hr
    have w1 := hR.2.1 i i0
    have w2 := hR.2.2 i i0
    dsimp only [gAp] at hbs
    have hT : gTlr p key (gNm p who) i = gW p i 0 (p (3526 + i)) (gNm p who) := by unfold gTlr; rw [if_neg (by omega)]
    apply r235_c64
    simp only [hpA]
    repeat' (first | (with_reducible assumption) | (with_reducible rfl) | (with_reducible apply And.intro) | (with_reducible apply zIn_mk) | (with_reducible apply zLn_mk) | ((with_reducible intro _); try (exfalso; omega)) | omega | (with_reducible exact Or.inr trivial) | (with_reducible exact Or.inl trivial) | ((refine ih (by omega) _ (by rw [hbs]; (first | rw [if_pos (by omega)] | rw [if_neg (by omega)]); first | done | exact hb') _ hfA hpA hnA hsA)) | ((refine ih (by omega) _ (by rw [hbs]; (first | rw [if_pos (by omega)] | rw [if_neg (by omega)]); first | done | exact hb') _ (hfA.u6 _) (by rw [zu_ne _ _ _ (by decide)]; exact hpA) (by rw [zu_ne _ _ _ (by decide)]; exact hnA) (by rw [zu_eq, up_eq]; first | exact hT.symm | exact hsA))) | ((refine s233 (p := p) (nm := gNm p who) (by omega) hpA i0 (by omega) (by omega) (by omega) (by omega) (by first | exact w1 (by omega) | exact w2 (by omega) (by omega)) hnA ?_; intro mB hB3; replace hfA := hfA.k8 hB3; replace hpA : mB 387 = p := (by rw [hB3 387 (by decide)]; exact hpA); replace hnA : ∀ k, 0 ≤ k → k < 10 → mB 397 k = gNm p who k := (by rw [hB3 397 (by decide)]; exact hnA); replace hsA : mB 386 23 = gTlr p key (gNm p who) b := (by rw [hB3 386 (by decide)]; exact hsA); try simp only [hpA])) | fail)
    · have ei : i = p 5 := by omega
      subst ei
      have := h mA hfA hpA (by rw [hsA, hb']; rfl)
      rw [hb']; exact this
  have go : ∀ m', zSame m m' → m' 387 = p → (∀ k, 0 ≤ k → k < 10 → m' 397 k = gNm p who k) → ∀ v, v = gOt key → WP d 235 64 [(0, zr 386), (1, zi key), (3, zi (-1)), (4, zi 0)] [] 403 [] x (zupd m' 386 23 v) 403 [] Q := by
    intro m' hf hp' hn v hv
    exact loop 0 (by omega) (by omega) (-1) rfl _ (hf.u6 _) (by rw [zu_ne _ _ _ (by decide)]; exact hp') (by rw [zu_ne _ _ _ (by decide)]; exact hn) (by rw [zu_eq, up_eq, hv]; rfl)
  apply r235
  repeat' (first | (with_reducible assumption) | (with_reducible rfl) | (with_reducible apply And.intro) | (with_reducible apply zIn_mk) | (with_reducible apply zLn_mk) | ((with_reducible intro _); try (exfalso; omega)) | omega | (with_reducible exact Or.inr trivial) | (with_reducible exact Or.inl trivial) | ((refine s234 (p := p) (by omega) hp hB hA hN hw ?_; intro mC hfC hpC h6C hnC)) | ((refine go _ hfC hpC hnC _ ?_; unfold gOt; repeat (first | rw [if_pos (by omega)] | rw [if_neg (by omega)]))) | fail)
/-- the class's scratch cells -/
def zScr (k : Nat) : Bool := Nat.beq k 13 || Nat.beq k 107 || Nat.beq k 331 || (Nat.ble 333 k && Nat.ble k 385)
def zSx (x x' : zM) : Prop := ∀ k, zScr k = false → x' k = x k
theorem zSx.rf (x : zM) : zSx x x := fun _ _ => rfl
theorem zSx.tr {x x' x'' : zM} (h : zSx x x') (h' : zSx x' x'') : zSx x x'' := fun k a => by rw [h' k a, h k a]
theorem zSx.u {x x' : zM} (h : zSx x x') {k : Nat} (hk : zScr k = true) (i v : Int) : zSx x (zupd x' k i v) := fun k' a => by
  rw [zu_ne _ _ _ (by intro e; rw [e, hk] at a; exact absurd a (by decide))]; exact h k' a
theorem zSx.f {x x' : zM} (h : zSx x x') {k : Nat} (hk : zScr k = true) (lo n v : Int) : zSx x (zfil x' k lo n v) := fun k' a => by
  rw [zfil_ne _ _ _ _ (by intro e; rw [e, hk] at a; exact absurd a (by decide))]; exact h k' a
theorem zSx.o {x x' x'' : zM} (h : zSx x x') {k0 : Nat} (hk : zScr k0 = true) (h' : ∀ k, k ≠ k0 → x'' k = x' k) : zSx x x'' := fun k' a => by
  rw [h' k' (by intro e; rw [e, hk] at a; exact absurd a (by decide))]; exact h k' a
theorem RMx_s {x x' : zM} {p : Int → Int} (h : zSx x x') (r : RMx x p) : RMx x' p := by unfold RMx; rw [h 1 rfl, h 2 rfl, h 3 rfl, h 4 rfl, h 5 rfl, h 6 rfl]; exact r
theorem RLx_s {x x' : zM} {p : Int → Int} (h : zSx x x') (r : RLx x p) : RLx x' p := by unfold RLx; rw [h 7 rfl, h 8 rfl, h 9 rfl, h 10 rfl, h 11 rfl, h 12 rfl]; exact r
theorem RAx_s {x x' : zM} {p : Int → Int} (h : zSx x x') (r : RAx x p) : RAx x' p := by unfold RAx; rw [h 14 rfl, h 15 rfl, h 16 rfl, h 17 rfl, h 18 rfl, h 19 rfl, h 20 rfl, h 21 rfl, h 22 rfl, h 47 rfl]; exact r
theorem RNx_s {x x' : zM} {p : Int → Int} (h : zSx x x') (r : RNx x p) : RNx x' p := by unfold RNx; rw [h 72 rfl, h 73 rfl, h 74 rfl, h 75 rfl, h 76 rfl, h 77 rfl, h 78 rfl, h 79 rfl, h 80 rfl, h 81 rfl, h 82 rfl, h 83 rfl, h 84 rfl, h 85 rfl, h 86 rfl, h 87 rfl]; exact r
theorem RRx_s {x x' : zM} {p : Int → Int} (h : zSx x x') (r : RRx x p) : RRx x' p := by unfold RRx; rw [h 88 rfl, h 89 rfl, h 90 rfl, h 91 rfl, h 92 rfl, h 93 rfl, h 94 rfl]; exact r
/-- the cells that the lender reads -/
def RX (x : zM) (p : Int → Int) : Prop := RMx x p ∧ RLx x p ∧ RAx x p ∧ RNx x p ∧ RRx x p
theorem RX_s {x x' : zM} {p : Int → Int} (h : zSx x x') (r : RX x p) : RX x' p := ⟨RMx_s h r.1, RLx_s h r.2.1, RAx_s h r.2.2.1, RNx_s h r.2.2.2.1, RRx_s h r.2.2.2.2⟩
/-- what holds of the model's numbers, as far as the lender needs it -/
def IX (p : Int → Int) : Prop := IB p ∧ IA p ∧ IN p ∧ IR p
theorem c32 {d : Nat} {p : Int → Int} {x m : zM} {Q : Int → zM → zM → Prop} (hd : 1 ≤ d) (hX : RX x p) (h : ∀ x', zSx x x' → (∀ k, 0 ≤ k → k < 10 → x' 331 k = gNm p (-1) k) → Q 0 x' m) : WPc d 32 [zr 330] 403 [] x m 403 [] Q := by
  have e1 : x 1 0 = p 0 := hX.1.1
  have e2 : x 7 7 = p 6161 := hX.2.1.2.2.2.1
  apply r32
  repeat' (first | (with_reducible assumption) | (with_reducible rfl) | (with_reducible apply And.intro) | (with_reducible apply zIn_mk) | (with_reducible apply zLn_mk) | ((with_reducible intro _); try (exfalso; omega)) | omega | (with_reducible exact Or.inr trivial) | (with_reducible exact Or.inl trivial) | ((refine r284 (k := 331) (len := 10) rfl rfl ?_)) | ((refine h _ (((zSx.rf x).f rfl _ _ _).u rfl _ _ |>.u rfl _ _) ?_)) | fail)
  rename_i k k0 k1
  rw [zfil_ne _ _ _ _ (by decide), zfil_ne _ _ _ _ (by decide), e1, e2]
  simp only [zu_eq, up]
  have ef : ∀ j, 0 ≤ j → j < 10 → zfil x 331 0 10 0 331 j = 0 := fun j j0 j1 => zfil_at _ _ _ _ _ _ (by omega)
  rcases cs10 k0 k1 with e | e | e | e | e | e | e | e | e | e <;> subst e <;> simp only [gNm, reduceIte, Int.reduceEq]
  all_goals exact ef _ (by decide) (by decide)
