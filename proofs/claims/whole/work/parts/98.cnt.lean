/-! HOW MANY BITS: the JDK's own count -/
theorem zs_u : ∀ n, n < 32 → (((nI n).toUInt32 &&& Int32.toUInt32 31).toBitVec % 32).toNat = n := by decide +kernel
def zush (a b : Int) : Int := ((Int32.ofInt a).toUInt32 >>> ((Int32.ofInt b).toUInt32 &&& Int32.toUInt32 31)).toInt32.toInt
theorem zush_nat {a k : Nat} (ha : a < 2 ^ 31) (hk : k < 32) : zush a k = ((a / 2 ^ k : Nat) : Int) := by
  unfold zush
  rw [zi_nI, zi_nI, pk_ushrN (by omega) _ k (zs_u k hk), nI_toInt (Nat.lt_of_le_of_lt (Nat.div_le_self _ _) ha)]
theorem wp_iushr {d y pc n n' : Nat} {ls : List (Nat × zV)} {st : List zV} {u u' : List (Nat × Nat)} {x m : zM} {Q : Int → zM → zM → Prop} {a b : Int} (hd : decode (zCb y) pc = .ok (.iushr, 1)) (k : WP d y (pc + 1) ls (zi (zush a b) :: st) n u x m n' u' Q) : WP d y pc ls (zi b :: zi a :: st) n u x m n' u' Q :=
  wp_st (fun ad lsl _ _ _ => fun hx hb hk => lv_iushr hx hb hd rfl (by rw [← z32_of (UInt32.toInt32 _)]; exact hk)) (fun _ h => zOk_cons (v := zi _) (z32_rng _) (zOk_tl (zOk_tl h))) k
theorem and_split (x y : Nat) : x &&& y = ((x % 256) &&& (y % 256)) + 256 * ((x / 256) &&& (y / 256)) := by
  have h1 : (x &&& y) % 2 ^ 8 = (x % 2 ^ 8) &&& (y % 2 ^ 8) := Nat.and_mod_two_pow
  have h2 : (x &&& y) / 2 ^ 8 = (x / 2 ^ 8) &&& (y / 2 ^ 8) := Nat.and_div_two_pow
  have e : (2 : Nat) ^ 8 = 256 := rfl
  rw [e] at h1 h2
  rw [← h1, ← h2]
  omega
theorem and3 {x M mm : Nat} (h : x < 16777216) (h0 : M % 256 = mm) (h1 : M / 256 % 256 = mm) (h2 : M / 256 / 256 % 256 = mm) : x &&& M = ((x % 256) &&& mm) + 256 * ((x / 256 % 256) &&& mm) + 65536 * ((x / 65536) &&& mm) := by
  rw [and_split x M, and_split (x / 256) (M / 256), and_split (x / 256 / 256) (M / 256 / 256), h0, h1, h2]
  rw [show x / 256 / 256 / 256 = 0 by omega, Nat.zero_and, show x / 256 / 256 % 256 = x / 65536 by omega]
  omega
theorem bt1 : ∀ b, b < 256 → ∀ h, h < 2 → ((b / 2 + 128 * h) &&& 85) = ((b / 2) &&& 85) := by decide +kernel
theorem bt1l : ∀ b, b < 256 → ((b / 2) &&& 85) ≤ b := by decide +kernel
theorem bt2 : ∀ b, b < 256 → ∀ h, h < 4 → ((b / 4 + 64 * h) &&& 51) = ((b / 4) &&& 51) := by decide +kernel
def gb1 (b : Nat) : Nat := b - ((b / 2) &&& 85)
def gb2 (c : Nat) : Nat := (c &&& 51) + ((c / 4) &&& 51)
theorem bt3 : ∀ b, b < 256 → gb1 b < 256 ∧ gb2 (gb1 b) % 16 ≤ 4 ∧ gb2 (gb1 b) / 16 ≤ 4 ∧ gb2 (gb1 b) % 16 + gb2 (gb1 b) / 16 = b % 2 + b / 2 % 2 + b / 4 % 2 + b / 8 % 2 + b / 16 % 2 + b / 32 % 2 + b / 64 % 2 + b / 128 % 2 := by decide +kernel
theorem bt4 : ∀ b, b < 256 → (b &&& 15) = b % 16 := by decide +kernel
theorem pc1 {S : Nat} (h : S < 16777216) : ((S / 2) &&& 1431655765) ≤ S ∧ S - ((S / 2) &&& 1431655765) = gb1 (S % 256) + 256 * gb1 (S / 256 % 256) + 65536 * gb1 (S / 65536) := by
  have e := and3 (x := S / 2) (M := 1431655765) (mm := 85) (by omega) (by decide) (by decide) (by decide)
  have a0 := bt1 (S % 256) (by omega) (S / 256 % 2) (by omega)
  have a1 := bt1 (S / 256 % 256) (by omega) (S / 65536 % 2) (by omega)
  have l0 := bt1l (S % 256) (by omega)
  have l1 := bt1l (S / 256 % 256) (by omega)
  have l2 := bt1l (S / 65536) (by omega)
  rw [show S / 2 % 256 = S % 256 / 2 + 128 * (S / 256 % 2) by omega, show S / 2 / 256 % 256 = S / 256 % 256 / 2 + 128 * (S / 65536 % 2) by omega, show S / 2 / 65536 = S / 65536 / 2 by omega, a0, a1] at e
  unfold gb1
  omega
theorem pc2 {A c0 c1 c2 : Nat} (h : A = c0 + 256 * c1 + 65536 * c2) (h0 : c0 < 256) (h1 : c1 < 256) (h2 : c2 < 256) : (A &&& 858993459) + ((A / 4) &&& 858993459) = gb2 c0 + 256 * gb2 c1 + 65536 * gb2 c2 := by
  have e := and3 (x := A) (M := 858993459) (mm := 51) (by omega) (by decide) (by decide) (by decide)
  have f := and3 (x := A / 4) (M := 858993459) (mm := 51) (by omega) (by decide) (by decide) (by decide)
  have a0 := bt2 c0 h0 (c1 % 4) (by omega)
  have a1 := bt2 c1 h1 (c2 % 4) (by omega)
  rw [show A % 256 = c0 by omega, show A / 256 % 256 = c1 by omega, show A / 65536 = c2 by omega] at e
  rw [show A / 4 % 256 = c0 / 4 + 64 * (c1 % 4) by omega, show A / 4 / 256 % 256 = c1 / 4 + 64 * (c2 % 4) by omega, show A / 4 / 65536 = c2 / 4 by omega, a0, a1] at f
  unfold gb2
  omega
theorem by3 {X u0 u1 u2 : Nat} (h : X = u0 + 256 * (u1 + 256 * u2)) (l0 : u0 < 256) (l1 : u1 < 256) : X % 256 = u0 ∧ X / 256 % 256 = u1 ∧ X / 65536 = u2 := by
  obtain ⟨W, hW⟩ : ∃ W, W = u1 + 256 * u2 := ⟨_, rfl⟩
  rw [← hW] at h
  have a : X / 256 = W := by omega
  have b : X / 65536 = X / 256 / 256 := by omega
  rw [b, a]
  clear b a
  exact ⟨by omega, by omega, by omega⟩
theorem pc3 {A d0 d1 d2 : Nat} (h : A = d0 + 256 * d1 + 65536 * d2) (h0 : d0 % 16 ≤ 4 ∧ d0 / 16 ≤ 4) (h1 : d1 % 16 ≤ 4 ∧ d1 / 16 ≤ 4) (h2 : d2 % 16 ≤ 4 ∧ d2 / 16 ≤ 4) : ((A + A / 16) &&& 252645135) = (d0 % 16 + d0 / 16) + 256 * (d1 % 16 + d1 / 16) + 65536 * (d2 % 16 + d2 / 16) := by
  have k0 : d0 = d0 % 16 + 16 * (d0 / 16) := by omega
  have k1 : d1 = d1 % 16 + 16 * (d1 / 16) := by omega
  have k2 : d2 = d2 % 16 + 16 * (d2 / 16) := by omega
  generalize d0 % 16 = a0, d0 / 16 = b0 at k0 h0 ⊢
  generalize d1 % 16 = a1, d1 / 16 = b1 at k1 h1 ⊢
  generalize d2 % 16 = a2, d2 / 16 = b2 at k2 h2 ⊢
  subst k0 k1 k2
  obtain ⟨p0, q0⟩ := h0
  obtain ⟨p1, q1⟩ := h1
  obtain ⟨p2, q2⟩ := h2
  have hq : A / 16 = b0 + 16 * a1 + 256 * b1 + 4096 * a2 + 65536 * b2 := by omega
  obtain ⟨X, hX⟩ : ∃ X, X = A + A / 16 := ⟨_, rfl⟩
  rw [← hX]
  have hY : X = (a0 + b0) + 16 * (b0 + a1) + 256 * ((a1 + b1) + 16 * (b1 + a2) + 256 * ((a2 + b2) + 16 * b2)) := by omega
  clear hX hq h
  obtain ⟨u0, hu0⟩ : ∃ u, u = (a0 + b0) + 16 * (b0 + a1) := ⟨_, rfl⟩
  obtain ⟨u1, hu1⟩ : ∃ u, u = (a1 + b1) + 16 * (b1 + a2) := ⟨_, rfl⟩
  obtain ⟨u2, hu2⟩ : ∃ u, u = (a2 + b2) + 16 * b2 := ⟨_, rfl⟩
  rw [← hu0, ← hu1, ← hu2] at hY
  have l0 : u0 < 256 := by clear hY; omega
  have l1 : u1 < 256 := by clear hY; omega
  have l2 : u2 < 256 := by clear hY; omega
  have hXl : X < 16777216 := by clear hu0 hu1 hu2; omega
  have e := and3 (x := X) (M := 252645135) (mm := 15) hXl (by decide) (by decide) (by decide)
  obtain ⟨m0, m1, m2⟩ := by3 hY l0 l1
  rw [m0, m1, m2, bt4 _ l0, bt4 _ l1, bt4 _ l2] at e
  rw [e]
  clear e hY
  have r0 : u0 % 16 = a0 + b0 := by clear hu1 hu2; omega
  have r1 : u1 % 16 = a1 + b1 := by clear hu0 hu2; omega
  have r2 : u2 % 16 = a2 + b2 := by clear hu0 hu1; omega
  rw [r0, r1, r2]
theorem pc4 {A e0 e1 e2 : Nat} (h : A = e0 + 256 * e1 + 65536 * e2) (h0 : e0 ≤ 8) (h1 : e1 ≤ 8) (h2 : e2 ≤ 8) : ((A + A / 256 + (A + A / 256) / 65536) &&& 63) = e0 + e1 + e2 := by
  have e := Nat.and_two_pow_sub_one_eq_mod (A + A / 256 + (A + A / 256) / 65536) 6
  rw [show (2 : Nat) ^ 6 - 1 = 63 from rfl, show (2 : Nat) ^ 6 = 64 from rfl] at e
  rw [e]
  clear e
  have hq : A / 256 = e1 + 256 * e2 := by omega
  obtain ⟨X, hX⟩ : ∃ X, X = A + A / 256 := ⟨_, rfl⟩
  rw [← hX]
  have hY : X = (e0 + e1) + 256 * (e1 + e2) + 65536 * e2 := by omega
  clear hX hq h
  have hZ : X / 65536 = e2 := by omega
  rw [hZ]
  omega
theorem gCb_n (S j : Nat) : gCb S j = ((S / 2 ^ j % 2 : Nat) : Int) := by
  unfold gCb gBt
  rw [Int.toNat_natCast, Nat.testBit_eq_decide_div_mod_eq]
  have h2 : S / 2 ^ j % 2 = 0 ∨ S / 2 ^ j % 2 = 1 := by omega
  rcases h2 with h2 | h2 <;> rw [h2] <;> rfl
theorem zS_s (f : Int → Int) (n : Nat) : zS f (n + 1) = zS f n + f (n : Int) := rfl
theorem zS8 (f : Int → Int) (n : Nat) : zS f (n + 8) = zS f n + f (n : Int) + f ((n + 1 : Nat) : Int) + f ((n + 2 : Nat) : Int) + f ((n + 3 : Nat) : Int) + f ((n + 4 : Nat) : Int) + f ((n + 5 : Nat) : Int) + f ((n + 6 : Nat) : Int) + f ((n + 7 : Nat) : Int) := by
  rw [show n + 8 = (n + 7) + 1 from rfl, zS_s, show n + 7 = (n + 6) + 1 from rfl, zS_s, show n + 6 = (n + 5) + 1 from rfl, zS_s, show n + 5 = (n + 4) + 1 from rfl, zS_s, show n + 4 = (n + 3) + 1 from rfl, zS_s, show n + 3 = (n + 2) + 1 from rfl, zS_s, show n + 2 = (n + 1) + 1 from rfl, zS_s, zS_s]
theorem zS24 (f : Int → Int) : zS f 24 = 0 + f ((0 : Nat) : Int) + f ((1 : Nat) : Int) + f ((2 : Nat) : Int) + f ((3 : Nat) : Int) + f ((4 : Nat) : Int) + f ((5 : Nat) : Int) + f ((6 : Nat) : Int) + f ((7 : Nat) : Int) + f ((8 : Nat) : Int) + f ((9 : Nat) : Int) + f ((10 : Nat) : Int) + f ((11 : Nat) : Int) + f ((12 : Nat) : Int) + f ((13 : Nat) : Int) + f ((14 : Nat) : Int) + f ((15 : Nat) : Int) + f ((16 : Nat) : Int) + f ((17 : Nat) : Int) + f ((18 : Nat) : Int) + f ((19 : Nat) : Int) + f ((20 : Nat) : Int) + f ((21 : Nat) : Int) + f ((22 : Nat) : Int) + f ((23 : Nat) : Int) := by
  have a := zS8 f 16
  have b := zS8 f 8
  have c := zS8 f 0
  rw [show (0 : Nat) + 8 = 8 from rfl] at c
  rw [show (8 : Nat) + 8 = 16 from rfl, c] at b
  rw [show (16 : Nat) + 8 = 24 from rfl, b] at a
  exact a
theorem gB8 (a b c d e f g h : Nat) : (0 : Int) + a + b + c + d + e + f + g + h = ((a + b + c + d + e + f + g + h : Nat) : Int) := by omega
theorem gB8' (z a b c d e f g h : Nat) : (z : Int) + a + b + c + d + e + f + g + h = ((z + (a + b + c + d + e + f + g + h) : Nat) : Int) := by omega
theorem gCn_n (S : Nat) : gCn S = (((((S % 256) % 2 + (S % 256) / 2 % 2 + (S % 256) / 4 % 2 + (S % 256) / 8 % 2 + (S % 256) / 16 % 2 + (S % 256) / 32 % 2 + (S % 256) / 64 % 2 + (S % 256) / 128 % 2) + ((S / 256 % 256) % 2 + (S / 256 % 256) / 2 % 2 + (S / 256 % 256) / 4 % 2 + (S / 256 % 256) / 8 % 2 + (S / 256 % 256) / 16 % 2 + (S / 256 % 256) / 32 % 2 + (S / 256 % 256) / 64 % 2 + (S / 256 % 256) / 128 % 2)) + ((S / 65536) % 2 + (S / 65536) / 2 % 2 + (S / 65536) / 4 % 2 + (S / 65536) / 8 % 2 + (S / 65536) / 16 % 2 + (S / 65536) / 32 % 2 + (S / 65536) / 64 % 2 + (S / 65536) / 128 % 2) : Nat) : Int) := by
  unfold gCn zT
  rw [show ((24 : Int)).toNat = 24 from rfl, zS24]
  rw [gCb_n S 0, gCb_n S 1, gCb_n S 2, gCb_n S 3, gCb_n S 4, gCb_n S 5, gCb_n S 6, gCb_n S 7, gCb_n S 8, gCb_n S 9, gCb_n S 10, gCb_n S 11, gCb_n S 12, gCb_n S 13, gCb_n S 14, gCb_n S 15, gCb_n S 16, gCb_n S 17, gCb_n S 18, gCb_n S 19, gCb_n S 20, gCb_n S 21, gCb_n S 22, gCb_n S 23]
  have e0 : S / 2 ^ 0 % 2 = (S % 256) % 2 := by omega
  have e1 : S / 2 ^ 1 % 2 = (S % 256) / 2 % 2 := by omega
  have e2 : S / 2 ^ 2 % 2 = (S % 256) / 4 % 2 := by omega
  have e3 : S / 2 ^ 3 % 2 = (S % 256) / 8 % 2 := by omega
  have e4 : S / 2 ^ 4 % 2 = (S % 256) / 16 % 2 := by omega
  have e5 : S / 2 ^ 5 % 2 = (S % 256) / 32 % 2 := by omega
  have e6 : S / 2 ^ 6 % 2 = (S % 256) / 64 % 2 := by omega
  have e7 : S / 2 ^ 7 % 2 = (S % 256) / 128 % 2 := by omega
  have e8 : S / 2 ^ 8 % 2 = (S / 256 % 256) % 2 := by omega
  have e9 : S / 2 ^ 9 % 2 = (S / 256 % 256) / 2 % 2 := by omega
  have e10 : S / 2 ^ 10 % 2 = (S / 256 % 256) / 4 % 2 := by omega
  have e11 : S / 2 ^ 11 % 2 = (S / 256 % 256) / 8 % 2 := by omega
  have e12 : S / 2 ^ 12 % 2 = (S / 256 % 256) / 16 % 2 := by omega
  have e13 : S / 2 ^ 13 % 2 = (S / 256 % 256) / 32 % 2 := by omega
  have e14 : S / 2 ^ 14 % 2 = (S / 256 % 256) / 64 % 2 := by omega
  have e15 : S / 2 ^ 15 % 2 = (S / 256 % 256) / 128 % 2 := by omega
  have e16 : S / 2 ^ 16 % 2 = (S / 65536) % 2 := by omega
  have e17 : S / 2 ^ 17 % 2 = (S / 65536) / 2 % 2 := by omega
  have e18 : S / 2 ^ 18 % 2 = (S / 65536) / 4 % 2 := by omega
  have e19 : S / 2 ^ 19 % 2 = (S / 65536) / 8 % 2 := by omega
  have e20 : S / 2 ^ 20 % 2 = (S / 65536) / 16 % 2 := by omega
  have e21 : S / 2 ^ 21 % 2 = (S / 65536) / 32 % 2 := by omega
  have e22 : S / 2 ^ 22 % 2 = (S / 65536) / 64 % 2 := by omega
  have e23 : S / 2 ^ 23 % 2 = (S / 65536) / 128 % 2 := by omega
  rw [e0, e1, e2, e3, e4, e5, e6, e7, e8, e9, e10, e11, e12, e13, e14, e15, e16, e17, e18, e19, e20, e21, e22, e23, gB8, gB8', gB8']
theorem pcS {S : Nat} (h : S < 16777216) : ∃ a1 a2 a3 a4 a5 : Nat, ((S / 2) &&& 1431655765) ≤ S ∧ a1 = S - ((S / 2) &&& 1431655765) ∧ a2 = (a1 &&& 858993459) + ((a1 / 4) &&& 858993459) ∧ a3 = ((a2 + a2 / 16) &&& 252645135) ∧ a4 = a3 + a3 / 256 ∧ a5 = a4 + a4 / 65536 ∧ (((a5 &&& 63 : Nat) : Int) = gCn S) ∧ a1 < 2 ^ 25 ∧ a2 < 2 ^ 25 ∧ a3 < 2 ^ 25 ∧ a4 < 2 ^ 25 ∧ a5 < 2 ^ 25 := by
  have e1 := pc1 h
  obtain ⟨t0, t1, t2, t3⟩ := bt3 (S % 256) (by omega)
  obtain ⟨u0, u1, u2, u3⟩ := bt3 (S / 256 % 256) (by omega)
  obtain ⟨v0, v1, v2, v3⟩ := bt3 (S / 65536) (by omega)
  have e2 := pc2 e1.2 t0 u0 v0
  have e3 := pc3 e2 ⟨t1, t2⟩ ⟨u1, u2⟩ ⟨v1, v2⟩
  have e4 := pc4 e3 (by omega) (by omega) (by omega)
  refine ⟨_, _, _, _, _, e1.1, rfl, rfl, rfl, rfl, rfl, ?_, ?_, ?_, ?_, ?_, ?_⟩
  · rw [e4, gCn_n, t3, u3, v3]
  · omega
  · omega
  · omega
  · omega
  · omega
theorem c282 {d : Nat} {S : Nat} {x m : zM} {Q : Int → zM → zM → Prop} (hS : S < 2 ^ 24) (h : Q (gCn S) x m) : WPc d 282 [zi S] 403 [] x m 403 [] Q := by
  obtain ⟨a1, a2, a3, a4, a5, e0, e1, e2, e3, e4, e5, e6, l1, l2, l3, l4, l5⟩ := pcS (S := S) (by omega)
  have hl : ∀ a : Nat, a < 2 ^ 25 → zIn (a : Int) := fun a ha => by unfold zIn; omega
  have dv : ∀ a k : Nat, a < 2 ^ 25 → a / k < 2 ^ 25 := fun a k ha => Nat.lt_of_le_of_lt (Nat.div_le_self _ _) ha
  have an : ∀ a b : Nat, a < 2 ^ 25 → a &&& b < 2 ^ 25 := fun a b ha => Nat.lt_of_le_of_lt Nat.and_le_left ha
  have us : ∀ a k : Nat, a < 2 ^ 25 → k < 32 → zush a k = ((a / 2 ^ k : Nat) : Int) := fun a k ha hk => zush_nat (by omega) hk
  refine ze0 rfl rfl (fun ok => ?_)
  show WP d 282 0 [(0, zi S)] [] 403 [] x m 403 [] Q
  have hc1 : Cond.constant (zOw 282) 265 (Int32.ofInt 1431655765) ∈ zgood := by decide +kernel
  have hc2 : Cond.constant (zOw 282) 266 (Int32.ofInt 858993459) ∈ zgood := by decide +kernel
  have hc3 : Cond.constant (zOw 282) 267 (Int32.ofInt 252645135) ∈ zgood := by decide +kernel
  refine wp_iload_n (i := 0) (j := 0) (by decide +kernel) rfl ?_
  refine wp_iload_n (i := 0) (j := 0) (by decide +kernel) rfl ?_
  refine wp_iconst (i := 1) (by decide +kernel) (by unfold zIn; omega) ?_
  refine wp_iushr (by decide +kernel) ?_
  refine wp_ldcw (idx := 265) (z := 1431655765) (by decide +kernel) hc1 (by unfold zIn; omega) ?_
  refine wp_iand (by decide +kernel) ?_
  rw [show zush S 1 = ((S / 2 : Nat) : Int) from us S 1 (by omega) (by omega), show zand ((S / 2 : Nat) : Int) 1431655765 = (((S / 2) &&& 1431655765 : Nat) : Int) from zand_nat (by omega) (by decide)]
  refine wp_isub (z := (a1 : Int)) (by decide +kernel) (by congr 1; omega) (hl a1 l1) ?_
  refine wp_istore_n (i := 0) (by decide +kernel) (by decide +kernel) ?_
  show WP d 282 10 [(0, zi a1)] [] 403 [] x m 403 [] Q
  refine wp_iload_n (i := 0) (j := 0) (by decide +kernel) rfl ?_
  refine wp_ldcw (idx := 266) (z := 858993459) (by decide +kernel) hc2 (by unfold zIn; omega) ?_
  refine wp_iand (by decide +kernel) ?_
  refine wp_iload_n (i := 0) (j := 0) (by decide +kernel) rfl ?_
  refine wp_iconst (i := 2) (by decide +kernel) (by unfold zIn; omega) ?_
  refine wp_iushr (by decide +kernel) ?_
  refine wp_ldcw (idx := 266) (z := 858993459) (by decide +kernel) hc2 (by unfold zIn; omega) ?_
  refine wp_iand (by decide +kernel) ?_
  rw [show zush a1 2 = ((a1 / 4 : Nat) : Int) from us a1 2 l1 (by omega), show zand ((a1 / 4 : Nat) : Int) 858993459 = (((a1 / 4) &&& 858993459 : Nat) : Int) from zand_nat (by have := dv a1 4 l1; omega) (by decide), show zand (a1 : Int) 858993459 = ((a1 &&& 858993459 : Nat) : Int) from zand_nat (by omega) (by decide)]
  refine wp_iadd (z := (a2 : Int)) (by decide +kernel) (by congr 1; omega) (hl a2 l2) ?_
  refine wp_istore_n (i := 0) (by decide +kernel) (by decide +kernel) ?_
  show WP d 282 24 [(0, zi a2)] [] 403 [] x m 403 [] Q
  refine wp_iload_n (i := 0) (j := 0) (by decide +kernel) rfl ?_
  refine wp_iload_n (i := 0) (j := 0) (by decide +kernel) rfl ?_
  refine wp_iconst (i := 4) (by decide +kernel) (by unfold zIn; omega) ?_
  refine wp_iushr (by decide +kernel) ?_
  rw [show zush a2 4 = ((a2 / 16 : Nat) : Int) from us a2 4 l2 (by omega)]
  refine wp_iadd (z := ((a2 + a2 / 16 : Nat) : Int)) (by decide +kernel) (by congr 1) (by unfold zIn; have := dv a2 16 l2; omega) ?_
  refine wp_ldcw (idx := 267) (z := 252645135) (by decide +kernel) hc3 (by unfold zIn; omega) ?_
  refine wp_iand (by decide +kernel) ?_
  rw [show zand ((a2 + a2 / 16 : Nat) : Int) 252645135 = (((a2 + a2 / 16) &&& 252645135 : Nat) : Int) from zand_nat (by have := dv a2 16 l2; omega) (by decide), ← e3]
  refine wp_istore_n (i := 0) (by decide +kernel) (by decide +kernel) ?_
  show WP d 282 34 [(0, zi a3)] [] 403 [] x m 403 [] Q
  refine wp_iload_n (i := 0) (j := 0) (by decide +kernel) rfl ?_
  refine wp_iload_n (i := 0) (j := 0) (by decide +kernel) rfl ?_
  refine wp_bipush (i := 8) (by decide +kernel) (by omega) ?_
  refine wp_iushr (by decide +kernel) ?_
  rw [show zush a3 8 = ((a3 / 256 : Nat) : Int) from us a3 8 l3 (by omega)]
  refine wp_iadd (z := (a4 : Int)) (by decide +kernel) (by congr 1; omega) (hl a4 l4) ?_
  refine wp_istore_n (i := 0) (by decide +kernel) (by decide +kernel) ?_
  show WP d 282 41 [(0, zi a4)] [] 403 [] x m 403 [] Q
  refine wp_iload_n (i := 0) (j := 0) (by decide +kernel) rfl ?_
  refine wp_iload_n (i := 0) (j := 0) (by decide +kernel) rfl ?_
  refine wp_bipush (i := 16) (by decide +kernel) (by omega) ?_
  refine wp_iushr (by decide +kernel) ?_
  rw [show zush a4 16 = ((a4 / 65536 : Nat) : Int) from us a4 16 l4 (by omega)]
  refine wp_iadd (z := (a5 : Int)) (by decide +kernel) (by congr 1; omega) (hl a5 l5) ?_
  refine wp_istore_n (i := 0) (by decide +kernel) (by decide +kernel) ?_
  show WP d 282 48 [(0, zi a5)] [] 403 [] x m 403 [] Q
  refine wp_iload_n (i := 0) (j := 0) (by decide +kernel) rfl ?_
  refine wp_bipush (i := 63) (by decide +kernel) (by omega) ?_
  refine wp_iand (by decide +kernel) ?_
  rw [show zand (a5 : Int) 63 = ((a5 &&& 63 : Nat) : Int) from zand_nat (Nat.lt_trans l5 (by decide)) (by decide), e6]
  have cb := gCn_bd S
  exact wp_ret (r := gCn S) (by decide +kernel) (fun ad => rfl) (fun _ => by show zIn (gCn S); unfold zIn; omega) rfl rfl h
