/-! WORDS OF A RULE: what stands on the tape, and the class that reads it -/
def gSc (t : Int → Int) (T lo hi : Int) : Nat → Int → Int
  | 0, a => a
  | n + 1, a => if a < T ∧ lo ≤ t a ∧ t a ≤ hi then gSc t T lo hi n (a + 1) else a
def gSn (t : Int → Int) (T lo hi a : Int) : Int := gSc t T lo hi (T - a).toNat a
theorem gSn_y {t : Int → Int} {T lo hi a : Int} (h : a < T) (l : lo ≤ t a) (u : t a ≤ hi) : gSn t T lo hi a = gSn t T lo hi (a + 1) := by
  unfold gSn
  rw [show (T - a).toNat = (T - (a + 1)).toNat + 1 by omega, gSc, if_pos ⟨h, l, u⟩]
theorem gSn_n {t : Int → Int} {T lo hi a : Int} (h : T ≤ a ∨ t a < lo ∨ hi < t a) : gSn t T lo hi a = a := by
  unfold gSn
  cases (T - a).toNat with
  | zero => rfl
  | succ n => rw [gSc, if_neg (by omega)]
theorem gSc_bd {t : Int → Int} {T lo hi : Int} : ∀ (n : Nat) (a : Int), a ≤ T → a ≤ gSc t T lo hi n a ∧ gSc t T lo hi n a ≤ T
  | 0, a => fun h => ⟨Int.le_refl _, h⟩
  | n + 1, a => fun h => by
    rw [gSc]
    by_cases c : a < T ∧ lo ≤ t a ∧ t a ≤ hi
    · rw [if_pos c]
      have := gSc_bd (t := t) (T := T) (lo := lo) (hi := hi) n (a + 1) (by omega)
      omega
    · rw [if_neg c]; omega
theorem gSn_bd {t : Int → Int} {T lo hi a : Int} (h : a ≤ T) : a ≤ gSn t T lo hi a ∧ gSn t T lo hi a ≤ T := gSc_bd _ a h
theorem gSn_gt {t : Int → Int} {T lo hi a : Int} (h : a < T) (l : lo ≤ t a) (u : t a ≤ hi) : a + 1 ≤ gSn t T lo hi a := by
  rw [gSn_y h l u]; exact (gSn_bd (by omega)).1
def gNvN (t : Int → Int) (b : Int) : Nat → Int
  | 0 => 0
  | n + 1 => gNvN t b n * 10 + t (b + n) - 48
def gNv (t : Int → Int) (b n : Int) : Int := gNvN t b n.toNat
theorem gNv_0 (t : Int → Int) (b : Int) : gNv t b 0 = 0 := rfl
theorem gNv_s {t : Int → Int} {b n : Int} (h : 0 ≤ n) : gNv t b (n + 1) = gNv t b n * 10 + t (b + n) - 48 := by
  unfold gNv
  have e : (n + 1).toNat = n.toNat + 1 := by omega
  have e2 : (n.toNat : Int) = n := by omega
  rw [e, gNvN, e2]
/-- the words -/
def gWl (k : Int) : Int := (([4, 5, 4, 7, 3, 7, 4, 6, 5, 4, 6, 4, 4, 3, 4, 4, 2, 2, 3, 3] : List Int).getD k.toNat 0)
def gWo (k : Int) : Int := (([0, 5, 11, 16, 24, 28, 36, 41, 48, 54, 59, 66, 71, 76, 80, 85, 90, 93, 96, 100, 104] : List Int).getD k.toNat 0)
theorem gW_n : ∀ k : Nat, k < 20 → (1 ≤ gWl k ∧ gWl k ≤ 7) ∧ (0 ≤ gWo k ∧ gWo k + gWl k < 104) ∧ zChr (gWo k + gWl k) = 32 ∧ gWo ((k + 1 : Nat) : Int) = gWo k + gWl k + 1 ∧ (∀ i : Nat, i < (gWl k).toNat → 97 ≤ zChr (gWo k + i) ∧ zChr (gWo k + i) ≤ 122) := by decide +kernel
theorem jW_f {k : Int} (k0 : 0 ≤ k) (k1 : k < 20) : (1 ≤ gWl k ∧ gWl k ≤ 7) ∧ (0 ≤ gWo k ∧ gWo k + gWl k < 104) ∧ zChr (gWo k + gWl k) = 32 ∧ gWo (k + 1) = gWo k + gWl k + 1 ∧ (∀ i : Int, 0 ≤ i → i < gWl k → 97 ≤ zChr (gWo k + i) ∧ zChr (gWo k + i) ≤ 122) := by
  obtain ⟨n, rfl⟩ := Int.eq_ofNat_of_zero_le k0
  obtain ⟨a, b, c, d, e⟩ := gW_n n (by omega)
  refine ⟨a, b, c, d, fun i i0 i1 => ?_⟩
  obtain ⟨j, rfl⟩ := Int.eq_ofNat_of_zero_le i0
  exact e j (by omega)
def gAl (t : Int → Int) (b o : Int) : Nat → Bool
  | 0 => true
  | n + 1 => gAl t b o n && decide (t (b + n) = zChr (o + n))
def gAi (t : Int → Int) (b o i : Int) : Bool := gAl t b o i.toNat
theorem gAi_s {t : Int → Int} {b o i : Int} (h : 0 ≤ i) : gAi t b o (i + 1) = (gAi t b o i && decide (t (b + i) = zChr (o + i))) := by
  unfold gAi
  have e : (i + 1).toNat = i.toNat + 1 := by omega
  have e2 : (i.toNat : Int) = i := by omega
  rw [e, gAl, e2]
def jMt (t : Int → Int) (b e k : Int) : Bool := decide (e - b = gWl k) && gAi t b (gWo k) (gWl k)
def gWi (t : Int → Int) (b e : Int) : Nat → Int → Int
  | 0, _ => -1
  | n + 1, k => if jMt t b e k = true then k else gWi t b e n (k + 1)
def gWj (t : Int → Int) (b e k : Int) : Int := gWi t b e (20 - k).toNat k
def gWn (t : Int → Int) (b e : Int) : Int := gWj t b e 0
theorem gWj_y {t : Int → Int} {b e k : Int} (k1 : k < 20) (h : jMt t b e k = true) : gWj t b e k = k := by
  unfold gWj
  rw [show (20 - k).toNat = (20 - (k + 1)).toNat + 1 by omega, gWi, if_pos h]
theorem gWj_n {t : Int → Int} {b e k : Int} (k1 : k < 20) (h : ¬ jMt t b e k = true) : gWj t b e k = gWj t b e (k + 1) := by
  unfold gWj
  rw [show (20 - k).toNat = (20 - (k + 1)).toNat + 1 by omega, gWi, if_neg h]
theorem gWj_e {t : Int → Int} {b e : Int} : gWj t b e 20 = -1 := rfl
theorem gWi_bd {t : Int → Int} {b e : Int} : ∀ (n : Nat) (k : Int), 0 ≤ k → k + n ≤ 20 → -1 ≤ gWi t b e n k ∧ gWi t b e n k < 20
  | 0, k => fun _ _ => by rw [gWi]; omega
  | n + 1, k => fun k0 k1 => by
    rw [gWi]
    by_cases c : jMt t b e k = true
    · rw [if_pos c]; omega
    · rw [if_neg c]; exact gWi_bd n (k + 1) (by omega) (by omega)
theorem gWn_bd (t : Int → Int) (b e : Int) : -1 ≤ gWn t b e ∧ gWn t b e < 20 := gWi_bd 20 0 (by omega) (by omega)
/-- a reader's tape -/
def jTp (x : zM) (t : Int → Int) (T : Int) : Prop := (0 ≤ T ∧ T ≤ 120) ∧ x 325 1 = T ∧ ∀ i, 0 ≤ i → i < T → x 326 i = t i ∧ 0 ≤ t i ∧ t i ≤ 255
theorem c90 {d : Nat} {t : Int → Int} {T b e : Int} {x m : zM} {Q : Int → zM → zM → Prop} (hd : 8 ≤ d) (hT : jTp x t T) (eb : x 325 4 = b) (ee : x 325 2 = e) (b0 : 0 ≤ b) (b1 : b ≤ e) (e1 : e ≤ T) (h : Q (gWn t b e) x m) : WPc d 90 [zr 325] 403 [] x m 403 [] Q := by
  obtain ⟨⟨T0, T1⟩, eT, ht⟩ := hT
  have words : ∀ k, 0 ≤ k → k ≤ 20 → gWj t b e k = gWn t b e → WP d 90 12 [(0, zr 325), (1, zi k), (2, zi b), (3, zi 1), (4, zi (gWo k))] [] 403 [] x m 403 [] Q := by
    refine zdown 20 _ ?_
    intro k k0 k1 ih hw
    by_cases c : k = 20
    · subst c
      rw [gWj_e] at hw
      rw [← hw] at h
      have eo : gWo 20 = 104 := rfl
      rw [eo]
      apply r90_c12
      clear ih ht
      repeat' (first | (with_reducible assumption) | (with_reducible rfl) | (with_reducible apply And.intro) | (with_reducible apply zIn_mk) | (with_reducible apply zLn_mk) | ((with_reducible intro _); try (exfalso; omega)) | omega | (with_reducible exact Or.inr trivial) | (with_reducible exact Or.inl trivial) | ((exact h)) | fail)
    · obtain ⟨⟨l0, l1⟩, ⟨o0, o1⟩, cs, on, cl⟩ := jW_f k0 (show k < 20 by omega)
      have nx : jMt t b e k = false → WP d 90 12 [(0, zr 325), (1, zi (k + 1)), (2, zi b), (3, zi 1), (4, zi (gWo k + gWl k + 1))] [] 403 [] x m 403 [] Q := fun hm => by
        rw [← on]
        exact ih (by omega) (by rw [← hw]; exact (gWj_n (by omega) (by rw [hm]; decide)).symm)
      have ys : jMt t b e k = true → Q k x m := fun hm => by
        rw [gWj_y (by omega) hm] at hw
        rw [hw]; exact h
      clear ih hw h
      have inner : ∀ i, 0 ≤ i → i ≤ gWl k → ∀ v2 v3, ((v3 = 1 ∧ v2 = b + i ∧ b + i ≤ e ∧ gAi t b (gWo k) i = true) ∨ (v3 = 0 ∧ (b ≤ v2 ∧ v2 ≤ e) ∧ (e < b + i ∨ gAi t b (gWo k) i = false))) → WP d 90 12 [(0, zr 325), (1, zi k), (2, zi v2), (3, zi v3), (4, zi (gWo k + i))] [] 403 [] x m 403 [] Q := by
        refine zdown _ _ ?_
        intro i i0 i1 ihi v2 v3 hv
        by_cases ci : i = gWl k
        · subst ci
          apply r90_c12
          simp only [cs, ee, eb]
          rcases hv with ⟨v31, v22, be, al⟩ | ⟨v30, ve, al⟩
          · subst v31
            by_cases cm : v2 = e
            · have y := ys (by unfold jMt; rw [al, decide_eq_true (by omega)]; rfl)
              clear ys nx ihi al cl ht
              repeat' (first | (with_reducible assumption) | (with_reducible rfl) | (with_reducible apply And.intro) | (with_reducible apply zIn_mk) | (with_reducible apply zLn_mk) | ((with_reducible intro _); try (exfalso; omega)) | omega | (with_reducible exact Or.inr trivial) | (with_reducible exact Or.inl trivial) | ((exact y)) | ((exact absurd rfl (by assumption))) | fail)
            · have y := nx (by unfold jMt; rw [decide_eq_false (by omega)]; rfl)
              clear ys nx ihi al cl ht
              repeat' (first | (with_reducible assumption) | (with_reducible rfl) | (with_reducible apply And.intro) | (with_reducible apply zIn_mk) | (with_reducible apply zLn_mk) | ((with_reducible intro _); try (exfalso; omega)) | omega | (with_reducible exact Or.inr trivial) | (with_reducible exact Or.inl trivial) | ((exact y)) | ((exact absurd rfl (by assumption))) | fail)
          · subst v30
            have y := nx (by
              unfold jMt
              rcases al with al | al
              · rw [decide_eq_false (by omega)]; rfl
              · rw [al, Bool.and_false])
            clear ys nx ihi al cl ht
            repeat' (first | (with_reducible assumption) | (with_reducible rfl) | (with_reducible apply And.intro) | (with_reducible apply zIn_mk) | (with_reducible apply zLn_mk) | ((with_reducible intro _); try (exfalso; omega)) | omega | (with_reducible exact Or.inr trivial) | (with_reducible exact Or.inl trivial) | ((exact y)) | ((exact absurd rfl (by assumption))) | fail)
        · have c2 := cl i i0 (by omega)
          have ih' := ihi (by omega)
          rw [gAi_s i0] at ih'
          obtain ⟨ch, hch⟩ : ∃ ch, ch = zChr (gWo k + i) := ⟨_, rfl⟩
          rw [← hch] at c2 ih'
          have e5 : gWo k + i + 1 = gWo k + (i + 1) := by omega
          apply r90_c12
          simp only [← hch, ee, eb, e5]
          clear ys nx ihi cl cs hch on
          rcases hv with ⟨v31, v22, be, al⟩ | ⟨v30, ve, al⟩
          · by_cases ce : v2 < e
            · obtain ⟨t1, t2, t3⟩ := ht v2 (by omega) (by omega)
              simp only [t1]
              by_cases cc : t v2 = ch
              · have g := ih' (v2 + 1) v3 (Or.inl ⟨v31, by omega, by omega, by rw [al, ← v22, decide_eq_true cc]; rfl⟩)
                clear ih' ht al
                repeat' (first | (with_reducible assumption) | (with_reducible rfl) | (with_reducible apply And.intro) | (with_reducible apply zIn_mk) | (with_reducible apply zLn_mk) | ((with_reducible intro _); try (exfalso; omega)) | omega | (with_reducible exact Or.inr trivial) | (with_reducible exact Or.inl trivial) | ((exact g)) | fail)
              · have g := ih' v2 0 (Or.inr ⟨rfl, by omega, Or.inr (by rw [← v22, decide_eq_false cc, Bool.and_false])⟩)
                clear ih' ht al
                repeat' (first | (with_reducible assumption) | (with_reducible rfl) | (with_reducible apply And.intro) | (with_reducible apply zIn_mk) | (with_reducible apply zLn_mk) | ((with_reducible intro _); try (exfalso; omega)) | omega | (with_reducible exact Or.inr trivial) | (with_reducible exact Or.inl trivial) | ((exact g)) | fail)
            · have g := ih' v2 0 (Or.inr ⟨rfl, by omega, Or.inl (by omega)⟩)
              clear ih' ht al
              repeat' (first | (with_reducible assumption) | (with_reducible rfl) | (with_reducible apply And.intro) | (with_reducible apply zIn_mk) | (with_reducible apply zLn_mk) | ((with_reducible intro _); try (exfalso; omega)) | omega | (with_reducible exact Or.inr trivial) | (with_reducible exact Or.inl trivial) | ((exact g)) | fail)
          · have al' : e < b + (i + 1) ∨ (gAi t b (gWo k) i && decide (t (b + i) = ch)) = false := by
              rcases al with al | al
              · exact Or.inl (by omega)
              · exact Or.inr (by rw [al]; rfl)
            have g := ih' v2 0 (Or.inr ⟨rfl, by omega, al'⟩)
            have g2 := fun (hh : v2 < e) => ih' (v2 + 1) v3 (Or.inr ⟨v30, by omega, al'⟩)
            clear ih' ht al al'
            repeat' (first | (with_reducible assumption) | (with_reducible rfl) | (with_reducible apply And.intro) | (with_reducible apply zIn_mk) | (with_reducible apply zLn_mk) | ((with_reducible intro _); try (exfalso; omega)) | omega | (with_reducible exact Or.inr trivial) | (with_reducible exact Or.inl trivial) | ((exact g)) | ((exact g2 (by omega))) | fail)
      have i0 := inner 0 (by omega) (by omega) b 1 (Or.inl ⟨rfl, by omega, by omega, rfl⟩)
      rw [Int.add_zero] at i0
      exact i0
  apply r90
  rw [eb]
  exact words 0 (by omega) (by omega) rfl

