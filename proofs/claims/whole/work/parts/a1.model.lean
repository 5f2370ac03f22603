/-! THE CONSTRUCTOR OF THE MODEL (wip/whole/gena1.py) -/
set_option maxRecDepth 100000 in
theorem kr170_281 {d : Nat} {i : Int} {x m : zM} {Q : Int → zM → zM → Prop} (h : (16 ≤ i → WP d 170 305 [(0, zr 386), (1, zi (0 : Int))] [] 403 [] x m 403 [] Q) ∧ (i < 16 → (zIn ((58 : Int) + i) ∧ ((0 ≤ (58 : Int) + i ∧ (58 : Int) + i < ((6163 : Nat) : Int)) ∧ (zIn (i + (1 : Int)) ∧ WP d 170 281 [(0, zr 386), (1, zi (i + (1 : Int)))] [] 403 [] x (zupd m 387 ((58 : Int) + i) (-1 : Int)) 403 [] Q))))) : WP d 170 281 [(0, zr 386), (1, zi i)] [] 403 [] x m 403 [] Q := zr0 (md := fun _ => 0) (cu := [(281, [0, 1]), (305, [0, 1])]) rfl h
set_option maxRecDepth 100000 in
theorem kr170_305 {d : Nat} {i : Int} {x m : zM} {Q : Int → zM → zM → Prop} (h : (400 < i → Q 0 x m) ∧ (i ≤ 400 → (zIn ((5146 : Int) + i) ∧ ((0 ≤ (5146 : Int) + i ∧ (5146 : Int) + i < ((6163 : Nat) : Int)) ∧ (zIn (i + (1 : Int)) ∧ WP d 170 305 [(0, zr 386), (1, zi (i + (1 : Int)))] [] 403 [] x (zupd m 387 ((5146 : Int) + i) (-1 : Int)) 403 [] Q))))) : WP d 170 305 [(0, zr 386), (1, zi i)] [] 403 [] x m 403 [] Q := zr0 (md := fun _ => 0) (cu := [(281, [0, 1]), (305, [0, 1])]) rfl h
theorem kl170_305 {d : Nat} {x m : zM} {Q : Int → zM → zM → Prop} (h : Q 0 x (zfil m 387 5146 401 (-1))) : ∀ (n : Nat) (i : Int), 0 ≤ i → i ≤ 401 → 401 - i ≤ n → WP d 170 305 [(0, zr 386), (1, zi i)] [] 403 [] x (zfil m 387 5146 i (-1)) 403 [] Q := by
  intro n
  induction n with
  | zero =>
    intro i h0 h1 h2
    have e : i = 401 := by omega
    subst e
    exact kr170_305 ⟨fun _ => h, fun q => absurd q (by omega)⟩
  | succ n ih =>
    intro i h0 h1 h2
    refine kr170_305 ⟨fun q => ?_, fun q => ⟨by unfold zIn; omega, ⟨by omega, by omega⟩, by unfold zIn; omega, ?_⟩⟩
    · have e : i = 401 := by omega
      subst e
      exact h
    · rw [zfil_s m 387 5146 i (-1) h0]
      exact ih (i + 1) (by omega) (by omega) (by omega)
theorem kl170_281 {d : Nat} {x m : zM} {Q : Int → zM → zM → Prop} (h : Q 0 x (zfil (zfil m 387 58 16 (-1)) 387 5146 401 (-1))) : ∀ (n : Nat) (i : Int), 0 ≤ i → i ≤ 16 → 16 - i ≤ n → WP d 170 281 [(0, zr 386), (1, zi i)] [] 403 [] x (zfil m 387 58 i (-1)) 403 [] Q := by
  have nx : WP d 170 305 [(0, zr 386), (1, zi 0)] [] 403 [] x (zfil m 387 58 16 (-1)) 403 [] Q := by
    have := kl170_305 (d := d) h 401 0 (by omega) (by omega) (by omega)
    rw [zfil_0] at this
    exact this
  intro n
  induction n with
  | zero =>
    intro i h0 h1 h2
    have e : i = 16 := by omega
    subst e
    exact kr170_281 ⟨fun _ => nx, fun q => absurd q (by omega)⟩
  | succ n ih =>
    intro i h0 h1 h2
    refine kr170_281 ⟨fun q => ?_, fun q => ⟨by unfold zIn; omega, ⟨by omega, by omega⟩, by unfold zIn; omega, ?_⟩⟩
    · have e : i = 16 := by omega
      subst e
      exact nx
    · rw [zfil_s m 387 58 i (-1) h0]
      exact ih (i + 1) (by omega) (by omega) (by omega)
def J9 : zM := (zupd (zupd (zupd (zupd (zupd (zupd (zupd (zupd (zupd (zupd (zupd (zupd (zupd (zupd (zupd (zupd (zupd (zupd (zupd (zupd (zupd (fun _ _ => (0 : Int)) 386 10 (-1 : Int)) 396 (0 : Int) (1651469924 : Int)) 396 (1 : Int) (465625246068 : Int)) 396 (2 : Int) (1918989413 : Int)) 396 (3 : Int) (32199693642659429 : Int)) 396 (4 : Int) (6580598 : Int)) 396 (5 : Int) (28270034923122292 : Int)) 396 (6 : Int) (2003792491 : Int)) 396 (7 : Int) (126943972648308 : Int)) 396 (8 : Int) (495556388196 : Int)) 396 (9 : Int) (1870095716 : Int)) 396 (10 : Int) (117026742756708 : Int)) 396 (11 : Int) (1818326117 : Int)) 396 (12 : Int) (1802071652 : Int)) 396 (13 : Int) (7566701 : Int)) 396 (14 : Int) (2003133803 : Int)) 396 (15 : Int) (1667330920 : Int)) 396 (16 : Int) (26982 : Int)) 396 (17 : Int) (28530 : Int)) 396 (18 : Int) (6385252 : Int)) 396 (19 : Int) (7237492 : Int))
theorem J9_z {k : Nat} (h : k ≠ 386 ∧ k ≠ 396) : J9 k = fun _ => 0 := by
  unfold J9
  (repeat rw [zu_ne _ _ _ (by omega)])
theorem J9_386 : J9 386 = zIni 386 := by
  have e : J9 386 = up (fun _ => 0) 10 (-1) := by
    unfold J9
    (repeat rw [zu_ne _ _ _ (by decide)])
    rw [zu_eq]
  rw [e]
  funext i
  unfold zIni
  rw [if_neg (fun q => by omega), if_neg (fun q => by omega), if_neg (fun q => by omega)]
  by_cases c : i = 10
  · rw [if_pos ⟨rfl, c⟩, up_at c]
  · rw [if_neg (fun q => c q.2), if_neg (fun q => by omega), if_neg (fun q => by omega), up_ne c]
theorem J9_396 : J9 396 = zIni 396 := by
  funext i
  by_cases c : 0 ≤ i ∧ i < 20
  · have h : i = 0 ∨ i = 1 ∨ i = 2 ∨ i = 3 ∨ i = 4 ∨ i = 5 ∨ i = 6 ∨ i = 7 ∨ i = 8 ∨ i = 9 ∨ i = 10 ∨ i = 11 ∨ i = 12 ∨ i = 13 ∨ i = 14 ∨ i = 15 ∨ i = 16 ∨ i = 17 ∨ i = 18 ∨ i = 19 := by omega
    rcases h with rfl | rfl | rfl | rfl | rfl | rfl | rfl | rfl | rfl | rfl | rfl | rfl | rfl | rfl | rfl | rfl | rfl | rfl | rfl | rfl <;> decide +kernel
  · have e : J9 396 i = 0 := by
      unfold J9
      simp (disch := omega) only [zu_eq, up_ne]
      rw [zu_ne _ _ _ (by decide)]
    rw [e]
    unfold zIni
    rw [if_neg (fun q => by omega), if_neg (fun q => by omega), if_neg (fun q => by omega), if_neg (fun q => by omega), if_neg (fun q => by omega), if_neg (fun q => c q.2)]
theorem zY_mod {m M : zM} (h : zY J9 386 403 m M) : zY zIni 386 403 m (zfil (zfil M 387 58 16 (-1)) 387 5146 401 (-1)) := by
  have e0 : ∀ k, k ≠ 387 → zfil (zfil M 387 58 16 (-1)) 387 5146 401 (-1) k = M k := fun k hk => by
    funext i
    unfold zfil
    rw [if_neg (fun z => hk z.1), if_neg (fun z => hk z.1)]
  refine ⟨fun k a b => ?_, fun k a => by rw [e0 k (by omega)]; exact h.2 k a⟩
  by_cases c : k = 387
  · subst c
    funext i
    have z : M 387 i = 0 := by rw [h.1 387 (by decide) (by decide), J9_z (by decide)]
    unfold zfil zIni
    rw [z]
    rw [if_neg (show ¬((387 = 151 ∨ 387 = 313) ∧ 0 ≤ i ∧ i < 401) from fun q => by omega), if_neg (show ¬(387 = 325 ∧ i = 10) from fun q => by omega), if_neg (show ¬(387 = 0 ∧ i = 8) from fun q => by omega), if_neg (show ¬(387 = 386 ∧ i = 10) from fun q => by omega)]
    by_cases c1 : 5146 ≤ i ∧ i < 5547
    · rw [if_pos ⟨rfl, by omega, by omega⟩, if_pos ⟨rfl, Or.inr c1⟩]
    · rw [if_neg (fun q => c1 (by omega))]
      by_cases c2 : 58 ≤ i ∧ i < 74
      · rw [if_pos ⟨rfl, by omega, by omega⟩, if_pos ⟨rfl, Or.inl c2⟩]
      · rw [if_neg (fun q => c2 (by omega)), if_neg (fun q => by omega), if_neg (fun q => by omega)]
  · rw [e0 k c, h.1 k a b]
    by_cases c1 : k = 386
    · rw [c1]; exact J9_386
    · by_cases c2 : k = 396
      · rw [c2]; exact J9_396
      · rw [J9_z ⟨c1, c2⟩, zIni_z (by omega)]
set_option maxRecDepth 100000 in
theorem kc170_386 {d : Nat} {x m : zM} {Q : Int → zM → zM → Prop} (hd : 1 ≤ d) (h0 : m 386 = fun _ => 0) (h : ∀ M, zY zIni 386 403 m M → Q 0 x M) : WPc d 170 [zr 386] 387 [(386, 0), (386, 1), (386, 2), (386, 3), (386, 4), (386, 5), (386, 7), (386, 8), (386, 11), (386, 20), (386, 21), (386, 22), (386, 24), (386, 25), (386, 26), (386, 27)] x m 403 [] Q := by
  have hz : zY (fun _ _ => (0 : Int)) 386 387 m m := zY_start h0 rfl
  have hh : ∀ M, zY J9 386 403 m M → WP d 170 281 [(0, zr 386), (1, zi (0 : Int))] [] 403 [] x M 403 [] Q := fun M hM => by
    have := kl170_281 (d := d) (x := x) (m := M) (Q := Q) (h _ (zY_mod hM)) 16 0 (by omega) (by omega) (by omega)
    rw [zfil_0] at this
    exact this
  have t : (1 ≤ d ∧ ((6163 : Int) = ((6163 : Nat) : Int) ∧ ((6163 : Int) = ((6163 : Nat) : Int) ∧ ((6163 : Int) = ((6163 : Nat) : Int) ∧ ((128 : Int) = ((128 : Nat) : Int) ∧ ((128 : Int) = ((128 : Nat) : Int) ∧ ((128 : Int) = ((128 : Nat) : Int) ∧ ((9 : Int) = ((9 : Nat) : Int) ∧ ((120 : Int) = ((120 : Nat) : Int) ∧ ((12 : Int) = ((12 : Nat) : Int) ∧ ((20 : Int) = ((20 : Nat) : Int) ∧ ((0 ≤ (0 : Int) ∧ (0 : Int) < ((20 : Nat) : Int)) ∧ ((0 ≤ (1 : Int) ∧ (1 : Int) < ((20 : Nat) : Int)) ∧ ((0 ≤ (2 : Int) ∧ (2 : Int) < ((20 : Nat) : Int)) ∧ ((0 ≤ (3 : Int) ∧ (3 : Int) < ((20 : Nat) : Int)) ∧ ((0 ≤ (4 : Int) ∧ (4 : Int) < ((20 : Nat) : Int)) ∧ ((0 ≤ (5 : Int) ∧ (5 : Int) < ((20 : Nat) : Int)) ∧ ((0 ≤ (6 : Int) ∧ (6 : Int) < ((20 : Nat) : Int)) ∧ ((0 ≤ (7 : Int) ∧ (7 : Int) < ((20 : Nat) : Int)) ∧ ((0 ≤ (8 : Int) ∧ (8 : Int) < ((20 : Nat) : Int)) ∧ ((0 ≤ (9 : Int) ∧ (9 : Int) < ((20 : Nat) : Int)) ∧ ((0 ≤ (10 : Int) ∧ (10 : Int) < ((20 : Nat) : Int)) ∧ ((0 ≤ (11 : Int) ∧ (11 : Int) < ((20 : Nat) : Int)) ∧ ((0 ≤ (12 : Int) ∧ (12 : Int) < ((20 : Nat) : Int)) ∧ ((0 ≤ (13 : Int) ∧ (13 : Int) < ((20 : Nat) : Int)) ∧ ((0 ≤ (14 : Int) ∧ (14 : Int) < ((20 : Nat) : Int)) ∧ ((0 ≤ (15 : Int) ∧ (15 : Int) < ((20 : Nat) : Int)) ∧ ((0 ≤ (16 : Int) ∧ (16 : Int) < ((20 : Nat) : Int)) ∧ ((0 ≤ (17 : Int) ∧ (17 : Int) < ((20 : Nat) : Int)) ∧ ((0 ≤ (18 : Int) ∧ (18 : Int) < ((20 : Nat) : Int)) ∧ ((0 ≤ (19 : Int) ∧ (19 : Int) < ((20 : Nat) : Int)) ∧ ((10 : Int) = ((10 : Nat) : Int) ∧ ((130 : Int) = ((130 : Nat) : Int) ∧ ((16 : Int) = ((16 : Nat) : Int) ∧ ((16 : Int) = ((16 : Nat) : Int) ∧ ((8 : Int) = ((8 : Nat) : Int) ∧ ((192 : Int) = ((192 : Nat) : Int) ∧ WP d 170 281 [(0, zr 386), (1, zi (0 : Int))] [] 403 [] x (zzr (zzr (zzr (zzr (zzr (zzr (zupd (zupd (zupd (zupd (zupd (zupd (zupd (zupd (zupd (zupd (zupd (zupd (zupd (zupd (zupd (zupd (zupd (zupd (zupd (zupd (zzr (zzr (zupd (zzr (zzr (zzr (zzr (zzr (zzr (zzr (zzr m 387 1) 388 1) 389 1) 390 1) 391 1) 392 1) 393 1) 394 1) 386 10 (-1 : Int)) 395 1) 396 1) 396 (0 : Int) (1651469924 : Int)) 396 (1 : Int) (465625246068 : Int)) 396 (2 : Int) (1918989413 : Int)) 396 (3 : Int) (32199693642659429 : Int)) 396 (4 : Int) (6580598 : Int)) 396 (5 : Int) (28270034923122292 : Int)) 396 (6 : Int) (2003792491 : Int)) 396 (7 : Int) (126943972648308 : Int)) 396 (8 : Int) (495556388196 : Int)) 396 (9 : Int) (1870095716 : Int)) 396 (10 : Int) (117026742756708 : Int)) 396 (11 : Int) (1818326117 : Int)) 396 (12 : Int) (1802071652 : Int)) 396 (13 : Int) (7566701 : Int)) 396 (14 : Int) (2003133803 : Int)) 396 (15 : Int) (1667330920 : Int)) 396 (16 : Int) (26982 : Int)) 396 (17 : Int) (28530 : Int)) 396 (18 : Int) (6385252 : Int)) 396 (19 : Int) (7237492 : Int)) 397 1) 398 1) 399 1) 400 1) 401 1) 402 1) 403 [] Q))))))))))))))))))))))))))))))))))))) := ⟨(by omega), ⟨rfl, ⟨rfl, ⟨rfl, ⟨rfl, ⟨rfl, ⟨rfl, ⟨rfl, ⟨rfl, ⟨rfl, ⟨rfl, ⟨⟨by decide, by decide⟩, ⟨⟨by decide, by decide⟩, ⟨⟨by decide, by decide⟩, ⟨⟨by decide, by decide⟩, ⟨⟨by decide, by decide⟩, ⟨⟨by decide, by decide⟩, ⟨⟨by decide, by decide⟩, ⟨⟨by decide, by decide⟩, ⟨⟨by decide, by decide⟩, ⟨⟨by decide, by decide⟩, ⟨⟨by decide, by decide⟩, ⟨⟨by decide, by decide⟩, ⟨⟨by decide, by decide⟩, ⟨⟨by decide, by decide⟩, ⟨⟨by decide, by decide⟩, ⟨⟨by decide, by decide⟩, ⟨⟨by decide, by decide⟩, ⟨⟨by decide, by decide⟩, ⟨⟨by decide, by decide⟩, ⟨⟨by decide, by decide⟩, ⟨rfl, ⟨rfl, ⟨rfl, ⟨rfl, ⟨rfl, ⟨rfl, hh _ (show zY J9 386 403 m (zzr (zzr (zzr (zzr (zzr (zzr (zupd (zupd (zupd (zupd (zupd (zupd (zupd (zupd (zupd (zupd (zupd (zupd (zupd (zupd (zupd (zupd (zupd (zupd (zupd (zupd (zzr (zzr (zupd (zzr (zzr (zzr (zzr (zzr (zzr (zzr (zzr m 387 1) 388 1) 389 1) 390 1) 391 1) 392 1) 393 1) 394 1) 386 10 (-1 : Int)) 395 1) 396 1) 396 (0 : Int) (1651469924 : Int)) 396 (1 : Int) (465625246068 : Int)) 396 (2 : Int) (1918989413 : Int)) 396 (3 : Int) (32199693642659429 : Int)) 396 (4 : Int) (6580598 : Int)) 396 (5 : Int) (28270034923122292 : Int)) 396 (6 : Int) (2003792491 : Int)) 396 (7 : Int) (126943972648308 : Int)) 396 (8 : Int) (495556388196 : Int)) 396 (9 : Int) (1870095716 : Int)) 396 (10 : Int) (117026742756708 : Int)) 396 (11 : Int) (1818326117 : Int)) 396 (12 : Int) (1802071652 : Int)) 396 (13 : Int) (7566701 : Int)) 396 (14 : Int) (2003133803 : Int)) 396 (15 : Int) (1667330920 : Int)) 396 (16 : Int) (26982 : Int)) 396 (17 : Int) (28530 : Int)) 396 (18 : Int) (6385252 : Int)) 396 (19 : Int) (7237492 : Int)) 397 1) 398 1) 399 1) 400 1) 401 1) 402 1) from (zY_new (t := 1) (zY_new (t := 1) (zY_new (t := 1) (zY_new (t := 1) (zY_new (t := 1) (zY_new (t := 1) (zY_put (zY_put (zY_put (zY_put (zY_put (zY_put (zY_put (zY_put (zY_put (zY_put (zY_put (zY_put (zY_put (zY_put (zY_put (zY_put (zY_put (zY_put (zY_put (zY_put (zY_new (t := 1) (zY_new (t := 1) (zY_put (zY_new (t := 1) (zY_new (t := 1) (zY_new (t := 1) (zY_new (t := 1) (zY_new (t := 1) (zY_new (t := 1) (zY_new (t := 1) (zY_new (t := 1) hz (fun k a b => by ((repeat rw [zu_ne _ _ _ (by omega)]); all_goals first | rfl | exact J9_z (by omega)))) (fun k a b => by ((repeat rw [zu_ne _ _ _ (by omega)]); all_goals first | rfl | exact J9_z (by omega)))) (fun k a b => by ((repeat rw [zu_ne _ _ _ (by omega)]); all_goals first | rfl | exact J9_z (by omega)))) (fun k a b => by ((repeat rw [zu_ne _ _ _ (by omega)]); all_goals first | rfl | exact J9_z (by omega)))) (fun k a b => by ((repeat rw [zu_ne _ _ _ (by omega)]); all_goals first | rfl | exact J9_z (by omega)))) (fun k a b => by ((repeat rw [zu_ne _ _ _ (by omega)]); all_goals first | rfl | exact J9_z (by omega)))) (fun k a b => by ((repeat rw [zu_ne _ _ _ (by omega)]); all_goals first | rfl | exact J9_z (by omega)))) (fun k a b => by ((repeat rw [zu_ne _ _ _ (by omega)]); all_goals first | rfl | exact J9_z (by omega)))) (by decide) (by decide)) (fun k a b => by ((repeat rw [zu_ne _ _ _ (by omega)]); all_goals first | rfl | exact J9_z (by omega)))) (fun k a b => by ((repeat rw [zu_ne _ _ _ (by omega)]); all_goals first | rfl | exact J9_z (by omega)))) (by decide) (by decide)) (by decide) (by decide)) (by decide) (by decide)) (by decide) (by decide)) (by decide) (by decide)) (by decide) (by decide)) (by decide) (by decide)) (by decide) (by decide)) (by decide) (by decide)) (by decide) (by decide)) (by decide) (by decide)) (by decide) (by decide)) (by decide) (by decide)) (by decide) (by decide)) (by decide) (by decide)) (by decide) (by decide)) (by decide) (by decide)) (by decide) (by decide)) (by decide) (by decide)) (by decide) (by decide)) (fun k a b => by ((repeat rw [zu_ne _ _ _ (by omega)]); all_goals first | rfl | exact J9_z (by omega)))) (fun k a b => by ((repeat rw [zu_ne _ _ _ (by omega)]); all_goals first | rfl | exact J9_z (by omega)))) (fun k a b => by ((repeat rw [zu_ne _ _ _ (by omega)]); all_goals first | rfl | exact J9_z (by omega)))) (fun k a b => by ((repeat rw [zu_ne _ _ _ (by omega)]); all_goals first | rfl | exact J9_z (by omega)))) (fun k a b => by ((repeat rw [zu_ne _ _ _ (by omega)]); all_goals first | rfl | exact J9_z (by omega)))) (fun k a b => by ((repeat rw [zu_ne _ _ _ (by omega)]); all_goals first | rfl | exact J9_z (by omega)))))⟩⟩⟩⟩⟩⟩⟩⟩⟩⟩⟩⟩⟩⟩⟩⟩⟩⟩⟩⟩⟩⟩⟩⟩⟩⟩⟩⟩⟩⟩⟩⟩⟩⟩⟩⟩⟩
  exact ze0 rfl rfl (fun ok => zr0 (md := fun _ => 0) (cu := [(281, [0, 1]), (305, [0, 1])]) rfl t)
