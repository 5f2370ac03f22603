/-! A RULE IS READ: the class -/
def jB0 (t : Int → Int) (T : Int) : Int := gSn t T 32 32 0
/-- how reading a rule ends -/
def jO (t : Int → Int) (T : Int) (ok fb key half e : Int) (c : Int → Int) : Prop := (jTk t T (jB0 t T) ≠ 3 ∧ ok = 0 ∧ fb = jB0 t T) ∨ (jTk t T (jB0 t T) = 3 ∧ key = jTv t T (jB0 t T) ∧ ∃ (k1 b2 o2 : Int) (c2 : Int → Int), jR t T 0 0 (jNx t T (jB0 t T)) 0 (fun _ => 0) k1 b2 o2 c2 ∧ ((k1 = 0 ∧ ok = 0 ∧ fb = b2) ∨ (k1 = 1 ∧ half = o2 ∧ ((jTk t T b2 = 5 ∧ ∃ (k3 b3 o3 : Int) (c3 : Int → Int), jR t T 0 0 (jNx t T b2) o2 c2 k3 b3 o3 c3 ∧ ((k3 = 0 ∧ ok = 0 ∧ fb = b3) ∨ (k3 = 1 ∧ jTk t T b3 = 0 ∧ ok = 1 ∧ e = o3 ∧ c = c3) ∨ (k3 = 1 ∧ jTk t T b3 ≠ 0 ∧ ok = 0 ∧ fb = b3))) ∨ (jTk t T b2 = 0 ∧ ok = 1 ∧ e = o2 ∧ c = c2) ∨ (jTk t T b2 ≠ 5 ∧ jTk t T b2 ≠ 0 ∧ ok = 0 ∧ fb = b2)))))
/-- outside the reader all stays, and its tape does -/
def jN (x x' : zM) : Prop := (∀ k, k ≠ 325 → k ≠ 327 → x' k = x k) ∧ x' 325 1 = x 325 1
theorem jN.h {x x' : zM} (h : jH x x') : jN x x' := ⟨h.1, h.2 1 (by omega)⟩
theorem jN.tr {x x' x'' : zM} (h : jN x x') (h' : jN x' x'') : jN x x'' := ⟨fun k a b => by rw [h'.1 k a b, h.1 k a b], by rw [h'.2, h.2]⟩
theorem jN.u {x : zM} {i v : Int} (h : i ≠ 1) : jN x (zupd x 325 i v) := ⟨fun k a _ => zu_ne _ _ _ a, by rw [zu_eq, up_ne (by omega)]⟩
theorem jC_u {t : Int → Int} {T b o i v : Int} {c : Int → Int} {x : zM} (h : i = 8 ∨ i = 9) (hC : jC t T x b o c) : jC t T (zupd x 325 i v) b o c := by
  obtain ⟨hT, hb, ⟨e2, e3, e4⟩, e5, ⟨e7, o0, o1⟩, hc⟩ := hC
  have u6 : ∀ j, j ≠ i → zupd x 325 i v 325 j = x 325 j := fun j hj => by rw [zu_eq, up_ne hj]
  exact ⟨⟨hT.1, by rw [u6 1 (by omega)]; exact hT.2.1, by rw [zu_ne _ _ _ (by decide)]; exact hT.2.2⟩, hb, ⟨by rw [u6 2 (by omega)]; exact e2, by rw [u6 3 (by omega)]; exact e3, by rw [u6 4 (by omega)]; exact e4⟩, fun q q' => by rw [u6 5 (by omega)]; exact e5 q q', ⟨by rw [u6 7 (by omega)]; exact e7, o0, o1⟩, by rw [zu_ne _ _ _ (by decide)]; exact hc⟩
def jE (x : zM) (ok fb key half e : Int) (c : Int → Int) : Prop := (ok = 0 → x 325 10 = fb) ∧ (ok = 1 → x 325 8 = key ∧ x 325 9 = half ∧ x 325 7 = e ∧ (0 ≤ e ∧ e ≤ 120) ∧ ∀ i, 0 ≤ i → i < e → x 327 i = gCc (c i))
theorem c77 {d : Nat} {t : Int → Int} {T : Int} {x m : zM} {Q : Int → zM → zM → Prop} (hd : 62 ≤ d) (hT : jTp x t T) (h : ∀ ok fb key half e c x', jO t T ok fb key half e c → (ok = 0 ∨ ok = 1) → jN x x' → jE x' ok fb key half e c → Q ok x' m) : WPc d 77 [zr 325] 403 [] x m 403 [] Q := by
  obtain ⟨y, hy⟩ : ∃ y, y = zupd (zupd (zupd x 325 2 0) 325 7 0) 325 10 (-1) := ⟨_, rfl⟩
  have N0 : jN x y := by rw [hy]; exact ((jN.u (by decide)).tr (jN.u (by decide))).tr (jN.u (by decide))
  have T0 := hT.1
  have hTy : jTp y t T := ⟨hT.1, by rw [N0.2]; exact hT.2.1, by rw [N0.1 326 (by decide) (by decide)]; exact hT.2.2⟩
  have y2 : y 325 2 = 0 := by rw [hy, zu_eq, up_ne (by omega), zu_eq, up_ne (by omega), zu_eq, up_at rfl]
  have y7 : y 325 7 = 0 := by rw [hy, zu_eq, up_ne (by omega), zu_eq, up_at rfl]
  have bb := gSn_bd (t := t) (lo := 32) (hi := 32) (show 0 ≤ T from T0.1)
  have eb : jB0 t T = gSn t T 32 32 0 := rfl
  apply r77
  refine ⟨by omega, ?_⟩
  rw [← hy]
  refine c87 (t := t) (T := T) (a := 0) (by omega) hTy y2 (by omega) T0.1 rfl ?_
  intro x2 g g2 g4 g3 g5
  rw [← eb] at g2 g3 g4 g5 bb
  obtain ⟨b, hb⟩ : ∃ b, b = jB0 t T := ⟨_, rfl⟩
  rw [← hb] at g2 g3 g4 g5 bb
  have nx := jNx_bd (t := t) bb.2
  have N2 : jN x x2 := N0.tr (jN.h (jH.f g))
  have C2 : jC t T x2 b 0 (fun _ => 0) := ⟨jTp_f g hTy, ⟨bb.1, bb.2⟩, ⟨g2, g3, g4⟩, g5, ⟨by rw [g.2 7 (by decide) (by decide) (by decide) (by decide)]; exact y7, by omega, by omega⟩, fun i i0 i1 => by omega⟩
  rw [g3]
  refine ⟨fun k3 => ⟨by omega, ?_⟩, fun k3 => ⟨by omega, ?_⟩⟩
  · rw [g5 (by omega) (by omega)]
    refine c87s (t := t) (T := T) (by omega) (jC_u (v := jTv t T b) (Or.inl rfl) C2) (fun x3 h3 C3 => ⟨by omega, ?_⟩)
    have N3 : jN x x3 := (N2.tr (jN.u (by decide))).tr (jN.h h3)
    have x38 : x3 325 8 = jTv t T b := by rw [h3.2 8 (by omega), zu_eq, up_at rfl]
    refine jc_all (t := t) (T := T) (m := m) ((T - jNx t T b) * 8 + 8).toNat 0 0 (jNx t T b) 0 (fun _ => 0) x3 _ (d - 1) (by omega) (by omega) (by omega) (by omega) (by omega) C3 (by omega) ?_
    intro k1 b2 o2 c2 x4 r1 h4 q1 q0 hk
    have rb := jR_bd r1 nx.2.1
    have N4 := N3.tr (jN.h h4)
    have mk : ∀ ok fb half e c, ((k1 = 0 ∧ ok = 0 ∧ fb = b2) ∨ (k1 = 1 ∧ half = o2 ∧ ((jTk t T b2 = 5 ∧ ∃ (k3 b3 o3 : Int) (c3 : Int → Int), jR t T 0 0 (jNx t T b2) o2 c2 k3 b3 o3 c3 ∧ ((k3 = 0 ∧ ok = 0 ∧ fb = b3) ∨ (k3 = 1 ∧ jTk t T b3 = 0 ∧ ok = 1 ∧ e = o3 ∧ c = c3) ∨ (k3 = 1 ∧ jTk t T b3 ≠ 0 ∧ ok = 0 ∧ fb = b3))) ∨ (jTk t T b2 = 0 ∧ ok = 1 ∧ e = o2 ∧ c = c2) ∨ (jTk t T b2 ≠ 5 ∧ jTk t T b2 ≠ 0 ∧ ok = 0 ∧ fb = b2)))) → jO t T ok fb (jTv t T b) half e c := fun ok fb half e c hh => Or.inr ⟨by rw [← hb]; exact k3, by rw [← hb], k1, b2, o2, c2, by rw [← hb]; exact r1, hh⟩
    refine ⟨fun hn => ?_, fun hz => ⟨Or.inl rfl, ?_⟩⟩
    · have e1 : k1 = 1 := by omega
      subst e1
      have C4 := q1 rfl
      obtain ⟨_, ⟨d0, d1⟩, ⟨_, f3, f4⟩, _, ⟨f7, o20, o21⟩, fc⟩ := id C4
      have x48 : x4 325 8 = jTv t T b := by rw [h4.2 8 (by omega)]; exact x38
      have nx2 := jNx_bd (t := t) d1
      rw [f3, f7]
      have C5 := jC_u (v := o2) (Or.inr rfl) C4
      have N5 : jN x (zupd x4 325 9 o2) := N4.tr (jN.u (by decide))
      have x58 : zupd x4 325 9 o2 325 8 = jTv t T b := by rw [zu_eq, up_ne (by omega)]; exact x48
      have x59 : zupd x4 325 9 o2 325 9 = o2 := by rw [zu_eq, up_at rfl]
      refine ⟨fun n5 => ⟨fun k0 => ⟨Or.inr rfl, ?_⟩, fun k0 => ⟨by omega, ?_⟩⟩, fun y5 => ⟨by omega, ?_⟩⟩
      · exact h 1 0 _ o2 o2 c2 _ (mk 1 0 o2 o2 c2 (Or.inr ⟨rfl, rfl, Or.inr (Or.inl ⟨k0, rfl, rfl, rfl⟩)⟩)) (Or.inr rfl) N5 ⟨fun e => absurd e (by decide), fun _ => ⟨x58, x59, C5.2.2.2.2.1.1, ⟨o20, o21⟩, C5.2.2.2.2.2⟩⟩
      · refine c86s (b := b2) C5.2.2.1.2.2 (fun x6 h6 e6 => ?_)
        intro _
        exact ⟨fun _ => ⟨Or.inl rfl, h 0 b2 _ o2 0 c2 x6 (mk 0 b2 o2 0 c2 (Or.inr ⟨rfl, rfl, Or.inr (Or.inr ⟨n5, k0, rfl, rfl⟩)⟩)) (Or.inl rfl) (N5.tr (jN.h h6)) ⟨fun _ => e6, fun e => absurd e (by decide)⟩⟩, fun hh => absurd rfl hh⟩
      · have bT2 := jTk_e (t := t) (T := T) (b := b2) (by omega)
        refine c87s (t := t) (T := T) (by omega) C5 (fun x6 h6 C6 => ⟨by omega, ?_⟩)
        refine jc_all (t := t) (T := T) (m := m) ((T - jNx t T b2) * 8 + 8).toNat 0 0 (jNx t T b2) o2 c2 x6 _ (d - 1) (by omega) (by omega) (by omega) (by omega) (by omega) C6 (by omega) ?_
        intro k3' b3 o3 c3 x7 r2 h7 p1 p0 hk3
        have N7 := (N5.tr (jN.h h6)).tr (jN.h h7)
        refine ⟨fun hn3 => ?_, fun hz3 => ⟨Or.inl rfl, ?_⟩⟩
        · have e1 : k3' = 1 := by omega
          subst e1
          have C7 := p1 rfl
          obtain ⟨_, _, ⟨_, z3, z4⟩, _, ⟨z7, o30, o31⟩, zc⟩ := id C7
          have x78 : x7 325 8 = jTv t T b := by rw [h7.2 8 (by omega), h6.2 8 (by omega)]; exact x58
          have x79 : x7 325 9 = o2 := by rw [h7.2 9 (by omega), h6.2 9 (by omega)]; exact x59
          rw [z3]
          refine ⟨fun k0 => ⟨Or.inr rfl, ?_⟩, fun k0 => ⟨by omega, ?_⟩⟩
          · exact h 1 0 _ o2 o3 c3 x7 (mk 1 0 o2 o3 c3 (Or.inr ⟨rfl, rfl, Or.inl ⟨y5, 1, b3, o3, c3, r2, Or.inr (Or.inl ⟨rfl, k0, rfl, rfl, rfl⟩)⟩⟩)) (Or.inr rfl) N7 ⟨fun e => absurd e (by decide), fun _ => ⟨x78, x79, z7, ⟨o30, o31⟩, zc⟩⟩
          · refine c86s (b := b3) z4 (fun x8 h8 e8 => ?_)
            intro _
            exact ⟨fun _ => ⟨Or.inl rfl, h 0 b3 _ o2 0 c3 x8 (mk 0 b3 o2 0 c3 (Or.inr ⟨rfl, rfl, Or.inl ⟨y5, 1, b3, o3, c3, r2, Or.inr (Or.inr ⟨rfl, k0, rfl, rfl⟩)⟩⟩)) (Or.inl rfl) (N7.tr (jN.h h8)) ⟨fun _ => e8, fun e => absurd e (by decide)⟩⟩, fun hh => absurd rfl hh⟩
        · subst hz3
          exact h 0 b3 _ o2 0 c3 x7 (mk 0 b3 o2 0 c3 (Or.inr ⟨rfl, rfl, Or.inl ⟨y5, 0, b3, o3, c3, r2, Or.inl ⟨rfl, rfl, rfl⟩⟩⟩)) (Or.inl rfl) N7 ⟨fun _ => p0 rfl, fun e => absurd e (by decide)⟩
    · subst hz
      exact h 0 b2 _ 0 0 c2 x4 (mk 0 b2 0 0 c2 (Or.inl ⟨rfl, rfl, rfl⟩)) (Or.inl rfl) N4 ⟨fun _ => q0 rfl, fun e => absurd e (by decide)⟩
  · refine c86s g4 (fun x3 h3 e3 => ?_)
    intro _
    exact ⟨Or.inl rfl, h 0 b 0 0 0 (fun _ => 0) x3 (Or.inl ⟨by rw [← hb]; exact k3, rfl, hb⟩) (Or.inl rfl) (N2.tr (jN.h h3)) ⟨fun _ => e3, fun e => absurd e (by decide)⟩⟩

