/-! A RULE IS READ: the model -/
def jFin (m1 : zM) (r key v1 v2 half e : Int) : zM := zupd (zupd (zupd (zupd (zupd (zupd (zupd m1 386 9 0) 387 (3490 + r) key) 387 (3502 + r) v1) 387 (3514 + r) v2) 387 (3526 + r) half) 387 (3538 + r) e) 387 5 (r + 1)
theorem s231 {d : Nat} {t : Int → Int} {T v1 v2 r ok fb key half e : Int} {c : Int → Int} {x m : zM} {Q : Int → zM → zM → Prop} (hd : 62 ≤ d) (hT : jTm m t T) (hr : m 387 5 = r) (r0 : 0 ≤ r) (r1 : r < 12) (a0 : 0 ≤ v1) (a1 : v1 < v2) (a2 : v2 ≤ 1000) (hO : jO t T ok fb key half e c) (h0 : ok = 0 → ∀ m', jL (3550 + 130 * r) m m' → Q (-10 - fb) x m') (h1 : ok = 1 → ∀ m1, jL (3550 + 130 * r) m m1 → (∀ i, 0 ≤ i → i < e → m1 387 (3550 + 130 * r + i) = c i) → Q r x (jFin m1 r key v1 v2 half e)) : WPc d 231 [zr 386, zi v1, zi v2] 403 [] x m 403 [] Q := by
  have T0 := hT.1
  obtain ⟨A, hA⟩ : ∃ A, A = 3550 + 130 * r := ⟨_, rfl⟩
  rw [← hA] at h0 h1
  have fin : ok = 1 → ∀ m1, m1 387 5 = r → jL A m m1 → (∀ i, 0 ≤ i → i < e → m1 387 (A + i) = c i) → Q r x (jFin m1 r key v1 v2 half e) := fun a m1 _ b c => h1 a m1 b c
  apply r231
  intro hz1 hz2
  refine ⟨by omega, s171 (fun _ _ => ?_) (fun hh => absurd hh (by omega))⟩
  intro _
  refine ⟨fun hh => absurd hh (by decide), fun _ => ⟨by unfold zIn; omega, by omega, s171 (fun _ _ => ?_) (fun hh => absurd hh (by omega))⟩⟩
  intro _
  refine ⟨fun _ => ⟨by omega, fun _ => ⟨by omega, Or.inl rfl, by rw [hr]; unfold zIn; omega, by rw [hr]; unfold zIn; omega, by omega, ?_⟩, fun hh => absurd hh (by omega)⟩, fun hh => absurd hh (by decide)⟩
  rw [hr, ← hA]
  obtain ⟨y, hy⟩ : ∃ y, y = zupd (zupd (zupd (zupd (zupd m 386 12 0) 386 17 0) 386 16 0) 386 19 0) 386 18 A := ⟨_, rfl⟩
  rw [← hy]
  have Ly : jL A m y := by rw [hy]; exact (((((jL.rf A m).u (by omega)).u (by omega)).u (by omega)).u (by omega)).u (by omega)
  have y12 : y 386 12 = 0 := by rw [hy]; simp (disch := omega) only [zu_eq, up_ne, up_at]
  have y17 : y 386 17 = 0 := by rw [hy]; simp (disch := omega) only [zu_eq, up_ne, up_at]
  have y16 : y 386 16 = 0 := by rw [hy]; simp (disch := omega) only [zu_eq, up_ne, up_at]
  have y19 : y 386 19 = 0 := by rw [hy]; simp (disch := omega) only [zu_eq, up_ne, up_at]
  have y18 : y 386 18 = A := by rw [hy]; simp (disch := omega) only [zu_eq, up_ne, up_at]
  have hTy : jTm y t T := ⟨hT.1, by rw [Ly.2.1 9 (by omega)]; exact hT.2.1, by rw [Ly.1 394 (by decide) (by decide)]; exact hT.2.2.1, by rw [Ly.1 396 (by decide) (by decide)]; exact hT.2.2.2⟩
  have bb := gSn_bd (t := t) (lo := 32) (hi := 32) (show 0 ≤ T from T0.1)
  have eb : jB0 t T = gSn t T 32 32 0 := rfl
  refine s221 (t := t) (T := T) (a := 0) (by omega) hTy y12 (by omega) T0.1 rfl ?_
  intro m12 g g2 g3 g4 g5
  rw [← eb] at g2 g3 g4 g5 bb
  unfold jO at hO
  obtain ⟨b, hb⟩ : ∃ b, b = jB0 t T := ⟨_, rfl⟩
  rw [← hb] at g2 g3 g4 g5 bb hO
  have nx := jNx_bd (t := t) bb.2
  have mi := jMk_i (jTk_v t T b)
  have tv := jTk_v t T b
  have u := fun i (h1 : i ≠ 12) (h2 : i ≠ 13) (h3 : i ≠ 14) (h4 : i ≠ 15) => g.2 i h1 h2 h3 h4
  have L12 : jL A m m12 := Ly.tr (jL.g g)
  have p12 : m12 387 5 = r := by rw [L12.2.2 5 (by omega)]; exact hr
  obtain ⟨z, hz⟩ : ∃ z, z = zupd m12 386 19 0 := ⟨_, rfl⟩
  have Lz : jL A m z := by rw [hz]; exact L12.u (by omega)
  have zz : ∀ i, i ≠ 19 → z 386 i = m12 386 i := fun i hi => by rw [hz, zu_eq, up_ne hi]
  have zk : ∀ k, k ≠ 386 → z k = m12 k := fun k hk => by rw [hz, zu_ne _ _ _ hk]
  have Cz : jM t T A z 0 b 0 (fun _ => 0) := ⟨⟨hT.1, by rw [Lz.2.1 9 (by omega)]; exact hT.2.1, by rw [Lz.1 394 (by decide) (by decide)]; exact hT.2.2.1, by rw [Lz.1 396 (by decide) (by decide)]; exact hT.2.2.2⟩, bb, ⟨by rw [zz 12 (by decide)]; exact g2, by rw [zz 13 (by decide)]; exact g3, by rw [zz 14 (by decide)]; exact g4⟩, fun q q' => by rw [zz 15 (by decide)]; exact g5 q q', ⟨by rw [zz 17 (by decide), u 17 (by decide) (by decide) (by decide) (by decide)]; exact y17, by omega, by omega⟩, fun i i0 i1 => by omega, ⟨by rw [zz 16 (by decide), u 16 (by decide) (by decide) (by decide) (by decide)]; exact y16, by omega, by omega⟩, ⟨by rw [zz 18 (by decide), u 18 (by decide) (by decide) (by decide) (by decide)]; exact y18, by omega, by omega⟩, by rw [hz, zu_eq, up_at rfl]⟩
  rw [g4]
  rcases hO with ⟨k3, okz, fbz⟩ | ⟨k3, kv, k1, b2, o2, c2, d1, rest⟩
  · have q := h0 okz (zupd m12 386 19 1) (L12.u (by omega))
    have n3 : jMk (jTk t T b) ≠ 3 := fun hh => k3 (mi.2.2.2.2.2.2.2.2.1.mp hh)
    have zf : zIn (-10 - m12 386 13) := by rw [g3]; unfold zIn; omega
    rw [fbz, ← g3] at q
    clear h1 h0 fin hy hz zz zk Cz Lz Ly hTy g g2 g5 u hT L12
    repeat' (first | (with_reducible assumption) | (with_reducible rfl) | (with_reducible apply And.intro) | (with_reducible apply zIn_mk) | (with_reducible apply zLn_mk) | ((with_reducible intro _); try (exfalso; omega)) | omega | (with_reducible exact Or.inr trivial) | (with_reducible exact Or.inl trivial) | ((exact q)) | ((exact zf)) | ((exact absurd rfl (by assumption))) | ((exfalso; exact n3 (by assumption))) | ((exact absurd (by assumption) (by decide))) | fail)
  · have m3 : jMk (jTk t T b) = 3 := mi.2.2.2.2.2.2.2.2.1.mpr k3
    have k15 : m12 386 15 = key := by rw [g5 (by omega) (by omega)]; exact kv.symm
    refine ⟨fun _ => ⟨Or.inl rfl, fun hh => absurd rfl hh, fun _ => ⟨by omega, ?_⟩⟩, fun hh => absurd m3 hh⟩
    rw [← hz]
    refine s221s (by omega) Cz (fun m21 l21 C21 => ⟨by omega, ?_⟩)
    refine jm_all d1 m21 x _ (d - 1) (by omega) C21 (by omega) (by omega) ?_
    intro m24 l24 q1 q0
    have rb := jR_bd d1 nx.2.1
    have L24 : jL A m m24 := Lz.tr (l21.tr l24)
    have p24 : m24 387 5 = r := by rw [L24.2.2 5 (by omega)]; exact hr
    rcases rest with ⟨k1z, okz, fbz⟩ | ⟨k1o, hh2, rest⟩
    · have F := q0 k1z
      have f13 := F.1
      have f19 := F.2.1
      have q := h0 okz m24 L24
      rw [fbz, ← f13] at q
      have zf : zIn (-10 - m24 386 13) := by rw [f13]; unfold zIn; omega
      rw [f19]
      exact ⟨fun _ => ⟨fun _ => ⟨zf, q⟩, fun hh => absurd hh (by decide)⟩, fun hh => absurd hh (by decide)⟩
    · have C24 := q1 k1o
      obtain ⟨_, ⟨d0, d1'⟩, ⟨_, f13, f14⟩, _, ⟨f17, o20, o21⟩, fc, _, _, f19⟩ := id C24
      have mi2 := jMk_i (jTk_v t T b2)
      have tv2 := jTk_v t T b2
      have nx2 := jNx_bd (t := t) d1'
      have zf : zIn (-10 - m24 386 13) := by rw [f13]; unfold zIn; omega
      rcases rest with ⟨k5, k3', b3, o3, c3, d3, rest⟩ | ⟨k0, oko, ee, ce⟩ | ⟨n5, n0, okz, fbz⟩
      · have m4 : jMk (jTk t T b2) = 4 := mi2.2.2.2.2.2.2.2.2.2.mpr k5
        have bT2 := jTk_e (t := t) (T := T) (b := b2) (by omega)
        rw [f19, f14, m4]
        refine ⟨fun hh => absurd rfl hh, fun _ => ⟨fun hh => absurd rfl hh, fun _ => ⟨by omega, ?_⟩⟩⟩
        refine s221s (by omega) C24 (fun m27 l27 C27 => ⟨by omega, ?_⟩)
        refine jm_all d3 m27 x _ (d - 1) (by omega) C27 (by omega) (by omega) ?_
        intro m30 l30 p1 p0
        have rb3 := jR_bd d3 nx2.2.1
        have L30 : jL A m m30 := L24.tr (l27.tr l30)
        have p30 : m30 387 5 = r := by rw [L30.2.2 5 (by omega)]; exact hr
        rcases rest with ⟨kz, okz, fbz⟩ | ⟨ko, k0, oko, ee, ce⟩ | ⟨ko, n0, okz, fbz⟩
        · have F := p0 kz
          have e13 := F.1
          have e19 := F.2.1
          have q := h0 okz m30 L30
          rw [fbz, ← e13] at q
          have zf3 : zIn (-10 - m30 386 13) := by rw [e13]; unfold zIn; omega
          rw [e19]
          exact ⟨fun _ => ⟨zf3, q⟩, fun hh => absurd hh (by decide)⟩
        · obtain ⟨_, _, ⟨_, e13, e14⟩, _, ⟨e17, o30, o31⟩, ec, _, _, e19⟩ := p1 ko
          have q := fin oko m30 p30 L30 (fun i i0 i1 => by rw [ce]; exact ec i i0 (by omega))
          have m0 : jMk (jTk t T b3) = 0 := by rw [k0]; rfl
          unfold jFin at q
          rw [hh2, ee] at q
          simp (disch := omega) only [e19, e14, m0, e17, f17, k15, zu_eq, zu_ne, up_ne, p30]
          clear h1 h0 fin hy hz zz zk Cz Lz Ly hTy g g2 g5 u hT L12 p1 p0 q1 q0 C24 C27 C21 L24 L30 fc ec d1 d3
          repeat' (first | (with_reducible assumption) | (with_reducible rfl) | (with_reducible apply And.intro) | (with_reducible apply zIn_mk) | (with_reducible apply zLn_mk) | ((with_reducible intro _); try (exfalso; omega)) | omega | (with_reducible exact Or.inr trivial) | (with_reducible exact Or.inl trivial) | ((exact q)) | fail)
        · obtain ⟨_, d0', ⟨_, e13, e14⟩, _, _, _, _, _, e19⟩ := p1 ko
          have mi3 := jMk_i (jTk_v t T b3)
          have q := h0 okz m30 L30
          rw [fbz, ← e13] at q
          have zf3 : zIn (-10 - m30 386 13) := by rw [e13]; unfold zIn; omega
          rw [e19, e14]
          exact ⟨fun hh => absurd rfl hh, fun _ => ⟨fun hh => absurd (mi3.2.2.2.2.2.2.2.1.mp hh) n0, fun _ => ⟨zf3, q⟩⟩⟩
      · have m0 : jMk (jTk t T b2) = 0 := by rw [k0]; rfl
        have q := fin oko m24 p24 L24 (fun i i0 i1 => by rw [ce]; exact fc i i0 (by omega))
        unfold jFin at q
        rw [hh2, ee] at q
        have n4 : (0 : Int) ≠ 4 := by decide
        rw [f19, f14, m0]
        refine ⟨fun hh => absurd rfl hh, fun _ => ⟨fun _ => ⟨fun hh => absurd rfl hh, fun _ => ⟨fun _ => ?_, fun hh => absurd rfl hh⟩⟩, fun hh => absurd hh (by decide)⟩⟩
        simp (disch := omega) only [f17, k15, zu_eq, zu_ne, up_ne, p24]
        clear h1 h0 fin hy hz zz zk Cz Lz Ly hTy g g2 g5 u hT L12 q1 q0 C24 C21 L24 fc d1
        repeat' (first | (with_reducible assumption) | (with_reducible rfl) | (with_reducible apply And.intro) | (with_reducible apply zIn_mk) | (with_reducible apply zLn_mk) | ((with_reducible intro _); try (exfalso; omega)) | omega | (with_reducible exact Or.inr trivial) | (with_reducible exact Or.inl trivial) | ((exact q)) | fail)
      · have q := h0 okz m24 L24
        rw [fbz, ← f13] at q
        have n4 : jMk (jTk t T b2) ≠ 4 := fun hh => n5 (mi2.2.2.2.2.2.2.2.2.2.mp hh)
        have n0' : jMk (jTk t T b2) ≠ 0 := fun hh => n0 (mi2.2.2.2.2.2.2.2.1.mp hh)
        rw [f19, f14]
        exact ⟨fun hh => absurd rfl hh, fun _ => ⟨fun _ => ⟨fun hh => absurd rfl hh, fun _ => ⟨fun hh => absurd hh n0', fun _ => ⟨zf, q⟩⟩⟩, fun hh => absurd hh n4⟩⟩

