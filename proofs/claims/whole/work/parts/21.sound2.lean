/-! THE WALK IS SOUND: instruction by instruction -/
theorem zar_ok {md : Nat} {v : Int} {k : Int → Prop} (h : zar md v k) : ∃ q, Int32.ofInt q = Int32.ofInt v ∧ zIn q ∧ k q := by
  unfold zar at h
  split at h
  · exact ⟨v, rfl, h.1, h.2⟩
  · exact ⟨w32 v, z32_eq v, w32_in v, h⟩
theorem zal_ok {md : Nat} {v : Int} {k : Int → Prop} (h : zal md v k) : ∃ q, Int64.ofInt q = Int64.ofInt v ∧ zLn q ∧ k q := by
  unfold zal at h
  split at h
  · exact ⟨v, rfl, h.1, h.2⟩
  · exact ⟨w64 v, z64_eq v, w64_in v, h⟩
theorem ztd_abs (a b : Int) : (a.tdiv b).natAbs ≤ a.natAbs := by
  rw [Int.natAbs_tdiv]
  exact Nat.div_le_self _ _
theorem ztm_abs (a b : Int) : (a.tmod b).natAbs ≤ a.natAbs := by
  rw [Int.natAbs_tmod]
  exact Nat.mod_le _ _
theorem zdv_ok {md : Nat} {a b : Int} {k : Int → Prop} (h : zdv md a b k) : b ≠ 0 ∧ ∃ q, Int32.ofInt q = Int32.ofInt (a.tdiv b) ∧ (zIn a → zIn q) ∧ k q := by
  unfold zdv at h
  split at h
  · obtain ⟨⟨h1, h2⟩, h3⟩ := h
    refine ⟨by omega, a / b, ?_, fun ha => ?_, h3⟩
    · rw [Int.tdiv_eq_ediv_of_nonneg h1]
    · have h4 : a / b ≤ a := Int.ediv_le_self b h1
      have h5 : 0 ≤ a / b := Int.ediv_nonneg h1 (by omega)
      unfold zIn at ha ⊢
      omega
  · exact ⟨h.1, _, z32_eq _, fun _ => w32_in _, h.2⟩
  · refine ⟨by have := h.1; omega, _, rfl, fun ha => ?_, h.2⟩
    have h1 := ztd_abs a b
    have hb := h.1
    unfold zIn at ha ⊢
    rcases Int.le_total 0 a with h0 | h0
    · have h2 := Int.tdiv_nonneg h0 (show 0 ≤ b by omega)
      omega
    · have h2 := Int.tdiv_nonneg (show 0 ≤ -a by omega) (show 0 ≤ b by omega)
      rw [Int.neg_tdiv] at h2
      omega
theorem zdl_ok {md : Nat} {a b : Int} {k : Int → Prop} (h : zdl md a b k) : b ≠ 0 ∧ ∃ q, Int64.ofInt q = Int64.ofInt (a.tdiv b) ∧ (zLn a → zLn q) ∧ k q := by
  unfold zdl at h
  split at h
  · obtain ⟨⟨h1, h2⟩, h3⟩ := h
    refine ⟨by omega, a / b, ?_, fun ha => ?_, h3⟩
    · rw [Int.tdiv_eq_ediv_of_nonneg h1]
    · have h4 : a / b ≤ a := Int.ediv_le_self b h1
      have h5 : 0 ≤ a / b := Int.ediv_nonneg h1 (by omega)
      unfold zLn at ha ⊢
      omega
  · exact ⟨h.1, _, z64_eq _, fun _ => w64_in _, h.2⟩
theorem zrm_ok {md : Nat} {a b : Int} {k : Int → Prop} (h : zrm md a b k) : b ≠ 0 ∧ ∃ q, q = a.tmod b ∧ k q := by
  unfold zrm at h
  split at h
  · obtain ⟨⟨h1, h2⟩, h3⟩ := h
    exact ⟨by omega, a % b, (Int.tmod_eq_emod_of_nonneg h1).symm, h3⟩
  · exact ⟨h.1, _, rfl, h.2⟩
theorem ztm_in {a b : Int} (h : zIn a) : zIn (a.tmod b) := by
  have h1 := ztm_abs a b
  unfold zIn at h ⊢
  rcases Int.le_total 0 a with h0 | h0
  · have h2 := Int.tmod_nonneg b h0
    omega
  · have h2 := Int.tmod_nonneg b (show 0 ≤ -a by omega)
    rw [Int.neg_tmod] at h2
    omega
theorem ztm_ln {a b : Int} (h : zLn a) : zLn (a.tmod b) := by
  have h1 := ztm_abs a b
  unfold zLn at h ⊢
  rcases Int.le_total 0 a with h0 | h0
  · have h2 := Int.tmod_nonneg b h0
    omega
  · have h2 := Int.tmod_nonneg b (show 0 ≤ -a by omega)
    rw [Int.neg_tmod] at h2
    omega
theorem zlen_of {pc len a b k : Nat} {ins : ClassFile.Instr} {z : Int} (h : zLenOk (pc, ins, len, a, b, z) = true) (hk : zLn9 ins = k + 1) : len = k + 1 := by
  unfold zLenOk at h
  rw [hk] at h
  exact Nat.eq_of_beq_eq_true h
section ZS2
variable {d y pc n n' : Nat} {ls : List (Nat × zV)} {st : List zV} {u u' : List (Nat × Nat)} {x m : zM} {Q : Int → zM → zM → Prop}
theorem wp_nn (k : n ≤ n' ∧ n' ≤ 403 → WP d y pc ls st n u x m n' u' Q) : WP d y pc ls st n u x m n' u' Q := by
  intro p l e R s mi args below meth c QQ D A sc ro ad0 n0 E H locs ad lsl S
  obtain ⟨s1, s2, s3, s4, s5, ⟨s6, s6b, s6c⟩, -⟩ := id S
  exact k ⟨s6b, s6c⟩ p l e R s mi args below meth c QQ D A sc ro ad0 n0 E H locs ad lsl S
theorem wp_ldc {idx : Nat} {z : Int} (hd : decode (zCb y) pc = .ok (.ldc idx, 2)) (hw : Cond.constant (zOw y) idx (Int32.ofInt z) ∈ zgood) (hz : zIn z) (k : WP d y (pc + 2) ls (zi z :: st) n u x m n' u' Q) : WP d y pc ls st n u x m n' u' Q :=
  wp_hp (fun {p l e R s mi args below meth cc H locs cells slots QQ D A ad ca tys lsl} hx hb how ht w1 w2 w4 s9 g => lv_ldc hx hb how (ht _ hw) hd g) (fun _ _ h => zOk_cons (v := zi z) hz h) k
theorem wp_ldcw {idx : Nat} {z : Int} (hd : decode (zCb y) pc = .ok (.ldc_w idx, 3)) (hw : Cond.constant (zOw y) idx (Int32.ofInt z) ∈ zgood) (hz : zIn z) (k : WP d y (pc + 3) ls (zi z :: st) n u x m n' u' Q) : WP d y pc ls st n u x m n' u' Q :=
  wp_hp (fun {p l e R s mi args below meth cc H locs cells slots QQ D A ad ca tys lsl} hx hb how ht w1 w2 w4 s9 g => lv_ldcw hx hb how (ht _ hw) hd g) (fun _ _ h => zOk_cons (v := zi z) hz h) k
theorem wp_ldc2 {idx : Nat} {z : Int} (hd : decode (zCb y) pc = .ok (.ldc2_w idx, 3)) (hw : Cond.constantLong (zOw y) idx (Int64.ofInt z) ∈ zgood) (hz : zLn z) (k : WP d y (pc + 3) ls (zl z :: st) n u x m n' u' Q) : WP d y pc ls st n u x m n' u' Q :=
  wp_hp (fun {p l e R s mi args below meth cc H locs cells slots QQ D A ad ca tys lsl} hx hb how ht w1 w2 w4 s9 g => lv_ldc2 hx hb how (ht _ hw) hd g) (fun _ _ h => zOk_cons (v := zl z) hz h) k
theorem wp_ldcs {idx : Nat} (hd : decode (zCb y) pc = .ok (.ldc idx, 2)) (ho : zOc y = 6) (hi : idx = 97) (k : WP d y (pc + 2) ls (zr 2003 :: st) n u x m n' u' Q) : WP d y pc ls st n u x m n' u' Q := by
  sorry
theorem wp_strlen (hd : decode (zCb y) pc = .ok (.invokevirtual 99, 3)) (ho : zOc y = 6) (hdd : 8 ≤ d) (hrm : (st.map zcat).sum ≤ 4) (k : WP d y (pc + 3) ls (zi 104 :: st) n u x m n' u' Q) : WP d y pc ls (zr 2003 :: st) n u x m n' u' Q := by
  sorry
theorem wp_charat {i : Int} (hd : decode (zCb y) pc = .ok (.invokevirtual 103, 3)) (ho : zOc y = 6) (hdd : 8 ≤ d) (hi : 0 ≤ i ∧ i < 104) (hrm : (st.map zcat).sum ≤ 4) (k : WP d y (pc + 3) ls (zi (zChr i) :: st) n u x m n' u' Q) : WP d y pc ls (zi i :: zr 2003 :: st) n u x m n' u' Q := by
  sorry
theorem wp_tsw {dflt lo hi : Int} {offs : Array Int} {len : Nat} {v : Int} (hd : decode (zCb y) pc = .ok (.tableswitch dflt lo hi offs, len)) (hl : (offs.toList.length : Int) = hi - lo + 1) (T : Int → Nat) (h0 : v < lo ∨ hi < v → (pc : Int) + dflt = (T dflt : Int) ∧ WP d y (T dflt) ls st n u x m n' u' Q)
    (h1 : zsw (fun o => (pc : Int) + o = (T o : Int) ∧ WP d y (T o) ls st n u x m n' u' Q) v lo offs.toList) : WP d y pc ls (zi v :: st) n u x m n' u' Q := by
  have hsw : ∀ (l : List Int) (lo : Int), zsw (fun o => (pc : Int) + o = (T o : Int) ∧ WP d y (T o) ls st n u x m n' u' Q) v lo l → ∀ (i : Nat) (o : Int), l[i]? = some o → v = lo + i → (pc : Int) + o = (T o : Int) ∧ WP d y (T o) ls st n u x m n' u' Q := by
    intro l
    induction l with
    | nil => intro lo h i o hi; cases hi
    | cons a t ih =>
      intro lo h i o hi hv
      cases i with
      | zero =>
        cases hi
        exact h.1 (by omega)
      | succ i => exact ih (lo + 1) h.2 i o hi (by omega)
  intro p l e R s mi args below meth c QQ D A sc ro ad0 n0 E H locs ad lsl S
  obtain ⟨⟨hx, hb, -⟩, -⟩ := id E
  obtain ⟨s1, s2, s3, s4, s5, s6, s7, s8, s9⟩ := id S
  have hv : zIn v := zOk_hd s9
  have hvi := z32_to hv
  by_cases hc : v < lo ∨ hi < v
  · obtain ⟨g1, g2⟩ := h0 hc
    exact lv_tableOut hx hb hd (by rw [hvi]; exact hc) g1 (g2 p l e R s mi args below meth c QQ D A sc ro ad0 n0 E H locs ad lsl ⟨s1, s2, s3, s4, s5, s6, s7, s8, zOk_tl s9⟩)
  · have hlt : (v - lo).toNat < offs.toList.length := by omega
    have ho : offs.toList[(v - lo).toNat]? = some (offs.toList[(v - lo).toNat]'hlt) := List.getElem?_eq_getElem hlt
    obtain ⟨g1, g2⟩ := hsw _ _ h1 _ _ ho (by omega)
    exact lv_tableIn hx hb hd (by rw [hvi]; omega) (by rw [hvi]; omega) (by rw [hvi, ← Array.getElem?_toList]; exact ho) g1 (g2 p l e R s mi args below meth c QQ D A sc ro ad0 n0 E H locs ad lsl ⟨s1, s2, s3, s4, s5, s6, s7, s8, zOk_tl s9⟩)
theorem wp_lsw {dflt : Int} {ps : Array (Int × Int)} {len : Nat} {v : Int} (hd : decode (zCb y) pc = .ok (.lookupswitch dflt ps, len)) (hs : (ps.toList.zip (ps.toList.drop 1)).all (fun (a, next) => a.1 < next.1) = true) (T : Int → Nat)
    (h1 : zlw (fun o => (pc : Int) + o = (T o : Int) ∧ WP d y (T o) ls st n u x m n' u' Q) v dflt ps.toList) : WP d y pc ls (zi v :: st) n u x m n' u' Q := by
  have hsw : ∀ (l : List (Int × Int)), zlw (fun o => (pc : Int) + o = (T o : Int) ∧ WP d y (T o) ls st n u x m n' u' Q) v dflt l → (pc : Int) + Op.lookupswitch.offset l dflt v = (T (Op.lookupswitch.offset l dflt v) : Int) ∧ WP d y (T (Op.lookupswitch.offset l dflt v)) ls st n u x m n' u' Q := by
    intro l
    induction l with
    | nil => intro h; exact h
    | cons a t ih =>
      intro h
      by_cases hv : v = a.1
      · have e : Op.lookupswitch.offset (a :: t) dflt v = a.2 := by simp [Op.lookupswitch.offset, hv]
        rw [e]
        exact h.1 hv
      · have e : Op.lookupswitch.offset (a :: t) dflt v = Op.lookupswitch.offset t dflt v := by simp [Op.lookupswitch.offset, hv, Ne.symm hv]
        rw [e]
        exact ih (h.2 hv)
  intro p l e R s mi args below meth c QQ D A sc ro ad0 n0 E H locs ad lsl S
  obtain ⟨⟨hx, hb, -⟩, -⟩ := id E
  obtain ⟨s1, s2, s3, s4, s5, s6, s7, s8, s9⟩ := id S
  have hv : zIn v := zOk_hd s9
  have hvi := z32_to hv
  obtain ⟨g1, g2⟩ := hsw _ h1
  exact lv_lookup hx hb hd hs (by rw [hvi]) g1 (g2 p l e R s mi args below meth c QQ D A sc ro ad0 n0 E H locs ad lsl ⟨s1, s2, s3, s4, s5, s6, s7, s8, zOk_tl s9⟩)
end ZS2

/-- the entry's own facts -/
theorem zent {y : Nat} (hy : y < 285) {pc len a b : Nat} {ins : ClassFile.Instr} {z : Int} {r : List zI} (hs : zSuf y ((pc, ins, len, a, b, z) :: r)) : decode (zCb y) pc = .ok (ins, len) ∧ zEl y (pc, ins, len, a, b, z) = true ∧ zLenOk (pc, ins, len, a, b, z) = true ∧ (∀ f r', r = f :: r' → pc + len = f.1) := by
  have hval := zVal_ok y hy
  unfold zVal at hval
  simp only [Bool.and_eq_true] at hval
  have h1 := List.all_eq_true.mp hval.1 _ (zSuf_mem hs)
  unfold zEok at h1
  simp only [Bool.and_eq_true, decide_eq_true_eq] at h1
  refine ⟨h1.1, h1.2, List.all_eq_true.mp (zVl y hy) _ (zSuf_mem hs), fun f r' hr => ?_⟩
  obtain ⟨p, hp⟩ := hs
  subst hr
  have h2 := hval.2
  rw [hp] at h2
  exact zChain_at p _ f r' h2
theorem zap_ok {n : Nat} {v : zV} {k len : Nat} {lg : Bool} (hv : zOk n v) (hn : n ≤ 403) (h : zap v = some (k, len, lg)) : ∃ q0 off, zAr v q0 k off len lg ∧ q0 < n ∧ ∀ i, off + i = zoff v i := by
  rcases v with a | a | a | ⟨o, i⟩
  · cases h
  · cases h
  · have ha : a < 403 := by
      rcases hv with h9 | h9
      · omega
      · exfalso
        unfold zap at h
        have : zSh a = (9, 0, 0, 0) := by
          unfold zSh
          rw [show Nat.ble 403 a = true from Nat.ble_eq_true_of_le (by omega)]
          rfl
        simp only [this] at h
        cases h
    have han : a < n := by rcases hv with h9 | h9 <;> omega
    dsimp only [zap] at h
    generalize hs : zSh a = s at h
    obtain ⟨s1, s2, s3, s4⟩ := s
    match s1, hs, h with
    | 0, _, h => cases h
    | 1, hs, h =>
      cases h
      exact ⟨_, 0, zAr_int ha hs, han, fun i => Int.zero_add i⟩
    | 2, hs, h =>
      cases h
      exact ⟨_, 0, zAr_long ha hs, han, fun i => Int.zero_add i⟩
    | s1 + 3, _, h => cases h
  · obtain ⟨h1, h2, h3⟩ := hv
    have ho : o < 403 := by
      rcases Nat.lt_or_ge o 403 with q | q
      · exact q
      · exfalso
        have : zSh o = (9, 0, 0, 0) := by
          unfold zSh
          rw [show Nat.ble 403 o = true from Nat.ble_eq_true_of_le q]
          rfl
        rw [this] at h2
        simp at h2
        omega
    dsimp only [zap] at h
    generalize hs : zSh o = s at h h2 h3
    obtain ⟨s1, s2, s3, s4⟩ := s
    dsimp only at h2 h3
    match s1, hs, h with
    | 0, _, h => cases h
    | 1, _, h => cases h
    | 2, _, h => cases h
    | 3, hs, h =>
      cases h
      exact ⟨s2 + i.toNat, i * (len : Int), zAr_rowi ho hs ⟨h1, h2⟩, h3, fun j => by show _ = i * (((zSh _).2.2.2 : Nat) : Int) + j; rw [hs]⟩
    | 4, hs, h =>
      cases h
      exact ⟨s2 + i.toNat, i * (len : Int), zAr_rowl ho hs ⟨h1, h2⟩, h3, fun j => by show _ = i * (((zSh _).2.2.2 : Nat) : Int) + j; rw [hs]⟩
    | s1 + 5, _, h => cases h
/-- a write on the side where it falls -/
theorem zwr_ok {K : zM → zM → Prop} {k : Nat} {i v : Int} {x m : zM} (h : zwr K k i v x m) : ∃ x' m', ((Nat.ble k 385 = true ∧ x' = zupd x k i v ∧ m' = m) ∨ (Nat.ble k 385 = false ∧ x' = x ∧ m' = zupd m k i v)) ∧ K x' m' := by
  unfold zwr at h
  cases hb : Nat.ble k 385 with
  | true =>
    rw [hb] at h
    exact ⟨_, _, Or.inl ⟨rfl, rfl, rfl⟩, h⟩
  | false =>
    rw [hb] at h
    exact ⟨_, _, Or.inr ⟨rfl, rfl, rfl⟩, h⟩
theorem zbk_ok {y : Nat} {r : Int} {st : List zV} {k : List zV → Prop} (h : zbk y r st k) (hr : zRok y r) : k (zPush y r st) := by
  unfold zbk at h
  unfold zPush
  unfold zRok at hr
  split at h
  · rename_i e; rw [e]; exact h
  · rename_i e; rw [e]; exact h
  · rename_i e; rw [e] at hr ⊢; exact h hr
  · rename_i h0 h2 h3
    split
    · rename_i e; exact absurd e h0
    · rename_i e; exact absurd e h2
    · exact h
theorem zsw_mono {K K' : Int → Prop} {v : Int} (hk : ∀ o, K o → K' o) : ∀ (l : List Int) (lo : Int), zsw K v lo l → zsw K' v lo l
  | [], _, _ => trivial
  | _ :: t, lo, h => ⟨fun q => hk _ (h.1 q), zsw_mono hk t (lo + 1) h.2⟩
theorem zlw_mono {K K' : Int → Prop} {v dflt : Int} (hk : ∀ o, K o → K' o) : ∀ (l : List (Int × Int)), zlw K v dflt l → zlw K' v dflt l
  | [], h => hk _ h
  | _ :: t, h => ⟨fun q => hk _ (h.1 q), fun q => zlw_mono hk t (h.2 q)⟩
