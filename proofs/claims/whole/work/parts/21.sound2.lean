/-! THE WALK IS SOUND: instruction by instruction -/
theorem zar_ok {md : Nat} {v : Int} {k : Int → Prop} (h : zar md v k) : ∃ q, Int32.ofInt q = Int32.ofInt v ∧ zIn q ∧ k q := by
  unfold zar at h
  split at h
  · exact ⟨v, rfl, h.1, h.2⟩
  · exact ⟨w32 v, z32_eq v, w32_in v, h⟩
theorem zal_ok {md : Nat} {v : Int} {k : Int → Prop} (h : zal md v k) : ∃ q, Int64.ofInt q = Int64.ofInt v ∧ zLn q ∧ k q := by
  unfold zal at h
  split at h
  · exact ⟨v, rfl, h.1, h.2⟩
  · exact ⟨w64 v, z64_eq v, w64_in v, h⟩
theorem ztd_abs (a b : Int) : (a.tdiv b).natAbs ≤ a.natAbs := by
  rw [Int.natAbs_tdiv]
  exact Nat.div_le_self _ _
theorem ztm_abs (a b : Int) : (a.tmod b).natAbs ≤ a.natAbs := by
  rw [Int.natAbs_tmod]
  exact Nat.mod_le _ _
theorem zdv_ok {md : Nat} {a b : Int} {k : Int → Prop} (h : zdv md a b k) : b ≠ 0 ∧ ∃ q, Int32.ofInt q = Int32.ofInt (a.tdiv b) ∧ (zIn a → zIn q) ∧ k q := by
  unfold zdv at h
  split at h
  · obtain ⟨⟨h1, h2⟩, h3⟩ := h
    refine ⟨by omega, a / b, ?_, fun ha => ?_, h3⟩
    · rw [Int.tdiv_eq_ediv_of_nonneg h1]
    · have h4 : a / b ≤ a := Int.ediv_le_self b h1
      have h5 : 0 ≤ a / b := Int.ediv_nonneg h1 (by omega)
      unfold zIn at ha ⊢
      omega
  · exact ⟨h.1, _, z32_eq _, fun _ => w32_in _, h.2⟩
  · refine ⟨by have := h.1; omega, _, rfl, fun ha => ?_, h.2⟩
    have h1 := ztd_abs a b
    have hb := h.1
    unfold zIn at ha ⊢
    rcases Int.le_total 0 a with h0 | h0
    · have h2 := Int.tdiv_nonneg h0 (show 0 ≤ b by omega)
      omega
    · have h2 := Int.tdiv_nonneg (show 0 ≤ -a by omega) (show 0 ≤ b by omega)
      rw [Int.neg_tdiv] at h2
      omega
theorem zdl_ok {md : Nat} {a b : Int} {k : Int → Prop} (h : zdl md a b k) : b ≠ 0 ∧ ∃ q, Int64.ofInt q = Int64.ofInt (a.tdiv b) ∧ (zLn a → zLn q) ∧ k q := by
  unfold zdl at h
  split at h
  · obtain ⟨⟨h1, h2⟩, h3⟩ := h
    refine ⟨by omega, a / b, ?_, fun ha => ?_, h3⟩
    · rw [Int.tdiv_eq_ediv_of_nonneg h1]
    · have h4 : a / b ≤ a := Int.ediv_le_self b h1
      have h5 : 0 ≤ a / b := Int.ediv_nonneg h1 (by omega)
      unfold zLn at ha ⊢
      omega
  · exact ⟨h.1, _, z64_eq _, fun _ => w64_in _, h.2⟩
theorem zrm_ok {md : Nat} {a b : Int} {k : Int → Prop} (h : zrm md a b k) : b ≠ 0 ∧ ∃ q, q = a.tmod b ∧ k q := by
  unfold zrm at h
  split at h
  · obtain ⟨⟨h1, h2⟩, h3⟩ := h
    exact ⟨by omega, a % b, (Int.tmod_eq_emod_of_nonneg h1).symm, h3⟩
  · exact ⟨h.1, _, rfl, h.2⟩
theorem ztm_in {a b : Int} (h : zIn a) : zIn (a.tmod b) := by
  have h1 := ztm_abs a b
  unfold zIn at h ⊢
  rcases Int.le_total 0 a with h0 | h0
  · have h2 := Int.tmod_nonneg b h0
    omega
  · have h2 := Int.tmod_nonneg b (show 0 ≤ -a by omega)
    rw [Int.neg_tmod] at h2
    omega
theorem ztm_ln {a b : Int} (h : zLn a) : zLn (a.tmod b) := by
  have h1 := ztm_abs a b
  unfold zLn at h ⊢
  rcases Int.le_total 0 a with h0 | h0
  · have h2 := Int.tmod_nonneg b h0
    omega
  · have h2 := Int.tmod_nonneg b (show 0 ≤ -a by omega)
    rw [Int.neg_tmod] at h2
    omega
theorem zlen_of {pc len a b k : Nat} {ins : ClassFile.Instr} {z : Int} (h : zLenOk (pc, ins, len, a, b, z) = true) (hk : zLn9 ins = k + 1) : len = k + 1 := by
  unfold zLenOk at h
  rw [hk] at h
  exact Nat.eq_of_beq_eq_true h
section ZS2
variable {d y pc n n' : Nat} {ls : List (Nat × zV)} {st : List zV} {u u' : List (Nat × Nat)} {x m : zM} {Q : Int → zM → zM → Prop}
theorem wp_nn (k : n ≤ n' ∧ n' ≤ 403 → WP d y pc ls st n u x m n' u' Q) : WP d y pc ls st n u x m n' u' Q := by
  intro p l e R s mi args below meth c QQ D A sc ro ad0 n0 E H locs ad lsl S
  obtain ⟨s1, s2, s3, s4, s5, ⟨s6, s6b, s6c⟩, -⟩ := id S
  exact k ⟨s6b, s6c⟩ p l e R s mi args below meth c QQ D A sc ro ad0 n0 E H locs ad lsl S
theorem wp_ldc {idx : Nat} {z : Int} (hd : decode (zCb y) pc = .ok (.ldc idx, 2)) (hw : Cond.constant (zOw y) idx (Int32.ofInt z) ∈ zgood) (hz : zIn z) (k : WP d y (pc + 2) ls (zi z :: st) n u x m n' u' Q) : WP d y pc ls st n u x m n' u' Q :=
  wp_hp (fun {p l e R s mi args below meth cc H locs cells slots QQ D A ad ca tys lsl} hx hb how ht w1 w2 w4 s9 g => lv_ldc hx hb how (ht _ hw) hd g) (fun _ _ h => zOk_cons (v := zi z) hz h) k
theorem wp_ldcw {idx : Nat} {z : Int} (hd : decode (zCb y) pc = .ok (.ldc_w idx, 3)) (hw : Cond.constant (zOw y) idx (Int32.ofInt z) ∈ zgood) (hz : zIn z) (k : WP d y (pc + 3) ls (zi z :: st) n u x m n' u' Q) : WP d y pc ls st n u x m n' u' Q :=
  wp_hp (fun {p l e R s mi args below meth cc H locs cells slots QQ D A ad ca tys lsl} hx hb how ht w1 w2 w4 s9 g => lv_ldcw hx hb how (ht _ hw) hd g) (fun _ _ h => zOk_cons (v := zi z) hz h) k
theorem wp_ldc2 {idx : Nat} {z : Int} (hd : decode (zCb y) pc = .ok (.ldc2_w idx, 3)) (hw : Cond.constantLong (zOw y) idx (Int64.ofInt z) ∈ zgood) (hz : zLn z) (k : WP d y (pc + 3) ls (zl z :: st) n u x m n' u' Q) : WP d y pc ls st n u x m n' u' Q :=
  wp_hp (fun {p l e R s mi args below meth cc H locs cells slots QQ D A ad ca tys lsl} hx hb how ht w1 w2 w4 s9 g => lv_ldc2 hx hb how (ht _ hw) hd g) (fun _ _ h => zOk_cons (v := zl z) hz h) k
theorem zRd6 {y : Nat} (ho : zOc y = 6) : zOw y = "CommonBond$Reader" := by
  unfold zOw
  rw [ho]
  rfl
theorem wp_ldcs {idx : Nat} (hd : decode (zCb y) pc = .ok (.ldc idx, 2)) (ho : zOc y = 6) (hi : idx = 97) (k : WP d y (pc + 2) ls (zr 2003 :: st) n u x m n' u' Q) : WP d y pc ls st n u x m n' u' Q := by
  subst hi
  intro p l e R s mi args below meth c QQ D A sc ro ad0 n0 E H locs ad lsl S
  obtain ⟨⟨hx, hb, -, hml, hown, hts, -⟩, -, -, hro, -⟩ := id E
  obtain ⟨s1, s2, s3, s4, s5, s6, s7, s8, s9⟩ := id S
  obtain ⟨-, -, -, -, -, -, g3, -⟩ := hro
  rw [zRd6 ho] at hown
  rw [← s5 2003 (by omega)] at g3
  exact va_ldcS hx hb hown g3 hd (k p l e R s mi args below meth c QQ D A sc ro ad0 n0 E H locs ad lsl ⟨s1, s2, s3, s4, s5, s6, s7, s8, zOk_cons (v := zr 2003) (Or.inr (by omega)) s9⟩)
/-- a method of the text's, called: what it answers, all else as it was -/
theorem zText_call {a : Int32} {As : List Value} {stA : List zV} {ml : Nat} {nm : MethodName} {cc : ByteArray} {rt : Option FieldType} {rm : Room} {idx : Nat} (hd : decode (zCb y) pc = .ok (.invokevirtual idx, 3)) (ho : zOc y = 6) (hdd : 8 ≤ d) (hrm : (st.map zcat).sum ≤ 4)
    (hM : ∀ (l : Launch) (q : Nat), Met l nm (zJw nm cc ml rt) rm (va_Pc (.ref q :: As) (zTx q)) (va_Qi (fun r (_ : Unit) => r = a) (fun _ _ => True) zNo) 0 0 zNo) (hrc : rm.cells = 0 ∧ rm.slots = 0) (hrl : rm.frames + 1 ≤ 8 ∧ 8 + (ml + 11) + rm.locals ≤ 512)
    (hl : ∀ w ∈ ([.methodLink "CommonBond$Reader" idx nm, .instanceMethod nm, .selects nm.cls nm nm, .initialized nm.cls] : List Cond), w ∈ zgood) (hc : Cond.code nm cc ml rt ∈ zgood) (hcls : nm.cls = "java/lang/String") (hnp : (parseMethodDescriptor nm.desc).map (fun d => d.parameters.length) = some As.length)
    (hAs : ∀ ad, stA.map (zc ad) = As.reverse) (k : WP d y (pc + 3) ls (zi a.toInt :: st) n u x m n' u' Q) : WP d y pc ls (stA ++ zr 2003 :: st) n u x m n' u' Q := by
  intro p l e R s mi args below meth c QQ D A sc ro ad0 n0 E H locs ad lsl S
  obtain ⟨⟨hx, hb, -, hml, hown, hts, -⟩, ⟨r1, r2, r3, r4⟩, -, hro, -⟩ := id E
  obtain ⟨s1, s2, s3, s4, s5, ⟨s6, s6b, s6c⟩, s7, s8, s9⟩ := id S
  obtain ⟨-, -, -, -, -, -, -, ⟨av, g4⟩, g5, g6, -⟩ := hro
  rw [zRd6 ho] at hown
  rw [← s5 2003 (by omega)] at g4
  have hTU : ∀ U : State, U.heap = H → s.vm.Alike U.vm → zTx (ad 2003) U := by
    intro U hU hvm
    subst hU
    have hq : ∀ a : Nat, a < s.heap.size → ¬ A a → U.heap[a]? = s.heap[a]? := fun a g1 g2 => s2.2.1 a g1 g2
    exact ⟨⟨av, vk_S.moved hvm ((g4.kept hq).narrow (fun _ h => h.elim))⟩, va_Z.moved hvm ((g5.kept hq).narrow (fun _ h => h.elim)), g6.go hq hvm (fun _ h => h.elim)⟩
  have h1 := zSl_mono s6
  have h2 := zSl_mono s6b
  have hst : (stA ++ zr 2003 :: st).map (zc ad) = As.reverse ++ Value.ref (ad 2003) :: st.map (zc ad) := by
    rw [List.map_append, hAs ad]
    rfl
  rw [hst]
  have hsum : ((st.map (zc ad)).map fun v => v.category).sum ≤ 8 := zsum_le (by omega)
  have hrecv : ∃ cell : Cell, H[ad 2003]? = some cell ∧ cell.vm.isStatics = false ∧ s.vm.findClass nm.cls = some cell.cls := by
    rw [hcls]
    exact vk_recv (i := 0) g4 (by decide) s2
  refine va_calli (va_runV (C := nm.cls) (As := As) (rest := st.map (zc ad)) ⟨hx, hb, hml, hown, hts⟩ (hM l (ad 2003)) (cwV As.length hts (zJV hl hc) rfl hrc.1 hrc.2 ⟨rfl, by rw [hcls]; decide, by rw [hcls]; decide, hnp⟩ ⟨by omega, by omega⟩) ⟨zTx.blind, hrecv, fun U hU hW => ⟨rfl, hTU U hU hW.alike⟩⟩ rfl rfl (zMap_size s7) rfl (lv_room hsum) hd ⟨by omega, by omega⟩) s2 (fun q _ h => h.elim) (fun q h => h.elim) (fun r w t H1 locs1 ht hvm hw hB hz1 hk1 hS => ?_)
  obtain ⟨ca, tys, w1, w2, w3, w4, w5⟩ := s1
  have hw : r = a := hw
  subst hw
  have hk := k p l e R s mi args below meth c QQ D A sc ro ad0 n0 E H1 locs1 ad lsl ⟨⟨ca, tys, w1, fun k q hq => (w2 k q hq).kept (hk1 q.1 (w2 k q hq).lt (fun h => h)), w3, w4, w5⟩, hS, s3, s4, s5, ⟨s6, s6b, s6c⟩, s7, s8, zOk_cons (v := zi r.toInt) (z32_rng r) (fun v hv => s9 v (List.mem_append_right _ (List.mem_cons_of_mem _ hv)))⟩
  rw [List.map_cons] at hk
  have e9 : zc ad (zi r.toInt) = .int r := congrArg Value.int (z32_of r)
  rw [e9] at hk
  exact hk
theorem wp_strlen (hd : decode (zCb y) pc = .ok (.invokevirtual 99, 3)) (ho : zOc y = 6) (hdd : 8 ≤ d) (hrm : (st.map zcat).sum ≤ 4) (k : WP d y (pc + 3) ls (zi 104 :: st) n u x m n' u' Q) : WP d y pc ls (zr 2003 :: st) n u x m n' u' Q :=
  zText_call (stA := []) (As := []) (a := 104) hd ho hdd hrm (fun l q => c_strlen l q) ⟨rfl, rfl⟩ ⟨by decide, by decide⟩ zjl_len zjLen_w rfl (by decide +kernel) (fun _ => rfl) k
theorem wp_charat {i : Int} (hd : decode (zCb y) pc = .ok (.invokevirtual 103, 3)) (ho : zOc y = 6) (hdd : 8 ≤ d) (hi : 0 ≤ i ∧ i < 104) (hrm : (st.map zcat).sum ≤ 4) (k : WP d y (pc + 3) ls (zi (zChr i) :: st) n u x m n' u' Q) : WP d y pc ls (zi i :: zr 2003 :: st) n u x m n' u' Q := by
  obtain ⟨j, rfl⟩ := Int.eq_ofNat_of_zero_le hi.1
  have hj : j < 104 := by omega
  have e : Int32.ofInt (j : Int) = Int32.ofNat j := z32_nat (by omega)
  exact zText_call (stA := [zi (j : Int)]) (As := [.int (Int32.ofNat j)]) (a := zByt.getD j 0) hd ho hdd hrm (fun l q => c_charat l q j hj) ⟨rfl, rfl⟩ ⟨by decide, by decide⟩ zjl_cha zjCha_w rfl (show _ = some 1 from by decide +kernel) (fun _ => congrArg (fun v => [Value.int v]) e) k
theorem wp_tsw {dflt lo hi : Int} {offs : Array Int} {len : Nat} {v : Int} (hd : decode (zCb y) pc = .ok (.tableswitch dflt lo hi offs, len)) (hl : (offs.toList.length : Int) = hi - lo + 1) (T : Int → Nat) (h0 : v < lo ∨ hi < v → (pc : Int) + dflt = (T dflt : Int) ∧ WP d y (T dflt) ls st n u x m n' u' Q)
    (h1 : zsw (fun o => (pc : Int) + o = (T o : Int) ∧ WP d y (T o) ls st n u x m n' u' Q) v lo offs.toList) : WP d y pc ls (zi v :: st) n u x m n' u' Q := by
  have hsw : ∀ (l : List Int) (lo : Int), zsw (fun o => (pc : Int) + o = (T o : Int) ∧ WP d y (T o) ls st n u x m n' u' Q) v lo l → ∀ (i : Nat) (o : Int), l[i]? = some o → v = lo + i → (pc : Int) + o = (T o : Int) ∧ WP d y (T o) ls st n u x m n' u' Q := by
    intro l
    induction l with
    | nil => intro lo h i o hi; cases hi
    | cons a t ih =>
      intro lo h i o hi hv
      cases i with
      | zero =>
        cases hi
        exact h.1 (by omega)
      | succ i => exact ih (lo + 1) h.2 i o hi (by omega)
  intro p l e R s mi args below meth c QQ D A sc ro ad0 n0 E H locs ad lsl S
  obtain ⟨⟨hx, hb, -⟩, -⟩ := id E
  obtain ⟨s1, s2, s3, s4, s5, s6, s7, s8, s9⟩ := id S
  have hv : zIn v := zOk_hd s9
  have hvi := z32_to hv
  by_cases hc : v < lo ∨ hi < v
  · obtain ⟨g1, g2⟩ := h0 hc
    exact lv_tableOut hx hb hd (by rw [hvi]; exact hc) g1 (g2 p l e R s mi args below meth c QQ D A sc ro ad0 n0 E H locs ad lsl ⟨s1, s2, s3, s4, s5, s6, s7, s8, zOk_tl s9⟩)
  · have hlt : (v - lo).toNat < offs.toList.length := by omega
    have ho : offs.toList[(v - lo).toNat]? = some (offs.toList[(v - lo).toNat]'hlt) := List.getElem?_eq_getElem hlt
    obtain ⟨g1, g2⟩ := hsw _ _ h1 _ _ ho (by omega)
    exact lv_tableIn hx hb hd (by rw [hvi]; omega) (by rw [hvi]; omega) (by rw [hvi, ← Array.getElem?_toList]; exact ho) g1 (g2 p l e R s mi args below meth c QQ D A sc ro ad0 n0 E H locs ad lsl ⟨s1, s2, s3, s4, s5, s6, s7, s8, zOk_tl s9⟩)
theorem wp_lsw {dflt : Int} {ps : Array (Int × Int)} {len : Nat} {v : Int} (hd : decode (zCb y) pc = .ok (.lookupswitch dflt ps, len)) (hs : (ps.toList.zip (ps.toList.drop 1)).all (fun (a, next) => a.1 < next.1) = true) (T : Int → Nat)
    (h1 : zlw (fun o => (pc : Int) + o = (T o : Int) ∧ WP d y (T o) ls st n u x m n' u' Q) v dflt ps.toList) : WP d y pc ls (zi v :: st) n u x m n' u' Q := by
  have hsw : ∀ (l : List (Int × Int)), zlw (fun o => (pc : Int) + o = (T o : Int) ∧ WP d y (T o) ls st n u x m n' u' Q) v dflt l → (pc : Int) + Op.lookupswitch.offset l dflt v = (T (Op.lookupswitch.offset l dflt v) : Int) ∧ WP d y (T (Op.lookupswitch.offset l dflt v)) ls st n u x m n' u' Q := by
    intro l
    induction l with
    | nil => intro h; exact h
    | cons a t ih =>
      intro h
      by_cases hv : v = a.1
      · have e : Op.lookupswitch.offset (a :: t) dflt v = a.2 := by simp [Op.lookupswitch.offset, hv]
        rw [e]
        exact h.1 hv
      · have e : Op.lookupswitch.offset (a :: t) dflt v = Op.lookupswitch.offset t dflt v := by simp [Op.lookupswitch.offset, hv, Ne.symm hv]
        rw [e]
        exact ih (h.2 hv)
  intro p l e R s mi args below meth c QQ D A sc ro ad0 n0 E H locs ad lsl S
  obtain ⟨⟨hx, hb, -⟩, -⟩ := id E
  obtain ⟨s1, s2, s3, s4, s5, s6, s7, s8, s9⟩ := id S
  have hv : zIn v := zOk_hd s9
  have hvi := z32_to hv
  obtain ⟨g1, g2⟩ := hsw _ h1
  exact lv_lookup hx hb hd hs (by rw [hvi]) g1 (g2 p l e R s mi args below meth c QQ D A sc ro ad0 n0 E H locs ad lsl ⟨s1, s2, s3, s4, s5, s6, s7, s8, zOk_tl s9⟩)
end ZS2

/-- the entry's own facts -/
theorem zent {y : Nat} (hy : y < 285) {pc len a b : Nat} {ins : ClassFile.Instr} {z : Int} {r : List zI} (hs : zSuf y ((pc, ins, len, a, b, z) :: r)) : decode (zCb y) pc = .ok (ins, len) ∧ zEl y (pc, ins, len, a, b, z) = true ∧ zLenOk (pc, ins, len, a, b, z) = true ∧ (∀ f r', r = f :: r' → pc + len = f.1) := by
  have hval := zVal_ok y hy
  unfold zVal at hval
  simp only [Bool.and_eq_true] at hval
  have h1 := List.all_eq_true.mp hval.1 _ (zSuf_mem hs)
  unfold zEok at h1
  simp only [Bool.and_eq_true, decide_eq_true_eq] at h1
  refine ⟨h1.1, h1.2, List.all_eq_true.mp (zVl y hy) _ (zSuf_mem hs), fun f r' hr => ?_⟩
  obtain ⟨p, hp⟩ := hs
  subst hr
  have h2 := hval.2
  rw [hp] at h2
  exact zChain_at p _ f r' h2
theorem zap_ok {n : Nat} {v : zV} {k len : Nat} {lg : Bool} (hv : zOk n v) (hn : n ≤ 403) (h : zap v = some (k, len, lg)) : ∃ q0 off, zAr v q0 k off len lg ∧ q0 < n ∧ ∀ i, off + i = zoff v i := by
  rcases v with a | a | a | ⟨o, i⟩
  · cases h
  · cases h
  · have ha : a < 403 := by
      rcases hv with h9 | h9
      · omega
      · exfalso
        unfold zap at h
        have : zSh a = (9, 0, 0, 0) := by
          unfold zSh
          rw [show Nat.ble 403 a = true from Nat.ble_eq_true_of_le (by omega)]
          rfl
        simp only [this] at h
        cases h
    have han : a < n := by rcases hv with h9 | h9 <;> omega
    dsimp only [zap] at h
    generalize hs : zSh a = s at h
    obtain ⟨s1, s2, s3, s4⟩ := s
    match s1, hs, h with
    | 0, _, h => cases h
    | 1, hs, h =>
      cases h
      exact ⟨_, 0, zAr_int ha hs, han, fun i => Int.zero_add i⟩
    | 2, hs, h =>
      cases h
      exact ⟨_, 0, zAr_long ha hs, han, fun i => Int.zero_add i⟩
    | s1 + 3, _, h => cases h
  · obtain ⟨h1, h2, h3⟩ := hv
    have ho : o < 403 := by
      rcases Nat.lt_or_ge o 403 with q | q
      · exact q
      · exfalso
        have : zSh o = (9, 0, 0, 0) := by
          unfold zSh
          rw [show Nat.ble 403 o = true from Nat.ble_eq_true_of_le q]
          rfl
        rw [this] at h2
        simp at h2
        omega
    dsimp only [zap] at h
    generalize hs : zSh o = s at h h2 h3
    obtain ⟨s1, s2, s3, s4⟩ := s
    dsimp only at h2 h3
    match s1, hs, h with
    | 0, _, h => cases h
    | 1, _, h => cases h
    | 2, _, h => cases h
    | 3, hs, h =>
      cases h
      exact ⟨s2 + i.toNat, i * (len : Int), zAr_rowi ho hs ⟨h1, h2⟩, h3, fun j => by show _ = i * (((zSh _).2.2.2 : Nat) : Int) + j; rw [hs]⟩
    | 4, hs, h =>
      cases h
      exact ⟨s2 + i.toNat, i * (len : Int), zAr_rowl ho hs ⟨h1, h2⟩, h3, fun j => by show _ = i * (((zSh _).2.2.2 : Nat) : Int) + j; rw [hs]⟩
    | s1 + 5, _, h => cases h
/-- a write on the side where it falls -/
theorem zwr_ok {K : zM → zM → Prop} {k : Nat} {i v : Int} {x m : zM} (h : zwr K k i v x m) : ∃ x' m', ((Nat.ble k 385 = true ∧ x' = zupd x k i v ∧ m' = m) ∨ (Nat.ble k 385 = false ∧ x' = x ∧ m' = zupd m k i v)) ∧ K x' m' := by
  unfold zwr at h
  cases hb : Nat.ble k 385 with
  | true =>
    rw [hb] at h
    exact ⟨_, _, Or.inl ⟨rfl, rfl, rfl⟩, h⟩
  | false =>
    rw [hb] at h
    exact ⟨_, _, Or.inr ⟨rfl, rfl, rfl⟩, h⟩
theorem zbk_ok {y : Nat} {r : Int} {st : List zV} {k : List zV → Prop} (h : zbk y r st k) (hr : zRok y r) : k (zPush y r st) := by
  unfold zbk at h
  unfold zPush
  unfold zRok at hr
  split at h
  · rename_i e; rw [e]; exact h
  · rename_i e; rw [e]; exact h
  · rename_i e; rw [e] at hr ⊢; exact h hr
  · rename_i h0 h2 h3
    split
    · rename_i e; exact absurd e h0
    · rename_i e; exact absurd e h2
    · exact h
theorem zsw_mono {K K' : Int → Prop} {v : Int} (hk : ∀ o, K o → K' o) : ∀ (l : List Int) (lo : Int), zsw K v lo l → zsw K' v lo l
  | [], _, _ => trivial
  | _ :: t, lo, h => ⟨fun q => hk _ (h.1 q), zsw_mono hk t (lo + 1) h.2⟩
theorem zlw_mono {K K' : Int → Prop} {v dflt : Int} (hk : ∀ o, K o → K' o) : ∀ (l : List (Int × Int)), zlw K v dflt l → zlw K' v dflt l
  | [], h => hk _ h
  | _ :: t, h => ⟨fun q => hk _ (h.1 q), fun q => zlw_mono hk t (h.2 q)⟩
