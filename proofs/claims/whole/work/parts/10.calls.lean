/-! calls -/
theorem zW.moved {u0 U : State} {A : Nat → Prop} {D : va_G} {n : Nat} {u : List (Nat × Nat)} {ad : Nat → Nat} {x m : zM} {H : Heap} (hvm : u0.vm.Alike U.vm) (h : zW u0 A D n u ad x m H) : zW U A D n u ad x m H := by
  obtain ⟨ca, tys, w1, w2, w3, w4, w5, w6⟩ := h
  exact ⟨ca, tys, va_K.moved hvm w1, w2, w3, w4, w5, w6⟩
theorem zW.weaken {U : State} {A B : Nat → Prop} {D : va_G} {n : Nat} {u : List (Nat × Nat)} {ad : Nat → Nat} {x m : zM} {H : Heap} (h : zW U A D n u ad x m H) (hAB : ∀ q, A q → B q) : zW U B D n u ad x m H := by
  obtain ⟨ca, tys, w1, w2, w3, w4, w5, w6⟩ := h
  exact ⟨ca, tys, w1, w2, w3.weaken (fun _ _ _ h => hAB _ h), w4, w5, w6⟩
theorem zW.own {U : State} {A : Nat → Prop} {D : va_G} {n : Nat} {u : List (Nat × Nat)} {ad : Nat → Nat} {x m : zM} {H : Heap} (h : zW U A D n u ad x m H) (sz : Nat) : zW U (zA ad n sz) D n u ad x m H := by
  obtain ⟨ca, tys, w1, w2, w3, w4, w5, w6⟩ := h
  refine ⟨ca, tys, w1, w2, ⟨w3.1, fun k q hq => ?_⟩, w4, w5, w6⟩
  obtain ⟨hk, rfl⟩ := zws_get_inv hq
  exact Or.inl ⟨k, hk, rfl⟩
theorem zW.inA {U : State} {A : Nat → Prop} {D : va_G} {n : Nat} {u : List (Nat × Nat)} {ad : Nat → Nat} {x m : zM} {H : Heap} (h : zW U A D n u ad x m H) {k : Nat} (hk : k < n) : A (ad k) := by
  obtain ⟨ca, tys, w1, w2, w3, w4, w5, w6⟩ := h
  exact w3.2 k _ (zws_get hk)
theorem zA_in {U : State} {A : Nat → Prop} {D : va_G} {n : Nat} {u : List (Nat × Nat)} {ad : Nat → Nat} {x m : zM} {H : Heap} {sz : Nat} (h : zW U A D n u ad x m H) (hA : ∀ q, sz ≤ q → A q) : ∀ q, zA ad n sz q → A q := by
  intro q hq
  rcases hq with ⟨k, hk, rfl⟩ | hq
  · exact h.inA hk
  · exact hA q hq
theorem va_Zq.go {C n d : String} {A B : Nat → Prop} {s U : State} {H : Heap} (h : va_Zq C n d A s s.heap) (hq : ∀ a : Nat, a < s.heap.size → ¬ A a → H[a]? = s.heap[a]?) (hW : s.vm.Alike U.vm) (hAB : ∀ q, B q → A q) : va_Zq C n d B U H := by
  rcases h with h | ⟨t, h⟩
  · exact Or.inl (va_Z.moved hW ((h.kept hq).narrow hAB))
  · exact Or.inr ⟨t, va_Z.moved hW ((h.kept hq).narrow hAB)⟩
theorem zRO.go0 {s U : State} {A B : Nat → Prop} {ro : Nat → Nat} {sc : Int → Int} {H : Heap} {locs : List Loc} (h : zRO s A ro sc) (hS : va_S A s.heap H locs) (hW : s.vm.Alike U.vm) (hR : ∀ a, vk_R "CommonBond$Reader" 97 zText a s → vk_R "CommonBond$Reader" 97 zText a U) (hN1 : ∀ q : String × Nat × MethodName, va_Nw (.methodLinkNest q.1 q.2.1 q.2.2 "CommonBond") s → va_Nw (.methodLinkNest q.1 q.2.1 q.2.2 "CommonBond") U) (hN2 : ∀ q : String × Nat × String, va_Nw (.fieldLinkNest q.1 q.2.1 "CommonBond" q.2.2 "[I" "CommonBond") s → va_Nw (.fieldLinkNest q.1 q.2.1 "CommonBond" q.2.2 "[I" "CommonBond") U) (hU : U.heap = H) (hAB : ∀ q, B q → A q) : zRO U B ro sc := by
  obtain ⟨⟨L, h1, h2, h3, h4, h5⟩, h6, ⟨h7, h8⟩, ⟨h9, h10⟩, g1, g2, g3, ⟨av, g4⟩, g5, g6, g7, g8⟩ := h
  subst hU
  have hq : ∀ a : Nat, a < s.heap.size → ¬ A a → U.heap[a]? = s.heap[a]? := fun a g1 g2 => hS.2.1 a g1 g2
  exact ⟨⟨L, h1, h2, va_X.moved hW (h3.kept (hq _ h4 h5)), Nat.lt_of_lt_of_le h4 hS.1, fun q => h5 (hAB _ q)⟩, h6, ⟨va_Z.moved hW ((h7.kept hq).narrow hAB), va_T.moved hW ((h8.kept hq).narrow hAB)⟩, ⟨va_Z.moved hW ((h9.kept hq).narrow hAB), va_T.moved hW ((h10.kept hq).narrow hAB)⟩, g1.moved hW, g2.moved hW, hR _ g3, ⟨av, vk_S.moved hW ((g4.kept hq).narrow hAB)⟩, va_Z.moved hW ((g5.kept hq).narrow hAB), g6.go hq hW hAB, fun q hq => hN1 q (g7 q hq), fun q hq => hN2 q (g8 q hq)⟩
theorem zRO.go {s U : State} {A B : Nat → Prop} {ro : Nat → Nat} {sc : Int → Int} {H : Heap} {locs : List Loc} (h : zRO s A ro sc) (hS : va_S A s.heap H locs) (hW : s.WarmedH U.vm) (hU : U.heap = H) (hAB : ∀ q, B q → A q) : zRO U B ro sc := h.go0 hS hW.alike (fun _ q => q.warm hW) (fun _ q => va_Nw.warmM hW q) (fun _ q => va_Nw.warmF hW q) hU hAB
theorem zRO.same {s U : State} {A : Nat → Prop} {ro : Nat → Nat} {sc : Int → Int} (h : zRO s A ro sc) (hv : U.vm = s.vm) (hU : U.heap = s.heap) : zRO U A ro sc := h.go0 (va_S.rf) (by rw [hv]; exact Vm.Alike.refl _) (fun _ q => vk_R.same hv q) (fun _ q => va_Nw.same rfl hv.symm q) (fun _ q => va_Nw.same rfl hv.symm q) hU (fun _ h => h)
/-- what comes back on the stack -/
def zPush (y : Nat) (r : Int) (st : List zV) : List zV := match zKd y with
  | 0 => st
  | 2 => zl r :: st
  | _ => zi r :: st
theorem zgoodIn : GoodIn lw_tbl zgood := fun w hw => ⟨(List.mem_filter.mp hw).1, good_of_word (List.mem_filter.mp hw).2⟩
theorem zgood_all {ws : List Cond} (h : ∀ w ∈ ws, w ∈ zgood) : GoodIn zgood ws := fun w hw => ⟨h w hw, good_of_word (List.mem_filter.mp (h w hw)).2⟩
theorem zPc_blind {as : List zV} {n : Nat} {u : List (Nat × Nat)} {x m : zM} {D : va_G} {ad : Nat → Nat} {sc : Int → Int} {sz : Nat} : FrameBlind (zPc as n u x m D ad sc sz) := by
  intro a U g mk q
  obtain ⟨q0, q1, qW, qR⟩ := q
  exact ⟨q0, q1, zW.moved (U := U.calling g mk a) (Vm.Alike.refl U.vm) qW, qR.same (U := U.calling g mk a) rfl rfl⟩
theorem zc_same {ad ad' : Nat → Nat} {n : Nat} (h1 : ∀ k, k < n → ad' k = ad k) (h2 : ∀ k, 2000 ≤ k → ad' k = ad k) {v : zV} (hv : zOk n v) : zc ad' v = zc ad v := by
  rcases v with a | a | a | ⟨o, i⟩
  · rfl
  · rfl
  · show Value.ref _ = Value.ref _
    rcases hv with h | h
    · rw [h1 a h]
    · rw [h2 a h]
  · show Value.ref _ = Value.ref _
    rw [h1 _ hv.2.2]
theorem zOk_mono {n n2 : Nat} (h : n ≤ n2) {v : zV} (hv : zOk n v) : zOk n2 v := by
  rcases v with a | a | a | ⟨o, i⟩
  · exact hv
  · exact hv
  · exact hv.imp (fun q => Nat.lt_of_lt_of_le q h) id
  · exact ⟨hv.1, hv.2.1, Nat.lt_of_lt_of_le hv.2.2 h⟩
theorem zSl_mono {a b : Nat} (h : a ≤ b) : zSl a ≤ zSl b := by
  induction b with
  | zero => rw [Nat.le_zero.mp h]; exact Nat.le_refl _
  | succ b ih =>
    rcases Nat.lt_or_ge b a with q | q
    · rw [show a = b + 1 by omega]; exact Nat.le_refl _
    · exact Nat.le_trans (ih q) (Nat.le_add_right _ _)
theorem zMap_same {ad ad' : Nat → Nat} {n : Nat} (h1 : ∀ k, k < n → ad' k = ad k) (h2 : ∀ k, 2000 ≤ k → ad' k = ad k) {ls : List (Nat × zV)} (hv : ∀ q ∈ ls, zOk n q.2) : zMap ad' ls = zMap ad ls := by
  apply List.map_congr_left
  intro q hq
  rw [zc_same h1 h2 (hv q hq)]
theorem zmap_same {ad ad' : Nat → Nat} {n : Nat} (h1 : ∀ k, k < n → ad' k = ad k) (h2 : ∀ k, 2000 ≤ k → ad' k = ad k) {st : List zV} (hv : ∀ q ∈ st, zOk n q) : st.map (zc ad') = st.map (zc ad) := by
  apply List.map_congr_left
  intro q hq
  rw [zc_same h1 h2 (hv q hq)]
section ZD
variable {d y pc n n' n2 : Nat} {ls : List (Nat × zV)} {st : List zV} {u u' u2 : List (Nat × Nat)} {x m : zM} {Q Q' : Int → zM → zM → Prop}
/-- behind a call's run -/
theorem zafter {y' : Nat} {p : Program} {l : Launch} {e : Env} {R : Room} {s : State} {mi : MethodId} {args : Array Value} {below : List Frame} {meth : Method} {c : Code} {QQ : State → Prop} {D : va_G} {A : Nat → Prop} {sc : Int → Int} {ro ad0 : Nat → Nat} {n0 : Nat} (E : zEnv d y n' u' Q p l e R s mi args below meth c QQ D A sc ro ad0 n0) {H : Heap} {locs : List Loc} {ad : Nat → Nat} {lsl : Array Slot} {rest : List zV}
    (S : zSt y n' s A D sc ro ad0 n0 n u ad x m H locs ls st lsl) (hrest : ∀ v ∈ rest, v ∈ st) (hn2 : n ≤ n2 ∧ n2 ≤ n') {st0 : List Value} {a : Array Value}
    (hr : va_Run p l e R s mi args below meth c H locs (n - n0) (zSl n - zSl n0) (n2 - n) (zSl n2 - zSl n) (F0 mi pc lsl st0) (rest.map (zc ad)) (zQc y' n n2 u2 Q' D ad sc H.size a) (zA ad n H.size))
    (kk : ∀ r x' m', zRok y' r → Q' r x' m' → WP d y (pc + 3) ls (zPush y' r rest) n2 u2 x' m' n' u' Q) : W p l e R s mi args below meth c H locs (n - n0) (zSl n - zSl n0) QQ (F0 mi pc lsl st0) := by
  obtain ⟨s1, s2, s3, s4, s5, ⟨s6, s6b, s6c⟩, s7, s8, s9⟩ := id S
  obtain ⟨-, -, hA, -⟩ := id E
  have hAA : ∀ q, zA ad n H.size q → A q := zA_in s1 (fun q hq => hA q (Nat.le_trans s2.1 hq))
  have e1 : n - n0 + (n2 - n) = n2 - n0 := by omega
  have e2 : zSl n - zSl n0 + (zSl n2 - zSl n) = zSl n2 - zSl n0 := by
    have h1 := zSl_mono s6
    have h2 := zSl_mono hn2.1
    omega
  have fin : ∀ (w : zS3) (t : State) (r : Int) (H1 : Heap) (locs1 : List Loc), t.heap = H1 → s.vm.Alike t.vm → zRok y' r → Q' r w.2.1 w.2.2 → zB D n n2 u2 ad sc H.size w t → va_S A s.heap H1 locs1 → (zRok y' r → ∀ v ∈ zPush y' r rest, zOk n2 v) →
      W p l e R s mi args below meth c H1 locs1 (n2 - n0) (zSl n2 - zSl n0) QQ (F0 mi (pc + 3) lsl ((zPush y' r rest).map (zc w.1))) := by
    intro w t r H1 locs1 ht hvm hr1 hq hB hS1 hok
    obtain ⟨b1, b2, b3, b4⟩ := hB
    rw [ht] at b1
    refine kk r w.2.1 w.2.2 hr1 hq p l e R s mi args below meth c QQ D A sc ro ad0 n0 E H1 locs1 w.1 lsl ⟨(b1.moved hvm.symm).weaken hAA, hS1, b2, fun k hk => (b3 k (Nat.lt_of_lt_of_le hk s6)).trans (s4 k hk), fun k hk => (b4 k hk).trans (s5 k hk), ⟨Nat.le_trans s6 hn2.1, hn2.2, s6c⟩, ?_, fun q hq => zOk_mono hn2.1 (s8 q hq), hok hr1⟩
    show lv_has lsl (zMl y) (zMap w.1 ls)
    rw [zMap_same b3 b4 s8]
    exact s7
  have hrs : ∀ v ∈ rest, zOk n v := fun v hv => s9 v (hrest v hv)
  unfold zQc at hr
  cases hkd : zKd y' with
  | zero =>
    rw [hkd] at hr
    refine va_callv hr s2 (fun q _ h => hAA q h) hAA (fun w t H1 locs1 ht hvm hq hB hz hk hS1 => ?_)
    rw [e1, e2]
    have g := fin w t 0 H1 locs1 ht hvm (by unfold zRok; rw [hkd]; trivial) hq hB hS1 (fun _ => by unfold zPush; rw [hkd]; exact fun v hv => zOk_mono hn2.1 (hrs v hv))
    have hzp0 : zPush y' 0 rest = rest := by (unfold zPush; rw [hkd]; rfl)
    rw [hzp0] at g
    rw [zmap_same hB.2.2.1 hB.2.2.2 hrs] at g
    exact g
  | succ j =>
    rw [hkd] at hr
    by_cases h2 : j = 1
    · subst h2
      refine va_calll hr s2 (fun q _ h => hAA q h) hAA (fun r w t H1 locs1 ht hvm hq hB hz hk hS1 => ?_)
      obtain ⟨z, rfl, hz1, hz2⟩ := hq
      rw [e1, e2]
      have g := fin w t z H1 locs1 ht hvm hz1 hz2 hB hS1 (fun hz1 => by unfold zPush; rw [hkd]; unfold zRok at hz1; rw [hkd] at hz1; exact zOk_cons (v := zl z) hz1 (fun v hv => zOk_mono hn2.1 (hrs v hv)))
      have hzp0 : zPush y' z rest = zl z :: rest := by (unfold zPush; rw [hkd]; rfl)
      rw [hzp0] at g
      rw [List.map_cons] at g
      rw [zmap_same hB.2.2.1 hB.2.2.2 hrs] at g
      exact g
    · have hj : ∀ {α : Type 1} (a b c : α), (match (j + 1 : Nat) with | 0 => a | 2 => b | _ => c) = c := by
        intro α a b c
        match j, h2 with
        | 0, _ => rfl
        | 1, h => exact absurd rfl h
        | j + 2, _ => rfl
      have hzp : ∀ z : Int, zPush y' z rest = zi z :: rest := by
        intro z
        unfold zPush
        rw [hkd]
        match j, h2 with
        | 0, _ => rfl
        | 1, h => exact absurd rfl h
        | j + 2, _ => rfl
      have hrk : ∀ z : Int, zRok y' z → zIn z := by
        intro z hz
        unfold zRok at hz
        rw [hkd] at hz
        match j, h2, hz with
        | 0, _, hz => exact hz
        | 1, h, _ => exact absurd rfl h
        | 2, _, hz => rcases hz with rfl | rfl <;> exact ⟨by decide, by decide⟩
        | j + 3, _, hz => exact hz
      have hr2 : va_Run p l e R s mi args below meth c H locs (n - n0) (zSl n - zSl n0) (n2 - n) (zSl n2 - zSl n) (F0 mi pc lsl st0) (rest.map (zc ad)) (va_Qi (fun r (w : zS3) => ∃ z, r = Int32.ofInt z ∧ zRok y' z ∧ Q' z w.2.1 w.2.2) (zB D n n2 u2 ad sc H.size) (zA ad n H.size) a) (zA ad n H.size) := by
        match j, h2, hr with
        | 0, _, hr => exact hr
        | 1, h, _ => exact absurd rfl h
        | j + 2, _, hr => exact hr
      refine va_calli hr2 s2 (fun q _ h => hAA q h) hAA (fun r w t H1 locs1 ht hvm hq hB hz hk hS1 => ?_)
      obtain ⟨z, rfl, hz1, hz2⟩ := hq
      rw [e1, e2]
      have g := fin w t z H1 locs1 ht hvm hz1 hz2 hB hS1 (fun hz1 => by rw [hzp]; exact zOk_cons (v := zi z) (hrk z hz1) (fun v hv => zOk_mono hn2.1 (hrs v hv)))
      rw [hzp] at g
      rw [List.map_cons] at g
      rw [zmap_same hB.2.2.1 hB.2.2.2 hrs] at g
      exact g
/-- what a call needs of the tables -/
def zCk (y y' np : Nat) : Prop := zNm y' = zNm y' ∧ (zNm y').cls ≠ "java/lang/invoke/MethodHandle" ∧ (zNm y').cls ≠ "java/lang/invoke/VarHandle" ∧ (parseMethodDescriptor (zNm y').desc).map (fun d => d.parameters.length) = some np ∧ zMl y' ≤ 40
theorem zRoomOf {dd d : Nat} {R : Room} {ml : Nat} (h : dd + 1 ≤ d) (h1 : d ≤ R.frames) (h2 : 64 * d ≤ R.locals) (h3 : ml ≤ 40) : dd + 1 ≤ R.frames ∧ 8 + (ml + 11) + 64 * dd ≤ R.locals := by omega
theorem zMap_size {lsl : Array Slot} {nL : Nat} {l : List (Nat × Value)} (h : lv_has lsl nL l) : lsl.size = nL := h.1
theorem wp_callV {dd idx y' b ci nf c np : Nat} {as rest : List zV} (hd : decode (zCb y) pc = .ok (.invokevirtual idx, 3)) (hk : zCk y y' np) (hb : b < n) (hn : n ≤ 403) (hs : zSh b = (0, ci, nf, c)) (hC : (zCl ci).1 = (zNm y').cls)
    (hw : ∀ w ∈ wsV (zOw y) idx (zNm y').cls (zNm y') (zWs y'), w ∈ zgood) (has : as.length = np) (hrm : (rest.map zcat).sum ≤ 8) (hdd : dd + 1 ≤ d) (hn2 : n ≤ n2 ∧ n2 ≤ n') (hn3 : n2 ≤ 403)
    (hc : WPc dd y' (zr b :: as) n u x m n2 u2 Q') (kk : ∀ r x' m', zRok y' r → Q' r x' m' → WP d y (pc + 3) ls (zPush y' r rest) n2 u2 x' m' n' u' Q) : WP d y pc ls (as.reverse ++ zr b :: rest) n u x m n' u' Q := by
  intro p l e R s mi args below meth cc QQ D A sc ro ad0 n0 E H locs ad lsl S
  obtain ⟨⟨hx, hb2, -, hml, hown, hts, -⟩, ⟨r1, r2, r3, r4⟩, hA, hro, -⟩ := id E
  obtain ⟨s1, s2, s3, s4, s5, ⟨s6, s6b, s6c⟩, s7, s8, s9⟩ := id S
  have hAA : ∀ q, zA ad n H.size q → A q := zA_in s1 (fun q hq => hA q (Nat.le_trans s2.1 hq))
  have hro2 : zRO s A ad sc := by
    unfold zRO at hro ⊢
    rw [s5 2000 (by omega), s5 2001 (by omega), s5 2002 (by omega), s5 2003 (by omega)]
    exact hro
  have hM := hc (fun v hv => by
    rcases List.mem_cons.mp hv with rfl | hv
    · exact Or.inl hb
    · exact s9 v (List.mem_append_left _ (List.mem_reverse.mpr hv))) hn2.1 hn3 l D ad H.size
  rw [s3] at hM
  have hT := zt_sh b (by omega) (by rw [hs])
  rw [hs] at hT
  have hci : ci < 13 := hT.1
  have hst : (as.reverse ++ zr b :: rest).map (zc ad) = (as.map (zc ad)).reverse ++ Value.ref (ad b) :: rest.map (zc ad) := by simp [zc]
  rw [hst]
  refine zafter (y' := y') (Q' := Q') (u2 := u2) E S (fun v hv => List.mem_append_right _ (List.mem_cons_of_mem _ hv)) hn2 (a := (Value.ref (ad b) :: as.map (zc ad)).toArray) ?_ kk
  obtain ⟨ca, tys, w1, w2, w3, w4, w5⟩ := id s1
  refine va_runV (As := as.map (zc ad)) (rest := rest.map (zc ad)) ⟨hx, hb2, hml, hown, hts⟩ hM (cwV np hts (zgood_all hw) rfl rfl rfl ⟨rfl, hk.2.1, hk.2.2.1, hk.2.2.2.1⟩ (zRoomOf hdd r1 r2 hk.2.2.2.2)) ⟨zPc_blind, ?_, fun U hU hW => ⟨rfl, by rw [hU], by rw [hU]; exact (s1.moved hW.alike).weaken (fun _ _ => trivial), hro2.go s2 hW hU hAA⟩⟩ rfl (by rw [List.length_map]; exact has) (zMap_size s7) rfl (lv_room (by rw [List.map_map]; exact Nat.le_trans (Nat.le_of_eq (congrArg List.sum (List.map_congr_left (fun v _ => zcat_eq ad v)))) hrm)) hd ?_
  · have := va_recv w1 w2 (ci := ci) (q0 := b) (zt_vw ci hci) (by rw [zws_get hb, zE_obj hs])
    rw [hC] at this
    exact this
  · have h1 := zSl_mono s6
    have h2 := zSl_mono hn2.1
    have h3 := zSl_mono hn2.2
    exact ⟨by omega, by omega⟩
theorem wp_callS {dd idx y' np : Nat} {as rest : List zV} (hd : decode (zCb y) pc = .ok (.invokestatic idx, 3)) (hk : zCk y y' np) (hn : n ≤ 403)
    (hw : ∀ w ∈ va_wsS (zOw y) idx (zNm y') (zWs y'), w ∈ zgood) (has : as.length = np) (hrm : (rest.map zcat).sum ≤ 8) (hdd : dd + 1 ≤ d) (hn2 : n ≤ n2 ∧ n2 ≤ n') (hn3 : n2 ≤ 403)
    (hc : WPc dd y' as n u x m n2 u2 Q') (kk : ∀ r x' m', zRok y' r → Q' r x' m' → WP d y (pc + 3) ls (zPush y' r rest) n2 u2 x' m' n' u' Q) : WP d y pc ls (as.reverse ++ rest) n u x m n' u' Q := by
  intro p l e R s mi args below meth cc QQ D A sc ro ad0 n0 E H locs ad lsl S
  obtain ⟨⟨hx, hb2, -, hml, hown, hts, -⟩, ⟨r1, r2, r3, r4⟩, hA, hro, -⟩ := id E
  obtain ⟨s1, s2, s3, s4, s5, ⟨s6, s6b, s6c⟩, s7, s8, s9⟩ := id S
  have hAA : ∀ q, zA ad n H.size q → A q := zA_in s1 (fun q hq => hA q (Nat.le_trans s2.1 hq))
  have hro2 : zRO s A ad sc := by
    unfold zRO at hro ⊢
    rw [s5 2000 (by omega), s5 2001 (by omega), s5 2002 (by omega), s5 2003 (by omega)]
    exact hro
  have hM := hc (fun v hv => s9 v (List.mem_append_left _ (List.mem_reverse.mpr hv))) hn2.1 hn3 l D ad H.size
  rw [s3] at hM
  have hst : (as.reverse ++ rest).map (zc ad) = (as.map (zc ad)).reverse ++ rest.map (zc ad) := by simp
  rw [hst]
  refine zafter (y' := y') (Q' := Q') (u2 := u2) E S (fun v hv => List.mem_append_right _ hv) hn2 (a := (as.map (zc ad)).toArray) ?_ kk
  refine va_runS (As := as.map (zc ad)) (rest := rest.map (zc ad)) ⟨hx, hb2, hml, hown, hts⟩ hM (va_cwS np hts (zgood_all hw) rfl rfl rfl ⟨hk.2.1, hk.2.2.1, hk.2.2.2.1⟩ (zRoomOf hdd r1 r2 hk.2.2.2.2)) ⟨zPc_blind, fun U hU hW => ⟨rfl, by rw [hU], by rw [hU]; exact (s1.moved hW.alike).weaken (fun _ _ => trivial), hro2.go s2 hW hU hAA⟩⟩ rfl (by rw [List.length_map]; exact has) (zMap_size s7) rfl (lv_room (by rw [List.map_map]; exact Nat.le_trans (Nat.le_of_eq (congrArg List.sum (List.map_congr_left (fun v _ => zcat_eq ad v)))) hrm)) hd ?_
  have h1 := zSl_mono s6
  have h2 := zSl_mono hn2.1
  have h3 := zSl_mono hn2.2
  exact ⟨by omega, by omega⟩
/-- the words of a constructor's call: its own class's, or a nest mate's -/
def zwI (y y' : Nat) : List Cond := Cond.instanceMethod (zNm y') :: Cond.initialized (zNm y').cls :: zWs y'
theorem wp_callI {nest : Bool} {dd idx y' b np : Nat} {as rest : List zV} (hd : decode (zCb y) pc = .ok (.invokespecial idx, 3)) (hk : zCk y y' np) (hb : b < n) (hn : n ≤ 403) (hi : (zNm y').name = "<init>") (hkd : zKd y' = 0)
    (hlk : if nest then (zOw y, idx, zNm y') ∈ zNM else Cond.methodLink (zOw y) idx (zNm y') ∈ zgood) (hw : ∀ w ∈ zwI y y', w ∈ zgood) (has : as.length = np) (hrm : (rest.map zcat).sum ≤ 8) (hdd : dd + 1 ≤ d) (hn2 : n ≤ n2 ∧ n2 ≤ n') (hn3 : n2 ≤ 403)
    (hc : WPc dd y' (zr b :: as) n u x m n2 u2 Q') (kk : ∀ r x' m', Q' r x' m' → WP d y (pc + 3) ls rest n2 u2 x' m' n' u' Q) : WP d y pc ls (as.reverse ++ zr b :: rest) n u x m n' u' Q := by
  intro p l e R s mi args below meth cc QQ D A sc ro ad0 n0 E H locs ad lsl S
  obtain ⟨⟨hx, hb2, -, hml, hown, hts, -⟩, ⟨r1, r2, r3, r4⟩, hA, hro, -⟩ := id E
  obtain ⟨s1, s2, s3, s4, s5, ⟨s6, s6b, s6c⟩, s7, s8, s9⟩ := id S
  have hAA : ∀ q, zA ad n H.size q → A q := zA_in s1 (fun q hq => hA q (Nat.le_trans s2.1 hq))
  have hro2 : zRO s A ad sc := by
    unfold zRO at hro ⊢
    rw [s5 2000 (by omega), s5 2001 (by omega), s5 2002 (by omega), s5 2003 (by omega)]
    exact hro
  have hM := hc (fun v hv => by
    rcases List.mem_cons.mp hv with rfl | hv
    · exact Or.inl hb
    · exact s9 v (List.mem_append_left _ (List.mem_reverse.mpr hv))) hn2.1 hn3 l D ad H.size
  rw [s3] at hM
  have hst : (as.reverse ++ zr b :: rest).map (zc ad) = (as.map (zc ad)).reverse ++ Value.ref (ad b) :: rest.map (zc ad) := by simp [zc]
  rw [hst]
  have hzp : ∀ r, zPush y' r rest = rest := fun r => by (unfold zPush; rw [hkd]; rfl)
  refine zafter (y' := y') (Q' := Q') (u2 := u2) E S (fun v hv => List.mem_append_right _ (List.mem_cons_of_mem _ hv)) hn2 (a := (Value.ref (ad b) :: as.map (zc ad)).toArray) ?_ (fun r x' m' _ hq => by rw [hzp]; exact kk r x' m' hq)
  have hret : zRt y' = none := by (unfold zRt; rw [hkd]; rfl)
  have hf : n - n0 + (n2 - n) ≤ R.cells ∧ zSl n - zSl n0 + (zSl n2 - zSl n) ≤ R.slots := by
    have h1 := zSl_mono s6
    have h2 := zSl_mono hn2.1
    have h3 := zSl_mono hn2.2
    exact ⟨by omega, by omega⟩
  have hwy : ∀ w ∈ zWs y', w ∈ zgood := fun w h => hw w (List.mem_cons_of_mem _ (List.mem_cons_of_mem _ h))
  have hini := hts _ (hw (Cond.initialized (zNm y').cls) (List.mem_cons_of_mem _ List.mem_cons_self))
  have hinst := hts _ (hw (Cond.instanceMethod (zNm y')) List.mem_cons_self)
  have hws : zWs y' = Cond.code (zNm y') (zCb y') (zMl y') none :: zgood := by unfold zWs; rw [hret]
  cases nest with
  | false =>
    have hl := hts _ (show Cond.methodLink (zOw y) idx (zNm y') ∈ zgood from hlk)
    exact va_runI (As := as.map (zc ad)) (rest := rest.map (zc ad)) ⟨hx, hb2, hml, hown, hts⟩ hM (cwI np hts (zgood_all hwy) hws rfl rfl hini hl hinst hi ⟨hk.2.1, hk.2.2.1, hk.2.2.2.1⟩ (zRoomOf hdd r1 r2 hk.2.2.2.2)) ⟨zPc_blind, fun U hU hW => ⟨rfl, by rw [hU], by rw [hU]; exact (s1.moved hW.alike).weaken (fun _ _ => trivial), hro2.go s2 hW hU hAA⟩⟩ rfl (by rw [List.length_map]; exact has) (zMap_size s7) rfl (lv_room (by rw [List.map_map]; exact Nat.le_trans (Nat.le_of_eq (congrArg List.sum (List.map_congr_left (fun v _ => zcat_eq ad v)))) hrm)) hd hf
  | true =>
    have hl : va_Nw (.methodLinkNest (zOw y) idx (zNm y') "CommonBond") s := hro.2.2.2.2.2.2.2.2.2.2.1 _ (show (zOw y, idx, zNm y') ∈ zNM from hlk)
    exact va_runIN (As := as.map (zc ad)) (rest := rest.map (zc ad)) ⟨hx, hb2, hml, hown, hts⟩ hM ⟨va_cnB np hts (zgood_all hwy) hws rfl rfl hl hini ⟨hk.2.1, hk.2.2.1, hk.2.2.2.1⟩ (zRoomOf hdd r1 r2 hk.2.2.2.2), hi, hinst⟩ ⟨zPc_blind, fun U hU hW => ⟨rfl, by rw [hU], by rw [hU]; exact (s1.moved hW.alike).weaken (fun _ _ => trivial), hro2.go s2 hW hU hAA⟩⟩ rfl (by rw [List.length_map]; exact has) (zMap_size s7) rfl (lv_room (by rw [List.map_map]; exact Nat.le_trans (Nat.le_of_eq (congrArg List.sum (List.map_congr_left (fun v _ => zcat_eq ad v)))) hrm)) hd hf
end ZD
