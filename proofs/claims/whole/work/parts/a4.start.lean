/-! THE CLAIM OUT OF ONE WALK OF THE LAW'S BODY. Your part is whole_start (and what it stands on); all else here is the same for every law, but numbers. -/
def R_law : String := "CommonBondLaw"
def lw_P (b : Addr) (xs : List Int32) (args : Array Value) (s : State) : Prop := args = #[.ref b] ∧ s.IntsAt b xs ∧ xs.length ≤ 2048 ∧ (Jvm.Cond.and given_1 narrow_1).before args s = true
def lw_Q (_ : Array Value) (s : State) (o : Outcome) (t : State) : Prop := o = .returned (some (.int 1)) ∧ Framed s o t [] 600000 7302250
def lw_Z (below : List Frame) (a : Array Value) (s : State) : State → Prop := fun t => ∃ o, t.status = .running ∧ Ended t below o ∧ lw_Q a s o t
/-- the law's own end, with 1 on the stack, nothing written that was there before, its room as the claim has it -/
theorem lw_ret {p : Program} {l : Launch} {e : Env} {s : State} {m : MethodId} {below : List Frame} {meth : Method} {c : Code} {b : Nat} (hx : p.tables.exec = Jvm.exec) (hb : c.code = code) (hr : meth.sig.returnType = ret) (hlocks : meth.locks = false) {pc : Nat} {H : Heap} {ls : Array Slot} (hdg : decode code pc = .ok (.ireturn, 1)) : W p l e room_1 s m #[Value.ref b] below meth c H [] 600000 7302250 (lw_Z below #[Value.ref b] s) (F0 m pc ls [.int 1]) := by
  intro T hT X
  obtain ⟨fs, hret, hrun, hended, hW, hframe⟩ := X.leave (v := some (.int 1)) (hlocks := hlocks) (fun h => by rw [hr] at h; cases h)
  have hmeth' : T.vm.method? m = some meth := X.method'
  refine ⟨T.setFrames fs, ?_, .returned (some (.int 1)), hrun, hended, rfl, ⟨_, rfl⟩, hW, hframe⟩
  jvm_step X.here [X.here.top, hx, hb, hdg, hmeth', hr, ret, narrow_b1]
  (try refine ⟨rfl, ?_⟩); (try refine ⟨rfl, ?_⟩)
  first | (intro acts; rw [hret _ acts rfl rfl rfl]) | rw [hret _ _ rfl rfl rfl]
  exact Steps.refl _
/-- what holds at the law's entry: the machine, the code, the tables' words (any of lw_tbl by 'hts w (by decide +kernel)'), the script of L ints xs at the cell b, what the Statement gives of the start (any of its parts by flat_of_before) -/
def lw_At (p : Program) (s : State) (m : MethodId) (meth : Method) (c : Code) (b L : Nat) (xs : Nat → Int32) : Prop :=
  p.tables.exec = Jvm.exec ∧ c.code = code ∧ meth.sig.returnType = ret ∧ c.maxLocals = 4 ∧ s.vm.findClass R_law = some m.cls ∧ (∀ w ∈ lw_tbl, w.before #[Value.ref b] s = true) ∧ va_X b L xs s s.heap ∧ b < s.heap.size ∧ meth.locks = false ∧ (Jvm.Cond.and given_1 narrow_1).before #[Value.ref b] s = true
-- THE START: what the Statement gives of it, as the walk wants it
theorem zg0_in : ∀ ci, ci < 13 → Cond.instantiable (zCl ci).1 (zCl ci).2.2 ∈ lw_tbl := by decide +kernel
theorem zg0_nm : ∀ q ∈ zNM, Cond.methodLinkNest q.1 q.2.1 q.2.2 "CommonBond" ∈ lw_tbl := by decide +kernel
theorem zg0_nf : ∀ q ∈ zNF, Cond.fieldLinkNest q.1 q.2.1 "CommonBond" q.2.2 "[I" "CommonBond" ∈ lw_tbl := by decide +kernel
theorem zg0_w1 : Cond.laysStatic "CommonBond" "UNDER" "[I" ∈ lw_tbl := by decide +kernel
theorem zg0_w2 : Cond.laysStatic "CommonBond" "OTHERWISE" "[I" ∈ lw_tbl := by decide +kernel
theorem zg0_w3 : Cond.initialized "CommonBond" ∈ lw_tbl := by decide +kernel
theorem zg0_w4 : Cond.laysStatic "java/lang/String" "COMPACT_STRINGS" "Z" ∈ lw_tbl := by decide +kernel
theorem zg0_w5 : Cond.initialized "java/lang/String" ∈ lw_tbl := by decide +kernel
theorem zg0_w6 : Cond.laysStatic "jdk/internal/util/Preconditions" "SIOOBE_FORMATTER" "Ljava/util/function/BiFunction;" ∈ lw_tbl := by decide +kernel
theorem zg0_w7 : Cond.initialized "jdk/internal/util/Preconditions" ∈ lw_tbl := by decide +kernel
theorem zg0_w8 : Cond.stringRef "CommonBond$Reader" 97 zText ∈ lw_tbl := by decide +kernel
theorem zg0_w9 : Cond.arrayOver (.array .int) ∈ lw_tbl := by decide +kernel
theorem zg0_wa : Cond.arrayOver (.array .long) ∈ lw_tbl := by decide +kernel
abbrev zg0_U : Term := .static "CommonBond" "UNDER" "[I"
abbrev zg0_O : Term := .static "CommonBond" "OTHERWISE" "[I"
abbrev zg0_S : Term := .string "CommonBond$Reader" 97
abbrev zg0_V : Term := .field zg0_S "java/lang/String" "value" "[B"
theorem zg0_u : ∀ j, j < 6 → Cond.eq (.elem zg0_U (.int (Int32.ofNat j))) (.int (zUn j)) ∈ flatC (Jvm.Cond.and given_1 narrow_1) := by decide +kernel
theorem zg0_o : ∀ j, j < 6 → Cond.eq (.elem zg0_O (.int (Int32.ofNat j))) (.int (zOt j)) ∈ flatC (Jvm.Cond.and given_1 narrow_1) := by decide +kernel
theorem zg0_b : ∀ j, j < 104 → Cond.eq (.elem zg0_V (.int (Int32.ofNat j))) (.int (zByt.getD j 0)) ∈ flatC (Jvm.Cond.and given_1 narrow_1) := by decide +kernel
def zg0_ro (b tu to ts : Nat) : Nat → Nat := fun k => if k = 2000 then b else if k = 2001 then tu else if k = 2002 then to else if k = 2003 then ts else 0
def zg0_sc (L : Nat) (xs : Nat → Int32) : Int → Int := fun i => if i = -1 then (L : Int) else if 0 ≤ i ∧ i < L then (xs i.toNat).toInt else 0
def zg0_m (sc : Int → Int) : zM := fun k => if k = 2000 then sc else fun _ => 0
theorem zg0_at {sc : Int → Int} : zg0_m sc 2000 = sc := if_pos rfl
theorem zg0_start {s : State} {b L : Nat} {xs : Nat → Int32} (hL : L ≤ 2048) (hts : ∀ w ∈ lw_tbl, w.before #[Value.ref b] s = true) (hX : va_X b L xs s s.heap) (hbl : b < s.heap.size) (hgv : (Jvm.Cond.and given_1 narrow_1).before #[Value.ref b] s = true) :
    ∃ tu to ts : Nat, zRO s (fun q : Nat => s.heap.size ≤ q) (zg0_ro b tu to ts) (zg0_sc L xs) := by
  have hs := flat_of_before _ hgv
  have hA : ∀ a : Nat, a < s.heap.size → ¬ (fun q : Nat => s.heap.size ≤ q) a := fun a h => Nat.not_le.mpr h
  obtain ⟨tu, htu, hTu⟩ := va_Tof (tm := zg0_U) (ty := .int) (N := 6) (f := fun i => .int (zUn i)) (by decide) (hs _ (by decide +kernel)) (va_eqt (hs (Cond.eq (.length zg0_U) (.int 6)) (by decide +kernel))) (fun j hj => va_eqt (hs _ (zg0_u j hj))) hA
  obtain ⟨to, hto, hTo⟩ := va_Tof (tm := zg0_O) (ty := .int) (N := 6) (f := fun i => .int (zOt i)) (by decide) (hs _ (by decide +kernel)) (va_eqt (hs (Cond.eq (.length zg0_O) (.int 6)) (by decide +kernel))) (fun j hj => va_eqt (hs _ (zg0_o j hj))) hA
  obtain ⟨adK, adV, hS, hev⟩ := vk_Sof (N := 1) (tm := fun _ => zg0_S) (len := [104]) (byt := [zByt]) (A := fun q : Nat => s.heap.size ≤ q) (args := #[Value.ref b]) (s := s) (fun i hi => by
      obtain rfl : i = 0 := by omega
      decide) (fun i hi => hs _ (by decide +kernel)) (fun i hi => hs _ (by decide +kernel)) (fun i hi => hs _ (by decide +kernel)) (fun i hi => by
      obtain rfl : i = 0 := by omega
      exact hs (Cond.eq (.length zg0_V) (.int 104)) (by decide +kernel)) (fun i hi j hj => by
      obtain rfl : i = 0 := by omega
      exact hs _ (zg0_b j hj)) (fun i j hi hj hne => absurd (show i = j by omega) hne) hA
  refine ⟨tu, to, adK 0, ?_⟩
  unfold zRO zRS
  rw [show zg0_ro b tu to (adK 0) 2000 = b from rfl, show zg0_ro b tu to (adK 0) 2001 = tu from rfl, show zg0_ro b tu to (adK 0) 2002 = to from rfl, show zg0_ro b tu to (adK 0) 2003 = adK 0 from rfl]
  refine ⟨⟨L, hL, rfl, ?_, hbl, hA b hbl⟩, fun i => ?_, ⟨va_Zof (hts _ zg0_w1) (hts _ zg0_w3) htu hA, hTu⟩, ⟨va_Zof (hts _ zg0_w2) (hts _ zg0_w3) hto hA, hTo⟩, ?_, ?_, vk_R.of (hts _ zg0_w8) (hev 0 (by decide)), ⟨adV 0, ?_⟩, va_Zof (hts _ zg0_w4) (hts _ zg0_w5) (va_eqt (hs _ (by decide +kernel))) hA, va_Zqof (hts _ zg0_w6) (hts _ zg0_w7) (hs _ (by decide +kernel)) hA, fun q hq => va_Nw.of rfl (hts _ (zg0_nm q hq)), fun q hq => va_Nw.of rfl (hts _ (zg0_nf q hq))⟩
  · obtain ⟨scr, h1, h2, h3, h4, h5⟩ := hX
    refine ⟨scr, h1, h2, h3, h4, fun j hj => ?_⟩
    rw [h5 j hj]
    have e : zg0_sc L xs (j : Int) = (xs j).toInt := by
      unfold zg0_sc
      rw [if_neg (by omega), if_pos ⟨by omega, by omega⟩]
      rfl
    show some (Value.int (xs j)) = some (Value.int (Int32.ofInt (zg0_sc L xs (j : Int))))
    rw [e, z32_of]
  · unfold zg0_sc
    split
    · unfold zIn; omega
    · split
      · exact z32_rng _
      · exact ⟨by decide, by decide⟩
  · show (Cond.arrayOver (.array .int)).before #[] s = true
    exact hts _ zg0_w9
  · show (Cond.arrayOver (.array .long)).before #[] s = true
    exact hts _ zg0_wa
  · exact ⟨fun i hi => by
      obtain rfl : i = 0 := by omega
      exact hS.1 0 (by decide), fun i j hi hj _ => by omega⟩
theorem zg0_K {s : State} {args : Array Value} (hts : ∀ w ∈ lw_tbl, w.before args s = true) : ∃ D : va_G, va_K D vwCl [] s := by
  have h : ∀ ci : Nat, ∃ q : ClassId × (Nat → Nat), ci < 13 → u_Kn s (zCl ci).1 (zCl ci).2.1 (zCl ci).2.2 q.1 q.2 := by
    intro ci
    by_cases hc : ci < 13
    · obtain ⟨cC, iS, hk⟩ := u_known (C := (zCl ci).1) (T := (zCl ci).2.1) (N := (zCl ci).2.2) (n := (zCl ci).2.2) hts (fun w hw => (List.mem_filter.mp (zt_in ci hc w hw)).1) (hts _ (zg0_in ci hc))
      exact ⟨(cC, iS), fun _ => hk⟩
    · exact ⟨(0, fun _ => 0), fun h => absurd h hc⟩
  obtain ⟨f, hf⟩ := Classical.axiomOfChoice h
  refine ⟨(fun c => (f c).1, fun c => (f c).2), fun c q hq => ?_, (fun k q hq => by cases hq)⟩
  have hc : c < 13 := (List.getElem?_eq_some_iff.mp hq).1
  rw [zt_vw c hc] at hq
  cases hq
  exact hf c hc
theorem whole_start {p : Program} {e : Env} {s : State} {m : MethodId} {below : List Frame} {meth : Method} {c : Code} (l : Launch) (hflags : l.flags = flags0) {b L : Nat} {xs : Nat → Int32} (hL : L ≤ 2048) (C0 : lw_At p s m meth c b L xs) : W p l e room_1 s m #[Value.ref b] below meth c s.heap [] 0 0 (lw_Z below #[Value.ref b] s) (entryFrame m ([Value.ref b] : List Value).toArray 4) := by
  obtain ⟨hx, hb, hr, hml, hown, hts, hX, hbl, hlocks, hgv⟩ := id C0
  obtain ⟨tu, to, ts, hro⟩ := zg0_start hL hts hX hbl hgv
  obtain ⟨D, hK⟩ := zg0_K hts
  have hsc := hro.2.1
  have hwp : WP 100 281 0 [(0, zr 2000)] [] 0 [] (fun _ _ => 0) (zg0_m (zg0_sc L xs)) 403 [] (fun r _ _ => r = 1) := by
    refine lr_start ⟨by decide, kc115_0 (by decide) (zzr_row _ _) (fun X hX => ⟨by decide, kc170_386 (by decide) (zzr_row _ _) (fun M hM => ?_)⟩)⟩
    have e : M 2000 = zg0_sc L xs := by rw [hM.2 2000 (Or.inr (by decide)), zzr_ne (Or.inr (by decide)), zg0_at]
    have e1 : M 2000 (-1) = (L : Int) := by rw [e]; rfl
    exact law_all (by decide) (fun _ _ => rfl) 512 0 0 X M (Inv_0 (fun k hk => hX.1 k (Nat.zero_le k) hk) (fun k h1 h2 => hM.1 k h1 h2)) (by omega) (by omega) (by omega) (by omega)
  have hl := lv_entry ([.ref b]) (n := 4) (Nat.le_of_ble_eq_true rfl)
  rw [lg_entry_eq]
  generalize (lg_sl ([.ref b]) ++ List.replicate (4 - (lg_sl ([.ref b])).length) Slot.unset).toArray = ls at hl ⊢
  have hl : lv_has ls 4 [(0, .ref b)] := hl
  refine hwp p l e room_1 s m #[Value.ref b] below meth c (lw_Z below #[Value.ref b] s) D (fun q : Nat => s.heap.size ≤ q) (zg0_sc L xs) (zg0_ro b tu to ts) (zg0_ro b tu to ts) 0 ⟨⟨hx, hb, hr, hml, hown, fun w hw => hts w (List.mem_filter.mp hw).1, hlocks, fun q => by cases q⟩, ⟨by decide, by decide, by decide, by decide +kernel⟩, fun q h => h, hro, ?_⟩ s.heap [] (zg0_ro b tu to ts) ls ⟨?_, va_S.rf, zg0_at, fun k h => by omega, fun k _ => rfl, ⟨Nat.le_refl _, by decide, by decide⟩, hl, ?_, ?_⟩
  · intro H locs ad x m1 lsl pc r hd hW hS h1 h2 h3 hrok hq
    subst hq
    have e9 : Int32.ofInt 1 = 1 := by decide
    show W p l e room_1 s m #[Value.ref b] below meth c H locs _ _ _ (F0 m pc lsl [.int (Int32.ofInt 1)])
    rw [e9]
    refine va_forget (fun q hq => hS.2.2 q hq) ?_
    refine W.widen (k := 600000) (n := 7302250) (by decide) (by decide +kernel) ?_
    exact lw_ret hx hb hr hlocks hd
  · refine ⟨fun _ => 0, [], hK, (fun k q h => by cases h), ⟨(fun i j p q h => by cases h), (fun k q h => by cases h)⟩, (fun k h => by omega), (fun k i => ?_), (fun k h => by omega)⟩
    have hz : zIn 0 ∧ zLn 0 := ⟨⟨by decide, by decide⟩, ⟨by decide, by decide⟩⟩
    have e0 : zrd (fun _ _ => 0) (zg0_m (zg0_sc L xs)) k i = 0 ∨ (k = 2000 ∧ zrd (fun _ _ => 0) (zg0_m (zg0_sc L xs)) k i = zg0_sc L xs i) := by
      unfold zrd
      cases hk : Nat.ble k 385 with
      | true => exact Or.inl rfl
      | false =>
        show zg0_m (zg0_sc L xs) k i = 0 ∨ (k = 2000 ∧ zg0_m (zg0_sc L xs) k i = _)
        unfold zg0_m
        by_cases c : k = 2000
        · rw [if_pos c]; exact Or.inr ⟨c, rfl⟩
        · rw [if_neg c]; exact Or.inl rfl
    rcases e0 with e0 | ⟨c, e0⟩
    · rw [e0]
      unfold zRg
      cases zLg k i
      · exact hz.1
      · exact hz.2
    · rw [e0]
      subst c
      exact hsc i
  · intro q hq
    rcases List.mem_singleton.mp hq with rfl
    exact Or.inr (Nat.le_refl _)
  · intro v hv
    cases hv
