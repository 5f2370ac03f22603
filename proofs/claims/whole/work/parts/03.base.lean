/-! THE ABSTRACT MACHINE: values, memories, the world that a memory stands for -/
abbrev zV : Type := Int ⊕ (Int ⊕ (Nat ⊕ (Nat × Int)))
abbrev zM : Type := Nat → Int → Int
abbrev zi (a : Int) : zV := .inl a
abbrev zl (a : Int) : zV := .inr (.inl a)
abbrev zr (k : Nat) : zV := .inr (.inr (.inl k))
abbrev zw (k : Nat) (i : Int) : zV := .inr (.inr (.inr (k, i)))
def zIn (a : Int) : Prop := -2147483648 ≤ a ∧ a < 2147483648
def zLn (a : Int) : Prop := -9223372036854775808 ≤ a ∧ a < 9223372036854775808
def w32 (a : Int) : Int := (a + 2147483648) % 4294967296 - 2147483648
def w64 (a : Int) : Int := (a + 9223372036854775808) % 18446744073709551616 - 9223372036854775808
def zupd (x : zM) (k : Nat) (i v : Int) : zM := fun k' i' => if k' = k ∧ i' = i then v else x k' i'
/-- n places from lo on become v -/
def zfil (x : zM) (k : Nat) (lo n v : Int) : zM := fun k' i' => if k' = k ∧ lo ≤ i' ∧ i' < lo + n then v else x k' i'
def zcpy (x : zM) (ks : Nat) (sp : Int) (kd : Nat) (dp n : Int) : zM := fun k' i' => if k' = kd ∧ dp ≤ i' ∧ i' < dp + n then x ks (sp + (i' - dp)) else x k' i'
def zrd (x m : zM) (k : Nat) : Int → Int := bif Nat.ble k 385 then x k else m k
def zc (ad : Nat → Nat) : zV → Value
  | .inl a => .int (Int32.ofInt a)
  | .inr (.inl a) => .long (Int64.ofInt a)
  | .inr (.inr (.inl k)) => .ref (ad k)
  | .inr (.inr (.inr (o, i))) => .ref (ad ((zSh o).2.1 + i.toNat))
/-- a value that may lie there: in its range; a place that stands -/
def zOk (n : Nat) : zV → Prop
  | .inl a => zIn a
  | .inr (.inl a) => zLn a
  | .inr (.inr (.inl k)) => k < n ∨ 2000 ≤ k
  | .inr (.inr (.inr (o, i))) => 0 ≤ i ∧ i < ((zSh o).2.2.1 : Int) ∧ (zSh o).2.1 + i.toNat < n
def zcat : zV → Nat
  | .inl _ => 1
  | .inr (.inl _) => 2
  | .inr (.inr _) => 1
theorem zcat_eq (ad : Nat → Nat) (v : zV) : (zc ad v).category = zcat v := by
  rcases v with a | a | a | ⟨o, i⟩ <;> rfl
def zFv (ad : Nat → Nat) (u : List (Nat × Nat)) (μ : zM) (k j : Nat) : Value :=
  match (zTy (zSh k).2.1).getD j 0 with
  | 1 => .long (Int64.ofInt (μ k j))
  | 2 => if (k, j) ∈ u then .null else .ref (ad ((zRf k).getD j 0))
  | _ => .int (Int32.ofInt (μ k j))
def zE (ca : Nat → ClassId) (ad : Nat → Nat) (u : List (Nat × Nat)) (μ : zM) (k : Nat) : va_E :=
  match zSh k with
  | (0, ci, nf, _) => .inr (ci, (List.range nf).map (zFv ad u μ k))
  | (1, n, _, _) => .inl (ca k, n, .inl (fun i => Int32.ofInt (μ k i)))
  | (2, n, _, _) => .inl (ca k, n, .inr (.inl (fun i => Int64.ofInt (μ k i))))
  | (5, o, i, w) => .inl (ca k, w, .inl (fun j => Int32.ofInt (μ o ((i : Int) * w + j))))
  | (6, o, i, w) => .inl (ca k, w, .inr (.inl (fun j => Int64.ofInt (μ o ((i : Int) * w + j)))))
  | (_, b, n, _) => .inl (ca k, n, .inr (.inr (.inr (.inr (fun i => if i < n then some (ad (b + i)) else none)))))
/-- the type of an array place's components -/
def zEt (k : Nat) : FieldType :=
  match (zSh k).1 with
  | 2 => .long
  | 6 => .long
  | 3 => .array .int
  | 4 => .array .long
  | _ => .int
def zws (ca : Nat → ClassId) (ad : Nat → Nat) (n : Nat) (u : List (Nat × Nat)) (μ : zM) : va_W := (List.range n).map (fun k => (ad k, zE ca ad u μ k))
/-- does the memory hold longs at a place -/
def zLg (k : Nat) (i : Int) : Bool :=
  match (zSh k).1 with
  | 0 => Nat.beq ((zTy (zSh k).2.1).getD i.toNat 0) 1
  | 2 => true
  | 4 => true
  | _ => false
def zRg (k : Nat) (i v : Int) : Prop := bif zLg k i then zLn v else zIn v
/-- what a reference that is set leads to stands -/
def zCls (n : Nat) (u : List (Nat × Nat)) : Prop := ∀ k, k < n → ((zSh k).1 = 0 → ∀ j, (zTy (zSh k).2.1).getD j 0 = 2 → (k, j) ∉ u → (zRf k).getD j 0 < n) ∧ ((zSh k).1 = 3 ∨ (zSh k).1 = 4 → (zSh k).2.1 + (zSh k).2.2.1 ≤ n)
def zW (s : State) (A : Nat → Prop) (D : va_G) (n : Nat) (u : List (Nat × Nat)) (ad : Nat → Nat) (x m : zM) (H : Heap) : Prop :=
  ∃ (ca : Nat → ClassId) (tys : List (ClassId × FieldType)), va_K D vwCl tys s ∧ va_P D vwCl (zws ca ad n u (zrd x m)) H ∧ va_D A (zws ca ad n u (zrd x m)) ∧
    (∀ k, k < n → (zSh k).1 ≠ 0 → ∃ t0 : Nat, tys[t0]? = some (ca k, zEt k)) ∧ (∀ k i, zRg k i (zrd x m k i)) ∧ zCls n u
theorem zws_get {ca : Nat → ClassId} {ad : Nat → Nat} {n : Nat} {u : List (Nat × Nat)} {μ : zM} {k : Nat} (h : k < n) : (zws ca ad n u μ)[k]? = some (ad k, zE ca ad u μ k) := by
  simp [zws, h]
theorem zws_len {ca : Nat → ClassId} {ad : Nat → Nat} {n : Nat} {u : List (Nat × Nat)} {μ : zM} : (zws ca ad n u μ).length = n := by simp [zws]
theorem zws_get_inv {ca : Nat → ClassId} {ad : Nat → Nat} {n : Nat} {u : List (Nat × Nat)} {μ : zM} {k : Nat} {q : Nat × va_E} (h : (zws ca ad n u μ)[k]? = some q) : k < n ∧ q = (ad k, zE ca ad u μ k) := by
  have h1 : k < n := by
    have := (List.getElem?_eq_some_iff.mp h).1
    rwa [zws_len] at this
  rw [zws_get h1] at h
  exact ⟨h1, (Option.some.inj h).symm⟩
/-- one cell's picture serves for another -/
def zEq (e e' : va_E) : Prop := ∀ (D : va_G) (cl : List vw_C) (a : Nat) (H : Heap), va_at D cl (a, e) H → va_at D cl (a, e') H
theorem zEq.rf (e : va_E) : zEq e e := fun _ _ _ _ h => h
theorem zEq.of {e e' : va_E} (h : e = e') : zEq e e' := h ▸ zEq.rf e
theorem arrV_ext {c : ClassId} {n : Nat} {f g : Nat → Value} (h : ∀ j, j < n → f j = g j) : arrV c n f = arrV c n g := by
  have e : (fun j : Fin n => f j) = (fun j : Fin n => g j) := funext fun j => h j j.2
  unfold arrV
  rw [e]
theorem zEq.ints {c : ClassId} {n : Nat} {f g : Nat → Int32} (h : ∀ j, j < n → f j = g j) : zEq (.inl (c, n, .inl f)) (.inl (c, n, .inl g)) := by
  intro D cl a H ha
  show H[a]? = some (vp_cell c (n, .inl g))
  rw [vp_cell_i, ← arrV_ext (f := fun j => .int (f j)) (fun j hj => by show Value.int _ = Value.int _; rw [h j hj]), ← vp_cell_i]
  exact ha
theorem zEq.longs {c : ClassId} {n : Nat} {f g : Nat → Int64} (h : ∀ j, j < n → f j = g j) : zEq (.inl (c, n, .inr (.inl f))) (.inl (c, n, .inr (.inl g))) := by
  intro D cl a H ha
  show H[a]? = some (vp_cell c (n, .inr (.inl g)))
  rw [vp_cell_l, ← arrV_ext (f := fun j => .long (f j)) (fun j hj => by show Value.long _ = Value.long _; rw [h j hj]), ← vp_cell_l]
  exact ha
theorem zEq.obj {ci : Nat} {fs gs : List Value} (h : ∀ j, vp_V fs j = vp_V gs j) : zEq (.inr (ci, fs)) (.inr (ci, gs)) := by
  intro D cl a H ha
  obtain ⟨r, h1, h2⟩ := ha
  refine ⟨r, h1, ?_⟩
  have e : vp_V fs = vp_V gs := funext h
  rwa [← e]
theorem zP_ext {D : va_G} {cl : List vw_C} {ca ca' : Nat → ClassId} {ad ad' : Nat → Nat} {n : Nat} {u u' : List (Nat × Nat)} {μ μ' : zM} {ws : va_W} {H : Heap} (hP : va_P D cl ws H) (hw : ∀ k, k < n → ∃ e, ws[k]? = some (ad' k, e) ∧ zEq e (zE ca' ad' u' μ' k)) : va_P D cl (zws ca' ad' n u' μ') H := by
  intro k q hq
  obtain ⟨hk, rfl⟩ := zws_get_inv hq
  obtain ⟨e, h1, h2⟩ := hw k hk
  exact h2 D cl _ H (hP k _ h1)
theorem zD_ext {A : Nat → Prop} {ca ca' : Nat → ClassId} {ad : Nat → Nat} {n : Nat} {u u' : List (Nat × Nat)} {μ μ' : zM} (hD : va_D A (zws ca ad n u μ)) : va_D A (zws ca' ad n u' μ') := by
  refine ⟨fun i j p q hp hq hpq => ?_, fun k q hq => ?_⟩
  · obtain ⟨hi, rfl⟩ := zws_get_inv hp
    obtain ⟨hj, rfl⟩ := zws_get_inv hq
    exact hD.1 i j _ _ (zws_get hi) (zws_get hj) hpq
  · obtain ⟨hk, rfl⟩ := zws_get_inv hq
    exact hD.2 k (ad k, zE ca ad u μ k) (zws_get hk)
/-- one place written -/
theorem zP_set {D : va_G} {cl : List vw_C} {ca : Nat → ClassId} {ad : Nat → Nat} {n : Nat} {u u' : List (Nat × Nat)} {μ μ' : zM} {q0 : Nat} {e : va_E} {H : Heap} (h0 : q0 < n) (hP : va_P D cl ((zws ca ad n u μ).set q0 (ad q0, e)) H) (he : zEq e (zE ca ad u' μ' q0)) (ho : ∀ k, k < n → k ≠ q0 → zEq (zE ca ad u μ k) (zE ca ad u' μ' k)) : va_P D cl (zws ca ad n u' μ') H := by
  refine zP_ext (ca := ca) (ad := ad) (u := u) (μ := μ) hP (fun k hk => ?_)
  by_cases hq : k = q0
  · subst hq
    exact ⟨e, by rw [List.getElem?_set_self (by rw [zws_len]; exact h0)], he⟩
  · exact ⟨_, by rw [List.getElem?_set_ne (Ne.symm hq)]; exact zws_get hk, ho k hk hq⟩

/-! the walk's context -/
def zgood : List Cond := lw_tbl.filter goodWord
def zRi (y : Nat) : ClassFile.Instr := match zKd y with
  | 0 => .return_
  | 2 => .lreturn
  | _ => .ireturn
def zRs (y : Nat) (r : Int) : List Value := match zKd y with
  | 0 => []
  | 2 => [.long (Int64.ofInt r)]
  | _ => [.int (Int32.ofInt r)]
def zRok (y : Nat) (r : Int) : Prop := match zKd y with
  | 0 => r = 0
  | 2 => zLn r
  | 3 => r = 0 ∨ r = 1
  | _ => zIn r
def zRt (y : Nat) : Option FieldType := match zKd y with
  | 0 => none
  | 2 => some .long
  | 3 => some .boolean
  | _ => some .int
def zLen (k : Nat) : Nat := match zSh k with
  | (0, _, n, _) => n
  | (1, n, _, _) => n
  | (2, n, _, _) => n
  | (3, _, n, _) => n
  | (4, _, n, _) => n
  | (5, _, _, w) => w
  | (6, _, _, w) => w
  | _ => 0
/-- the slots of the first n places -/
def zSl : Nat → Nat
  | 0 => 0
  | n + 1 => zSl n + zLen n
def zCtx (y : Nat) (p : Program) (s : State) (mi : MethodId) (args : Array Value) (meth : Method) (c : Code) : Prop :=
  p.tables.exec = Jvm.exec ∧ c.code = zCb y ∧ meth.sig.returnType = zRt y ∧ c.maxLocals = zMl y ∧ s.vm.findClass (zOw y) = some mi.cls ∧ (∀ w ∈ zgood, w.before args s = true) ∧ meth.locks = false ∧ (zIs y = true → meth.name = "<init>")
def zUn (j : Nat) : Int32 := match j with
  | 0 => -1
  | 1 => 0
  | 2 => 0
  | 3 => 0
  | 4 => 3
  | _ => 2
def zOt (j : Nat) : Int32 := match j with
  | 0 => 1
  | 1 => 5000
  | 2 => 10
  | 3 => 20
  | 4 => 50
  | _ => 0
def va_AOA (t : FieldType) (U : State) : Prop := (Cond.arrayOver (.array t)).before #[] U = true
theorem va_AOA.use {t : FieldType} {A : Array Value} {U : State} (h : va_AOA t U) : (Cond.arrayOver (.array t)).before A U = true := h
theorem va_AOA.moved {t : FieldType} {u U : State} (hvm : u.vm.Alike U.vm) (h : va_AOA t u) : va_AOA t U := arrayOver_alikeB hvm h
def zText : String := "bond limit rate reserve div dormant work street saved owed joined late kind sum week cash if or and not "
def zByt : List Int32 := [98, 111, 110, 100, 32, 108, 105, 109, 105, 116, 32, 114, 97, 116, 101, 32, 114, 101, 115, 101, 114, 118, 101, 32, 100, 105, 118, 32, 100, 111, 114, 109, 97, 110, 116, 32, 119, 111, 114, 107, 32, 115, 116, 114, 101, 101, 116, 32, 115, 97, 118, 101, 100, 32, 111, 119, 101, 100, 32, 106, 111, 105, 110, 101, 100, 32, 108, 97, 116, 101, 32, 107, 105, 110, 100, 32, 115, 117, 109, 32, 119, 101, 101, 107, 32, 99, 97, 115, 104, 32, 105, 102, 32, 111, 114, 32, 97, 110, 100, 32, 110, 111, 116, 32]
/-- what nobody writes: the script, two static arrays, one String -/
def zRS (s : State) (A : Nat → Prop) (a : Nat) : Prop := va_AOA .int s ∧ va_AOA .long s ∧ vk_R "CommonBond$Reader" 97 zText a s ∧ (∃ av : Nat, vk_S 1 [104] [zByt] (fun _ => a) (fun _ => av) A s s.heap) ∧
  va_Z "java/lang/String" "COMPACT_STRINGS" "Z" (.int 1) A s s.heap ∧ va_Zq "jdk/internal/util/Preconditions" "SIOOBE_FORMATTER" "Ljava/util/function/BiFunction;" A s s.heap ∧
  (∀ q ∈ zNM, va_Nw (.methodLinkNest q.1 q.2.1 q.2.2 "CommonBond") s) ∧ ∀ q ∈ zNF, va_Nw (.fieldLinkNest q.1 q.2.1 "CommonBond" q.2.2 "[I" "CommonBond") s
def zRO (s : State) (A : Nat → Prop) (ro : Nat → Nat) (sc : Int → Int) : Prop :=
  (∃ L : Nat, L ≤ 2048 ∧ sc (-1) = L ∧ va_X (ro 2000) L (fun i => Int32.ofInt (sc i)) s s.heap ∧ ro 2000 < s.heap.size ∧ ¬ A (ro 2000)) ∧ (∀ i, zIn (sc i)) ∧
  (va_Z "CommonBond" "UNDER" "[I" (.ref (ro 2001)) A s s.heap ∧ va_T .int (ro 2001) 6 (fun i => .int (zUn i)) A s s.heap) ∧
  (va_Z "CommonBond" "OTHERWISE" "[I" (.ref (ro 2002)) A s s.heap ∧ va_T .int (ro 2002) 6 (fun i => .int (zOt i)) A s s.heap) ∧ zRS s A (ro 2003)
def zEnv (d y n' : Nat) (u' : List (Nat × Nat)) (Q : Int → zM → zM → Prop) (p : Program) (l : Launch) (e : Env) (R : Room) (s : State) (mi : MethodId) (args : Array Value) (below : List Frame) (meth : Method) (c : Code) (QQ : State → Prop) (D : va_G) (A : Nat → Prop) (sc : Int → Int) (ro ad0 : Nat → Nat) (n0 : Nat) : Prop :=
  zCtx y p s mi args meth c ∧ (d ≤ R.frames ∧ 64 * d ≤ R.locals ∧ n' - n0 ≤ R.cells ∧ zSl n' - zSl n0 ≤ R.slots) ∧ (∀ q, s.heap.size ≤ q → A q) ∧ zRO s A ro sc ∧
  (∀ (H : Heap) (locs : List Loc) (ad : Nat → Nat) (x m : zM) (lsl : Array Slot) (pc : Nat) (r : Int), decode (zCb y) pc = .ok (zRi y, 1) → zW s A D n' u' ad x m H → va_S A s.heap H locs → m 2000 = sc → (∀ k, k < n0 → ad k = ad0 k) → (∀ k, 2000 ≤ k → ad k = ro k) → zRok y r → Q r x m →
    W p l e R s mi args below meth c H locs (n' - n0) (zSl n' - zSl n0) QQ (F0 mi pc lsl (zRs y r)))
def zSt (y n' : Nat) (s : State) (A : Nat → Prop) (D : va_G) (sc : Int → Int) (ro ad0 : Nat → Nat) (n0 n : Nat) (u : List (Nat × Nat)) (ad : Nat → Nat) (x m : zM) (H : Heap) (locs : List Loc) (ls : List (Nat × zV)) (st : List zV) (lsl : Array Slot) : Prop :=
  zW s A D n u ad x m H ∧ va_S A s.heap H locs ∧ m 2000 = sc ∧ (∀ k, k < n0 → ad k = ad0 k) ∧ (∀ k, 2000 ≤ k → ad k = ro k) ∧ (n0 ≤ n ∧ n ≤ n' ∧ n' ≤ 403) ∧
  lv_has lsl (zMl y) (ls.map fun q => (q.1, zc ad q.2)) ∧ (∀ q ∈ ls, zOk n q.2) ∧ ∀ v ∈ st, zOk n v
/-- from here the method ends, and its answer and the memories behind it have Q -/
def WP (d y pc : Nat) (ls : List (Nat × zV)) (st : List zV) (n : Nat) (u : List (Nat × Nat)) (x m : zM) (n' : Nat) (u' : List (Nat × Nat)) (Q : Int → zM → zM → Prop) : Prop :=
  ∀ (p : Program) (l : Launch) (e : Env) (R : Room) (s : State) (mi : MethodId) (args : Array Value) (below : List Frame) (meth : Method) (c : Code) (QQ : State → Prop) (D : va_G) (A : Nat → Prop) (sc : Int → Int) (ro ad0 : Nat → Nat) (n0 : Nat),
    zEnv d y n' u' Q p l e R s mi args below meth c QQ D A sc ro ad0 n0 → ∀ (H : Heap) (locs : List Loc) (ad : Nat → Nat) (lsl : Array Slot),
      zSt y n' s A D sc ro ad0 n0 n u ad x m H locs ls st lsl → W p l e R s mi args below meth c H locs (n - n0) (zSl n - zSl n0) QQ (F0 mi pc lsl (st.map (zc ad)))
def zA (ad : Nat → Nat) (n sz : Nat) : Nat → Prop := fun q => (∃ k, k < n ∧ q = ad k) ∨ sz ≤ q
abbrev zS3 : Type := (Nat → Nat) × zM × zM
def zB (D : va_G) (n n' : Nat) (u' : List (Nat × Nat)) (ad : Nat → Nat) (sc : Int → Int) (sz : Nat) : zS3 → State → Prop := fun w t =>
  zW t (zA ad n sz) D n' u' w.1 w.2.1 w.2.2 t.heap ∧ w.2.2 2000 = sc ∧ (∀ k, k < n → w.1 k = ad k) ∧ ∀ k, 2000 ≤ k → w.1 k = ad k
def zQc (y n n' : Nat) (u' : List (Nat × Nat)) (Q : Int → zM → zM → Prop) (D : va_G) (ad : Nat → Nat) (sc : Int → Int) (sz : Nat) : Array Value → State → Outcome → State → Prop :=
  match zKd y with
  | 0 => va_Qv (fun w : zS3 => Q 0 w.2.1 w.2.2) (zB D n n' u' ad sc sz) (zA ad n sz)
  | 2 => va_Ql (fun r (w : zS3) => ∃ z, r = Int64.ofInt z ∧ zRok y z ∧ Q z w.2.1 w.2.2) (zB D n n' u' ad sc sz) (zA ad n sz)
  | _ => va_Qi (fun r (w : zS3) => ∃ z, r = Int32.ofInt z ∧ zRok y z ∧ Q z w.2.1 w.2.2) (zB D n n' u' ad sc sz) (zA ad n sz)
def zPc (as : List zV) (n : Nat) (u : List (Nat × Nat)) (x m : zM) (D : va_G) (ad : Nat → Nat) (sc : Int → Int) (sz : Nat) : Array Value → State → Prop :=
  va_Pc (as.map (zc ad)) (fun U => U.heap.size = sz ∧ zW U (fun _ => True) D n u ad x m U.heap ∧ zRO U (zA ad n sz) ad sc)
def zWs (y : Nat) : List Cond := .code (zNm y) (zCb y) (zMl y) (zRt y) :: zgood
/-- a call: the method ends, and .. -/
def WPc (d y : Nat) (as : List zV) (n : Nat) (u : List (Nat × Nat)) (x m : zM) (n' : Nat) (u' : List (Nat × Nat)) (Q : Int → zM → zM → Prop) : Prop :=
  (∀ v ∈ as, zOk n v) → n ≤ n' → n' ≤ 403 → ∀ (l : Launch) (D : va_G) (ad : Nat → Nat) (sz : Nat), 
    Met l (zNm y) (zWs y) { frames := d, cells := n' - n, slots := zSl n' - zSl n, locals := 64 * d } (zPc as n u x m D ad (m 2000) sz) (zQc y n n' u' Q D ad (m 2000) sz) (n' - n) (zSl n' - zSl n) (zA ad n sz)
