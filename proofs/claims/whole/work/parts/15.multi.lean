/-! ===== BEGIN new T[n][m]: the outer array a place, the inner ones among the pooled ===== -/
/-- f, but v at every address of l -/
def vr_up {α : Type} (f : Nat → α) (l : List Nat) (v : α) : Nat → α := fun a => if a ∈ l then v else f a
theorem vr_up_in {α : Type} {f : Nat → α} {l : List Nat} {v : α} {a : Nat} (h : a ∈ l) : vr_up f l v a = v := if_pos h
theorem vr_up_ne {α : Type} {f : Nat → α} {l : List Nat} {v : α} {a : Nat} (h : a ∉ l) : vr_up f l v a = f a := if_neg h
theorem vr_rows {L l : List Nat} {f : Nat → va_E} {e : va_E} (h : ∀ a, a ∈ l → a ∉ L) : va_pl L f ++ l.map (fun a => (a, e)) = va_pl (L ++ l) (vr_up f l e) := by
  unfold va_pl
  rw [List.map_append]
  congr 1
  · apply List.map_congr_left
    intro a ha
    rw [vr_up_ne (fun q => h a q ha)]
  · apply List.map_congr_left
    intro a ha
    rw [vr_up_in ha]
theorem vr_lay {X rows : va_W} {x : Nat × va_E} {pl : va_W} {D : va_G} {cl : List vw_C} {H : Heap} (hP : va_P D cl (((X ++ pl) ++ [x]) ++ rows) H) : va_P D cl ((X ++ [x]) ++ (pl ++ rows)) H := by
  rw [List.append_assoc (X ++ pl)] at hP
  have h := va_P.swap hP
  rw [← List.append_assoc X] at h
  have h2 := va_P.swap h
  rw [List.append_assoc (X ++ [x])] at h2
  exact h2
theorem vr_layD {X rows : va_W} {x : Nat × va_E} {pl : va_W} {A : Nat → Prop} (hD : va_D A (((X ++ pl) ++ [x]) ++ rows)) : va_D A ((X ++ [x]) ++ (pl ++ rows)) := by
  rw [List.append_assoc (X ++ pl)] at hD
  have h := va_D.swap hD
  rw [← List.append_assoc X] at h
  have h2 := va_D.swap h
  rw [List.append_assoc (X ++ [x])] at h2
  exact h2
theorem vr_outer (c : ClassId) (N h0 : Nat) : ∀ i : Nat, Jvm.Free.Multi.outerC c N h0 i = arrV c N (fun j => va_rf (if j < i then some (h0 + 1 + j) else none))
  | 0 => by
    show ({ cls := c, slots := Array.replicate N .null, vm := .none } : Cell) = _
    rw [arrV_new]
    refine congrArg (arrV c N) (funext fun j => ?_)
    simp [va_rf]
  | i + 1 => by
    show (Jvm.Free.Multi.outerC c N h0 i).setSlot i (.ref (h0 + 1 + i)) = _
    rw [vr_outer c N h0 i, arrV_store]
    refine congrArg (arrV c N) (funext fun j => ?_)
    by_cases e : j = i
    · subst e
      simp [updV, va_rf]
    · by_cases h : j < i
      · simp [updV, e, h, Nat.lt_succ_of_lt h]
      · simp [updV, e, h, show ¬ j < i + 1 by omega]
section VGM
variable {p : Program} {l : Launch} {e : Env} {R : Room} {s : State} {m : MethodId} {args : Array Value} {below : List Frame} {meth : Method} {c : Code} {H : Heap} {locs : List Loc} {cells slots : Nat} {Q : State → Prop}
variable {cc : ByteArray} {pc : Nat} {ls : Array Slot} {rest : List Value} {D : va_G} {cl : List vw_C} {A : Nat → Prop} {a : Nat} {tys : List (ClassId × FieldType)} {ws : va_W} {H0 : Heap}
theorem va_mna {X : va_W} {L : List Nat} {f : Nat → va_E} {cc : ByteArray} (hexec : p.tables.exec = Jvm.exec) (hb : c.code = cc) {own : String} {index : Nat} {ty : FieldType} {cy : ClassId} (hown : s.vm.findClass own = some m.cls) (hclink : (Cond.classLink own index ("[" ++ (FieldType.array ty).toString)).before args s = true) (hover : (Cond.arrayOver (.array ty)).before args s = true) (harr : (Cond.arrayClass ty).before args s = true) (hcy : s.vm.findClass (FieldType.array ty).toString = some cy)
    (hK : va_K D cl tys s) (hP : va_P D cl (X ++ va_pl L f) H) (hD : va_D A (X ++ va_pl L f)) (hS : va_S A H0 H locs) (hA : ∀ q, H0.size ≤ q → A q) {n k : Int32} {N' K' : Nat} {z : vp_A} (hn : ¬ n < 0) (hk : ¬ k < 0) (hN : n.toNatClampNeg = N') (hM : k.toNatClampNeg = K')
    (hb1 : N' * 4 ≤ 536870912) (hb2 : K' * componentBytes ty ≤ 536870912) (hb3 : K' ≤ 536870912) (hdf : fits ty (defaultValue ty) = true) (hdd : (defaultValue ty).isDefault = true) (hcells : cells + (1 + N') ≤ R.cells) (hslots : slots + (N' + N' * K') ≤ R.slots) (hz : ∀ c : ClassId, Jvm.Free.Multi.innerC c K' (defaultValue ty) = vp_cell c z) (hdg : decode cc pc = .ok (.multianewarray index 2, 4))
    (kk : ∀ (q : Nat) (r : Nat → Nat) (cA : ClassId) (H1 : Heap), (∀ i j : Nat, i < N' → j < N' → r i = r j → i = j) → (∀ i : Nat, i < N' → r i ∉ L) → va_K D cl (tys ++ [(cA, .array ty)]) s →
      va_P D cl ((X ++ [(q, .inl (cA, N', .inr (.inr (.inr (.inr (fun i => if i < N' then some (r i) else none))))))]) ++ va_pl (L ++ (List.range N').map r) (vr_up f ((List.range N').map r) (.inl (cy, z)))) H1 → va_D A ((X ++ [(q, .inl (cA, N', .inr (.inr (.inr (.inr (fun i => if i < N' then some (r i) else none))))))]) ++ va_pl (L ++ (List.range N').map r) (vr_up f ((List.range N').map r) (.inl (cy, z)))) → va_S A H0 H1 locs →
      W p l e R s m args below meth c H1 locs (cells + 1 + N') (slots + N' + N' * K') Q (F0 m (pc + 4) ls (.ref q :: rest))) : W p l e R s m args below meth c H locs cells slots Q (F0 m pc ls (.int k :: .int n :: rest)) := by
  subst hN
  subst hM
  intro T hT Xs
  obtain ⟨vm₁, cA, comp, -, fA, fC, hO, -, X', step⟩ := Xs.multianewarray2F hexec hown hclink hover harr (g := F0 m pc ls (.int k :: .int n :: rest)) rfl (by rw [hb]; exact hdg) rfl hn hk hb1 hb2 hb3 hdf hdd hcells hslots
  have ec : some cy = some comp := hcy.symm.trans fC
  cases ec
  generalize hF : Jvm.Free.Multi.fill (T.setVm vm₁) cA cy n.toNatClampNeg k.toNatClampNeg (defaultValue ty) n.toNatClampNeg = F at X' step
  have hTh : (T.setVm vm₁).heap = H := hT
  obtain ⟨f1, f2, -, -⟩ := Jvm.Free.Multi.fill_facts (T.setVm vm₁) cA cy n.toNatClampNeg k.toNatClampNeg (defaultValue ty) n.toNatClampNeg
  rw [hF, hTh] at f1 f2
  have hold : ∀ x : Nat, x < H.size → F.heap[x]? = H[x]? := fun x hx => by
    have := Jvm.Free.Multi.fill_old (T.setVm vm₁) cA cy n.toNatClampNeg k.toNatClampNeg (defaultValue ty) (a := x) (by rw [hTh]; exact hx) n.toNatClampNeg
    rw [hF, hTh] at this
    exact this
  have hrow : ∀ j : Nat, j < n.toNatClampNeg → F.heap[H.size + 1 + j]? = some (vp_cell cy z) := fun j hj => by
    have := Jvm.Free.Multi.fill_inner (T.setVm vm₁) cA cy n.toNatClampNeg k.toNatClampNeg (defaultValue ty) n.toNatClampNeg j hj
    rw [hF, hTh, hz] at this
    exact this
  have hout : Jvm.Free.Multi.outerC cA n.toNatClampNeg H.size n.toNatClampNeg = vp_cell cA (n.toNatClampNeg, .inr (.inr (.inr (.inr (fun i => if i < n.toNatClampNeg then some (H.size + 1 + i) else none))))) := by
    rw [vp_cell_q]
    exact vr_outer cA n.toNatClampNeg H.size n.toNatClampNeg
  rw [hout] at f2
  have hlt : ∀ a, a ∈ L → a < H.size := fun a ha => by
    obtain ⟨k9, hk9⟩ := va_pl_get (X := X) (f := f) ha
    exact (hP k9 _ hk9).lt
  have hnl : ∀ i : Nat, i < n.toNatClampNeg → H.size + 1 + i ∉ L := fun i _ h => by
    have := hlt _ h
    omega
  have hnm : ∀ a, a ∈ (List.range n.toNatClampNeg).map (fun i => H.size + 1 + i) → a ∉ L := fun a ha h => by
    obtain ⟨i, -, rfl⟩ := List.mem_map.mp ha
    have := hlt _ h
    omega
  have hP0 : va_P D cl (X ++ va_pl L f) F.heap := hP.kept (fun k9 x hx => hold x.1 ((hP k9 x hx).lt))
  have hP1 : va_P D cl ((X ++ va_pl L f) ++ [(H.size, .inl (cA, n.toNatClampNeg, .inr (.inr (.inr (.inr (fun i => if i < n.toNatClampNeg then some (H.size + 1 + i) else none))))))]) F.heap := hP0.app (fun k9 x hx => by
    have h0 : k9 < 1 := (List.getElem?_eq_some_iff.mp hx).1
    rw [show k9 = 0 by omega] at hx
    cases hx
    exact f2)
  have hP2 : va_P D cl (((X ++ va_pl L f) ++ [(H.size, .inl (cA, n.toNatClampNeg, .inr (.inr (.inr (.inr (fun i => if i < n.toNatClampNeg then some (H.size + 1 + i) else none))))))]) ++ ((List.range n.toNatClampNeg).map (fun i => H.size + 1 + i)).map (fun a => (a, .inl (cy, z)))) F.heap := hP1.app (fun k9 x hx => by
    obtain ⟨a, ha, rfl⟩ := List.mem_map.mp (List.mem_of_getElem? hx)
    obtain ⟨i, hi, rfl⟩ := List.mem_map.mp ha
    exact hrow i (List.mem_range.mp hi))
  have hD2 : va_D A (((X ++ va_pl L f) ++ [(H.size, .inl (cA, n.toNatClampNeg, .inr (.inr (.inr (.inr (fun i => if i < n.toNatClampNeg then some (H.size + 1 + i) else none))))))]) ++ ((List.range n.toNatClampNeg).map (fun i => H.size + 1 + i)).map (fun a => (a, .inl (cy, z)))) := by
    have hD1 := hD.push (e := .inl (cA, n.toNatClampNeg, .inr (.inr (.inr (.inr (fun i => if i < n.toNatClampNeg then some (H.size + 1 + i) else none)))))) hP rfl (hA _ hS.1)
    generalize hW1 : (X ++ va_pl L f) ++ [(H.size, .inl (cA, n.toNatClampNeg, .inr (.inr (.inr (.inr (fun i => if i < n.toNatClampNeg then some (H.size + 1 + i) else none))))))] = W1 at hD1 hP1 ⊢
    have hle : ∀ (k9 : Nat) (x : Nat × va_E), W1[k9]? = some x → x.1 ≤ H.size := fun k9 x hx => by
      rw [← hW1] at hx
      by_cases hl : k9 < (X ++ va_pl L f).length
      · rw [List.getElem?_append_left hl] at hx
        exact Nat.le_of_lt ((hP k9 x hx).lt)
      · rw [List.getElem?_append_right (by omega)] at hx
        have h0 : k9 - (X ++ va_pl L f).length < 1 := (List.getElem?_eq_some_iff.mp hx).1
        rw [show k9 - (X ++ va_pl L f).length = 0 by omega] at hx
        cases hx
        exact Nat.le_refl _
    have hr : ∀ (k9 : Nat) (x : Nat × va_E), (((List.range n.toNatClampNeg).map (fun i => H.size + 1 + i)).map (fun a => ((a, .inl (cy, z)) : Nat × va_E)))[k9]? = some x → x.1 = H.size + 1 + k9 := fun k9 x hx => by
      rw [List.getElem?_map, List.getElem?_map] at hx
      by_cases h9 : k9 < n.toNatClampNeg
      · rw [List.getElem?_range h9] at hx
        cases hx
        rfl
      · have hn0 : (List.range n.toNatClampNeg)[k9]? = none := List.getElem?_eq_none (by rw [List.length_range]; omega)
        rw [hn0] at hx
        cases hx
    refine ⟨fun i j x y hi hj hxy => ?_, fun k9 x hx => ?_⟩
    · by_cases h1 : i < W1.length <;> by_cases h2 : j < W1.length
      · rw [List.getElem?_append_left h1] at hi
        rw [List.getElem?_append_left h2] at hj
        exact hD1.1 i j x y hi hj hxy
      · rw [List.getElem?_append_left h1] at hi
        rw [List.getElem?_append_right (by omega)] at hj
        have := hle _ _ hi
        have := hr _ _ hj
        omega
      · rw [List.getElem?_append_right (by omega)] at hi
        rw [List.getElem?_append_left h2] at hj
        have := hle _ _ hj
        have := hr _ _ hi
        omega
      · rw [List.getElem?_append_right (by omega)] at hi hj
        have := hr _ _ hi
        have := hr _ _ hj
        omega
    · by_cases h1 : k9 < W1.length
      · rw [List.getElem?_append_left h1] at hx
        exact hD1.2 k9 x hx
      · rw [List.getElem?_append_right (by omega)] at hx
        have := hr _ _ hx
        exact hA _ (by have := hS.1; omega)
  have hAr : ArrOfT s cA (.array ty) := fun N9 z9 => by
    obtain ⟨-, k9, hk9, cm9, hkk9⟩ := (hO 0 0 0).1
    exact ⟨(fun q hq => by cases hq), k9, hk9, cm9, hkk9⟩
  have hK2 : va_K D cl (tys ++ [(cA, .array ty)]) s := ⟨hK.1, fun k9 x hx => by
    by_cases hl : k9 < tys.length
    · rw [List.getElem?_append_left hl] at hx
      exact hK.2 k9 x hx
    · rw [List.getElem?_append_right (by omega)] at hx
      have h0 : k9 - tys.length < 1 := (List.getElem?_eq_some_iff.mp hx).1
      rw [show k9 - tys.length = 0 by omega] at hx
      cases hx
      exact ⟨hAr, fA⟩⟩
  obtain ⟨t, a1, b1⟩ := kk H.size (fun i => H.size + 1 + i) cA F.heap (fun i j _ _ h => by have h9 : H.size + 1 + i = H.size + 1 + j := h; omega) hnl hK2 (by rw [← vr_rows hnm]; exact vr_lay hP2) (by rw [← vr_rows hnm]; exact vr_layD hD2) ⟨by rw [f1]; have := hS.1; omega, fun x h1 h2 => (hold x (Nat.lt_of_lt_of_le h1 hS.1)).trans (hS.2.1 x h1 h2), hS.2.2⟩ F rfl X'
  refine ⟨t, step t ?_, b1⟩
  have e : T.heap.size = H.size := by rw [hT]
  rw [e]
  exact a1
end VGM
/-! ===== END ===== -/
theorem zt_mw : Cond.arrayClass .int ∈ zgood ∧ Cond.arrayClass .long ∈ zgood := by decide +kernel
section ZH
variable {d y pc n n' : Nat} {ls : List (Nat × zV)} {st : List zV} {u u' : List (Nat × Nat)} {x m : zM} {Q : Int → zM → zM → Prop}
theorem zArrOf {s : State} {args : Array Value} {ty : FieldType} (h : (Cond.arrayClass ty).before args s = true) (hp : ty = .int ∨ ty = .long) : ∃ cA : ClassId, s.vm.findClass ("[" ++ ty.toString) = some cA ∧ ArrOfT s cA ty ∧ va_RA s cA ty := by
  obtain ⟨c, k, comp, h1, h2, h3⟩ := Cond.arrayClass_spec h
  refine ⟨c, h1, fun n z => ⟨fun k h => (by cases h), k, h2, comp, h3⟩, ?_⟩
  rcases hp with rfl | rfl <;> exact h1
theorem zrange_pick {α : Type} (l : List α) : (List.range l.length).filterMap (fun i => l[i]?) = l := by
  induction l with
  | nil => rfl
  | cons a t ih =>
    rw [List.length_cons, List.range_succ_eq_map, List.filterMap_cons]
    show a :: _ = _
    rw [List.filterMap_map]
    congr 1
def zty (lg : Bool) : FieldType := if lg then .long else .int
theorem wp_mna {lg : Bool} {idx len w : Nat} {i j : Int} {x' m' : zM} (hd : decode (zCb y) pc = .ok (.multianewarray idx 2, 4)) (hs : zSh n = (if lg then 4 else 3, n + 1, len, w)) (hi : i = len) (hj : j = w) (hl : len ≤ 10000 ∧ w ≤ 10000) (hn : n + 1 + len ≤ n') (hw : Cond.classLink (zOw y) idx (if lg then "[[J" else "[[I") ∈ zgood) (hz : (Nat.ble (n + (1 + len)) 386 = true ∧ x' = zzr x n (1 + len) ∧ m' = m) ∨ (Nat.ble 386 n = true ∧ x' = x ∧ m' = zzr m n (1 + len))) (hu0 : ∀ k j, (k, j) ∈ u → k < n)
    (kk : WP d y (pc + 4) ls (zr n :: st) (n + (1 + len)) u x' m' n' u' Q) : WP d y pc ls (zi j :: zi i :: st) n u x m n' u' Q := by
  intro p l e R s mi args below meth c0 QQ D A sc ro ad0 n0 E H locs ad lsl S
  obtain ⟨⟨hx, hb, -, hml, ho, ht, -⟩, ⟨r1, r2, r3, r4⟩, hA, hro, -⟩ := id E
  obtain ⟨s1, s2, s3, s4, s5, ⟨s6, s6b, s6c⟩, s7, s8, s9⟩ := id S
  obtain ⟨ca, tys, w1, w2, w3, w4, w5, w6⟩ := id s1
  have hrow : ∀ q, q < len → zSh (n + 1 + q) = (if lg then 6 else 5, n, q, w) := by
    intro q hq
    cases lg with
    | false =>
      have := zt_row3 n (by omega) (by rw [hs]; rfl) q (by rw [hs]; exact hq)
      rw [hs] at this
      exact this.1
    | true =>
      have := zt_row4 n (by omega) (by rw [hs]; rfl) q (by rw [hs]; exact hq)
      rw [hs] at this
      exact this.1
  have hlen0 : zLen n = len := by
    unfold zLen
    rw [hs]
    cases lg <;> rfl
  have hlenr : ∀ q, q < len → zLen (n + 1 + q) = w := by
    intro q hq
    unfold zLen
    rw [hrow q hq]
    cases lg <;> rfl
  have hslr : ∀ t, t ≤ len → zSl (n + 1 + t) = zSl n + len + t * w := by
    intro t
    induction t with
    | zero => intro _; show zSl n + zLen n = _; rw [hlen0]; omega
    | succ t ih =>
      intro h
      have := ih (by omega)
      show zSl (n + 1 + t) + zLen (n + 1 + t) = _
      rw [this, hlenr t (by omega), Nat.succ_mul]
      omega
  have hsl := hslr len (Nat.le_refl _)
  have hsl2 := zSl_mono (a := n + 1 + len) (b := n') hn
  have hsl0 := zSl_mono s6
  have hz9 := zrd_zr hz
  have hii : zIn i := zOk_hd (zOk_tl s9)
  have hjj : zIn j := zOk_hd s9
  have hk0 : (zSh n).1 ≠ 0 := by rw [hs]; cases lg <;> exact fun q => by cases q
  have hmw := zt_mw
  have hro3 : va_AOA (zty lg) s := by
    cases lg
    · exact hro.2.2.2.2.1
    · exact hro.2.2.2.2.2.1
  obtain ⟨cy, hcy, hAr, hRA⟩ := zArrOf (ty := zty lg) (ht _ (show Cond.arrayClass (zty lg) ∈ zgood by cases lg; exact hmw.1; exact hmw.2)) (by cases lg; exact Or.inl rfl; exact Or.inr rfl)
  have fin : ∀ (q : Nat) (r : Nat → Nat) (cA : ClassId) (H1 : Heap), va_K D vwCl (tys ++ [(cA, FieldType.array (zty lg))]) s →
      va_P D vwCl ((zws ca ad n u (zrd x m) ++ [(q, .inl (cA, len, .inr (.inr (.inr (.inr (fun i => if i < len then some (r i) else none))))))]) ++ (List.range len).map (fun i => (r i, .inl (cy, (w, if lg then .inr (.inl (fun _ => 0)) else .inl (fun _ => 0)))))) H1 →
      va_D A ((zws ca ad n u (zrd x m) ++ [(q, .inl (cA, len, .inr (.inr (.inr (.inr (fun i => if i < len then some (r i) else none))))))]) ++ (List.range len).map (fun i => (r i, .inl (cy, (w, if lg then .inr (.inl (fun _ => 0)) else .inl (fun _ => 0)))))) → va_S A s.heap H1 locs →
      W p l e R s mi args below meth c0 H1 locs (n - n0 + 1 + len) (zSl n - zSl n0 + len + len * w) QQ (F0 mi (pc + 4) lsl (.ref q :: st.map (zc ad))) := by
    intro q r cA H1 hK hP hD hS
    rw [List.append_assoc] at hP hD
    have had : ∀ k, k < n → (fun k => if k < n then ad k else if k = n then q else if k < n + 1 + len then r (k - (n + 1)) else ad k) k = ad k := fun k hk => if_pos hk
    have hh : ∀ k, 2000 ≤ k → (fun k => if k < n then ad k else if k = n then q else if k < n + 1 + len then r (k - (n + 1)) else ad k) k = ad k := fun k hk => by
      show (if _ then _ else _) = _
      rw [if_neg (by omega), if_neg (by omega), if_neg (by omega)]
    have hqn : (fun k => if k < n then ad k else if k = n then q else if k < n + 1 + len then r (k - (n + 1)) else ad k) n = q := by
      show (if _ then _ else _) = _
      rw [if_neg (by omega), if_pos rfl]
    have hqr : ∀ t, t < len → (fun k => if k < n then ad k else if k = n then q else if k < n + 1 + len then r (k - (n + 1)) else ad k) (n + 1 + t) = r t := fun t htt => by
      show (if _ then _ else _) = _
      rw [if_neg (by omega), if_neg (by omega), if_pos (by omega), show n + 1 + t - (n + 1) = t by omega]
    generalize (fun k => if k < n then ad k else if k = n then q else if k < n + 1 + len then r (k - (n + 1)) else ad k) = ad' at had hh hqn hqr
    have hco : ∀ k, k < n → (fun k => if k < n then ca k else if k = n then cA else cy) k = ca k := fun k hk => if_pos hk
    have hcn : (fun k => if k < n then ca k else if k = n then cA else cy) n = cA := by
      show (if _ then _ else _) = _
      rw [if_neg (by omega), if_pos rfl]
    have hcr : ∀ k, n < k → (fun k => if k < n then ca k else if k = n then cA else cy) k = cy := fun k hk => by
      show (if _ then _ else _) = _
      rw [if_neg (by omega), if_neg (by omega)]
    generalize (fun k => if k < n then ca k else if k = n then cA else cy) = ca' at hco hcn hcr
    have hW : zW s A D (n + (1 + len)) u ad' x' m' H1 := by
      refine zW_ext (tys' := [(cA, FieldType.array (zty lg)), (cy, zty lg)]) (ca := ca) (ca' := ca') (u := u) (by omega) ?_ hP hD w4 w5 w6 hco had (fun k hk j => Iff.rfl) hz9 (fun k h1 h2 => ?_) (fun k h1 h2 h0 => ?_) (fun i9 hi9 => ?_)
      · refine (hK.app (t2 := [(cy, zty lg)]) ⟨w1.1, fun k q hq => ?_⟩).sub (tys' := _) (List.range (tys ++ ([(cA, FieldType.array (zty lg))] ++ [(cy, zty lg)])).length) ?_
        · have hz1 : k < 1 := (List.getElem?_eq_some_iff.mp hq).1
          rw [show k = 0 by omega] at hq
          cases hq
          exact ⟨hAr, hRA⟩
        · rw [List.append_assoc]
          exact zrange_pick _
      · by_cases e : k = n
        · subst e
          rw [hs]
          exact ⟨fun h => (by cases lg <;> cases h), fun _ => by show k + 1 + len ≤ _; omega⟩
        · have := hrow (k - (n + 1)) (by omega)
          rw [show n + 1 + (k - (n + 1)) = k by omega] at this
          rw [this]
          exact ⟨fun h => (by cases lg <;> cases h), fun h => (by cases lg <;> rcases h with h | h <;> cases h)⟩
      · by_cases e : k = n
        · subst e
          refine ⟨tys.length, ?_⟩
          rw [List.getElem?_append_right (Nat.le_refl _), Nat.sub_self, hcn]
          have : zEt k = .array (zty lg) := by
            unfold zEt
            rw [hs]
            cases lg <;> rfl
          rw [this]
          rfl
        · refine ⟨tys.length + 1, ?_⟩
          rw [List.getElem?_append_right (by omega), show tys.length + 1 - tys.length = 1 by omega, hcr k (by omega)]
          have : zEt k = (zty lg) := by
            have h5 := hrow (k - (n + 1)) (by omega)
            rw [show n + 1 + (k - (n + 1)) = k by omega] at h5
            unfold zEt
            rw [h5]
            cases lg <;> rfl
          rw [this]
          rfl
      · by_cases e : i9 = 0
        · subst e
          refine ⟨_, by rw [Nat.add_zero, hqn]; rfl, zEq.of ?_⟩
          rw [Nat.add_zero]
          unfold zE
          rw [hs]
          have e9 : (fun i => if i < len then some (r i) else none) = (fun i => if i < len then some (ad' (n + 1 + i)) else none) := by
            funext t
            by_cases h : t < len
            · rw [if_pos h, if_pos h, hqr t h]
            · rw [if_neg h, if_neg h]
          rw [e9, hcn]
          cases lg <;> rfl
        · obtain ⟨t, rfl⟩ : ∃ t, i9 = t + 1 := ⟨i9 - 1, by omega⟩
          have htl : t < len := by omega
          refine ⟨.inl (cy, (w, if lg then .inr (.inl (fun _ => 0)) else .inl (fun _ => 0))), ?_, ?_⟩
          · rw [show n + (t + 1) = n + 1 + t by omega, hqr t htl]
            show (List.map _ (List.range len))[t]? = _
            rw [List.getElem?_map, List.getElem?_range htl]
            rfl
          · rw [show n + (t + 1) = n + 1 + t by omega]
            unfold zE
            rw [hrow t htl, hcr (n + 1 + t) (by omega)]
            cases lg
            · refine zEq.ints (fun j hj => ?_)
              rw [hz9, if_pos (by omega)]
              rfl
            · refine zEq.longs (fun j hj => ?_)
              rw [hz9, if_pos (by omega)]
              rfl
    have g := kk p l e R s mi args below meth c0 QQ D A sc ro ad0 n0 E H1 locs ad' lsl ⟨hW, hS, (zzr_2000 (by omega) hz).trans s3, fun k hk => (had k (by omega)).trans (s4 k hk), fun k hk => (hh k hk).trans (s5 k hk), ⟨by omega, by omega, s6c⟩, by
      show lv_has lsl (zMl y) (zMap _ ls)
      rw [zMap_same (n := n) had hh s8]
      exact s7, fun q hq => zOk_mono (by omega) (s8 q hq), zOk_cons (v := zr n) (Or.inl (by omega)) (fun v hv => zOk_mono (by omega) (zOk_tl (zOk_tl s9) v hv))⟩
    have e1 : n + (1 + len) - n0 = n - n0 + 1 + len := by omega
    have e2 : zSl (n + (1 + len)) - zSl n0 = zSl n - zSl n0 + len + len * w := by
      rw [show n + (1 + len) = n + 1 + len by omega]
      omega
    rw [e1, e2] at g
    have e3 : (zr n :: st).map (zc ad') = .ref q :: st.map (zc ad) := by
      rw [List.map_cons, zmap_same (n := n) had hh (zOk_tl (zOk_tl s9))]
      show Value.ref (ad' n) :: _ = _
      rw [hqn]
    rw [e3] at g
    exact g
  have hnn : ∀ {z : Int}, zIn z → 0 ≤ z → ¬ Int32.ofInt z < 0 := fun hz h0 q => by
    have := (z32_lt hz (show zIn 0 from ⟨by decide, by decide⟩)).mp q
    omega
  have hcl : (Int32.ofInt i).toNatClampNeg = len := by rw [z32_clamp hii (by omega)]; omega
  have hcj : (Int32.ofInt j).toNatClampNeg = w := by rw [z32_clamp hjj (by omega)]; omega
  have hpl : ∀ (r : Nat → Nat) (f : Nat → va_E) (e9 : va_E), va_pl ([] ++ (List.range len).map r) (vr_up f ((List.range len).map r) e9) = (List.range len).map (fun i => (r i, e9)) := by
    intro r f e9
    unfold va_pl
    rw [List.nil_append, List.map_map]
    apply List.map_congr_left
    intro a ha
    show (r a, vr_up _ _ _ (r a)) = _
    rw [vr_up_in (List.mem_map.mpr ⟨a, ha, rfl⟩)]
  have hslots : zSl n - zSl n0 + (len + len * w) ≤ R.slots := by omega
  have hP0 : va_P D vwCl (zws ca ad n u (zrd x m) ++ va_pl [] (fun _ => .inr (0, []))) H := by
    rw [show va_pl [] (fun _ => (.inr (0, []) : va_E)) = [] from rfl, List.append_nil]; exact w2
  have hD0 : va_D A (zws ca ad n u (zrd x m) ++ va_pl [] (fun _ => .inr (0, []))) := by
    rw [show va_pl [] (fun _ => (.inr (0, []) : va_E)) = [] from rfl, List.append_nil]; exact w3
  cases lg with
  | false =>
    refine va_mna (ty := .int) (z := (w, .inl (fun _ => 0))) hx hb ho (ht _ hw) hro3.use (ht _ hmw.1) hcy w1 hP0 hD0 s2 hA (hnn hii (by omega)) (hnn hjj (by omega)) hcl hcj (by omega) (by show w * 4 ≤ _; omega) (by omega) rfl rfl (by omega) hslots (fun c => arrV_new c w _) hd (fun q r cA H1 _ _ hK hP hD hS => ?_)
    rw [hpl] at hP hD
    have g := fin q r cA H1 hK hP hD hS
    exact g
  | true =>
    refine va_mna (ty := .long) (z := (w, .inr (.inl (fun _ => 0)))) hx hb ho (ht _ hw) hro3.use (ht _ hmw.2) hcy w1 hP0 hD0 s2 hA (hnn hii (by omega)) (hnn hjj (by omega)) hcl hcj (by omega) (by show w * 8 ≤ _; omega) (by omega) rfl rfl (by omega) hslots (fun c => arrV_new c w _) hd (fun q r cA H1 _ _ hK hP hD hS => ?_)
    rw [hpl] at hP hD
    have g := fin q r cA H1 hK hP hD hS
    exact g
end ZH
