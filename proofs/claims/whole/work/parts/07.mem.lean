/-! the heap: fields and arrays -/
theorem zE_obj {ca : Nat → ClassId} {ad : Nat → Nat} {u : List (Nat × Nat)} {μ : zM} {k ci nf c : Nat} (h : zSh k = (0, ci, nf, c)) : zE ca ad u μ k = .inr (ci, (List.range nf).map (zFv ad u μ k)) := by simp only [zE, h]
theorem zrd_upx {x m : zM} {k : Nat} (h : Nat.ble k 385 = true) (i v : Int) : zrd (zupd x k i v) m = zupd (zrd x m) k i v := by
  funext k' i'
  unfold zrd zupd
  by_cases e : k' = k
  · subst e
    simp [h]
  · by_cases h2 : Nat.ble k' 385 = true <;> simp [h2, e]
theorem zrd_upm {x m : zM} {k : Nat} (h : Nat.ble k 385 = false) (i v : Int) : zrd x (zupd m k i v) = zupd (zrd x m) k i v := by
  funext k' i'
  unfold zrd zupd
  by_cases e : k' = k
  · subst e
    simp [h]
  · by_cases h2 : Nat.ble k' 385 = true <;> simp [h2, e]
theorem zupd_ne {x : zM} {k k' : Nat} {i v : Int} (h : k' ≠ k) : zupd x k i v k' = x k' := by
  funext i'
  simp [zupd, h]
theorem zupd_eq {x : zM} {k : Nat} {i v : Int} (i' : Int) : zupd x k i v k i' = if i' = i then v else x k i' := by simp [zupd]
/-- a place's picture rests on one row of the memory: its own, or its outer's -/
def zHome (k : Nat) : Nat := match zSh k with
  | (5, o, _, _) => o
  | (6, o, _, _) => o
  | _ => k
theorem zFv_congr {ad : Nat → Nat} {u : List (Nat × Nat)} {μ μ' : zM} {k : Nat} (h : μ k = μ' k) : zFv ad u μ k = zFv ad u μ' k := by
  funext j
  simp only [zFv, h]
theorem zE_congr {ca : Nat → ClassId} {ad : Nat → Nat} {u : List (Nat × Nat)} {μ μ' : zM} {k : Nat} (h : μ (zHome k) = μ' (zHome k)) : zE ca ad u μ k = zE ca ad u μ' k := by
  unfold zHome at h
  unfold zE
  generalize zSh k = s at h ⊢
  obtain ⟨a, b, c, e⟩ := s
  match a, h with
  | 0, h => simp only at h ⊢; rw [zFv_congr h]
  | 1, h => simp only at h ⊢; rw [h]
  | 2, h => simp only at h ⊢; rw [h]
  | 5, h => simp only at h ⊢; rw [h]
  | 6, h => simp only at h ⊢; rw [h]
  | 3, h => rfl
  | 4, h => rfl
  | a + 7, h => rfl
section ZM
variable {d y pc n n' : Nat} {ls : List (Nat × zV)} {st : List zV} {u u' : List (Nat × Nat)} {x m : zM} {Q : Int → zM → zM → Prop} {a b z : Int}
/-- the context taken apart, for an instruction that reads the heap -/
theorem wp_hp {pc' : Nat} {st' : List zV} (hr : ∀ {p : Program} {l : Launch} {e : Env} {R : Room} {s : State} {mi : MethodId} {args : Array Value} {below : List Frame} {meth : Method} {c : Code} {H : Heap} {locs : List Loc} {cells slots : Nat} {QQ : State → Prop} {D : va_G} {A : Nat → Prop} {ad : Nat → Nat} {ca : Nat → ClassId} {tys : List (ClassId × FieldType)} {lsl : Array Slot}, p.tables.exec = Jvm.exec → c.code = zCb y → s.vm.findClass (zOw y) = some mi.cls → (∀ w ∈ zgood, w.before args s = true) →
      va_K D vwCl tys s → va_P D vwCl (zws ca ad n u (zrd x m)) H → (∀ k, k < n → (zSh k).1 ≠ 0 → ∃ t0 : Nat, tys[t0]? = some (ca k, zEt k)) → (∀ v ∈ st, zOk n v) →
      W p l e R s mi args below meth c H locs cells slots QQ (F0 mi pc' lsl (st'.map (zc ad))) → W p l e R s mi args below meth c H locs cells slots QQ (F0 mi pc lsl (st.map (zc ad))))
    (ok : zCls n u → (∀ k i, zRg k i (zrd x m k i)) → (∀ v ∈ st, zOk n v) → ∀ v ∈ st', zOk n v) (k : WP d y pc' ls st' n u x m n' u' Q) : WP d y pc ls st n u x m n' u' Q := by
  intro p l e R s mi args below meth c QQ D A sc ro ad0 n0 E H locs ad lsl S
  obtain ⟨⟨hx, hb, -, -, ho, ht, -⟩, -⟩ := id E
  obtain ⟨s1, s2, s3, s4, s5, s6, s7, s8, s9⟩ := id S
  obtain ⟨ca, tys, w1, w2, w3, w4, w5, w6⟩ := id s1
  exact hr (A := A) hx hb ho ht w1 w2 w4 s9 (k p l e R s mi args below meth c QQ D A sc ro ad0 n0 E H locs ad lsl ⟨s1, s2, s3, s4, s5, s6, s7, s8, ok w6 w5 s9⟩)
theorem wp_getfield {idx k ci nf c j : Nat} {v : zV} (hd : decode (zCb y) pc = .ok (.getfield idx, 3)) (hk : k < n) (hn : n ≤ 403) (hs : zSh k = (0, ci, nf, c)) (hj : j < nf) (hl : Cond.fieldLink (zOw y) idx ((zCl ci).2.1 j).1 ((zCl ci).2.1 j).2.1 ((zCl ci).2.1 j).2.2.1 ∈ zgood)
    (hv : ∀ ad, zFv ad u (zrd x m) k j = zc ad v) (ho : zCls n u → (∀ k i, zRg k i (zrd x m k i)) → zOk n v) (kk : WP d y (pc + 3) ls (v :: st) n u x m n' u' Q) : WP d y pc ls (zr k :: st) n u x m n' u' Q := by
  have hT := zt_sh k (by omega) (by rw [hs])
  rw [hs] at hT
  have hci : ci < 13 := hT.1
  have hnf : nf = (zCl ci).2.2 := hT.2
  refine wp_hp (fun {p l e R s mi args below meth cc H locs cells slots QQ D A ad ca tys lsl} hx hb how ht w1 w2 w4 s9 g => ?_) (fun hc h s9 => zOk_cons (ho hc h) (zOk_tl s9)) kk
  exact va_get (D := D) (ci := ci) (v := zFv ad u (zrd x m) k j) (C := (zCl ci).1) (T := (zCl ci).2.1) (N := (zCl ci).2.2) hx hb ht (zt_in ci hci) how w1 w2 k (by rw [zws_get hk, zE_obj hs]) (zt_vw ci hci) j (by omega) (ht _ hl) (fun _ h => h) (by rw [List.getElem?_map, List.getElem?_range hj]; rfl) hd (by rw [hv ad]; exact g)
theorem zFv_int {ad : Nat → Nat} {μ : zM} {k j ci : Nat} (hc : (zSh k).2.1 = ci) (h : (zTy ci).getD j 0 = 0 ∨ (zTy ci).getD j 0 = 3) : zFv ad u μ k j = zc ad (zi (μ k j)) := by
  unfold zFv
  rw [hc]
  rcases h with h | h <;> rw [h] <;> rfl
theorem zFv_long {ad : Nat → Nat} {μ : zM} {k j ci : Nat} (hc : (zSh k).2.1 = ci) (h : (zTy ci).getD j 0 = 1) : zFv ad u μ k j = zc ad (zl (μ k j)) := by
  unfold zFv
  rw [hc, h]
  rfl
theorem zFv_ref {ad : Nat → Nat} {μ : zM} {k j ci : Nat} (hc : (zSh k).2.1 = ci) (h : (zTy ci).getD j 0 = 2) (hu : (k, j) ∉ u) : zFv ad u μ k j = zc ad (zr ((zRf k).getD j 0)) := by
  unfold zFv
  rw [hc, h]
  simp only [if_neg hu]
  rfl
theorem zRg_int {μ : zM} {k ci nf c j : Nat} (hs : zSh k = (0, ci, nf, c)) (h : (zTy ci).getD j 0 ≠ 1) (hr : ∀ k i, zRg k i (μ k i)) : zIn (μ k j) := by
  have := hr k j
  unfold zRg zLg at this
  rw [hs] at this
  change (bif Nat.beq ((zTy ci).getD j 0) 1 then zLn _ else zIn _) at this
  have e : Nat.beq ((zTy ci).getD j 0) 1 = false := by
    cases hb : Nat.beq ((zTy ci).getD j 0) 1 with
    | false => rfl
    | true => exact absurd (Nat.eq_of_beq_eq_true hb) h
  rw [e] at this
  exact this
theorem zRg_long {μ : zM} {k ci nf c j : Nat} (hs : zSh k = (0, ci, nf, c)) (h : (zTy ci).getD j 0 = 1) (hr : ∀ k i, zRg k i (μ k i)) : zLn (μ k j) := by
  have := hr k j
  unfold zRg zLg at this
  rw [hs] at this
  change (bif Nat.beq ((zTy ci).getD j 0) 1 then zLn _ else zIn _) at this
  rw [h] at this
  exact this
/-- an instruction that writes: the rows' own words for what is written are turned into the memory's -/
theorem wp_wr {pc' : Nat} {st' : List zV} {x' m' : zM} {u2 : List (Nat × Nat)} {q0 : Nat} (hq : q0 < n) (e : (Nat → ClassId) → (Nat → Nat) → va_E) (hr : ∀ {p : Program} {l : Launch} {e9 : Env} {R : Room} {s : State} {mi : MethodId} {args : Array Value} {below : List Frame} {meth : Method} {c : Code} {H : Heap} {locs : List Loc} {cells slots : Nat} {QQ : State → Prop} {D : va_G} {A : Nat → Prop} {ad : Nat → Nat} {ca : Nat → ClassId} {tys : List (ClassId × FieldType)} {lsl : Array Slot}, p.tables.exec = Jvm.exec → c.code = zCb y → s.vm.findClass (zOw y) = some mi.cls → (∀ w ∈ zgood, w.before args s = true) → (zIs y = true → meth.name = "<init>") →
      va_K D vwCl tys s → va_P D vwCl (zws ca ad n u (zrd x m)) H → va_D A (zws ca ad n u (zrd x m)) → va_S A s.heap H locs → (∀ k, k < n → (zSh k).1 ≠ 0 → ∃ t0 : Nat, tys[t0]? = some (ca k, zEt k)) → (∀ v ∈ st, zOk n v) →
      (∀ (H1 : Heap) (locs1 : List Loc), va_P D vwCl ((zws ca ad n u (zrd x m)).set q0 (ad q0, e ca ad)) H1 → va_D A ((zws ca ad n u (zrd x m)).set q0 (ad q0, e ca ad)) → va_S A s.heap H1 locs1 → W p l e9 R s mi args below meth c H1 locs1 cells slots QQ (F0 mi pc' lsl (st'.map (zc ad)))) → W p l e9 R s mi args below meth c H locs cells slots QQ (F0 mi pc lsl (st.map (zc ad))))
    (he : ∀ ca ad, zEq (e ca ad) (zE ca ad u2 (zrd x' m') q0)) (ho : ∀ ca ad k, k < n → k ≠ q0 → zEq (zE ca ad u (zrd x m) k) (zE ca ad u2 (zrd x' m') k)) (hm : m' 2000 = m 2000)
    (hg : (∀ k i, zRg k i (zrd x m k i)) → (∀ v ∈ st, zOk n v) → ∀ k i, zRg k i (zrd x' m' k i)) (hc : zCls n u → (∀ v ∈ st, zOk n v) → zCls n u2) (ok : (∀ v ∈ st, zOk n v) → ∀ v ∈ st', zOk n v) (k : WP d y pc' ls st' n u2 x' m' n' u' Q) : WP d y pc ls st n u x m n' u' Q := by
  intro p l e9 R s mi args below meth c QQ D A sc ro ad0 n0 E H locs ad lsl S
  obtain ⟨⟨hx, hb, -, -, hown, ht, -, hin⟩, -⟩ := id E
  obtain ⟨s1, s2, s3, s4, s5, s6, s7, s8, s9⟩ := id S
  obtain ⟨ca, tys, w1, w2, w3, w4, w5, w6⟩ := id s1
  refine hr (A := A) hx hb hown ht hin w1 w2 w3 s2 w4 s9 (fun H1 locs1 hP hD hS => ?_)
  exact k p l e9 R s mi args below meth c QQ D A sc ro ad0 n0 E H1 locs1 ad lsl ⟨⟨ca, tys, w1, zP_set hq hP (he ca ad) (fun k hk hne => ho ca ad k hk hne), zD_ext w3, w4, hg w5 s9, hc w6 s9⟩, hS, hm.trans s3, s4, s5, s6, s7, s8, ok s9⟩
/-- the same, with the room -/
theorem wp_wr2 {pc' : Nat} {st' : List zV} {x' m' : zM} {u2 : List (Nat × Nat)} {q0 : Nat} (hq : q0 < n) (e : (Nat → ClassId) → (Nat → Nat) → va_E) (hr : ∀ {p : Program} {l : Launch} {e9 : Env} {R : Room} {s : State} {mi : MethodId} {args : Array Value} {below : List Frame} {meth : Method} {c : Code} {H : Heap} {locs : List Loc} {cells slots : Nat} {QQ : State → Prop} {D : va_G} {A : Nat → Prop} {ad : Nat → Nat} {ca : Nat → ClassId} {tys : List (ClassId × FieldType)} {lsl : Array Slot}, p.tables.exec = Jvm.exec → c.code = zCb y → s.vm.findClass (zOw y) = some mi.cls → (∀ w ∈ zgood, w.before args s = true) → (zIs y = true → meth.name = "<init>") → c.maxLocals = lsl.size → d ≤ R.frames → 64 * d ≤ R.locals →
      va_K D vwCl tys s → va_P D vwCl (zws ca ad n u (zrd x m)) H → va_D A (zws ca ad n u (zrd x m)) → va_S A s.heap H locs → (∀ k, k < n → (zSh k).1 ≠ 0 → ∃ t0 : Nat, tys[t0]? = some (ca k, zEt k)) → (∀ v ∈ st, zOk n v) →
      (∀ (H1 : Heap) (locs1 : List Loc), va_P D vwCl ((zws ca ad n u (zrd x m)).set q0 (ad q0, e ca ad)) H1 → va_D A ((zws ca ad n u (zrd x m)).set q0 (ad q0, e ca ad)) → va_S A s.heap H1 locs1 → W p l e9 R s mi args below meth c H1 locs1 cells slots QQ (F0 mi pc' lsl (st'.map (zc ad)))) → W p l e9 R s mi args below meth c H locs cells slots QQ (F0 mi pc lsl (st.map (zc ad))))
    (he : ∀ ca ad, zEq (e ca ad) (zE ca ad u2 (zrd x' m') q0)) (ho : ∀ ca ad k, k < n → k ≠ q0 → zEq (zE ca ad u (zrd x m) k) (zE ca ad u2 (zrd x' m') k)) (hm : m' 2000 = m 2000)
    (hg : (∀ k i, zRg k i (zrd x m k i)) → (∀ v ∈ st, zOk n v) → ∀ k i, zRg k i (zrd x' m' k i)) (hc : zCls n u → (∀ v ∈ st, zOk n v) → zCls n u2) (ok : (∀ v ∈ st, zOk n v) → ∀ v ∈ st', zOk n v) (k : WP d y pc' ls st' n u2 x' m' n' u' Q) : WP d y pc ls st n u x m n' u' Q := by
  intro p l e9 R s mi args below meth c QQ D A sc ro ad0 n0 E H locs ad lsl S
  obtain ⟨⟨hx, hb, -, hml, hown, ht, -, hin⟩, ⟨r1, r2, -⟩, -⟩ := id E
  obtain ⟨s1, s2, s3, s4, s5, s6, s7, s8, s9⟩ := id S
  obtain ⟨ca, tys, w1, w2, w3, w4, w5, w6⟩ := id s1
  refine hr (A := A) hx hb hown ht hin (hml.trans s7.1.symm) r1 r2 w1 w2 w3 s2 w4 s9 (fun H1 locs1 hP hD hS => ?_)
  exact k p l e9 R s mi args below meth c QQ D A sc ro ad0 n0 E H1 locs1 ad lsl ⟨⟨ca, tys, w1, zP_set hq hP (he ca ad) (fun k hk hne => ho ca ad k hk hne), zD_ext w3, w4, hg w5 s9, hc w6 s9⟩, hS, hm.trans s3, s4, s5, s6, s7, s8, ok s9⟩
/-- the two ways to write one number -/
theorem zwr_row {x m x' m' : zM} {k : Nat} {i v : Int} (h : (Nat.ble k 385 = true ∧ x' = zupd x k i v ∧ m' = m) ∨ (Nat.ble k 385 = false ∧ x' = x ∧ m' = zupd m k i v)) : zrd x' m' = zupd (zrd x m) k i v := by
  rcases h with ⟨h, rfl, rfl⟩ | ⟨h, rfl, rfl⟩
  · exact zrd_upx h i v
  · exact zrd_upm h i v
theorem zwr_2000 {x m x' m' : zM} {k : Nat} {i v : Int} (hk : k < 403) (h : (Nat.ble k 385 = true ∧ x' = zupd x k i v ∧ m' = m) ∨ (Nat.ble k 385 = false ∧ x' = x ∧ m' = zupd m k i v)) : m' 2000 = m 2000 := by
  rcases h with ⟨h, rfl, rfl⟩ | ⟨h, rfl, rfl⟩
  · rfl
  · exact zupd_ne (by omega)
theorem zwr_rg {μ μ' : zM} {k0 : Nat} {i0 v : Int} (e : μ' = zupd μ k0 i0 v) (hr : ∀ k i, zRg k i (μ k i)) (hv : zRg k0 i0 v) : ∀ k i, zRg k i (μ' k i) := by
  subst e
  intro k i
  by_cases h : k = k0 ∧ i = i0
  · obtain ⟨rfl, rfl⟩ := h
    simpa [zupd] using hv
  · simpa [zupd, h] using hr k i
theorem zHome_ne {k k0 : Nat} (h : zHome k ≠ k0) {ca : Nat → ClassId} {ad : Nat → Nat} {u : List (Nat × Nat)} {μ : zM} {i v : Int} : zE ca ad u μ k = zE ca ad u (zupd μ k0 i v) k := zE_congr (zupd_ne h).symm
theorem vpV_at (fs : List Value) (j : Nat) : vp_V fs j = (fs[j]?).getD .null := by simp [vp_V]
/-- putfield of a number -/
theorem wp_putfield {idx k ci nf c j : Nat} {v : zV} {z : Int} {x' m' : zM} (hd : decode (zCb y) pc = .ok (.putfield idx, 3)) (hk : k < n) (hn : n ≤ 403) (hs : zSh k = (0, ci, nf, c)) (hj : j < nf) (hl : Cond.fieldLink (zOw y) idx ((zCl ci).2.1 j).1 ((zCl ci).2.1 j).2.1 ((zCl ci).2.1 j).2.2.1 ∈ zgood)
    (hf : ((zCl ci).2.1 j).2.2.2 = false) (hv : (v = zi z ∧ ((zTy ci).getD j 0 = 0 ∨ ((zTy ci).getD j 0 = 3 ∧ (z = 0 ∨ z = 1)))) ∨ (v = zl z ∧ (zTy ci).getD j 0 = 1))
    (hw : (Nat.ble k 385 = true ∧ x' = zupd x k j z ∧ m' = m) ∨ (Nat.ble k 385 = false ∧ x' = x ∧ m' = zupd m k j z)) (kk : WP d y (pc + 3) ls st n u x' m' n' u' Q) : WP d y pc ls (v :: zr k :: st) n u x m n' u' Q := by
  have hT := zt_sh k (by omega) (by rw [hs])
  rw [hs] at hT
  have hci : ci < 13 := hT.1
  have hnf : nf = (zCl ci).2.2 := hT.2
  have hkd := zt_kd ci hci j (by omega)
  have eM := zwr_row hw
  have hfit : ∀ ad, narrow (zTf ci j) (zc ad v) = zc ad v ∧ fits (zTf ci j) (zc ad v) = true := by
    intro ad
    generalize hty : zTf ci j = ty at hkd
    rcases hv with ⟨rfl, h | ⟨h, rfl | rfl⟩⟩ | ⟨rfl, h⟩ <;> rw [h] at hkd <;> cases ty <;> first | exact ⟨rfl, rfl⟩ | cases hkd
  have hfv : ∀ ad, zFv ad u (zrd x' m') k j = zc ad v := by
    intro ad
    rcases hv with ⟨rfl, h⟩ | ⟨rfl, h⟩
    · rw [zFv_int (by rw [hs]) (h.imp id (fun q => q.1)), eM, zupd_eq, if_pos rfl]
    · rw [zFv_long (by rw [hs]) h, eM, zupd_eq, if_pos rfl]
  have hne : ∀ k', k' < n → k' ≠ k → zHome k' ≠ k := by
    intro k' hk' hne
    unfold zHome
    have h1 := zt_len k' (by omega)
    generalize hs' : zSh k' = s' at h1
    obtain ⟨a1, b1, c1, d1⟩ := s'
    split
    · rename_i o _ _ heq
      cases heq
      have h2 := (h1 (Or.inl rfl)).2.1 rfl
      intro e
      subst e
      rw [hs] at h2
      cases h2
    · rename_i o _ _ heq
      cases heq
      have h2 := (h1 (Or.inr rfl)).2.2.1 rfl
      intro e
      subst e
      rw [hs] at h2
      cases h2
    · exact hne
  refine wp_wr (q0 := k) (u2 := u) hk (fun ca ad => .inr (ci, ((List.range nf).map (zFv ad u (zrd x m) k)).set j (zc ad v))) (fun {p l e R s mi args below meth cc H locs cells slots QQ D A ad ca tys lsl} hx hb how ht hin w1 w2 w3 hS w4 s9 g => ?_) (fun ca ad => ?_) (fun ca ad k' hk' hne' => zEq.of ?_) (zwr_2000 (by omega) hw) (fun h5 h9 => zwr_rg eM h5 ?_) (fun h _ => h) (fun h => zOk_tl (zOk_tl h)) kk
  · exact va_put (D := D) (ci := ci) (v := zc ad v) (ty := zTf ci j) (C := (zCl ci).1) (T := (zCl ci).2.1) (N := (zCl ci).2.2) hx hb ht (zt_in ci hci) (zTf ci) (zt_ty ci hci) (zt_nm ci hci) how w1 w2 w3 hS k (by rw [zws_get hk, zE_obj hs]) (zt_vw ci hci) j (by omega) (ht _ hl) (fun _ h => h) hf (zt_ty ci hci j (by omega)) (hfit ad).1 (hfit ad).2 (by simpa using hj) hd g
  · rw [zE_obj hs]
    refine zEq.obj (fun i => ?_)
    rw [vpV_at, vpV_at, List.getElem?_set]
    by_cases hi : j = i
    · subst hi
      simp [hj, hfv ad]
    · simp only [if_neg hi, List.getElem?_map]
      by_cases h3 : i < nf
      · rw [List.getElem?_range h3]
        show zFv ad u (zrd x m) k i = zFv ad u (zrd x' m') k i
        rw [eM]
        have e2 : zupd (zrd x m) k (j : Int) z k (i : Int) = zrd x m k (i : Int) := by
          rw [zupd_eq, if_neg (fun q => hi (by omega))]
        unfold zFv
        rw [e2]
      · rw [List.getElem?_eq_none (by simp; omega)]
        rfl
  · rw [eM]
    exact zHome_ne (hne k' hk' hne')
  · have hz := zOk_hd h9
    unfold zRg zLg
    rw [hs]
    show (bif Nat.beq ((zTy ci).getD j 0) 1 then zLn z else zIn z)
    rcases hv with ⟨rfl, h | ⟨h, -⟩⟩ | ⟨rfl, h⟩ <;> rw [h] <;> exact hz
end ZM
