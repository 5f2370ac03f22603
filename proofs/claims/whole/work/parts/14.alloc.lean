/-! what constructors make: new cells behind those that stand -/
def zzr (x : zM) (n t : Nat) : zM := fun k i => if n ≤ k ∧ k < n + t then 0 else x k i
/-- the reference slots of a new object: none is set -/
def zun (n ci : Nat) : List (Nat × Nat) := ((List.range (zTy ci).length).filter (fun j => Nat.beq ((zTy ci).getD j 0) 2)).map (fun j => (n, j))
theorem zun_mem {n ci k j : Nat} : (k, j) ∈ zun n ci ↔ k = n ∧ (zTy ci).getD j 0 = 2 := by
  unfold zun
  rw [List.mem_map]
  constructor
  · rintro ⟨a, h, e⟩
    cases e
    exact ⟨rfl, Nat.eq_of_beq_eq_true (List.mem_filter.mp h).2⟩
  · rintro ⟨rfl, h⟩
    refine ⟨j, List.mem_filter.mpr ⟨List.mem_range.mpr ?_, by rw [h]; rfl⟩, rfl⟩
    rcases Nat.lt_or_ge j (zTy ci).length with q | q
    · exact q
    · rw [List.getD_eq_getElem?_getD, List.getElem?_eq_none q] at h
      cases h
theorem zHome_lt {k : Nat} (hk : k < 403) : zHome k ≤ k := by
  have h1 := zt_len k hk
  unfold zHome
  generalize hs : zSh k = s at h1
  obtain ⟨a1, b1, c1, d1⟩ := s
  split
  · rename_i o _ _ heq
    cases heq
    obtain ⟨h2, h3, -, -, h5, -⟩ := h1 (Or.inl rfl)
    have := zt_out _ h2 (Or.inl (h3 rfl))
    dsimp only at h5 this ⊢
    omega
  · rename_i o _ _ heq
    cases heq
    obtain ⟨h2, -, h3, -, h5, -⟩ := h1 (Or.inr rfl)
    have := zt_out _ h2 (Or.inr (h3 rfl))
    dsimp only at h5 this ⊢
    omega
  · exact Nat.le_refl _
theorem zE_old {ca ca' : Nat → ClassId} {ad ad' : Nat → Nat} {u u2 : List (Nat × Nat)} {μ μ' : zM} {n k : Nat} (hn : n ≤ 403) (hk : k < n) (hc : zCls n u) (hca : ca' k = ca k) (had : ∀ k, k < n → ad' k = ad k) (hu : ∀ j, (k, j) ∈ u2 ↔ (k, j) ∈ u) (hμ : ∀ k, k < n → μ' k = μ k) : zE ca ad u μ k = zE ca' ad' u2 μ' k := by
  have hh : μ' (zHome k) = μ (zHome k) := hμ _ (Nat.lt_of_le_of_lt (zHome_lt (by omega)) hk)
  rw [zE_congr hh.symm]
  have h1 := hc k hk
  have h7 := zt_le k (by omega)
  unfold zE
  rw [hca]
  generalize hs : zSh k = s at h1 h7 ⊢
  obtain ⟨a, b, c, e⟩ := s
  have hf : a = 0 → ∀ j, zFv ad u μ' k j = zFv ad' u2 μ' k j := by
    intro ha j
    subst ha
    unfold zFv
    rw [hs]
    dsimp only
    split
    · rfl
    · rename_i h2
      by_cases h3 : (k, j) ∈ u
      · rw [if_pos h3, if_pos ((hu j).mpr h3)]
      · rw [if_neg h3, if_neg (fun q => h3 ((hu j).mp q)), had _ (h1.1 rfl j h2 h3)]
    · rfl
  match a, hf, h1, h7 with
  | 0, hf, _, _ => simp only; rw [List.map_congr_left (fun j _ => hf rfl j)]
  | 1, _, _, _ => rfl
  | 2, _, _, _ => rfl
  | 3, _, h1, _ =>
    simp only
    have h2 := h1.2 (Or.inl rfl)
    dsimp only at h2
    have e9 : (fun i => if i < c then some (ad (b + i)) else none) = (fun i => if i < c then some (ad' (b + i)) else none) := by
      funext i
      by_cases h : i < c
      · rw [if_pos h, if_pos h, had _ (by omega)]
      · rw [if_neg h, if_neg h]
    rw [e9]
  | 4, _, h1, _ =>
    simp only
    have h2 := h1.2 (Or.inr rfl)
    dsimp only at h2
    have e9 : (fun i => if i < c then some (ad (b + i)) else none) = (fun i => if i < c then some (ad' (b + i)) else none) := by
      funext i
      by_cases h : i < c
      · rw [if_pos h, if_pos h, had _ (by omega)]
      · rw [if_neg h, if_neg h]
    rw [e9]
  | 5, _, _, _ => rfl
  | 6, _, _, _ => rfl
  | a + 7, _, _, h7 => exact absurd (show a + 7 ≤ 6 from h7) (by omega)
theorem zD_of {A : Nat → Prop} {ws : va_W} {ca : Nat → ClassId} {ad : Nat → Nat} {n : Nat} {u : List (Nat × Nat)} {μ : zM} (hD : va_D A ws) (hw : ∀ k, k < n → ∃ e, ws[k]? = some (ad k, e)) : va_D A (zws ca ad n u μ) := by
  refine ⟨fun i j p q hp hq hpq => ?_, fun k q hq => ?_⟩
  · obtain ⟨hi, rfl⟩ := zws_get_inv hp
    obtain ⟨hj, rfl⟩ := zws_get_inv hq
    obtain ⟨e1, h1⟩ := hw i hi
    obtain ⟨e2, h2⟩ := hw j hj
    exact hD.1 i j _ _ h1 h2 hpq
  · obtain ⟨hk, rfl⟩ := zws_get_inv hq
    obtain ⟨e1, h1⟩ := hw k hk
    exact hD.2 k (ad k, e1) h1
/-- the world, longer -/
theorem zW_ext {s : State} {A : Nat → Prop} {D : va_G} {n t : Nat} {u u2 : List (Nat × Nat)} {ad ad' : Nat → Nat} {x m x' m' : zM} {H1 : Heap} {ca ca' : Nat → ClassId} {tys tys' : List (ClassId × FieldType)} {new : va_W} (hn : n + t ≤ 403)
    (hK : va_K D vwCl (tys ++ tys') s) (hP : va_P D vwCl (zws ca ad n u (zrd x m) ++ new) H1) (hD : va_D A (zws ca ad n u (zrd x m) ++ new)) (hty : ∀ k, k < n → (zSh k).1 ≠ 0 → ∃ t0 : Nat, tys[t0]? = some (ca k, zEt k)) (hg : ∀ k i, zRg k i (zrd x m k i)) (hc : zCls n u)
    (hca : ∀ k, k < n → ca' k = ca k) (had : ∀ k, k < n → ad' k = ad k) (hu : ∀ k, k < n → ∀ j, (k, j) ∈ u2 ↔ (k, j) ∈ u) (hμ : ∀ k i, zrd x' m' k i = if n ≤ k ∧ k < n + t then 0 else zrd x m k i) (hc2 : ∀ k, n ≤ k → k < n + t → ((zSh k).1 = 0 → ∀ j, (zTy (zSh k).2.1).getD j 0 = 2 → (k, j) ∈ u2) ∧ ((zSh k).1 = 3 ∨ (zSh k).1 = 4 → (zSh k).2.1 + (zSh k).2.2.1 ≤ n + t))
    (hty2 : ∀ k, n ≤ k → k < n + t → (zSh k).1 ≠ 0 → ∃ t0 : Nat, (tys ++ tys')[t0]? = some (ca' k, zEt k)) (hnew : ∀ i, i < t → ∃ e, new[i]? = some (ad' (n + i), e) ∧ zEq e (zE ca' ad' u2 (zrd x' m') (n + i))) : zW s A D (n + t) u2 ad' x' m' H1 := by
  have hall : ∀ k, k < n + t → ∃ e, (zws ca ad n u (zrd x m) ++ new)[k]? = some (ad' k, e) ∧ zEq e (zE ca' ad' u2 (zrd x' m') k) := by
    intro k hk
    by_cases h : k < n
    · refine ⟨zE ca ad u (zrd x m) k, ?_, zEq.of (zE_old (by omega) h hc (hca k h) had (hu k h) (fun k' hk' => ?_))⟩
      · rw [List.getElem?_append_left (by rw [zws_len]; exact h), zws_get h, had k h]
      · funext i
        rw [hμ, if_neg (by omega)]
    · obtain ⟨e, h1, h2⟩ := hnew (k - n) (by omega)
      rw [show n + (k - n) = k by omega] at h1 h2
      refine ⟨e, ?_, h2⟩
      rw [List.getElem?_append_right (by rw [zws_len]; omega), zws_len]
      exact h1
  refine ⟨ca', tys ++ tys', hK, zP_ext (ca := ca) (ad := ad) (u := u) (μ := zrd x m) hP hall, zD_of hD (fun k hk => (hall k hk).imp (fun e h => h.1)), fun k hk h0 => ?_, fun k i => ?_, fun k hk => ⟨fun h0 j hj hm => ?_, fun h3 => ?_⟩⟩
  · by_cases h : k < n
    · obtain ⟨t0, ht⟩ := hty k h h0
      refine ⟨t0, ?_⟩
      rw [List.getElem?_append_left (List.getElem?_eq_some_iff.mp ht).1, ht, hca k h]
    · exact hty2 k (by omega) hk h0
  · rw [hμ]
    split
    · unfold zRg
      cases zLg k i
      · exact ⟨by decide, by decide⟩
      · exact ⟨by decide, by decide⟩
    · exact hg k i
  · by_cases h : k < n
    · exact Nat.lt_of_lt_of_le ((hc k h).1 h0 j hj (fun q => hm ((hu k h j).mpr q))) (Nat.le_add_right _ _)
    · exact absurd ((hc2 k (by omega) hk).1 h0 j hj) hm
  · by_cases h : k < n
    · exact Nat.le_trans ((hc k h).2 h3) (Nat.le_add_right _ _)
    · exact (hc2 k (by omega) hk).2 h3
theorem zrd_zr {x m x' m' : zM} {n t : Nat} (h : (Nat.ble (n + t) 386 = true ∧ x' = zzr x n t ∧ m' = m) ∨ (Nat.ble 386 n = true ∧ x' = x ∧ m' = zzr m n t)) (k : Nat) (i : Int) : zrd x' m' k i = if n ≤ k ∧ k < n + t then 0 else zrd x m k i := by
  unfold zrd
  rcases h with ⟨h, rfl, rfl⟩ | ⟨h, rfl, rfl⟩
  · have h1 := Nat.le_of_ble_eq_true h
    by_cases h2 : Nat.ble k 385 = true
    · rw [h2]
      rfl
    · have h3 : ¬ k ≤ 385 := fun q => h2 (Nat.ble_eq_true_of_le q)
      rw [Bool.not_eq_true] at h2
      rw [h2, if_neg (by omega)]
      rfl
  · have h1 := Nat.le_of_ble_eq_true h
    by_cases h2 : Nat.ble k 385 = true
    · have h3 := Nat.le_of_ble_eq_true h2
      rw [h2, if_neg (by omega)]
      rfl
    · rw [Bool.not_eq_true] at h2
      rw [h2]
      rfl
theorem zzr_2000 {x m x' m' : zM} {n t : Nat} (hn : n + t ≤ 403) (h : (Nat.ble (n + t) 386 = true ∧ x' = zzr x n t ∧ m' = m) ∨ (Nat.ble 386 n = true ∧ x' = x ∧ m' = zzr m n t)) : m' 2000 = m 2000 := by
  rcases h with ⟨h, rfl, rfl⟩ | ⟨h, rfl, rfl⟩
  · rfl
  · funext i
    unfold zzr
    rw [if_neg (by omega)]
section ZG
variable {d y pc n n' : Nat} {ls : List (Nat × zV)} {st : List zV} {u u' : List (Nat × Nat)} {x m : zM} {Q : Int → zM → zM → Prop}
def zwNew (y idx ci : Nat) : List Cond := [Cond.classLink (zOw y) idx (zCl ci).1, Cond.instantiable (zCl ci).1 (zCl ci).2.2, Cond.initialized (zCl ci).1]
theorem wp_new {idx ci nf c : Nat} {x' m' : zM} (hd : decode (zCb y) pc = .ok (.new idx, 3)) (hs : zSh n = (0, ci, nf, c)) (hn : n < n') (hw : ∀ w ∈ zwNew y idx ci, w ∈ zgood) (hz : (Nat.ble (n + 1) 386 = true ∧ x' = zzr x n 1 ∧ m' = m) ∨ (Nat.ble 386 n = true ∧ x' = x ∧ m' = zzr m n 1)) (hu0 : ∀ k j, (k, j) ∈ u → k < n)
    (k : WP d y (pc + 3) ls (zr n :: st) (n + 1) (zun n ci ++ u) x' m' n' u' Q) : WP d y pc ls st n u x m n' u' Q := by
  intro p l e R s mi args below meth c0 QQ D A sc ro ad0 n0 E H locs ad lsl S
  obtain ⟨⟨hx, hb, -, hml, ho, ht, -⟩, ⟨r1, r2, r3, r4⟩, hA, -⟩ := id E
  obtain ⟨s1, s2, s3, s4, s5, ⟨s6, s6b, s6c⟩, s7, s8, s9⟩ := id S
  obtain ⟨ca, tys, w1, w2, w3, w4, w5, w6⟩ := id s1
  have hT := zt_sh n (by omega) (by rw [hs])
  rw [hs] at hT
  have hci : ci < 13 := hT.1
  have hnf : nf = (zCl ci).2.2 := hT.2
  have hlen : zLen n = nf := by (unfold zLen; rw [hs]; rfl)
  have hsl : zSl (n + 1) = zSl n + nf := by show zSl n + zLen n = _; rw [hlen]
  have hsl2 := zSl_mono (a := n + 1) (b := n') hn
  have hsl0 := zSl_mono s6
  have hz9 := zrd_zr hz
  have hfv : ∀ (ad : Nat → Nat) (j : Nat), j < nf → zFv ad (zun n ci ++ u) (zrd x' m') n j = defaultValue (zTf ci j) := by
    intro ad j hj
    have hkd := zt_kd ci hci j (by omega)
    unfold zFv
    rw [hs]
    dsimp only
    rw [hz9, if_pos (by omega)]
    generalize zTf ci j = ty at hkd
    split
    · rename_i h
      rw [h] at hkd
      cases ty <;> first | rfl | cases hkd
    · rename_i h
      rw [if_pos (List.mem_append_left _ (zun_mem.mpr ⟨rfl, h⟩))]
      rw [h] at hkd
      cases ty <;> first | rfl | cases hkd
    · rename_i h1 h2
      generalize hq : (zTy ci).getD j 0 = q at hkd h1 h2
      match q, h1, h2 with
      | 0, _, _ => cases ty <;> first | rfl | cases hkd
      | 1, h1, _ => exact absurd rfl h1
      | 2, _, h2 => exact absurd rfl h2
      | 3, _, _ => cases ty <;> first | rfl | cases hkd
      | q + 4, _, _ => cases ty <;> cases hkd
  refine va_new (D := D) (ci := ci) (fs := (List.range nf).map (zFv ad (zun n ci ++ u) (zrd x' m') n)) (C := (zCl ci).1) (T := (zCl ci).2.1) (N := (zCl ci).2.2) hx hb ht (zt_in ci hci) (zTf ci) (zt_ty ci hci) ho (ht _ (hw _ (List.mem_of_getElem? (i := 0) rfl))) (ht _ (hw _ (List.mem_of_getElem? (i := 1) rfl))) (ht _ (hw _ (List.mem_of_getElem? (i := 2) rfl))) w1 w2 w3 s2 hA (zt_vw ci hci) (fun j hj => ?_) (by omega) (by omega) hd (fun q H1 hP hD hS => ?_)
  · rw [vpV_at, List.getElem?_map, List.getElem?_range (by omega)]
    exact (hfv ad j (by omega)).symm
  · have had : ∀ k, k < n → (fun k => if k = n then q else ad k) k = ad k := fun k hk => if_neg (by omega)
    have hh : ∀ k, 2000 ≤ k → (fun k => if k = n then q else ad k) k = ad k := fun k hk => if_neg (by omega)
    have hW : zW s A D (n + 1) (zun n ci ++ u) (fun k => if k = n then q else ad k) x' m' H1 := by
      refine zW_ext (tys' := []) (ca := ca) (ca' := ca) (u := u) (by omega) (by rw [List.append_nil]; exact w1) hP hD w4 w5 w6 (fun _ _ => rfl) had (fun k hk j => ?_) hz9 (fun k h1 h2 => ?_) (fun k h1 h2 h0 => ?_) (fun i hi => ?_)
      · rw [List.mem_append]
        exact ⟨fun h => h.elim (fun q => absurd (zun_mem.mp q).1 (by omega)) id, Or.inr⟩
      · have e : k = n := by omega
        subst e
        rw [hs]
        exact ⟨fun _ j hj => List.mem_append_left _ (zun_mem.mpr ⟨rfl, hj⟩), fun h => by rcases h with h | h <;> cases h⟩
      · have e : k = n := by omega
        subst e
        rw [hs] at h0
        exact absurd rfl h0
      · have e : i = 0 := by omega
        subst e
        refine ⟨_, by rw [Nat.add_zero, if_pos rfl]; rfl, ?_⟩
        rw [Nat.add_zero, zE_obj hs]
        refine zEq.obj (fun j => ?_)
        rw [vpV_at, vpV_at, List.getElem?_map, List.getElem?_map]
        by_cases hj : j < nf
        · rw [List.getElem?_range hj]
          simp only [Option.map_some, Option.getD_some]
          rw [hfv _ j hj, hfv _ j hj]
        · rw [List.getElem?_eq_none (by simp; omega)]
          rfl
    have g := k p l e R s mi args below meth c0 QQ D A sc ro ad0 n0 E H1 locs (fun k => if k = n then q else ad k) lsl ⟨hW, hS, (zzr_2000 (by omega) hz).trans s3, fun k hk => (had k (by omega)).trans (s4 k hk), fun k hk => (hh k hk).trans (s5 k hk), ⟨by omega, by omega, s6c⟩, by
      show lv_has lsl (zMl y) (zMap _ ls)
      rw [zMap_same (n := n) had hh s8]
      exact s7, fun q hq => zOk_mono (by omega) (s8 q hq), zOk_cons (v := zr n) (Or.inl (by omega)) (fun v hv => zOk_mono (by omega) (s9 v hv))⟩
    have e1 : n + 1 - n0 = n - n0 + 1 := by omega
    have e2 : zSl (n + 1) - zSl n0 = zSl n - zSl n0 + (zCl ci).2.2 := by omega
    rw [e1, e2] at g
    have e3 : (zr n :: st).map (zc (fun k => if k = n then q else ad k)) = .ref q :: st.map (zc ad) := by
      rw [List.map_cons, zmap_same (n := n) had hh s9]
      show Value.ref (if n = n then q else ad n) :: _ = _
      rw [if_pos rfl]
    rw [e3] at g
    exact g
theorem wp_newa {lg : Bool} {len b c : Nat} {i : Int} {x' m' : zM} {at9 : ArrayType} (hat : at9 = if lg then .long else .int) (hd : decode (zCb y) pc = .ok (.newarray at9, 2)) (hs : zSh n = (if lg then 2 else 1, len, b, c)) (hi : i = len) (hl : len ≤ 100000) (hn : n < n') (hw : Cond.arrayClass (if lg then .long else .int) ∈ zgood) (hz : (Nat.ble (n + 1) 386 = true ∧ x' = zzr x n 1 ∧ m' = m) ∨ (Nat.ble 386 n = true ∧ x' = x ∧ m' = zzr m n 1)) (hu0 : ∀ k j, (k, j) ∈ u → k < n)
    (k : WP d y (pc + 2) ls (zr n :: st) (n + 1) u x' m' n' u' Q) : WP d y pc ls (zi i :: st) n u x m n' u' Q := by
  intro p l e R s mi args below meth c0 QQ D A sc ro ad0 n0 E H locs ad lsl S
  obtain ⟨⟨hx, hb, -, hml, ho, ht, -⟩, ⟨r1, r2, r3, r4⟩, hA, -⟩ := id E
  obtain ⟨s1, s2, s3, s4, s5, ⟨s6, s6b, s6c⟩, s7, s8, s9⟩ := id S
  obtain ⟨ca, tys, w1, w2, w3, w4, w5, w6⟩ := id s1
  have hlen : zLen n = len := by
    unfold zLen
    rw [hs]
    cases lg <;> rfl
  have hsl : zSl (n + 1) = zSl n + len := by show zSl n + zLen n = _; rw [hlen]
  have hsl2 := zSl_mono (a := n + 1) (b := n') hn
  have hsl0 := zSl_mono s6
  have hz9 := zrd_zr hz
  have hii : zIn i := zOk_hd s9
  have hk0 : (zSh n).1 ≠ 0 := by rw [hs]; cases lg <;> exact fun q => by cases q
  have hty : zEt n = if lg then .long else .int := by
    unfold zEt
    rw [hs]
    cases lg <;> rfl
  have hEn : ∀ (ca : Nat → ClassId) (ad : Nat → Nat), zEq (.inl (ca n, len, if lg then .inr (.inl (fun _ => 0)) else .inl (fun _ => 0))) (zE ca ad u (zrd x' m') n) := by
    intro ca ad
    unfold zE
    rw [hs]
    cases lg
    · refine zEq.ints (fun j hj => ?_)
      rw [hz9, if_pos (by omega)]
      rfl
    · refine zEq.longs (fun j hj => ?_)
      rw [hz9, if_pos (by omega)]
      rfl
  have fin : ∀ (q : Nat) (cA : ClassId) (H1 : Heap), va_K D vwCl (tys ++ [(cA, if lg then .long else .int)]) s → va_P D vwCl (zws ca ad n u (zrd x m) ++ [(q, .inl (cA, (len, if lg then .inr (.inl (fun _ => 0)) else .inl (fun _ => 0))))]) H1 → va_D A (zws ca ad n u (zrd x m) ++ [(q, .inl (cA, (len, if lg then .inr (.inl (fun _ => 0)) else .inl (fun _ => 0))))]) → va_S A s.heap H1 locs →
      W p l e R s mi args below meth c0 H1 locs (n - n0 + 1) (zSl n - zSl n0 + len) QQ (F0 mi (pc + 2) lsl (.ref q :: st.map (zc ad))) := by
    intro q cA H1 hK hP hD hS
    have had : ∀ k, k < n → (fun k => if k = n then q else ad k) k = ad k := fun k hk => if_neg (by omega)
    have hh : ∀ k, 2000 ≤ k → (fun k => if k = n then q else ad k) k = ad k := fun k hk => if_neg (by omega)
    have hW : zW s A D (n + 1) u (fun k => if k = n then q else ad k) x' m' H1 := by
      refine zW_ext (tys' := [(cA, if lg then .long else .int)]) (ca := ca) (ca' := fun k => if k = n then cA else ca k) (u := u) (by omega) hK hP hD w4 w5 w6 (fun k hk => if_neg (by omega)) had (fun k hk j => Iff.rfl) hz9 (fun k h1 h2 => ?_) (fun k h1 h2 h0 => ?_) (fun i hi => ?_)
      · have e : k = n := by omega
        subst e
        exact ⟨fun h => absurd h hk0, fun h => by rw [hs] at h; cases lg <;> rcases h with h | h <;> cases h⟩
      · have e : k = n := by omega
        subst e
        exact ⟨tys.length, by rw [List.getElem?_append_right (Nat.le_refl _), Nat.sub_self, hty]; simp⟩
      · have e : i = 0 := by omega
        subst e
        refine ⟨_, by rw [Nat.add_zero, if_pos rfl]; rfl, ?_⟩
        rw [Nat.add_zero]
        have := hEn (fun k => if k = n then cA else ca k) (fun k => if k = n then q else ad k)
        rw [if_pos rfl] at this
        exact this
    have g := k p l e R s mi args below meth c0 QQ D A sc ro ad0 n0 E H1 locs (fun k => if k = n then q else ad k) lsl ⟨hW, hS, (zzr_2000 (by omega) hz).trans s3, fun k hk => (had k (by omega)).trans (s4 k hk), fun k hk => (hh k hk).trans (s5 k hk), ⟨by omega, by omega, s6c⟩, by
      show lv_has lsl (zMl y) (zMap _ ls)
      rw [zMap_same (n := n) had hh s8]
      exact s7, fun q hq => zOk_mono (by omega) (s8 q hq), zOk_cons (v := zr n) (Or.inl (by omega)) (fun v hv => zOk_mono (by omega) (zOk_tl s9 v hv))⟩
    have e1 : n + 1 - n0 = n - n0 + 1 := by omega
    have e2 : zSl (n + 1) - zSl n0 = zSl n - zSl n0 + len := by omega
    rw [e1, e2] at g
    have e3 : (zr n :: st).map (zc (fun k => if k = n then q else ad k)) = .ref q :: st.map (zc ad) := by
      rw [List.map_cons, zmap_same (n := n) had hh (zOk_tl s9)]
      show Value.ref (if n = n then q else ad n) :: _ = _
      rw [if_pos rfl]
    rw [e3] at g
    exact g
  have hnn : ¬ Int32.ofInt i < 0 := fun q => by
    have := (z32_lt hii (show zIn 0 from ⟨by decide, by decide⟩)).mp q
    omega
  have hcl : (Int32.ofInt i).toNatClampNeg = len := by rw [z32_clamp hii (by omega)]; omega
  subst hat
  cases lg with
  | false => exact va_newa (atype := .int) (ty := .int) (a0 := (len, .inl (fun _ => 0))) hx hb (ht _ hw) rfl w1 w2 w3 s2 hA (fun cA => rfl) hnn hcl (by show len * 4 ≤ _; omega) (by omega) (by omega) hd fin
  | true => exact va_newa (atype := .long) (ty := .long) (a0 := (len, .inr (.inl (fun _ => 0)))) hx hb (ht _ hw) rfl w1 w2 w3 s2 hA (fun cA => rfl) hnn hcl (by show len * 8 ≤ _; omega) (by omega) (by omega) hd fin
end ZG
