/-! references set by constructors; arrays -/
section ZA
variable {d y pc n n' : Nat} {ls : List (Nat × zV)} {st : List zV} {u u' : List (Nat × Nat)} {x m : zM} {Q : Int → zM → zM → Prop} {a b z : Int}
/-- putfield of a reference, by a constructor -/
theorem wp_putref {idx k ci nf c j t : Nat} (hd : decode (zCb y) pc = .ok (.putfield idx, 3)) (hk : k < n) (hn : n ≤ 403) (hs : zSh k = (0, ci, nf, c)) (hj : j < nf) (hl : Cond.fieldLink (zOw y) idx ((zCl ci).2.1 j).1 ((zCl ci).2.1 j).2.1 ((zCl ci).2.1 j).2.2.1 ∈ zgood)
    (hf : ((zCl ci).2.1 j).2.2.2 = true) (hi : zIs y = true) (hdc : ((zCl ci).2.1 j).1 = zOw y) (hty : (zTy ci).getD j 0 = 2) (ht : (zRf k).getD j 0 = t) (kk : WP d y (pc + 3) ls st n (u.filter (fun q => !(q == (k, j)))) x m n' u' Q) : WP d y pc ls (zr t :: zr k :: st) n u x m n' u' Q := by
  have hT := zt_sh k (by omega) (by rw [hs])
  rw [hs] at hT
  have hci : ci < 13 := hT.1
  have hnf : nf = (zCl ci).2.2 := hT.2
  have hkd := zt_kd ci hci j (by omega)
  have hmem : ∀ q : Nat × Nat, q ∈ u.filter (fun q => !(q == (k, j))) ↔ q ∈ u ∧ q ≠ (k, j) := by
    intro q
    simp
  have hfit : ∀ ad : Nat → Nat, narrow (zTf ci j) (zc ad (zr t)) = zc ad (zr t) ∧ fits (zTf ci j) (zc ad (zr t)) = true := by
    intro ad
    generalize zTf ci j = ty at hkd
    rw [hty] at hkd
    cases ty <;> first | exact ⟨rfl, rfl⟩ | cases hkd
  have hoth : ∀ (ad : Nat → Nat) (k' i : Nat), (k', i) ≠ (k, j) → zFv ad u (zrd x m) k' i = zFv ad (u.filter (fun q => !(q == (k, j)))) (zrd x m) k' i := by
    intro ad k' i h
    unfold zFv
    split
    · rfl
    · by_cases h2 : (k', i) ∈ u
      · rw [if_pos h2, if_pos ((hmem _).mpr ⟨h2, h⟩)]
      · rw [if_neg h2, if_neg (fun q => h2 ((hmem _).mp q).1)]
    · rfl
  refine wp_wr (q0 := k) (u2 := u.filter (fun q => !(q == (k, j)))) (x' := x) (m' := m) hk (fun ca ad => .inr (ci, ((List.range nf).map (zFv ad u (zrd x m) k)).set j (zc ad (zr t)))) (fun {p l e R s mi args below meth cc H locs cells slots QQ D A ad ca tys lsl} hx hb how hts hin w1 w2 w3 hS w4 s9 g => ?_) (fun ca ad => ?_) (fun ca ad k' hk' hne' => zEq.of ?_) rfl (fun h5 h9 => h5) (fun hc h9 k' hk' => ⟨fun h0 j' hj' hm => ?_, (hc k' hk').2⟩) (fun h => zOk_tl (zOk_tl h)) kk
  · exact va_putF (D := D) (ci := ci) (v := zc ad (zr t)) (ty := zTf ci j) (C := (zCl ci).1) (T := (zCl ci).2.1) (N := (zCl ci).2.2) hx hb hts (zt_in ci hci) (zTf ci) (zt_ty ci hci) (zt_nm ci hci) how w1 w2 w3 hS k (by rw [zws_get hk, zE_obj hs]) (zt_vw ci hci) j (by omega) (hts _ hl) (fun _ h => h) hf (hin hi) hdc (zt_ty ci hci j (by omega)) (hfit ad).1 (hfit ad).2 (by simpa using hj) hd g
  · rw [zE_obj hs]
    refine zEq.obj (fun i => ?_)
    rw [vpV_at, vpV_at, List.getElem?_set]
    by_cases hi2 : j = i
    · subst hi2
      have e2 : zFv ad (u.filter (fun q => !(q == (k, j)))) (zrd x m) k j = zc ad (zr t) := by
        rw [zFv_ref (by rw [hs]) hty (fun q => ((hmem _).mp q).2 rfl), ht]
      simp [hj, e2]
    · simp only [if_neg hi2, List.getElem?_map]
      by_cases h3 : i < nf
      · rw [List.getElem?_range h3]
        show zFv ad u (zrd x m) k i = zFv ad _ (zrd x m) k i
        exact hoth ad k i (fun q => hi2 (by cases q; rfl))
      · rw [List.getElem?_eq_none (by simp; omega)]
        rfl
  · unfold zE
    split
    · refine congrArg _ (congrArg _ (List.map_congr_left (fun i _ => hoth ad k' i (fun q => hne' (by cases q; rfl)))))
    all_goals rfl
  · by_cases h : (k', j') = (k, j)
    · cases h
      rw [ht]
      rcases zOk_hd h9 with q | q
      · exact q
      · exfalso
        have := zt_rf k (by omega) j (by rw [hs]; exact hj)
        omega
    · exact (hc k' hk').1 h0 j' hj' (fun q => hm ((hmem _).mpr ⟨q, h⟩))
end ZA
/-- memories that differ at an array's own places alone -/
def zAt (kp : Nat) (off : Int) (len : Nat) (μ μ' : zM) : Prop := ∀ k i, ¬ (k = kp ∧ off ≤ i ∧ i < off + len) → μ' k i = μ k i
/-- where an array's components stand in the memory -/
def zAr (v : zV) (q0 kp : Nat) (off : Int) (len : Nat) (lg : Bool) : Prop :=
  (∀ ad, zc ad v = .ref (ad q0)) ∧ kp < 403 ∧ (zSh q0).1 ≠ 0 ∧ (∀ i, zLg kp i = lg) ∧ zEt q0 = (if lg then .long else .int) ∧
  (∀ (ca : Nat → ClassId) (ad : Nat → Nat) (u : List (Nat × Nat)) (μ : zM), zE ca ad u μ q0 = .inl (ca q0, len, if lg then .inr (.inl (fun j : Nat => Int64.ofInt (μ kp (off + j)))) else .inl (fun j : Nat => Int32.ofInt (μ kp (off + j))))) ∧
  (∀ q, q < 403 → q ≠ q0 → ∀ (ca : Nat → ClassId) (ad : Nat → Nat) (u : List (Nat × Nat)) (μ μ' : zM), zAt kp off len μ μ' → zEq (zE ca ad u μ q) (zE ca ad u μ' q))
theorem zAt_row {kp : Nat} {off : Int} {len : Nat} {μ μ' : zM} (h : zAt kp off len μ μ') {k : Nat} (hk : k ≠ kp) : μ k = μ' k := funext fun i => (h k i (fun q => hk q.1)).symm
theorem zAr_int {k len b c : Nat} (hk : k < 403) (hs : zSh k = (1, len, b, c)) : zAr (zr k) k k 0 len false := by
  refine ⟨fun _ => rfl, hk, fun q => by (rw [hs] at q; cases q), fun i => by (unfold zLg; rw [hs]; rfl), by unfold zEt; rw [hs]; rfl, fun ca ad u μ => ?_, fun q hq hne ca ad u μ μ' h => ?_⟩
  · unfold zE
    rw [hs]
    simp
  · by_cases h2 : zHome q = k
    · exfalso
      have h1 := zt_len q hq
      unfold zHome at h2
      generalize hs' : zSh q = s' at h1 h2
      obtain ⟨a1, b1, c1, d1⟩ := s'
      split at h2
      · rename_i o _ _ heq
        cases heq
        have h3 := (h1 (Or.inl rfl)).2.1 rfl
        subst h2
        rw [hs] at h3
        cases h3
      · rename_i o _ _ heq
        cases heq
        have h3 := (h1 (Or.inr rfl)).2.2.1 rfl
        subst h2
        rw [hs] at h3
        cases h3
      · exact hne h2
    · exact zEq.of (zE_congr (zAt_row h h2))
theorem zAr_long {k len b c : Nat} (hk : k < 403) (hs : zSh k = (2, len, b, c)) : zAr (zr k) k k 0 len true := by
  refine ⟨fun _ => rfl, hk, fun q => by (rw [hs] at q; cases q), fun i => by (unfold zLg; rw [hs]; rfl), by unfold zEt; rw [hs]; rfl, fun ca ad u μ => ?_, fun q hq hne ca ad u μ μ' h => ?_⟩
  · unfold zE
    rw [hs]
    simp
  · by_cases h2 : zHome q = k
    · exfalso
      have h1 := zt_len q hq
      unfold zHome at h2
      generalize hs' : zSh q = s' at h1 h2
      obtain ⟨a1, b1, c1, d1⟩ := s'
      split at h2
      · rename_i o _ _ heq
        cases heq
        have h3 := (h1 (Or.inl rfl)).2.1 rfl
        subst h2
        rw [hs] at h3
        cases h3
      · rename_i o _ _ heq
        cases heq
        have h3 := (h1 (Or.inr rfl)).2.2.1 rfl
        subst h2
        rw [hs] at h3
        cases h3
      · exact hne h2
    · exact zEq.of (zE_congr (zAt_row h h2))
theorem zrow_apart {i i' w j : Nat} (hne : i' ≠ i) (hj : j < w) : ¬ (((i : Int) * w ≤ (i' : Int) * w + j) ∧ ((i' : Int) * w + j < (i : Int) * w + w)) := by
  intro ⟨h1, h2⟩
  rcases Nat.lt_or_ge i' i with h | h
  · have : (i' + 1) * w ≤ i * w := Nat.mul_le_mul_right w h
    have h3 : ((i' : Int) + 1) * w ≤ (i : Int) * w := by exact_mod_cast this
    rw [Int.add_mul] at h3
    omega
  · have : (i + 1) * w ≤ i' * w := Nat.mul_le_mul_right w (by omega)
    have h3 : ((i : Int) + 1) * w ≤ (i' : Int) * w := by exact_mod_cast this
    rw [Int.add_mul] at h3
    omega
theorem zAr_rowi {o b nn w : Nat} {i : Int} (ho : o < 403) (hs : zSh o = (3, b, nn, w)) (hi : 0 ≤ i ∧ i < nn) : zAr (zw o i) (b + i.toNat) o (i * w) w false := by
  have hr := zt_row3 o ho (by rw [hs]) i.toNat (by rw [hs]; show _ < nn; omega)
  rw [hs] at hr
  obtain ⟨hr1, hr2⟩ := hr
  dsimp only at hr1 hr2
  have hii : ((i.toNat : Nat) : Int) = i := by omega
  refine ⟨fun ad => ?_, ho, fun q => by (rw [hr1] at q; cases q), fun i => by (unfold zLg; rw [hs]; rfl), by unfold zEt; rw [hr1]; rfl, fun ca ad u μ => ?_, fun q hq hne ca ad u μ μ' h => ?_⟩
  · show Value.ref (ad ((zSh o).2.1 + i.toNat)) = _
    rw [hs]
  · unfold zE
    rw [hr1]
    simp [hii]
  · by_cases h2 : zHome q = o
    · have h1 := zt_len q hq
      unfold zHome at h2
      generalize hs' : zSh q = s' at h1 h2
      obtain ⟨a1, b1, c1, d1⟩ := s'
      split at h2
      · rename_i o' c' d' heq
        cases heq
        subst h2
        obtain ⟨-, -, -, h5, h6, h7⟩ := h1 (Or.inl rfl)
        rw [hs] at h5 h6 h7
        dsimp only at h5 h6 h7
        subst h5
        unfold zE
        rw [hs']
        refine zEq.ints (fun j hj => congrArg _ ?_)
        refine (h _ _ (fun q => ?_)).symm
        have h8 := zrow_apart (i := i.toNat) (i' := c1) (w := d1) (j := j) (fun e => hne (by rw [h6, e])) hj
        rw [hii] at h8
        exact h8 ⟨q.2.1, q.2.2⟩
      · rename_i o' _ _ heq
        cases heq
        have h3 := (h1 (Or.inr rfl)).2.2.1 rfl
        subst h2
        rw [hs] at h3
        cases h3
      · subst h2
        unfold zE
        rw [hs]
        exact zEq.rf _
    · exact zEq.of (zE_congr (zAt_row h h2))
theorem zAr_rowl {o b nn w : Nat} {i : Int} (ho : o < 403) (hs : zSh o = (4, b, nn, w)) (hi : 0 ≤ i ∧ i < nn) : zAr (zw o i) (b + i.toNat) o (i * w) w true := by
  have hr := zt_row4 o ho (by rw [hs]) i.toNat (by rw [hs]; show _ < nn; omega)
  rw [hs] at hr
  obtain ⟨hr1, hr2⟩ := hr
  dsimp only at hr1 hr2
  have hii : ((i.toNat : Nat) : Int) = i := by omega
  refine ⟨fun ad => ?_, ho, fun q => by (rw [hr1] at q; cases q), fun i => by (unfold zLg; rw [hs]; rfl), by unfold zEt; rw [hr1]; rfl, fun ca ad u μ => ?_, fun q hq hne ca ad u μ μ' h => ?_⟩
  · show Value.ref (ad ((zSh o).2.1 + i.toNat)) = _
    rw [hs]
  · unfold zE
    rw [hr1]
    simp [hii]
  · by_cases h2 : zHome q = o
    · have h1 := zt_len q hq
      unfold zHome at h2
      generalize hs' : zSh q = s' at h1 h2
      obtain ⟨a1, b1, c1, d1⟩ := s'
      split at h2
      · rename_i o' _ _ heq
        cases heq
        have h3 := (h1 (Or.inl rfl)).2.1 rfl
        subst h2
        rw [hs] at h3
        cases h3
      · rename_i o' c' d' heq
        cases heq
        subst h2
        obtain ⟨-, -, -, h5, h6, h7⟩ := h1 (Or.inr rfl)
        rw [hs] at h5 h6 h7
        dsimp only at h5 h6 h7
        subst h5
        unfold zE
        rw [hs']
        refine zEq.longs (fun j hj => congrArg _ ?_)
        refine (h _ _ (fun q => ?_)).symm
        have h8 := zrow_apart (i := i.toNat) (i' := c1) (w := d1) (j := j) (fun e => hne (by rw [h6, e])) hj
        rw [hii] at h8
        exact h8 ⟨q.2.1, q.2.2⟩
      · subst h2
        unfold zE
        rw [hs]
        exact zEq.rf _
    · exact zEq.of (zE_congr (zAt_row h h2))
section ZB
variable {d y pc n n' : Nat} {ls : List (Nat × zV)} {st : List zV} {u u' : List (Nat × Nat)} {x m : zM} {Q : Int → zM → zM → Prop} {z i off : Int} {v : zV} {q0 kp len : Nat}
theorem zRg_i {μ : zM} {k : Nat} {i : Int} (h : zLg k i = false) (hr : ∀ k i, zRg k i (μ k i)) : zIn (μ k i) := by
  have := hr k i
  unfold zRg at this
  rw [h] at this
  exact this
theorem zRg_l {μ : zM} {k : Nat} {i : Int} (h : zLg k i = true) (hr : ∀ k i, zRg k i (μ k i)) : zLn (μ k i) := by
  have := hr k i
  unfold zRg at this
  rw [h] at this
  exact this
theorem wp_iald (hd : decode (zCb y) pc = .ok (.iaload, 1)) (hA : zAr v q0 kp off len false) (hq : q0 < n) (hi : 0 ≤ i ∧ i < len) (k : WP d y (pc + 1) ls (zi (zrd x m kp (off + i)) :: st) n u x m n' u' Q) : WP d y pc ls (zi i :: v :: st) n u x m n' u' Q := by
  obtain ⟨h1, h2, h3, h4, h5, h6, h7⟩ := hA
  refine wp_hp (fun {p l e R s mi args below meth cc H locs cells slots QQ D A ad ca tys lsl} hx hb how ht w1 w2 w4 s9 g => ?_) (fun _ h s9 => zOk_cons (v := zi _) (zRg_i (h4 _) h) (zOk_tl (zOk_tl s9))) k
  obtain ⟨t0, ht0⟩ := w4 q0 hq h3
  have hii : zIn i := zOk_hd s9
  rw [h5] at ht0
  show W _ _ _ _ _ _ _ _ _ _ _ _ _ _ _ (F0 mi pc lsl (.int (Int32.ofInt i) :: zc ad v :: st.map (zc ad)))
  rw [h1 ad]
  refine va_iald (n := len) (f := fun j : Nat => Int32.ofInt (zrd x m kp (off + j))) hx hb w1 w2 q0 t0 (by rw [zws_get hq, h6]; rfl) ht0 (zvp_in hii hi) hd ?_
  rw [z32_clamp hii hi.1]
  have e : ((i.toNat : Nat) : Int) = i := by omega
  simp only [e]
  exact g
theorem wp_lald (hd : decode (zCb y) pc = .ok (.laload, 1)) (hA : zAr v q0 kp off len true) (hq : q0 < n) (hi : 0 ≤ i ∧ i < len) (k : WP d y (pc + 1) ls (zl (zrd x m kp (off + i)) :: st) n u x m n' u' Q) : WP d y pc ls (zi i :: v :: st) n u x m n' u' Q := by
  obtain ⟨h1, h2, h3, h4, h5, h6, h7⟩ := hA
  refine wp_hp (fun {p l e R s mi args below meth cc H locs cells slots QQ D A ad ca tys lsl} hx hb how ht w1 w2 w4 s9 g => ?_) (fun _ h s9 => zOk_cons (v := zl _) (zRg_l (h4 _) h) (zOk_tl (zOk_tl s9))) k
  obtain ⟨t0, ht0⟩ := w4 q0 hq h3
  have hii : zIn i := zOk_hd s9
  rw [h5] at ht0
  show W _ _ _ _ _ _ _ _ _ _ _ _ _ _ _ (F0 mi pc lsl (.int (Int32.ofInt i) :: zc ad v :: st.map (zc ad)))
  rw [h1 ad]
  refine va_lald (n := len) (f := fun j : Nat => Int64.ofInt (zrd x m kp (off + j))) hx hb w1 w2 q0 t0 (by rw [zws_get hq, h6]; rfl) ht0 (zvp_in hii hi) hd ?_
  rw [z32_clamp hii hi.1]
  have e : ((i.toNat : Nat) : Int) = i := by omega
  simp only [e]
  exact g
theorem zAt_upd {μ : zM} (hi : 0 ≤ i ∧ i < len) : zAt kp off len μ (zupd μ kp (off + i) z) := by
  intro k j h
  unfold zupd
  rw [if_neg]
  intro ⟨h1, h2⟩
  exact h ⟨h1, by omega, by omega⟩
theorem wp_iast {x' m' : zM} (hd : decode (zCb y) pc = .ok (.iastore, 1)) (hA : zAr v q0 kp off len false) (hq : q0 < n) (hn : n ≤ 403) (hi : 0 ≤ i ∧ i < len) (hw : (Nat.ble kp 385 = true ∧ x' = zupd x kp (off + i) z ∧ m' = m) ∨ (Nat.ble kp 385 = false ∧ x' = x ∧ m' = zupd m kp (off + i) z))
    (k : WP d y (pc + 1) ls st n u x' m' n' u' Q) : WP d y pc ls (zi z :: zi i :: v :: st) n u x m n' u' Q := by
  obtain ⟨h1, h2, h3, h4, h5, h6, h7⟩ := hA
  have eM := zwr_row hw
  refine wp_wr (q0 := q0) (u2 := u) hq (fun ca ad => .inl (ca q0, len, .inl (upd (fun j : Nat => Int32.ofInt (zrd x m kp (off + j))) i.toNat (Int32.ofInt z)))) (fun {p l e R s mi args below meth cc H locs cells slots QQ D A ad ca tys lsl} hx hb how ht hin w1 w2 w3 hS w4 s9 g => ?_) (fun ca ad => ?_) (fun ca ad k' hk' hne' => by rw [eM]; exact h7 k' (by omega) hne' ca ad u _ _ (zAt_upd hi)) (zwr_2000 h2 hw) (fun h5 h9 => zwr_rg eM h5 (by unfold zRg; rw [h4]; exact zOk_hd h9)) (fun h _ => h) (fun h => zOk_tl (zOk_tl (zOk_tl h))) k
  · obtain ⟨t0, ht0⟩ := w4 q0 hq h3
    have hii : zIn i := zOk_hd (zOk_tl s9)
    rw [h5] at ht0
    show W _ _ _ _ _ _ _ _ _ _ _ _ _ _ _ (F0 mi pc lsl (.int (Int32.ofInt z) :: .int (Int32.ofInt i) :: zc ad v :: st.map (zc ad)))
    rw [h1 ad]
    refine va_iast (n := len) (f := fun j : Nat => Int32.ofInt (zrd x m kp (off + j))) hx hb w1 w2 w3 hS q0 t0 (by rw [zws_get hq, h6]; rfl) ht0 (zvp_in hii hi) hd ?_
    rw [z32_clamp hii hi.1]
    exact g
  · rw [h6, eM]
    refine zEq.ints (fun j hj => ?_)
    by_cases e : j = i.toNat
    · subst e
      have e2 : ((i.toNat : Nat) : Int) = i := by omega
      simp [upd, zupd, e2]
    · have e2 : (j : Int) ≠ i := by omega
      simp [upd, zupd, e, e2]
theorem wp_last {x' m' : zM} (hd : decode (zCb y) pc = .ok (.lastore, 1)) (hA : zAr v q0 kp off len true) (hq : q0 < n) (hn : n ≤ 403) (hi : 0 ≤ i ∧ i < len) (hw : (Nat.ble kp 385 = true ∧ x' = zupd x kp (off + i) z ∧ m' = m) ∨ (Nat.ble kp 385 = false ∧ x' = x ∧ m' = zupd m kp (off + i) z))
    (k : WP d y (pc + 1) ls st n u x' m' n' u' Q) : WP d y pc ls (zl z :: zi i :: v :: st) n u x m n' u' Q := by
  obtain ⟨h1, h2, h3, h4, h5, h6, h7⟩ := hA
  have eM := zwr_row hw
  refine wp_wr (q0 := q0) (u2 := u) hq (fun ca ad => .inl (ca q0, len, .inr (.inl (vp_updL (fun j : Nat => Int64.ofInt (zrd x m kp (off + j))) i.toNat (Int64.ofInt z))))) (fun {p l e R s mi args below meth cc H locs cells slots QQ D A ad ca tys lsl} hx hb how ht hin w1 w2 w3 hS w4 s9 g => ?_) (fun ca ad => ?_) (fun ca ad k' hk' hne' => by rw [eM]; exact h7 k' (by omega) hne' ca ad u _ _ (zAt_upd hi)) (zwr_2000 h2 hw) (fun h5 h9 => zwr_rg eM h5 (by unfold zRg; rw [h4]; exact zOk_hd h9)) (fun h _ => h) (fun h => zOk_tl (zOk_tl (zOk_tl h))) k
  · obtain ⟨t0, ht0⟩ := w4 q0 hq h3
    have hii : zIn i := zOk_hd (zOk_tl s9)
    rw [h5] at ht0
    show W _ _ _ _ _ _ _ _ _ _ _ _ _ _ _ (F0 mi pc lsl (.long (Int64.ofInt z) :: .int (Int32.ofInt i) :: zc ad v :: st.map (zc ad)))
    rw [h1 ad]
    refine va_last (n := len) (f := fun j : Nat => Int64.ofInt (zrd x m kp (off + j))) hx hb w1 w2 w3 hS q0 t0 (by rw [zws_get hq, h6]; rfl) ht0 (zvp_in hii hi) hd ?_
    rw [z32_clamp hii hi.1]
    exact g
  · rw [h6, eM]
    refine zEq.longs (fun j hj => ?_)
    by_cases e : j = i.toNat
    · subst e
      have e2 : ((i.toNat : Nat) : Int) = i := by omega
      simp [vp_updL, zupd, e2]
    · have e2 : (j : Int) ≠ i := by omega
      simp [vp_updL, zupd, e, e2]
end ZB
