/-! references set by constructors; arrays -/
section ZA
variable {d y pc n n' : Nat} {ls : List (Nat × zV)} {st : List zV} {u u' : List (Nat × Nat)} {x m : zM} {Q : Int → zM → zM → Prop} {a b z : Int}
/-- putfield of a reference, by a constructor -/
theorem wp_putref {idx k ci nf c j t : Nat} (hd : decode (zCb y) pc = .ok (.putfield idx, 3)) (hk : k < n) (hn : n ≤ 403) (hs : zSh k = (0, ci, nf, c)) (hj : j < nf) (hl : Cond.fieldLink (zOw y) idx ((zCl ci).2.1 j).1 ((zCl ci).2.1 j).2.1 ((zCl ci).2.1 j).2.2.1 ∈ zgood)
    (hf : ((zCl ci).2.1 j).2.2.2 = true) (hi : zIs y = true) (hdc : ((zCl ci).2.1 j).1 = zOw y) (hty : (zTy ci).getD j 0 = 2) (ht : (zRf k).getD j 0 = t) (kk : WP d y (pc + 3) ls st n (u.filter (fun q => !(q == (k, j)))) x m n' u' Q) : WP d y pc ls (zr t :: zr k :: st) n u x m n' u' Q := by
  have hT := zt_sh k (by omega) (by rw [hs])
  rw [hs] at hT
  have hci : ci < 13 := hT.1
  have hnf : nf = (zCl ci).2.2 := hT.2
  have hkd := zt_kd ci hci j (by omega)
  have hmem : ∀ q : Nat × Nat, q ∈ u.filter (fun q => !(q == (k, j))) ↔ q ∈ u ∧ q ≠ (k, j) := by
    intro q
    simp
  have hfit : ∀ ad : Nat → Nat, narrow (zTf ci j) (zc ad (zr t)) = zc ad (zr t) ∧ fits (zTf ci j) (zc ad (zr t)) = true := by
    intro ad
    generalize zTf ci j = ty at hkd
    rw [hty] at hkd
    cases ty <;> first | exact ⟨rfl, rfl⟩ | cases hkd
  have hoth : ∀ (ad : Nat → Nat) (k' i : Nat), (k', i) ≠ (k, j) → zFv ad u (zrd x m) k' i = zFv ad (u.filter (fun q => !(q == (k, j)))) (zrd x m) k' i := by
    intro ad k' i h
    unfold zFv
    split
    · rfl
    · by_cases h2 : (k', i) ∈ u
      · rw [if_pos h2, if_pos ((hmem _).mpr ⟨h2, h⟩)]
      · rw [if_neg h2, if_neg (fun q => h2 ((hmem _).mp q).1)]
    · rfl
  refine wp_wr (q0 := k) (u2 := u.filter (fun q => !(q == (k, j)))) (x' := x) (m' := m) hk (fun ca ad => .inr (ci, ((List.range nf).map (zFv ad u (zrd x m) k)).set j (zc ad (zr t)))) (fun {p l e R s mi args below meth cc H locs cells slots QQ D A ad ca tys lsl} hx hb how hts hin w1 w2 w3 hS w4 s9 g => ?_) (fun ca ad => ?_) (fun ca ad k' hk' hne' => zEq.of ?_) rfl (fun h5 h9 => h5) (fun h => zOk_tl (zOk_tl h)) kk
  · exact va_putF (D := D) (ci := ci) (v := zc ad (zr t)) (ty := zTf ci j) (C := (zCl ci).1) (T := (zCl ci).2.1) (N := (zCl ci).2.2) hx hb hts (zt_in ci hci) (zTf ci) (zt_ty ci hci) (zt_nm ci hci) how w1 w2 w3 hS k (by rw [zws_get hk, zE_obj hs]) (zt_vw ci hci) j (by omega) (hts _ hl) (fun _ h => h) hf (hin hi) hdc (zt_ty ci hci j (by omega)) (hfit ad).1 (hfit ad).2 (by simpa using hj) hd g
  · rw [zE_obj hs]
    refine zEq.obj (fun i => ?_)
    rw [vpV_at, vpV_at, List.getElem?_set]
    by_cases hi2 : j = i
    · subst hi2
      have e2 : zFv ad (u.filter (fun q => !(q == (k, j)))) (zrd x m) k j = zc ad (zr t) := by
        rw [zFv_ref (by rw [hs]) hty (fun q => ((hmem _).mp q).2 rfl), ht]
      simp [hj, e2]
    · simp only [if_neg hi2, List.getElem?_map]
      by_cases h3 : i < nf
      · rw [List.getElem?_range h3]
        show zFv ad u (zrd x m) k i = zFv ad _ (zrd x m) k i
        exact hoth ad k i (fun q => hi2 (by cases q; rfl))
      · rw [List.getElem?_eq_none (by simp; omega)]
        rfl
  · unfold zE
    split
    · refine congrArg _ (congrArg _ (List.map_congr_left (fun i _ => hoth ad k' i (fun q => hne' (by cases q; rfl)))))
    all_goals rfl
/-- where an array's components stand in the memory -/
def zAr (v : zV) (q0 kp : Nat) (off : Int) (len : Nat) (ty : Nat) : Prop :=
  (∀ ad, zc ad v = .ref (ad q0)) ∧ zHome q0 = kp ∧ kp < 403 ∧ (zSh q0).1 ≠ 0 ∧ (∀ i, zLg kp i = Nat.beq ty 1) ∧ zEt q0 = (match ty with | 1 => .long | _ => .int) ∧
  (∀ (ca : Nat → ClassId) (ad : Nat → Nat) (u : List (Nat × Nat)) (μ : zM), zE ca ad u μ q0 = .inl (ca q0, len, match ty with | 1 => .inr (.inl (fun j : Nat => Int64.ofInt (μ kp (off + j)))) | _ => .inl (fun j : Nat => Int32.ofInt (μ kp (off + j))))) ∧
  (∀ q, q < 403 → q ≠ q0 → zHome q = kp → ∃ (off' : Int), (∀ i j : Nat, i < len → j < zLen q → off + (i : Int) ≠ off' + (j : Int)) ∧ ∀ (ca : Nat → ClassId) (ad : Nat → Nat) (u : List (Nat × Nat)) (μ : zM), zEq (zE ca ad u μ q) (.inl (ca q, zLen q, match ty with | 1 => .inr (.inl (fun j : Nat => Int64.ofInt (μ kp (off' + j)))) | _ => .inl (fun j : Nat => Int32.ofInt (μ kp (off' + j))))) ∧ zEq (.inl (ca q, zLen q, match ty with | 1 => .inr (.inl (fun j : Nat => Int64.ofInt (μ kp (off' + j)))) | _ => .inl (fun j : Nat => Int32.ofInt (μ kp (off' + j))))) (zE ca ad u μ q))
end ZA
