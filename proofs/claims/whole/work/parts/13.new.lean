/-! copying of arrays; what constructors make -/
section ZF
variable {d y pc n n' : Nat} {ls : List (Nat × zV)} {st : List zV} {u u' : List (Nat × Nat)} {x m : zM} {Q : Int → zM → zM → Prop}
theorem zrd_cpy {x m : zM} {k1 k2 : Nat} {sp dp cnt : Int} (h1 : Nat.ble k1 385 = true) (h2 : Nat.ble k2 385 = true) : zrd (zcpy x k1 sp k2 dp cnt) m = zcpy (zrd x m) k1 sp k2 dp cnt := by
  funext k' i'
  unfold zrd zcpy
  by_cases e : k' = k2
  · subst e
    simp [h1, h2]
  · by_cases h3 : Nat.ble k' 385 = true <;> simp [h3, e]
theorem wp_cpy {idx q1 q2 k1 k2 len1 len2 : Nat} {v1 v2 : zV} {off1 off2 sp dp cnt : Int} {lg : Bool} (hd : decode (zCb y) pc = .ok (.invokestatic idx, 3)) (hw : ∀ w ∈ zwCpy y idx, w ∈ zgood) (hdd : 1 ≤ d) (hrm : (st.map zcat).sum ≤ 8)
    (hA1 : zAr v1 q1 k1 off1 len1 lg) (hA2 : zAr v2 q2 k2 off2 len2 lg) (hq1 : q1 < n) (hq2 : q2 < n) (hn : n ≤ 403) (hb1 : Nat.ble k1 385 = true) (hb2 : Nat.ble k2 385 = true)
    (hc : 0 ≤ sp ∧ 0 ≤ dp ∧ 0 ≤ cnt ∧ sp + cnt ≤ len1 ∧ dp + cnt ≤ len2) (k : WP d y (pc + 3) ls st n u (zcpy x k1 (off1 + sp) k2 (off2 + dp) cnt) m n' u' Q) : WP d y pc ls (zi cnt :: zi dp :: v2 :: zi sp :: v1 :: st) n u x m n' u' Q := by
  obtain ⟨a1, a2, a3, a4, a5, a6, a7⟩ := hA1
  obtain ⟨g1, g2, g3, g4, g5, g6, g7⟩ := hA2
  have eM := zrd_cpy (x := x) (m := m) (sp := off1 + sp) (dp := off2 + dp) (cnt := cnt) hb1 hb2
  have hat : zAt k2 off2 len2 (zrd x m) (zcpy (zrd x m) k1 (off1 + sp) k2 (off2 + dp) cnt) := by
    intro k i h
    unfold zcpy
    rw [if_neg]
    intro ⟨h1, h2, h3⟩
    exact h ⟨h1, by omega, by omega⟩
  have hrow : ∀ r1 r2 r3 : Prop, True := fun _ _ _ => trivial
  refine wp_wr2 (q0 := q2) (u2 := u) hq2 (fun ca ad => .inl (ca q2, len2, if lg then .inr (.inl (va_cpy (fun j : Nat => Int64.ofInt (zrd x m k1 (off1 + j))) (fun j : Nat => Int64.ofInt (zrd x m k2 (off2 + j))) sp.toNat dp.toNat cnt.toNat)) else .inl (va_cpy (fun j : Nat => Int32.ofInt (zrd x m k1 (off1 + j))) (fun j : Nat => Int32.ofInt (zrd x m k2 (off2 + j))) sp.toNat dp.toNat cnt.toNat))) (fun {p l e R s mi args below meth cc H locs cells slots QQ D A ad ca tys lsl} hx hb how ht hin hml r1 r2 w1 w2 w3 hS w4 s9 g => ?_) (fun ca ad => ?_) (fun ca ad k' hk' hne' => by rw [eM]; exact g7 k' (by omega) hne' ca ad u _ _ hat) rfl (fun h5 h9 => ?_) (fun h _ => h) (fun h => zOk_tl (zOk_tl (zOk_tl (zOk_tl (zOk_tl h))))) k
  · obtain ⟨t1, ht1⟩ := w4 q1 hq1 a3
    obtain ⟨t2, ht2⟩ := w4 q2 hq2 g3
    rw [a5] at ht1
    rw [g5] at ht2
    have i1 : zIn cnt := zOk_hd s9
    have i2 : zIn dp := zOk_hd (zOk_tl s9)
    have i3 : zIn sp := zOk_hd (zOk_tl (zOk_tl (zOk_tl s9)))
    have hs := zsum_le (ad := ad) hrm
    have nn : ∀ {z : Int}, zIn z → 0 ≤ z → ¬ Int32.ofInt z < 0 := fun hz h0 q => by
      have := (z32_lt hz (show zIn 0 from ⟨by decide, by decide⟩)).mp q
      omega
    have hnw : nativeFrameWords "java/lang/System" "arraycopy" 5 = 7 := by decide
    show W _ _ _ _ _ _ _ _ _ _ _ _ _ _ _ (F0 mi pc lsl (.int (Int32.ofInt cnt) :: .int (Int32.ofInt dp) :: zc ad v2 :: .int (Int32.ofInt sp) :: zc ad v1 :: st.map (zc ad)))
    rw [a1 ad, g1 ad]
    have c1 : (Int32.ofInt sp).toNatClampNeg + (Int32.ofInt cnt).toNatClampNeg ≤ len1 := by rw [z32_clamp i3 hc.1, z32_clamp i1 hc.2.2.1]; omega
    have c2 : (Int32.ofInt dp).toNatClampNeg + (Int32.ofInt cnt).toNatClampNeg ≤ len2 := by rw [z32_clamp i2 hc.2.1, z32_clamp i1 hc.2.2.1]; omega
    cases lg with
    | false =>
      refine va_copyi (ty := .int) hx hb hml how (ht _ (hw _ (List.mem_of_getElem? (i := 0) rfl))) (ht _ (hw _ (List.mem_of_getElem? (i := 1) rfl))) (ht _ (hw _ (List.mem_of_getElem? (i := 2) rfl))) (ht _ (hw _ (List.mem_of_getElem? (i := 3) rfl))) w1 w2 w3 hS q1 q2 t1 t2 (by rw [zws_get hq1, a6]; rfl) (by rw [zws_get hq2, g6]; rfl) ht1 ht2 rfl (nn i3 hc.1) (nn i2 hc.2.1) (nn i1 hc.2.2.1) c1 c2 (fun _ _ => rfl) (by omega) (by rw [hnw]; omega) hd ?_
      rw [z32_clamp i3 hc.1, z32_clamp i2 hc.2.1, z32_clamp i1 hc.2.2.1]
      exact g
    | true =>
      refine va_copyl (ty := .long) hx hb hml how (ht _ (hw _ (List.mem_of_getElem? (i := 0) rfl))) (ht _ (hw _ (List.mem_of_getElem? (i := 1) rfl))) (ht _ (hw _ (List.mem_of_getElem? (i := 2) rfl))) (ht _ (hw _ (List.mem_of_getElem? (i := 3) rfl))) w1 w2 w3 hS q1 q2 t1 t2 (by rw [zws_get hq1, a6]; rfl) (by rw [zws_get hq2, g6]; rfl) ht1 ht2 rfl (nn i3 hc.1) (nn i2 hc.2.1) (nn i1 hc.2.2.1) c1 c2 (fun _ _ => rfl) (by omega) (by rw [hnw]; omega) hd ?_
      rw [z32_clamp i3 hc.1, z32_clamp i2 hc.2.1, z32_clamp i1 hc.2.2.1]
      exact g
  · rw [g6, eM]
    have hj : ∀ j : Nat, j < len2 → (if dp.toNat ≤ j ∧ j < dp.toNat + cnt.toNat then zrd x m k1 (off1 + ((sp.toNat + (j - dp.toNat) : Nat) : Int)) else zrd x m k2 (off2 + j)) = zcpy (zrd x m) k1 (off1 + sp) k2 (off2 + dp) cnt k2 (off2 + (j : Int)) := by
      intro j hj
      unfold zcpy
      by_cases h : dp.toNat ≤ j ∧ j < dp.toNat + cnt.toNat
      · rw [if_pos h, if_pos ⟨rfl, by omega, by omega⟩]
        congr 1
        omega
      · rw [if_neg h, if_neg (fun q => h ⟨by omega, by omega⟩)]
    cases lg with
    | false =>
      refine zEq.ints (fun j hj2 => ?_)
      rw [← hj j hj2]
      unfold va_cpy
      split <;> rfl
    | true =>
      refine zEq.longs (fun j hj2 => ?_)
      rw [← hj j hj2]
      unfold va_cpy
      split <;> rfl
  · rw [eM]
    intro k i
    unfold zcpy
    split
    · rename_i h
      have := h5 k1 (off1 + sp + (i - (off2 + dp)))
      unfold zRg at this ⊢
      rw [a4] at this
      rw [h.1, g4]
      exact this
    · exact h5 k i
end ZF
