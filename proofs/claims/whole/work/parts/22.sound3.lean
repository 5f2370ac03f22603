/-! THE WALK IS SOUND: one step -/
theorem zstep_ok {md : Nat → Nat} {d y n' : Nat} {u' : List (Nat × Nat)} {Q : Int → zM → zM → Prop} (hy : y < 285) {K : zK} (hK : ∀ cs ls st n u x m, zSuf y cs → K cs ls st n u x m → ∃ e r, cs = e :: r ∧ WP d y e.1 ls st n u x m n' u' Q) {e : zI} {r : List zI} {ls : List (Nat × zV)} {st : List zV} {n : Nat} {u : List (Nat × Nat)} {x m : zM} (hs : zSuf y (e :: r)) (h : zstep md d y n' u' Q (zCo y) K (e :: r) ls st n u x m) : WP d y e.1 ls st n u x m n' u' Q := by
  obtain ⟨pc, ins, len, a, b, z⟩ := e
  obtain ⟨hdec, hlk, hlen, hnx⟩ := zent hy hs
  have ft : ∀ ls st n u x m, K r ls st n u x m → WP d y (pc + len) ls st n u x m n' u' Q := by
    intro ls st n u x m hk
    obtain ⟨f, r', hr, hw⟩ := hK _ _ _ _ _ _ _ (zSuf_tl hs) hk
    rw [hnx f r' hr]
    exact hw
  have jp : ∀ t ls st n u x m, K (zfind t (zCo y)) ls st n u x m → WP d y t ls st n u x m n' u' Q := by
    intro t ls st n u x m hk
    obtain ⟨f, r', hr, hw⟩ := hK _ _ _ _ _ _ _ (zSuf_find t) hk
    rw [zfind_hd t _ f r' hr] at hw
    exact hw
  have ho := zt_oc y hy
  show WP d y pc ls st n u x m n' u' Q
  refine wp_nn (fun hn => ?_)
  refine wp_rng (fun hls hst hrg => ?_)
  have hn4 : n ≤ 403 := Nat.le_trans hn.1 hn.2
  unfold zstep at h
  dsimp only at h
  cases ins with
  | aload_n i =>
    obtain rfl := zlen_of hlen rfl
    dsimp only at h
    split at h
    · rename_i v hv
      obtain ⟨j, hj⟩ := zlkp_at hv
      exact wp_aload_n hdec hj (ft _ _ _ _ _ _ h)
    · exact h.elim
  | aload i =>
    obtain rfl := zlen_of hlen rfl
    dsimp only at h
    split at h
    · rename_i v hv
      obtain ⟨j, hj⟩ := zlkp_at hv
      exact wp_aload hdec hj (ft _ _ _ _ _ _ h)
    · exact h.elim
  | iload_n i =>
    obtain rfl := zlen_of hlen rfl
    dsimp only at h
    split at h
    · rename_i v hv
      obtain ⟨j, hj⟩ := zlkp_at hv
      exact wp_iload_n hdec hj (ft _ _ _ _ _ _ h)
    · exact h.elim
  | iload i =>
    obtain rfl := zlen_of hlen rfl
    dsimp only at h
    split at h
    · rename_i v hv
      obtain ⟨j, hj⟩ := zlkp_at hv
      exact wp_iload hdec hj (ft _ _ _ _ _ _ h)
    · exact h.elim
  | lload_n i =>
    obtain rfl := zlen_of hlen rfl
    dsimp only at h
    split at h
    · rename_i v hv
      obtain ⟨j, hj⟩ := zlkp_at hv
      exact wp_lload_n hdec hj (ft _ _ _ _ _ _ h)
    · exact h.elim
  | lload i =>
    obtain rfl := zlen_of hlen rfl
    dsimp only at h
    split at h
    · rename_i v hv
      obtain ⟨j, hj⟩ := zlkp_at hv
      exact wp_lload hdec hj (ft _ _ _ _ _ _ h)
    · exact h.elim
  | iconst i =>
    obtain rfl := zlen_of hlen rfl
    obtain ⟨h1, h2⟩ := zbif h
    simp only [Bool.and_eq_true, decide_eq_true_eq] at h1
    exact wp_iconst hdec h1 (ft _ _ _ _ _ _ h2)
  | bipush i =>
    obtain rfl := zlen_of hlen rfl
    obtain ⟨h1, h2⟩ := zbif h
    simp only [Bool.and_eq_true, decide_eq_true_eq] at h1
    exact wp_bipush hdec h1 (ft _ _ _ _ _ _ h2)
  | sipush i =>
    obtain rfl := zlen_of hlen rfl
    obtain ⟨h1, h2⟩ := zbif h
    simp only [Bool.and_eq_true, decide_eq_true_eq] at h1
    exact wp_sipush hdec h1 (ft _ _ _ _ _ _ h2)
  | lconst i =>
    obtain rfl := zlen_of hlen rfl
    exact wp_lconst hdec (ft _ _ _ _ _ _ h)
  | ldc i =>
    obtain rfl := zlen_of hlen rfl
    dsimp only at h
    unfold zEl at hlk
    dsimp only at hlk
    cases hb : Nat.beq a 1 with
    | true =>
      rw [hb] at h
      rw [if_pos (Nat.eq_of_beq_eq_true hb)] at hlk
      obtain ⟨hs9, hw, hsd⟩ := zlk9_words ho hlk
      unfold zSd at hsd
      simp only [Bool.and_eq_true, decide_eq_true_eq] at hsd
      exact wp_ldc hdec (hw _ List.mem_cons_self) hsd (ft _ _ _ _ _ _ h)
    | false =>
      rw [hb] at h
      rw [if_neg (fun q => by rw [q] at hb; cases hb)] at hlk
      simp only [Bool.and_eq_true] at hlk
      exact wp_ldcs hdec (Nat.eq_of_beq_eq_true hlk.2.1) (Nat.eq_of_beq_eq_true hlk.2.2) (ft _ _ _ _ _ _ h)
  | ldc_w i =>
    obtain rfl := zlen_of hlen rfl
    obtain ⟨hs9, hw, hsd⟩ := zlk9_words ho hlk
    unfold zSd at hsd
    simp only [Bool.and_eq_true, decide_eq_true_eq] at hsd
    exact wp_ldcw hdec (hw _ List.mem_cons_self) hsd (ft _ _ _ _ _ _ h)
  | ldc2_w i =>
    obtain rfl := zlen_of hlen rfl
    obtain ⟨hs9, hw, hsd⟩ := zlk9_words ho hlk
    unfold zSd at hsd
    simp only [Bool.and_eq_true, decide_eq_true_eq] at hsd
    exact wp_ldc2 hdec (hw _ List.mem_cons_self) hsd (ft _ _ _ _ _ _ h)
  | istore_n i =>
    obtain rfl := zlen_of hlen rfl
    dsimp only at h
    split at h
    · obtain ⟨h1, h2⟩ := zbif h
      exact wp_istore_n hdec (Nat.le_of_ble_eq_true h1) (ft _ _ _ _ _ _ h2)
    · exact h.elim
  | istore i =>
    obtain rfl := zlen_of hlen rfl
    dsimp only at h
    split at h
    · obtain ⟨h1, h2⟩ := zbif h
      exact wp_istore hdec (Nat.le_of_ble_eq_true h1) (ft _ _ _ _ _ _ h2)
    · exact h.elim
  | lstore_n i =>
    obtain rfl := zlen_of hlen rfl
    dsimp only at h
    split at h
    · obtain ⟨h1, h2⟩ := zbif h
      exact wp_lstore_n hdec (Nat.le_of_ble_eq_true h1) (ft _ _ _ _ _ _ h2)
    · exact h.elim
  | lstore i =>
    obtain rfl := zlen_of hlen rfl
    dsimp only at h
    split at h
    · obtain ⟨h1, h2⟩ := zbif h
      exact wp_lstore hdec (Nat.le_of_ble_eq_true h1) (ft _ _ _ _ _ _ h2)
    · exact h.elim
  | astore_n i =>
    obtain rfl := zlen_of hlen rfl
    dsimp only at h
    split at h
    · obtain ⟨h1, h2⟩ := zbif h
      exact wp_astore_n hdec (Nat.le_of_ble_eq_true h1) (ft _ _ _ _ _ _ h2)
    · exact h.elim
  | astore i =>
    obtain rfl := zlen_of hlen rfl
    dsimp only at h
    split at h
    · obtain ⟨h1, h2⟩ := zbif h
      exact wp_astore hdec (Nat.le_of_ble_eq_true h1) (ft _ _ _ _ _ _ h2)
    · exact h.elim
  | iinc i c =>
    obtain rfl := zlen_of hlen rfl
    dsimp only at h
    split at h
    · rename_i v hv
      obtain ⟨h1, h2⟩ := zbif h
      obtain ⟨j, hj⟩ := zlkp_at hv
      obtain ⟨q, q1, q2, q3⟩ := zar_ok h2
      exact wp_iinc hdec (Nat.le_of_ble_eq_true h1) hj (by rw [z32_add, q1]) (fun _ => q2) (ft _ _ _ _ _ _ q3)
    · exact h.elim
  | iadd =>
    obtain rfl := zlen_of hlen rfl
    dsimp only at h
    split at h
    · obtain ⟨q, q1, q2, q3⟩ := zar_ok h
      exact wp_iadd hdec q1 q2 (ft _ _ _ _ _ _ q3)
    · exact h.elim
  | isub =>
    obtain rfl := zlen_of hlen rfl
    dsimp only at h
    split at h
    · obtain ⟨q, q1, q2, q3⟩ := zar_ok h
      exact wp_isub hdec q1 q2 (ft _ _ _ _ _ _ q3)
    · exact h.elim
  | imul =>
    obtain rfl := zlen_of hlen rfl
    dsimp only at h
    split at h
    · obtain ⟨q, q1, q2, q3⟩ := zar_ok h
      exact wp_imul hdec q1 q2 (ft _ _ _ _ _ _ q3)
    · exact h.elim
  | ineg =>
    obtain rfl := zlen_of hlen rfl
    dsimp only at h
    split at h
    · obtain ⟨q, q1, q2, q3⟩ := zar_ok h
      exact wp_ineg hdec q1 q2 (ft _ _ _ _ _ _ q3)
    · exact h.elim
  | idiv =>
    obtain rfl := zlen_of hlen rfl
    dsimp only at h
    split at h
    · obtain ⟨q0, q, q1, q2, q3⟩ := zdv_ok h
      exact wp_idiv hdec q0 q1 q2 (ft _ _ _ _ _ _ q3)
    · exact h.elim
  | irem =>
    obtain rfl := zlen_of hlen rfl
    dsimp only at h
    split at h
    · obtain ⟨q0, q, rfl, q3⟩ := zrm_ok h
      exact wp_irem hdec q0 rfl ztm_in (ft _ _ _ _ _ _ q3)
    · exact h.elim
  | iand =>
    obtain rfl := zlen_of hlen rfl
    dsimp only at h
    split at h
    · exact wp_iand hdec (ft _ _ _ _ _ _ h)
    · exact h.elim
  | ior =>
    obtain rfl := zlen_of hlen rfl
    dsimp only at h
    split at h
    · exact wp_ior hdec (ft _ _ _ _ _ _ h)
    · exact h.elim
  | ixor =>
    obtain rfl := zlen_of hlen rfl
    dsimp only at h
    split at h
    · exact wp_ixor hdec (ft _ _ _ _ _ _ h)
    · exact h.elim
  | ishl =>
    obtain rfl := zlen_of hlen rfl
    dsimp only at h
    split at h
    · exact wp_ishl hdec (ft _ _ _ _ _ _ h)
    · exact h.elim
  | ishr =>
    obtain rfl := zlen_of hlen rfl
    dsimp only at h
    split at h
    · exact wp_ishr hdec (ft _ _ _ _ _ _ h)
    · exact h.elim
  | ladd =>
    obtain rfl := zlen_of hlen rfl
    dsimp only at h
    split at h
    · obtain ⟨q, q1, q2, q3⟩ := zal_ok h
      exact wp_ladd hdec q1 q2 (ft _ _ _ _ _ _ q3)
    · exact h.elim
  | lsub =>
    obtain rfl := zlen_of hlen rfl
    dsimp only at h
    split at h
    · obtain ⟨q, q1, q2, q3⟩ := zal_ok h
      exact wp_lsub hdec q1 q2 (ft _ _ _ _ _ _ q3)
    · exact h.elim
  | lmul =>
    obtain rfl := zlen_of hlen rfl
    dsimp only at h
    split at h
    · obtain ⟨q, q1, q2, q3⟩ := zal_ok h
      exact wp_lmul hdec q1 q2 (ft _ _ _ _ _ _ q3)
    · exact h.elim
  | ldiv =>
    obtain rfl := zlen_of hlen rfl
    dsimp only at h
    split at h
    · obtain ⟨q0, q, q1, q2, q3⟩ := zdl_ok h
      exact wp_ldiv hdec q0 q1 q2 (ft _ _ _ _ _ _ q3)
    · exact h.elim
  | lrem =>
    obtain rfl := zlen_of hlen rfl
    dsimp only at h
    split at h
    · obtain ⟨q0, q, rfl, q3⟩ := zrm_ok h
      exact wp_lrem hdec q0 rfl ztm_ln (ft _ _ _ _ _ _ q3)
    · exact h.elim
  | lor =>
    obtain rfl := zlen_of hlen rfl
    dsimp only at h
    split at h
    · exact wp_lor hdec (ft _ _ _ _ _ _ h)
    · exact h.elim
  | lshl =>
    obtain rfl := zlen_of hlen rfl
    dsimp only at h
    split at h
    · exact wp_lshl hdec (ft _ _ _ _ _ _ h)
    · exact h.elim
  | i2l =>
    obtain rfl := zlen_of hlen rfl
    dsimp only at h
    split at h
    · exact wp_i2l hdec (ft _ _ _ _ _ _ h)
    · exact h.elim
  | l2i =>
    obtain rfl := zlen_of hlen rfl
    dsimp only at h
    split at h
    · obtain ⟨q, q1, q2, q3⟩ := zar_ok h
      exact wp_l2i hdec q1 q2 (ft _ _ _ _ _ _ q3)
    · exact h.elim
  | dup =>
    obtain rfl := zlen_of hlen rfl
    dsimp only at h
    split at h
    · exact wp_dup hdec rfl (ft _ _ _ _ _ _ h)
    · exact wp_dup hdec rfl (ft _ _ _ _ _ _ h)
    · exact h.elim
  | dup2 =>
    obtain rfl := zlen_of hlen rfl
    dsimp only at h
    split at h
    · exact wp_dup2 hdec rfl rfl (ft _ _ _ _ _ _ h)
    · exact wp_dup2 hdec rfl rfl (ft _ _ _ _ _ _ h)
    · exact h.elim
  | pop =>
    obtain rfl := zlen_of hlen rfl
    dsimp only at h
    split at h
    · exact wp_pop hdec rfl (ft _ _ _ _ _ _ h)
    · exact h.elim
  | pop2 =>
    obtain rfl := zlen_of hlen rfl
    dsimp only at h
    split at h
    · exact wp_pop2 hdec rfl (ft _ _ _ _ _ _ h)
    · exact h.elim
  | goto off =>
    obtain rfl := zlen_of hlen rfl
    obtain ⟨h1, h2⟩ := zbif h
    exact wp_goto hdec (ztoNat h1) (jp _ _ _ _ _ _ _ h2)
  | if_icmp c off =>
    obtain rfl := zlen_of hlen rfl
    dsimp only at h
    split at h
    · obtain ⟨h1, h2⟩ := zbif h
      exact wp_icmp hdec (ztoNat h1) (fun q => jp _ _ _ _ _ _ _ (h2.1 q)) (fun q => ft _ _ _ _ _ _ (h2.2 q))
    · exact h.elim
  | ifCond c off =>
    obtain rfl := zlen_of hlen rfl
    dsimp only at h
    split at h
    · obtain ⟨h1, h2⟩ := zbif h
      exact wp_ifc hdec (ztoNat h1) (fun q => jp _ _ _ _ _ _ _ (h2.1 q)) (fun q => ft _ _ _ _ _ _ (h2.2 q))
    · exact h.elim
  | lcmp =>
    obtain rfl := zlen_of hlen rfl
    dsimp only at h
    split at h
    · rename_i w v r0 pc2 c off len2 a2 b2 z2 rest2
      obtain ⟨h1, h2⟩ := zbif h
      have hs2 := zSuf_tl hs
      obtain ⟨hdec2, hlk2, hlen2, hnx2⟩ := zent hy hs2
      obtain rfl := zlen_of hlen2 rfl
      have e2 : pc + 1 = pc2 := hnx _ _ rfl
      subst e2
      have ft2 : ∀ ls st n u x m, K rest2 ls st n u x m → WP d y (pc + 1 + 3) ls st n u x m n' u' Q := by
        intro ls st n u x m hk
        obtain ⟨f, r', hr, hw⟩ := hK _ _ _ _ _ _ _ (zSuf_tl hs2) hk
        rw [hnx2 f r' hr]
        exact hw
      exact wp_lcmp hdec (wp_ifc hdec2 (ztoNat h1) (fun q => jp _ _ _ _ _ _ _ (h2.1 (zlc_cmp q))) (fun q => ft2 _ _ _ _ _ _ (h2.2 (zlc_cmn q))))
    · exact h.elim
  | tableswitch dflt lo hi offs =>
    dsimp only at h
    split at h
    · obtain ⟨h1, h2, h3⟩ := zbif h
      refine wp_tsw hdec (of_decide_eq_true h1) (fun o => ((pc : Int) + o).toNat) (fun q => ?_) ?_
      · obtain ⟨g1, g2⟩ := zbif (h2 q)
        exact ⟨ztoNat g1, jp _ _ _ _ _ _ _ g2⟩
      · exact zsw_mono (fun o q => by obtain ⟨g1, g2⟩ := zbif q; exact ⟨ztoNat g1, jp _ _ _ _ _ _ _ g2⟩) _ _ h3
    · exact h.elim
  | lookupswitch dflt ps =>
    dsimp only at h
    split at h
    · obtain ⟨h1, h2⟩ := zbif h
      exact wp_lsw hdec h1 (fun o => ((pc : Int) + o).toNat) (zlw_mono (fun o q => by obtain ⟨g1, g2⟩ := zbif q; exact ⟨ztoNat g1, jp _ _ _ _ _ _ _ g2⟩) _ h2)
    · exact h.elim
  | _ => sorry
