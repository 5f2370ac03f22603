/-! a method's contract out of its walk; the JDK's Math and System.arraycopy; what constructors make -/
def zLa : Nat → List zV → List (Nat × zV)
  | _, [] => []
  | i, v :: vs => (i, v) :: zLa (if Nat.beq (zcat v) 2 then i + 2 else i + 1) vs
theorem zLa_map (ad : Nat → Nat) (as : List zV) : ∀ i, zMap ad (zLa i as) = lv_args i (as.map (zc ad)) := by
  induction as with
  | nil => intro i; rfl
  | cons v vs ih =>
    intro i
    have e : (if Nat.beq (zcat v) 2 then i + 2 else i + 1) = (if (zc ad v).category = 2 then i + 2 else i + 1) := by
      rw [zcat_eq]
      by_cases h : zcat v = 2
      · rw [if_pos h, if_pos (Nat.beq_eq ▸ h)]
      · rw [if_neg h, if_neg (fun q => h (Nat.eq_of_beq_eq_true q))]
    show (i, zc ad v) :: zMap ad (zLa _ vs) = (i, zc ad v) :: lv_args _ (vs.map (zc ad))
    rw [ih, e]
theorem zLa_ok {n : Nat} {as : List zV} (h : ∀ v ∈ as, zOk n v) : ∀ i, ∀ q ∈ zLa i as, zOk n q.2 := by
  induction as with
  | nil => intro i q hq; cases hq
  | cons v vs ih =>
    intro i q hq
    rcases List.mem_cons.mp hq with rfl | hq
    · exact zOk_hd h
    · exact ih (zOk_tl h) _ q hq
theorem zsl_len (ad : Nat → Nat) (as : List zV) : (lg_sl (as.map (zc ad))).length = (as.map zcat).sum := by
  induction as with
  | nil => rfl
  | cons v vs ih =>
    have e : lg_sl ((v :: vs).map (zc ad)) = (if (zc ad v).category = 2 then [Slot.val (zc ad v), Slot.second] else [Slot.val (zc ad v)]) ++ lg_sl (vs.map (zc ad)) := rfl
    rw [e, List.length_append, ih, zcat_eq]
    rcases v with a | a | a | ⟨o, i⟩ <;> rfl
theorem WPc_of {d y n n' : Nat} {as : List zV} {u u' : List (Nat × Nat)} {x m : zM} {Q : Int → zM → zM → Prop} (hl : (as.map zcat).sum ≤ zMl y) (hy : plainName (zNm y).cls = true) (hc : (zNm y).cls = zOw y) (hin : zIs y = true → (zNm y).name = "<init>") (h : (∀ v ∈ as, zOk n v) → WP d y 0 (zLa 0 as) [] n u x m n' u' Q) : WPc d y as n u x m n' u' Q := by
  intro hok hnn hn3 l D ad sz
  refine Met.ofW (cc := zCb y) (maxL := zMl y) (ret := zRt y) hy rfl ?_
  intro p e s mi args below meth c s₁ B hml hv
  obtain ⟨rfl, hsz, hW, hRO⟩ := hv
  subst hsz
  have hts := atoms_spec (ws := zWs y) B.pre
  have hown : s.vm.findClass (zOw y) = some mi.cls := by rw [← hc]; exact findClass_of_methodNamed B.named
  have hctx : zCtx y p s mi (as.map (zc ad)).toArray meth c := ⟨B.exec, B.bytes, B.returns, hml, hown, fun w hw => hts w (List.mem_cons_of_mem _ hw), B.notSynchronized, fun hi => (name_of_methodNamed B.named B.method).1.trans (hin hi)⟩
  have E : zEnv d y n' u' Q p l e { frames := d, cells := n' - n, slots := zSl n' - zSl n, locals := 64 * d } s mi (as.map (zc ad)).toArray below meth c (MQ below (zQc y n n' u' Q D ad (m 2000) s.heap.size) (as.map (zc ad)).toArray s (n' - n) (zSl n' - zSl n) (zA ad n s.heap.size)) D (zA ad n s.heap.size) (m 2000) ad ad n := by
    refine ⟨hctx, ⟨Nat.le_refl _, Nat.le_refl _, Nat.le_refl _, Nat.le_refl _⟩, fun q hq => Or.inr hq, hRO, ?_⟩
    intro H locs ad' x' m' lsl pc r hd w1 w2 w3 w4 w5 w6 w7
    have hB : ∀ t : State, t.heap = H → s.WarmedH t.vm → zB D n n' u' ad (m 2000) s.heap.size (ad', x', m') t := by
      intro t ht hWm
      exact ⟨by rw [ht]; exact w1.moved hWm.alike, w3, w4, w5⟩
    have hF : ∀ t : State, t.heap = H → va_F (zA ad n s.heap.size) s t := fun t ht => w2.F ht
    have hr := B.returns
    cases hk : zKd y with
    | zero =>
      have e1 : zRi y = .return_ := by (unfold zRi; rw [hk]; rfl)
      have e2 : zRs y r = [] := by (unfold zRs; rw [hk]; rfl)
      have e3 : zRt y = none := by (unfold zRt; rw [hk]; rfl)
      rw [e1] at hd; rw [e2]; rw [e3] at hr
      refine W.vret B.exec B.bytes hr (fun t ht hWm => ?_) w2.2.2 hd
      have e4 : r = 0 := by
        unfold zRok at w6
        rw [hk] at w6
        exact w6
      subst e4
      have e5 : ∀ a s o t, zQc y n n' u' Q D ad (m 2000) s.heap.size a s o t = va_Qv (fun w : zS3 => Q 0 w.2.1 w.2.2) (zB D n n' u' ad (m 2000) s.heap.size) (zA ad n s.heap.size) a s o t := by
        intro a s o t
        unfold zQc
        rw [hk]
        rfl
      rw [e5]
      exact ⟨⟨(ad', x', m'), rfl, w7, hB t ht hWm⟩, hF t ht⟩
    | succ j =>
      by_cases h2 : j = 1
      · subst h2
        have e1 : zRi y = .lreturn := by (unfold zRi; rw [hk]; rfl)
        have e2 : zRs y r = [.long (Int64.ofInt r)] := by (unfold zRs; rw [hk]; rfl)
        have e3 : zRt y = some .long := by (unfold zRt; rw [hk]; rfl)
        rw [e1] at hd; rw [e2]; rw [e3] at hr
        refine W.lret B.exec B.bytes hr (fun t ht hWm => ?_) w2.2.2 hd
        have e5 : ∀ a s o t, zQc y n n' u' Q D ad (m 2000) s.heap.size a s o t = va_Ql (fun r (w : zS3) => ∃ z, r = Int64.ofInt z ∧ zRok y z ∧ Q z w.2.1 w.2.2) (zB D n n' u' ad (m 2000) s.heap.size) (zA ad n s.heap.size) a s o t := by
          intro a s o t
          unfold zQc
          rw [hk]
          rfl
        rw [e5]
        exact ⟨⟨_, (ad', x', m'), rfl, ⟨r, rfl, w6, w7⟩, hB t ht hWm⟩, hF t ht⟩
      · have e1 : zRi y = .ireturn := by
          unfold zRi
          rw [hk]
          match j, h2 with
          | 0, _ => rfl
          | 1, h => exact absurd rfl h
          | j + 2, _ => rfl
        have e2 : zRs y r = [.int (Int32.ofInt r)] := by
          unfold zRs
          rw [hk]
          match j, h2 with
          | 0, _ => rfl
          | 1, h => exact absurd rfl h
          | j + 2, _ => rfl
        have e5 : ∀ a s o t, zQc y n n' u' Q D ad (m 2000) s.heap.size a s o t = va_Qi (fun r (w : zS3) => ∃ z, r = Int32.ofInt z ∧ zRok y z ∧ Q z w.2.1 w.2.2) (zB D n n' u' ad (m 2000) s.heap.size) (zA ad n s.heap.size) a s o t := by
          intro a s o t
          unfold zQc
          rw [hk]
          match j, h2 with
          | 0, _ => rfl
          | 1, h => exact absurd rfl h
          | j + 2, _ => rfl
        have hz : ∀ t : State, t.heap = H → s.WarmedH t.vm → zQc y n n' u' Q D ad (m 2000) s.heap.size (as.map (zc ad)).toArray s (.returned (some (.int (Int32.ofInt r)))) t := by
          intro t ht hWm
          rw [e5]
          exact ⟨⟨_, (ad', x', m'), rfl, ⟨r, rfl, w6, w7⟩, hB t ht hWm⟩, hF t ht⟩
        rw [e1] at hd; rw [e2]
        by_cases h3 : j = 2
        · subst h3
          have e3 : zRt y = some .boolean := by (unfold zRt; rw [hk]; rfl)
          rw [e3] at hr
          have h01 : r = 0 ∨ r = 1 := by
            unfold zRok at w6
            rw [hk] at w6
            exact w6
          exact W.zret B.exec B.bytes hr (by rcases h01 with rfl | rfl <;> rfl) hz w2.2.2 hd
        · have e3 : zRt y = some .int := by
            unfold zRt
            rw [hk]
            match j, h2, h3 with
            | 0, _, _ => rfl
            | 1, h, _ => exact absurd rfl h
            | 2, _, h => exact absurd rfl h
            | j + 3, _, _ => rfl
          rw [e3] at hr
          exact W.iret B.exec B.bytes hr hz w2.2.2 hd
  have hlv := lv_entry (as.map (zc ad)) (n := zMl y) (by rw [zsl_len]; exact hl)
  rw [lg_entry_eq]
  generalize (lg_sl (as.map (zc ad)) ++ List.replicate (zMl y - (lg_sl (as.map (zc ad))).length) Slot.unset).toArray = ls at hlv ⊢
  have g := h hok p l e _ s mi _ below meth c _ D _ _ _ _ _ E s.heap [] ad ls ⟨hW.own _, va_S.rf, rfl, fun _ _ => rfl, fun _ _ => rfl, ⟨Nat.le_refl _, hnn, hn3⟩, by
    show lv_has ls (zMl y) (zMap ad (zLa 0 as))
    rw [zLa_map]
    exact hlv, zLa_ok hok 0, fun v hv => by cases hv⟩
  simp only [Nat.sub_self] at g
  exact g
