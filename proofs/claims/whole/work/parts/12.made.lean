/-! Math.max, Math.min, System.arraycopy; new cells -/
def zmx (a b : Int) : Int := if a < b then b else a
def zmn (a b : Int) : Int := if b < a then b else a
theorem zmx_in {a b : Int} (ha : zIn a) (hb : zIn b) : zIn (zmx a b) := by unfold zmx; split <;> assumption
theorem zmn_in {a b : Int} (ha : zIn a) (hb : zIn b) : zIn (zmn a b) := by unfold zmn; split <;> assumption
section ZE2
variable {d y pc n n' : Nat} {ls : List (Nat × zV)} {st : List zV} {u u' : List (Nat × Nat)} {x m : zM} {Q : Int → zM → zM → Prop} {a b z i off : Int} {v : zV}
def zwMax (y idx : Nat) : List Cond := [Cond.methodLink (zOw y) idx Lib.Math.max.name, Cond.static Lib.Math.max.name, Cond.initialized "java/lang/Math", Cond.code Lib.Math.max.name Lib.Math.max.code 2 (some .int)]
def zwMin (y idx : Nat) : List Cond := [Cond.methodLink (zOw y) idx Lib.Math.min.name, Cond.static Lib.Math.min.name, Cond.initialized "java/lang/Math", Cond.code Lib.Math.min.name Lib.Math.min.code 2 (some .int)]
def zwCpy (y idx : Nat) : List Cond := [Cond.methodLink (zOw y) idx arraycopyName, Cond.native arraycopyName, Cond.static arraycopyName, Cond.initialized "java/lang/System"]
/-- the context with its room -/
theorem wp_rm {pc' : Nat} {st' : List zV} (hr : ∀ {p : Program} {l : Launch} {e : Env} {R : Room} {s : State} {mi : MethodId} {args : Array Value} {below : List Frame} {meth : Method} {c : Code} {H : Heap} {locs : List Loc} {cells slots : Nat} {QQ : State → Prop} {ad : Nat → Nat} {lsl : Array Slot}, p.tables.exec = Jvm.exec → c.code = zCb y → c.maxLocals = lsl.size → s.vm.findClass (zOw y) = some mi.cls → (∀ w ∈ zgood, w.before args s = true) → d ≤ R.frames → 64 * d ≤ R.locals → cells ≤ R.cells → slots ≤ R.slots → (∀ v ∈ st, zOk n v) →
      W p l e R s mi args below meth c H locs cells slots QQ (F0 mi pc' lsl (st'.map (zc ad))) → W p l e R s mi args below meth c H locs cells slots QQ (F0 mi pc lsl (st.map (zc ad))))
    (ok : (∀ v ∈ st, zOk n v) → ∀ v ∈ st', zOk n v) (k : WP d y pc' ls st' n u x m n' u' Q) : WP d y pc ls st n u x m n' u' Q := by
  intro p l e R s mi args below meth c QQ D A sc ro ad0 n0 E H locs ad lsl S
  obtain ⟨⟨hx, hb, -, hml, ho, ht, -⟩, ⟨r1, r2, r3, r4⟩, -⟩ := id E
  obtain ⟨s1, s2, s3, s4, s5, ⟨s6, s6b, s6c⟩, s7, s8, s9⟩ := id S
  have h1 := zSl_mono s6b
  exact hr hx hb (hml.trans s7.1.symm) ho ht r1 r2 (by omega) (by omega) s9 (k p l e R s mi args below meth c QQ D A sc ro ad0 n0 E H locs ad lsl ⟨s1, s2, s3, s4, s5, ⟨s6, s6b, s6c⟩, s7, s8, ok s9⟩)
theorem zsum_le {ad : Nat → Nat} {st : List zV} (h : (st.map zcat).sum ≤ 8) : ((st.map (zc ad)).map fun v => v.category).sum ≤ 8 := by
  rw [List.map_map]
  exact Nat.le_trans (Nat.le_of_eq (congrArg List.sum (List.map_congr_left (fun v _ => zcat_eq ad v)))) h
theorem wp_max {idx : Nat} (hd : decode (zCb y) pc = .ok (.invokestatic idx, 3)) (hw : ∀ w ∈ zwMax y idx, w ∈ zgood) (hdd : 1 ≤ d) (hrm : (st.map zcat).sum ≤ 8) (k : WP d y (pc + 3) ls (zi (zmx a b) :: st) n u x m n' u' Q) : WP d y pc ls (zi b :: zi a :: st) n u x m n' u' Q := by
  refine wp_rm (fun {p l e R s mi args below meth cc H locs cells slots QQ ad lsl} hx hb hml how ht r1 r2 r3 r4 s9 g => ?_) (fun h => zOk_cons (v := zi _) (zmx_in (zOk_hd (zOk_tl h)) (zOk_hd h)) (zOk_tl (zOk_tl h))) k
  have hs := zsum_le (ad := ad) hrm
  refine va_mmax hx hb hml how (ht _ (hw _ (List.mem_of_getElem? (i := 0) rfl))) (ht _ (hw _ (List.mem_of_getElem? (i := 1) rfl))) (ht _ (hw _ (List.mem_of_getElem? (i := 2) rfl))) (ht _ (hw _ (List.mem_of_getElem? (i := 3) rfl))) (by omega) (by omega) r3 r4 hd ?_
  have e : (if Int32.ofInt a < Int32.ofInt b then Int32.ofInt b else Int32.ofInt a) = Int32.ofInt (zmx a b) := by
    unfold zmx
    have := z32_lt (a := a) (b := b) (zOk_hd (zOk_tl s9)) (zOk_hd s9)
    by_cases h : a < b
    · rw [if_pos h, if_pos (this.mpr h)]
    · rw [if_neg h, if_neg (fun q => h (this.mp q))]
  rw [e]
  exact g
theorem wp_min {idx : Nat} (hd : decode (zCb y) pc = .ok (.invokestatic idx, 3)) (hw : ∀ w ∈ zwMin y idx, w ∈ zgood) (hdd : 1 ≤ d) (hrm : (st.map zcat).sum ≤ 8) (k : WP d y (pc + 3) ls (zi (zmn a b) :: st) n u x m n' u' Q) : WP d y pc ls (zi b :: zi a :: st) n u x m n' u' Q := by
  refine wp_rm (fun {p l e R s mi args below meth cc H locs cells slots QQ ad lsl} hx hb hml how ht r1 r2 r3 r4 s9 g => ?_) (fun h => zOk_cons (v := zi _) (zmn_in (zOk_hd (zOk_tl h)) (zOk_hd h)) (zOk_tl (zOk_tl h))) k
  have hs := zsum_le (ad := ad) hrm
  refine va_mmin hx hb hml how (ht _ (hw _ (List.mem_of_getElem? (i := 0) rfl))) (ht _ (hw _ (List.mem_of_getElem? (i := 1) rfl))) (ht _ (hw _ (List.mem_of_getElem? (i := 2) rfl))) (ht _ (hw _ (List.mem_of_getElem? (i := 3) rfl))) (by omega) (by omega) r3 r4 hd ?_
  have e : (if Int32.ofInt b < Int32.ofInt a then Int32.ofInt b else Int32.ofInt a) = Int32.ofInt (zmn a b) := by
    unfold zmn
    have := z32_lt (a := b) (b := a) (zOk_hd s9) (zOk_hd (zOk_tl s9))
    by_cases h : b < a
    · rw [if_pos h, if_pos (this.mpr h)]
    · rw [if_neg h, if_neg (fun q => h (this.mp q))]
  rw [e]
  exact g
def zwObj (y idx : Nat) : List Cond := [Cond.methodLink (zOw y) idx Lib.objectInit, Cond.instanceMethod Lib.objectInit, Cond.code Lib.objectInit ⟨#[0xb1]⟩ 1 none]
theorem wp_objinit {idx k0 : Nat} (hd : decode (zCb y) pc = .ok (.invokespecial idx, 3)) (hw : ∀ w ∈ zwObj y idx, w ∈ zgood) (hdd : 1 ≤ d) (hrm : (st.map zcat).sum ≤ 8) (k : WP d y (pc + 3) ls st n u x m n' u' Q) : WP d y pc ls (zr k0 :: st) n u x m n' u' Q := by
  refine wp_rm (fun {p l e R s mi args below meth cc H locs cells slots QQ ad lsl} hx hb hml how ht r1 r2 r3 r4 s9 g => ?_) (fun h => zOk_tl h) k
  have hs := zsum_le (ad := ad) hrm
  exact W.objInit hx hb how (ht _ (hw _ (List.mem_of_getElem? (i := 0) rfl))) (ht _ (hw _ (List.mem_of_getElem? (i := 1) rfl))) (ht _ (hw _ (List.mem_of_getElem? (i := 2) rfl))) rfl hml.symm rfl hd (by omega) (by show 2 * 0 + _ + 12 ≤ _; omega) g
end ZE2
