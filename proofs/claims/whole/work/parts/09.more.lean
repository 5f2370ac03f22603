/-! rows of rows, what nobody writes, returns -/
section ZC
variable {d y pc n n' : Nat} {ls : List (Nat × zV)} {st : List zV} {u u' : List (Nat × Nat)} {x m : zM} {Q : Int → zM → zM → Prop} {z i off : Int} {v : zV} {q0 kp len : Nat}
theorem wp_aald {o b nn w : Nat} (hd : decode (zCb y) pc = .ok (.aaload, 1)) (ho : o < n) (hn : n ≤ 403) (hs : zSh o = (3, b, nn, w) ∨ zSh o = (4, b, nn, w)) (hi : 0 ≤ i ∧ i < nn) (k : WP d y (pc + 1) ls (zw o i :: st) n u x m n' u' Q) : WP d y pc ls (zi i :: zr o :: st) n u x m n' u' Q := by
  have hb2 : (zSh o).2.1 = b ∧ (zSh o).2.2.1 = nn := by rcases hs with hs | hs <;> rw [hs] <;> exact ⟨rfl, rfl⟩
  refine wp_hp (fun {p l e R s mi args below meth cc H locs cells slots QQ D A ad ca tys lsl} hx hb how ht w1 w2 w4 s9 g => ?_) (fun hc h s9 => zOk_cons (v := zw o i) (show 0 ≤ i ∧ i < ((zSh o).2.2.1 : Int) ∧ (zSh o).2.1 + i.toNat < n by
    have h9 := (hc o ho).2 (by rcases hs with hs | hs <;> rw [hs] <;> simp)
    rw [hb2.2, hb2.1] at h9 ⊢; exact ⟨hi.1, hi.2, by omega⟩) (zOk_tl (zOk_tl s9))) k
  obtain ⟨t0, ht0⟩ := w4 o ho (by rcases hs with hs | hs <;> rw [hs] <;> exact fun q => by cases q)
  have hii : zIn i := zOk_hd s9
  have hE : zE ca ad u (zrd x m) o = .inl (ca o, nn, .inr (.inr (.inr (.inr (fun i => if i < nn then some (ad (b + i)) else none))))) := by
    unfold zE
    rcases hs with hs | hs <;> simp only [hs]
  have hat := w2 o _ (zws_get ho)
  rw [hE] at hat
  have hlt : i.toNat < nn := by omega
  have hv : va_rf ((fun i => if i < nn then some (ad (b + i)) else none) (Int32.ofInt i).toNatClampNeg) = .ref (ad (b + i.toNat)) := by
    show va_rf (if _ then _ else none) = _
    rw [z32_clamp hii hi.1, if_pos hlt]
    rfl
  have hin : vp_in (Int32.ofInt i) nn := zvp_in hii hi
  have hg : W p l e R s mi args below meth cc H locs cells slots QQ (F0 mi (pc + 1) lsl (.ref (ad (b + i.toNat)) :: st.map (zc ad))) := by
    have g2 : W p l e R s mi args below meth cc H locs cells slots QQ (F0 mi (pc + 1) lsl (.ref (ad ((zSh o).2.1 + i.toNat)) :: st.map (zc ad))) := g
    rwa [hb2.1] at g2
  have hty : ∃ ty : FieldType, zEt o = ty ∧ ty.isReference = true := by
    unfold zEt
    rcases hs with hs | hs <;> rw [hs] <;> exact ⟨_, rfl, rfl⟩
  obtain ⟨ty, h1, h2⟩ := hty
  rw [h1] at ht0
  exact W.aald (v := .ref (ad (b + i.toNat))) (ty := ty) hx hb hat ((w1.2 t0 _ ht0).1 nn (fun j => va_rf (if j < nn then some (ad (b + j)) else none))) h2 (fun q => by cases q) (by show ¬ (_ ∨ (arrV _ _ _).slots.size ≤ _); rw [arrV_size]; exact hin) (by
    show (arrV _ _ _).slots[_]? = _
    rw [arrV_read _ _ (by rw [z32_clamp hii hi.1]; exact hlt)]
    exact congrArg some hv) rfl rfl hd hg
/-- the context taken apart, for what nobody writes -/
theorem wp_ro {pc' : Nat} {st' : List zV} (hr : ∀ {p : Program} {l : Launch} {e : Env} {R : Room} {s : State} {mi : MethodId} {args : Array Value} {below : List Frame} {meth : Method} {c : Code} {H : Heap} {locs : List Loc} {cells slots : Nat} {QQ : State → Prop} {A : Nat → Prop} {ad : Nat → Nat} {lsl : Array Slot}, p.tables.exec = Jvm.exec → c.code = zCb y → s.vm.findClass (zOw y) = some mi.cls → (∀ w ∈ zgood, w.before args s = true) →
      va_S A s.heap H locs → zRO s A ad (m 2000) → (∀ v ∈ st, zOk n v) → 
      W p l e R s mi args below meth c H locs cells slots QQ (F0 mi pc' lsl (st'.map (zc ad))) → W p l e R s mi args below meth c H locs cells slots QQ (F0 mi pc lsl (st.map (zc ad))))
    (ok : (∀ i, zIn (m 2000 i)) → (∀ v ∈ st, zOk n v) → ∀ v ∈ st', zOk n v) (k : WP d y pc' ls st' n u x m n' u' Q) : WP d y pc ls st n u x m n' u' Q := by
  intro p l e R s mi args below meth c QQ D A sc ro ad0 n0 E H locs ad lsl S
  obtain ⟨⟨hx, hb, -, -, ho, ht, -⟩, -, -, hro, -⟩ := id E
  obtain ⟨s1, s2, s3, s4, s5, s6, s7, s8, s9⟩ := id S
  have hro2 : zRO s A ad (m 2000) := by
    unfold zRO at hro ⊢
    rw [s3, s5 2000 (by omega), s5 2001 (by omega), s5 2002 (by omega), s5 2003 (by omega)]
    exact hro
  exact hr (A := A) hx hb ho ht s2 hro2 s9 (k p l e R s mi args below meth c QQ D A sc ro ad0 n0 E H locs ad lsl ⟨s1, s2, s3, s4, s5, s6, s7, s8, ok hro2.2.1 s9⟩)
theorem wp_sld (hd : decode (zCb y) pc = .ok (.iaload, 1)) (hi : 0 ≤ i ∧ i < m 2000 (-1)) (k : WP d y (pc + 1) ls (zi (m 2000 i) :: st) n u x m n' u' Q) : WP d y pc ls (zi i :: zr 2000 :: st) n u x m n' u' Q := by
  refine wp_ro (fun {p l e R s mi args below meth cc H locs cells slots QQ A ad lsl} hx hb how ht hS hro s9 g => ?_) (fun h s9 => zOk_cons (v := zi _) (h i) (zOk_tl (zOk_tl s9))) k
  obtain ⟨⟨L, h1, h2, hX, hl, hA⟩, -⟩ := hro
  have hii : zIn i := zOk_hd s9
  rw [h2] at hi
  refine va_sld (i := Int32.ofInt i) hx hb hX hl hA hS (zvp_in hii hi) hd ?_
  rw [z32_clamp hii hi.1]
  have e : ((i.toNat : Nat) : Int) = i := by omega
  simp only [e]
  exact g
theorem wp_slen (hd : decode (zCb y) pc = .ok (.arraylength, 1)) (k : WP d y (pc + 1) ls (zi (m 2000 (-1)) :: st) n u x m n' u' Q) : WP d y pc ls (zr 2000 :: st) n u x m n' u' Q := by
  refine wp_ro (fun {p l e R s mi args below meth cc H locs cells slots QQ A ad lsl} hx hb how ht hS hro s9 g => ?_) (fun h s9 => zOk_cons (v := zi _) (h _) (zOk_tl s9)) k
  obtain ⟨⟨L, h1, h2, hX, hl, hA⟩, -⟩ := hro
  refine va_slen hx hb hX hl hA hS hd ?_
  have e : Int32.ofNat L = Int32.ofInt (m 2000 (-1)) := by
    rw [h2]
    apply Int32.toInt_inj.mp
    rw [z32_to ⟨by omega, by omega⟩]
    exact Int32.toInt_ofNat_of_lt (by omega)
  rw [e]
  exact g
def zUi (i : Int) : Int := if i = 0 then -1 else if i = 4 then 3 else if i = 5 then 2 else 0
def zOi (i : Int) : Int := if i = 0 then 1 else if i = 1 then 5000 else if i = 2 then 10 else if i = 3 then 20 else if i = 4 then 50 else 0
theorem z6 {i : Int} (h : 0 ≤ i ∧ i < 6) : i = 0 ∨ i = 1 ∨ i = 2 ∨ i = 3 ∨ i = 4 ∨ i = 5 := by omega
theorem wp_uld (hd : decode (zCb y) pc = .ok (.iaload, 1)) (hi : 0 ≤ i ∧ i < 6) (k : WP d y (pc + 1) ls (zi (zUi i) :: st) n u x m n' u' Q) : WP d y pc ls (zi i :: zr 2001 :: st) n u x m n' u' Q := by
  refine wp_ro (fun {p l e R s mi args below meth cc H locs cells slots QQ A ad lsl} hx hb how ht hS hro s9 g => ?_) (fun h s9 => zOk_cons (v := zi _) (by rcases z6 hi with rfl | rfl | rfl | rfl | rfl | rfl <;> exact ⟨by decide, by decide⟩) (zOk_tl (zOk_tl s9))) k
  obtain ⟨-, -, ⟨hZ, hT⟩, -⟩ := hro
  have hii : zIn i := zOk_hd s9
  refine va_ti (i := Int32.ofInt i) hx hb hT hS (zvp_in hii hi) (v := .int (Int32.ofInt (zUi i))) ?_ hd g
  rw [z32_clamp hii hi.1]
  rcases z6 hi with rfl | rfl | rfl | rfl | rfl | rfl <;> rfl
theorem wp_old (hd : decode (zCb y) pc = .ok (.iaload, 1)) (hi : 0 ≤ i ∧ i < 6) (k : WP d y (pc + 1) ls (zi (zOi i) :: st) n u x m n' u' Q) : WP d y pc ls (zi i :: zr 2002 :: st) n u x m n' u' Q := by
  refine wp_ro (fun {p l e R s mi args below meth cc H locs cells slots QQ A ad lsl} hx hb how ht hS hro s9 g => ?_) (fun h s9 => zOk_cons (v := zi _) (by rcases z6 hi with rfl | rfl | rfl | rfl | rfl | rfl <;> exact ⟨by decide, by decide⟩) (zOk_tl (zOk_tl s9))) k
  obtain ⟨-, -, -, ⟨hZ, hT⟩, -⟩ := hro
  have hii : zIn i := zOk_hd s9
  refine va_ti (i := Int32.ofInt i) hx hb hT hS (zvp_in hii hi) (v := .int (Int32.ofInt (zOi i))) ?_ hd g
  rw [z32_clamp hii hi.1]
  rcases z6 hi with rfl | rfl | rfl | rfl | rfl | rfl <;> rfl
/-- a static array's name -/
def zSn (t : Nat) : String := if t = 2001 then "UNDER" else "OTHERWISE"
theorem wp_getstatic {idx t : Nat} (hd : decode (zCb y) pc = .ok (.getstatic idx, 3)) (ht : t = 2001 ∨ t = 2002) (hl : (zOw y, idx, zSn t) ∈ zNF) (k : WP d y (pc + 3) ls (zr t :: st) n u x m n' u' Q) : WP d y pc ls st n u x m n' u' Q := by
  refine wp_ro (fun {p l e R s mi args below meth cc H locs cells slots QQ A ad lsl} hx hb how hts hS hro s9 g => ?_) (fun h s9 => zOk_cons (v := zr t) (Or.inr (by omega)) s9) k
  obtain ⟨-, -, ⟨hZ, hT⟩, ⟨hZ2, hT2⟩, -, -, -, -, -, -, -, hN⟩ := hro
  have hl2 := (hN _ hl).use rfl (A := args)
  rcases ht with rfl | rfl
  · exact va_getsN hx hb hZ hS how hl2 (fun _ h => h) hd g
  · exact va_getsN hx hb hZ2 hS how hl2 (fun _ h => h) hd g
-- returns
theorem wp_ret {r : Int} (hd : decode (zCb y) pc = .ok (zRi y, 1)) (hst : ∀ ad : Nat → Nat, st.map (zc ad) = zRs y r) (hok : (∀ v ∈ st, zOk n v) → zRok y r) (hn : n = n') (hu : u = u') (hq : Q r x m) : WP d y pc ls st n u x m n' u' Q := by
  intro p l e R s mi args below meth c QQ D A sc ro ad0 n0 E H locs ad lsl S
  obtain ⟨-, -, -, -, hret⟩ := E
  obtain ⟨s1, s2, s3, s4, s5, s6, s7, s8, s9⟩ := id S
  subst hn; subst hu
  rw [hst ad]
  exact hret H locs ad x m lsl pc r hd s1 s2 s3 s4 s5 (hok s9) hq
theorem wp_weak {Q' : Int → zM → zM → Prop} (h : WP d y pc ls st n u x m n' u' Q) (hq : ∀ r x m, Q r x m → Q' r x m) : WP d y pc ls st n u x m n' u' Q' := by
  intro p l e R s mi args below meth c QQ D A sc ro ad0 n0 E H locs ad lsl S
  obtain ⟨e1, e2, e3, e4, hret⟩ := E
  exact h p l e R s mi args below meth c QQ D A sc ro ad0 n0 ⟨e1, e2, e3, e4, fun H locs ad x m lsl pc r g1 g2 g3 g4 g5 g6 g7 g8 => hret H locs ad x m lsl pc r g1 g2 g3 g4 g5 g6 g7 (hq _ _ _ g8)⟩ H locs ad lsl S
/-- fewer locals -/
theorem wp_drop {ls' : List (Nat × zV)} (hl : ∀ q ∈ ls', q ∈ ls) (k : WP d y pc ls' st n u x m n' u' Q) : WP d y pc ls st n u x m n' u' Q := by
  intro p l e R s mi args below meth c QQ D A sc ro ad0 n0 E H locs ad lsl S
  obtain ⟨s1, s2, s3, s4, s5, s6, ⟨h1, h2, h3⟩, s8, s9⟩ := id S
  refine k p l e R s mi args below meth c QQ D A sc ro ad0 n0 E H locs ad lsl ⟨s1, s2, s3, s4, s5, s6, ⟨h1, h2, fun q hq => ?_⟩, fun q hq => s8 q (hl q hq), s9⟩
  obtain ⟨q2, h4, rfl⟩ := List.mem_map.mp hq
  exact h3 _ (List.mem_map.mpr ⟨q2, hl q2 h4, rfl⟩)
end ZC
