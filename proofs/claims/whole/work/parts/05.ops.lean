/-! arithmetic, branches, the stack's own moves -/
theorem z32_add (a b : Int) : Int32.ofInt a + Int32.ofInt b = Int32.ofInt (a + b) := (Int32.ofInt_add a b).symm
theorem z32_sub (a b : Int) : Int32.ofInt a - Int32.ofInt b = Int32.ofInt (a - b) := (Int32.ofInt_sub a b).symm
theorem z32_mul (a b : Int) : Int32.ofInt a * Int32.ofInt b = Int32.ofInt (a * b) := (Int32.ofInt_mul a b).symm
theorem z32_neg (a : Int) : -Int32.ofInt a = Int32.ofInt (-a) := (Int32.ofInt_neg a).symm
theorem z64_add (a b : Int) : Int64.ofInt a + Int64.ofInt b = Int64.ofInt (a + b) := (Int64.ofInt_add a b).symm
theorem z64_sub (a b : Int) : Int64.ofInt a - Int64.ofInt b = Int64.ofInt (a - b) := (Int64.ofInt_sub a b).symm
theorem z64_mul (a b : Int) : Int64.ofInt a * Int64.ofInt b = Int64.ofInt (a * b) := (Int64.ofInt_mul a b).symm
theorem z32_bm (a : Int) : Int32.ofInt (a.bmod 4294967296) = Int32.ofInt a := by
  apply Int32.toInt_inj.mp
  rw [Int32.toInt_ofInt, Int32.toInt_ofInt]
  exact Int.bmod_bmod
theorem z64_bm (a : Int) : Int64.ofInt (a.bmod 18446744073709551616) = Int64.ofInt a := by
  apply Int64.toInt_inj.mp
  rw [Int64.toInt_ofInt, Int64.toInt_ofInt]
  exact Int.bmod_bmod
theorem z32_div {a b : Int} (ha : zIn a) (hb : zIn b) : Int32.ofInt a / Int32.ofInt b = Int32.ofInt (a.tdiv b) := by
  rw [← z32_of (Int32.ofInt a / Int32.ofInt b), Int32.toInt_div, z32_to ha, z32_to hb]
  exact z32_bm _
theorem z64_div {a b : Int} (ha : zLn a) (hb : zLn b) : Int64.ofInt a / Int64.ofInt b = Int64.ofInt (a.tdiv b) := by
  rw [← z64_of (Int64.ofInt a / Int64.ofInt b), Int64.toInt_div, z64_to ha, z64_to hb]
  exact z64_bm _
theorem z32_rem {a b : Int} (ha : zIn a) (hb : zIn b) : Int32.ofInt a - Int32.ofInt a / Int32.ofInt b * Int32.ofInt b = Int32.ofInt (a.tmod b) := by
  rw [z32_div ha hb, z32_mul, z32_sub, Int.tmod_def, Int.mul_comm]
theorem z64_rem {a b : Int} (ha : zLn a) (hb : zLn b) : Int64.ofInt a - Int64.ofInt a / Int64.ofInt b * Int64.ofInt b = Int64.ofInt (a.tmod b) := by
  rw [z64_div ha hb, z64_mul, z64_sub, Int.tmod_def, Int.mul_comm]
theorem z32_ne0 {b : Int} (hb : zIn b) (h : b ≠ 0) : ¬ Int32.ofInt b = 0 := by
  intro e
  exact h ((z32_inj hb ⟨by omega, by omega⟩).mp (e.trans (show (0 : Int32) = Int32.ofInt 0 from rfl)))
theorem z64_ne0 {b : Int} (hb : zLn b) (h : b ≠ 0) : ¬ Int64.ofInt b = 0 := by
  intro e
  exact h ((z64_inj hb ⟨by omega, by omega⟩).mp (e.trans (show (0 : Int64) = Int64.ofInt 0 from rfl)))
theorem z_i2l {a : Int} (h : zIn a) : (Int32.ofInt a).toInt64 = Int64.ofInt a := by
  apply Int64.toInt_inj.mp
  rw [Int32.toInt_toInt64, z32_to h, z64_to ⟨by unfold zIn at h; omega, by unfold zIn at h; omega⟩]
theorem z_l2i {a : Int} (h : zLn a) : (Int64.ofInt a).toInt32 = Int32.ofInt a := by
  rw [← z32_of (Int64.ofInt a).toInt32, Int64.toInt_toInt32, z64_to h]
  exact z32_bm _
theorem zIn_Ln {a : Int} (h : zIn a) : zLn a := by unfold zIn at h; unfold zLn; omega
section ZO
variable {d y pc n n' : Nat} {ls : List (Nat × zV)} {st : List zV} {u u' : List (Nat × Nat)} {x m : zM} {Q : Int → zM → zM → Prop} {a b z : Int}
theorem wp_iadd (hd : decode (zCb y) pc = .ok (.iadd, 1)) (hz : Int32.ofInt z = Int32.ofInt (a + b)) (hr : zIn z) (k : WP d y (pc + 1) ls (zi z :: st) n u x m n' u' Q) : WP d y pc ls (zi b :: zi a :: st) n u x m n' u' Q :=
  wp_st (fun ad lsl _ _ _ => fun hx hb hk => lv_iadd hx hb hd (by rw [z32_add, ← hz]; exact hk)) (fun _ h => zOk_cons (v := zi z) hr (zOk_tl (zOk_tl h))) k
theorem wp_isub (hd : decode (zCb y) pc = .ok (.isub, 1)) (hz : Int32.ofInt z = Int32.ofInt (a - b)) (hr : zIn z) (k : WP d y (pc + 1) ls (zi z :: st) n u x m n' u' Q) : WP d y pc ls (zi b :: zi a :: st) n u x m n' u' Q :=
  wp_st (fun ad lsl _ _ _ => fun hx hb hk => lv_isub hx hb hd (by rw [z32_sub, ← hz]; exact hk)) (fun _ h => zOk_cons (v := zi z) hr (zOk_tl (zOk_tl h))) k
theorem wp_imul (hd : decode (zCb y) pc = .ok (.imul, 1)) (hz : Int32.ofInt z = Int32.ofInt (a * b)) (hr : zIn z) (k : WP d y (pc + 1) ls (zi z :: st) n u x m n' u' Q) : WP d y pc ls (zi b :: zi a :: st) n u x m n' u' Q :=
  wp_st (fun ad lsl _ _ _ => fun hx hb hk => lv_imul hx hb hd (by rw [z32_mul, ← hz]; exact hk)) (fun _ h => zOk_cons (v := zi z) hr (zOk_tl (zOk_tl h))) k
theorem wp_ineg (hd : decode (zCb y) pc = .ok (.ineg, 1)) (hz : Int32.ofInt z = Int32.ofInt (-a)) (hr : zIn z) (k : WP d y (pc + 1) ls (zi z :: st) n u x m n' u' Q) : WP d y pc ls (zi a :: st) n u x m n' u' Q :=
  wp_st (fun ad lsl _ _ _ => fun hx hb hk => lv_ineg hx hb hd (by rw [z32_neg, ← hz]; exact hk)) (fun _ h => zOk_cons (v := zi z) hr (zOk_tl h)) k
theorem wp_idiv (hd : decode (zCb y) pc = .ok (.idiv, 1)) (h0 : b ≠ 0) (hz : Int32.ofInt z = Int32.ofInt (a.tdiv b)) (hr : zIn a → zIn z) (k : WP d y (pc + 1) ls (zi z :: st) n u x m n' u' Q) : WP d y pc ls (zi b :: zi a :: st) n u x m n' u' Q :=
  wp_st (fun ad lsl _ _ h => fun hx hb hk => lv_idiv hx hb hd (z32_ne0 (zOk_hd h) h0) (by rw [z32_div (zOk_hd (zOk_tl h)) (zOk_hd h), ← hz]; exact hk)) (fun _ h => zOk_cons (v := zi z) (hr (zOk_hd (zOk_tl h))) (zOk_tl (zOk_tl h))) k
theorem wp_irem (hd : decode (zCb y) pc = .ok (.irem, 1)) (h0 : b ≠ 0) (hz : Int32.ofInt z = Int32.ofInt (a.tmod b)) (hr : zIn a → zIn z) (k : WP d y (pc + 1) ls (zi z :: st) n u x m n' u' Q) : WP d y pc ls (zi b :: zi a :: st) n u x m n' u' Q :=
  wp_st (fun ad lsl _ _ h => fun hx hb hk => lv_irem hx hb hd (z32_ne0 (zOk_hd h) h0) (by rw [z32_rem (zOk_hd (zOk_tl h)) (zOk_hd h), ← hz]; exact hk)) (fun _ h => zOk_cons (v := zi z) (hr (zOk_hd (zOk_tl h))) (zOk_tl (zOk_tl h))) k
theorem wp_iand (hd : decode (zCb y) pc = .ok (.iand, 1)) (k : WP d y (pc + 1) ls (zi (zand a b) :: st) n u x m n' u' Q) : WP d y pc ls (zi b :: zi a :: st) n u x m n' u' Q :=
  wp_st (fun ad lsl _ _ _ => fun hx hb hk => lv_iand hx hb hd (by rw [← z32_of (_ &&& _)]; exact hk)) (fun _ h => zOk_cons (v := zi _) (z32_rng _) (zOk_tl (zOk_tl h))) k
theorem wp_ior (hd : decode (zCb y) pc = .ok (.ior, 1)) (k : WP d y (pc + 1) ls (zi (zor a b) :: st) n u x m n' u' Q) : WP d y pc ls (zi b :: zi a :: st) n u x m n' u' Q :=
  wp_st (fun ad lsl _ _ _ => fun hx hb hk => lv_ior hx hb hd (by rw [← z32_of (_ ||| _)]; exact hk)) (fun _ h => zOk_cons (v := zi _) (z32_rng _) (zOk_tl (zOk_tl h))) k
theorem wp_ixor (hd : decode (zCb y) pc = .ok (.ixor, 1)) (k : WP d y (pc + 1) ls (zi (zxor a b) :: st) n u x m n' u' Q) : WP d y pc ls (zi b :: zi a :: st) n u x m n' u' Q :=
  wp_st (fun ad lsl _ _ _ => fun hx hb hk => lv_ixor hx hb hd (by rw [← z32_of (_ ^^^ _)]; exact hk)) (fun _ h => zOk_cons (v := zi _) (z32_rng _) (zOk_tl (zOk_tl h))) k
theorem wp_ishl (hd : decode (zCb y) pc = .ok (.ishl, 1)) (k : WP d y (pc + 1) ls (zi (zshl a b) :: st) n u x m n' u' Q) : WP d y pc ls (zi b :: zi a :: st) n u x m n' u' Q :=
  wp_st (fun ad lsl _ _ _ => fun hx hb hk => lv_ishl hx hb hd (by rw [← z32_of (_ <<< _)]; exact hk)) (fun _ h => zOk_cons (v := zi _) (z32_rng _) (zOk_tl (zOk_tl h))) k
theorem wp_ishr (hd : decode (zCb y) pc = .ok (.ishr, 1)) (k : WP d y (pc + 1) ls (zi (zshr a b) :: st) n u x m n' u' Q) : WP d y pc ls (zi b :: zi a :: st) n u x m n' u' Q :=
  wp_st (fun ad lsl _ _ _ => fun hx hb hk => lv_ishr hx hb hd (by rw [← z32_of (_ >>> _)]; exact hk)) (fun _ h => zOk_cons (v := zi _) (z32_rng _) (zOk_tl (zOk_tl h))) k
theorem wp_ladd (hd : decode (zCb y) pc = .ok (.ladd, 1)) (hz : Int64.ofInt z = Int64.ofInt (a + b)) (hr : zLn z) (k : WP d y (pc + 1) ls (zl z :: st) n u x m n' u' Q) : WP d y pc ls (zl b :: zl a :: st) n u x m n' u' Q :=
  wp_st (fun ad lsl _ _ _ => fun hx hb hk => lv_ladd hx hb hd (by rw [z64_add, ← hz]; exact hk)) (fun _ h => zOk_cons (v := zl z) hr (zOk_tl (zOk_tl h))) k
theorem wp_lsub (hd : decode (zCb y) pc = .ok (.lsub, 1)) (hz : Int64.ofInt z = Int64.ofInt (a - b)) (hr : zLn z) (k : WP d y (pc + 1) ls (zl z :: st) n u x m n' u' Q) : WP d y pc ls (zl b :: zl a :: st) n u x m n' u' Q :=
  wp_st (fun ad lsl _ _ _ => fun hx hb hk => lv_lsub hx hb hd (by rw [z64_sub, ← hz]; exact hk)) (fun _ h => zOk_cons (v := zl z) hr (zOk_tl (zOk_tl h))) k
theorem wp_lmul (hd : decode (zCb y) pc = .ok (.lmul, 1)) (hz : Int64.ofInt z = Int64.ofInt (a * b)) (hr : zLn z) (k : WP d y (pc + 1) ls (zl z :: st) n u x m n' u' Q) : WP d y pc ls (zl b :: zl a :: st) n u x m n' u' Q :=
  wp_st (fun ad lsl _ _ _ => fun hx hb hk => lv_lmul hx hb hd (by rw [z64_mul, ← hz]; exact hk)) (fun _ h => zOk_cons (v := zl z) hr (zOk_tl (zOk_tl h))) k
theorem wp_ldiv (hd : decode (zCb y) pc = .ok (.ldiv, 1)) (h0 : b ≠ 0) (hz : Int64.ofInt z = Int64.ofInt (a.tdiv b)) (hr : zLn a → zLn z) (k : WP d y (pc + 1) ls (zl z :: st) n u x m n' u' Q) : WP d y pc ls (zl b :: zl a :: st) n u x m n' u' Q :=
  wp_st (fun ad lsl _ _ h => fun hx hb hk => lv_ldiv hx hb hd (z64_ne0 (zOk_hd h) h0) (by rw [z64_div (zOk_hd (zOk_tl h)) (zOk_hd h), ← hz]; exact hk)) (fun _ h => zOk_cons (v := zl z) (hr (zOk_hd (zOk_tl h))) (zOk_tl (zOk_tl h))) k
theorem wp_lrem (hd : decode (zCb y) pc = .ok (.lrem, 1)) (h0 : b ≠ 0) (hz : Int64.ofInt z = Int64.ofInt (a.tmod b)) (hr : zLn a → zLn z) (k : WP d y (pc + 1) ls (zl z :: st) n u x m n' u' Q) : WP d y pc ls (zl b :: zl a :: st) n u x m n' u' Q :=
  wp_st (fun ad lsl _ _ h => fun hx hb hk => lv_lrem hx hb hd (z64_ne0 (zOk_hd h) h0) (by rw [z64_rem (zOk_hd (zOk_tl h)) (zOk_hd h), ← hz]; exact hk)) (fun _ h => zOk_cons (v := zl z) (hr (zOk_hd (zOk_tl h))) (zOk_tl (zOk_tl h))) k
theorem wp_lor (hd : decode (zCb y) pc = .ok (.lor, 1)) (k : WP d y (pc + 1) ls (zl (zlor a b) :: st) n u x m n' u' Q) : WP d y pc ls (zl b :: zl a :: st) n u x m n' u' Q :=
  wp_st (fun ad lsl _ _ _ => fun hx hb hk => lv_lor hx hb hd (by rw [← z64_of (_ ||| _)]; exact hk)) (fun _ h => zOk_cons (v := zl _) (z64_rng _) (zOk_tl (zOk_tl h))) k
theorem wp_lshl (hd : decode (zCb y) pc = .ok (.lshl, 1)) (k : WP d y (pc + 1) ls (zl (zlshl a b) :: st) n u x m n' u' Q) : WP d y pc ls (zi b :: zl a :: st) n u x m n' u' Q :=
  wp_st (fun ad lsl _ _ _ => fun hx hb hk => lv_lshl hx hb hd (z64_of _).symm hk) (fun _ h => zOk_cons (v := zl _) (z64_rng _) (zOk_tl (zOk_tl h))) k
theorem wp_i2l (hd : decode (zCb y) pc = .ok (.i2l, 1)) (k : WP d y (pc + 1) ls (zl a :: st) n u x m n' u' Q) : WP d y pc ls (zi a :: st) n u x m n' u' Q :=
  wp_st (fun ad lsl _ _ h => fun hx hb hk => lv_i2l hx hb hd (z_i2l (zOk_hd h)) hk) (fun _ h => zOk_cons (v := zl a) (zIn_Ln (zOk_hd h)) (zOk_tl h)) k
theorem wp_l2i (hd : decode (zCb y) pc = .ok (.l2i, 1)) (hz : Int32.ofInt z = Int32.ofInt a) (hr : zIn z) (k : WP d y (pc + 1) ls (zi z :: st) n u x m n' u' Q) : WP d y pc ls (zl a :: st) n u x m n' u' Q :=
  wp_st (fun ad lsl _ _ h => fun hx hb hk => lv_l2i hx hb hd ((z_l2i (zOk_hd h)).trans hz.symm) hk) (fun _ h => zOk_cons (v := zi z) hr (zOk_tl h)) k
-- the stack
theorem wp_dup {v : zV} (hd : decode (zCb y) pc = .ok (.dup, 1)) (hv : zcat v = 1) (k : WP d y (pc + 1) ls (v :: v :: st) n u x m n' u' Q) : WP d y pc ls (v :: st) n u x m n' u' Q :=
  wp_st (fun ad lsl _ _ _ => fun hx hb hk => lv_dup hx hb hd (by rw [zcat_eq]; exact hv) hk) (fun _ h => zOk_cons (zOk_hd h) h) k
theorem wp_pop {v : zV} (hd : decode (zCb y) pc = .ok (.pop, 1)) (hv : zcat v = 1) (k : WP d y (pc + 1) ls st n u x m n' u' Q) : WP d y pc ls (v :: st) n u x m n' u' Q :=
  wp_st (fun ad lsl _ _ _ => fun hx hb hk => lv_pop hx hb hd (by rw [zcat_eq]; exact hv) hk) (fun _ h => zOk_tl h) k
theorem wp_pop2 {v : zV} (hd : decode (zCb y) pc = .ok (.pop2, 1)) (hv : zcat v = 2) (k : WP d y (pc + 1) ls st n u x m n' u' Q) : WP d y pc ls (v :: st) n u x m n' u' Q :=
  wp_st (fun ad lsl _ _ _ => fun hx hb hk => lv_pop2_2 hx hb hd (by rw [zcat_eq]; exact hv) hk) (fun _ h => zOk_tl h) k
theorem wp_dup2 {v w : zV} (hd : decode (zCb y) pc = .ok (.dup2, 1)) (hv : zcat v = 1) (hw : zcat w = 1) (k : WP d y (pc + 1) ls (v :: w :: v :: w :: st) n u x m n' u' Q) : WP d y pc ls (v :: w :: st) n u x m n' u' Q :=
  wp_st (fun ad lsl _ _ _ => fun hx hb hk => lv_dup2_11 hx hb hd (by rw [zcat_eq]; exact hv) (by rw [zcat_eq]; exact hw) hk) (fun _ h => zOk_cons (zOk_hd h) (zOk_cons (zOk_hd (zOk_tl h)) h)) k
theorem wp_goto {off : Int} {tgt : Nat} (hd : decode (zCb y) pc = .ok (.goto off, 3)) (ht : (pc : Int) + off = (tgt : Int)) (k : WP d y tgt ls st n u x m n' u' Q) : WP d y pc ls st n u x m n' u' Q :=
  wp_st (fun ad lsl _ _ _ => fun hx hb hk => lv_goto hx hb hd ht hk) (fun _ h => h) k
-- branches
theorem wp_br {C : Prop} {p1 p2 : Nat} {st' : List zV} (hr : ∀ (ad : Nat → Nat) (lsl : Array Slot), (∀ v ∈ st, zOk n v) → ∀ {p : Program} {l : Launch} {e : Env} {R : Room} {s : State} {mi : MethodId} {args : Array Value} {below : List Frame} {meth : Method} {c : Code} {H : Heap} {locs : List Loc} {cells slots : Nat} {QQ : State → Prop}, p.tables.exec = Jvm.exec → c.code = zCb y →
      (C → W p l e R s mi args below meth c H locs cells slots QQ (F0 mi p1 lsl (st'.map (zc ad)))) → (¬ C → W p l e R s mi args below meth c H locs cells slots QQ (F0 mi p2 lsl (st'.map (zc ad)))) → W p l e R s mi args below meth c H locs cells slots QQ (F0 mi pc lsl (st.map (zc ad))))
    (ok : (∀ v ∈ st, zOk n v) → ∀ v ∈ st', zOk n v) (k1 : C → WP d y p1 ls st' n u x m n' u' Q) (k2 : ¬ C → WP d y p2 ls st' n u x m n' u' Q) : WP d y pc ls st n u x m n' u' Q := by
  intro p l e R s mi args below meth c QQ D A sc ro ad0 n0 E H locs ad lsl S
  obtain ⟨⟨hx, hb, -⟩, -⟩ := id E
  obtain ⟨s1, s2, s3, s4, s5, s6, s7, s8, s9⟩ := id S
  exact hr ad lsl s9 hx hb (fun h => k1 h p l e R s mi args below meth c QQ D A sc ro ad0 n0 E H locs ad lsl ⟨s1, s2, s3, s4, s5, s6, s7, s8, ok s9⟩) (fun h => k2 h p l e R s mi args below meth c QQ D A sc ro ad0 n0 E H locs ad lsl ⟨s1, s2, s3, s4, s5, s6, s7, s8, ok s9⟩)
/-- what a comparison says, and its denial -/
def zcmp (c : ClassFile.Cond) (a b : Int) : Prop := match c with
  | .eq => a = b
  | .ne => a ≠ b
  | .lt => a < b
  | .ge => b ≤ a
  | .gt => b < a
  | .le => a ≤ b
def zcmn (c : ClassFile.Cond) (a b : Int) : Prop := match c with
  | .eq => a ≠ b
  | .ne => a = b
  | .lt => b ≤ a
  | .ge => a < b
  | .gt => a ≤ b
  | .le => b < a
theorem zcmn_of {c : ClassFile.Cond} (h : ¬ zcmp c a b) : zcmn c a b := by
  cases c <;> simp only [zcmp, zcmn] at * <;> omega
theorem wp_icmp {c : ClassFile.Cond} {off : Int} {tgt : Nat} (hd : decode (zCb y) pc = .ok (.if_icmp c off, 3)) (ht : (pc : Int) + off = (tgt : Int)) (k1 : zcmp c a b → WP d y tgt ls st n u x m n' u' Q) (k2 : zcmn c a b → WP d y (pc + 3) ls st n u x m n' u' Q) : WP d y pc ls (zi b :: zi a :: st) n u x m n' u' Q := by
  refine wp_br (C := zcmp c a b) (fun ad lsl h => ?_) (fun h => zOk_tl (zOk_tl h)) k1 (fun h => k2 (zcmn_of h))
  intro p l e R s mi args below meth cc H locs cells slots QQ hx hb g1 g2
  have hb1 : zIn b := zOk_hd h
  have ha1 : zIn a := zOk_hd (zOk_tl h)
  cases c
  · exact lv_icmp_eq hx hb hd ht (fun q => g1 ((z32_inj ha1 hb1).mp q)) (fun q => g2 (fun r => q ((z32_inj ha1 hb1).mpr r)))
  · exact lv_icmp_ne hx hb hd ht (fun q => g1 (fun r => q ((z32_inj ha1 hb1).mpr r))) (fun q => g2 (fun r => r ((z32_inj ha1 hb1).mp q)))
  · exact lv_icmp_lt hx hb hd ht (fun q => g1 ((z32_lt ha1 hb1).mp q)) (fun q => g2 (fun r => q ((z32_lt ha1 hb1).mpr r)))
  · exact lv_icmp_ge hx hb hd ht (fun q => g1 ((z32_le hb1 ha1).mp q)) (fun q => g2 (fun r => q ((z32_le hb1 ha1).mpr r)))
  · exact lv_icmp_gt hx hb hd ht (fun q => g1 ((z32_lt hb1 ha1).mp q)) (fun q => g2 (fun r => q ((z32_lt hb1 ha1).mpr r)))
  · exact lv_icmp_le hx hb hd ht (fun q => g1 ((z32_le ha1 hb1).mp q)) (fun q => g2 (fun r => q ((z32_le ha1 hb1).mpr r)))
theorem wp_ifc {c : ClassFile.Cond} {off : Int} {tgt : Nat} (hd : decode (zCb y) pc = .ok (.ifCond c off, 3)) (ht : (pc : Int) + off = (tgt : Int)) (k1 : zcmp c a 0 → WP d y tgt ls st n u x m n' u' Q) (k2 : zcmn c a 0 → WP d y (pc + 3) ls st n u x m n' u' Q) : WP d y pc ls (zi a :: st) n u x m n' u' Q := by
  refine wp_br (C := zcmp c a 0) (fun ad lsl h => ?_) (fun h => zOk_tl h) k1 (fun h => k2 (zcmn_of h))
  intro p l e R s mi args below meth cc H locs cells slots QQ hx hb g1 g2
  have hb1 : zIn 0 := ⟨by omega, by omega⟩
  have ha1 : zIn a := zOk_hd h
  have e0 : (0 : Int32) = Int32.ofInt 0 := rfl
  cases c
  · exact lv_if_eq hx hb hd ht (fun q => g1 ((z32_inj ha1 hb1).mp q)) (fun q => g2 (fun r => q ((z32_inj ha1 hb1).mpr r)))
  · exact lv_if_ne hx hb hd ht (fun q => g1 (fun r => q ((z32_inj ha1 hb1).mpr r))) (fun q => g2 (fun r => r ((z32_inj ha1 hb1).mp q)))
  · exact lv_if_lt hx hb hd ht (fun q => g1 ((z32_lt ha1 hb1).mp q)) (fun q => g2 (fun r => q ((z32_lt ha1 hb1).mpr r)))
  · exact lv_if_ge hx hb hd ht (fun q => g1 ((z32_le hb1 ha1).mp q)) (fun q => g2 (fun r => q ((z32_le hb1 ha1).mpr r)))
  · exact lv_if_gt hx hb hd ht (fun q => g1 ((z32_lt hb1 ha1).mp q)) (fun q => g2 (fun r => q ((z32_lt hb1 ha1).mpr r)))
  · exact lv_if_le hx hb hd ht (fun q => g1 ((z32_le ha1 hb1).mp q)) (fun q => g2 (fun r => q ((z32_le ha1 hb1).mpr r)))
/-- the three-way comparison of longs -/
def zlc (a b : Int) : Int := if a < b then -1 else if a = b then 0 else 1
theorem zlc_in : zIn (zlc a b) := by unfold zlc zIn; split <;> (try split) <;> omega
theorem lg_cmp_of (ha : zLn a) (hb : zLn b) : lg_cmp (Int64.ofInt a) (Int64.ofInt b) = Int32.ofInt (zlc a b) := by
  unfold lg_cmp zlc
  simp only [z64_lt ha hb, z64_lt hb ha, z64_inj ha hb]
  by_cases h1 : a < b
  · have h2 : ¬ b < a := by omega
    have h3 : ¬ a = b := by omega
    simp [h1, h2, h3]
  · by_cases h2 : a = b
    · simp [h2]
    · simp [h1, h2]; try omega
theorem wp_lcmp (hd : decode (zCb y) pc = .ok (.lcmp, 1)) (k : WP d y (pc + 1) ls (zi (zlc a b) :: st) n u x m n' u' Q) : WP d y pc ls (zl b :: zl a :: st) n u x m n' u' Q :=
  wp_st (fun ad lsl _ _ h => fun hx hb hk => W.lcmp hx hb hd (by rw [lg_cmp_of (zOk_hd (zOk_tl h)) (zOk_hd h)]; exact hk)) (fun _ h => zOk_cons (v := zi _) zlc_in (zOk_tl (zOk_tl h))) k
theorem zlc_cmp {c : ClassFile.Cond} (h : zcmp c (zlc a b) 0) : zcmp c a b := by
  unfold zlc at h
  cases c <;> simp only [zcmp] at * <;> split at h <;> (try split at h) <;> omega
theorem zlc_cmn {c : ClassFile.Cond} (h : zcmn c (zlc a b) 0) : zcmn c a b := by
  unfold zlc at h
  cases c <;> simp only [zcmn] at * <;> split at h <;> (try split at h) <;> omega
end ZO
