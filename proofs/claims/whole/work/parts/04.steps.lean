/-! numbers -/
theorem z32_eq (a : Int) : Int32.ofInt (w32 a) = Int32.ofInt a := by
  apply Int32.toInt_inj.mp
  rw [Int32.toInt_ofInt, Int32.toInt_ofInt]
  unfold w32
  simp only [Int.bmod, Int32.size]
  omega
theorem z64_eq (a : Int) : Int64.ofInt (w64 a) = Int64.ofInt a := by
  apply Int64.toInt_inj.mp
  rw [Int64.toInt_ofInt, Int64.toInt_ofInt]
  unfold w64
  simp only [Int.bmod, Int64.size]
  omega
theorem w32_in (a : Int) : zIn (w32 a) := by unfold zIn w32; omega
theorem w64_in (a : Int) : zLn (w64 a) := by unfold zLn w64; omega
theorem w32_id {a : Int} (h : zIn a) : w32 a = a := by unfold zIn at h; unfold w32; omega
theorem w64_id {a : Int} (h : zLn a) : w64 a = a := by unfold zLn at h; unfold w64; omega
theorem z32_to {a : Int} (h : zIn a) : (Int32.ofInt a).toInt = a := by
  rw [Int32.toInt_ofInt]
  unfold zIn at h
  simp only [Int.bmod, Int32.size]
  omega
theorem z64_to {a : Int} (h : zLn a) : (Int64.ofInt a).toInt = a := by
  rw [Int64.toInt_ofInt]
  unfold zLn at h
  simp only [Int.bmod, Int64.size]
  omega
theorem z32_rng (a : Int32) : zIn a.toInt := ⟨Int32.le_toInt a, Int32.toInt_lt a⟩
theorem z64_rng (a : Int64) : zLn a.toInt := ⟨Int64.le_toInt a, Int64.toInt_lt a⟩
theorem z32_of (a : Int32) : Int32.ofInt a.toInt = a := Int32.ofInt_toInt a
theorem z64_of (a : Int64) : Int64.ofInt a.toInt = a := Int64.ofInt_toInt a
theorem z32_lt {a b : Int} (ha : zIn a) (hb : zIn b) : Int32.ofInt a < Int32.ofInt b ↔ a < b := by
  rw [Int32.lt_iff_toInt_lt, z32_to ha, z32_to hb]
theorem z32_le {a b : Int} (ha : zIn a) (hb : zIn b) : Int32.ofInt a ≤ Int32.ofInt b ↔ a ≤ b := by
  rw [Int32.le_iff_toInt_le, z32_to ha, z32_to hb]
theorem z32_inj {a b : Int} (ha : zIn a) (hb : zIn b) : Int32.ofInt a = Int32.ofInt b ↔ a = b := by
  constructor
  · intro h
    have := congrArg Int32.toInt h
    rwa [z32_to ha, z32_to hb] at this
  · intro h; rw [h]
theorem z64_lt {a b : Int} (ha : zLn a) (hb : zLn b) : Int64.ofInt a < Int64.ofInt b ↔ a < b := by
  rw [Int64.lt_iff_toInt_lt, z64_to ha, z64_to hb]
theorem z64_inj {a b : Int} (ha : zLn a) (hb : zLn b) : Int64.ofInt a = Int64.ofInt b ↔ a = b := by
  constructor
  · intro h
    have := congrArg Int64.toInt h
    rwa [z64_to ha, z64_to hb] at this
  · intro h; rw [h]
theorem z32_clamp {a : Int} (h : zIn a) (h0 : 0 ≤ a) : (Int32.ofInt a).toNatClampNeg = a.toNat := by
  rw [← Int32.toNat_toInt, z32_to h]
theorem zvp_in {a : Int} {n : Nat} (h : zIn a) (h0 : 0 ≤ a ∧ a < n) : vp_in (Int32.ofInt a) n := by
  rw [vp_in_iff, z32_to h]
  exact h0

/-! bits, by the machine's own words -/
def zand (a b : Int) : Int := (Int32.ofInt a &&& Int32.ofInt b).toInt
def zor (a b : Int) : Int := (Int32.ofInt a ||| Int32.ofInt b).toInt
def zxor (a b : Int) : Int := (Int32.ofInt a ^^^ Int32.ofInt b).toInt
def zshl (a b : Int) : Int := (Int32.ofInt a <<< (Int32.ofInt b &&& 31)).toInt
def zshr (a b : Int) : Int := (Int32.ofInt a >>> (Int32.ofInt b &&& 31)).toInt
def zlor (a b : Int) : Int := (Int64.ofInt a ||| Int64.ofInt b).toInt
def zlshl (a b : Int) : Int := (Int64.ofInt a <<< ((Int32.ofInt b).toInt64 &&& 63)).toInt
section ZS
variable {d y pc n n' : Nat} {ls : List (Nat × zV)} {st : List zV} {u u' : List (Nat × Nat)} {x m : zM} {Q : Int → zM → zM → Prop}
abbrev zRow (y pc pc' : Nat) (lsl lsl' : Array Slot) (a b : List Value) : Prop := ∀ {p : Program} {l : Launch} {e : Env} {R : Room} {s : State} {mi : MethodId} {args : Array Value} {below : List Frame} {meth : Method} {c : Code} {H : Heap} {locs : List Loc} {cells slots : Nat} {QQ : State → Prop}, p.tables.exec = Jvm.exec → c.code = zCb y →
  W p l e R s mi args below meth c H locs cells slots QQ (F0 mi pc' lsl' b) → W p l e R s mi args below meth c H locs cells slots QQ (F0 mi pc lsl a)
abbrev zMap (ad : Nat → Nat) (ls : List (Nat × zV)) : List (Nat × Value) := ls.map fun q => (q.1, zc ad q.2)
/-- an instruction that moves the stack alone -/
theorem wp_st {pc' : Nat} {st' : List zV} (hr : ∀ (ad : Nat → Nat) (lsl : Array Slot), lv_has lsl (zMl y) (zMap ad ls) → (∀ q ∈ ls, zOk n q.2) → (∀ v ∈ st, zOk n v) → zRow y pc pc' lsl lsl (st.map (zc ad)) (st'.map (zc ad)))
    (ok : (∀ q ∈ ls, zOk n q.2) → (∀ v ∈ st, zOk n v) → ∀ v ∈ st', zOk n v) (k : WP d y pc' ls st' n u x m n' u' Q) : WP d y pc ls st n u x m n' u' Q := by
  intro p l e R s mi args below meth c QQ D A sc ro ad0 n0 E H locs ad lsl S
  obtain ⟨⟨hx, hb, -⟩, -⟩ := id E
  obtain ⟨s1, s2, s3, s4, s5, s6, s7, s8, s9⟩ := id S
  exact hr ad lsl s7 s8 s9 hx hb (k p l e R s mi args below meth c QQ D A sc ro ad0 n0 E H locs ad lsl ⟨s1, s2, s3, s4, s5, s6, s7, s8, ok s8 s9⟩)
/-- .. that writes a local -/
theorem wp_loc {pc' : Nat} {st' : List zV} {ls' : List (Nat × zV)} (hr : ∀ (ad : Nat → Nat) (lsl : Array Slot), lv_has lsl (zMl y) (zMap ad ls) → ∀ {p : Program} {l : Launch} {e : Env} {R : Room} {s : State} {mi : MethodId} {args : Array Value} {below : List Frame} {meth : Method} {c : Code} {H : Heap} {locs : List Loc} {cells slots : Nat} {QQ : State → Prop}, p.tables.exec = Jvm.exec → c.code = zCb y →
      (∀ lsl' : Array Slot, lv_has lsl' (zMl y) (zMap ad ls') → W p l e R s mi args below meth c H locs cells slots QQ (F0 mi pc' lsl' (st'.map (zc ad)))) → W p l e R s mi args below meth c H locs cells slots QQ (F0 mi pc lsl (st.map (zc ad))))
    (ok : (∀ q ∈ ls, zOk n q.2) → (∀ v ∈ st, zOk n v) → (∀ q ∈ ls', zOk n q.2) ∧ ∀ v ∈ st', zOk n v) (k : WP d y pc' ls' st' n u x m n' u' Q) : WP d y pc ls st n u x m n' u' Q := by
  intro p l e R s mi args below meth c QQ D A sc ro ad0 n0 E H locs ad lsl S
  obtain ⟨⟨hx, hb, -⟩, -⟩ := id E
  obtain ⟨s1, s2, s3, s4, s5, s6, s7, s8, s9⟩ := id S
  exact hr ad lsl s7 hx hb (fun lsl' h' => k p l e R s mi args below meth c QQ D A sc ro ad0 n0 E H locs ad lsl' ⟨s1, s2, s3, s4, s5, s6, h', (ok s8 s9).1, (ok s8 s9).2⟩)
/-- a look into the context, the walk unmoved -/
theorem wp_rng (k : (∀ q ∈ ls, zOk n q.2) → (∀ v ∈ st, zOk n v) → (∀ k i, zRg k i (zrd x m k i)) → WP d y pc ls st n u x m n' u' Q) : WP d y pc ls st n u x m n' u' Q := by
  intro p l e R s mi args below meth c QQ D A sc ro ad0 n0 E H locs ad lsl S
  obtain ⟨s1, s2, s3, s4, s5, s6, s7, s8, s9⟩ := id S
  obtain ⟨ca, tys, -, -, -, -, h, -⟩ := id s1
  exact k s8 s9 h p l e R s mi args below meth c QQ D A sc ro ad0 n0 E H locs ad lsl S
theorem wp_script (k : (∀ i, zIn (m 2000 i)) → (∃ L : Nat, L ≤ 2048 ∧ m 2000 (-1) = L) → WP d y pc ls st n u x m n' u' Q) : WP d y pc ls st n u x m n' u' Q := by
  intro p l e R s mi args below meth c QQ D A sc ro ad0 n0 E H locs ad lsl S
  obtain ⟨-, -, -, ⟨⟨L, h1, h2, -⟩, h3, -⟩, -⟩ := id E
  obtain ⟨s1, s2, s3, -⟩ := id S
  exact k (by rw [s3]; exact h3) ⟨L, h1, by rw [s3]; exact h2⟩ p l e R s mi args below meth c QQ D A sc ro ad0 n0 E H locs ad lsl S
theorem zOk_cons {v : zV} {st : List zV} (h : zOk n v) (hs : ∀ w ∈ st, zOk n w) : ∀ w ∈ v :: st, zOk n w := by
  intro w hw
  rcases List.mem_cons.mp hw with rfl | hw
  · exact h
  · exact hs w hw
theorem zOk_tl {v : zV} {st : List zV} (hs : ∀ w ∈ v :: st, zOk n w) : ∀ w ∈ st, zOk n w := fun w hw => hs w (List.mem_cons_of_mem _ hw)
theorem zOk_hd {v : zV} {st : List zV} (hs : ∀ w ∈ v :: st, zOk n w) : zOk n v := hs v List.mem_cons_self
-- constants
theorem zl2 (i : Fin 2) : Int64.ofNat i.val = Int64.ofInt (i.val : Int) := by revert i; decide
theorem wp_iconst {i : Int} (hd : decode (zCb y) pc = .ok (.iconst i, 1)) (hi : zIn i) (k : WP d y (pc + 1) ls (zi i :: st) n u x m n' u' Q) : WP d y pc ls st n u x m n' u' Q :=
  wp_st (fun ad lsl _ _ _ => fun hx hb hk => lv_iconst hx hb hd rfl hk) (fun _ h => zOk_cons (v := zi i) hi h) k
theorem wp_bipush {i : Int} (hd : decode (zCb y) pc = .ok (.bipush i, 2)) (hi : -128 ≤ i ∧ i < 128) (k : WP d y (pc + 2) ls (zi i :: st) n u x m n' u' Q) : WP d y pc ls st n u x m n' u' Q :=
  wp_st (fun ad lsl _ _ _ => fun hx hb hk => lv_bipush hx hb hd (by apply Int32.toInt_inj.mp; rw [Int8.toInt_toInt32, Int8.toInt_ofInt_of_le (by omega) (by omega), z32_to ⟨by omega, by omega⟩]) hk) (fun _ h => zOk_cons (v := zi i) (show zIn i from ⟨by omega, by omega⟩) h) k
theorem wp_sipush {i : Int} (hd : decode (zCb y) pc = .ok (.sipush i, 3)) (hi : -32768 ≤ i ∧ i < 32768) (k : WP d y (pc + 3) ls (zi i :: st) n u x m n' u' Q) : WP d y pc ls st n u x m n' u' Q :=
  wp_st (fun ad lsl _ _ _ => fun hx hb hk => lv_sipush hx hb hd (by apply Int32.toInt_inj.mp; rw [Int16.toInt_toInt32, Int16.toInt_ofInt_of_le (by omega) (by omega), z32_to ⟨by omega, by omega⟩]) hk) (fun _ h => zOk_cons (v := zi i) (show zIn i from ⟨by omega, by omega⟩) h) k
theorem wp_lconst {i : Fin 2} (hd : decode (zCb y) pc = .ok (.lconst i, 1)) (k : WP d y (pc + 1) ls (zl (i.val : Int) :: st) n u x m n' u' Q) : WP d y pc ls st n u x m n' u' Q :=
  wp_st (fun ad lsl _ _ _ => fun hx hb hk => lv_lconst hx hb hd (zl2 i) hk) (fun _ h => zOk_cons (v := zl (i.val : Int)) (show zLn _ from ⟨by omega, by omega⟩) h) k
-- locals
theorem zMap_at {ad : Nat → Nat} {lsl : Array Slot} {nL i j : Nat} {v : zV} (h : lv_has lsl nL (zMap ad ls)) (hj : ls[j]? = some (i, v)) : lsl[i]? = some (.val (zc ad v)) :=
  lv_at h j (by rw [List.getElem?_map, hj]; rfl)
theorem wp_iload {i j : Nat} {a : Int} (hd : decode (zCb y) pc = .ok (.iload i, 2)) (hj : ls[j]? = some (i, zi a)) (k : WP d y (pc + 2) ls (zi a :: st) n u x m n' u' Q) : WP d y pc ls st n u x m n' u' Q :=
  wp_st (fun ad lsl hl _ _ => fun hx hb hk => lv_iload hx hb hd (zMap_at hl hj) hk) (fun hl h => zOk_cons (hl _ (List.mem_of_getElem? hj)) h) k
theorem wp_iload_n {i : Fin 4} {j : Nat} {a : Int} (hd : decode (zCb y) pc = .ok (.iload_n i, 1)) (hj : ls[j]? = some (i.val, zi a)) (k : WP d y (pc + 1) ls (zi a :: st) n u x m n' u' Q) : WP d y pc ls st n u x m n' u' Q :=
  wp_st (fun ad lsl hl _ _ => fun hx hb hk => lv_iload_n hx hb hd rfl (zMap_at hl hj) hk) (fun hl h => zOk_cons (hl _ (List.mem_of_getElem? hj)) h) k
theorem wp_lload {i j : Nat} {a : Int} (hd : decode (zCb y) pc = .ok (.lload i, 2)) (hj : ls[j]? = some (i, zl a)) (k : WP d y (pc + 2) ls (zl a :: st) n u x m n' u' Q) : WP d y pc ls st n u x m n' u' Q :=
  wp_st (fun ad lsl hl _ _ => fun hx hb hk => lv_lload hx hb hd (zMap_at hl hj) hk) (fun hl h => zOk_cons (hl _ (List.mem_of_getElem? hj)) h) k
theorem wp_lload_n {i : Fin 4} {j : Nat} {a : Int} (hd : decode (zCb y) pc = .ok (.lload_n i, 1)) (hj : ls[j]? = some (i.val, zl a)) (k : WP d y (pc + 1) ls (zl a :: st) n u x m n' u' Q) : WP d y pc ls st n u x m n' u' Q :=
  wp_st (fun ad lsl hl _ _ => fun hx hb hk => lv_lload_n hx hb hd rfl (zMap_at hl hj) hk) (fun hl h => zOk_cons (hl _ (List.mem_of_getElem? hj)) h) k
theorem wp_aload {i j : Nat} {a : Nat ⊕ (Nat × Int)} (hd : decode (zCb y) pc = .ok (.aload i, 2)) (hj : ls[j]? = some (i, .inr (.inr a))) (k : WP d y (pc + 2) ls (.inr (.inr a) :: st) n u x m n' u' Q) : WP d y pc ls st n u x m n' u' Q :=
  wp_st (fun ad lsl hl _ _ => fun hx hb hk => by
    have h := zMap_at hl hj
    rcases a with a | ⟨o, a⟩
    · exact lv_aload hx hb hd h hk
    · exact lv_aload hx hb hd h hk) (fun hl h => zOk_cons (hl _ (List.mem_of_getElem? hj)) h) k
theorem wp_aload_n {i : Fin 4} {j : Nat} {a : Nat ⊕ (Nat × Int)} (hd : decode (zCb y) pc = .ok (.aload_n i, 1)) (hj : ls[j]? = some (i.val, .inr (.inr a))) (k : WP d y (pc + 1) ls (.inr (.inr a) :: st) n u x m n' u' Q) : WP d y pc ls st n u x m n' u' Q :=
  wp_st (fun ad lsl hl _ _ => fun hx hb hk => by
    have h := zMap_at hl hj
    rcases a with a | ⟨o, a⟩
    · exact lv_aload_n hx hb hd rfl h hk
    · exact lv_aload_n hx hb hd rfl h hk) (fun hl h => zOk_cons (hl _ (List.mem_of_getElem? hj)) h) k
/-- a store of a value of one slot -/
def zst1 (i : Nat) (v : zV) (ls : List (Nat × zV)) : List (Nat × zV) := (i, v) :: ls.filter (fun q => !(q.1 == i) && !(q.1 + 1 == i && zcat q.2 == 2))
def zst2 (i : Nat) (v : zV) (ls : List (Nat × zV)) : List (Nat × zV) := (i, v) :: ls.filter (fun q => !(q.1 == i) && (!(q.1 == i + 1) && !(q.1 + 1 == i && zcat q.2 == 2)))
theorem zst1_map (ad : Nat → Nat) (i : Nat) (v : zV) : (i, zc ad v) :: (zMap ad ls).filter (fun q => !(q.1 == i) && !(q.1 + 1 == i && q.2.category == 2)) = zMap ad (zst1 i v ls) := by
  simp only [zMap, zst1, List.map_cons, List.filter_map]
  congr 2
  apply List.filter_congr
  intro q _
  simp [zcat_eq]
theorem zst2_map (ad : Nat → Nat) (i : Nat) (v : zV) : (i, zc ad v) :: (zMap ad ls).filter (fun q => !(q.1 == i) && (!(q.1 == i + 1) && !(q.1 + 1 == i && q.2.category == 2))) = zMap ad (zst2 i v ls) := by
  simp only [zMap, zst2, List.map_cons, List.filter_map]
  congr 2
  apply List.filter_congr
  intro q _
  simp [zcat_eq]
theorem zst1_ok {i : Nat} {v : zV} (hl : ∀ q ∈ ls, zOk n q.2) (hv : zOk n v) : ∀ q ∈ zst1 i v ls, zOk n q.2 := by
  intro q hq
  rcases List.mem_cons.mp hq with rfl | hq
  · exact hv
  · exact hl q (List.mem_filter.mp hq).1
theorem zst2_ok {i : Nat} {v : zV} (hl : ∀ q ∈ ls, zOk n q.2) (hv : zOk n v) : ∀ q ∈ zst2 i v ls, zOk n q.2 := by
  intro q hq
  rcases List.mem_cons.mp hq with rfl | hq
  · exact hv
  · exact hl q (List.mem_filter.mp hq).1
theorem wp_istore {i : Nat} {a : Int} (hd : decode (zCb y) pc = .ok (.istore i, 2)) (hi : i < zMl y) (k : WP d y (pc + 2) (zst1 i (zi a) ls) st n u x m n' u' Q) : WP d y pc ls (zi a :: st) n u x m n' u' Q :=
  wp_loc (fun ad lsl hl => fun hx hb hk => lv_istore hx hb hd hl hi (zst1_map ad i (zi a)) hk) (fun hl h => ⟨zst1_ok hl (zOk_hd h), zOk_tl h⟩) k
theorem wp_istore_n {i : Fin 4} {a : Int} (hd : decode (zCb y) pc = .ok (.istore_n i, 1)) (hi : i.val < zMl y) (k : WP d y (pc + 1) (zst1 i.val (zi a) ls) st n u x m n' u' Q) : WP d y pc ls (zi a :: st) n u x m n' u' Q :=
  wp_loc (fun ad lsl hl => fun hx hb hk => lv_istore_n hx hb hd rfl hl hi (zst1_map ad i.val (zi a)) hk) (fun hl h => ⟨zst1_ok hl (zOk_hd h), zOk_tl h⟩) k
theorem wp_lstore {i : Nat} {a : Int} (hd : decode (zCb y) pc = .ok (.lstore i, 2)) (hi : i + 1 < zMl y) (k : WP d y (pc + 2) (zst2 i (zl a) ls) st n u x m n' u' Q) : WP d y pc ls (zl a :: st) n u x m n' u' Q :=
  wp_loc (fun ad lsl hl => fun hx hb hk => lv_lstore hx hb hd hl hi (zst2_map ad i (zl a)) hk) (fun hl h => ⟨zst2_ok hl (zOk_hd h), zOk_tl h⟩) k
theorem wp_lstore_n {i : Fin 4} {a : Int} (hd : decode (zCb y) pc = .ok (.lstore_n i, 1)) (hi : i.val + 1 < zMl y) (k : WP d y (pc + 1) (zst2 i.val (zl a) ls) st n u x m n' u' Q) : WP d y pc ls (zl a :: st) n u x m n' u' Q :=
  wp_loc (fun ad lsl hl => fun hx hb hk => lv_lstore_n hx hb hd rfl hl hi (zst2_map ad i.val (zl a)) hk) (fun hl h => ⟨zst2_ok hl (zOk_hd h), zOk_tl h⟩) k
theorem wp_astore {i : Nat} {a : Nat ⊕ (Nat × Int)} (hd : decode (zCb y) pc = .ok (.astore i, 2)) (hi : i < zMl y) (k : WP d y (pc + 2) (zst1 i (.inr (.inr a)) ls) st n u x m n' u' Q) : WP d y pc ls (.inr (.inr a) :: st) n u x m n' u' Q :=
  wp_loc (fun ad lsl hl => fun hx hb hk => by
    rcases a with a | ⟨o, a⟩
    · exact lv_astore hx hb hd hl hi (zst1_map ad i (zr a)) hk
    · exact lv_astore hx hb hd hl hi (zst1_map ad i (zw o a)) hk) (fun hl h => ⟨zst1_ok hl (zOk_hd h), zOk_tl h⟩) k
theorem wp_astore_n {i : Fin 4} {a : Nat ⊕ (Nat × Int)} (hd : decode (zCb y) pc = .ok (.astore_n i, 1)) (hi : i.val < zMl y) (k : WP d y (pc + 1) (zst1 i.val (.inr (.inr a)) ls) st n u x m n' u' Q) : WP d y pc ls (.inr (.inr a) :: st) n u x m n' u' Q :=
  wp_loc (fun ad lsl hl => fun hx hb hk => by
    rcases a with a | ⟨o, a⟩
    · exact lv_astore_n hx hb hd rfl hl hi (zst1_map ad i.val (zr a)) hk
    · exact lv_astore_n hx hb hd rfl hl hi (zst1_map ad i.val (zw o a)) hk) (fun hl h => ⟨zst1_ok hl (zOk_hd h), zOk_tl h⟩) k
theorem wp_iinc {i j : Nat} {a v b : Int} (hd : decode (zCb y) pc = .ok (.iinc i b, 3)) (hi : i < zMl y) (hj : ls[j]? = some (i, zi a)) (hv : Int32.ofInt a + Int32.ofInt b = Int32.ofInt v) (hvr : zIn a → zIn v) (k : WP d y (pc + 3) (zst1 i (zi v) ls) st n u x m n' u' Q) : WP d y pc ls st n u x m n' u' Q :=
  wp_loc (fun ad lsl hl => fun hx hb hk => lv_iinc (k := j) hx hb hd hl (by rw [List.getElem?_map, hj]; rfl) hv hi (zst1_map ad i (zi v)) hk) (fun hl h => ⟨zst1_ok hl (hvr (hl _ (List.mem_of_getElem? hj))), h⟩) k
end ZS
