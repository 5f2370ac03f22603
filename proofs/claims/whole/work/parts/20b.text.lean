/-! THE TEXT OF THE READER: length and charAt of the one String constant, by contract -/
def zjLen : MethodName := ⟨"java/lang/String", "length", "()I"⟩
theorem zjLen_w : Cond.code zjLen prog_17_method_54_code 1 (some .int) ∈ zgood := List.mem_filter.mpr ⟨zChunk_in 4 _ (List.mem_of_getElem? (i := 189) rfl), rfl⟩
def zjCod : MethodName := ⟨"java/lang/String", "coder", "()B"⟩
theorem zjCod_w : Cond.code zjCod prog_17_method_152_code 1 (some .byte) ∈ zgood := List.mem_filter.mpr ⟨zChunk_in 4 _ (List.mem_of_getElem? (i := 193) rfl), rfl⟩
def zjCha : MethodName := ⟨"java/lang/String", "charAt", "(I)C"⟩
theorem zjCha_w : Cond.code zjCha prog_17_method_56_code 2 (some .char) ∈ zgood := List.mem_filter.mpr ⟨zChunk_in 4 _ (List.mem_of_getElem? (i := 199) rfl), rfl⟩
def zjLat : MethodName := ⟨"java/lang/String", "isLatin1", "()Z"⟩
theorem zjLat_w : Cond.code zjLat prog_17_method_154_code 1 (some .boolean) ∈ zgood := List.mem_filter.mpr ⟨zChunk_in 4 _ (List.mem_of_getElem? (i := 203) rfl), rfl⟩
def zjLch : MethodName := ⟨"java/lang/StringLatin1", "charAt", "([BI)C"⟩
theorem zjLch_w : Cond.code zjLch prog_18_method_2_code 2 (some .char) ∈ zgood := List.mem_filter.mpr ⟨zChunk_in 4 _ (List.mem_of_getElem? (i := 206) rfl), rfl⟩
def zjChk : MethodName := ⟨"java/lang/String", "checkIndex", "(II)V"⟩
theorem zjChk_w : Cond.code zjChk prog_17_method_155_code 2 none ∈ zgood := List.mem_filter.mpr ⟨zChunk_in 4 _ (List.mem_of_getElem? (i := 209) rfl), rfl⟩
def zjPre : MethodName := ⟨"jdk/internal/util/Preconditions", "checkIndex", "(IILjava/util/function/BiFunction;)I"⟩
theorem zjPre_w : Cond.code zjPre prog_22_method_11_code 3 (some .int) ∈ zgood := List.mem_filter.mpr ⟨zChunk_in 4 _ (List.mem_of_getElem? (i := 214) rfl), rfl⟩
abbrev zJw (nm : MethodName) (cc : ByteArray) (ml : Nat) (rt : Option FieldType) : List Cond := Cond.code nm cc ml rt :: zgood
theorem zjf_cs : ∀ w ∈ ([.fieldLink "java/lang/String" 38 "java/lang/String" "COMPACT_STRINGS" "Z"] : List Cond), w ∈ zgood := zHas_in _ [4194] (by decide +kernel)
theorem zjf_co : ∀ w ∈ ([.fieldLink "java/lang/String" 15 "java/lang/String" "coder" "B"] : List Cond), w ∈ zgood := zHas_in _ [8207] (by decide +kernel)
theorem zjf_va : ∀ w ∈ ([.fieldLink "java/lang/String" 9 "java/lang/String" "value" "[B"] : List Cond), w ∈ zgood := zHas_in _ [8206] (by decide +kernel)
theorem zjf_si : ∀ w ∈ ([.fieldLink "java/lang/String" 1053 "jdk/internal/util/Preconditions" "SIOOBE_FORMATTER" "Ljava/util/function/BiFunction;"] : List Cond), w ∈ zgood := zHas_in _ [4210] (by decide +kernel)
theorem zjl_cod : ∀ w ∈ ([.methodLink "java/lang/String" 335 zjCod, .instanceMethod zjCod, .selects "java/lang/String" zjCod zjCod, .initialized "java/lang/String"] : List Cond), w ∈ zgood := zHas_in _ [4190, 4191, 4192, 1016] (by decide +kernel)
theorem zjl_lat : ∀ w ∈ ([.methodLink "java/lang/String" 492 zjLat, .instanceMethod zjLat, .selects "java/lang/String" zjLat zjLat, .initialized "java/lang/String"] : List Cond), w ∈ zgood := zHas_in _ [4200, 4201, 4202, 1016] (by decide +kernel)
theorem zjl_lch : ∀ w ∈ ([.methodLink "java/lang/String" 495 zjLch, .static zjLch, .initialized "java/lang/StringLatin1"] : List Cond), w ∈ zgood := zHas_in _ [4204, 4205, 1017] (by decide +kernel)
theorem zjl_chk : ∀ w ∈ ([.methodLink "java/lang/StringLatin1" 9 zjChk, .static zjChk, .initialized "java/lang/String"] : List Cond), w ∈ zgood := zHas_in _ [4207, 4208, 1016] (by decide +kernel)
theorem zjl_pre : ∀ w ∈ ([.methodLink "java/lang/String" 1059 zjPre, .static zjPre, .initialized "jdk/internal/util/Preconditions"] : List Cond), w ∈ zgood := zHas_in _ [4212, 4213, 1018] (by decide +kernel)
theorem zjl_len : ∀ w ∈ ([.methodLink "CommonBond$Reader" 99 zjLen, .instanceMethod zjLen, .selects "java/lang/String" zjLen zjLen, .initialized "java/lang/String"] : List Cond), w ∈ zgood := zHas_in _ [4186, 4187, 4188, 1016] (by decide +kernel)
theorem zjl_cha : ∀ w ∈ ([.methodLink "CommonBond$Reader" 103 zjCha, .instanceMethod zjCha, .selects "java/lang/String" zjCha zjCha, .initialized "java/lang/String"] : List Cond), w ∈ zgood := zHas_in _ [4196, 4197, 4198, 1016] (by decide +kernel)
theorem zjCod_0 : decode prog_17_method_152_code 0 = .ok (.getstatic 38, 3) := by decide +kernel
theorem zjCod_3 : decode prog_17_method_152_code 3 = .ok (.ifCond .eq 10, 3) := by decide +kernel
theorem zjCod_6 : decode prog_17_method_152_code 6 = .ok (.aload_n 0, 1) := by decide +kernel
theorem zjCod_7 : decode prog_17_method_152_code 7 = .ok (.getfield 15, 3) := by decide +kernel
theorem zjCod_10 : decode prog_17_method_152_code 10 = .ok (.goto 4, 3) := by decide +kernel
theorem zjCod_14 : decode prog_17_method_152_code 14 = .ok (.ireturn, 1) := by decide +kernel
theorem zjLat_0 : decode prog_17_method_154_code 0 = .ok (.getstatic 38, 3) := by decide +kernel
theorem zjLat_3 : decode prog_17_method_154_code 3 = .ok (.ifCond .eq 14, 3) := by decide +kernel
theorem zjLat_6 : decode prog_17_method_154_code 6 = .ok (.aload_n 0, 1) := by decide +kernel
theorem zjLat_7 : decode prog_17_method_154_code 7 = .ok (.getfield 15, 3) := by decide +kernel
theorem zjLat_10 : decode prog_17_method_154_code 10 = .ok (.ifCond .ne 7, 3) := by decide +kernel
theorem zjLat_13 : decode prog_17_method_154_code 13 = .ok (.iconst 1, 1) := by decide +kernel
theorem zjLat_14 : decode prog_17_method_154_code 14 = .ok (.goto 4, 3) := by decide +kernel
theorem zjLat_18 : decode prog_17_method_154_code 18 = .ok (.ireturn, 1) := by decide +kernel
theorem zjLen_0 : decode prog_17_method_54_code 0 = .ok (.aload_n 0, 1) := by decide +kernel
theorem zjLen_1 : decode prog_17_method_54_code 1 = .ok (.getfield 9, 3) := by decide +kernel
theorem zjLen_4 : decode prog_17_method_54_code 4 = .ok (.arraylength, 1) := by decide +kernel
theorem zjLen_5 : decode prog_17_method_54_code 5 = .ok (.aload_n 0, 1) := by decide +kernel
theorem zjLen_6 : decode prog_17_method_54_code 6 = .ok (.invokevirtual 335, 3) := by decide +kernel
theorem zjLen_9 : decode prog_17_method_54_code 9 = .ok (.ishr, 1) := by decide +kernel
theorem zjLen_10 : decode prog_17_method_54_code 10 = .ok (.ireturn, 1) := by decide +kernel
theorem zjPre_0 : decode prog_22_method_11_code 0 = .ok (.iload_n 0, 1) := by decide +kernel
theorem zjPre_1 : decode prog_22_method_11_code 1 = .ok (.ifCond .lt 8, 3) := by decide +kernel
theorem zjPre_4 : decode prog_22_method_11_code 4 = .ok (.iload_n 0, 1) := by decide +kernel
theorem zjPre_5 : decode prog_22_method_11_code 5 = .ok (.iload_n 1, 1) := by decide +kernel
theorem zjPre_6 : decode prog_22_method_11_code 6 = .ok (.if_icmp .lt 10, 3) := by decide +kernel
theorem zjPre_16 : decode prog_22_method_11_code 16 = .ok (.iload_n 0, 1) := by decide +kernel
theorem zjPre_17 : decode prog_22_method_11_code 17 = .ok (.ireturn, 1) := by decide +kernel
theorem zjChk_0 : decode prog_17_method_155_code 0 = .ok (.iload_n 0, 1) := by decide +kernel
theorem zjChk_1 : decode prog_17_method_155_code 1 = .ok (.iload_n 1, 1) := by decide +kernel
theorem zjChk_2 : decode prog_17_method_155_code 2 = .ok (.getstatic 1053, 3) := by decide +kernel
theorem zjChk_5 : decode prog_17_method_155_code 5 = .ok (.invokestatic 1059, 3) := by decide +kernel
theorem zjChk_8 : decode prog_17_method_155_code 8 = .ok (.pop, 1) := by decide +kernel
theorem zjChk_9 : decode prog_17_method_155_code 9 = .ok (.return_, 1) := by decide +kernel
theorem zjLch_0 : decode prog_18_method_2_code 0 = .ok (.iload_n 1, 1) := by decide +kernel
theorem zjLch_1 : decode prog_18_method_2_code 1 = .ok (.aload_n 0, 1) := by decide +kernel
theorem zjLch_2 : decode prog_18_method_2_code 2 = .ok (.arraylength, 1) := by decide +kernel
theorem zjLch_3 : decode prog_18_method_2_code 3 = .ok (.invokestatic 9, 3) := by decide +kernel
theorem zjLch_6 : decode prog_18_method_2_code 6 = .ok (.aload_n 0, 1) := by decide +kernel
theorem zjLch_7 : decode prog_18_method_2_code 7 = .ok (.iload_n 1, 1) := by decide +kernel
theorem zjLch_8 : decode prog_18_method_2_code 8 = .ok (.baload, 1) := by decide +kernel
theorem zjLch_9 : decode prog_18_method_2_code 9 = .ok (.sipush 255, 3) := by decide +kernel
theorem zjLch_12 : decode prog_18_method_2_code 12 = .ok (.iand, 1) := by decide +kernel
theorem zjLch_13 : decode prog_18_method_2_code 13 = .ok (.i2c, 1) := by decide +kernel
theorem zjLch_14 : decode prog_18_method_2_code 14 = .ok (.ireturn, 1) := by decide +kernel
theorem zjCha_0 : decode prog_17_method_56_code 0 = .ok (.aload_n 0, 1) := by decide +kernel
theorem zjCha_1 : decode prog_17_method_56_code 1 = .ok (.invokevirtual 492, 3) := by decide +kernel
theorem zjCha_4 : decode prog_17_method_56_code 4 = .ok (.ifCond .eq 12, 3) := by decide +kernel
theorem zjCha_7 : decode prog_17_method_56_code 7 = .ok (.aload_n 0, 1) := by decide +kernel
theorem zjCha_8 : decode prog_17_method_56_code 8 = .ok (.getfield 9, 3) := by decide +kernel
theorem zjCha_11 : decode prog_17_method_56_code 11 = .ok (.iload_n 1, 1) := by decide +kernel
theorem zjCha_12 : decode prog_17_method_56_code 12 = .ok (.invokestatic 495, 3) := by decide +kernel
theorem zjCha_15 : decode prog_17_method_56_code 15 = .ok (.ireturn, 1) := by decide +kernel
theorem z32_nat {L : Nat} (h : L < 2147483648) : Int32.ofInt (L : Int) = Int32.ofNat L := by
  apply Int32.toInt_inj.mp
  rw [z32_to ⟨by omega, by omega⟩]
  exact (Int32.toInt_ofNat_of_lt (by omega)).symm
def zNo : Nat → Prop := fun _ => False
def zTx (a : Nat) (U : State) : Prop := (∃ av : Nat, vk_S 1 [104] [zByt] (fun _ => a) (fun _ => av) zNo U U.heap) ∧ va_Z "java/lang/String" "COMPACT_STRINGS" "Z" (.int 1) zNo U U.heap ∧ va_Zq "jdk/internal/util/Preconditions" "SIOOBE_FORMATTER" "Ljava/util/function/BiFunction;" zNo U U.heap
theorem zTx.go {s U : State} {H : Heap} {locs : List Loc} {a : Nat} (h : zTx a s) (hS : va_S zNo s.heap H locs) (hvm : s.vm.Alike U.vm) (hU : U.heap = H) : zTx a U := by
  obtain ⟨⟨av, h1⟩, h2, h3⟩ := h
  subst hU
  have hq : ∀ a : Nat, a < s.heap.size → ¬ zNo a → U.heap[a]? = s.heap[a]? := fun a g1 g2 => hS.2.1 a g1 g2
  exact ⟨⟨av, vk_S.moved hvm (h1.kept hq)⟩, va_Z.moved hvm (h2.kept hq), h3.go hq hvm (fun _ h => h)⟩
theorem zTx.calling {a : Nat} (U : State) (g : JFrame) (mk : MethodId) (as : Array Value) (h : zTx a U) : zTx a (U.calling g mk as) :=
  h.go (U := U.calling g mk as) va_S.rf (Vm.Alike.refl U.vm) rfl
theorem zTx.blind {a : Nat} {as : List Value} : FrameBlind (va_Pc as (zTx a)) := fun _ U g mk q => ⟨q.1, zTx.calling U g mk _ q.2⟩
theorem zJV {own : String} {idx ml : Nat} {nm : MethodName} {cc : ByteArray} {rt : Option FieldType} (h : ∀ w ∈ ([.methodLink own idx nm, .instanceMethod nm, .selects nm.cls nm nm, .initialized nm.cls] : List Cond), w ∈ zgood) (hc : Cond.code nm cc ml rt ∈ zgood) : GoodIn zgood (wsV own idx nm.cls nm (zJw nm cc ml rt)) := by
  refine zgood_all (fun w hw => ?_)
  rcases List.mem_append.mp hw with hw | hw
  · exact h w hw
  · rcases List.mem_cons.mp hw with rfl | hw
    · exact hc
    · exact hw
theorem zJS {own : String} {idx ml : Nat} {nm : MethodName} {cc : ByteArray} {rt : Option FieldType} (h : ∀ w ∈ ([.methodLink own idx nm, .static nm, .initialized nm.cls] : List Cond), w ∈ zgood) (hc : Cond.code nm cc ml rt ∈ zgood) : GoodIn zgood (va_wsS own idx nm (zJw nm cc ml rt)) := by
  refine zgood_all (fun w hw => ?_)
  rcases List.mem_append.mp hw with hw | hw
  · exact h w hw
  · rcases List.mem_cons.mp hw with rfl | hw
    · exact hc
    · exact hw
theorem zhd {w : Cond} {ws : List Cond} (h : ∀ v ∈ w :: ws, v ∈ zgood) : w ∈ zgood := h _ List.mem_cons_self
theorem c_coder (l : Launch) (a : Nat) : Met l zjCod (zJw zjCod prog_17_method_152_code 1 (some .byte)) ({ frames := 0, cells := 0, slots := 0, locals := 0 }) (va_Pc [.ref a] (zTx a)) (va_Qi (fun r (_ : Unit) => r = 0) (fun _ _ => True) zNo) 0 0 zNo := by
  refine Met.ofW (cc := prog_17_method_152_code) (maxL := 1) (ret := (some .byte)) (by decide) rfl ?_
  intro p e s m args below meth c s₁ B hml hv
  obtain ⟨rfl, hT0⟩ := hv
  have hx := B.exec
  have hb := B.bytes
  have hr := B.returns
  have hts0 := atoms_spec (ws := zJw zjCod prog_17_method_152_code 1 (some .byte)) B.pre
  have hts : ∀ w ∈ zgood, w.before _ s = true := fun w h => hts0 w (List.mem_cons_of_mem _ h)
  have hown : s.vm.findClass "java/lang/String" = some m.cls := findClass_of_methodNamed B.named
  have hlocks := B.notSynchronized
  have hS : va_S zNo s.heap s.heap [] := va_S.rf
  have hl := lv_entry ([.ref a]) (n := 1) (Nat.le_of_ble_eq_true rfl)
  rw [lg_entry_eq]
  generalize (lg_sl ([.ref a]) ++ List.replicate (1 - (lg_sl ([.ref a])).length) Slot.unset).toArray = ls at hl ⊢
  have hl : lv_has ls 1 [(0, .ref a)] := hl
  obtain ⟨⟨av, hT, hT2⟩, hZ, hZq⟩ := id hT0
  refine va_gets hx hb hZ hS hown (hts _ (zhd zjf_cs)) (fun _ h => h) zjCod_0 ?_
  refine lv_if_eq (tgt := 13) hx hb zjCod_3 (by decide) (fun c0 => absurd c0 (by decide)) (fun _ => ?_)
  refine lv_aload_n hx hb zjCod_6 rfl (lv_at hl 0 rfl) ?_
  refine vk_getf hx hb (hT 0 (by decide)).2.1 hS hown (hts _ (zhd zjf_co)) (fun _ h => h) zjCod_7 ?_
  refine lv_goto (tgt := 14) hx hb zjCod_10 (by decide) ?_
  exact W.zret (v := 0) hx hb hr rfl (fun t ht hW => ⟨⟨0, (), rfl, rfl, trivial⟩, hS.F ht⟩) hS.2.2 zjCod_14
theorem c_latin (l : Launch) (a : Nat) : Met l zjLat (zJw zjLat prog_17_method_154_code 1 (some .boolean)) ({ frames := 0, cells := 0, slots := 0, locals := 0 }) (va_Pc [.ref a] (zTx a)) (va_Qi (fun r (_ : Unit) => r = 1) (fun _ _ => True) zNo) 0 0 zNo := by
  refine Met.ofW (cc := prog_17_method_154_code) (maxL := 1) (ret := (some .boolean)) (by decide) rfl ?_
  intro p e s m args below meth c s₁ B hml hv
  obtain ⟨rfl, hT0⟩ := hv
  have hx := B.exec
  have hb := B.bytes
  have hr := B.returns
  have hts0 := atoms_spec (ws := zJw zjLat prog_17_method_154_code 1 (some .boolean)) B.pre
  have hts : ∀ w ∈ zgood, w.before _ s = true := fun w h => hts0 w (List.mem_cons_of_mem _ h)
  have hown : s.vm.findClass "java/lang/String" = some m.cls := findClass_of_methodNamed B.named
  have hlocks := B.notSynchronized
  have hS : va_S zNo s.heap s.heap [] := va_S.rf
  have hl := lv_entry ([.ref a]) (n := 1) (Nat.le_of_ble_eq_true rfl)
  rw [lg_entry_eq]
  generalize (lg_sl ([.ref a]) ++ List.replicate (1 - (lg_sl ([.ref a])).length) Slot.unset).toArray = ls at hl ⊢
  have hl : lv_has ls 1 [(0, .ref a)] := hl
  obtain ⟨⟨av, hT, hT2⟩, hZ, hZq⟩ := id hT0
  refine va_gets hx hb hZ hS hown (hts _ (zhd zjf_cs)) (fun _ h => h) zjLat_0 ?_
  refine lv_if_eq (tgt := 17) hx hb zjLat_3 (by decide) (fun c0 => absurd c0 (by decide)) (fun _ => ?_)
  refine lv_aload_n hx hb zjLat_6 rfl (lv_at hl 0 rfl) ?_
  refine vk_getf hx hb (hT 0 (by decide)).2.1 hS hown (hts _ (zhd zjf_co)) (fun _ h => h) zjLat_7 ?_
  refine lv_if_ne (tgt := 17) hx hb zjLat_10 (by decide) (fun c0 => absurd rfl c0) (fun _ => ?_)
  refine lv_iconst (v := 1) hx hb zjLat_13 (by decide) ?_
  refine lv_goto (tgt := 18) hx hb zjLat_14 (by decide) ?_
  exact W.zret (v := 1) hx hb hr rfl (fun t ht hW => ⟨⟨1, (), rfl, rfl, trivial⟩, hS.F ht⟩) hS.2.2 zjLat_18
theorem c_strlen (l : Launch) (a : Nat) : Met l zjLen (zJw zjLen prog_17_method_54_code 1 (some .int)) ({ frames := 1, cells := 0, slots := 0, locals := 20 }) (va_Pc [.ref a] (zTx a)) (va_Qi (fun r (_ : Unit) => r = 104) (fun _ _ => True) zNo) 0 0 zNo := by
  refine Met.ofW (cc := prog_17_method_54_code) (maxL := 1) (ret := (some .int)) (by decide) rfl ?_
  intro p e s m args below meth c s₁ B hml hv
  obtain ⟨rfl, hT0⟩ := hv
  have hx := B.exec
  have hb := B.bytes
  have hr := B.returns
  have hts0 := atoms_spec (ws := zJw zjLen prog_17_method_54_code 1 (some .int)) B.pre
  have hts : ∀ w ∈ zgood, w.before _ s = true := fun w h => hts0 w (List.mem_cons_of_mem _ h)
  have hown : s.vm.findClass "java/lang/String" = some m.cls := findClass_of_methodNamed B.named
  have hlocks := B.notSynchronized
  have hS : va_S zNo s.heap s.heap [] := va_S.rf
  have hl := lv_entry ([.ref a]) (n := 1) (Nat.le_of_ble_eq_true rfl)
  rw [lg_entry_eq]
  generalize (lg_sl ([.ref a]) ++ List.replicate (1 - (lg_sl ([.ref a])).length) Slot.unset).toArray = ls at hl ⊢
  have hl : lv_has ls 1 [(0, .ref a)] := hl
  obtain ⟨⟨av, hT, hT2⟩, hZ, hZq⟩ := id hT0
  refine lv_aload_n hx hb zjLen_0 rfl (lv_at hl 0 rfl) ?_
  refine vk_getf hx hb (hT 0 (by decide)).2.2.1 hS hown (hts _ (zhd zjf_va)) (fun _ h => h) zjLen_1 ?_
  refine va_tlen hx hb (hT 0 (by decide)).2.2.2 hS (v := 104) rfl zjLen_4 ?_
  refine lv_aload_n hx hb zjLen_5 rfl (lv_at hl 0 rfl) ?_
  refine va_calli (va_runV (As := []) (rest := [.int 104]) ⟨hx, hb, hml, hown, hts⟩ (c_coder l a) (cwV 0 hts (zJV zjl_cod zjCod_w) rfl rfl rfl (by decide +kernel) ⟨Nat.le_of_ble_eq_true rfl, Nat.le_of_ble_eq_true rfl⟩) ⟨zTx.blind, vk_recv (i := 0) ⟨hT, hT2⟩ (by decide) hS, fun U hU hW => ⟨rfl, hT0.go hS hW.alike hU⟩⟩ rfl rfl hl.1 rfl (lv_room (Nat.le_of_ble_eq_true rfl)) zjLen_6 ⟨Nat.zero_le _, Nat.zero_le _⟩) hS (fun q _ h => h) (fun q h => h) (fun r u t H1 locs1 ht hvm hw hB hz1 hk1 hS => ?_)
  have hw : r = 0 := hw
  subst hw
  refine lv_ishr hx hb zjLen_9 ?_
  exact W.zret (v := 104 >>> ((0 : Int32) &&& 31)) hx hb hr rfl (fun t ht hW => ⟨⟨104 >>> ((0 : Int32) &&& 31), (), rfl, by decide, trivial⟩, hS.F ht⟩) hS.2.2 zjLen_10
theorem c_precheck (l : Launch) (i n : Int32) (v : Value) (hi : ¬ i < 0 ∧ i < n) (hv0 : v = .null ∨ ∃ t, v = .ref t) : Met l zjPre (zJw zjPre prog_22_method_11_code 3 (some .int)) ({ frames := 0, cells := 0, slots := 0, locals := 0 }) (va_Pc [.int i, .int n, v] (fun _ => True)) (va_Qi (fun r (_ : Unit) => r = i) (fun _ _ => True) zNo) 0 0 zNo := by
  refine Met.ofW (cc := prog_22_method_11_code) (maxL := 3) (ret := (some .int)) (by decide) rfl ?_
  intro p e s m args below meth c s₁ B hml hv
  obtain ⟨rfl, hT0⟩ := hv
  have hx := B.exec
  have hb := B.bytes
  have hr := B.returns
  have hts0 := atoms_spec (ws := zJw zjPre prog_22_method_11_code 3 (some .int)) B.pre
  have hts : ∀ w ∈ zgood, w.before _ s = true := fun w h => hts0 w (List.mem_cons_of_mem _ h)
  have hown : s.vm.findClass "jdk/internal/util/Preconditions" = some m.cls := findClass_of_methodNamed B.named
  have hlocks := B.notSynchronized
  have hS : va_S zNo s.heap s.heap [] := va_S.rf

  have fin : ∀ ls : Array Slot, lv_has ls 3 [(0, .int i), (1, .int n)] → W p l e (headSpec (zJw zjPre prog_22_method_11_code 3 (some .int)) ({ frames := 0, cells := 0, slots := 0, locals := 0 })).room s m #[Value.int i, Value.int n, v] below meth c s.heap [] 0 0 (MQ below (va_Qi (fun r (_ : Unit) => r = i) (fun _ _ => True) zNo) #[Value.int i, Value.int n, v] s 0 0 zNo) (F0 m 0 ls []) := by
    intro ls hl
    refine lv_iload_n hx hb zjPre_0 rfl (lv_at hl 0 rfl) ?_
    refine lv_if_lt (tgt := 9) hx hb zjPre_1 (by decide) (fun c0 => absurd c0 hi.1) (fun _ => ?_)
    refine lv_iload_n hx hb zjPre_4 rfl (lv_at hl 0 rfl) ?_
    refine lv_iload_n hx hb zjPre_5 rfl (lv_at hl 1 rfl) ?_
    refine lv_icmp_lt (tgt := 16) hx hb zjPre_6 (by decide) (fun _ => ?_) (fun c0 => absurd hi.2 c0)
    refine lv_iload_n hx hb zjPre_16 rfl (lv_at hl 0 rfl) ?_
    exact W.zret (v := i) hx hb hr rfl (fun t ht hW => ⟨⟨i, (), rfl, rfl, trivial⟩, hS.F ht⟩) hS.2.2 zjPre_17
  rw [lg_entry_eq]
  refine fin _ ?_
  rcases hv0 with rfl | ⟨t, rfl⟩
  · exact lv_sub (lv_entry ([.int i, .int n, .null]) (n := 3) (Nat.le_of_ble_eq_true rfl)) [0, 1] rfl
  · exact lv_sub (lv_entry ([.int i, .int n, .ref t]) (n := 3) (Nat.le_of_ble_eq_true rfl)) [0, 1] rfl
theorem c_strcheck (l : Launch) (a : Nat) (i n : Int32) (hi : ¬ i < 0 ∧ i < n) : Met l zjChk (zJw zjChk prog_17_method_155_code 2 none) ({ frames := 1, cells := 0, slots := 0, locals := 22 }) (va_Pc [.int i, .int n] (zTx a)) (va_Qv (fun (_ : Unit) => True) (fun _ _ => True) zNo) 0 0 zNo := by
  refine Met.ofW (cc := prog_17_method_155_code) (maxL := 2) (ret := none) (by decide) rfl ?_
  intro p e s m args below meth c s₁ B hml hv
  obtain ⟨rfl, hT0⟩ := hv
  have hx := B.exec
  have hb := B.bytes
  have hr := B.returns
  have hts0 := atoms_spec (ws := zJw zjChk prog_17_method_155_code 2 none) B.pre
  have hts : ∀ w ∈ zgood, w.before _ s = true := fun w h => hts0 w (List.mem_cons_of_mem _ h)
  have hown : s.vm.findClass "java/lang/String" = some m.cls := findClass_of_methodNamed B.named
  have hlocks := B.notSynchronized
  have hS : va_S zNo s.heap s.heap [] := va_S.rf
  have hl := lv_entry ([.int i, .int n]) (n := 2) (Nat.le_of_ble_eq_true rfl)
  rw [lg_entry_eq]
  generalize (lg_sl ([.int i, .int n]) ++ List.replicate (2 - (lg_sl ([.int i, .int n])).length) Slot.unset).toArray = ls at hl ⊢
  have hl : lv_has ls 2 [(0, .int i), (1, .int n)] := hl
  obtain ⟨⟨av, hT, hT2⟩, hZ, hZq⟩ := id hT0
  obtain ⟨v, hv, hZ⟩ : ∃ v : Value, (v = .null ∨ ∃ t, v = .ref t) ∧ va_Z "jdk/internal/util/Preconditions" "SIOOBE_FORMATTER" "Ljava/util/function/BiFunction;" v zNo s s.heap := by
    rcases hZq with h | ⟨t, h⟩
    · exact ⟨_, Or.inl rfl, h⟩
    · exact ⟨_, Or.inr ⟨t, rfl⟩, h⟩
  refine lv_iload_n hx hb zjChk_0 rfl (lv_at hl 0 rfl) ?_
  refine lv_iload_n hx hb zjChk_1 rfl (lv_at hl 1 rfl) ?_
  refine va_gets hx hb hZ hS hown (hts _ (zhd zjf_si)) (fun _ h => h) zjChk_2 ?_
  refine va_calli (va_runS (As := [.int i, .int n, v]) (rest := []) ⟨hx, hb, hml, hown, hts⟩ (c_precheck l i n v hi hv) (va_cwS 3 hts (zJS zjl_pre zjPre_w) rfl rfl rfl (by decide +kernel) ⟨Nat.le_of_ble_eq_true rfl, Nat.le_of_ble_eq_true rfl⟩) ⟨fun _ U g mk q => ⟨q.1, trivial⟩, fun U hU hW => ⟨rfl, trivial⟩⟩ rfl rfl hl.1 rfl (lv_room (Nat.le_of_ble_eq_true rfl)) zjChk_5 ⟨Nat.zero_le _, Nat.zero_le _⟩) hS (fun q _ h => h) (fun q h => h) (fun r u t H1 locs1 ht hvm hw hB hz1 hk1 hS => ?_)
  refine lv_pop hx hb zjChk_8 rfl ?_
  exact W.vret hx hb hr (fun t ht hW => ⟨⟨(), rfl, trivial, trivial⟩, hS.F ht⟩) hS.2.2 zjChk_9
theorem c_lcharat (l : Launch) (a av : Nat) (i : Nat) (hi : i < 104) : Met l zjLch (zJw zjLch prog_18_method_2_code 2 (some .char)) ({ frames := 2, cells := 0, slots := 0, locals := 43 }) (va_Pc [.ref av, .int (Int32.ofNat i)] (fun U => zTx a U ∧ va_T .byte av 104 (fun j => .int (zByt.getD j 0)) zNo U U.heap)) (va_Qi (fun r (_ : Unit) => r = zByt.getD i 0) (fun _ _ => True) zNo) 0 0 zNo := by
  refine Met.ofW (cc := prog_18_method_2_code) (maxL := 2) (ret := (some .char)) (by decide) rfl ?_
  intro p e s m args below meth c s₁ B hml hv
  obtain ⟨rfl, hT0⟩ := hv
  have hx := B.exec
  have hb := B.bytes
  have hr := B.returns
  have hts0 := atoms_spec (ws := zJw zjLch prog_18_method_2_code 2 (some .char)) B.pre
  have hts : ∀ w ∈ zgood, w.before _ s = true := fun w h => hts0 w (List.mem_cons_of_mem _ h)
  have hown : s.vm.findClass "java/lang/StringLatin1" = some m.cls := findClass_of_methodNamed B.named
  have hlocks := B.notSynchronized
  have hS : va_S zNo s.heap s.heap [] := va_S.rf
  have hl := lv_entry ([.ref av, .int (Int32.ofNat i)]) (n := 2) (Nat.le_of_ble_eq_true rfl)
  rw [lg_entry_eq]
  generalize (lg_sl ([.ref av, .int (Int32.ofNat i)]) ++ List.replicate (2 - (lg_sl ([.ref av, .int (Int32.ofNat i)])).length) Slot.unset).toArray = ls at hl ⊢
  have hl : lv_has ls 2 [(0, .ref av), (1, .int (Int32.ofNat i))] := hl
  obtain ⟨hT0, hB0⟩ := hT0
  have e31 : i < 2147483648 := by omega
  have hin : vp_in (Int32.ofNat i) 104 := vp_in_nI hi (by decide)
  have hck : ¬ Int32.ofNat i < 0 ∧ Int32.ofNat i < 104 := ⟨nI_pos (by omega), nI_lt (b := 104) hi (by decide)⟩
  refine lv_iload_n hx hb zjLch_0 rfl (lv_at hl 1 rfl) ?_
  refine lv_aload_n hx hb zjLch_1 rfl (lv_at hl 0 rfl) ?_
  refine va_tlen hx hb hB0 hS (v := 104) rfl zjLch_2 ?_
  refine va_callv (va_runS (As := [.int (Int32.ofNat i), .int 104]) (rest := []) ⟨hx, hb, hml, hown, hts⟩ (c_strcheck l a _ _ hck) (va_cwS 2 hts (zJS zjl_chk zjChk_w) rfl rfl rfl (by decide +kernel) ⟨Nat.le_of_ble_eq_true rfl, Nat.le_of_ble_eq_true rfl⟩) ⟨zTx.blind, fun U hU hW => ⟨rfl, hT0.go hS hW.alike hU⟩⟩ rfl rfl hl.1 rfl (lv_room (Nat.le_of_ble_eq_true rfl)) zjLch_3 ⟨Nat.zero_le _, Nat.zero_le _⟩) hS (fun q _ h => h) (fun q h => h) (fun u t H1 locs1 ht hvm hw hB hz1 hk1 hS => ?_)
  refine lv_aload_n hx hb zjLch_6 rfl (lv_at hl 0 rfl) ?_
  refine lv_iload_n hx hb zjLch_7 rfl (lv_at hl 1 rfl) ?_
  refine va_tb hx hb hB0 hS hin rfl zjLch_8 ?_
  refine lv_sipush (v := 255) hx hb zjLch_9 (by decide) ?_
  refine lv_iand hx hb zjLch_12 ?_
  have ec : (Int32.ofNat i).toNatClampNeg = i := nI_clamp (by omega)
  rw [ec]
  have eb : ∀ j, j < 104 → (((zByt.getD j 0) &&& 255).toUInt32 % 65536).toInt32 = zByt.getD j 0 ∧ narrow .char (.int (zByt.getD j 0)) = .int (zByt.getD j 0) := by decide +kernel
  refine lv_i2c (v := zByt.getD i 0) hx hb zjLch_13 (eb i hi).1 ?_
  exact W.zret (v := zByt.getD i 0) hx hb hr (eb i hi).2 (fun t ht hW => ⟨⟨zByt.getD i 0, (), rfl, rfl, trivial⟩, hS.F ht⟩) hS.2.2 zjLch_14
theorem c_charat (l : Launch) (a : Nat) (i : Nat) (hi : i < 104) : Met l zjCha (zJw zjCha prog_17_method_56_code 2 (some .char)) ({ frames := 3, cells := 0, slots := 0, locals := 64 }) (va_Pc [.ref a, .int (Int32.ofNat i)] (zTx a)) (va_Qi (fun r (_ : Unit) => r = zByt.getD i 0) (fun _ _ => True) zNo) 0 0 zNo := by
  refine Met.ofW (cc := prog_17_method_56_code) (maxL := 2) (ret := (some .char)) (by decide) rfl ?_
  intro p e s m args below meth c s₁ B hml hv
  obtain ⟨rfl, hT0⟩ := hv
  have hx := B.exec
  have hb := B.bytes
  have hr := B.returns
  have hts0 := atoms_spec (ws := zJw zjCha prog_17_method_56_code 2 (some .char)) B.pre
  have hts : ∀ w ∈ zgood, w.before _ s = true := fun w h => hts0 w (List.mem_cons_of_mem _ h)
  have hown : s.vm.findClass "java/lang/String" = some m.cls := findClass_of_methodNamed B.named
  have hlocks := B.notSynchronized
  have hS : va_S zNo s.heap s.heap [] := va_S.rf
  have hl := lv_entry ([.ref a, .int (Int32.ofNat i)]) (n := 2) (Nat.le_of_ble_eq_true rfl)
  rw [lg_entry_eq]
  generalize (lg_sl ([.ref a, .int (Int32.ofNat i)]) ++ List.replicate (2 - (lg_sl ([.ref a, .int (Int32.ofNat i)])).length) Slot.unset).toArray = ls at hl ⊢
  have hl : lv_has ls 2 [(0, .ref a), (1, .int (Int32.ofNat i))] := hl
  obtain ⟨⟨av, hT, hT2⟩, hZ, hZq⟩ := id hT0
  have eb : ∀ j, j < 104 → narrow .char (.int (zByt.getD j 0)) = .int (zByt.getD j 0) := by decide +kernel
  refine lv_aload_n hx hb zjCha_0 rfl (lv_at hl 0 rfl) ?_
  refine va_calli (va_runV (As := []) (rest := []) ⟨hx, hb, hml, hown, hts⟩ (c_latin l a) (cwV 0 hts (zJV zjl_lat zjLat_w) rfl rfl rfl (by decide +kernel) ⟨Nat.le_of_ble_eq_true rfl, Nat.le_of_ble_eq_true rfl⟩) ⟨zTx.blind, vk_recv (i := 0) ⟨hT, hT2⟩ (by decide) hS, fun U hU hW => ⟨rfl, hT0.go hS hW.alike hU⟩⟩ rfl rfl hl.1 rfl (lv_room (Nat.le_of_ble_eq_true rfl)) zjCha_1 ⟨Nat.zero_le _, Nat.zero_le _⟩) hS (fun q _ h => h) (fun q h => h) (fun r u t H1 locs1 ht hvm hw hB hz1 hk1 hS => ?_)
  have hw : r = 1 := hw
  subst hw
  refine lv_if_eq (tgt := 16) hx hb zjCha_4 (by decide) (fun c0 => absurd c0 (by decide)) (fun _ => ?_)
  refine lv_aload_n hx hb zjCha_7 rfl (lv_at hl 0 rfl) ?_
  refine vk_getf hx hb (hT 0 (by decide)).2.2.1 hS hown (hts _ (zhd zjf_va)) (fun _ h => h) zjCha_8 ?_
  refine lv_iload_n hx hb zjCha_11 rfl (lv_at hl 1 rfl) ?_
  have hB2 : ∀ U : State, U.heap = H1 → s.WarmedH U.vm → va_T .byte av 104 (fun j => .int (zByt.getD j 0)) zNo U U.heap := by
    intro U hU hW
    subst hU
    exact va_T.moved hW.alike (va_T.kept (hT 0 (by decide)).2.2.2 (fun a g1 g2 => hS.2.1 a g1 g2))
  refine va_calli (va_runS (As := [.ref av, .int (Int32.ofNat i)]) (rest := []) ⟨hx, hb, hml, hown, hts⟩ (c_lcharat l a av i hi) (va_cwS 2 hts (zJS zjl_lch zjLch_w) rfl rfl rfl (by decide +kernel) ⟨Nat.le_of_ble_eq_true rfl, Nat.le_of_ble_eq_true rfl⟩) ⟨fun a9 U g mk q => ⟨q.1, zTx.calling U g mk _ q.2.1, va_T.moved (U := U.calling g mk a9) (Vm.Alike.refl U.vm) q.2.2⟩, fun U hU hW => ⟨rfl, hT0.go hS hW.alike hU, hB2 U hU hW⟩⟩ rfl rfl hl.1 rfl (lv_room (Nat.le_of_ble_eq_true rfl)) zjCha_12 ⟨Nat.zero_le _, Nat.zero_le _⟩) hS (fun q _ h => h) (fun q h => h) (fun r u t H1 locs1 ht hvm hw hB hz1 hk1 hS => ?_)
  have hw : r = zByt.getD i 0 := hw
  subst hw
  exact W.zret (v := zByt.getD i 0) hx hb hr (eb i hi) (fun t ht hW => ⟨⟨zByt.getD i 0, (), rfl, rfl, trivial⟩, hS.F ht⟩) hS.2.2 zjCha_15
