section
-- ===== PART A: goes FIRST, ahead of the names: the tables' words, and 'selects' of the private methods out of them =====
/-- a private method of a class that the tables say can be made, by its rows of tables_1 -/
def lw_okq (q : MethodName × Nat) : Prop := (q.1.cls ≠ "java/lang/invoke/MethodHandle" ∧ q.1.cls ≠ "java/lang/invoke/VarHandle") ∧ Cond.instantiable q.1.cls q.2 ∈ tables_1 ∧ Cond.privateMethod q.1 ∈ tables_1 ∧ Cond.instanceMethod q.1 ∈ tables_1
theorem lw_p0 : lw_okq (⟨"CommonBond", "refuse", "(I)I"⟩, 10) := ⟨⟨by decide +kernel, by decide +kernel⟩, List.mem_of_getElem? (i := 23) (by decide +kernel), List.mem_of_getElem? (i := 602) (by decide +kernel), List.mem_of_getElem? (i := 603) (by decide +kernel)⟩
theorem lw_p1 : lw_okq (⟨"CommonBond", "noMember", "(I)Z"⟩, 10) := ⟨⟨by decide +kernel, by decide +kernel⟩, List.mem_of_getElem? (i := 23) (by decide +kernel), List.mem_of_getElem? (i := 614) (by decide +kernel), List.mem_of_getElem? (i := 615) (by decide +kernel)⟩
theorem lw_p2 : lw_okq (⟨"CommonBond", "tellZero", "(I)I"⟩, 10) := ⟨⟨by decide +kernel, by decide +kernel⟩, List.mem_of_getElem? (i := 23) (by decide +kernel), List.mem_of_getElem? (i := 618) (by decide +kernel), List.mem_of_getElem? (i := 619) (by decide +kernel)⟩
theorem lw_p3 : lw_okq (⟨"CommonBond", "noWeek", "(I)Z"⟩, 10) := ⟨⟨by decide +kernel, by decide +kernel⟩, List.mem_of_getElem? (i := 23) (by decide +kernel), List.mem_of_getElem? (i := 669) (by decide +kernel), List.mem_of_getElem? (i := 670) (by decide +kernel)⟩
theorem lw_p4 : lw_okq (⟨"CommonBond$Rules", "work", "(III[I)I"⟩, 8) := ⟨⟨by decide +kernel, by decide +kernel⟩, List.mem_of_getElem? (i := 235) (by decide +kernel), List.mem_of_getElem? (i := 716) (by decide +kernel), List.mem_of_getElem? (i := 717) (by decide +kernel)⟩
theorem lw_p5 : lw_okq (⟨"CommonBond", "noAsk", "(I)Z"⟩, 10) := ⟨⟨by decide +kernel, by decide +kernel⟩, List.mem_of_getElem? (i := 23) (by decide +kernel), List.mem_of_getElem? (i := 749) (by decide +kernel), List.mem_of_getElem? (i := 750) (by decide +kernel)⟩
theorem lw_p6 : lw_okq (⟨"CommonBond$Lender", "limitBy", "(II)I"⟩, 2) := ⟨⟨by decide +kernel, by decide +kernel⟩, List.mem_of_getElem? (i := 487) (by decide +kernel), List.mem_of_getElem? (i := 777) (by decide +kernel), List.mem_of_getElem? (i := 778) (by decide +kernel)⟩
theorem lw_p7 : lw_okq (⟨"CommonBond$Lender", "isBacked", "(I)Z"⟩, 2) := ⟨⟨by decide +kernel, by decide +kernel⟩, List.mem_of_getElem? (i := 487) (by decide +kernel), List.mem_of_getElem? (i := 804) (by decide +kernel), List.mem_of_getElem? (i := 805) (by decide +kernel)⟩
theorem lw_p8 : lw_okq (⟨"CommonBond", "noLoan", "(I)Z"⟩, 10) := ⟨⟨by decide +kernel, by decide +kernel⟩, List.mem_of_getElem? (i := 23) (by decide +kernel), List.mem_of_getElem? (i := 829) (by decide +kernel), List.mem_of_getElem? (i := 830) (by decide +kernel)⟩
theorem lw_p9 : lw_okq (⟨"CommonBond$Reader", "step", "()V"⟩, 11) := ⟨⟨by decide +kernel, by decide +kernel⟩, List.mem_of_getElem? (i := 441) (by decide +kernel), List.mem_of_getElem? (i := 884) (by decide +kernel), List.mem_of_getElem? (i := 885) (by decide +kernel)⟩
theorem lw_p10 : lw_okq (⟨"CommonBond$Reader", "number", "()V"⟩, 11) := ⟨⟨by decide +kernel, by decide +kernel⟩, List.mem_of_getElem? (i := 441) (by decide +kernel), List.mem_of_getElem? (i := 891) (by decide +kernel), List.mem_of_getElem? (i := 892) (by decide +kernel)⟩
theorem lw_p11 : lw_okq (⟨"CommonBond$Reader", "word", "()V"⟩, 11) := ⟨⟨by decide +kernel, by decide +kernel⟩, List.mem_of_getElem? (i := 441) (by decide +kernel), List.mem_of_getElem? (i := 898) (by decide +kernel), List.mem_of_getElem? (i := 899) (by decide +kernel)⟩
theorem lw_p12 : lw_okq (⟨"CommonBond$Reader", "wordNumber", "()I"⟩, 11) := ⟨⟨by decide +kernel, by decide +kernel⟩, List.mem_of_getElem? (i := 441) (by decide +kernel), List.mem_of_getElem? (i := 902) (by decide +kernel), List.mem_of_getElem? (i := 903) (by decide +kernel)⟩
theorem lw_p13 : lw_okq (⟨"CommonBond$Reader", "faulty", "()Z"⟩, 11) := ⟨⟨by decide +kernel, by decide +kernel⟩, List.mem_of_getElem? (i := 441) (by decide +kernel), List.mem_of_getElem? (i := 958) (by decide +kernel), List.mem_of_getElem? (i := 959) (by decide +kernel)⟩
theorem lw_p14 : lw_okq (⟨"CommonBond$Reader", "either", "(I)Z"⟩, 11) := ⟨⟨by decide +kernel, by decide +kernel⟩, List.mem_of_getElem? (i := 441) (by decide +kernel), List.mem_of_getElem? (i := 962) (by decide +kernel), List.mem_of_getElem? (i := 963) (by decide +kernel)⟩
theorem lw_p15 : lw_okq (⟨"CommonBond$Reader", "both", "(I)Z"⟩, 11) := ⟨⟨by decide +kernel, by decide +kernel⟩, List.mem_of_getElem? (i := 441) (by decide +kernel), List.mem_of_getElem? (i := 966) (by decide +kernel), List.mem_of_getElem? (i := 967) (by decide +kernel)⟩
def lw_privs_1 : List (MethodName × Nat) := [(⟨"CommonBond", "refuse", "(I)I"⟩, 10), (⟨"CommonBond", "noMember", "(I)Z"⟩, 10), (⟨"CommonBond", "tellZero", "(I)I"⟩, 10), (⟨"CommonBond", "noWeek", "(I)Z"⟩, 10), (⟨"CommonBond$Rules", "work", "(III[I)I"⟩, 8), (⟨"CommonBond", "noAsk", "(I)Z"⟩, 10), (⟨"CommonBond$Lender", "limitBy", "(II)I"⟩, 2), (⟨"CommonBond$Lender", "isBacked", "(I)Z"⟩, 2), (⟨"CommonBond", "noLoan", "(I)Z"⟩, 10), (⟨"CommonBond$Reader", "step", "()V"⟩, 11), (⟨"CommonBond$Reader", "number", "()V"⟩, 11), (⟨"CommonBond$Reader", "word", "()V"⟩, 11), (⟨"CommonBond$Reader", "wordNumber", "()I"⟩, 11), (⟨"CommonBond$Reader", "faulty", "()Z"⟩, 11), (⟨"CommonBond$Reader", "either", "(I)Z"⟩, 11), (⟨"CommonBond$Reader", "both", "(I)Z"⟩, 11)]
theorem lw_r1 : ∀ q ∈ lw_privs_1, lw_okq q := List.forall_mem_cons.mpr ⟨lw_p0, List.forall_mem_cons.mpr ⟨lw_p1, List.forall_mem_cons.mpr ⟨lw_p2, List.forall_mem_cons.mpr ⟨lw_p3, List.forall_mem_cons.mpr ⟨lw_p4, List.forall_mem_cons.mpr ⟨lw_p5, List.forall_mem_cons.mpr ⟨lw_p6, List.forall_mem_cons.mpr ⟨lw_p7, List.forall_mem_cons.mpr ⟨lw_p8, List.forall_mem_cons.mpr ⟨lw_p9, List.forall_mem_cons.mpr ⟨lw_p10, List.forall_mem_cons.mpr ⟨lw_p11, List.forall_mem_cons.mpr ⟨lw_p12, List.forall_mem_cons.mpr ⟨lw_p13, List.forall_mem_cons.mpr ⟨lw_p14, List.forall_mem_cons.mpr ⟨lw_p15, fun _ h => absurd h List.not_mem_nil⟩⟩⟩⟩⟩⟩⟩⟩⟩⟩⟩⟩⟩⟩⟩⟩
theorem lw_p16 : lw_okq (⟨"CommonBond$Reader", "denied", "(I)Z"⟩, 11) := ⟨⟨by decide +kernel, by decide +kernel⟩, List.mem_of_getElem? (i := 441) (by decide +kernel), List.mem_of_getElem? (i := 970) (by decide +kernel), List.mem_of_getElem? (i := 971) (by decide +kernel)⟩
theorem lw_p17 : lw_okq (⟨"CommonBond$Reader", "compared", "(I)Z"⟩, 11) := ⟨⟨by decide +kernel, by decide +kernel⟩, List.mem_of_getElem? (i := 441) (by decide +kernel), List.mem_of_getElem? (i := 974) (by decide +kernel), List.mem_of_getElem? (i := 975) (by decide +kernel)⟩
theorem lw_p18 : lw_okq (⟨"CommonBond$Reader", "summed", "(I)Z"⟩, 11) := ⟨⟨by decide +kernel, by decide +kernel⟩, List.mem_of_getElem? (i := 441) (by decide +kernel), List.mem_of_getElem? (i := 978) (by decide +kernel), List.mem_of_getElem? (i := 979) (by decide +kernel)⟩
theorem lw_p19 : lw_okq (⟨"CommonBond$Reader", "multiplied", "(I)Z"⟩, 11) := ⟨⟨by decide +kernel, by decide +kernel⟩, List.mem_of_getElem? (i := 441) (by decide +kernel), List.mem_of_getElem? (i := 982) (by decide +kernel), List.mem_of_getElem? (i := 983) (by decide +kernel)⟩
theorem lw_p20 : lw_okq (⟨"CommonBond$Reader", "single", "(I)Z"⟩, 11) := ⟨⟨by decide +kernel, by decide +kernel⟩, List.mem_of_getElem? (i := 441) (by decide +kernel), List.mem_of_getElem? (i := 986) (by decide +kernel), List.mem_of_getElem? (i := 987) (by decide +kernel)⟩
theorem lw_p21 : lw_okq (⟨"CommonBond$Reader", "emit", "(I)Z"⟩, 11) := ⟨⟨by decide +kernel, by decide +kernel⟩, List.mem_of_getElem? (i := 441) (by decide +kernel), List.mem_of_getElem? (i := 990) (by decide +kernel), List.mem_of_getElem? (i := 991) (by decide +kernel)⟩
theorem lw_p22 : lw_okq (⟨"CommonBond", "nobody", "(I)Z"⟩, 10) := ⟨⟨by decide +kernel, by decide +kernel⟩, List.mem_of_getElem? (i := 23) (by decide +kernel), List.mem_of_getElem? (i := 1006) (by decide +kernel), List.mem_of_getElem? (i := 1007) (by decide +kernel)⟩
theorem lw_p23 : lw_okq (⟨"CommonBond", "knowWho", "(I)V"⟩, 10) := ⟨⟨by decide +kernel, by decide +kernel⟩, List.mem_of_getElem? (i := 23) (by decide +kernel), List.mem_of_getElem? (i := 1010) (by decide +kernel), List.mem_of_getElem? (i := 1011) (by decide +kernel)⟩
theorem lw_p24 : lw_okq (⟨"CommonBond$Closer", "closeLoans", "()I"⟩, 5) := ⟨⟨by decide +kernel, by decide +kernel⟩, List.mem_of_getElem? (i := 500) (by decide +kernel), List.mem_of_getElem? (i := 1033) (by decide +kernel), List.mem_of_getElem? (i := 1034) (by decide +kernel)⟩
theorem lw_p25 : lw_okq (⟨"CommonBond$Closer", "closeYear", "()V"⟩, 5) := ⟨⟨by decide +kernel, by decide +kernel⟩, List.mem_of_getElem? (i := 500) (by decide +kernel), List.mem_of_getElem? (i := 1051) (by decide +kernel), List.mem_of_getElem? (i := 1052) (by decide +kernel)⟩
theorem lw_p26 : lw_okq (⟨"CommonBond$Closer", "earn", "([J)J"⟩, 5) := ⟨⟨by decide +kernel, by decide +kernel⟩, List.mem_of_getElem? (i := 500) (by decide +kernel), List.mem_of_getElem? (i := 1056) (by decide +kernel), List.mem_of_getElem? (i := 1057) (by decide +kernel)⟩
theorem lw_p27 : lw_okq (⟨"CommonBond$Closer", "partSurplus", "(I)V"⟩, 5) := ⟨⟨by decide +kernel, by decide +kernel⟩, List.mem_of_getElem? (i := 500) (by decide +kernel), List.mem_of_getElem? (i := 1060) (by decide +kernel), List.mem_of_getElem? (i := 1061) (by decide +kernel)⟩
theorem lw_p28 : lw_okq (⟨"CommonBond$Closer", "part", "(J[J[J)Z"⟩, 5) := ⟨⟨by decide +kernel, by decide +kernel⟩, List.mem_of_getElem? (i := 500) (by decide +kernel), List.mem_of_getElem? (i := 1068) (by decide +kernel), List.mem_of_getElem? (i := 1069) (by decide +kernel)⟩
theorem lw_p29 : lw_okq (⟨"CommonBond$Closer", "greatestRest", "()I"⟩, 5) := ⟨⟨by decide +kernel, by decide +kernel⟩, List.mem_of_getElem? (i := 500) (by decide +kernel), List.mem_of_getElem? (i := 1075) (by decide +kernel), List.mem_of_getElem? (i := 1076) (by decide +kernel)⟩
theorem lw_p30 : lw_okq (⟨"CommonBond$Closer", "handOut", "(I)V"⟩, 5) := ⟨⟨by decide +kernel, by decide +kernel⟩, List.mem_of_getElem? (i := 500) (by decide +kernel), List.mem_of_getElem? (i := 1080) (by decide +kernel), List.mem_of_getElem? (i := 1081) (by decide +kernel)⟩
theorem lw_p31 : lw_okq (⟨"CommonBond$Planner", "foresee", "(I)V"⟩, 9) := ⟨⟨by decide +kernel, by decide +kernel⟩, List.mem_of_getElem? (i := 522) (by decide +kernel), List.mem_of_getElem? (i := 1151) (by decide +kernel), List.mem_of_getElem? (i := 1152) (by decide +kernel)⟩
def lw_privs_2 : List (MethodName × Nat) := [(⟨"CommonBond$Reader", "denied", "(I)Z"⟩, 11), (⟨"CommonBond$Reader", "compared", "(I)Z"⟩, 11), (⟨"CommonBond$Reader", "summed", "(I)Z"⟩, 11), (⟨"CommonBond$Reader", "multiplied", "(I)Z"⟩, 11), (⟨"CommonBond$Reader", "single", "(I)Z"⟩, 11), (⟨"CommonBond$Reader", "emit", "(I)Z"⟩, 11), (⟨"CommonBond", "nobody", "(I)Z"⟩, 10), (⟨"CommonBond", "knowWho", "(I)V"⟩, 10), (⟨"CommonBond$Closer", "closeLoans", "()I"⟩, 5), (⟨"CommonBond$Closer", "closeYear", "()V"⟩, 5), (⟨"CommonBond$Closer", "earn", "([J)J"⟩, 5), (⟨"CommonBond$Closer", "partSurplus", "(I)V"⟩, 5), (⟨"CommonBond$Closer", "part", "(J[J[J)Z"⟩, 5), (⟨"CommonBond$Closer", "greatestRest", "()I"⟩, 5), (⟨"CommonBond$Closer", "handOut", "(I)V"⟩, 5), (⟨"CommonBond$Planner", "foresee", "(I)V"⟩, 9)]
theorem lw_r2 : ∀ q ∈ lw_privs_2, lw_okq q := List.forall_mem_cons.mpr ⟨lw_p16, List.forall_mem_cons.mpr ⟨lw_p17, List.forall_mem_cons.mpr ⟨lw_p18, List.forall_mem_cons.mpr ⟨lw_p19, List.forall_mem_cons.mpr ⟨lw_p20, List.forall_mem_cons.mpr ⟨lw_p21, List.forall_mem_cons.mpr ⟨lw_p22, List.forall_mem_cons.mpr ⟨lw_p23, List.forall_mem_cons.mpr ⟨lw_p24, List.forall_mem_cons.mpr ⟨lw_p25, List.forall_mem_cons.mpr ⟨lw_p26, List.forall_mem_cons.mpr ⟨lw_p27, List.forall_mem_cons.mpr ⟨lw_p28, List.forall_mem_cons.mpr ⟨lw_p29, List.forall_mem_cons.mpr ⟨lw_p30, List.forall_mem_cons.mpr ⟨lw_p31, fun _ h => absurd h List.not_mem_nil⟩⟩⟩⟩⟩⟩⟩⟩⟩⟩⟩⟩⟩⟩⟩⟩
theorem lw_p32 : lw_okq (⟨"CommonBond$Planner", "foreseeAsk", "(II)V"⟩, 9) := ⟨⟨by decide +kernel, by decide +kernel⟩, List.mem_of_getElem? (i := 522) (by decide +kernel), List.mem_of_getElem? (i := 1161) (by decide +kernel), List.mem_of_getElem? (i := 1162) (by decide +kernel)⟩
theorem lw_p33 : lw_okq (⟨"CommonBond$Planner", "isBetter", "(II)Z"⟩, 9) := ⟨⟨by decide +kernel, by decide +kernel⟩, List.mem_of_getElem? (i := 522) (by decide +kernel), List.mem_of_getElem? (i := 1166) (by decide +kernel), List.mem_of_getElem? (i := 1167) (by decide +kernel)⟩
theorem lw_p34 : lw_okq (⟨"CommonBond$Planner", "sumOf", "(I)I"⟩, 9) := ⟨⟨by decide +kernel, by decide +kernel⟩, List.mem_of_getElem? (i := 522) (by decide +kernel), List.mem_of_getElem? (i := 1171) (by decide +kernel), List.mem_of_getElem? (i := 1172) (by decide +kernel)⟩
theorem lw_p35 : lw_okq (⟨"CommonBond$Planner", "foreseenLasts", "(I)Z"⟩, 9) := ⟨⟨by decide +kernel, by decide +kernel⟩, List.mem_of_getElem? (i := 522) (by decide +kernel), List.mem_of_getElem? (i := 1175) (by decide +kernel), List.mem_of_getElem? (i := 1176) (by decide +kernel)⟩
theorem lw_p36 : lw_okq (⟨"CommonBond$Planner", "lastsThrough", "(II[I)Z"⟩, 9) := ⟨⟨by decide +kernel, by decide +kernel⟩, List.mem_of_getElem? (i := 522) (by decide +kernel), List.mem_of_getElem? (i := 1179) (by decide +kernel), List.mem_of_getElem? (i := 1180) (by decide +kernel)⟩
theorem lw_p37 : lw_okq (⟨"CommonBond$Planner", "failAll", "(I)V"⟩, 9) := ⟨⟨by decide +kernel, by decide +kernel⟩, List.mem_of_getElem? (i := 522) (by decide +kernel), List.mem_of_getElem? (i := 1210) (by decide +kernel), List.mem_of_getElem? (i := 1211) (by decide +kernel)⟩
theorem lw_p38 : lw_okq (⟨"CommonBond$Planner", "wanting", "()I"⟩, 9) := ⟨⟨by decide +kernel, by decide +kernel⟩, List.mem_of_getElem? (i := 522) (by decide +kernel), List.mem_of_getElem? (i := 1215) (by decide +kernel), List.mem_of_getElem? (i := 1216) (by decide +kernel)⟩
theorem lw_p39 : lw_okq (⟨"CommonBond$Till", "onDutyFrom", "(II)I"⟩, 8) := ⟨⟨by decide +kernel, by decide +kernel⟩, List.mem_of_getElem? (i := 315) (by decide +kernel), List.mem_of_getElem? (i := 1241) (by decide +kernel), List.mem_of_getElem? (i := 1242) (by decide +kernel)⟩
theorem lw_p40 : lw_okq (⟨"CommonBondModel", "refuse", "(I)I"⟩, 28) := ⟨⟨by decide +kernel, by decide +kernel⟩, List.mem_of_getElem? (i := 1338) (by decide +kernel), List.mem_of_getElem? (i := 1456) (by decide +kernel), List.mem_of_getElem? (i := 1457) (by decide +kernel)⟩
theorem lw_p41 : lw_okq (⟨"CommonBondModel", "isMember", "(I)Z"⟩, 28) := ⟨⟨by decide +kernel, by decide +kernel⟩, List.mem_of_getElem? (i := 1338) (by decide +kernel), List.mem_of_getElem? (i := 1464) (by decide +kernel), List.mem_of_getElem? (i := 1465) (by decide +kernel)⟩
theorem lw_p42 : lw_okq (⟨"CommonBondModel", "nought", "(I)I"⟩, 28) := ⟨⟨by decide +kernel, by decide +kernel⟩, List.mem_of_getElem? (i := 1338) (by decide +kernel), List.mem_of_getElem? (i := 1468) (by decide +kernel), List.mem_of_getElem? (i := 1469) (by decide +kernel)⟩
theorem lw_p43 : lw_okq (⟨"CommonBondModel", "hasRoom", "(II)Z"⟩, 28) := ⟨⟨by decide +kernel, by decide +kernel⟩, List.mem_of_getElem? (i := 1338) (by decide +kernel), List.mem_of_getElem? (i := 1477) (by decide +kernel), List.mem_of_getElem? (i := 1478) (by decide +kernel)⟩
theorem lw_p44 : lw_okq (⟨"CommonBondModel", "sameEntry", "(II)I"⟩, 28) := ⟨⟨by decide +kernel, by decide +kernel⟩, List.mem_of_getElem? (i := 1338) (by decide +kernel), List.mem_of_getElem? (i := 1481) (by decide +kernel), List.mem_of_getElem? (i := 1482) (by decide +kernel)⟩
theorem lw_p45 : lw_okq (⟨"CommonBondModel", "enters", "(III)V"⟩, 28) := ⟨⟨by decide +kernel, by decide +kernel⟩, List.mem_of_getElem? (i := 1338) (by decide +kernel), List.mem_of_getElem? (i := 1485) (by decide +kernel), List.mem_of_getElem? (i := 1486) (by decide +kernel)⟩
theorem lw_p46 : lw_okq (⟨"CommonBondModel", "savedNow", "(I)I"⟩, 28) := ⟨⟨by decide +kernel, by decide +kernel⟩, List.mem_of_getElem? (i := 1338) (by decide +kernel), List.mem_of_getElem? (i := 1489) (by decide +kernel), List.mem_of_getElem? (i := 1490) (by decide +kernel)⟩
theorem lw_p47 : lw_okq (⟨"CommonBondModel", "savedIn", "(III)I"⟩, 28) := ⟨⟨by decide +kernel, by decide +kernel⟩, List.mem_of_getElem? (i := 1338) (by decide +kernel), List.mem_of_getElem? (i := 1493) (by decide +kernel), List.mem_of_getElem? (i := 1494) (by decide +kernel)⟩
def lw_privs_3 : List (MethodName × Nat) := [(⟨"CommonBond$Planner", "foreseeAsk", "(II)V"⟩, 9), (⟨"CommonBond$Planner", "isBetter", "(II)Z"⟩, 9), (⟨"CommonBond$Planner", "sumOf", "(I)I"⟩, 9), (⟨"CommonBond$Planner", "foreseenLasts", "(I)Z"⟩, 9), (⟨"CommonBond$Planner", "lastsThrough", "(II[I)Z"⟩, 9), (⟨"CommonBond$Planner", "failAll", "(I)V"⟩, 9), (⟨"CommonBond$Planner", "wanting", "()I"⟩, 9), (⟨"CommonBond$Till", "onDutyFrom", "(II)I"⟩, 8), (⟨"CommonBondModel", "refuse", "(I)I"⟩, 28), (⟨"CommonBondModel", "isMember", "(I)Z"⟩, 28), (⟨"CommonBondModel", "nought", "(I)I"⟩, 28), (⟨"CommonBondModel", "hasRoom", "(II)Z"⟩, 28), (⟨"CommonBondModel", "sameEntry", "(II)I"⟩, 28), (⟨"CommonBondModel", "enters", "(III)V"⟩, 28), (⟨"CommonBondModel", "savedNow", "(I)I"⟩, 28), (⟨"CommonBondModel", "savedIn", "(III)I"⟩, 28)]
theorem lw_r3 : ∀ q ∈ lw_privs_3, lw_okq q := List.forall_mem_cons.mpr ⟨lw_p32, List.forall_mem_cons.mpr ⟨lw_p33, List.forall_mem_cons.mpr ⟨lw_p34, List.forall_mem_cons.mpr ⟨lw_p35, List.forall_mem_cons.mpr ⟨lw_p36, List.forall_mem_cons.mpr ⟨lw_p37, List.forall_mem_cons.mpr ⟨lw_p38, List.forall_mem_cons.mpr ⟨lw_p39, List.forall_mem_cons.mpr ⟨lw_p40, List.forall_mem_cons.mpr ⟨lw_p41, List.forall_mem_cons.mpr ⟨lw_p42, List.forall_mem_cons.mpr ⟨lw_p43, List.forall_mem_cons.mpr ⟨lw_p44, List.forall_mem_cons.mpr ⟨lw_p45, List.forall_mem_cons.mpr ⟨lw_p46, List.forall_mem_cons.mpr ⟨lw_p47, fun _ h => absurd h List.not_mem_nil⟩⟩⟩⟩⟩⟩⟩⟩⟩⟩⟩⟩⟩⟩⟩⟩
theorem lw_p48 : lw_okq (⟨"CommonBondModel", "held", "(I)I"⟩, 28) := ⟨⟨by decide +kernel, by decide +kernel⟩, List.mem_of_getElem? (i := 1338) (by decide +kernel), List.mem_of_getElem? (i := 1501) (by decide +kernel), List.mem_of_getElem? (i := 1502) (by decide +kernel)⟩
theorem lw_p49 : lw_okq (⟨"CommonBondModel", "isOf", "(II)Z"⟩, 28) := ⟨⟨by decide +kernel, by decide +kernel⟩, List.mem_of_getElem? (i := 1338) (by decide +kernel), List.mem_of_getElem? (i := 1505) (by decide +kernel), List.mem_of_getElem? (i := 1506) (by decide +kernel)⟩
theorem lw_p50 : lw_okq (⟨"CommonBondModel", "owed", "(I)I"⟩, 28) := ⟨⟨by decide +kernel, by decide +kernel⟩, List.mem_of_getElem? (i := 1338) (by decide +kernel), List.mem_of_getElem? (i := 1512) (by decide +kernel), List.mem_of_getElem? (i := 1513) (by decide +kernel)⟩
theorem lw_p51 : lw_okq (⟨"CommonBondModel", "owes", "(I)I"⟩, 28) := ⟨⟨by decide +kernel, by decide +kernel⟩, List.mem_of_getElem? (i := 1338) (by decide +kernel), List.mem_of_getElem? (i := 1529) (by decide +kernel), List.mem_of_getElem? (i := 1530) (by decide +kernel)⟩
theorem lw_p52 : lw_okq (⟨"CommonBondModel", "lateOf", "(I)I"⟩, 28) := ⟨⟨by decide +kernel, by decide +kernel⟩, List.mem_of_getElem? (i := 1338) (by decide +kernel), List.mem_of_getElem? (i := 1533) (by decide +kernel), List.mem_of_getElem? (i := 1534) (by decide +kernel)⟩
theorem lw_p53 : lw_okq (⟨"CommonBondModel", "isLate", "(II)Z"⟩, 28) := ⟨⟨by decide +kernel, by decide +kernel⟩, List.mem_of_getElem? (i := 1338) (by decide +kernel), List.mem_of_getElem? (i := 1537) (by decide +kernel), List.mem_of_getElem? (i := 1538) (by decide +kernel)⟩
theorem lw_p54 : lw_okq (⟨"CommonBondModel", "dueTill", "(II)I"⟩, 28) := ⟨⟨by decide +kernel, by decide +kernel⟩, List.mem_of_getElem? (i := 1338) (by decide +kernel), List.mem_of_getElem? (i := 1541) (by decide +kernel), List.mem_of_getElem? (i := 1542) (by decide +kernel)⟩
theorem lw_p55 : lw_okq (⟨"CommonBondModel", "duesIn", "(II)I"⟩, 28) := ⟨⟨by decide +kernel, by decide +kernel⟩, List.mem_of_getElem? (i := 1338) (by decide +kernel), List.mem_of_getElem? (i := 1545) (by decide +kernel), List.mem_of_getElem? (i := 1546) (by decide +kernel)⟩
theorem lw_p56 : lw_okq (⟨"CommonBondModel", "dueOf", "(III)I"⟩, 28) := ⟨⟨by decide +kernel, by decide +kernel⟩, List.mem_of_getElem? (i := 1338) (by decide +kernel), List.mem_of_getElem? (i := 1549) (by decide +kernel), List.mem_of_getElem? (i := 1550) (by decide +kernel)⟩
theorem lw_p57 : lw_okq (⟨"CommonBondModel", "isDormant", "(I)Z"⟩, 28) := ⟨⟨by decide +kernel, by decide +kernel⟩, List.mem_of_getElem? (i := 1338) (by decide +kernel), List.mem_of_getElem? (i := 1553) (by decide +kernel), List.mem_of_getElem? (i := 1554) (by decide +kernel)⟩
theorem lw_p58 : lw_okq (⟨"CommonBondModel", "finds", "(II)I"⟩, 28) := ⟨⟨by decide +kernel, by decide +kernel⟩, List.mem_of_getElem? (i := 1338) (by decide +kernel), List.mem_of_getElem? (i := 1557) (by decide +kernel), List.mem_of_getElem? (i := 1558) (by decide +kernel)⟩
theorem lw_p59 : lw_okq (⟨"CommonBondModel", "names", "(I)V"⟩, 28) := ⟨⟨by decide +kernel, by decide +kernel⟩, List.mem_of_getElem? (i := 1338) (by decide +kernel), List.mem_of_getElem? (i := 1561) (by decide +kernel), List.mem_of_getElem? (i := 1562) (by decide +kernel)⟩
theorem lw_p60 : lw_okq (⟨"CommonBondModel", "worth", "(III)I"⟩, 28) := ⟨⟨by decide +kernel, by decide +kernel⟩, List.mem_of_getElem? (i := 1338) (by decide +kernel), List.mem_of_getElem? (i := 1565) (by decide +kernel), List.mem_of_getElem? (i := 1566) (by decide +kernel)⟩
theorem lw_p61 : lw_okq (⟨"CommonBondModel", "lateEntries", "(I)I"⟩, 28) := ⟨⟨by decide +kernel, by decide +kernel⟩, List.mem_of_getElem? (i := 1338) (by decide +kernel), List.mem_of_getElem? (i := 1572) (by decide +kernel), List.mem_of_getElem? (i := 1573) (by decide +kernel)⟩
theorem lw_p62 : lw_okq (⟨"CommonBondModel", "isAsk", "(I)Z"⟩, 28) := ⟨⟨by decide +kernel, by decide +kernel⟩, List.mem_of_getElem? (i := 1338) (by decide +kernel), List.mem_of_getElem? (i := 1584) (by decide +kernel), List.mem_of_getElem? (i := 1585) (by decide +kernel)⟩
theorem lw_p63 : lw_okq (⟨"CommonBondModel", "pledges", "(I)I"⟩, 28) := ⟨⟨by decide +kernel, by decide +kernel⟩, List.mem_of_getElem? (i := 1338) (by decide +kernel), List.mem_of_getElem? (i := 1592) (by decide +kernel), List.mem_of_getElem? (i := 1593) (by decide +kernel)⟩
def lw_privs_4 : List (MethodName × Nat) := [(⟨"CommonBondModel", "held", "(I)I"⟩, 28), (⟨"CommonBondModel", "isOf", "(II)Z"⟩, 28), (⟨"CommonBondModel", "owed", "(I)I"⟩, 28), (⟨"CommonBondModel", "owes", "(I)I"⟩, 28), (⟨"CommonBondModel", "lateOf", "(I)I"⟩, 28), (⟨"CommonBondModel", "isLate", "(II)Z"⟩, 28), (⟨"CommonBondModel", "dueTill", "(II)I"⟩, 28), (⟨"CommonBondModel", "duesIn", "(II)I"⟩, 28), (⟨"CommonBondModel", "dueOf", "(III)I"⟩, 28), (⟨"CommonBondModel", "isDormant", "(I)Z"⟩, 28), (⟨"CommonBondModel", "finds", "(II)I"⟩, 28), (⟨"CommonBondModel", "names", "(I)V"⟩, 28), (⟨"CommonBondModel", "worth", "(III)I"⟩, 28), (⟨"CommonBondModel", "lateEntries", "(I)I"⟩, 28), (⟨"CommonBondModel", "isAsk", "(I)Z"⟩, 28), (⟨"CommonBondModel", "pledges", "(I)I"⟩, 28)]
theorem lw_r4 : ∀ q ∈ lw_privs_4, lw_okq q := List.forall_mem_cons.mpr ⟨lw_p48, List.forall_mem_cons.mpr ⟨lw_p49, List.forall_mem_cons.mpr ⟨lw_p50, List.forall_mem_cons.mpr ⟨lw_p51, List.forall_mem_cons.mpr ⟨lw_p52, List.forall_mem_cons.mpr ⟨lw_p53, List.forall_mem_cons.mpr ⟨lw_p54, List.forall_mem_cons.mpr ⟨lw_p55, List.forall_mem_cons.mpr ⟨lw_p56, List.forall_mem_cons.mpr ⟨lw_p57, List.forall_mem_cons.mpr ⟨lw_p58, List.forall_mem_cons.mpr ⟨lw_p59, List.forall_mem_cons.mpr ⟨lw_p60, List.forall_mem_cons.mpr ⟨lw_p61, List.forall_mem_cons.mpr ⟨lw_p62, List.forall_mem_cons.mpr ⟨lw_p63, fun _ h => absurd h List.not_mem_nil⟩⟩⟩⟩⟩⟩⟩⟩⟩⟩⟩⟩⟩⟩⟩⟩
theorem lw_p64 : lw_okq (⟨"CommonBondModel", "limit", "(I)I"⟩, 28) := ⟨⟨by decide +kernel, by decide +kernel⟩, List.mem_of_getElem? (i := 1338) (by decide +kernel), List.mem_of_getElem? (i := 1596) (by decide +kernel), List.mem_of_getElem? (i := 1597) (by decide +kernel)⟩
theorem lw_p65 : lw_okq (⟨"CommonBondModel", "interest", "(I)I"⟩, 28) := ⟨⟨by decide +kernel, by decide +kernel⟩, List.mem_of_getElem? (i := 1338) (by decide +kernel), List.mem_of_getElem? (i := 1600) (by decide +kernel), List.mem_of_getElem? (i := 1601) (by decide +kernel)⟩
theorem lw_p66 : lw_okq (⟨"CommonBondModel", "answerNow", "(I)I"⟩, 28) := ⟨⟨by decide +kernel, by decide +kernel⟩, List.mem_of_getElem? (i := 1338) (by decide +kernel), List.mem_of_getElem? (i := 1604) (by decide +kernel), List.mem_of_getElem? (i := 1605) (by decide +kernel)⟩
theorem lw_p67 : lw_okq (⟨"CommonBondModel", "isBarred", "(I)Z"⟩, 28) := ⟨⟨by decide +kernel, by decide +kernel⟩, List.mem_of_getElem? (i := 1338) (by decide +kernel), List.mem_of_getElem? (i := 1608) (by decide +kernel), List.mem_of_getElem? (i := 1609) (by decide +kernel)⟩
theorem lw_p68 : lw_okq (⟨"CommonBondModel", "isStoodFor", "(I)Z"⟩, 28) := ⟨⟨by decide +kernel, by decide +kernel⟩, List.mem_of_getElem? (i := 1338) (by decide +kernel), List.mem_of_getElem? (i := 1615) (by decide +kernel), List.mem_of_getElem? (i := 1616) (by decide +kernel)⟩
theorem lw_p69 : lw_okq (⟨"CommonBondModel", "isLoan", "(I)Z"⟩, 28) := ⟨⟨by decide +kernel, by decide +kernel⟩, List.mem_of_getElem? (i := 1338) (by decide +kernel), List.mem_of_getElem? (i := 1627) (by decide +kernel), List.mem_of_getElem? (i := 1628) (by decide +kernel)⟩
theorem lw_p70 : lw_okq (⟨"CommonBondModel", "next", "()V"⟩, 28) := ⟨⟨by decide +kernel, by decide +kernel⟩, List.mem_of_getElem? (i := 1338) (by decide +kernel), List.mem_of_getElem? (i := 1662) (by decide +kernel), List.mem_of_getElem? (i := 1663) (by decide +kernel)⟩
theorem lw_p71 : lw_okq (⟨"CommonBondModel", "nextWord", "()V"⟩, 28) := ⟨⟨by decide +kernel, by decide +kernel⟩, List.mem_of_getElem? (i := 1338) (by decide +kernel), List.mem_of_getElem? (i := 1666) (by decide +kernel), List.mem_of_getElem? (i := 1667) (by decide +kernel)⟩
theorem lw_p72 : lw_okq (⟨"CommonBondModel", "or", "()V"⟩, 28) := ⟨⟨by decide +kernel, by decide +kernel⟩, List.mem_of_getElem? (i := 1338) (by decide +kernel), List.mem_of_getElem? (i := 1670) (by decide +kernel), List.mem_of_getElem? (i := 1671) (by decide +kernel)⟩
theorem lw_p73 : lw_okq (⟨"CommonBondModel", "and", "()V"⟩, 28) := ⟨⟨by decide +kernel, by decide +kernel⟩, List.mem_of_getElem? (i := 1338) (by decide +kernel), List.mem_of_getElem? (i := 1674) (by decide +kernel), List.mem_of_getElem? (i := 1675) (by decide +kernel)⟩
theorem lw_p74 : lw_okq (⟨"CommonBondModel", "not", "()V"⟩, 28) := ⟨⟨by decide +kernel, by decide +kernel⟩, List.mem_of_getElem? (i := 1338) (by decide +kernel), List.mem_of_getElem? (i := 1678) (by decide +kernel), List.mem_of_getElem? (i := 1679) (by decide +kernel)⟩
theorem lw_p75 : lw_okq (⟨"CommonBondModel", "opensOne", "()Z"⟩, 28) := ⟨⟨by decide +kernel, by decide +kernel⟩, List.mem_of_getElem? (i := 1338) (by decide +kernel), List.mem_of_getElem? (i := 1682) (by decide +kernel), List.mem_of_getElem? (i := 1683) (by decide +kernel)⟩
theorem lw_p76 : lw_okq (⟨"CommonBondModel", "puts", "(I)V"⟩, 28) := ⟨⟨by decide +kernel, by decide +kernel⟩, List.mem_of_getElem? (i := 1338) (by decide +kernel), List.mem_of_getElem? (i := 1686) (by decide +kernel), List.mem_of_getElem? (i := 1687) (by decide +kernel)⟩
theorem lw_p77 : lw_okq (⟨"CommonBondModel", "sum", "()V"⟩, 28) := ⟨⟨by decide +kernel, by decide +kernel⟩, List.mem_of_getElem? (i := 1338) (by decide +kernel), List.mem_of_getElem? (i := 1690) (by decide +kernel), List.mem_of_getElem? (i := 1691) (by decide +kernel)⟩
theorem lw_p78 : lw_okq (⟨"CommonBondModel", "term", "()V"⟩, 28) := ⟨⟨by decide +kernel, by decide +kernel⟩, List.mem_of_getElem? (i := 1338) (by decide +kernel), List.mem_of_getElem? (i := 1694) (by decide +kernel), List.mem_of_getElem? (i := 1695) (by decide +kernel)⟩
theorem lw_p79 : lw_okq (⟨"CommonBondModel", "one", "()V"⟩, 28) := ⟨⟨by decide +kernel, by decide +kernel⟩, List.mem_of_getElem? (i := 1338) (by decide +kernel), List.mem_of_getElem? (i := 1698) (by decide +kernel), List.mem_of_getElem? (i := 1699) (by decide +kernel)⟩
def lw_privs_5 : List (MethodName × Nat) := [(⟨"CommonBondModel", "limit", "(I)I"⟩, 28), (⟨"CommonBondModel", "interest", "(I)I"⟩, 28), (⟨"CommonBondModel", "answerNow", "(I)I"⟩, 28), (⟨"CommonBondModel", "isBarred", "(I)Z"⟩, 28), (⟨"CommonBondModel", "isStoodFor", "(I)Z"⟩, 28), (⟨"CommonBondModel", "isLoan", "(I)Z"⟩, 28), (⟨"CommonBondModel", "next", "()V"⟩, 28), (⟨"CommonBondModel", "nextWord", "()V"⟩, 28), (⟨"CommonBondModel", "or", "()V"⟩, 28), (⟨"CommonBondModel", "and", "()V"⟩, 28), (⟨"CommonBondModel", "not", "()V"⟩, 28), (⟨"CommonBondModel", "opensOne", "()Z"⟩, 28), (⟨"CommonBondModel", "puts", "(I)V"⟩, 28), (⟨"CommonBondModel", "sum", "()V"⟩, 28), (⟨"CommonBondModel", "term", "()V"⟩, 28), (⟨"CommonBondModel", "one", "()V"⟩, 28)]
theorem lw_r5 : ∀ q ∈ lw_privs_5, lw_okq q := List.forall_mem_cons.mpr ⟨lw_p64, List.forall_mem_cons.mpr ⟨lw_p65, List.forall_mem_cons.mpr ⟨lw_p66, List.forall_mem_cons.mpr ⟨lw_p67, List.forall_mem_cons.mpr ⟨lw_p68, List.forall_mem_cons.mpr ⟨lw_p69, List.forall_mem_cons.mpr ⟨lw_p70, List.forall_mem_cons.mpr ⟨lw_p71, List.forall_mem_cons.mpr ⟨lw_p72, List.forall_mem_cons.mpr ⟨lw_p73, List.forall_mem_cons.mpr ⟨lw_p74, List.forall_mem_cons.mpr ⟨lw_p75, List.forall_mem_cons.mpr ⟨lw_p76, List.forall_mem_cons.mpr ⟨lw_p77, List.forall_mem_cons.mpr ⟨lw_p78, List.forall_mem_cons.mpr ⟨lw_p79, fun _ h => absurd h List.not_mem_nil⟩⟩⟩⟩⟩⟩⟩⟩⟩⟩⟩⟩⟩⟩⟩⟩
theorem lw_p80 : lw_okq (⟨"CommonBondModel", "closesOne", "()V"⟩, 28) := ⟨⟨by decide +kernel, by decide +kernel⟩, List.mem_of_getElem? (i := 1338) (by decide +kernel), List.mem_of_getElem? (i := 1702) (by decide +kernel), List.mem_of_getElem? (i := 1703) (by decide +kernel)⟩
theorem lw_p81 : lw_okq (⟨"CommonBondModel", "isAsked", "(II)Z"⟩, 28) := ⟨⟨by decide +kernel, by decide +kernel⟩, List.mem_of_getElem? (i := 1338) (by decide +kernel), List.mem_of_getElem? (i := 1710) (by decide +kernel), List.mem_of_getElem? (i := 1711) (by decide +kernel)⟩
theorem lw_p82 : lw_okq (⟨"CommonBondModel", "closes", "()I"⟩, 28) := ⟨⟨by decide +kernel, by decide +kernel⟩, List.mem_of_getElem? (i := 1338) (by decide +kernel), List.mem_of_getElem? (i := 1722) (by decide +kernel), List.mem_of_getElem? (i := 1723) (by decide +kernel)⟩
theorem lw_p83 : lw_okq (⟨"CommonBondModel", "passes", "()I"⟩, 28) := ⟨⟨by decide +kernel, by decide +kernel⟩, List.mem_of_getElem? (i := 1338) (by decide +kernel), List.mem_of_getElem? (i := 1726) (by decide +kernel), List.mem_of_getElem? (i := 1727) (by decide +kernel)⟩
theorem lw_p84 : lw_okq (⟨"CommonBondModel", "fails", "(I)I"⟩, 28) := ⟨⟨by decide +kernel, by decide +kernel⟩, List.mem_of_getElem? (i := 1338) (by decide +kernel), List.mem_of_getElem? (i := 1730) (by decide +kernel), List.mem_of_getElem? (i := 1731) (by decide +kernel)⟩
theorem lw_p85 : lw_okq (⟨"CommonBondModel", "takes", "(II)I"⟩, 28) := ⟨⟨by decide +kernel, by decide +kernel⟩, List.mem_of_getElem? (i := 1338) (by decide +kernel), List.mem_of_getElem? (i := 1734) (by decide +kernel), List.mem_of_getElem? (i := 1735) (by decide +kernel)⟩
theorem lw_p86 : lw_okq (⟨"CommonBondModel", "closesYear", "()V"⟩, 28) := ⟨⟨by decide +kernel, by decide +kernel⟩, List.mem_of_getElem? (i := 1338) (by decide +kernel), List.mem_of_getElem? (i := 1738) (by decide +kernel), List.mem_of_getElem? (i := 1739) (by decide +kernel)⟩
theorem lw_p87 : lw_okq (⟨"CommonBondModel", "given", "(II)V"⟩, 28) := ⟨⟨by decide +kernel, by decide +kernel⟩, List.mem_of_getElem? (i := 1338) (by decide +kernel), List.mem_of_getElem? (i := 1746) (by decide +kernel), List.mem_of_getElem? (i := 1747) (by decide +kernel)⟩
theorem lw_p88 : lw_okq (⟨"CommonBondModel", "partsOut", "(J)J"⟩, 28) := ⟨⟨by decide +kernel, by decide +kernel⟩, List.mem_of_getElem? (i := 1338) (by decide +kernel), List.mem_of_getElem? (i := 1750) (by decide +kernel), List.mem_of_getElem? (i := 1751) (by decide +kernel)⟩
theorem lw_p89 : lw_okq (⟨"CommonBondModel", "isYear", "(I)Z"⟩, 28) := ⟨⟨by decide +kernel, by decide +kernel⟩, List.mem_of_getElem? (i := 1338) (by decide +kernel), List.mem_of_getElem? (i := 1762) (by decide +kernel), List.mem_of_getElem? (i := 1763) (by decide +kernel)⟩
theorem lw_p90 : lw_okq (⟨"CommonBondModel", "sharesNow", "(II)J"⟩, 28) := ⟨⟨by decide +kernel, by decide +kernel⟩, List.mem_of_getElem? (i := 1338) (by decide +kernel), List.mem_of_getElem? (i := 1770) (by decide +kernel), List.mem_of_getElem? (i := 1771) (by decide +kernel)⟩
theorem lw_p91 : lw_okq (⟨"CommonBondModel", "mayBe", "(I)Z"⟩, 28) := ⟨⟨by decide +kernel, by decide +kernel⟩, List.mem_of_getElem? (i := 1338) (by decide +kernel), List.mem_of_getElem? (i := 1793) (by decide +kernel), List.mem_of_getElem? (i := 1794) (by decide +kernel)⟩
theorem lw_p92 : lw_okq (⟨"CommonBondModel", "foresees", "(I)V"⟩, 28) := ⟨⟨by decide +kernel, by decide +kernel⟩, List.mem_of_getElem? (i := 1338) (by decide +kernel), List.mem_of_getElem? (i := 1797) (by decide +kernel), List.mem_of_getElem? (i := 1798) (by decide +kernel)⟩
theorem lw_p93 : lw_okq (⟨"CommonBondModel", "isBetter", "(II)Z"⟩, 28) := ⟨⟨by decide +kernel, by decide +kernel⟩, List.mem_of_getElem? (i := 1338) (by decide +kernel), List.mem_of_getElem? (i := 1801) (by decide +kernel), List.mem_of_getElem? (i := 1802) (by decide +kernel)⟩
theorem lw_p94 : lw_okq (⟨"CommonBondModel", "sums", "(I)J"⟩, 28) := ⟨⟨by decide +kernel, by decide +kernel⟩, List.mem_of_getElem? (i := 1338) (by decide +kernel), List.mem_of_getElem? (i := 1805) (by decide +kernel), List.mem_of_getElem? (i := 1806) (by decide +kernel)⟩
theorem lw_p95 : lw_okq (⟨"CommonBondModel", "lasts", "(I)Z"⟩, 28) := ⟨⟨by decide +kernel, by decide +kernel⟩, List.mem_of_getElem? (i := 1338) (by decide +kernel), List.mem_of_getElem? (i := 1809) (by decide +kernel), List.mem_of_getElem? (i := 1810) (by decide +kernel)⟩
def lw_privs_6 : List (MethodName × Nat) := [(⟨"CommonBondModel", "closesOne", "()V"⟩, 28), (⟨"CommonBondModel", "isAsked", "(II)Z"⟩, 28), (⟨"CommonBondModel", "closes", "()I"⟩, 28), (⟨"CommonBondModel", "passes", "()I"⟩, 28), (⟨"CommonBondModel", "fails", "(I)I"⟩, 28), (⟨"CommonBondModel", "takes", "(II)I"⟩, 28), (⟨"CommonBondModel", "closesYear", "()V"⟩, 28), (⟨"CommonBondModel", "given", "(II)V"⟩, 28), (⟨"CommonBondModel", "partsOut", "(J)J"⟩, 28), (⟨"CommonBondModel", "isYear", "(I)Z"⟩, 28), (⟨"CommonBondModel", "sharesNow", "(II)J"⟩, 28), (⟨"CommonBondModel", "mayBe", "(I)Z"⟩, 28), (⟨"CommonBondModel", "foresees", "(I)V"⟩, 28), (⟨"CommonBondModel", "isBetter", "(II)Z"⟩, 28), (⟨"CommonBondModel", "sums", "(I)J"⟩, 28), (⟨"CommonBondModel", "lasts", "(I)Z"⟩, 28)]
theorem lw_r6 : ∀ q ∈ lw_privs_6, lw_okq q := List.forall_mem_cons.mpr ⟨lw_p80, List.forall_mem_cons.mpr ⟨lw_p81, List.forall_mem_cons.mpr ⟨lw_p82, List.forall_mem_cons.mpr ⟨lw_p83, List.forall_mem_cons.mpr ⟨lw_p84, List.forall_mem_cons.mpr ⟨lw_p85, List.forall_mem_cons.mpr ⟨lw_p86, List.forall_mem_cons.mpr ⟨lw_p87, List.forall_mem_cons.mpr ⟨lw_p88, List.forall_mem_cons.mpr ⟨lw_p89, List.forall_mem_cons.mpr ⟨lw_p90, List.forall_mem_cons.mpr ⟨lw_p91, List.forall_mem_cons.mpr ⟨lw_p92, List.forall_mem_cons.mpr ⟨lw_p93, List.forall_mem_cons.mpr ⟨lw_p94, List.forall_mem_cons.mpr ⟨lw_p95, fun _ h => absurd h List.not_mem_nil⟩⟩⟩⟩⟩⟩⟩⟩⟩⟩⟩⟩⟩⟩⟩⟩
theorem lw_p96 : lw_okq (⟨"CommonBondModel", "lastsBy", "(IJI)Z"⟩, 28) := ⟨⟨by decide +kernel, by decide +kernel⟩, List.mem_of_getElem? (i := 1338) (by decide +kernel), List.mem_of_getElem? (i := 1813) (by decide +kernel), List.mem_of_getElem? (i := 1814) (by decide +kernel)⟩
theorem lw_p97 : lw_okq (⟨"CommonBondModel", "failAll", "(I)I"⟩, 28) := ⟨⟨by decide +kernel, by decide +kernel⟩, List.mem_of_getElem? (i := 1338) (by decide +kernel), List.mem_of_getElem? (i := 1825) (by decide +kernel), List.mem_of_getElem? (i := 1826) (by decide +kernel)⟩
def lw_privs_7 : List (MethodName × Nat) := [(⟨"CommonBondModel", "lastsBy", "(IJI)Z"⟩, 28), (⟨"CommonBondModel", "failAll", "(I)I"⟩, 28)]
theorem lw_r7 : ∀ q ∈ lw_privs_7, lw_okq q := List.forall_mem_cons.mpr ⟨lw_p96, List.forall_mem_cons.mpr ⟨lw_p97, fun _ h => absurd h List.not_mem_nil⟩⟩
def lw_privs : List (MethodName × Nat) := lw_privs_1 ++ (lw_privs_2 ++ (lw_privs_3 ++ (lw_privs_4 ++ (lw_privs_5 ++ (lw_privs_6 ++ (lw_privs_7))))))
def lw_tbl : List Cond := k2_sels lw_privs ++ tables_1
theorem lw_privs_ok : ∀ q ∈ lw_privs, lw_okq q := by
  show ∀ q ∈ lw_privs_1 ++ (lw_privs_2 ++ (lw_privs_3 ++ (lw_privs_4 ++ (lw_privs_5 ++ (lw_privs_6 ++ (lw_privs_7)))))), lw_okq q
  exact List.forall_mem_append.mpr ⟨lw_r1, List.forall_mem_append.mpr ⟨lw_r2, List.forall_mem_append.mpr ⟨lw_r3, List.forall_mem_append.mpr ⟨lw_r4, List.forall_mem_append.mpr ⟨lw_r5, List.forall_mem_append.mpr ⟨lw_r6, lw_r7⟩⟩⟩⟩⟩⟩

/-! ===== BEGIN words of one list among another's, by their places ===== -/
theorem goodIn_r {big : List Cond} (ws : List Cond) (ps : List Nat) (hp : ws = ps.filterMap (fun i => big[i]?)) (h : ws.all goodWord = true) : GoodIn big ws := by
  intro w hw
  have h1 := List.all_eq_true.mp h w hw
  rw [hp] at hw
  obtain ⟨i, -, hi⟩ := List.mem_filterMap.mp hw
  have hm : w ∈ big := by first | exact List.mem_of_getElem? hi | exact List.getElem?_mem hi
  exact ⟨hm, good_of_word h1⟩
theorem goodIn_app {big a b : List Cond} (ha : GoodIn big a) (hb : GoodIn big b) : GoodIn big (a ++ b) := fun w h => (List.mem_append.mp h).elim (ha w) (hb w)
theorem goodIn_ca {big a b : List Cond} {c : Cond} (ha : GoodIn big (c :: a)) (hb : GoodIn big b) : GoodIn big (c :: (a ++ b)) := fun w h => (List.mem_cons.mp h).elim (fun e => ha w (List.mem_cons.mpr (Or.inl e))) (fun h => (List.mem_append.mp h).elim (fun h => ha w (List.mem_cons.mpr (Or.inr h))) (hb w))
theorem goodIn_sub {big ws : List Cond} (hm : ∀ w ∈ ws, w ∈ big) (h : ws.all goodWord = true) : GoodIn big ws := fun w hw => ⟨hm w hw, good_of_word (List.all_eq_true.mp h w hw)⟩
/-! ===== END ===== -/
def RX0 : String := "CommonBond$Asks"
def TX0 : u_T := fun k => match k with
  | 0 => ("CommonBond$Asks", "size", "I", false)
  | 1 => ("CommonBond$Asks", "member", "[I", true)
  | 2 => ("CommonBond$Asks", "kind", "[I", true)
  | 3 => ("CommonBond$Asks", "sum", "[I", true)
  | 4 => ("CommonBond$Asks", "weeks", "[I", true)
  | 5 => ("CommonBond$Asks", "given", "[I", true)
  | 6 => ("CommonBond$Asks", "loan", "[I", true)
  | 7 => ("CommonBond$Asks", "backers", "[I", true)
  | 8 => ("CommonBond$Asks", "backer", "[[I", true)
  | _ => ("CommonBond$Asks", "pledge", "[[I", true)
def tyX0 : Nat → FieldType := fun k => match k with
  | 0 => .int
  | 1 => .array .int
  | 2 => .array .int
  | 3 => .array .int
  | 4 => .array .int
  | 5 => .array .int
  | 6 => .array .int
  | 7 => .array .int
  | 8 => .array (.array .int)
  | _ => .array (.array .int)
abbrev wsX00 : List Cond := u_ws RX0 TX0 10
theorem nmX0 : ∀ a, a < 10 → ∀ b, b < 10 → a ≠ b → (TX0 a).2.1 ≠ (TX0 b).2.1 := by decide +kernel
theorem tyX0_ok : ∀ k, k < 10 → parseFieldDescriptor (TX0 k).2.2.1 = some (tyX0 k) := by decide +kernel
abbrev cX0_init : ByteArray := prog_2_method_1_code
def yX0_init : MethodName := ⟨RX0, "<init>", "()V"⟩
abbrev cX0_isOf : ByteArray := prog_2_method_2_code
def yX0_isOf : MethodName := ⟨RX0, "isOf", "(II)Z"⟩
abbrev cX0_add : ByteArray := prog_2_method_3_code
def yX0_add : MethodName := ⟨RX0, "add", "(IIII)I"⟩
abbrev cX0_addBacker : ByteArray := prog_2_method_4_code
def yX0_addBacker : MethodName := ⟨RX0, "addBacker", "(III)I"⟩
abbrev cX0_hasBacker : ByteArray := prog_2_method_5_code
def yX0_hasBacker : MethodName := ⟨RX0, "hasBacker", "(II)Z"⟩
abbrev cX0_pledges : ByteArray := prog_2_method_6_code
def yX0_pledges : MethodName := ⟨RX0, "pledges", "(I)I"⟩
abbrev cX0_likeness : ByteArray := prog_2_method_7_code
def yX0_likeness : MethodName := ⟨RX0, "likeness", "(II)I"⟩
abbrev cX0_become : ByteArray := prog_2_method_8_code
def yX0_become : MethodName := ⟨RX0, "become", "(LCommonBond$Asks;)V"⟩
def RX1 : String := "CommonBond$Closer"
def TX1 : u_T := fun k => match k with
  | 0 => ("CommonBond$Closer", "state", "LCommonBond$State;", true)
  | 1 => ("CommonBond$Closer", "lender", "LCommonBond$Lender;", true)
  | 2 => ("CommonBond$Closer", "parts", "[J", true)
  | 3 => ("CommonBond$Closer", "parted", "[J", true)
  | _ => ("CommonBond$Closer", "rests", "[J", true)
def tyX1 : Nat → FieldType := fun k => match k with
  | 0 => .object "CommonBond$State"
  | 1 => .object "CommonBond$Lender"
  | 2 => .array .long
  | 3 => .array .long
  | _ => .array .long
abbrev wsX10 : List Cond := u_ws RX1 TX1 5
theorem nmX1 : ∀ a, a < 5 → ∀ b, b < 5 → a ≠ b → (TX1 a).2.1 ≠ (TX1 b).2.1 := by decide +kernel
theorem tyX1_ok : ∀ k, k < 5 → parseFieldDescriptor (TX1 k).2.2.1 = some (tyX1 k) := by decide +kernel
abbrev cX1_init : ByteArray := prog_3_method_1_code
def yX1_init : MethodName := ⟨RX1, "<init>", "(LCommonBond$State;LCommonBond$Lender;)V"⟩
abbrev cX1_fail : ByteArray := prog_3_method_2_code
def yX1_fail : MethodName := ⟨RX1, "fail", "(LCommonBond$Asks;LCommonBond$Loans;LCommonBond$Ledger;II)I"⟩
abbrev cX1_take : ByteArray := prog_3_method_3_code
def yX1_take : MethodName := ⟨RX1, "take", "(LCommonBond$Ledger;III)I"⟩
abbrev cX1_closeWeek : ByteArray := prog_3_method_4_code
def yX1_closeWeek : MethodName := ⟨RX1, "closeWeek", "()I"⟩
abbrev cX1_closeLoans : ByteArray := prog_3_method_5_code
def yX1_closeLoans : MethodName := ⟨RX1, "closeLoans", "()I"⟩
abbrev cX1_closeYear : ByteArray := prog_3_method_6_code
def yX1_closeYear : MethodName := ⟨RX1, "closeYear", "()V"⟩
abbrev cX1_earn : ByteArray := prog_3_method_7_code
def yX1_earn : MethodName := ⟨RX1, "earn", "([J)J"⟩
abbrev cX1_partSurplus : ByteArray := prog_3_method_8_code
def yX1_partSurplus : MethodName := ⟨RX1, "partSurplus", "(I)V"⟩
abbrev cX1_part : ByteArray := prog_3_method_9_code
def yX1_part : MethodName := ⟨RX1, "part", "(J[J[J)Z"⟩
abbrev cX1_greatestRest : ByteArray := prog_3_method_10_code
def yX1_greatestRest : MethodName := ⟨RX1, "greatestRest", "()I"⟩
abbrev cX1_handOut : ByteArray := prog_3_method_11_code
def yX1_handOut : MethodName := ⟨RX1, "handOut", "(I)V"⟩
abbrev cX1_reworked : ByteArray := prog_3_method_12_code
def yX1_reworked : MethodName := ⟨RX1, "reworked", "(II)J"⟩
abbrev cX1_mayVoid : ByteArray := prog_3_method_13_code
def yX1_mayVoid : MethodName := ⟨RX1, "mayVoid", "(I)Z"⟩
abbrev cX1_takeBack : ByteArray := prog_3_method_14_code
def yX1_takeBack : MethodName := ⟨RX1, "takeBack", "(I)I"⟩
def RX2 : String := "CommonBond$Ledger"
def TX2 : u_T := fun k => match k with
  | 0 => ("CommonBond$Ledger", "size", "I", false)
  | 1 => ("CommonBond$Ledger", "owner", "[I", true)
  | 2 => ("CommonBond$Ledger", "forWeek", "[I", true)
  | 3 => ("CommonBond$Ledger", "toldIn", "[I", true)
  | 4 => ("CommonBond$Ledger", "much", "[I", true)
  | 5 => ("CommonBond$Ledger", "total", "[I", true)
  | 6 => ("CommonBond$Ledger", "change", "[I", true)
  | 7 => ("CommonBond$Ledger", "cash", "I", false)
  | _ => ("CommonBond$Ledger", "reserve", "J", false)
def tyX2 : Nat → FieldType := fun k => match k with
  | 0 => .int
  | 1 => .array .int
  | 2 => .array .int
  | 3 => .array .int
  | 4 => .array .int
  | 5 => .array .int
  | 6 => .array .int
  | 7 => .int
  | _ => .long
abbrev wsX20 : List Cond := u_ws RX2 TX2 9
theorem nmX2 : ∀ a, a < 9 → ∀ b, b < 9 → a ≠ b → (TX2 a).2.1 ≠ (TX2 b).2.1 := by decide +kernel
theorem tyX2_ok : ∀ k, k < 9 → parseFieldDescriptor (TX2 k).2.2.1 = some (tyX2 k) := by decide +kernel
abbrev cX2_init : ByteArray := prog_4_method_1_code
def yX2_init : MethodName := ⟨RX2, "<init>", "()V"⟩
abbrev cX2_place : ByteArray := prog_4_method_2_code
def yX2_place : MethodName := ⟨RX2, "place", "(III)I"⟩
abbrev cX2_hasRoom : ByteArray := prog_4_method_3_code
def yX2_hasRoom : MethodName := ⟨RX2, "hasRoom", "(III)Z"⟩
abbrev cX2_enter : ByteArray := prog_4_method_4_code
def yX2_enter : MethodName := ⟨RX2, "enter", "(IIII)V"⟩
abbrev cX2_savedIn : ByteArray := prog_4_method_5_code
def yX2_savedIn : MethodName := ⟨RX2, "savedIn", "(III)I"⟩
abbrev cX2_savedByAll : ByteArray := prog_4_method_6_code
def yX2_savedByAll : MethodName := ⟨RX2, "savedByAll", "()I"⟩
abbrev cX2_entriesBehind : ByteArray := prog_4_method_7_code
def yX2_entriesBehind : MethodName := ⟨RX2, "entriesBehind", "(II)I"⟩
abbrev cX2_shareWeeks : ByteArray := prog_4_method_8_code
def yX2_shareWeeks : MethodName := ⟨RX2, "shareWeeks", "(II)J"⟩
abbrev cX2_become : ByteArray := prog_4_method_9_code
def yX2_become : MethodName := ⟨RX2, "become", "(LCommonBond$Ledger;)V"⟩
def RX3 : String := "CommonBond$Lender"
def TX3 : u_T := fun k => match k with
  | 0 => ("CommonBond$Lender", "state", "LCommonBond$State;", true)
  | _ => ("CommonBond$Lender", "names", "[I", true)
def tyX3 : Nat → FieldType := fun k => match k with
  | 0 => .object "CommonBond$State"
  | _ => .array .int
abbrev wsX30 : List Cond := u_ws RX3 TX3 2
theorem nmX3 : ∀ a, a < 2 → ∀ b, b < 2 → a ≠ b → (TX3 a).2.1 ≠ (TX3 b).2.1 := by decide +kernel
theorem tyX3_ok : ∀ k, k < 2 → parseFieldDescriptor (TX3 k).2.2.1 = some (tyX3 k) := by decide +kernel
abbrev cX3_init : ByteArray := prog_5_method_1_code
def yX3_init : MethodName := ⟨RX3, "<init>", "(LCommonBond$State;)V"⟩
abbrev cX3_knowNone : ByteArray := prog_5_method_2_code
def yX3_knowNone : MethodName := ⟨RX3, "knowNone", "()V"⟩
abbrev cX3_knowMember : ByteArray := prog_5_method_3_code
def yX3_knowMember : MethodName := ⟨RX3, "knowMember", "(I)V"⟩
abbrev cX3_knowAsk : ByteArray := prog_5_method_4_code
def yX3_knowAsk : MethodName := ⟨RX3, "knowAsk", "(I)V"⟩
abbrev cX3_ruleTelling : ByteArray := prog_5_method_5_code
def yX3_ruleTelling : MethodName := ⟨RX3, "ruleTelling", "(I)I"⟩
abbrev cX3_told : ByteArray := prog_5_method_6_code
def yX3_told : MethodName := ⟨RX3, "told", "(I)I"⟩
abbrev cX3_hundredths : ByteArray := prog_5_method_7_code
def yX3_hundredths : MethodName := ⟨RX3, "hundredths", "(I)I"⟩
abbrev cX3_limitOf : ByteArray := prog_5_method_8_code
def yX3_limitOf : MethodName := ⟨RX3, "limitOf", "(I)I"⟩
abbrev cX3_limitBy : ByteArray := prog_5_method_9_code
def yX3_limitBy : MethodName := ⟨RX3, "limitBy", "(II)I"⟩
abbrev cX3_interestOf : ByteArray := prog_5_method_10_code
def yX3_interestOf : MethodName := ⟨RX3, "interestOf", "(I)I"⟩
abbrev cX3_answerNow : ByteArray := prog_5_method_11_code
def yX3_answerNow : MethodName := ⟨RX3, "answerNow", "(I)I"⟩
abbrev cX3_isBacked : ByteArray := prog_5_method_12_code
def yX3_isBacked : MethodName := ⟨RX3, "isBacked", "(I)Z"⟩
abbrev cX3_lend : ByteArray := prog_5_method_13_code
def yX3_lend : MethodName := ⟨RX3, "lend", "(I)V"⟩
abbrev cX3_isDormant : ByteArray := prog_5_method_14_code
def yX3_isDormant : MethodName := ⟨RX3, "isDormant", "(I)Z"⟩
abbrev cX3_dormantOnes : ByteArray := prog_5_method_15_code
def yX3_dormantOnes : MethodName := ⟨RX3, "dormantOnes", "()I"⟩
def RX4 : String := "CommonBond$Loans"
def TX4 : u_T := fun k => match k with
  | 0 => ("CommonBond$Loans", "size", "I", false)
  | 1 => ("CommonBond$Loans", "ask", "[I", true)
  | 2 => ("CommonBond$Loans", "member", "[I", true)
  | 3 => ("CommonBond$Loans", "kind", "[I", true)
  | 4 => ("CommonBond$Loans", "sum", "[I", true)
  | 5 => ("CommonBond$Loans", "weeks", "[I", true)
  | 6 => ("CommonBond$Loans", "lent", "[I", true)
  | 7 => ("CommonBond$Loans", "interest", "[I", true)
  | 8 => ("CommonBond$Loans", "usual", "[I", true)
  | 9 => ("CommonBond$Loans", "paid", "[I", true)
  | 10 => ("CommonBond$Loans", "lateWeeks", "[I", true)
  | 11 => ("CommonBond$Loans", "state", "[I", true)
  | 12 => ("CommonBond$Loans", "fromMember", "[I", true)
  | 13 => ("CommonBond$Loans", "fromBackers", "[I", true)
  | 14 => ("CommonBond$Loans", "lost", "[I", true)
  | _ => ("CommonBond$Loans", "earned", "[J", true)
def tyX4 : Nat → FieldType := fun k => match k with
  | 0 => .int
  | 1 => .array .int
  | 2 => .array .int
  | 3 => .array .int
  | 4 => .array .int
  | 5 => .array .int
  | 6 => .array .int
  | 7 => .array .int
  | 8 => .array .int
  | 9 => .array .int
  | 10 => .array .int
  | 11 => .array .int
  | 12 => .array .int
  | 13 => .array .int
  | 14 => .array .int
  | _ => .array .long
abbrev wsX40 : List Cond := u_ws RX4 TX4 16
theorem nmX4 : ∀ a, a < 16 → ∀ b, b < 16 → a ≠ b → (TX4 a).2.1 ≠ (TX4 b).2.1 := by decide +kernel
theorem tyX4_ok : ∀ k, k < 16 → parseFieldDescriptor (TX4 k).2.2.1 = some (tyX4 k) := by decide +kernel
abbrev cX4_init : ByteArray := prog_6_method_1_code
def yX4_init : MethodName := ⟨RX4, "<init>", "()V"⟩
abbrev cX4_usualDue : ByteArray := prog_6_method_2_code
def yX4_usualDue : MethodName := ⟨RX4, "usualDue", "(IIII)I"⟩
abbrev cX4_add : ByteArray := prog_6_method_3_code
def yX4_add : MethodName := ⟨RX4, "add", "(LCommonBond$Asks;III)I"⟩
abbrev cX4_owedBy : ByteArray := prog_6_method_4_code
def yX4_owedBy : MethodName := ⟨RX4, "owedBy", "(I)I"⟩
abbrev cX4_payOff : ByteArray := prog_6_method_5_code
def yX4_payOff : MethodName := ⟨RX4, "payOff", "(II)I"⟩
abbrev cX4_dueIn : ByteArray := prog_6_method_6_code
def yX4_dueIn : MethodName := ⟨RX4, "dueIn", "(II)I"⟩
abbrev cX4_dueThrough : ByteArray := prog_6_method_7_code
def yX4_dueThrough : MethodName := ⟨RX4, "dueThrough", "(II)I"⟩
abbrev cX4_isLate : ByteArray := prog_6_method_8_code
def yX4_isLate : MethodName := ⟨RX4, "isLate", "(II)Z"⟩
abbrev cX4_lateOf : ByteArray := prog_6_method_9_code
def yX4_lateOf : MethodName := ⟨RX4, "lateOf", "(II)I"⟩
abbrev cX4_hasFailed : ByteArray := prog_6_method_10_code
def yX4_hasFailed : MethodName := ⟨RX4, "hasFailed", "(I)Z"⟩
abbrev cX4_owedOf : ByteArray := prog_6_method_11_code
def yX4_owedOf : MethodName := ⟨RX4, "owedOf", "(I)I"⟩
abbrev cX4_heldOf : ByteArray := prog_6_method_12_code
def yX4_heldOf : MethodName := ⟨RX4, "heldOf", "(I)I"⟩
abbrev cX4_openOnes : ByteArray := prog_6_method_13_code
def yX4_openOnes : MethodName := ⟨RX4, "openOnes", "()I"⟩
abbrev cX4_owedByAll : ByteArray := prog_6_method_14_code
def yX4_owedByAll : MethodName := ⟨RX4, "owedByAll", "()I"⟩
abbrev cX4_dueOfAll : ByteArray := prog_6_method_15_code
def yX4_dueOfAll : MethodName := ⟨RX4, "dueOfAll", "(I)I"⟩
abbrev cX4_become : ByteArray := prog_6_method_16_code
def yX4_become : MethodName := ⟨RX4, "become", "(LCommonBond$Loans;)V"⟩
def RX5 : String := "CommonBond$Planner"
def TX5 : u_T := fun k => match k with
  | 0 => ("CommonBond$Planner", "state", "LCommonBond$State;", true)
  | 1 => ("CommonBond$Planner", "lender", "LCommonBond$Lender;", true)
  | 2 => ("CommonBond$Planner", "comes", "[I", true)
  | 3 => ("CommonBond$Planner", "brings", "[[I", true)
  | 4 => ("CommonBond$Planner", "trialLedger", "LCommonBond$Ledger;", true)
  | 5 => ("CommonBond$Planner", "trialLoans", "LCommonBond$Loans;", true)
  | 6 => ("CommonBond$Planner", "fallen", "I", false)
  | 7 => ("CommonBond$Planner", "fallLost", "I", false)
  | _ => ("CommonBond$Planner", "rounds", "I", false)
def tyX5 : Nat → FieldType := fun k => match k with
  | 0 => .object "CommonBond$State"
  | 1 => .object "CommonBond$Lender"
  | 2 => .array .int
  | 3 => .array (.array .int)
  | 4 => .object "CommonBond$Ledger"
  | 5 => .object "CommonBond$Loans"
  | 6 => .int
  | 7 => .int
  | _ => .int
abbrev wsX50 : List Cond := u_ws RX5 TX5 9
theorem nmX5 : ∀ a, a < 9 → ∀ b, b < 9 → a ≠ b → (TX5 a).2.1 ≠ (TX5 b).2.1 := by decide +kernel
theorem tyX5_ok : ∀ k, k < 9 → parseFieldDescriptor (TX5 k).2.2.1 = some (tyX5 k) := by decide +kernel
abbrev cX5_init : ByteArray := prog_7_method_1_code
def yX5_init : MethodName := ⟨RX5, "<init>", "(LCommonBond$State;LCommonBond$Lender;)V"⟩
abbrev cX5_mayJoin : ByteArray := prog_7_method_2_code
def yX5_mayJoin : MethodName := ⟨RX5, "mayJoin", "(I)Z"⟩
abbrev cX5_lasts : ByteArray := prog_7_method_3_code
def yX5_lasts : MethodName := ⟨RX5, "lasts", "(I)Z"⟩
abbrev cX5_bestOf : ByteArray := prog_7_method_4_code
def yX5_bestOf : MethodName := ⟨RX5, "bestOf", "(I)I"⟩
abbrev cX5_isBetter : ByteArray := prog_7_method_5_code
def yX5_isBetter : MethodName := ⟨RX5, "isBetter", "(II)Z"⟩
abbrev cX5_sumOf : ByteArray := prog_7_method_6_code
def yX5_sumOf : MethodName := ⟨RX5, "sumOf", "(I)I"⟩
abbrev cX5_foresee : ByteArray := prog_7_method_7_code
def yX5_foresee : MethodName := ⟨RX5, "foresee", "(I)V"⟩
abbrev cX5_foreseeAsk : ByteArray := prog_7_method_8_code
def yX5_foreseeAsk : MethodName := ⟨RX5, "foreseeAsk", "(II)V"⟩
abbrev cX5_foreseenLasts : ByteArray := prog_7_method_9_code
def yX5_foreseenLasts : MethodName := ⟨RX5, "foreseenLasts", "(I)Z"⟩
abbrev cX5_lastsThrough : ByteArray := prog_7_method_10_code
def yX5_lastsThrough : MethodName := ⟨RX5, "lastsThrough", "(II[I)Z"⟩
abbrev cX5_fell : ByteArray := prog_7_method_11_code
def yX5_fell : MethodName := ⟨RX5, "fell", "(I)V"⟩
abbrev cX5_failAll : ByteArray := prog_7_method_12_code
def yX5_failAll : MethodName := ⟨RX5, "failAll", "(I)V"⟩
abbrev cX5_wanting : ByteArray := prog_7_method_13_code
def yX5_wanting : MethodName := ⟨RX5, "wanting", "()I"⟩
def RX6 : String := "CommonBond$Reader"
def TX6 : u_T := fun k => match k with
  | 0 => ("CommonBond$Reader", "tape", "[I", true)
  | 1 => ("CommonBond$Reader", "size", "I", false)
  | 2 => ("CommonBond$Reader", "next", "I", false)
  | 3 => ("CommonBond$Reader", "token", "I", false)
  | 4 => ("CommonBond$Reader", "start", "I", false)
  | 5 => ("CommonBond$Reader", "value", "I", false)
  | 6 => ("CommonBond$Reader", "code", "[I", true)
  | 7 => ("CommonBond$Reader", "length", "I", false)
  | 8 => ("CommonBond$Reader", "key", "I", false)
  | 9 => ("CommonBond$Reader", "ifAt", "I", false)
  | _ => ("CommonBond$Reader", "fault", "I", false)
def tyX6 : Nat → FieldType := fun k => match k with
  | 0 => .array .int
  | 1 => .int
  | 2 => .int
  | 3 => .int
  | 4 => .int
  | 5 => .int
  | 6 => .array .int
  | 7 => .int
  | 8 => .int
  | 9 => .int
  | _ => .int
abbrev wsX60 : List Cond := u_ws RX6 TX6 11
theorem nmX6 : ∀ a, a < 11 → ∀ b, b < 11 → a ≠ b → (TX6 a).2.1 ≠ (TX6 b).2.1 := by decide +kernel
theorem tyX6_ok : ∀ k, k < 11 → parseFieldDescriptor (TX6 k).2.2.1 = some (tyX6 k) := by decide +kernel
abbrev cX6_init : ByteArray := prog_8_method_1_code
def yX6_init : MethodName := ⟨RX6, "<init>", "()V"⟩
abbrev cX6_append : ByteArray := prog_8_method_2_code
def yX6_append : MethodName := ⟨RX6, "append", "(II)I"⟩
abbrev cX6_readRule : ByteArray := prog_8_method_3_code
def yX6_readRule : MethodName := ⟨RX6, "readRule", "()Z"⟩
abbrev cX6_either : ByteArray := prog_8_method_4_code
def yX6_either : MethodName := ⟨RX6, "either", "(I)Z"⟩
abbrev cX6_both : ByteArray := prog_8_method_5_code
def yX6_both : MethodName := ⟨RX6, "both", "(I)Z"⟩
abbrev cX6_denied : ByteArray := prog_8_method_6_code
def yX6_denied : MethodName := ⟨RX6, "denied", "(I)Z"⟩
abbrev cX6_compared : ByteArray := prog_8_method_7_code
def yX6_compared : MethodName := ⟨RX6, "compared", "(I)Z"⟩
abbrev cX6_summed : ByteArray := prog_8_method_8_code
def yX6_summed : MethodName := ⟨RX6, "summed", "(I)Z"⟩
abbrev cX6_multiplied : ByteArray := prog_8_method_9_code
def yX6_multiplied : MethodName := ⟨RX6, "multiplied", "(I)Z"⟩
abbrev cX6_single : ByteArray := prog_8_method_10_code
def yX6_single : MethodName := ⟨RX6, "single", "(I)Z"⟩
abbrev cX6_emit : ByteArray := prog_8_method_11_code
def yX6_emit : MethodName := ⟨RX6, "emit", "(I)Z"⟩
abbrev cX6_faulty : ByteArray := prog_8_method_12_code
def yX6_faulty : MethodName := ⟨RX6, "faulty", "()Z"⟩
abbrev cX6_step : ByteArray := prog_8_method_13_code
def yX6_step : MethodName := ⟨RX6, "step", "()V"⟩
abbrev cX6_number : ByteArray := prog_8_method_14_code
def yX6_number : MethodName := ⟨RX6, "number", "()V"⟩
abbrev cX6_word : ByteArray := prog_8_method_15_code
def yX6_word : MethodName := ⟨RX6, "word", "()V"⟩
abbrev cX6_wordNumber : ByteArray := prog_8_method_16_code
def yX6_wordNumber : MethodName := ⟨RX6, "wordNumber", "()I"⟩
abbrev cX6_isDigit : ByteArray := prog_8_method_17_code
def yX6_isDigit : MethodName := ⟨RX6, "isDigit", "(I)Z"⟩
abbrev cX6_isLetter : ByteArray := prog_8_method_18_code
def yX6_isLetter : MethodName := ⟨RX6, "isLetter", "(I)Z"⟩
abbrev cX6_isSign : ByteArray := prog_8_method_19_code
def yX6_isSign : MethodName := ⟨RX6, "isSign", "(I)Z"⟩
def RX7 : String := "CommonBond$Rules"
def TX7 : u_T := fun k => match k with
  | 0 => ("CommonBond$Rules", "size", "I", false)
  | 1 => ("CommonBond$Rules", "key", "[I", true)
  | 2 => ("CommonBond$Rules", "from", "[I", true)
  | 3 => ("CommonBond$Rules", "to", "[I", true)
  | 4 => ("CommonBond$Rules", "ifAt", "[I", true)
  | 5 => ("CommonBond$Rules", "end", "[I", true)
  | 6 => ("CommonBond$Rules", "code", "[[I", true)
  | _ => ("CommonBond$Rules", "stack", "[I", true)
def tyX7 : Nat → FieldType := fun k => match k with
  | 0 => .int
  | 1 => .array .int
  | 2 => .array .int
  | 3 => .array .int
  | 4 => .array .int
  | 5 => .array .int
  | 6 => .array (.array .int)
  | _ => .array .int
abbrev wsX70 : List Cond := u_ws RX7 TX7 8
theorem nmX7 : ∀ a, a < 8 → ∀ b, b < 8 → a ≠ b → (TX7 a).2.1 ≠ (TX7 b).2.1 := by decide +kernel
theorem tyX7_ok : ∀ k, k < 8 → parseFieldDescriptor (TX7 k).2.2.1 = some (tyX7 k) := by decide +kernel
abbrev cX7_init : ByteArray := prog_9_method_1_code
def yX7_init : MethodName := ⟨RX7, "<init>", "()V"⟩
abbrev cX7_add : ByteArray := prog_9_method_2_code
def yX7_add : MethodName := ⟨RX7, "add", "(LCommonBond$Reader;II)I"⟩
abbrev cX7_ruleFor : ByteArray := prog_9_method_3_code
def yX7_ruleFor : MethodName := ⟨RX7, "ruleFor", "(II[I)I"⟩
abbrev cX7_valueOf : ByteArray := prog_9_method_4_code
def yX7_valueOf : MethodName := ⟨RX7, "valueOf", "(I[I)I"⟩
abbrev cX7_work : ByteArray := prog_9_method_5_code
def yX7_work : MethodName := ⟨RX7, "work", "(III[I)I"⟩
abbrev cX7_pair : ByteArray := prog_9_method_6_code
def yX7_pair : MethodName := ⟨RX7, "pair", "(III)I"⟩
abbrev cX7_become : ByteArray := prog_9_method_7_code
def yX7_become : MethodName := ⟨RX7, "become", "(LCommonBond$Rules;)V"⟩
def RX8 : String := "CommonBond$State"
def TX8 : u_T := fun k => match k with
  | 0 => ("CommonBond$State", "week", "I", false)
  | 1 => ("CommonBond$State", "members", "I", false)
  | 2 => ("CommonBond$State", "work", "[I", true)
  | 3 => ("CommonBond$State", "street", "[I", true)
  | 4 => ("CommonBond$State", "joined", "[I", true)
  | 5 => ("CommonBond$State", "death", "[I", true)
  | 6 => ("CommonBond$State", "acted", "[I", true)
  | 7 => ("CommonBond$State", "ledger", "LCommonBond$Ledger;", true)
  | 8 => ("CommonBond$State", "asks", "LCommonBond$Asks;", true)
  | 9 => ("CommonBond$State", "loans", "LCommonBond$Loans;", true)
  | 10 => ("CommonBond$State", "rules", "LCommonBond$Rules;", true)
  | 11 => ("CommonBond$State", "years", "LCommonBond$Years;", true)
  | 12 => ("CommonBond$State", "till", "LCommonBond$Till;", true)
  | 13 => ("CommonBond$State", "told", "[I", true)
  | _ => ("CommonBond$State", "drawn", "[[I", true)
def tyX8 : Nat → FieldType := fun k => match k with
  | 0 => .int
  | 1 => .int
  | 2 => .array .int
  | 3 => .array .int
  | 4 => .array .int
  | 5 => .array .int
  | 6 => .array .int
  | 7 => .object "CommonBond$Ledger"
  | 8 => .object "CommonBond$Asks"
  | 9 => .object "CommonBond$Loans"
  | 10 => .object "CommonBond$Rules"
  | 11 => .object "CommonBond$Years"
  | 12 => .object "CommonBond$Till"
  | 13 => .array .int
  | _ => .array (.array .int)
abbrev wsX80 : List Cond := u_ws RX8 TX8 15
theorem nmX8 : ∀ a, a < 15 → ∀ b, b < 15 → a ≠ b → (TX8 a).2.1 ≠ (TX8 b).2.1 := by decide +kernel
theorem tyX8_ok : ∀ k, k < 15 → parseFieldDescriptor (TX8 k).2.2.1 = some (tyX8 k) := by decide +kernel
abbrev cX8_init : ByteArray := prog_10_method_1_code
def yX8_init : MethodName := ⟨RX8, "<init>", "()V"⟩
abbrev cX8_join : ByteArray := prog_10_method_2_code
def yX8_join : MethodName := ⟨RX8, "join", "(II)I"⟩
abbrev cX8_move : ByteArray := prog_10_method_3_code
def yX8_move : MethodName := ⟨RX8, "move", "(III)I"⟩
abbrev cX8_entriesBehindDeath : ByteArray := prog_10_method_4_code
def yX8_entriesBehindDeath : MethodName := ⟨RX8, "entriesBehindDeath", "(I)I"⟩
abbrev cX8_become : ByteArray := prog_10_method_5_code
def yX8_become : MethodName := ⟨RX8, "become", "(LCommonBond$State;)V"⟩
def RX9 : String := "CommonBond$Till"
def TX9 : u_T := fun k => match k with
  | 0 => ("CommonBond$Till", "onDuty", "[I", true)
  | 1 => ("CommonBond$Till", "counts", "I", false)
  | 2 => ("CommonBond$Till", "countWeek", "[I", true)
  | 3 => ("CommonBond$Till", "shortBy", "[I", true)
  | 4 => ("CommonBond$Till", "books", "I", false)
  | 5 => ("CommonBond$Till", "bookMember", "[I", true)
  | 6 => ("CommonBond$Till", "bookWeek", "[I", true)
  | _ => ("CommonBond$Till", "bookMuch", "[I", true)
def tyX9 : Nat → FieldType := fun k => match k with
  | 0 => .array .int
  | 1 => .int
  | 2 => .array .int
  | 3 => .array .int
  | 4 => .int
  | 5 => .array .int
  | 6 => .array .int
  | _ => .array .int
abbrev wsX90 : List Cond := u_ws RX9 TX9 8
theorem nmX9 : ∀ a, a < 8 → ∀ b, b < 8 → a ≠ b → (TX9 a).2.1 ≠ (TX9 b).2.1 := by decide +kernel
theorem tyX9_ok : ∀ k, k < 8 → parseFieldDescriptor (TX9 k).2.2.1 = some (tyX9 k) := by decide +kernel
abbrev cX9_init : ByteArray := prog_11_method_1_code
def yX9_init : MethodName := ⟨RX9, "<init>", "()V"⟩
abbrev cX9_addCount : ByteArray := prog_11_method_2_code
def yX9_addCount : MethodName := ⟨RX9, "addCount", "(II)I"⟩
abbrev cX9_addBook : ByteArray := prog_11_method_3_code
def yX9_addBook : MethodName := ⟨RX9, "addBook", "(III)I"⟩
abbrev cX9_suspected : ByteArray := prog_11_method_4_code
def yX9_suspected : MethodName := ⟨RX9, "suspected", "()I"⟩
abbrev cX9_onDutyFrom : ByteArray := prog_11_method_5_code
def yX9_onDutyFrom : MethodName := ⟨RX9, "onDutyFrom", "(II)I"⟩
abbrev cX9_become : ByteArray := prog_11_method_6_code
def yX9_become : MethodName := ⟨RX9, "become", "(LCommonBond$Till;)V"⟩
def RX10 : String := "CommonBond$Years"
def TX10 : u_T := fun k => match k with
  | 0 => ("CommonBond$Years", "closed", "I", false)
  | 1 => ("CommonBond$Years", "sums", "[[J", true)
  | 2 => ("CommonBond$Years", "dividend", "[[J", true)
  | 3 => ("CommonBond$Years", "rebate", "[[J", true)
  | 4 => ("CommonBond$Years", "shares", "[[J", true)
  | 5 => ("CommonBond$Years", "earned", "[[J", true)
  | 6 => ("CommonBond$Years", "runningShares", "[J", true)
  | _ => ("CommonBond$Years", "runningLost", "J", false)
def tyX10 : Nat → FieldType := fun k => match k with
  | 0 => .int
  | 1 => .array (.array .long)
  | 2 => .array (.array .long)
  | 3 => .array (.array .long)
  | 4 => .array (.array .long)
  | 5 => .array (.array .long)
  | 6 => .array .long
  | _ => .long
abbrev wsX100 : List Cond := u_ws RX10 TX10 8
theorem nmX10 : ∀ a, a < 8 → ∀ b, b < 8 → a ≠ b → (TX10 a).2.1 ≠ (TX10 b).2.1 := by decide +kernel
theorem tyX10_ok : ∀ k, k < 8 → parseFieldDescriptor (TX10 k).2.2.1 = some (tyX10 k) := by decide +kernel
abbrev cX10_init : ByteArray := prog_12_method_1_code
def yX10_init : MethodName := ⟨RX10, "<init>", "()V"⟩
abbrev cX10_gotBy : ByteArray := prog_12_method_2_code
def yX10_gotBy : MethodName := ⟨RX10, "gotBy", "(II)J"⟩
abbrev cX10_become : ByteArray := prog_12_method_3_code
def yX10_become : MethodName := ⟨RX10, "become", "(LCommonBond$Years;)V"⟩
def RX11 : String := "CommonBond"
def TX11 : u_T := fun k => match k with
  | 0 => ("CommonBond", "now", "LCommonBond$State;", true)
  | 1 => ("CommonBond", "kept", "LCommonBond$State;", true)
  | 2 => ("CommonBond", "imaged", "Z", false)
  | 3 => ("CommonBond", "reader", "LCommonBond$Reader;", true)
  | 4 => ("CommonBond", "lender", "LCommonBond$Lender;", true)
  | 5 => ("CommonBond", "closer", "LCommonBond$Closer;", true)
  | 6 => ("CommonBond", "planner", "LCommonBond$Planner;", true)
  | 7 => ("CommonBond", "row", "[I", true)
  | 8 => ("CommonBond", "rowSize", "I", false)
  | _ => ("CommonBond", "refused", "[I", true)
def tyX11 : Nat → FieldType := fun k => match k with
  | 0 => .object "CommonBond$State"
  | 1 => .object "CommonBond$State"
  | 2 => .boolean
  | 3 => .object "CommonBond$Reader"
  | 4 => .object "CommonBond$Lender"
  | 5 => .object "CommonBond$Closer"
  | 6 => .object "CommonBond$Planner"
  | 7 => .array .int
  | 8 => .int
  | _ => .array .int
abbrev wsX110 : List Cond := u_ws RX11 TX11 10
theorem nmX11 : ∀ a, a < 10 → ∀ b, b < 10 → a ≠ b → (TX11 a).2.1 ≠ (TX11 b).2.1 := by decide +kernel
theorem tyX11_ok : ∀ k, k < 10 → parseFieldDescriptor (TX11 k).2.2.1 = some (tyX11 k) := by decide +kernel
abbrev cX11_init : ByteArray := prog_1_method_1_code
def yX11_init : MethodName := ⟨RX11, "<init>", "()V"⟩
abbrev cX11_member : ByteArray := prog_1_method_2_code
def yX11_member : MethodName := ⟨RX11, "member", "(II)I"⟩
abbrev cX11_died : ByteArray := prog_1_method_3_code
def yX11_died : MethodName := ⟨RX11, "died", "(II)I"⟩
abbrev cX11_save : ByteArray := prog_1_method_4_code
def yX11_save : MethodName := ⟨RX11, "save", "(II)I"⟩
abbrev cX11_draw : ByteArray := prog_1_method_5_code
def yX11_draw : MethodName := ⟨RX11, "draw", "(II)I"⟩
abbrev cX11_found : ByteArray := prog_1_method_6_code
def yX11_found : MethodName := ⟨RX11, "found", "(III)I"⟩
abbrev cX11_saved : ByteArray := prog_1_method_7_code
def yX11_saved : MethodName := ⟨RX11, "saved", "(III)I"⟩
abbrev cX11_look : ByteArray := prog_1_method_8_code
def yX11_look : MethodName := ⟨RX11, "look", "(II)I"⟩
abbrev cX11_ask : ByteArray := prog_1_method_9_code
def yX11_ask : MethodName := ⟨RX11, "ask", "(III)I"⟩
abbrev cX11_back : ByteArray := prog_1_method_10_code
def yX11_back : MethodName := ⟨RX11, "back", "(III)I"⟩
abbrev cX11_askOf : ByteArray := prog_1_method_11_code
def yX11_askOf : MethodName := ⟨RX11, "askOf", "(II)I"⟩
abbrev cX11_answer : ByteArray := prog_1_method_12_code
def yX11_answer : MethodName := ⟨RX11, "answer", "(I)I"⟩
abbrev cX11_pay : ByteArray := prog_1_method_13_code
def yX11_pay : MethodName := ⟨RX11, "pay", "(II)I"⟩
abbrev cX11_loanOf : ByteArray := prog_1_method_14_code
def yX11_loanOf : MethodName := ⟨RX11, "loanOf", "(II)I"⟩
abbrev cX11_dues : ByteArray := prog_1_method_15_code
def yX11_dues : MethodName := ⟨RX11, "dues", "(II)I"⟩
abbrev cX11_taken : ByteArray := prog_1_method_16_code
def yX11_taken : MethodName := ⟨RX11, "taken", "(II)I"⟩
abbrev cX11_alike : ByteArray := prog_1_method_17_code
def yX11_alike : MethodName := ⟨RX11, "alike", "(II)I"⟩
abbrev cX11_feed : ByteArray := prog_1_method_18_code
def yX11_feed : MethodName := ⟨RX11, "feed", "(II)I"⟩
abbrev cX11_wipe : ByteArray := prog_1_method_19_code
def yX11_wipe : MethodName := ⟨RX11, "wipe", "()I"⟩
abbrev cX11_rule : ByteArray := prog_1_method_20_code
def yX11_rule : MethodName := ⟨RX11, "rule", "(II)I"⟩
abbrev cX11_says : ByteArray := prog_1_method_21_code
def yX11_says : MethodName := ⟨RX11, "says", "(II)I"⟩
abbrev cX11_why : ByteArray := prog_1_method_22_code
def yX11_why : MethodName := ⟨RX11, "why", "(II)I"⟩
abbrev cX11_run : ByteArray := prog_1_method_23_code
def yX11_run : MethodName := ⟨RX11, "run", "(I)I"⟩
abbrev cX11_cost : ByteArray := prog_1_method_24_code
def yX11_cost : MethodName := ⟨RX11, "cost", "(I)I"⟩
abbrev cX11_year : ByteArray := prog_1_method_25_code
def yX11_year : MethodName := ⟨RX11, "year", "(II)J"⟩
abbrev cX11_got : ByteArray := prog_1_method_26_code
def yX11_got : MethodName := ⟨RX11, "got", "(III)J"⟩
abbrev cX11_voided : ByteArray := prog_1_method_27_code
def yX11_voided : MethodName := ⟨RX11, "voided", "()I"⟩
abbrev cX11_runs : ByteArray := prog_1_method_28_code
def yX11_runs : MethodName := ⟨RX11, "runs", "(III)I"⟩
abbrev cX11_calm : ByteArray := prog_1_method_29_code
def yX11_calm : MethodName := ⟨RX11, "calm", "(I)I"⟩
abbrev cX11_best : ByteArray := prog_1_method_30_code
def yX11_best : MethodName := ⟨RX11, "best", "(I)I"⟩
abbrev cX11_judge : ByteArray := prog_1_method_31_code
def yX11_judge : MethodName := ⟨RX11, "judge", "()I"⟩
abbrev cX11_fall : ByteArray := prog_1_method_32_code
def yX11_fall : MethodName := ⟨RX11, "fall", "(II)I"⟩
abbrev cX11_duty : ByteArray := prog_1_method_33_code
def yX11_duty : MethodName := ⟨RX11, "duty", "(I)I"⟩
abbrev cX11_counted : ByteArray := prog_1_method_34_code
def yX11_counted : MethodName := ⟨RX11, "counted", "(I)I"⟩
abbrev cX11_suspects : ByteArray := prog_1_method_35_code
def yX11_suspects : MethodName := ⟨RX11, "suspects", "()I"⟩
abbrev cX11_book : ByteArray := prog_1_method_36_code
def yX11_book : MethodName := ⟨RX11, "book", "(III)I"⟩
abbrev cX11_wrong : ByteArray := prog_1_method_37_code
def yX11_wrong : MethodName := ⟨RX11, "wrong", "()I"⟩
abbrev cX11_count : ByteArray := prog_1_method_38_code
def yX11_count : MethodName := ⟨RX11, "count", "(I)I"⟩
abbrev cX11_image : ByteArray := prog_1_method_39_code
def yX11_image : MethodName := ⟨RX11, "image", "()I"⟩
abbrev cX11_undo : ByteArray := prog_1_method_40_code
def yX11_undo : MethodName := ⟨RX11, "undo", "()I"⟩
abbrev cX11_lay : ByteArray := prog_1_method_41_code
def yX11_lay : MethodName := ⟨RX11, "lay", "(I)I"⟩
abbrev cX11_set : ByteArray := prog_1_method_42_code
def yX11_set : MethodName := ⟨RX11, "set", "(II)I"⟩
abbrev cX11_tear : ByteArray := prog_1_method_43_code
def yX11_tear : MethodName := ⟨RX11, "tear", "()I"⟩
abbrev cX11_row : ByteArray := prog_1_method_44_code
def yX11_row : MethodName := ⟨RX11, "row", "(I)I"⟩
abbrev cX11_copy : ByteArray := prog_1_method_45_code
def yX11_copy : MethodName := ⟨RX11, "copy", "(III)I"⟩
abbrev cX11_status : ByteArray := prog_1_method_46_code
def yX11_status : MethodName := ⟨RX11, "status", "(I)I"⟩
abbrev cX11_refuse : ByteArray := prog_1_method_47_code
def yX11_refuse : MethodName := ⟨RX11, "refuse", "(I)I"⟩
abbrev cX11_tellZero : ByteArray := prog_1_method_48_code
def yX11_tellZero : MethodName := ⟨RX11, "tellZero", "(I)I"⟩
abbrev cX11_outside : ByteArray := prog_1_method_49_code
def yX11_outside : MethodName := ⟨RX11, "outside", "(III)Z"⟩
abbrev cX11_noMember : ByteArray := prog_1_method_50_code
def yX11_noMember : MethodName := ⟨RX11, "noMember", "(I)Z"⟩
abbrev cX11_noAsk : ByteArray := prog_1_method_51_code
def yX11_noAsk : MethodName := ⟨RX11, "noAsk", "(I)Z"⟩
abbrev cX11_noLoan : ByteArray := prog_1_method_52_code
def yX11_noLoan : MethodName := ⟨RX11, "noLoan", "(I)Z"⟩
abbrev cX11_noWeek : ByteArray := prog_1_method_53_code
def yX11_noWeek : MethodName := ⟨RX11, "noWeek", "(I)Z"⟩
abbrev cX11_nobody : ByteArray := prog_1_method_54_code
def yX11_nobody : MethodName := ⟨RX11, "nobody", "(I)Z"⟩
abbrev cX11_knowWho : ByteArray := prog_1_method_55_code
def yX11_knowWho : MethodName := ⟨RX11, "knowWho", "(I)V"⟩
def RX12 : String := "CommonBondModel"
def TX12 : u_T := fun k => match k with
  | 0 => ("CommonBondModel", "p", "[I", true)
  | 1 => ("CommonBondModel", "kept", "[I", true)
  | 2 => ("CommonBondModel", "aside", "[I", true)
  | 3 => ("CommonBondModel", "weeks", "[J", true)
  | 4 => ("CommonBondModel", "keptWeeks", "[J", true)
  | 5 => ("CommonBondModel", "asideWeeks", "[J", true)
  | 6 => ("CommonBondModel", "hasImage", "Z", false)
  | 7 => ("CommonBondModel", "counts", "[I", true)
  | 8 => ("CommonBondModel", "tape", "[I", true)
  | 9 => ("CommonBondModel", "taped", "I", false)
  | 10 => ("CommonBondModel", "rowSize", "I", false)
  | 11 => ("CommonBondModel", "cells", "[I", true)
  | 12 => ("CommonBondModel", "at", "I", false)
  | 13 => ("CommonBondModel", "begun", "I", false)
  | 14 => ("CommonBondModel", "token", "I", false)
  | 15 => ("CommonBondModel", "value", "I", false)
  | 16 => ("CommonBondModel", "opens", "I", false)
  | 17 => ("CommonBondModel", "out", "I", false)
  | 18 => ("CommonBondModel", "codesAt", "I", false)
  | 19 => ("CommonBondModel", "isFaulty", "Z", false)
  | 20 => ("CommonBondModel", "words", "[J", true)
  | 21 => ("CommonBondModel", "names", "[I", true)
  | 22 => ("CommonBondModel", "stack", "[I", true)
  | 23 => ("CommonBondModel", "said", "I", false)
  | 24 => ("CommonBondModel", "parts", "[J", true)
  | 25 => ("CommonBondModel", "gets", "[J", true)
  | 26 => ("CommonBondModel", "comesIn", "[J", true)
  | _ => ("CommonBondModel", "comesOf", "[I", true)
def tyX12 : Nat → FieldType := fun k => match k with
  | 0 => .array .int
  | 1 => .array .int
  | 2 => .array .int
  | 3 => .array .long
  | 4 => .array .long
  | 5 => .array .long
  | 6 => .boolean
  | 7 => .array .int
  | 8 => .array .int
  | 9 => .int
  | 10 => .int
  | 11 => .array .int
  | 12 => .int
  | 13 => .int
  | 14 => .int
  | 15 => .int
  | 16 => .int
  | 17 => .int
  | 18 => .int
  | 19 => .boolean
  | 20 => .array .long
  | 21 => .array .int
  | 22 => .array .int
  | 23 => .int
  | 24 => .array .long
  | 25 => .array .long
  | 26 => .array .long
  | _ => .array .int
abbrev wsX120 : List Cond := u_ws RX12 TX12 28
theorem nmX12 : ∀ a, a < 28 → ∀ b, b < 28 → a ≠ b → (TX12 a).2.1 ≠ (TX12 b).2.1 := by decide +kernel
theorem tyX12_ok : ∀ k, k < 28 → parseFieldDescriptor (TX12 k).2.2.1 = some (tyX12 k) := by decide +kernel
abbrev cX12_init : ByteArray := prog_14_method_1_code
def yX12_init : MethodName := ⟨RX12, "<init>", "()V"⟩
abbrev cX12_in : ByteArray := prog_14_method_3_code
def yX12_in : MethodName := ⟨RX12, "in", "(III)Z"⟩
abbrev cX12_refuse : ByteArray := prog_14_method_4_code
def yX12_refuse : MethodName := ⟨RX12, "refuse", "(I)I"⟩
abbrev cX12_nought : ByteArray := prog_14_method_5_code
def yX12_nought : MethodName := ⟨RX12, "nought", "(I)I"⟩
abbrev cX12_isMember : ByteArray := prog_14_method_6_code
def yX12_isMember : MethodName := ⟨RX12, "isMember", "(I)Z"⟩
abbrev cX12_isAsk : ByteArray := prog_14_method_7_code
def yX12_isAsk : MethodName := ⟨RX12, "isAsk", "(I)Z"⟩
abbrev cX12_isLoan : ByteArray := prog_14_method_8_code
def yX12_isLoan : MethodName := ⟨RX12, "isLoan", "(I)Z"⟩
abbrev cX12_sameEntry : ByteArray := prog_14_method_9_code
def yX12_sameEntry : MethodName := ⟨RX12, "sameEntry", "(II)I"⟩
abbrev cX12_enters : ByteArray := prog_14_method_10_code
def yX12_enters : MethodName := ⟨RX12, "enters", "(III)V"⟩
abbrev cX12_hasRoom : ByteArray := prog_14_method_11_code
def yX12_hasRoom : MethodName := ⟨RX12, "hasRoom", "(II)Z"⟩
abbrev cX12_savedIn : ByteArray := prog_14_method_12_code
def yX12_savedIn : MethodName := ⟨RX12, "savedIn", "(III)I"⟩
abbrev cX12_savedNow : ByteArray := prog_14_method_13_code
def yX12_savedNow : MethodName := ⟨RX12, "savedNow", "(I)I"⟩
abbrev cX12_member : ByteArray := prog_14_method_14_code
def yX12_member : MethodName := ⟨RX12, "member", "(II)I"⟩
abbrev cX12_died : ByteArray := prog_14_method_15_code
def yX12_died : MethodName := ⟨RX12, "died", "(II)I"⟩
abbrev cX12_save : ByteArray := prog_14_method_16_code
def yX12_save : MethodName := ⟨RX12, "save", "(II)I"⟩
abbrev cX12_draw : ByteArray := prog_14_method_17_code
def yX12_draw : MethodName := ⟨RX12, "draw", "(II)I"⟩
abbrev cX12_found : ByteArray := prog_14_method_18_code
def yX12_found : MethodName := ⟨RX12, "found", "(III)I"⟩
abbrev cX12_saved : ByteArray := prog_14_method_19_code
def yX12_saved : MethodName := ⟨RX12, "saved", "(III)I"⟩
abbrev cX12_isSecured : ByteArray := prog_14_method_20_code
def yX12_isSecured : MethodName := ⟨RX12, "isSecured", "(I)Z"⟩
abbrev cX12_isBacked : ByteArray := prog_14_method_21_code
def yX12_isBacked : MethodName := ⟨RX12, "isBacked", "(I)Z"⟩
abbrev cX12_owed : ByteArray := prog_14_method_22_code
def yX12_owed : MethodName := ⟨RX12, "owed", "(I)I"⟩
abbrev cX12_isOf : ByteArray := prog_14_method_23_code
def yX12_isOf : MethodName := ⟨RX12, "isOf", "(II)Z"⟩
abbrev cX12_owes : ByteArray := prog_14_method_24_code
def yX12_owes : MethodName := ⟨RX12, "owes", "(I)I"⟩
abbrev cX12_held : ByteArray := prog_14_method_25_code
def yX12_held : MethodName := ⟨RX12, "held", "(I)I"⟩
abbrev cX12_dueOf : ByteArray := prog_14_method_26_code
def yX12_dueOf : MethodName := ⟨RX12, "dueOf", "(III)I"⟩
abbrev cX12_duesIn : ByteArray := prog_14_method_27_code
def yX12_duesIn : MethodName := ⟨RX12, "duesIn", "(II)I"⟩
abbrev cX12_dueTill : ByteArray := prog_14_method_28_code
def yX12_dueTill : MethodName := ⟨RX12, "dueTill", "(II)I"⟩
abbrev cX12_isLate : ByteArray := prog_14_method_29_code
def yX12_isLate : MethodName := ⟨RX12, "isLate", "(II)Z"⟩
abbrev cX12_lateOf : ByteArray := prog_14_method_30_code
def yX12_lateOf : MethodName := ⟨RX12, "lateOf", "(I)I"⟩
abbrev cX12_isDormant : ByteArray := prog_14_method_31_code
def yX12_isDormant : MethodName := ⟨RX12, "isDormant", "(I)Z"⟩
abbrev cX12_lateEntries : ByteArray := prog_14_method_32_code
def yX12_lateEntries : MethodName := ⟨RX12, "lateEntries", "(I)I"⟩
abbrev cX12_look : ByteArray := prog_14_method_33_code
def yX12_look : MethodName := ⟨RX12, "look", "(II)I"⟩
abbrev cX12_ask : ByteArray := prog_14_method_34_code
def yX12_ask : MethodName := ⟨RX12, "ask", "(III)I"⟩
abbrev cX12_back : ByteArray := prog_14_method_35_code
def yX12_back : MethodName := ⟨RX12, "back", "(III)I"⟩
abbrev cX12_pledges : ByteArray := prog_14_method_36_code
def yX12_pledges : MethodName := ⟨RX12, "pledges", "(I)I"⟩
abbrev cX12_limit : ByteArray := prog_14_method_37_code
def yX12_limit : MethodName := ⟨RX12, "limit", "(I)I"⟩
abbrev cX12_interest : ByteArray := prog_14_method_38_code
def yX12_interest : MethodName := ⟨RX12, "interest", "(I)I"⟩
abbrev cX12_isBarred : ByteArray := prog_14_method_39_code
def yX12_isBarred : MethodName := ⟨RX12, "isBarred", "(I)Z"⟩
abbrev cX12_isStoodFor : ByteArray := prog_14_method_40_code
def yX12_isStoodFor : MethodName := ⟨RX12, "isStoodFor", "(I)Z"⟩
abbrev cX12_answerNow : ByteArray := prog_14_method_41_code
def yX12_answerNow : MethodName := ⟨RX12, "answerNow", "(I)I"⟩
abbrev cX12_askOf : ByteArray := prog_14_method_42_code
def yX12_askOf : MethodName := ⟨RX12, "askOf", "(II)I"⟩
abbrev cX12_answer : ByteArray := prog_14_method_43_code
def yX12_answer : MethodName := ⟨RX12, "answer", "(I)I"⟩
abbrev cX12_pay : ByteArray := prog_14_method_44_code
def yX12_pay : MethodName := ⟨RX12, "pay", "(II)I"⟩
abbrev cX12_loanOf : ByteArray := prog_14_method_45_code
def yX12_loanOf : MethodName := ⟨RX12, "loanOf", "(II)I"⟩
abbrev cX12_dues : ByteArray := prog_14_method_46_code
def yX12_dues : MethodName := ⟨RX12, "dues", "(II)I"⟩
abbrev cX12_isUnder : ByteArray := prog_14_method_47_code
def yX12_isUnder : MethodName := ⟨RX12, "isUnder", "(II)Z"⟩
abbrev cX12_taken : ByteArray := prog_14_method_48_code
def yX12_taken : MethodName := ⟨RX12, "taken", "(II)I"⟩
abbrev cX12_alike : ByteArray := prog_14_method_49_code
def yX12_alike : MethodName := ⟨RX12, "alike", "(II)I"⟩
abbrev cX12_feed : ByteArray := prog_14_method_50_code
def yX12_feed : MethodName := ⟨RX12, "feed", "(II)I"⟩
abbrev cX12_wipe : ByteArray := prog_14_method_51_code
def yX12_wipe : MethodName := ⟨RX12, "wipe", "()I"⟩
abbrev cX12_nextWord : ByteArray := prog_14_method_52_code
def yX12_nextWord : MethodName := ⟨RX12, "nextWord", "()V"⟩
abbrev cX12_next : ByteArray := prog_14_method_53_code
def yX12_next : MethodName := ⟨RX12, "next", "()V"⟩
abbrev cX12_puts : ByteArray := prog_14_method_54_code
def yX12_puts : MethodName := ⟨RX12, "puts", "(I)V"⟩
abbrev cX12_opensOne : ByteArray := prog_14_method_55_code
def yX12_opensOne : MethodName := ⟨RX12, "opensOne", "()Z"⟩
abbrev cX12_or : ByteArray := prog_14_method_56_code
def yX12_or : MethodName := ⟨RX12, "or", "()V"⟩
abbrev cX12_and : ByteArray := prog_14_method_57_code
def yX12_and : MethodName := ⟨RX12, "and", "()V"⟩
abbrev cX12_not : ByteArray := prog_14_method_58_code
def yX12_not : MethodName := ⟨RX12, "not", "()V"⟩
abbrev cX12_sum : ByteArray := prog_14_method_59_code
def yX12_sum : MethodName := ⟨RX12, "sum", "()V"⟩
abbrev cX12_term : ByteArray := prog_14_method_60_code
def yX12_term : MethodName := ⟨RX12, "term", "()V"⟩
abbrev cX12_one : ByteArray := prog_14_method_61_code
def yX12_one : MethodName := ⟨RX12, "one", "()V"⟩
abbrev cX12_closesOne : ByteArray := prog_14_method_62_code
def yX12_closesOne : MethodName := ⟨RX12, "closesOne", "()V"⟩
abbrev cX12_rule : ByteArray := prog_14_method_63_code
def yX12_rule : MethodName := ⟨RX12, "rule", "(II)I"⟩
abbrev cX12_two : ByteArray := prog_14_method_64_code
def yX12_two : MethodName := ⟨RX12, "two", "(III)I"⟩
abbrev cX12_worth : ByteArray := prog_14_method_65_code
def yX12_worth : MethodName := ⟨RX12, "worth", "(III)I"⟩
abbrev cX12_names : ByteArray := prog_14_method_66_code
def yX12_names : MethodName := ⟨RX12, "names", "(I)V"⟩
abbrev cX12_finds : ByteArray := prog_14_method_67_code
def yX12_finds : MethodName := ⟨RX12, "finds", "(II)I"⟩
abbrev cX12_isAsked : ByteArray := prog_14_method_68_code
def yX12_isAsked : MethodName := ⟨RX12, "isAsked", "(II)Z"⟩
abbrev cX12_says : ByteArray := prog_14_method_69_code
def yX12_says : MethodName := ⟨RX12, "says", "(II)I"⟩
abbrev cX12_why : ByteArray := prog_14_method_70_code
def yX12_why : MethodName := ⟨RX12, "why", "(II)I"⟩
abbrev cX12_takes : ByteArray := prog_14_method_71_code
def yX12_takes : MethodName := ⟨RX12, "takes", "(II)I"⟩
abbrev cX12_fails : ByteArray := prog_14_method_72_code
def yX12_fails : MethodName := ⟨RX12, "fails", "(I)I"⟩
abbrev cX12_passes : ByteArray := prog_14_method_73_code
def yX12_passes : MethodName := ⟨RX12, "passes", "()I"⟩
abbrev cX12_partsOut : ByteArray := prog_14_method_74_code
def yX12_partsOut : MethodName := ⟨RX12, "partsOut", "(J)J"⟩
abbrev cX12_bound : ByteArray := prog_14_method_75_code
def yX12_bound : MethodName := ⟨RX12, "bound", "(I)I"⟩
abbrev cX12_closesYear : ByteArray := prog_14_method_76_code
def yX12_closesYear : MethodName := ⟨RX12, "closesYear", "()V"⟩
abbrev cX12_given : ByteArray := prog_14_method_77_code
def yX12_given : MethodName := ⟨RX12, "given", "(II)V"⟩
abbrev cX12_closes : ByteArray := prog_14_method_78_code
def yX12_closes : MethodName := ⟨RX12, "closes", "()I"⟩
abbrev cX12_run : ByteArray := prog_14_method_79_code
def yX12_run : MethodName := ⟨RX12, "run", "(I)I"⟩
abbrev cX12_cost : ByteArray := prog_14_method_80_code
def yX12_cost : MethodName := ⟨RX12, "cost", "(I)I"⟩
abbrev cX12_isYear : ByteArray := prog_14_method_81_code
def yX12_isYear : MethodName := ⟨RX12, "isYear", "(I)Z"⟩
abbrev cX12_year : ByteArray := prog_14_method_82_code
def yX12_year : MethodName := ⟨RX12, "year", "(II)J"⟩
abbrev cX12_sharesNow : ByteArray := prog_14_method_83_code
def yX12_sharesNow : MethodName := ⟨RX12, "sharesNow", "(II)J"⟩
abbrev cX12_got : ByteArray := prog_14_method_84_code
def yX12_got : MethodName := ⟨RX12, "got", "(III)J"⟩
abbrev cX12_voided : ByteArray := prog_14_method_85_code
def yX12_voided : MethodName := ⟨RX12, "voided", "()I"⟩
abbrev cX12_runs : ByteArray := prog_14_method_86_code
def yX12_runs : MethodName := ⟨RX12, "runs", "(III)I"⟩
abbrev cX12_calm : ByteArray := prog_14_method_87_code
def yX12_calm : MethodName := ⟨RX12, "calm", "(I)I"⟩
abbrev cX12_mayBe : ByteArray := prog_14_method_88_code
def yX12_mayBe : MethodName := ⟨RX12, "mayBe", "(I)Z"⟩
abbrev cX12_foresees : ByteArray := prog_14_method_89_code
def yX12_foresees : MethodName := ⟨RX12, "foresees", "(I)V"⟩
abbrev cX12_lastsBy : ByteArray := prog_14_method_90_code
def yX12_lastsBy : MethodName := ⟨RX12, "lastsBy", "(IJI)Z"⟩
abbrev cX12_lasts : ByteArray := prog_14_method_91_code
def yX12_lasts : MethodName := ⟨RX12, "lasts", "(I)Z"⟩
abbrev cX12_many : ByteArray := prog_14_method_92_code
def yX12_many : MethodName := ⟨RX12, "many", "(I)I"⟩
abbrev cX12_sums : ByteArray := prog_14_method_93_code
def yX12_sums : MethodName := ⟨RX12, "sums", "(I)J"⟩
abbrev cX12_isBetter : ByteArray := prog_14_method_94_code
def yX12_isBetter : MethodName := ⟨RX12, "isBetter", "(II)Z"⟩
abbrev cX12_best : ByteArray := prog_14_method_95_code
def yX12_best : MethodName := ⟨RX12, "best", "(I)I"⟩
abbrev cX12_judge : ByteArray := prog_14_method_96_code
def yX12_judge : MethodName := ⟨RX12, "judge", "()I"⟩
abbrev cX12_failAll : ByteArray := prog_14_method_97_code
def yX12_failAll : MethodName := ⟨RX12, "failAll", "(I)I"⟩
abbrev cX12_fall : ByteArray := prog_14_method_98_code
def yX12_fall : MethodName := ⟨RX12, "fall", "(II)I"⟩
abbrev cX12_duty : ByteArray := prog_14_method_99_code
def yX12_duty : MethodName := ⟨RX12, "duty", "(I)I"⟩
abbrev cX12_counted : ByteArray := prog_14_method_100_code
def yX12_counted : MethodName := ⟨RX12, "counted", "(I)I"⟩
abbrev cX12_suspects : ByteArray := prog_14_method_101_code
def yX12_suspects : MethodName := ⟨RX12, "suspects", "()I"⟩
abbrev cX12_book : ByteArray := prog_14_method_102_code
def yX12_book : MethodName := ⟨RX12, "book", "(III)I"⟩
abbrev cX12_wrong : ByteArray := prog_14_method_103_code
def yX12_wrong : MethodName := ⟨RX12, "wrong", "()I"⟩
abbrev cX12_count : ByteArray := prog_14_method_104_code
def yX12_count : MethodName := ⟨RX12, "count", "(I)I"⟩
abbrev cX12_image : ByteArray := prog_14_method_105_code
def yX12_image : MethodName := ⟨RX12, "image", "()I"⟩
abbrev cX12_undo : ByteArray := prog_14_method_106_code
def yX12_undo : MethodName := ⟨RX12, "undo", "()I"⟩
abbrev cX12_lay : ByteArray := prog_14_method_107_code
def yX12_lay : MethodName := ⟨RX12, "lay", "(I)I"⟩
abbrev cX12_set : ByteArray := prog_14_method_108_code
def yX12_set : MethodName := ⟨RX12, "set", "(II)I"⟩
abbrev cX12_tear : ByteArray := prog_14_method_109_code
def yX12_tear : MethodName := ⟨RX12, "tear", "()I"⟩
abbrev cX12_row : ByteArray := prog_14_method_110_code
def yX12_row : MethodName := ⟨RX12, "row", "(I)I"⟩
abbrev cX12_copy : ByteArray := prog_14_method_111_code
def yX12_copy : MethodName := ⟨RX12, "copy", "(III)I"⟩
abbrev cX12_status : ByteArray := prog_14_method_112_code
def yX12_status : MethodName := ⟨RX12, "status", "(I)I"⟩
def RJx145de : String := "java/io/Serializable"
def TJx145de : u_T := fun k => match k with
  | _ => ("", "", "", false)
def tyJx145de : Nat → FieldType := fun k => match k with
  | _ => .int
def RJx9f9b0 : String := "java/lang/CharSequence"
def TJx9f9b0 : u_T := fun k => match k with
  | _ => ("", "", "", false)
def tyJx9f9b0 : Nat → FieldType := fun k => match k with
  | _ => .int
def RJxb160c : String := "java/lang/Comparable"
def TJxb160c : u_T := fun k => match k with
  | _ => ("", "", "", false)
def tyJxb160c : Nat → FieldType := fun k => match k with
  | _ => .int
def RJ6 : String := "java/lang/Integer"
def TJ6 : u_T := fun k => match k with
  | _ => ("", "", "", false)
def tyJ6 : Nat → FieldType := fun k => match k with
  | _ => .int
abbrev cJ6_bitCount_0f7a4 : ByteArray := prog_15_method_49_code
def yJ6_bitCount_0f7a4 : MethodName := ⟨RJ6, "bitCount", "(I)I"⟩
def RJ9 : String := "java/lang/Math"
def TJ9 : u_T := fun k => match k with
  | _ => ("", "", "", false)
def tyJ9 : Nat → FieldType := fun k => match k with
  | _ => .int
abbrev cJ9_max_7cf53 : ByteArray := prog_16_method_65_code
def yJ9_max_7cf53 : MethodName := ⟨RJ9, "max", "(II)I"⟩
abbrev cJ9_min_7cf53 : ByteArray := prog_16_method_69_code
def yJ9_min_7cf53 : MethodName := ⟨RJ9, "min", "(II)I"⟩
def RJ0 : String := "java/lang/String"
def TJ0 : u_T := fun k => match k with
  | _ => ("", "", "", false)
def tyJ0 : Nat → FieldType := fun k => match k with
  | _ => .int
abbrev cJ0_length_8abf5 : ByteArray := prog_17_method_54_code
def yJ0_length_8abf5 : MethodName := ⟨RJ0, "length", "()I"⟩
abbrev cJ0_charAt_5068e : ByteArray := prog_17_method_56_code
def yJ0_charAt_5068e : MethodName := ⟨RJ0, "charAt", "(I)C"⟩
abbrev cJ0_coder_7d493 : ByteArray := prog_17_method_152_code
def yJ0_coder_7d493 : MethodName := ⟨RJ0, "coder", "()B"⟩
abbrev cJ0_isLatin1_aae02 : ByteArray := prog_17_method_154_code
def yJ0_isLatin1_aae02 : MethodName := ⟨RJ0, "isLatin1", "()Z"⟩
abbrev cJ0_checkIndex_df160 : ByteArray := prog_17_method_155_code
def yJ0_checkIndex_df160 : MethodName := ⟨RJ0, "checkIndex", "(II)V"⟩
def RJ1 : String := "java/lang/StringLatin1"
def TJ1 : u_T := fun k => match k with
  | _ => ("", "", "", false)
def tyJ1 : Nat → FieldType := fun k => match k with
  | _ => .int
abbrev cJ1_charAt_3b067 : ByteArray := prog_18_method_2_code
def yJ1_charAt_3b067 : MethodName := ⟨RJ1, "charAt", "([BI)C"⟩
def RJ2 : String := "java/lang/StringUTF16"
def TJ2 : u_T := fun k => match k with
  | _ => ("", "", "", false)
def tyJ2 : Nat → FieldType := fun k => match k with
  | _ => .int
abbrev cJ2_getChar_3b067 : ByteArray := prog_19_method_5_code
def yJ2_getChar_3b067 : MethodName := ⟨RJ2, "getChar", "([BI)C"⟩
abbrev cJ2_length_9d52b : ByteArray := prog_19_method_6_code
def yJ2_length_9d52b : MethodName := ⟨RJ2, "length", "([B)I"⟩
abbrev cJ2_charAt_3b067 : ByteArray := prog_19_method_83_code
def yJ2_charAt_3b067 : MethodName := ⟨RJ2, "charAt", "([BI)C"⟩
abbrev cJ2_checkIndex_2214a : ByteArray := prog_19_method_91_code
def yJ2_checkIndex_2214a : MethodName := ⟨RJ2, "checkIndex", "(I[B)V"⟩
def RJ10 : String := "java/lang/System"
def TJ10 : u_T := fun k => match k with
  | _ => ("", "", "", false)
def tyJ10 : Nat → FieldType := fun k => match k with
  | _ => .int
def RJxfd54e : String := "java/lang/constant/Constable"
def TJxfd54e : u_T := fun k => match k with
  | _ => ("", "", "", false)
def tyJxfd54e : Nat → FieldType := fun k => match k with
  | _ => .int
def RJx3cf43 : String := "java/lang/constant/ConstantDesc"
def TJx3cf43 : u_T := fun k => match k with
  | _ => ("", "", "", false)
def tyJx3cf43 : Nat → FieldType := fun k => match k with
  | _ => .int
def RJ7 : String := "java/util/Arrays"
def TJ7 : u_T := fun k => match k with
  | _ => ("", "", "", false)
def tyJ7 : Nat → FieldType := fun k => match k with
  | _ => .int
abbrev cJ7_fill_d0a16 : ByteArray := prog_21_method_101_code
def yJ7_fill_d0a16 : MethodName := ⟨RJ7, "fill", "([JJ)V"⟩
abbrev cJ7_fill_53178 : ByteArray := prog_21_method_103_code
def yJ7_fill_53178 : MethodName := ⟨RJ7, "fill", "([II)V"⟩
def RJ3 : String := "jdk/internal/util/Preconditions"
def TJ3 : u_T := fun k => match k with
  | _ => ("", "", "", false)
def tyJ3 : Nat → FieldType := fun k => match k with
  | _ => .int
abbrev cJ3_checkIndex_8e157 : ByteArray := prog_22_method_11_code
def yJ3_checkIndex_8e157 : MethodName := ⟨RJ3, "checkIndex", "(IILjava/util/function/BiFunction;)I"⟩
def RL : String := "CommonBondLaw"
abbrev cL_law : ByteArray := code
def yL_law : MethodName := ⟨RL, "law", "([I)Z"⟩
abbrev vwCl : List vw_C := [(RX0, TX0, 10), (RX1, TX1, 5), (RX2, TX2, 9), (RX3, TX3, 2), (RX4, TX4, 16), (RX5, TX5, 9), (RX6, TX6, 11), (RX7, TX7, 8), (RX8, TX8, 15), (RX9, TX9, 8), (RX10, TX10, 8), (RX11, TX11, 10), (RX12, TX12, 28)]
end
section
theorem zz_test (a b : Nat) : a + b = b + a := by omega
end
